section
def pick4 {α : Type} (a b c d : α) (k : Nat) : α := match k with | 0 => a | 1 => b | 2 => c | _ => d
/-! sayings: what is asked of their nodes -/
def uN (x : Int32) : Int := if x.toInt = 0 ∨ x.toInt = 1 then 0 else if x.toInt = 3 ∨ x.toInt = 4 then 2 else 1
def opn (o : Nat → Int32) : Nat → Int
  | 0 => 1
  | i + 1 => opn o i + uN (o i) - 1
theorem opn_s (o : Nat → Int32) (i : Nat) : opn o (i + 1) = opn o i + uN (o i) - 1 := rfl
theorem uN_in (x : Int32) : 0 ≤ uN x ∧ uN x ≤ 2 := by
  unfold uN; split
  · omega
  · split <;> omega
def WFs (n : Nat) (o : Nat → Int32) : Prop := 1 ≤ n ∧ n ≤ 32 ∧ (∀ i, i < n → 0 ≤ (o i).toInt ∧ (o i).toInt ≤ 8) ∧ (∀ i, i < n → 1 ≤ opn o i) ∧ opn o n = 0
theorem opn_le {n : Nat} {o : Nat → Int32} (h : WFs n o) {i : Nat} (hi : i ≤ n) : opn o i ≤ (n : Int) - i := by
  obtain ⟨d, rfl⟩ : ∃ d, n = i + d := ⟨n - i, by omega⟩
  have key : ∀ d : Nat, opn o i ≤ opn o (i + d) + d := by
    intro d
    induction d with
    | zero => simp
    | succ d ih =>
      have h1 := opn_s o (i + d)
      have h2 := uN_in (o (i + d))
      show opn o i ≤ opn o (i + d + 1) + ((d + 1 : Nat) : Int)
      omega
  have h2 := key d
  have h3 := h.2.2.2.2
  omega
def SYg (E : EV) (ro : va_W) (a : Nat) : Prop := ∃ (nn : Nat) (o ar af : Nat → Int32) (tk dp nm : Int32) (na i0 i1 i2 i3 x y z : Nat), ro[i0]? = some (a, .inr (8, [.ref x, .ref y, .int tk, .int (nI na), .ref z, .int dp, .int nm])) ∧ ro[i1]? = some (x, .inl (E.2.1 1, nn, .inl o)) ∧ ro[i2]? = some (y, .inl (E.2.1 1, nn, .inl ar)) ∧ ro[i3]? = some (z, .inl (E.2.1 1, 2, .inl af)) ∧ WFs nn o ∧ na ≤ 2 ∧ ∀ k, k < na → ∃ j : Nat, j < 4 ∧ af k = nI j
theorem SYg.o {E : EV} {ro : va_W} {a : Nat} (h : SYg E ro a) : SYo ro a := by
  obtain ⟨nn, o, ar, af, tk, dp, nm, na, i0, i1, i2, i3, x, y, z, h0, -⟩ := h
  exact ⟨i0, _, h0⟩
/-- each of N places holds a saying, or nothing -/
def SYA (E : EV) (ro : va_W) (N : Nat) (f : Nat → Option Nat) : Prop := ∀ c, c < N → ∀ a, f c = some a → SYg E ro a
theorem SYA.none {E : EV} {ro : va_W} {N k : Nat} {f f' : Nat → Option Nat} (h : SYA E ro N f) (e : va_up f k none = f') : SYA E ro N f' := by
  intro c hc a ha
  rw [← e] at ha
  by_cases hk : c = k
  · rw [hk, vup_s] at ha; cases ha
  · rw [vup_n hk] at ha; exact h c hc a ha
theorem SYA.some {E : EV} {ro : va_W} {N k s : Nat} {f f' : Nat → Option Nat} (h : SYA E ro N f) (hs : SYg E ro s) (e : va_up f k (some s) = f') : SYA E ro N f' := by
  intro c hc a ha
  rw [← e] at ha
  by_cases hk : c = k
  · rw [hk, vup_s] at ha; cases ha; exact hs
  · rw [vup_n hk] at ha; exact h c hc a ha
theorem SYA.nil {E : EV} {ro : va_W} {N : Nat} : SYA E ro N (fun _ => Option.none) := fun c _ a h => by cases h
theorem SYg.more0 {E : EV} {ro new : va_W} {a : Nat} (h : SYg E ro a) : SYg E (new ++ ro) a := by
  obtain ⟨nn, o, ar, af, tk, dp, nm, na, i0, i1, i2, i3, x, y, z, h0, h1, h2, h3, h4⟩ := h
  have key : ∀ i q, ro[i]? = some q → (new ++ ro)[new.length + i]? = some q := by
    intro i q hq
    rw [List.getElem?_append_right (by omega), show new.length + i - new.length = i by omega]; exact hq
  exact ⟨nn, o, ar, af, tk, dp, nm, na, _, _, _, _, x, y, z, key _ _ h0, key _ _ h1, key _ _ h2, key _ _ h3, h4⟩
theorem SYA.more0 {E : EV} {ro new : va_W} {N : Nat} {f : Nat → Option Nat} (h : SYA E ro N f) : SYA E (new ++ ro) N f := fun c hc a ha => (h c hc a ha).more0
theorem uN_0 : uN 0 = 0 := rfl
theorem uN_1 : uN 1 = 0 := rfl
theorem uN_2 : uN 2 = 1 := rfl
theorem uN_3 : uN 3 = 2 := rfl
theorem uN_4 : uN 4 = 2 := rfl
theorem uN_5 : uN 5 = 1 := rfl
theorem uN_6 : uN 6 = 1 := rfl
theorem uN_7 : uN 7 = 1 := rfl
theorem uN_8 : uN 8 = 1 := rfl
/-! layers -/
def cN (cf : Nat → Int32) (w : Nat) : Nat := (cf w).toNatClampNeg
def bi (cf : Nat → Int32) (w c : Nat) : Nat := cb (cN cf w).testBit c
def pcs (cf : Nat → Int32) : Nat → Nat
  | 0 => 0
  | w + 1 => pcs cf w + bi cf w 4
theorem pcs_s (cf : Nat → Int32) (w : Nat) : pcs cf (w + 1) = pcs cf w + bi cf w 4 := rfl
theorem pcs_mono (cf : Nat → Int32) {a b : Nat} (h : a ≤ b) : pcs cf a ≤ pcs cf b := by
  induction b with
  | zero => rw [Nat.le_zero.mp h]; exact Nat.le_refl _
  | succ b ih =>
    rcases Nat.lt_or_ge a (b + 1) with q | q
    · exact Nat.le_trans (ih (by omega)) (Nat.le_add_right _ _)
    · rw [show a = b + 1 by omega]; exact Nat.le_refl _
theorem bi_s (cf : Nat → Int32) (w c : Nat) : bi cf w (c + 1) = bi cf w c + (if (cN cf w).testBit c then 1 else 0) := rfl
theorem bi_mono (cf : Nat → Int32) (w : Nat) {a b : Nat} (h : a ≤ b) : bi cf w a ≤ bi cf w b := by
  induction b with
  | zero => rw [Nat.le_zero.mp h]; exact Nat.le_refl _
  | succ b ih =>
    rcases Nat.lt_or_ge a (b + 1) with q | q
    · exact Nat.le_trans (ih (by omega)) (by rw [bi_s]; omega)
    · rw [show a = b + 1 by omega]; exact Nat.le_refl _
/-- places below n hold b bits -/
def CBx (n b : Nat) (cf : Nat → Int32) : Prop := ∀ v, v < n → cf v = nI (cN cf v) ∧ cN cf v < 2 ^ b
abbrev C16 (n : Nat) (cf : Nat → Int32) : Prop := CBx n 4 cf
theorem CBx.of {n b : Nat} {cf : Nat → Int32} (hb : b ≤ 4) (h : ∀ v, v < n → ∃ t : Nat, t < 2 ^ b ∧ cf v = nI t) : CBx n b cf := by
  intro v hv
  obtain ⟨t, h1, h2⟩ := h v hv
  have hp : 2 ^ b ≤ 2 ^ 4 := Nat.pow_le_pow_right (by omega) hb
  have e : cN cf v = t := by unfold cN; rw [h2]; exact nI_clamp (by omega)
  rw [e]; exact ⟨h2, h1⟩
theorem CBx.put {n b k t : Nat} {cf g : Nat → Int32} (h : CBx n b cf) (hb : b ≤ 4) (ht : t < 2 ^ b) (e : upd cf k (nI t) = g) : CBx n b g := by
  apply CBx.of hb
  intro v hv
  rw [← e]
  by_cases hk : v = k
  · rw [hk, pk_us]; exact ⟨t, ht, rfl⟩
  · rw [pk_un hk]; exact ⟨_, (h v hv).2, (h v hv).1⟩
theorem CBx.up {n b c : Nat} {cf : Nat → Int32} (h : CBx n b cf) (hc : b ≤ c) : CBx n c cf := fun v hv => ⟨(h v hv).1, Nat.lt_of_lt_of_le (h v hv).2 (Nat.pow_le_pow_right (by omega) hc)⟩
theorem CBx.zero {b : Nat} {cf : Nat → Int32} : CBx 0 b cf := fun v h => absurd h (Nat.not_lt_zero _)
theorem CBx.ext {i b t : Nat} {cf g : Nat → Int32} (h : CBx i b cf) (hb : b ≤ 4) (ht : t < 2 ^ b) (e : upd cf i (nI t) = g) : CBx (i + 1) b g := by
  apply CBx.of hb
  intro v hv
  rw [← e]
  by_cases hk : v = i
  · rw [hk, pk_us]; exact ⟨t, ht, rfl⟩
  · rw [pk_un hk]; exact ⟨_, (h v (by omega)).2, (h v (by omega)).1⟩
theorem CBx.lt {n b v : Nat} {cf : Nat → Int32} (h : CBx n b cf) (hb : b ≤ 4) (hv : v < n) : cN cf v < 16 := Nat.lt_of_lt_of_le (h v hv).2 (show 2 ^ b ≤ 2 ^ 4 from Nat.pow_le_pow_right (by decide) hb)
/-- no case behind the last: all bits lie below b -/
theorem CBx.bi {n b v : Nat} {cf : Nat → Int32} (h : CBx n b cf) (hb : b ≤ 4) (hv : v < n) : bi cf v 4 = bi cf v b := cb_small (h v hv).2 hb
theorem orsh {a j c : Nat} {y : Int32} (hc : c < 4) (ha : a < 2 ^ (c + 1)) (hj : j < 2) (e : nI j <<< (nI c &&& 31) = y) : ∃ t : Nat, t < 2 ^ (c + 1) ∧ nI a ||| y = nI t := by
  have h : ∀ c, c < 4 → ∀ a, a < 2 ^ (c + 1) → ∀ j, j < 2 → nI a ||| (nI j <<< (nI c &&& 31)) = nI (a ||| j * 2 ^ c) ∧ a ||| j * 2 ^ c < 2 ^ (c + 1) := by decide +kernel
  subst e
  exact ⟨_, (h c hc a ha j hj).2, (h c hc a ha j hj).1⟩
theorem bcf16 {t : Nat} (ht : t < 16) : bcf (nI t) = nI (cb t.testBit 4) := by
  rw [bcf_nI (by omega), cb_small (r := 4) (by omega) (by omega)]
theorem low16 : ∀ t, t < 16 → ∀ c, c < 4 → bcf (nI t &&& (1 <<< (nI c &&& 31) - 1)) = nI (cb t.testBit c) := by decide +kernel
/-- a layer as it was measured over n worlds: P pairs -/
def LYR (n : Nat) (cf ff : Nat → Int32) (Pp : Nat) : Prop := C16 n cf ∧ (∀ w, w < n → ff w = nI (pcs cf w)) ∧ Pp = pcs cf n
theorem pcs_le (cf : Nat → Int32) (n : Nat) : pcs cf n ≤ 4 * n := by
  induction n with
  | zero => exact Nat.le_refl _
  | succ n ih => have := cb_le (cN cf n).testBit 4; rw [pcs_s]; unfold bi; omega
/-- a case that can be: its pair lies among the pairs -/
theorem LYR.lt {n w c Pp : Nat} {cf ff : Nat → Int32} (h : LYR n cf ff Pp) (hw : w < n) (hc : c < 4) (hb : (cN cf w).testBit c = true) : pcs cf w + bi cf w c < Pp ∧ pcs cf (w + 1) ≤ Pp := by
  have h1 := pcs_mono cf (show w + 1 ≤ n by omega)
  have h2 := bi_mono cf w (show c + 1 ≤ 4 by omega)
  have h3 := bi_s cf w c
  rw [hb] at h3
  have h4 := pcs_s cf w
  have h5 := h.2.2
  simp at h3
  omega
theorem pcs_step {cf : Nat → Int32} {w : Nat} (h : cN cf w < 16) : nI (pcs cf w) + bcf (nI (cN cf w)) = nI (pcs cf (w + 1)) := by
  rw [bcf16 h, nI_add]; rfl
def FPx (i : Nat) (cf ff : Nat → Int32) : Prop := ∀ v, v < i → ff v = nI (pcs cf v)
theorem FPx.zero {cf ff : Nat → Int32} : FPx 0 cf ff := fun v h => absurd h (Nat.not_lt_zero _)
theorem FPx.ext {i : Nat} {cf ff g : Nat → Int32} (h : FPx i cf ff) (e : upd ff i (nI (pcs cf i)) = g) : FPx (i + 1) cf g := by
  intro v hv
  rw [← e]
  by_cases hk : v = i
  · rw [hk, pk_us]
  · rw [pk_un hk]; exact h v (by omega)
theorem lets_1 {cf : Nat → Int32} {w c : Nat} (h : cN cf w < 16) (hc : c < 4) (hb : bt (nI (cN cf w)) c = true) : (cN cf w).testBit c = true := by rw [← bt_nI (by omega)]; exact hb
theorem lets_0 {cf : Nat → Int32} {w c : Nat} (h : cN cf w < 16) (hc : c < 4) (hb : bt (nI (cN cf w)) c = false) : (cN cf w).testBit c = false := by rw [← bt_nI (by omega)]; exact hb
theorem pair_v {n w c Pp : Nat} {cf ff : Nat → Int32} {x y z v : Int32} (hL : LYR n cf ff Pp) (hw : w < n) (hc : c < 4) (ex : (1 : Int32) <<< (nI c &&& 31) = x) (ey : x - 1 = y) (ez : nI (cN cf w) &&& y = z) (ev : nI (pcs cf w) + bcf z = v) : v = nI (pcs cf w + bi cf w c) := by
  subst ev; subst ez; subst ey; subst ex
  rw [low16 _ (hL.1 w hw).2 _ hc, nI_add]; rfl
/-! sayings by value: nodes, ops, arguments, events of the afters, tokens, depth, names, afters -/
abbrev SVal : Type := Nat × (Nat → Int32) × (Nat → Int32) × (Nat → Int32) × Nat × Int32 × Int32 × Nat
abbrev sNa (S : SVal) : Nat := S.2.2.2.2.2.2.2
def SYv (E : EV) (ro : va_W) (a : Nat) (S : SVal) : Prop := ∃ i0 i1 i2 i3 x y z : Nat, ro[i0]? = some (a, .inr (8, [.ref x, .ref y, .int (nI S.2.2.2.2.1), .int (nI S.2.2.2.2.2.2.2), .ref z, .int S.2.2.2.2.2.1, .int S.2.2.2.2.2.2.1])) ∧ ro[i1]? = some (x, .inl (E.2.1 1, S.1, .inl S.2.1)) ∧ ro[i2]? = some (y, .inl (E.2.1 1, S.1, .inl S.2.2.1)) ∧ ro[i3]? = some (z, .inl (E.2.1 1, 2, .inl S.2.2.2.1)) ∧ WFs S.1 S.2.1 ∧ S.2.2.2.2.2.2.2 ≤ 2 ∧ ∀ k, k < S.2.2.2.2.2.2.2 → ∃ j : Nat, j < 4 ∧ S.2.2.2.1 k = nI j
theorem SYv.g {E : EV} {ro : va_W} {a : Nat} {S : SVal} (h : SYv E ro a S) : SYg E ro a := by
  obtain ⟨i0, i1, i2, i3, x, y, z, h0, h1, h2, h3, h4, h5, h6⟩ := h
  exact ⟨_, _, _, _, _, _, _, _, i0, i1, i2, i3, x, y, z, h0, h1, h2, h3, h4, h5, h6⟩
def SYT (E : EV) (ro : va_W) (N : Nat) (f : Nat → Option Nat) (T : Nat → Option SVal) : Prop := ∀ c, c < N → (f c = Option.none ∧ T c = Option.none) ∨ ∃ a S, f c = some a ∧ T c = some S ∧ SYv E ro a S
theorem SYT.a {E : EV} {ro : va_W} {N : Nat} {f : Nat → Option Nat} {T : Nat → Option SVal} (h : SYT E ro N f T) : SYA E ro N f := by
  intro c hc a ha
  rcases h c hc with ⟨h1, h2⟩ | ⟨b, S, h1, h2, h3⟩
  · rw [h1] at ha; cases ha
  · rw [h1] at ha; cases ha; exact h3.g
theorem SYT.at {E : EV} {ro : va_W} {N c a : Nat} {f : Nat → Option Nat} {T : Nat → Option SVal} (h : SYT E ro N f T) (hc : c < N) (ha : f c = some a) : ∃ S, T c = some S ∧ SYv E ro a S := by
  rcases h c hc with ⟨h1, h2⟩ | ⟨b, S, h1, h2, h3⟩
  · rw [h1] at ha; cases ha
  · rw [h1] at ha; cases ha; exact ⟨S, h2, h3⟩
theorem SYT.no {E : EV} {ro : va_W} {N c : Nat} {f : Nat → Option Nat} {T : Nat → Option SVal} (h : SYT E ro N f T) (hc : c < N) (ha : f c = Option.none) : T c = Option.none := by
  rcases h c hc with ⟨h1, h2⟩ | ⟨b, S, h1, h2, h3⟩
  · exact h2
  · rw [h1] at ha; cases ha
theorem SYT.nil {E : EV} {ro : va_W} {N : Nat} : SYT E ro N (fun _ => Option.none) (fun _ => Option.none) := fun c _ => Or.inl ⟨rfl, rfl⟩
theorem SYT.some {E : EV} {ro : va_W} {N k s : Nat} {S : SVal} {f f' : Nat → Option Nat} {T : Nat → Option SVal} (h : SYT E ro N f T) (hs : SYv E ro s S) (e : va_up f k (Option.some s) = f') : SYT E ro N f' (va_up T k (Option.some S)) := by
  intro c hc
  rw [← e]
  by_cases hk : c = k
  · rw [hk, vup_s, vup_s]; exact Or.inr ⟨s, S, rfl, rfl, hs⟩
  · rw [vup_n hk, vup_n hk]; exact h c hc
theorem SYT.none {E : EV} {ro : va_W} {N k : Nat} {f f' : Nat → Option Nat} {T : Nat → Option SVal} (h : SYT E ro N f T) (e : va_up f k Option.none = f') : SYT E ro N f' (va_up T k Option.none) := by
  intro c hc
  rw [← e]
  by_cases hk : c = k
  · rw [hk, vup_s, vup_s]; exact Or.inl ⟨rfl, rfl⟩
  · rw [vup_n hk, vup_n hk]; exact h c hc
def sv0 : SVal := (1, fun _ => 0, fun _ => 0, fun _ => 0, 0, 0, 0, 0)
theorem SYT.v {E : EV} {ro : va_W} {N c a : Nat} {f : Nat → Option Nat} {T : Nat → Option SVal} (h : SYT E ro N f T) (hc : c < N) (ha : f c = Option.some a) : SYv E ro a ((T c).getD sv0) := by
  obtain ⟨S, h1, h2⟩ := h.at hc ha
  rw [h1]; exact h2
theorem SYT.vs {E : EV} {ro : va_W} {N c a : Nat} {f : Nat → Option Nat} {T : Nat → Option SVal} (h : SYT E ro N f T) (hc : c < N) (ha : f c = Option.some a) : T c = Option.some ((T c).getD sv0) := by
  obtain ⟨S, h1, h2⟩ := h.at hc ha
  rw [h1]; rfl
theorem SYv.more0 {E : EV} {ro new : va_W} {a : Nat} {S : SVal} (h : SYv E ro a S) : SYv E (new ++ ro) a S := by
  obtain ⟨i0, i1, i2, i3, x, y, z, h0, h1, h2, h3, h4⟩ := h
  have key : ∀ i q, ro[i]? = Option.some q → (new ++ ro)[new.length + i]? = Option.some q := by
    intro i q hq
    rw [List.getElem?_append_right (by omega), show new.length + i - new.length = i by omega]; exact hq
  exact ⟨_, _, _, _, x, y, z, key _ _ h0, key _ _ h1, key _ _ h2, key _ _ h3, h4⟩
theorem SYT.more0 {E : EV} {ro new : va_W} {N : Nat} {f : Nat → Option Nat} {T : Nat → Option SVal} (h : SYT E ro N f T) : SYT E (new ++ ro) N f T := fun c hc => (h c hc).imp id (fun ⟨a, S, h1, h2, h3⟩ => ⟨a, S, h1, h2, h3.more0⟩)
/-- an event that is only read -/
def EVr (E : EV) (ro : va_W) (e cs rc : Nat) (T : Nat → Option SVal) (fb fc fd : Nat → Int32) : Prop := ∃ (i0 i1 i2 i3 i4 a b c d : Nat) (fi : Nat → Option Nat), ro[i0]? = some (e, .inr (0, [.int (nI cs), .int (nI rc), .ref a, .ref b, .ref c, .ref d])) ∧ ro[i1]? = some (a, .inl (E.2.1 7, 4, .inr (.inr (.inr (.inr fi))))) ∧ ro[i2]? = some (b, .inl (E.2.1 1, 4, .inl fb)) ∧ ro[i3]? = some (c, .inl (E.2.1 1, 4, .inl fc)) ∧ ro[i4]? = some (d, .inl (E.2.1 1, 16, .inl fd)) ∧ cs ≤ 4 ∧ rc ≤ 3 ∧ SYT E ro 4 fi T
/-- the four events -/
def EVA (E : EV) (ro : va_W) (je : Nat) (vc vr : Nat → Nat) (vi : Nat → Nat → Option SVal) (vs vn vp : Nat → Nat → Int32) : Prop := ∃ (i : Nat) (fe : Nat → Option Nat), ro[i]? = some (je, .inl (E.2.1 4, 4, .inr (.inr (.inr (.inr fe))))) ∧ ∀ j, j < 4 → ∃ e, fe j = some e ∧ EVr E ro e (vc j) (vr j) (vi j) (vs j) (vn j) (vp j)
theorem eva_mk {E : EV} {ro : va_W} {je i e0 e1 e2 e3 c0 c1 c2 c3 r0 r1 r2 r3 : Nat} {fe : Nat → Option Nat} {i0 i1 i2 i3 : Nat → Option SVal} {s0 s1 s2 s3 n0 n1 n2 n3 p0 p1 p2 p3 : Nat → Int32} (h : ro[i]? = some (je, .inl (E.2.1 4, 4, .inr (.inr (.inr (.inr fe)))))) (k0 : fe 0 = some e0) (k1 : fe 1 = some e1) (k2 : fe 2 = some e2) (k3 : fe 3 = some e3) (h0 : EVr E ro e0 c0 r0 i0 s0 n0 p0) (h1 : EVr E ro e1 c1 r1 i1 s1 n1 p1) (h2 : EVr E ro e2 c2 r2 i2 s2 n2 p2) (h3 : EVr E ro e3 c3 r3 i3 s3 n3 p3) : EVA E ro je (pick4 c0 c1 c2 c3) (pick4 r0 r1 r2 r3) (pick4 i0 i1 i2 i3) (pick4 s0 s1 s2 s3) (pick4 n0 n1 n2 n3) (pick4 p0 p1 p2 p3) := by
  refine ⟨i, fe, h, fun j hj => ?_⟩
  rcases (show j = 0 ∨ j = 1 ∨ j = 2 ∨ j = 3 by omega) with rfl | rfl | rfl | rfl
  · exact ⟨e0, k0, h0⟩
  · exact ⟨e1, k1, h1⟩
  · exact ⟨e2, k2, h2⟩
  · exact ⟨e3, k3, h3⟩
/-- which sayings can be an if -/
def PLN (T : Nat → Option Nat) (k : Int32) : Prop := 0 ≤ k.toInt ∧ k.toInt ≤ 7 ∧ T k.toNatClampNeg = some 0
def sNs (T : Nat → Option SVal) : Nat → Option Nat := fun k => (T k).map sNa
theorem PLN.mk {T : Nat → Option SVal} {j : Nat} {S : SVal} (hj : j ≤ 7) (h : T j = some S) (h0 : S.2.2.2.2.2.2.2 = 0) : PLN (sNs T) (nI j) := by
  refine ⟨by rw [nI_toInt (by omega)]; omega, by rw [nI_toInt (by omega)]; omega, ?_⟩
  rw [nI_clamp (by omega)]
  unfold sNs
  rw [h]
  show some S.2.2.2.2.2.2.2 = some 0
  rw [h0]
theorem PLN.no2 {T : Nat → Option SVal} {j : Nat} (hj : j ≤ 7) (h : T j = none) : ¬ PLN (sNs T) (nI j) := by
  rintro ⟨_, _, q⟩
  rw [nI_clamp (by omega)] at q
  unfold sNs at q
  rw [h] at q
  cases q
theorem PLN.no3 {T : Nat → Option SVal} {j : Nat} {S : SVal} (hj : j ≤ 7) (h : T j = some S) (h0 : S.2.2.2.2.2.2.2 ≠ 0) : ¬ PLN (sNs T) (nI j) := by
  rintro ⟨_, _, q⟩
  rw [nI_clamp (by omega)] at q
  unfold sNs at q
  rw [h] at q
  have q2 : some (sNa S) = some 0 := q
  exact h0 (Option.some.inj q2)
theorem PLN.tno {E : EV} {ro : va_W} {f : Nat → Option Nat} {T : Nat → Option SVal} {k : Int32} (h : SYT E ro 8 f T) (h9 : k.toInt < 0 ∨ 7 < k.toInt ∨ f k.toNatClampNeg = none) : ¬ PLN (sNs T) k := by
  rintro ⟨h1, h2, q⟩
  rcases h9 with z | z | z
  · omega
  · omega
  · obtain ⟨j, e1, e2⟩ := nI_ex (x := k) (n := 7) h1 h2
    rw [e1, nI_clamp (by omega)] at q z
    unfold sNs at q
    rw [SYT.no h (by omega) z] at q
    cases q
/-- a case of an event -/
def CSE (cs : Nat → Nat) (e i : Int32) : Prop := 0 ≤ e.toInt ∧ e.toInt ≤ 3 ∧ 0 ≤ i.toInt ∧ i.toInt < (cs e.toNatClampNeg : Nat)
/-! events: what their rows become -/
def EZ (i : Nat) (q : Nat → Option Nat) (f g : Nat → Int32) : Prop := ∀ c, c < i → q c = none ∧ f c = 0 ∧ g c = 0
theorem EZ.nil {q : Nat → Option Nat} {f g : Nat → Int32} : EZ 0 q f g := fun c h => absurd h (by omega)
theorem EZ.ext {i : Nat} {q q' : Nat → Option Nat} {f g f' g' : Nat → Int32} (h : EZ i q f g) (e1 : va_up q i none = q') (e2 : upd f i 0 = f') (e3 : upd g i 0 = g') : EZ (i + 1) q' f' g' := by
  intro c hc
  by_cases k : c = i
  · rw [k, ← e1, ← e2, ← e3, vup_s, pk_us, pk_us]; exact ⟨rfl, rfl, rfl⟩
  · rw [← e1, ← e2, ← e3, vup_n k, pk_un k, pk_un k]; exact h c (by omega)
/-- a word aloud: who holds what, the first i knowers -/
def SAx (i : Nat) (f : Nat → Int32) : Prop := ∀ c, c < 16 → f c = if c % 4 = 0 ∧ c / 4 < i then 1 else 0
theorem SAx.nil {f : Nat → Int32} (h : Z0x 16 f) : SAx 0 f := fun c hc => by rw [h c hc, if_neg (by omega)]
theorem SAx.ext {i : Nat} {f f' : Nat → Int32} (h : SAx i f) (hi : i < 4) (e : upd f (i * 4 + 0) (hbt (f (i * 4 + 0)) 0 1) = f') : SAx (i + 1) f' := by
  intro c hc
  have h0 := h (i * 4 + 0) (by omega)
  rw [if_neg (by omega)] at h0
  rw [h0, show hbt 0 0 1 = 1 from rfl] at e
  rw [← e]
  by_cases q : c = i * 4 + 0
  · rw [q, pk_us, if_pos (by omega)]
  · rw [pk_un q, h c hc]
    by_cases q2 : c % 4 = 0 ∧ c / 4 < i
    · rw [if_pos q2, if_pos (by omega)]
    · rw [if_neg q2, if_neg (by omega)]
/-- a whisper, a lie -/
def SPx (gr : Int32) (i : Nat) (f : Nat → Int32) : Prop := ∀ c, c < 16 → f c = if c / 4 < i then (if c % 4 = 0 then (if bt gr (c / 4) = true then 1 else 2) else if c % 4 = 1 then 2 else 0) else 0
theorem SPx.nil {gr : Int32} {f : Nat → Int32} (h : Z0x 16 f) : SPx gr 0 f := fun c hc => by rw [h c hc, if_neg (by omega)]
theorem SPx.ext {gr v : Int32} {i : Nat} {f f' f'' : Nat → Int32} (h : SPx gr i f) (hi : i < 4) (hv : (bt gr i = true ∧ v = 0) ∨ (bt gr i = false ∧ v = 1)) (e : upd f (i * 4 + 0) (hbt (f (i * 4 + 0)) v 1) = f') (e2 : upd f' (i * 4 + 1) (hbt (f' (i * 4 + 1)) 1 1) = f'') : SPx gr (i + 1) f'' := by
  intro c hc
  have h0 := h (i * 4 + 0) (by omega)
  rw [if_neg (by omega)] at h0
  have h1 := h (i * 4 + 1) (by omega)
  rw [if_neg (by omega)] at h1
  have h2 : f' (i * 4 + 1) = 0 := by rw [← e, pk_un (by omega)]; exact h1
  rw [h2, show hbt 0 1 1 = 2 from rfl] at e2
  rw [h0] at e
  rw [← e2]
  by_cases q : c = i * 4 + 1
  · rw [q, pk_us, if_pos (by omega), if_neg (by omega), if_pos (by omega)]
  · rw [pk_un q, ← e]
    by_cases q1 : c = i * 4 + 0
    · rw [q1, pk_us, if_pos (by omega), if_pos (by omega), show (i * 4 + 0) / 4 = i by omega]
      rcases hv with ⟨z1, z2⟩ | ⟨z1, z2⟩
      · rw [z2, if_pos z1]; rfl
      · rw [z2, if_neg (by rw [z1]; decide)]; rfl
    · rw [pk_un q1, h c hc]
      by_cases q2 : c / 4 < i
      · rw [if_pos q2, if_pos (show c / 4 < i + 1 by omega)]
      · rw [if_neg q2]
        by_cases q3 : c / 4 < i + 1
        · rw [if_pos q3, if_neg (by omega), if_neg (by omega)]
        · rw [if_neg q3]
/-! a growing set comes to rest -/
theorem cb_gt {f g : Nat → Bool} {N : Nat} (hm : ∀ v, f v = true → g v = true) (hb : ∀ v, g v = true → v < N) (hne : ¬ ∀ v, g v = f v) : cb f N < cb g N := by
  refine cb_sub_lt N (fun i _ => hm i) ?_
  apply Classical.byContradiction
  intro hno
  apply hne
  intro v
  by_cases hg : g v = true
  · by_cases hf : f v = true
    · rw [hg, hf]
    · exact absurd ⟨v, hb v hg, by simpa using hf, hg⟩ hno
  · by_cases hf : f v = true
    · exact absurd (hm v hf) hg
    · rw [Bool.not_eq_true] at hg hf; rw [hg, hf]
theorem rest_at {A : Nat → Nat → Bool} {N : Nat} (hm : ∀ s v, A s v = true → A (s + 1) v = true) (hb : ∀ s v, A s v = true → v < N) (hs : ∀ s, (∀ v, A (s + 1) v = A s v) → ∀ v, A (s + 2) v = A (s + 1) v) (s : Nat) (h : N ≤ s) : ∀ v, A (s + 1) v = A s v := by
  have key : ∀ s, (∀ v, A (s + 1) v = A s v) ∨ s + 1 ≤ cb (A (s + 1)) N := by
    intro s
    induction s with
    | zero =>
      by_cases q : ∀ v, A 1 v = A 0 v
      · exact Or.inl q
      · have h1 : cb (A 0) N < cb (A (0 + 1)) N := cb_gt (hm 0) (hb 1) q
        exact Or.inr (by omega)
    | succ s ih =>
      by_cases q : ∀ v, A (s + 2) v = A (s + 1) v
      · exact Or.inl q
      · rcases ih with ih | ih
        · exact absurd (hs s ih) q
        · have h1 : cb (A (s + 1)) N < cb (A (s + 1 + 1)) N := cb_gt (hm (s + 1)) (hb (s + 2)) q
          exact Or.inr (by omega)
  obtain ⟨d, rfl⟩ : ∃ d, s = N + d := ⟨s - N, by omega⟩
  induction d with
  | zero =>
    rcases key N with h1 | h1
    · exact h1
    · have h2 := cb_le (A (N + 1)) N
      omega
  | succ d ih => exact hs (N + d) (ih (by omega))
theorem nx_lt {m : AM} (hw : WFm m) {gr : Int32} {u v : Nat} (h : nx m gr u v = true) : v < m.1 := by
  obtain ⟨k, hk, h2⟩ := anyN_iff.mp h
  rw [Bool.and_eq_true] at h2
  exact hw k u v h2.2
/-! to which worlds steps lead -/
theorem fw_s (m : AM) (gr : Int32) (w s v : Nat) : fw m gr w (s + 1) v = (fw m gr w s v || anyN (fun u => fw m gr w s u && nx m gr u v) m.1) := rfl
theorem fw_mono {m : AM} {gr : Int32} {w s v : Nat} (h : fw m gr w s v = true) : fw m gr w (s + 1) v = true := by rw [fw_s, h, Bool.true_or]
theorem fw_lt {m : AM} (hw : WFm m) {gr : Int32} {w : Nat} : ∀ s v, fw m gr w s v = true → v < m.1
  | 0, v, h => nx_lt hw h
  | s + 1, v, h => by
    rw [fw_s, Bool.or_eq_true] at h
    rcases h with h | h
    · exact fw_lt hw s v h
    · obtain ⟨u, hu, h2⟩ := anyN_iff.mp h
      rw [Bool.and_eq_true] at h2
      exact nx_lt hw h2.2
theorem fw_rest {m : AM} (hw : WFm m) {gr : Int32} {w : Nat} (s : Nat) (h : m.1 ≤ s) : ∀ v, fw m gr w (s + 1) v = fw m gr w s v :=
  rest_at (A := fw m gr w) (fun s v h => fw_mono h) (fun s v h => fw_lt hw s v h) (fun s h v => by
    have e : fw m gr w (s + 1) = fw m gr w s := funext h
    show (fw m gr w (s + 1) v || anyN (fun u => fw m gr w (s + 1) u && nx m gr u v) m.1) = fw m gr w (s + 1) v
    rw [e]; exact h v) s h
theorem fw_up {m : AM} {gr : Int32} {w s v : Nat} (h : fw m gr w s v = true) : ∀ d, fw m gr w (s + d) v = true
  | 0 => h
  | d + 1 => fw_mono (fw_up h d)
def Rc (m : AM) (gr : Int32) (w : Nat) : Nat → Bool := fw m gr w m.1
theorem Rc_nx {m : AM} {gr : Int32} {w v : Nat} (h : nx m gr w v = true) : Rc m gr w v = true := by
  have h1 := fw_up (m := m) (gr := gr) (w := w) (s := 0) (v := v) h m.1
  rw [Nat.zero_add] at h1
  exact h1
theorem Rc_cl {m : AM} (hw : WFm m) {gr : Int32} {w u v : Nat} (hu : u < m.1) (h : Rc m gr w u = true) (h2 : nx m gr u v = true) : Rc m gr w v = true := by
  have e := fw_rest (gr := gr) (w := w) hw m.1 (Nat.le_refl _) v
  show fw m gr w m.1 v = true
  rw [← e, fw_s, anyN_iff.mpr ⟨u, hu, (by rw [Bool.and_eq_true]; exact ⟨h, h2⟩)⟩, Bool.or_true]
theorem Rc_lt {m : AM} (hw : WFm m) {gr : Int32} {w v : Nat} (h : Rc m gr w v = true) : v < m.1 := fw_lt hw _ _ h
theorem Rc_in {m : AM} {gr : Int32} {w : Nat} {Q : Nat → Prop} (h0 : ∀ v, nx m gr w v = true → Q v) (h1 : ∀ u v, u < m.1 → Q u → nx m gr u v = true → Q v) : ∀ s v, fw m gr w s v = true → Q v
  | 0, v, h => h0 v h
  | s + 1, v, h => by
    rw [fw_s, Bool.or_eq_true] at h
    rcases h with h | h
    · exact Rc_in h0 h1 s v h
    · obtain ⟨u, hu, h2⟩ := anyN_iff.mp h
      rw [Bool.and_eq_true] at h2
      exact h1 u v hu (Rc_in h0 h1 s u h2.1) h2.2
theorem Rc_tr {m : AM} (hw : WFm m) {gr : Int32} {w u v : Nat} (hu : u < m.1) (h : Rc m gr w u = true) (h2 : Rc m gr u v = true) : Rc m gr w v = true :=
  Rc_in (Q := fun x => Rc m gr w x = true) (fun x hx => Rc_cl hw hu h hx) (fun y x hy q hx => Rc_cl hw hy q hx) m.1 v h2
/-! from which worlds steps lead to a set -/
theorem ld_s (m : AM) (gr : Int32) (T : Nat → Bool) (s w : Nat) : ld m gr T (s + 1) w = (ld m gr T s w || (decide (w < m.1) && anyN (fun v => nx m gr w v && (T v || ld m gr T s v)) 32)) := rfl
theorem ld_lt {m : AM} {gr : Int32} {T : Nat → Bool} : ∀ s v, ld m gr T s v = true → v < m.1
  | 0, v, h => absurd h Bool.false_ne_true
  | s + 1, v, h => by
    rw [ld_s, Bool.or_eq_true] at h
    rcases h with h | h
    · exact ld_lt s v h
    · rw [Bool.and_eq_true, decide_eq_true_eq] at h
      exact h.1
theorem ld_rest {m : AM} {gr : Int32} {T : Nat → Bool} (s : Nat) (h : m.1 ≤ s) : ∀ v, ld m gr T (s + 1) v = ld m gr T s v :=
  rest_at (A := ld m gr T) (fun s v h => by rw [ld_s, h, Bool.true_or]) (fun s v h => ld_lt s v h) (fun s h v => by
    have e : ld m gr T (s + 1) = ld m gr T s := funext h
    show (ld m gr T (s + 1) v || (decide (v < m.1) && anyN (fun u => nx m gr v u && (T u || ld m gr T (s + 1) u)) 32)) = ld m gr T (s + 1) v
    rw [e]; exact h v) s h
theorem ld_in {m : AM} (hw : WFm m) {gr : Int32} {T : Nat → Bool} : ∀ s w, ld m gr T s w = true → ∃ v, Rc m gr w v = true ∧ T v = true
  | 0, w, h => absurd h Bool.false_ne_true
  | s + 1, w, h => by
    rw [ld_s, Bool.or_eq_true] at h
    rcases h with h | h
    · exact ld_in hw s w h
    · rw [Bool.and_eq_true] at h
      obtain ⟨v, hv, h2⟩ := anyN_iff.mp h.2
      rw [Bool.and_eq_true, Bool.or_eq_true] at h2
      rcases h2.2 with q | q
      · exact ⟨v, Rc_nx h2.1, q⟩
      · obtain ⟨x, a, b⟩ := ld_in hw s v q
        exact ⟨x, Rc_tr hw (nx_lt hw h2.1) (Rc_nx h2.1) a, b⟩
theorem ld_Rc {m : AM} (hw : WFm m) (hn : m.1 ≤ 32) {gr : Int32} {T : Nat → Bool} {s w : Nat} (hs : m.1 ≤ s) (hw2 : w < m.1) : ld m gr T s w = true ↔ ∃ v, Rc m gr w v = true ∧ T v = true := by
  constructor
  · exact ld_in hw s w
  · rintro ⟨v, h1, h2⟩
    have cl : ∀ u x, u < m.1 → nx m gr u x = true → (T x = true ∨ ld m gr T s x = true) → ld m gr T s u = true := by
      intro u x hu hx hT
      rw [← ld_rest s hs u, ld_s, decide_eq_true hu, Bool.true_and, Bool.or_eq_true]
      right
      refine anyN_iff.mpr ⟨x, Nat.lt_of_lt_of_le (nx_lt hw hx) hn, ?_⟩
      rw [Bool.and_eq_true, Bool.or_eq_true]
      exact ⟨hx, hT⟩
    exact Rc_in (Q := fun x => (T x = true ∨ ld m gr T s x = true) → ld m gr T s w = true) (fun x hx hT => cl w x hw2 hx hT) (fun u x hu q hx hT => q (Or.inr (cl u x hu hx hT))) m.1 v h1 (Or.inl h2)
/-! sayings of worlds: what a node says -/
def vCom (m : AM) (gr : Int32) (P : Nat → Bool) : Nat → Bool := fun w => decide (w < m.1) && !anyN (fun v => Rc m gr w v && !P v) 32
def vEv (m : AM) (gr : Int32) (P : Nat → Bool) : Nat → Bool := fun w => decide (w < m.1) && !anyN (fun v => nx m gr w v && !P v) 32
def vWh (m : AM) (gr : Int32) (P : Nat → Bool) : Nat → Bool := fun w => decide (w < m.1) && !(anyN (fun v => nx m gr w v && P v) 32 && anyN (fun v => nx m gr w v && !P v) 32)
theorem bool_iff {a b : Bool} (h : a = true ↔ b = true) : a = b := by
  by_cases q : a = true
  · rw [q, h.mp q]
  · have q2 : ¬ b = true := fun z => q (h.mpr z)
    rw [Bool.not_eq_true] at q q2; rw [q, q2]
theorem vcom_c {m : AM} (hw : WFm m) (hn : m.1 ≤ 24) {gr : Int32} {P : Nat → Bool} (w : Nat) : (decide (w < m.1) && !ld m gr (vNot m P) 24 w) = vCom m gr P w := by
  unfold vCom
  by_cases hl : w < m.1
  · rw [decide_eq_true hl, Bool.true_and, Bool.true_and]
    congr 1
    apply bool_iff
    rw [ld_Rc hw (by omega) hn hl, anyN_iff]
    constructor
    · rintro ⟨v, h1, h2⟩
      have h3 := Rc_lt hw h1
      unfold vNot at h2
      rw [decide_eq_true h3, Bool.true_and] at h2
      exact ⟨v, by omega, by rw [h1, h2]; rfl⟩
    · rintro ⟨v, hv, h1⟩
      rw [Bool.and_eq_true] at h1
      have h3 := Rc_lt hw h1.1
      exact ⟨v, h1.1, by unfold vNot; rw [decide_eq_true h3, Bool.true_and]; exact h1.2⟩
  · rw [decide_eq_false hl, Bool.false_and, Bool.false_and]
theorem ld_1 (m : AM) (gr : Int32) (T : Nat → Bool) (w : Nat) : ld m gr T 1 w = (decide (w < m.1) && anyN (fun v => nx m gr w v && T v) 32) := by
  show (false || (decide (w < m.1) && anyN (fun v => nx m gr w v && (T v || false)) 32)) = _
  rw [Bool.false_or]
  congr 1
  exact anyN_cg (fun v _ => by rw [Bool.or_false])
theorem nx_not {m : AM} (hw : WFm m) {gr : Int32} {P : Nat → Bool} {w : Nat} : anyN (fun v => nx m gr w v && vNot m P v) 32 = anyN (fun v => nx m gr w v && !P v) 32 := by
  refine anyN_cg (fun v _ => ?_)
  by_cases h : nx m gr w v = true
  · unfold vNot; rw [decide_eq_true (nx_lt hw h), Bool.true_and]
  · rw [Bool.not_eq_true] at h; rw [h, Bool.false_and, Bool.false_and]
theorem vev_c {m : AM} (hw : WFm m) {gr : Int32} {P : Nat → Bool} (w : Nat) : (decide (w < m.1) && !ld m gr (vNot m P) 1 w) = vEv m gr P w := by
  unfold vEv
  rw [ld_1, nx_not hw]
  by_cases hl : w < m.1
  · rw [decide_eq_true hl, Bool.true_and, Bool.true_and, Bool.true_and]
  · rw [decide_eq_false hl, Bool.false_and, Bool.false_and]
theorem vwh_c {m : AM} (hw : WFm m) {gr : Int32} {P : Nat → Bool} (w : Nat) : (decide (w < m.1) && !(ld m gr P 1 w && ld m gr (vNot m P) 1 w)) = vWh m gr P w := by
  unfold vWh
  rw [ld_1, ld_1, nx_not hw]
  by_cases hl : w < m.1
  · simp [hl]
  · rw [decide_eq_false hl, Bool.false_and, Bool.false_and]
def evC (m : AM) (op arg : Int32) (P Q : Nat → Bool) : Nat → Bool := if op = 0 then vF m arg else if op = 1 then vAll m else if op = 2 then vNot m P else if op = 3 then (fun w => P w && Q w) else if op = 4 then (fun w => P w || Q w) else if op = 5 then vWh m arg P else if op = 6 then vEv m arg P else if op = 7 then vCom m arg P else vTog m arg P
def lastN (o : Nat → Int32) (i : Nat) : Nat := (opn o i - 1).toNat
/-- the row of sets when the last d nodes are taken -/
def vSt (m : AM) (nn : Nat) (o ar : Nat → Int32) : Nat → Nat → Nat → Bool
  | 0 => fun _ _ => false
  | d + 1 => va_up (vSt m nn o ar d) (lastN o (nn - 1 - d)) (evC m (o (nn - 1 - d)) (ar (nn - 1 - d)) (vSt m nn o ar d (lastN o (nn - 1 - d))) (vSt m nn o ar d (lastN o (nn - 1 - d) + 1)))
/-- where a saying without after is true -/
def vPl (m : AM) (nn : Nat) (o ar : Nat → Int32) : Nat → Bool := vSt m nn o ar nn 0
theorem st_0 {m : AM} {nn : Nat} {o ar f : Nat → Int32} (h0 : opn o nn = 0) : ∀ j : Nat, (j : Int) < opn o nn → BS (f j) (vSt m nn o ar (nn - nn) j) := fun j h => absurd h (by omega)
theorem st_s {m : AM} {nn i l : Nat} {o ar f f' : Nat → Int32} {r : Int32} (h : ∀ j : Nat, (j : Int) < opn o (i + 1) → BS (f j) (vSt m nn o ar (nn - (i + 1)) j)) (hi : i < nn) (hl : (l : Int) = opn o i - 1) (hr : BS r (evC m (o i) (ar i) (vSt m nn o ar (nn - (i + 1)) l) (vSt m nn o ar (nn - (i + 1)) (l + 1)))) (e : upd f l r = f') : ∀ j : Nat, (j : Int) < opn o i → BS (f' j) (vSt m nn o ar (nn - i) j) := by
  intro j hj
  have e1 : nn - i = (nn - (i + 1)) + 1 := by omega
  have e2 : nn - 1 - (nn - (i + 1)) = i := by omega
  have e3 : lastN o i = l := by unfold lastN; omega
  have e4 : vSt m nn o ar (nn - i) = va_up (vSt m nn o ar (nn - (i + 1))) l (evC m (o i) (ar i) (vSt m nn o ar (nn - (i + 1)) l) (vSt m nn o ar (nn - (i + 1)) (l + 1))) := by
    rw [e1]
    show va_up (vSt m nn o ar (nn - (i + 1))) (lastN o (nn - 1 - (nn - (i + 1)))) _ = _
    rw [e2, e3]
  rw [e4, ← e]
  by_cases q : j = l
  · rw [q, pk_us, vup_s]; exact hr
  · rw [pk_un q, vup_n q]
    have h1 := opn_s o i
    have h2 := uN_in (o i)
    exact h j (by omega)
end
section
theorem EZ.t {E : EV} {ro : va_W} {q : Nat → Option Nat} {f g : Nat → Int32} {T : Nat → Option SVal} (h : SYT E ro 4 q T) (hz : EZ 4 q f g) : ∀ z, z < 4 → T z = none := fun z hz4 => SYT.no h hz4 (hz z hz4).1
theorem va_one {T : Nat → Option SVal} {k : Nat} {S : SVal} (h : ∀ z, z < 4 → T z = none) : ∀ z, z < 4 → va_up T k (some S) z = if z = k then some S else none := by
  intro c hc
  by_cases z : c = k
  · rw [z, vup_s, if_pos rfl]
  · rw [vup_n z, if_neg z]; exact h c hc
theorem dX0_begin_0 : decode cX0_begin 0 = .ok (.aload_n 0, 1) := dl_42 (by decide +kernel)
theorem dX0_begin_1 : decode cX0_begin 1 = .ok (.iload_n 1, 1) := dl_27 (by decide +kernel)
theorem dX0_begin_2 : decode cX0_begin 2 = .ok (.putfield 27, 3) := dl_181 (by decide +kernel)
theorem uw_X0 : ∀ w ∈ u_ws RX0 TX0 6, w ∈ TB := uw_of [167, 169, 171, 173, 175, 177] (by decide +kernel) (by decide +kernel)
theorem wf_X0_27 : Cond.fieldLink RX0 27 RX0 "cases" "I" ∈ TB := tbm (tq1 (List.mem_of_getElem? (i := 150) (by decide +kernel))) (by decide +kernel)
theorem fp_X0_27 : FP RX0 27 0 0 .int false := ⟨RX0, TX0, 6, tyX0, uw_X0, wf_X0_27, rfl, by decide, rfl, tyX0_ok, nmX0, rfl, by decide +kernel⟩
theorem dX0_begin_5 : decode cX0_begin 5 = .ok (.aload_n 0, 1) := dl_42 (by decide +kernel)
theorem dX0_begin_6 : decode cX0_begin 6 = .ok (.iconst 0, 1) := dl_3 (by decide +kernel)
theorem dX0_begin_7 : decode cX0_begin 7 = .ok (.putfield 31, 3) := dl_181 (by decide +kernel)
theorem wf_X0_31 : Cond.fieldLink RX0 31 RX0 "realCase" "I" ∈ TB := tbm (tq1 (List.mem_of_getElem? (i := 153) (by decide +kernel))) (by decide +kernel)
theorem fp_X0_31 : FP RX0 31 0 1 .int false := ⟨RX0, TX0, 6, tyX0, uw_X0, wf_X0_31, rfl, by decide, rfl, tyX0_ok, nmX0, rfl, by decide +kernel⟩
theorem dX0_begin_10 : decode cX0_begin 10 = .ok (.iconst 0, 1) := dl_3 (by decide +kernel)
theorem dX0_begin_11 : decode cX0_begin 11 = .ok (.istore_n 2, 1) := dl_61 (by decide +kernel)
theorem dX0_begin_12 : decode cX0_begin 12 = .ok (.iload_n 2, 1) := dl_28 (by decide +kernel)
theorem dX0_begin_13 : decode cX0_begin 13 = .ok (.iconst 4, 1) := dl_7 (by decide +kernel)
theorem dX0_begin_14 : decode cX0_begin 14 = .ok (.if_icmp .ge 30, 3) := dl_162 (by decide +kernel)
theorem dX0_begin_44 : decode cX0_begin 44 = .ok (.iconst 0, 1) := dl_3 (by decide +kernel)
theorem dX0_begin_45 : decode cX0_begin 45 = .ok (.istore_n 2, 1) := dl_61 (by decide +kernel)
theorem dX0_begin_46 : decode cX0_begin 46 = .ok (.iload_n 2, 1) := dl_28 (by decide +kernel)
theorem dX0_begin_47 : decode cX0_begin 47 = .ok (.aload_n 0, 1) := dl_42 (by decide +kernel)
theorem dX0_begin_48 : decode cX0_begin 48 = .ok (.getfield 24, 3) := dl_180 (by decide +kernel)
theorem wf_X0_24 : Cond.fieldLink RX0 24 RX0 "possible" "[I" ∈ TB := tbm (tq1 (List.mem_of_getElem? (i := 165) (by decide +kernel))) (by decide +kernel)
theorem fg_X0_24 : FG RX0 24 0 5 := ⟨RX0, TX0, 6, uw_X0, wf_X0_24, rfl, by decide, rfl⟩
theorem dX0_begin_51 : decode cX0_begin 51 = .ok (.arraylength, 1) := dl_190 (by decide +kernel)
theorem dX0_begin_52 : decode cX0_begin 52 = .ok (.if_icmp .ge 16, 3) := dl_162 (by decide +kernel)
theorem dX0_begin_68 : decode cX0_begin 68 = .ok (.return_, 1) := dl_177 (by decide +kernel)
theorem dX0_begin_55 : decode cX0_begin 55 = .ok (.aload_n 0, 1) := dl_42 (by decide +kernel)
theorem dX0_begin_56 : decode cX0_begin 56 = .ok (.getfield 24, 3) := dl_180 (by decide +kernel)
theorem dX0_begin_59 : decode cX0_begin 59 = .ok (.iload_n 2, 1) := dl_28 (by decide +kernel)
theorem dX0_begin_60 : decode cX0_begin 60 = .ok (.iconst 0, 1) := dl_3 (by decide +kernel)
theorem dX0_begin_61 : decode cX0_begin 61 = .ok (.iastore, 1) := dl_79 (by decide +kernel)
theorem dX0_begin_62 : decode cX0_begin 62 = .ok (.iinc 2 1, 3) := dl_132 (by decide +kernel)
theorem dX0_begin_65 : decode cX0_begin 65 = .ok (.goto (-19), 3) := dl_167 (by decide +kernel)
theorem dX0_begin_17 : decode cX0_begin 17 = .ok (.aload_n 0, 1) := dl_42 (by decide +kernel)
theorem dX0_begin_18 : decode cX0_begin 18 = .ok (.getfield 11, 3) := dl_180 (by decide +kernel)
theorem wf_X0_11 : Cond.fieldLink RX0 11 RX0 "ifs" "[LWhoKnows$Saying;" ∈ TB := tbm (tq1 (List.mem_of_getElem? (i := 158) (by decide +kernel))) (by decide +kernel)
theorem fg_X0_11 : FG RX0 11 0 2 := ⟨RX0, TX0, 6, uw_X0, wf_X0_11, rfl, by decide, rfl⟩
theorem dX0_begin_21 : decode cX0_begin 21 = .ok (.iload_n 2, 1) := dl_28 (by decide +kernel)
theorem dX0_begin_22 : decode cX0_begin 22 = .ok (.aconst_null, 1) := dl_1 (by decide +kernel)
theorem dX0_begin_23 : decode cX0_begin 23 = .ok (.aastore, 1) := dl_83 (by decide +kernel)
theorem dX0_begin_24 : decode cX0_begin 24 = .ok (.aload_n 0, 1) := dl_42 (by decide +kernel)
theorem dX0_begin_25 : decode cX0_begin 25 = .ok (.getfield 17, 3) := dl_180 (by decide +kernel)
theorem wf_X0_17 : Cond.fieldLink RX0 17 RX0 "so" "[I" ∈ TB := tbm (tq1 (List.mem_of_getElem? (i := 161) (by decide +kernel))) (by decide +kernel)
theorem fg_X0_17 : FG RX0 17 0 3 := ⟨RX0, TX0, 6, uw_X0, wf_X0_17, rfl, by decide, rfl⟩
theorem dX0_begin_28 : decode cX0_begin 28 = .ok (.iload_n 2, 1) := dl_28 (by decide +kernel)
theorem dX0_begin_29 : decode cX0_begin 29 = .ok (.iconst 0, 1) := dl_3 (by decide +kernel)
theorem dX0_begin_30 : decode cX0_begin 30 = .ok (.iastore, 1) := dl_79 (by decide +kernel)
theorem dX0_begin_31 : decode cX0_begin 31 = .ok (.aload_n 0, 1) := dl_42 (by decide +kernel)
theorem dX0_begin_32 : decode cX0_begin 32 = .ok (.getfield 21, 3) := dl_180 (by decide +kernel)
theorem wf_X0_21 : Cond.fieldLink RX0 21 RX0 "not" "[I" ∈ TB := tbm (tq1 (List.mem_of_getElem? (i := 163) (by decide +kernel))) (by decide +kernel)
theorem fg_X0_21 : FG RX0 21 0 4 := ⟨RX0, TX0, 6, uw_X0, wf_X0_21, rfl, by decide, rfl⟩
theorem dX0_begin_35 : decode cX0_begin 35 = .ok (.iload_n 2, 1) := dl_28 (by decide +kernel)
theorem dX0_begin_36 : decode cX0_begin 36 = .ok (.iconst 0, 1) := dl_3 (by decide +kernel)
theorem dX0_begin_37 : decode cX0_begin 37 = .ok (.iastore, 1) := dl_79 (by decide +kernel)
theorem dX0_begin_38 : decode cX0_begin 38 = .ok (.iinc 2 1, 3) := dl_132 (by decide +kernel)
theorem dX0_begin_41 : decode cX0_begin 41 = .ok (.goto (-29), 3) := dl_167 (by decide +kernel)
set_option maxRecDepth 100000 in
set_option maxHeartbeats 4000000 in
theorem e_begin (l : Launch) (E : EV) (ro : va_W) (e : Nat) (n : Nat) (ecs : Nat) (erc : Nat) (ea : Nat) (eb : Nat) (ec : Nat) (ed : Nat) (efi : Nat → Option Nat) (efb : Nat → Int32) (efc : Nat → Int32) (efd : Nat → Int32) (eT : Nat → Option SVal) (hecs : ecs ≤ 4) (herc : erc ≤ 3) (hefi : SYT E ro 4 efi eT) (hn : n ≤ 4) : CT l yX0_begin (Cond.code yX0_begin cX0_begin 3 none :: TB) ({ frames := 0, cells := 0, slots := 0, locals := 0 }) E ro [.ref e, .int (nI n)] [(e, .inr (0, [.int (nI ecs), .int (nI erc), .ref ea, .ref eb, .ref ec, .ref ed])), (ea, .inl (E.2.1 7, 4, .inr (.inr (.inr (.inr efi))))), (eb, .inl (E.2.1 1, 4, .inl efb)), (ec, .inl (E.2.1 1, 4, .inl efc)), (ed, .inl (E.2.1 1, 16, .inl efd))] (Qv E (fun uz => (∃ (fi2 : Nat → Option Nat) (fb2 : Nat → Int32) (fc2 : Nat → Int32) (fd2 : Nat → Int32) (T2 : Nat → Option SVal), uz = [(e, .inr (0, [.int (nI n), .int 0, .ref ea, .ref eb, .ref ec, .ref ed])), (ea, .inl (E.2.1 7, 4, .inr (.inr (.inr (.inr fi2))))), (eb, .inl (E.2.1 1, 4, .inl fb2)), (ec, .inl (E.2.1 1, 4, .inl fc2)), (ed, .inl (E.2.1 1, 16, .inl fd2))] ∧ (SYT E ro 4 fi2 T2) ∧ (EZ 4 fi2 fb2 fc2) ∧ (Z0x 16 fd2) ∧ (∀ z, z < 4 → T2 z = none)))) 0 0 := by
  refine ct_of rfl rfl ?_
  intro X C hT hin hro
  show WW X 3 E 0 [(0, .ref e), (1, .int (nI n))] [] [(e, .inr (0, [.int (nI ecs), .int (nI erc), .ref ea, .ref eb, .ref ec, .ref ed])), (ea, .inl (E.2.1 7, 4, .inr (.inr (.inr (.inr efi))))), (eb, .inl (E.2.1 1, 4, .inl efb)), (ec, .inl (E.2.1 1, 4, .inl efc)), (ed, .inl (E.2.1 1, 16, .inl efd))] 0 0
  refine ww_aload_n C dX0_begin_0 0 rfl rfl ?_
  refine ww_iload_n C dX0_begin_1 1 rfl rfl ?_
  refine ww_put (ws' := [(e, .inr (0, [.int (nI n), .int (nI erc), .ref ea, .ref eb, .ref ec, .ref ed])), (ea, .inl (E.2.1 7, 4, .inr (.inr (.inr (.inr efi))))), (eb, .inl (E.2.1 1, 4, .inl efb)), (ec, .inl (E.2.1 1, 4, .inl efc)), (ed, .inl (E.2.1 1, 16, .inl efd))]) C fp_X0_27 0 rfl rfl rfl rfl rfl dX0_begin_2 ?_
  refine ww_aload_n C dX0_begin_5 0 rfl rfl ?_
  refine ww_iconst (v := 0) C dX0_begin_6 rfl ?_
  refine ww_put (ws' := [(e, .inr (0, [.int (nI n), .int 0, .ref ea, .ref eb, .ref ec, .ref ed])), (ea, .inl (E.2.1 7, 4, .inr (.inr (.inr (.inr efi))))), (eb, .inl (E.2.1 1, 4, .inl efb)), (ec, .inl (E.2.1 1, 4, .inl efc)), (ed, .inl (E.2.1 1, 16, .inl efd))]) C fp_X0_31 0 rfl rfl rfl rfl rfl dX0_begin_7 ?_
  refine ww_iconst (v := 0) C dX0_begin_10 rfl ?_
  refine ww_istore_n (lv' := [(2, .int 0), (0, .ref e), (1, .int (nI n))]) C dX0_begin_11 rfl rfl rfl ?_
  have loop_12 : ∀ (fu : Nat) (i1 : Nat) (q1 : Nat → Option Nat) (f1 : Nat → Int32) (f2 : Nat → Int32) (T1 : Nat → Option SVal), (i1 ≤ 4) → (SYT E ro 4 q1 T1) → (EZ i1 q1 f1 f2) → 4 - i1 < fu → WW X 3 E 12 [(2, .int (nI i1)), (0, .ref e), (1, .int (nI n))] [] [(e, .inr (0, [.int (nI n), .int 0, .ref ea, .ref eb, .ref ec, .ref ed])), (ea, .inl (E.2.1 7, 4, .inr (.inr (.inr (.inr q1))))), (eb, .inl (E.2.1 1, 4, .inl f1)), (ec, .inl (E.2.1 1, 4, .inl f2)), (ed, .inl (E.2.1 1, 16, .inl efd))] 0 0 := by
    intro fu
    induction fu with
    | zero => intro i1 q1 f1 f2 T1 hi1 hq1 hez hmeas; exact absurd hmeas (Nat.not_lt_zero _)
    | succ fu ih_12 =>
      intro i1 q1 f1 f2 T1 hi1 hq1 hez hmeas
      refine ww_iload_n C dX0_begin_12 0 rfl rfl ?_
      refine ww_iconst (v := 4) C dX0_begin_13 rfl ?_
      refine ww_icmp_ge (tgt := 44) C dX0_begin_14 (by decide) (fun c_1 => ?_) (fun c_1 => ?_)
      · have zc_1 : ((i1 : Nat) : Int) ≥ 4 := i_le rfl (nI_toInt (n := i1) (by omega)) c_1
        refine ww_iconst (v := 0) C dX0_begin_44 rfl ?_
        refine ww_istore_n (lv' := [(2, .int 0), (0, .ref e), (1, .int (nI n))]) C dX0_begin_45 rfl rfl rfl ?_
        have loop_46 : ∀ (fu : Nat) (i2 : Nat) (f3 : Nat → Int32), (i2 ≤ 16) → (Z0x i2 f3) → 16 - i2 < fu → WW X 3 E 46 [(2, .int (nI i2)), (0, .ref e), (1, .int (nI n))] [] [(e, .inr (0, [.int (nI n), .int 0, .ref ea, .ref eb, .ref ec, .ref ed])), (ea, .inl (E.2.1 7, 4, .inr (.inr (.inr (.inr q1))))), (eb, .inl (E.2.1 1, 4, .inl f1)), (ec, .inl (E.2.1 1, 4, .inl f2)), (ed, .inl (E.2.1 1, 16, .inl f3))] 0 0 := by
          intro fu
          induction fu with
          | zero => intro i2 f3 hi2 hz6 hmeas; exact absurd hmeas (Nat.not_lt_zero _)
          | succ fu ih_46 =>
            intro i2 f3 hi2 hz6 hmeas
            refine ww_iload_n C dX0_begin_46 0 rfl rfl ?_
            refine ww_aload_n C dX0_begin_47 1 rfl rfl ?_
            refine ww_get C fg_X0_24 0 rfl rfl dX0_begin_48 ?_
            refine ww_alen (v := 16) (t0 := 1) C 4 rfl rfl rfl dX0_begin_51 ?_
            refine ww_icmp_ge (tgt := 68) C dX0_begin_52 (by decide) (fun c_2 => ?_) (fun c_2 => ?_)
            · have zc_2 : ((i2 : Nat) : Int) ≥ 16 := i_le rfl (nI_toInt (n := i2) (by omega)) c_2
              exact ww_vret (u := [(e, .inr (0, [.int (nI n), .int 0, .ref ea, .ref eb, .ref ec, .ref ed])), (ea, .inl (E.2.1 7, 4, .inr (.inr (.inr (.inr q1))))), (eb, .inl (E.2.1 1, 4, .inl f1)), (ec, .inl (E.2.1 1, 4, .inl f2)), (ed, .inl (E.2.1 1, 16, .inl f3))]) C hT [0, 1, 2, 3, 4] rfl rfl rfl rfl dX0_begin_68 (⟨q1, f1, f2, f3, T1, rfl, hq1, (by rw [show (4 : Nat) = i1 by omega]; exact hez), (by rw [show (16 : Nat) = i2 by omega]; exact hz6), (EZ.t hq1 (by rw [show (4 : Nat) = i1 by omega]; exact hez))⟩)
            · have zc_2 : ((i2 : Nat) : Int) < 16 := i_nle rfl (nI_toInt (n := i2) (by omega)) c_2
              refine ww_aload_n C dX0_begin_55 1 rfl rfl ?_
              refine ww_get C fg_X0_24 0 rfl rfl dX0_begin_56 ?_
              refine ww_iload_n C dX0_begin_59 0 rfl rfl ?_
              refine ww_iconst (v := 0) C dX0_begin_60 rfl ?_
              obtain ⟨f_3, ef_3⟩ : ∃ z : Nat → Int32, upd f3 i2 0 = z := ⟨_, rfl⟩
              refine ww_iast (ws' := [(e, .inr (0, [.int (nI n), .int 0, .ref ea, .ref eb, .ref ec, .ref ed])), (ea, .inl (E.2.1 7, 4, .inr (.inr (.inr (.inr q1))))), (eb, .inl (E.2.1 1, 4, .inl f1)), (ec, .inl (E.2.1 1, 4, .inl f2)), (ed, .inl (E.2.1 1, 16, .inl f_3))]) C 4 rfl (vp_in_nI (by omega) (by omega)) (ldn2 (by omega) ef_3) rfl dX0_begin_61 ?_
              refine ww_iinc (j := 0) (v := (nI (i2 + 1))) (lv' := [(2, .int (nI (i2 + 1))), (0, .ref e), (1, .int (nI n))]) C dX0_begin_62 rfl (nI_add i2 1) rfl rfl ?_
              refine ww_goto (tgt := 46) C dX0_begin_65 (by decide) ?_
              exact ww_lv [0, 1, 2] rfl (ww_sub [0, 1, 2, 3, 4] rfl rfl (ih_46 (i2 + 1) f_3 (by omega) (Z0x.ext hz6 ef_3) (by omega)))
        exact ww_lv [0, 1, 2] rfl (ww_sub [0, 1, 2, 3, 4] rfl rfl (loop_46 _ 0 efd (by omega) Z0x.nil (Nat.lt_succ_self _)))
      · have zc_1 : ((i1 : Nat) : Int) < 4 := i_nle rfl (nI_toInt (n := i1) (by omega)) c_1
        refine ww_aload_n C dX0_begin_17 1 rfl rfl ?_
        refine ww_get C fg_X0_11 0 rfl rfl dX0_begin_18 ?_
        refine ww_iload_n C dX0_begin_21 0 rfl rfl ?_
        refine ww_null C dX0_begin_22 ?_
        obtain ⟨f_4, ef_4⟩ : ∃ z : Nat → Option Nat, va_up q1 i1 none = z := ⟨_, rfl⟩
        refine ww_astN (t0 := 7) (ws' := [(e, .inr (0, [.int (nI n), .int 0, .ref ea, .ref eb, .ref ec, .ref ed])), (ea, .inl (E.2.1 7, 4, .inr (.inr (.inr (.inr f_4))))), (eb, .inl (E.2.1 1, 4, .inl f1)), (ec, .inl (E.2.1 1, 4, .inl f2)), (ed, .inl (E.2.1 1, 16, .inl efd))]) C 1 rfl rfl (vp_in_nI (by omega) (by omega)) (ldn2 (by omega) ef_4) rfl dX0_begin_23 ?_
        refine ww_aload_n C dX0_begin_24 1 rfl rfl ?_
        refine ww_get C fg_X0_17 0 rfl rfl dX0_begin_25 ?_
        refine ww_iload_n C dX0_begin_28 0 rfl rfl ?_
        refine ww_iconst (v := 0) C dX0_begin_29 rfl ?_
        obtain ⟨f_5, ef_5⟩ : ∃ z : Nat → Int32, upd f1 i1 0 = z := ⟨_, rfl⟩
        refine ww_iast (ws' := [(e, .inr (0, [.int (nI n), .int 0, .ref ea, .ref eb, .ref ec, .ref ed])), (ea, .inl (E.2.1 7, 4, .inr (.inr (.inr (.inr f_4))))), (eb, .inl (E.2.1 1, 4, .inl f_5)), (ec, .inl (E.2.1 1, 4, .inl f2)), (ed, .inl (E.2.1 1, 16, .inl efd))]) C 2 rfl (vp_in_nI (by omega) (by omega)) (ldn2 (by omega) ef_5) rfl dX0_begin_30 ?_
        refine ww_aload_n C dX0_begin_31 1 rfl rfl ?_
        refine ww_get C fg_X0_21 0 rfl rfl dX0_begin_32 ?_
        refine ww_iload_n C dX0_begin_35 0 rfl rfl ?_
        refine ww_iconst (v := 0) C dX0_begin_36 rfl ?_
        obtain ⟨f_6, ef_6⟩ : ∃ z : Nat → Int32, upd f2 i1 0 = z := ⟨_, rfl⟩
        refine ww_iast (ws' := [(e, .inr (0, [.int (nI n), .int 0, .ref ea, .ref eb, .ref ec, .ref ed])), (ea, .inl (E.2.1 7, 4, .inr (.inr (.inr (.inr f_4))))), (eb, .inl (E.2.1 1, 4, .inl f_5)), (ec, .inl (E.2.1 1, 4, .inl f_6)), (ed, .inl (E.2.1 1, 16, .inl efd))]) C 3 rfl (vp_in_nI (by omega) (by omega)) (ldn2 (by omega) ef_6) rfl dX0_begin_37 ?_
        refine ww_iinc (j := 0) (v := (nI (i1 + 1))) (lv' := [(2, .int (nI (i1 + 1))), (0, .ref e), (1, .int (nI n))]) C dX0_begin_38 rfl (nI_add i1 1) rfl rfl ?_
        refine ww_goto (tgt := 12) C dX0_begin_41 (by decide) ?_
        exact ww_lv [0, 1, 2] rfl (ww_sub [0, 1, 2, 3, 4] rfl rfl (ih_12 (i1 + 1) f_4 f_5 f_6 (va_up T1 i1 none) (by omega) (SYT.none hq1 ef_4) (EZ.ext hez ef_4 ef_5 ef_6) (by omega)))
  exact ww_lv [0, 1, 2] rfl (ww_sub [0, 1, 2, 3, 4] rfl rfl (loop_12 _ 0 efi efb efc eT (by omega) hefi EZ.nil (Nat.lt_succ_self _)))
theorem dX0_hold_0 : decode cX0_hold 0 = .ok (.aload_n 0, 1) := dl_42 (by decide +kernel)
theorem dX0_hold_1 : decode cX0_hold 1 = .ok (.getfield 24, 3) := dl_180 (by decide +kernel)
theorem dX0_hold_4 : decode cX0_hold 4 = .ok (.iload_n 1, 1) := dl_27 (by decide +kernel)
theorem dX0_hold_5 : decode cX0_hold 5 = .ok (.iconst 4, 1) := dl_7 (by decide +kernel)
theorem dX0_hold_6 : decode cX0_hold 6 = .ok (.imul, 1) := dl_104 (by decide +kernel)
theorem dX0_hold_7 : decode cX0_hold 7 = .ok (.iload_n 2, 1) := dl_28 (by decide +kernel)
theorem dX0_hold_8 : decode cX0_hold 8 = .ok (.iadd, 1) := dl_96 (by decide +kernel)
theorem dX0_hold_9 : decode cX0_hold 9 = .ok (.iaload, 1) := dl_46 (by decide +kernel)
theorem dX0_hold_10 : decode cX0_hold 10 = .ok (.istore 5, 2) := dl_54 (by decide +kernel)
theorem dX0_hold_12 : decode cX0_hold 12 = .ok (.aload_n 0, 1) := dl_42 (by decide +kernel)
theorem dX0_hold_13 : decode cX0_hold 13 = .ok (.getfield 24, 3) := dl_180 (by decide +kernel)
theorem dX0_hold_16 : decode cX0_hold 16 = .ok (.iload_n 1, 1) := dl_27 (by decide +kernel)
theorem dX0_hold_17 : decode cX0_hold 17 = .ok (.iconst 4, 1) := dl_7 (by decide +kernel)
theorem dX0_hold_18 : decode cX0_hold 18 = .ok (.imul, 1) := dl_104 (by decide +kernel)
theorem dX0_hold_19 : decode cX0_hold 19 = .ok (.iload_n 2, 1) := dl_28 (by decide +kernel)
theorem dX0_hold_20 : decode cX0_hold 20 = .ok (.iadd, 1) := dl_96 (by decide +kernel)
theorem dX0_hold_21 : decode cX0_hold 21 = .ok (.iload 4, 2) := dl_21 (by decide +kernel)
theorem dX0_hold_23 : decode cX0_hold 23 = .ok (.ifCond .eq 12, 3) := dl_153 (by decide +kernel)
theorem dX0_hold_35 : decode cX0_hold 35 = .ok (.iload 5, 2) := dl_21 (by decide +kernel)
theorem dX0_hold_37 : decode cX0_hold 37 = .ok (.iconst 1, 1) := dl_4 (by decide +kernel)
theorem dX0_hold_38 : decode cX0_hold 38 = .ok (.iload_n 3, 1) := dl_29 (by decide +kernel)
theorem dX0_hold_39 : decode cX0_hold 39 = .ok (.ishl, 1) := dl_120 (by decide +kernel)
theorem dX0_hold_40 : decode cX0_hold 40 = .ok (.iconst (-1), 1) := dl_2 (by decide +kernel)
theorem dX0_hold_41 : decode cX0_hold 41 = .ok (.ixor, 1) := dl_130 (by decide +kernel)
theorem dX0_hold_42 : decode cX0_hold 42 = .ok (.iand, 1) := dl_126 (by decide +kernel)
theorem dX0_hold_43 : decode cX0_hold 43 = .ok (.iastore, 1) := dl_79 (by decide +kernel)
theorem dX0_hold_44 : decode cX0_hold 44 = .ok (.iload 5, 2) := dl_21 (by decide +kernel)
theorem dX0_hold_46 : decode cX0_hold 46 = .ok (.iload_n 3, 1) := dl_29 (by decide +kernel)
theorem dX0_hold_47 : decode cX0_hold 47 = .ok (.ishr, 1) := dl_122 (by decide +kernel)
theorem dX0_hold_48 : decode cX0_hold 48 = .ok (.iconst 1, 1) := dl_4 (by decide +kernel)
theorem dX0_hold_49 : decode cX0_hold 49 = .ok (.iand, 1) := dl_126 (by decide +kernel)
theorem dX0_hold_50 : decode cX0_hold 50 = .ok (.ireturn, 1) := dl_172 (by decide +kernel)
theorem dX0_hold_26 : decode cX0_hold 26 = .ok (.iload 5, 2) := dl_21 (by decide +kernel)
theorem dX0_hold_28 : decode cX0_hold 28 = .ok (.iconst 1, 1) := dl_4 (by decide +kernel)
theorem dX0_hold_29 : decode cX0_hold 29 = .ok (.iload_n 3, 1) := dl_29 (by decide +kernel)
theorem dX0_hold_30 : decode cX0_hold 30 = .ok (.ishl, 1) := dl_120 (by decide +kernel)
theorem dX0_hold_31 : decode cX0_hold 31 = .ok (.ior, 1) := dl_128 (by decide +kernel)
theorem dX0_hold_32 : decode cX0_hold 32 = .ok (.goto 11, 3) := dl_167 (by decide +kernel)
set_option maxRecDepth 100000 in
set_option maxHeartbeats 4000000 in
theorem e_hold (l : Launch) (E : EV) (ro : va_W) (e : Nat) (k : Nat) (i : Nat) (j : Int32) (is : Int32) (ecs : Nat) (erc : Nat) (ea : Nat) (eb : Nat) (ec : Nat) (ed : Nat) (efi : Nat → Option Nat) (efb : Nat → Int32) (efc : Nat → Int32) (efd : Nat → Int32) (hk : k < 4) (hi : i < 4) : CT l yX0_hold (Cond.code yX0_hold cX0_hold 6 (some .int) :: TB) ({ frames := 0, cells := 0, slots := 0, locals := 0 }) E ro [.ref e, .int (nI k), .int (nI i), .int j, .int is] [(e, .inr (0, [.int (nI ecs), .int (nI erc), .ref ea, .ref eb, .ref ec, .ref ed])), (ea, .inl (E.2.1 7, 4, .inr (.inr (.inr (.inr efi))))), (eb, .inl (E.2.1 1, 4, .inl efb)), (ec, .inl (E.2.1 1, 4, .inl efc)), (ed, .inl (E.2.1 1, 16, .inl efd))] (Qi E (fun (rz : Int32) uz => (∃ (fd2 : Nat → Int32), uz = [(e, .inr (0, [.int (nI ecs), .int (nI erc), .ref ea, .ref eb, .ref ec, .ref ed])), (ea, .inl (E.2.1 7, 4, .inr (.inr (.inr (.inr efi))))), (eb, .inl (E.2.1 1, 4, .inl efb)), (ec, .inl (E.2.1 1, 4, .inl efc)), (ed, .inl (E.2.1 1, 16, .inl fd2))] ∧ (upd efd (k * 4 + i) (hbt (efd (k * 4 + i)) j is) = fd2) ∧ (rz = efd (k * 4 + i) >>> (j &&& 31) &&& 1)))) 0 0 := by
  refine ct_of rfl rfl ?_
  intro X C hT hin hro
  show WW X 6 E 0 [(0, .ref e), (1, .int (nI k)), (2, .int (nI i)), (3, .int j), (4, .int is)] [] [(e, .inr (0, [.int (nI ecs), .int (nI erc), .ref ea, .ref eb, .ref ec, .ref ed])), (ea, .inl (E.2.1 7, 4, .inr (.inr (.inr (.inr efi))))), (eb, .inl (E.2.1 1, 4, .inl efb)), (ec, .inl (E.2.1 1, 4, .inl efc)), (ed, .inl (E.2.1 1, 16, .inl efd))] 0 0
  refine ww_aload_n C dX0_hold_0 0 rfl rfl ?_
  refine ww_get C fg_X0_24 0 rfl rfl dX0_hold_1 ?_
  refine ww_iload_n C dX0_hold_4 1 rfl rfl ?_
  refine ww_iconst (v := 4) C dX0_hold_5 rfl ?_
  refine ww_imul (v := (nI (k * 4))) C dX0_hold_6 (pk_mul k 4) ?_
  refine ww_iload_n C dX0_hold_7 2 rfl rfl ?_
  refine ww_iadd (v := (nI ((k * 4) + i))) C dX0_hold_8 (nI_add (k * 4) i) ?_
  obtain ⟨x_1, ex_1⟩ : ∃ z : Int32, efd ((k * 4) + i) = z := ⟨_, rfl⟩
  refine ww_iald (v := x_1) C 4 rfl (vp_in_nI (by omega) (by omega)) (ldn (by omega) ex_1) dX0_hold_9 ?_
  refine ww_istore (lv' := [(5, .int x_1), (0, .ref e), (1, .int (nI k)), (2, .int (nI i)), (3, .int j), (4, .int is)]) C dX0_hold_10 rfl rfl ?_
  refine ww_aload_n C dX0_hold_12 1 rfl rfl ?_
  refine ww_get C fg_X0_24 0 rfl rfl dX0_hold_13 ?_
  refine ww_iload_n C dX0_hold_16 2 rfl rfl ?_
  refine ww_iconst (v := 4) C dX0_hold_17 rfl ?_
  refine ww_imul (v := (nI (k * 4))) C dX0_hold_18 (pk_mul k 4) ?_
  refine ww_iload_n C dX0_hold_19 3 rfl rfl ?_
  refine ww_iadd (v := (nI ((k * 4) + i))) C dX0_hold_20 (nI_add (k * 4) i) ?_
  refine ww_iload C dX0_hold_21 5 rfl ?_
  refine ww_if_eq (tgt := 35) C dX0_hold_23 (by decide) (fun c_2 => ?_) (fun c_2 => ?_)
  · have zc_2 : is.toInt = 0 := i_eq rfl rfl c_2
    refine ww_iload C dX0_hold_35 0 rfl ?_
    refine ww_iconst (v := 1) C dX0_hold_37 rfl ?_
    refine ww_iload_n C dX0_hold_38 4 rfl rfl ?_
    obtain ⟨x_3, ex_3⟩ : ∃ z : Int32, (1 : Int32) <<< (j &&& 31) = z := ⟨_, rfl⟩
    refine ww_ishl (v := x_3) C dX0_hold_39 ex_3 ?_
    refine ww_iconst (v := (-1)) C dX0_hold_40 rfl ?_
    obtain ⟨x_4, ex_4⟩ : ∃ z : Int32, x_3 ^^^ ((-1) : Int32) = z := ⟨_, rfl⟩
    refine ww_ixor (v := x_4) C dX0_hold_41 ex_4 ?_
    obtain ⟨x_5, ex_5⟩ : ∃ z : Int32, x_1 &&& x_4 = z := ⟨_, rfl⟩
    refine ww_iand (v := x_5) C dX0_hold_42 ex_5 ?_
    obtain ⟨f_6, ef_6⟩ : ∃ z : Nat → Int32, upd efd ((k * 4) + i) x_5 = z := ⟨_, rfl⟩
    refine ww_iast (ws' := [(e, .inr (0, [.int (nI ecs), .int (nI erc), .ref ea, .ref eb, .ref ec, .ref ed])), (ea, .inl (E.2.1 7, 4, .inr (.inr (.inr (.inr efi))))), (eb, .inl (E.2.1 1, 4, .inl efb)), (ec, .inl (E.2.1 1, 4, .inl efc)), (ed, .inl (E.2.1 1, 16, .inl f_6))]) C 4 rfl (vp_in_nI (by omega) (by omega)) (ldn2 (by omega) ef_6) rfl dX0_hold_43 ?_
    refine ww_iload C dX0_hold_44 0 rfl ?_
    refine ww_iload_n C dX0_hold_46 4 rfl rfl ?_
    obtain ⟨x_7, ex_7⟩ : ∃ z : Int32, x_1 >>> (j &&& 31) = z := ⟨_, rfl⟩
    refine ww_ishr (v := x_7) C dX0_hold_47 ex_7 ?_
    refine ww_iconst (v := 1) C dX0_hold_48 rfl ?_
    obtain ⟨j_8, hj_8, ej_8⟩ := pk_andE x_7 (m := 1) 1 rfl
    refine ww_iand (v := (nI j_8)) C dX0_hold_49 ej_8 ?_
    exact ww_iret (u := [(e, .inr (0, [.int (nI ecs), .int (nI erc), .ref ea, .ref eb, .ref ec, .ref ed])), (ea, .inl (E.2.1 7, 4, .inr (.inr (.inr (.inr efi))))), (eb, .inl (E.2.1 1, 4, .inl efb)), (ec, .inl (E.2.1 1, 4, .inl efc)), (ed, .inl (E.2.1 1, 16, .inl f_6))]) C hT [0, 1, 2, 3, 4] rfl rfl rfl rfl dX0_hold_50 (⟨f_6, rfl, (by unfold hbt; rw [if_neg (fun h9 => h9 (by assumption)), ex_1, ex_3, ex_4, ex_5]; exact ef_6), (by rw [ex_1, ex_7, ej_8])⟩)
  · have zc_2 : is.toInt ≠ 0 := i_ne rfl rfl c_2
    refine ww_iload C dX0_hold_26 0 rfl ?_
    refine ww_iconst (v := 1) C dX0_hold_28 rfl ?_
    refine ww_iload_n C dX0_hold_29 4 rfl rfl ?_
    obtain ⟨x_9, ex_9⟩ : ∃ z : Int32, (1 : Int32) <<< (j &&& 31) = z := ⟨_, rfl⟩
    refine ww_ishl (v := x_9) C dX0_hold_30 ex_9 ?_
    obtain ⟨x_10, ex_10⟩ : ∃ z : Int32, x_1 ||| x_9 = z := ⟨_, rfl⟩
    refine ww_ior (v := x_10) C dX0_hold_31 ex_10 ?_
    refine ww_goto (tgt := 43) C dX0_hold_32 (by decide) ?_
    obtain ⟨f_11, ef_11⟩ : ∃ z : Nat → Int32, upd efd ((k * 4) + i) x_10 = z := ⟨_, rfl⟩
    refine ww_iast (ws' := [(e, .inr (0, [.int (nI ecs), .int (nI erc), .ref ea, .ref eb, .ref ec, .ref ed])), (ea, .inl (E.2.1 7, 4, .inr (.inr (.inr (.inr efi))))), (eb, .inl (E.2.1 1, 4, .inl efb)), (ec, .inl (E.2.1 1, 4, .inl efc)), (ed, .inl (E.2.1 1, 16, .inl f_11))]) C 4 rfl (vp_in_nI (by omega) (by omega)) (ldn2 (by omega) ef_11) rfl dX0_hold_43 ?_
    refine ww_iload C dX0_hold_44 0 rfl ?_
    refine ww_iload_n C dX0_hold_46 4 rfl rfl ?_
    obtain ⟨x_12, ex_12⟩ : ∃ z : Int32, x_1 >>> (j &&& 31) = z := ⟨_, rfl⟩
    refine ww_ishr (v := x_12) C dX0_hold_47 ex_12 ?_
    refine ww_iconst (v := 1) C dX0_hold_48 rfl ?_
    obtain ⟨j_13, hj_13, ej_13⟩ := pk_andE x_12 (m := 1) 1 rfl
    refine ww_iand (v := (nI j_13)) C dX0_hold_49 ej_13 ?_
    exact ww_iret (u := [(e, .inr (0, [.int (nI ecs), .int (nI erc), .ref ea, .ref eb, .ref ec, .ref ed])), (ea, .inl (E.2.1 7, 4, .inr (.inr (.inr (.inr efi))))), (eb, .inl (E.2.1 1, 4, .inl efb)), (ec, .inl (E.2.1 1, 4, .inl efc)), (ed, .inl (E.2.1 1, 16, .inl f_11))]) C hT [0, 1, 2, 3, 4] rfl rfl rfl rfl dX0_hold_50 (⟨f_11, rfl, (by unfold hbt; rw [if_pos (by assumption), ex_1, ex_9, ex_10]; exact ef_11), (by rw [ex_1, ex_12, ej_13])⟩)
theorem dX0_sayAloud_0 : decode cX0_sayAloud 0 = .ok (.aload_n 0, 1) := dl_42 (by decide +kernel)
theorem dX0_sayAloud_1 : decode cX0_sayAloud 1 = .ok (.iconst 1, 1) := dl_4 (by decide +kernel)
theorem dX0_sayAloud_2 : decode cX0_sayAloud 2 = .ok (.invokevirtual 34, 3) := dl_182 (by decide +kernel)
theorem wl_X0_34 : Cond.methodLink RX0 34 yX0_begin ∈ TB := tbm (tq4 (List.mem_of_getElem? (i := 95) (by decide +kernel))) (by decide +kernel)
theorem wc_X0_begin : Cond.code yX0_begin cX0_begin 3 none ∈ TB := tbm (tq4 (List.mem_of_getElem? (i := 58) (rfl))) (by decide +kernel)
theorem wn_X0 : Cond.initialized RX0 ∈ TB := tbm (tq1 (List.mem_of_getElem? (i := 6) (by decide +kernel))) (by decide +kernel)
theorem wi_X0_begin : Cond.instanceMethod yX0_begin ∈ TB := tbm (tq4 (List.mem_of_getElem? (i := 56) (by decide +kernel))) (by decide +kernel)
theorem ws_X0_begin : Cond.selects RX0 yX0_begin yX0_begin ∈ TB := tbm (tq4 (List.mem_of_getElem? (i := 57) (by decide +kernel))) (by decide +kernel)
theorem mi_X0_begin : MI yX0_begin cX0_begin 3 none 1 := ⟨wc_X0_begin, wn_X0, ⟨by decide +kernel, by decide +kernel, by decide +kernel⟩, wi_X0_begin, ws_X0_begin⟩
theorem dX0_sayAloud_5 : decode cX0_sayAloud 5 = .ok (.aload_n 0, 1) := dl_42 (by decide +kernel)
theorem dX0_sayAloud_6 : decode cX0_sayAloud 6 = .ok (.getfield 11, 3) := dl_180 (by decide +kernel)
theorem dX0_sayAloud_9 : decode cX0_sayAloud 9 = .ok (.iconst 0, 1) := dl_3 (by decide +kernel)
theorem dX0_sayAloud_10 : decode cX0_sayAloud 10 = .ok (.aload_n 1, 1) := dl_43 (by decide +kernel)
theorem dX0_sayAloud_11 : decode cX0_sayAloud 11 = .ok (.aastore, 1) := dl_83 (by decide +kernel)
theorem dX0_sayAloud_12 : decode cX0_sayAloud 12 = .ok (.iconst 0, 1) := dl_3 (by decide +kernel)
theorem dX0_sayAloud_13 : decode cX0_sayAloud 13 = .ok (.istore_n 2, 1) := dl_61 (by decide +kernel)
theorem dX0_sayAloud_14 : decode cX0_sayAloud 14 = .ok (.iload_n 2, 1) := dl_28 (by decide +kernel)
theorem dX0_sayAloud_15 : decode cX0_sayAloud 15 = .ok (.iconst 4, 1) := dl_7 (by decide +kernel)
theorem dX0_sayAloud_16 : decode cX0_sayAloud 16 = .ok (.if_icmp .ge 18, 3) := dl_162 (by decide +kernel)
theorem dX0_sayAloud_34 : decode cX0_sayAloud 34 = .ok (.return_, 1) := dl_177 (by decide +kernel)
theorem dX0_sayAloud_19 : decode cX0_sayAloud 19 = .ok (.aload_n 0, 1) := dl_42 (by decide +kernel)
theorem dX0_sayAloud_20 : decode cX0_sayAloud 20 = .ok (.iload_n 2, 1) := dl_28 (by decide +kernel)
theorem dX0_sayAloud_21 : decode cX0_sayAloud 21 = .ok (.iconst 0, 1) := dl_3 (by decide +kernel)
theorem dX0_sayAloud_22 : decode cX0_sayAloud 22 = .ok (.iconst 0, 1) := dl_3 (by decide +kernel)
theorem dX0_sayAloud_23 : decode cX0_sayAloud 23 = .ok (.iconst 1, 1) := dl_4 (by decide +kernel)
theorem dX0_sayAloud_24 : decode cX0_sayAloud 24 = .ok (.invokevirtual 38, 3) := dl_182 (by decide +kernel)
theorem wl_X0_38 : Cond.methodLink RX0 38 yX0_hold ∈ TB := tbm (tq4 (List.mem_of_getElem? (i := 96) (by decide +kernel))) (by decide +kernel)
theorem wc_X0_hold : Cond.code yX0_hold cX0_hold 6 (some .int) ∈ TB := tbm (tq4 (List.mem_of_getElem? (i := 82) (rfl))) (by decide +kernel)
theorem wi_X0_hold : Cond.instanceMethod yX0_hold ∈ TB := tbm (tq4 (List.mem_of_getElem? (i := 80) (by decide +kernel))) (by decide +kernel)
theorem ws_X0_hold : Cond.selects RX0 yX0_hold yX0_hold ∈ TB := tbm (tq4 (List.mem_of_getElem? (i := 81) (by decide +kernel))) (by decide +kernel)
theorem mi_X0_hold : MI yX0_hold cX0_hold 6 (some .int) 4 := ⟨wc_X0_hold, wn_X0, ⟨by decide +kernel, by decide +kernel, by decide +kernel⟩, wi_X0_hold, ws_X0_hold⟩
theorem dX0_sayAloud_27 : decode cX0_sayAloud 27 = .ok (.pop, 1) := dl_87 (by decide +kernel)
theorem dX0_sayAloud_28 : decode cX0_sayAloud 28 = .ok (.iinc 2 1, 3) := dl_132 (by decide +kernel)
theorem dX0_sayAloud_31 : decode cX0_sayAloud 31 = .ok (.goto (-17), 3) := dl_167 (by decide +kernel)
set_option maxRecDepth 100000 in
set_option maxHeartbeats 4000000 in
theorem e_sayAloud (l : Launch) (E : EV) (ro : va_W) (e : Nat) (sa : Nat) (ecs : Nat) (erc : Nat) (ea : Nat) (eb : Nat) (ec : Nat) (ed : Nat) (efi : Nat → Option Nat) (efb : Nat → Int32) (efc : Nat → Int32) (efd : Nat → Int32) (eT : Nat → Option SVal) (SS : SVal) (hecs : ecs ≤ 4) (herc : erc ≤ 3) (hefi : SYT E ro 4 efi eT) (hsa : SYv E ro sa SS) : CT l yX0_sayAloud (Cond.code yX0_sayAloud cX0_sayAloud 3 none :: TB) ({ frames := 1, cells := 0, slots := 0, locals := 25 }) E ro [.ref e, .ref sa] [(e, .inr (0, [.int (nI ecs), .int (nI erc), .ref ea, .ref eb, .ref ec, .ref ed])), (ea, .inl (E.2.1 7, 4, .inr (.inr (.inr (.inr efi))))), (eb, .inl (E.2.1 1, 4, .inl efb)), (ec, .inl (E.2.1 1, 4, .inl efc)), (ed, .inl (E.2.1 1, 16, .inl efd))] (Qv E (fun uz => (∃ (fi2 : Nat → Option Nat) (fb2 : Nat → Int32) (fc2 : Nat → Int32) (fd2 : Nat → Int32) (T2 : Nat → Option SVal), uz = [(e, .inr (0, [.int 1, .int 0, .ref ea, .ref eb, .ref ec, .ref ed])), (ea, .inl (E.2.1 7, 4, .inr (.inr (.inr (.inr fi2))))), (eb, .inl (E.2.1 1, 4, .inl fb2)), (ec, .inl (E.2.1 1, 4, .inl fc2)), (ed, .inl (E.2.1 1, 16, .inl fd2))] ∧ (SYT E ro 4 fi2 T2) ∧ (∀ z, z < 4 → T2 z = if z = 0 then some SS else none) ∧ (∀ z, z < 4 → fb2 z = 0 ∧ fc2 z = 0) ∧ (SAx 4 fd2)))) 0 0 := by
  refine ct_of rfl rfl ?_
  intro X C hT hin hro
  show WW X 3 E 0 [(0, .ref e), (1, .ref sa)] [] [(e, .inr (0, [.int (nI ecs), .int (nI erc), .ref ea, .ref eb, .ref ec, .ref ed])), (ea, .inl (E.2.1 7, 4, .inr (.inr (.inr (.inr efi))))), (eb, .inl (E.2.1 1, 4, .inl efb)), (ec, .inl (E.2.1 1, 4, .inl efc)), (ed, .inl (E.2.1 1, 16, .inl efd))] 0 0
  refine ww_aload_n C dX0_sayAloud_0 0 rfl rfl ?_
  refine ww_iconst (v := 1) C dX0_sayAloud_1 rfl ?_
  refine ww_cv (wr := []) (k' := 0) (n' := 0) C (run_V (As := [.int 1]) (rest := []) C (e_begin X.2.1 E ro e 1 ecs erc ea eb ec ed efi efb efc efd eT (by omega) (by omega) hefi (by omega)) mi_X0_begin wl_X0_34 rfl 0 0 rfl rfl rfl rfl rfl dX0_sayAloud_2) (roK hro) [0, 1, 2, 3, 4] [] rfl rfl rfl rfl (fun uz hw => ?_)
  refine ex5 hw ?_
  clear hw
  intro fi2_2 fb2_3 fc2_4 fd2_5 T2_6 hw
  refine an4 hw ?_
  clear hw
  intro he_11 h_7 h_8 h_9 hw
  have h_10 := hw
  clear hw
  subst he_11
  refine ww_eq (ws' := [(e, .inr (0, [.int 1, .int 0, .ref ea, .ref eb, .ref ec, .ref ed])), (ea, .inl (E.2.1 7, 4, .inr (.inr (.inr (.inr fi2_2))))), (eb, .inl (E.2.1 1, 4, .inl fb2_3)), (ec, .inl (E.2.1 1, 4, .inl fc2_4)), (ed, .inl (E.2.1 1, 16, .inl fd2_5))]) ?_ rfl rfl rfl
  refine ww_aload_n C dX0_sayAloud_5 0 rfl rfl ?_
  refine ww_get C fg_X0_11 0 rfl rfl dX0_sayAloud_6 ?_
  refine ww_iconst (v := 0) C dX0_sayAloud_9 rfl ?_
  refine ww_aload_n C dX0_sayAloud_10 1 rfl rfl ?_
  obtain ⟨f_12, ef_12⟩ : ∃ z : Nat → Option Nat, va_up fi2_2 0 (some sa) = z := ⟨_, rfl⟩
  refine ww_astS (t0 := 7) (ws' := [(e, .inr (0, [.int 1, .int 0, .ref ea, .ref eb, .ref ec, .ref ed])), (ea, .inl (E.2.1 7, 4, .inr (.inr (.inr (.inr f_12))))), (eb, .inl (E.2.1 1, 4, .inl fb2_3)), (ec, .inl (E.2.1 1, 4, .inl fc2_4)), (ed, .inl (E.2.1 1, 16, .inl fd2_5))]) C hro 1 rfl rfl (SYg.o (SYv.g hsa)) (vin rfl) ef_12 rfl dX0_sayAloud_11 ?_
  refine ww_iconst (v := 0) C dX0_sayAloud_12 rfl ?_
  refine ww_istore_n (lv' := [(2, .int 0), (0, .ref e), (1, .ref sa)]) C dX0_sayAloud_13 rfl rfl rfl ?_
  have loop_14 : ∀ (fu : Nat) (i1 : Nat) (f1 : Nat → Int32), (i1 ≤ 4) → (SAx i1 f1) → 4 - i1 < fu → WW X 3 E 14 [(2, .int (nI i1)), (0, .ref e), (1, .ref sa)] [] [(e, .inr (0, [.int 1, .int 0, .ref ea, .ref eb, .ref ec, .ref ed])), (ea, .inl (E.2.1 7, 4, .inr (.inr (.inr (.inr f_12))))), (eb, .inl (E.2.1 1, 4, .inl fb2_3)), (ec, .inl (E.2.1 1, 4, .inl fc2_4)), (ed, .inl (E.2.1 1, 16, .inl f1))] 0 0 := by
    intro fu
    induction fu with
    | zero => intro i1 f1 hi1 hsa1 hmeas; exact absurd hmeas (Nat.not_lt_zero _)
    | succ fu ih_14 =>
      intro i1 f1 hi1 hsa1 hmeas
      refine ww_iload_n C dX0_sayAloud_14 0 rfl rfl ?_
      refine ww_iconst (v := 4) C dX0_sayAloud_15 rfl ?_
      refine ww_icmp_ge (tgt := 34) C dX0_sayAloud_16 (by decide) (fun c_13 => ?_) (fun c_13 => ?_)
      · have zc_13 : ((i1 : Nat) : Int) ≥ 4 := i_le rfl (nI_toInt (n := i1) (by omega)) c_13
        exact ww_vret (u := [(e, .inr (0, [.int 1, .int 0, .ref ea, .ref eb, .ref ec, .ref ed])), (ea, .inl (E.2.1 7, 4, .inr (.inr (.inr (.inr f_12))))), (eb, .inl (E.2.1 1, 4, .inl fb2_3)), (ec, .inl (E.2.1 1, 4, .inl fc2_4)), (ed, .inl (E.2.1 1, 16, .inl f1))]) C hT [0, 1, 2, 3, 4] rfl rfl rfl rfl dX0_sayAloud_34 (⟨f_12, fb2_3, fc2_4, f1, (va_up T2_6 0 (some SS)), rfl, (SYT.some h_7 hsa ef_12), (va_one h_10), (fun c hc => (h_8 c hc).2), (by rw [show (4 : Nat) = i1 by omega]; exact hsa1)⟩)
      · have zc_13 : ((i1 : Nat) : Int) < 4 := i_nle rfl (nI_toInt (n := i1) (by omega)) c_13
        refine ww_aload_n C dX0_sayAloud_19 1 rfl rfl ?_
        refine ww_iload_n C dX0_sayAloud_20 0 rfl rfl ?_
        refine ww_iconst (v := 0) C dX0_sayAloud_21 rfl ?_
        refine ww_iconst (v := 0) C dX0_sayAloud_22 rfl ?_
        refine ww_iconst (v := 1) C dX0_sayAloud_23 rfl ?_
        refine ww_ci (wr := []) (k' := 0) (n' := 0) C (run_V (As := [.int (nI i1), .int 0, .int 0, .int 1]) (rest := []) C (e_hold X.2.1 E ro e i1 0 0 1 1 0 ea eb ec ed f_12 fb2_3 fc2_4 f1 (by omega) (by omega)) mi_X0_hold wl_X0_38 rfl 0 0 rfl rfl rfl rfl rfl dX0_sayAloud_24) (roK hro) [0, 1, 2, 3, 4] [] rfl rfl rfl rfl (fun r_14 uz hw => ?_)
        refine ex1 hw ?_
        clear hw
        intro fd2_15 hw
        refine an2 hw ?_
        clear hw
        intro he_18 h_16 hw
        have h_17 := hw
        clear hw
        subst he_18
        refine ww_eq (ws' := [(e, .inr (0, [.int 1, .int 0, .ref ea, .ref eb, .ref ec, .ref ed])), (ea, .inl (E.2.1 7, 4, .inr (.inr (.inr (.inr f_12))))), (eb, .inl (E.2.1 1, 4, .inl fb2_3)), (ec, .inl (E.2.1 1, 4, .inl fc2_4)), (ed, .inl (E.2.1 1, 16, .inl fd2_15))]) ?_ rfl rfl rfl
        refine ww_pop C dX0_sayAloud_27 rfl ?_
        refine ww_iinc (j := 0) (v := (nI (i1 + 1))) (lv' := [(2, .int (nI (i1 + 1))), (0, .ref e), (1, .ref sa)]) C dX0_sayAloud_28 rfl (nI_add i1 1) rfl rfl ?_
        refine ww_goto (tgt := 14) C dX0_sayAloud_31 (by decide) ?_
        exact ww_lv [0, 1, 2] rfl (ww_sub [0, 1, 2, 3, 4] rfl rfl (ih_14 (i1 + 1) fd2_15 (by omega) (SAx.ext hsa1 (by omega) h_16) (by omega)))
  exact ww_lv [0, 1, 2] rfl (ww_sub [0, 1, 2, 3, 4] rfl rfl (loop_14 _ 0 fd2_5 (by omega) (SAx.nil h_9) (Nat.lt_succ_self _)))
theorem dX0_sayApart_0 : decode cX0_sayApart 0 = .ok (.aload_n 0, 1) := dl_42 (by decide +kernel)
theorem dX0_sayApart_1 : decode cX0_sayApart 1 = .ok (.iconst 2, 1) := dl_5 (by decide +kernel)
theorem dX0_sayApart_2 : decode cX0_sayApart 2 = .ok (.invokevirtual 34, 3) := dl_182 (by decide +kernel)
theorem dX0_sayApart_5 : decode cX0_sayApart 5 = .ok (.aload_n 0, 1) := dl_42 (by decide +kernel)
theorem dX0_sayApart_6 : decode cX0_sayApart 6 = .ok (.getfield 11, 3) := dl_180 (by decide +kernel)
theorem dX0_sayApart_9 : decode cX0_sayApart 9 = .ok (.iload_n 2, 1) := dl_28 (by decide +kernel)
theorem dX0_sayApart_10 : decode cX0_sayApart 10 = .ok (.aload_n 1, 1) := dl_43 (by decide +kernel)
theorem dX0_sayApart_11 : decode cX0_sayApart 11 = .ok (.aastore, 1) := dl_83 (by decide +kernel)
theorem dX0_sayApart_12 : decode cX0_sayApart 12 = .ok (.iconst 0, 1) := dl_3 (by decide +kernel)
theorem dX0_sayApart_13 : decode cX0_sayApart 13 = .ok (.istore 4, 2) := dl_54 (by decide +kernel)
theorem dX0_sayApart_15 : decode cX0_sayApart 15 = .ok (.iload 4, 2) := dl_21 (by decide +kernel)
theorem dX0_sayApart_17 : decode cX0_sayApart 17 = .ok (.iconst 4, 1) := dl_7 (by decide +kernel)
theorem dX0_sayApart_18 : decode cX0_sayApart 18 = .ok (.if_icmp .ge 42, 3) := dl_162 (by decide +kernel)
theorem dX0_sayApart_60 : decode cX0_sayApart 60 = .ok (.return_, 1) := dl_177 (by decide +kernel)
theorem dX0_sayApart_21 : decode cX0_sayApart 21 = .ok (.aload_n 0, 1) := dl_42 (by decide +kernel)
theorem dX0_sayApart_22 : decode cX0_sayApart 22 = .ok (.iload 4, 2) := dl_21 (by decide +kernel)
theorem dX0_sayApart_24 : decode cX0_sayApart 24 = .ok (.iconst 0, 1) := dl_3 (by decide +kernel)
theorem dX0_sayApart_25 : decode cX0_sayApart 25 = .ok (.iload_n 3, 1) := dl_29 (by decide +kernel)
theorem dX0_sayApart_26 : decode cX0_sayApart 26 = .ok (.iload 4, 2) := dl_21 (by decide +kernel)
theorem dX0_sayApart_28 : decode cX0_sayApart 28 = .ok (.invokestatic 42, 3) := dl_184 (by decide +kernel)
theorem dX0_sayApart_31 : decode cX0_sayApart 31 = .ok (.ifCond .eq 7, 3) := dl_153 (by decide +kernel)
theorem dX0_sayApart_34 : decode cX0_sayApart 34 = .ok (.iconst 0, 1) := dl_3 (by decide +kernel)
theorem dX0_sayApart_35 : decode cX0_sayApart 35 = .ok (.goto 4, 3) := dl_167 (by decide +kernel)
theorem dX0_sayApart_39 : decode cX0_sayApart 39 = .ok (.iconst 1, 1) := dl_4 (by decide +kernel)
theorem dX0_sayApart_40 : decode cX0_sayApart 40 = .ok (.invokevirtual 38, 3) := dl_182 (by decide +kernel)
theorem dX0_sayApart_43 : decode cX0_sayApart 43 = .ok (.pop, 1) := dl_87 (by decide +kernel)
theorem dX0_sayApart_44 : decode cX0_sayApart 44 = .ok (.aload_n 0, 1) := dl_42 (by decide +kernel)
theorem dX0_sayApart_45 : decode cX0_sayApart 45 = .ok (.iload 4, 2) := dl_21 (by decide +kernel)
theorem dX0_sayApart_47 : decode cX0_sayApart 47 = .ok (.iconst 1, 1) := dl_4 (by decide +kernel)
theorem dX0_sayApart_48 : decode cX0_sayApart 48 = .ok (.iconst 1, 1) := dl_4 (by decide +kernel)
theorem dX0_sayApart_49 : decode cX0_sayApart 49 = .ok (.iconst 1, 1) := dl_4 (by decide +kernel)
theorem dX0_sayApart_50 : decode cX0_sayApart 50 = .ok (.invokevirtual 38, 3) := dl_182 (by decide +kernel)
theorem dX0_sayApart_53 : decode cX0_sayApart 53 = .ok (.pop, 1) := dl_87 (by decide +kernel)
theorem dX0_sayApart_54 : decode cX0_sayApart 54 = .ok (.iinc 4 1, 3) := dl_132 (by decide +kernel)
theorem dX0_sayApart_57 : decode cX0_sayApart 57 = .ok (.goto (-42), 3) := dl_167 (by decide +kernel)
theorem dX0_sayApart_38 : decode cX0_sayApart 38 = .ok (.iconst 1, 1) := dl_4 (by decide +kernel)
set_option maxRecDepth 100000 in
set_option maxHeartbeats 4000000 in
theorem e_sayApart (l : Launch) (E : EV) (ro : va_W) (e : Nat) (sa : Nat) (c : Nat) (gr : Int32) (ecs : Nat) (erc : Nat) (ea : Nat) (eb : Nat) (ec : Nat) (ed : Nat) (efi : Nat → Option Nat) (efb : Nat → Int32) (efc : Nat → Int32) (efd : Nat → Int32) (eT : Nat → Option SVal) (SS : SVal) (hecs : ecs ≤ 4) (herc : erc ≤ 3) (hefi : SYT E ro 4 efi eT) (hsa : SYv E ro sa SS) (hc : c < 4) : CT l yX0_sayApart (Cond.code yX0_sayApart cX0_sayApart 5 none :: TB) ({ frames := 1, cells := 0, slots := 0, locals := 25 }) E ro [.ref e, .ref sa, .int (nI c), .int gr] [(e, .inr (0, [.int (nI ecs), .int (nI erc), .ref ea, .ref eb, .ref ec, .ref ed])), (ea, .inl (E.2.1 7, 4, .inr (.inr (.inr (.inr efi))))), (eb, .inl (E.2.1 1, 4, .inl efb)), (ec, .inl (E.2.1 1, 4, .inl efc)), (ed, .inl (E.2.1 1, 16, .inl efd))] (Qv E (fun uz => (∃ (fi2 : Nat → Option Nat) (fb2 : Nat → Int32) (fc2 : Nat → Int32) (fd2 : Nat → Int32) (T2 : Nat → Option SVal), uz = [(e, .inr (0, [.int 2, .int 0, .ref ea, .ref eb, .ref ec, .ref ed])), (ea, .inl (E.2.1 7, 4, .inr (.inr (.inr (.inr fi2))))), (eb, .inl (E.2.1 1, 4, .inl fb2)), (ec, .inl (E.2.1 1, 4, .inl fc2)), (ed, .inl (E.2.1 1, 16, .inl fd2))] ∧ (SYT E ro 4 fi2 T2) ∧ (∀ z, z < 4 → T2 z = if z = c then some SS else none) ∧ (∀ z, z < 4 → fb2 z = 0 ∧ fc2 z = 0) ∧ (SPx gr 4 fd2)))) 0 0 := by
  refine ct_of rfl rfl ?_
  intro X C hT hin hro
  show WW X 5 E 0 [(0, .ref e), (1, .ref sa), (2, .int (nI c)), (3, .int gr)] [] [(e, .inr (0, [.int (nI ecs), .int (nI erc), .ref ea, .ref eb, .ref ec, .ref ed])), (ea, .inl (E.2.1 7, 4, .inr (.inr (.inr (.inr efi))))), (eb, .inl (E.2.1 1, 4, .inl efb)), (ec, .inl (E.2.1 1, 4, .inl efc)), (ed, .inl (E.2.1 1, 16, .inl efd))] 0 0
  refine ww_aload_n C dX0_sayApart_0 0 rfl rfl ?_
  refine ww_iconst (v := 2) C dX0_sayApart_1 rfl ?_
  refine ww_cv (wr := []) (k' := 0) (n' := 0) C (run_V (As := [.int 2]) (rest := []) C (e_begin X.2.1 E ro e 2 ecs erc ea eb ec ed efi efb efc efd eT (by omega) (by omega) hefi (by omega)) mi_X0_begin wl_X0_34 rfl 0 0 rfl rfl rfl rfl rfl dX0_sayApart_2) (roK hro) [0, 1, 2, 3, 4] [] rfl rfl rfl rfl (fun uz hw => ?_)
  refine ex5 hw ?_
  clear hw
  intro fi2_2 fb2_3 fc2_4 fd2_5 T2_6 hw
  refine an4 hw ?_
  clear hw
  intro he_11 h_7 h_8 h_9 hw
  have h_10 := hw
  clear hw
  subst he_11
  refine ww_eq (ws' := [(e, .inr (0, [.int 2, .int 0, .ref ea, .ref eb, .ref ec, .ref ed])), (ea, .inl (E.2.1 7, 4, .inr (.inr (.inr (.inr fi2_2))))), (eb, .inl (E.2.1 1, 4, .inl fb2_3)), (ec, .inl (E.2.1 1, 4, .inl fc2_4)), (ed, .inl (E.2.1 1, 16, .inl fd2_5))]) ?_ rfl rfl rfl
  refine ww_aload_n C dX0_sayApart_5 0 rfl rfl ?_
  refine ww_get C fg_X0_11 0 rfl rfl dX0_sayApart_6 ?_
  refine ww_iload_n C dX0_sayApart_9 2 rfl rfl ?_
  refine ww_aload_n C dX0_sayApart_10 1 rfl rfl ?_
  obtain ⟨f_12, ef_12⟩ : ∃ z : Nat → Option Nat, va_up fi2_2 c (some sa) = z := ⟨_, rfl⟩
  refine ww_astS (t0 := 7) (ws' := [(e, .inr (0, [.int 2, .int 0, .ref ea, .ref eb, .ref ec, .ref ed])), (ea, .inl (E.2.1 7, 4, .inr (.inr (.inr (.inr f_12))))), (eb, .inl (E.2.1 1, 4, .inl fb2_3)), (ec, .inl (E.2.1 1, 4, .inl fc2_4)), (ed, .inl (E.2.1 1, 16, .inl fd2_5))]) C hro 1 rfl rfl (SYg.o (SYv.g hsa)) (vp_in_nI (by omega) (by omega)) (ldn2 (by omega) ef_12) rfl dX0_sayApart_11 ?_
  refine ww_iconst (v := 0) C dX0_sayApart_12 rfl ?_
  refine ww_istore (lv' := [(4, .int 0), (0, .ref e), (1, .ref sa), (2, .int (nI c)), (3, .int gr)]) C dX0_sayApart_13 rfl rfl ?_
  have loop_15 : ∀ (fu : Nat) (i1 : Nat) (f1 : Nat → Int32), (i1 ≤ 4) → (SPx gr i1 f1) → 4 - i1 < fu → WW X 5 E 15 [(4, .int (nI i1)), (0, .ref e), (1, .ref sa), (2, .int (nI c)), (3, .int gr)] [] [(e, .inr (0, [.int 2, .int 0, .ref ea, .ref eb, .ref ec, .ref ed])), (ea, .inl (E.2.1 7, 4, .inr (.inr (.inr (.inr f_12))))), (eb, .inl (E.2.1 1, 4, .inl fb2_3)), (ec, .inl (E.2.1 1, 4, .inl fc2_4)), (ed, .inl (E.2.1 1, 16, .inl f1))] 0 0 := by
    intro fu
    induction fu with
    | zero => intro i1 f1 hi1 hsp hmeas; exact absurd hmeas (Nat.not_lt_zero _)
    | succ fu ih_15 =>
      intro i1 f1 hi1 hsp hmeas
      refine ww_iload C dX0_sayApart_15 0 rfl ?_
      refine ww_iconst (v := 4) C dX0_sayApart_17 rfl ?_
      refine ww_icmp_ge (tgt := 60) C dX0_sayApart_18 (by decide) (fun c_13 => ?_) (fun c_13 => ?_)
      · have zc_13 : ((i1 : Nat) : Int) ≥ 4 := i_le rfl (nI_toInt (n := i1) (by omega)) c_13
        exact ww_vret (u := [(e, .inr (0, [.int 2, .int 0, .ref ea, .ref eb, .ref ec, .ref ed])), (ea, .inl (E.2.1 7, 4, .inr (.inr (.inr (.inr f_12))))), (eb, .inl (E.2.1 1, 4, .inl fb2_3)), (ec, .inl (E.2.1 1, 4, .inl fc2_4)), (ed, .inl (E.2.1 1, 16, .inl f1))]) C hT [0, 1, 2, 3, 4] rfl rfl rfl rfl dX0_sayApart_60 (⟨f_12, fb2_3, fc2_4, f1, (va_up T2_6 c (some SS)), rfl, (SYT.some h_7 hsa ef_12), (va_one h_10), (fun c hc => (h_8 c hc).2), (by rw [show (4 : Nat) = i1 by omega]; exact hsp)⟩)
      · have zc_13 : ((i1 : Nat) : Int) < 4 := i_nle rfl (nI_toInt (n := i1) (by omega)) c_13
        refine ww_aload_n C dX0_sayApart_21 1 rfl rfl ?_
        refine ww_iload C dX0_sayApart_22 0 rfl ?_
        refine ww_iconst (v := 0) C dX0_sayApart_24 rfl ?_
        refine ww_iload_n C dX0_sayApart_25 4 rfl rfl ?_
        refine ww_iload C dX0_sayApart_26 0 rfl ?_
        refine ww_ci (wr := [(e, .inr (0, [.int 2, .int 0, .ref ea, .ref eb, .ref ec, .ref ed])), (ea, .inl (E.2.1 7, 4, .inr (.inr (.inr (.inr f_12))))), (eb, .inl (E.2.1 1, 4, .inl fb2_3)), (ec, .inl (E.2.1 1, 4, .inl fc2_4)), (ed, .inl (E.2.1 1, 16, .inl f1))]) (k' := 0) (n' := 0) C (run_SN (As := [.int gr, .int (nI i1)]) (rest := [.int 0, .int (nI i1), .ref e]) C (c_hasN X.2.1 E ro gr i1 (by omega)) ms_X11_has (List.mem_of_getElem? (i := 17) rfl) rfl rfl rfl rfl dX0_sayApart_28) (roK hro) [] [0, 1, 2, 3, 4] rfl rfl rfl rfl (fun r_14 uz hw => ?_)
        rcases hw with hw | hw
        · refine an2 hw ?_
          clear hw
          intro he_16 he_17 hw
          have h_15 := hw
          clear hw
          have he_16 := he_16.symm
          subst he_16
          subst he_17
          refine ww_eq (ws' := [(e, .inr (0, [.int 2, .int 0, .ref ea, .ref eb, .ref ec, .ref ed])), (ea, .inl (E.2.1 7, 4, .inr (.inr (.inr (.inr f_12))))), (eb, .inl (E.2.1 1, 4, .inl fb2_3)), (ec, .inl (E.2.1 1, 4, .inl fc2_4)), (ed, .inl (E.2.1 1, 16, .inl f1))]) ?_ rfl rfl rfl
          refine ww_if_eq_f (tgt := 38) C dX0_sayApart_31 (by decide) (by decide) ?_
          refine ww_iconst (v := 0) C dX0_sayApart_34 rfl ?_
          refine ww_goto (tgt := 39) C dX0_sayApart_35 (by decide) ?_
          refine ww_iconst (v := 1) C dX0_sayApart_39 rfl ?_
          refine ww_ci (wr := []) (k' := 0) (n' := 0) C (run_V (As := [.int (nI i1), .int 0, .int 0, .int 1]) (rest := []) C (e_hold X.2.1 E ro e i1 0 0 1 2 0 ea eb ec ed f_12 fb2_3 fc2_4 f1 (by omega) (by omega)) mi_X0_hold wl_X0_38 rfl 0 0 rfl rfl rfl rfl rfl dX0_sayApart_40) (roK hro) [0, 1, 2, 3, 4] [] rfl rfl rfl rfl (fun r_21 uz hw => ?_)
          refine ex1 hw ?_
          clear hw
          intro fd2_22 hw
          refine an2 hw ?_
          clear hw
          intro he_25 h_23 hw
          have h_24 := hw
          clear hw
          subst he_25
          refine ww_eq (ws' := [(e, .inr (0, [.int 2, .int 0, .ref ea, .ref eb, .ref ec, .ref ed])), (ea, .inl (E.2.1 7, 4, .inr (.inr (.inr (.inr f_12))))), (eb, .inl (E.2.1 1, 4, .inl fb2_3)), (ec, .inl (E.2.1 1, 4, .inl fc2_4)), (ed, .inl (E.2.1 1, 16, .inl fd2_22))]) ?_ rfl rfl rfl
          refine ww_pop C dX0_sayApart_43 rfl ?_
          refine ww_aload_n C dX0_sayApart_44 1 rfl rfl ?_
          refine ww_iload C dX0_sayApart_45 0 rfl ?_
          refine ww_iconst (v := 1) C dX0_sayApart_47 rfl ?_
          refine ww_iconst (v := 1) C dX0_sayApart_48 rfl ?_
          refine ww_iconst (v := 1) C dX0_sayApart_49 rfl ?_
          refine ww_ci (wr := []) (k' := 0) (n' := 0) C (run_V (As := [.int (nI i1), .int 1, .int 1, .int 1]) (rest := []) C (e_hold X.2.1 E ro e i1 1 1 1 2 0 ea eb ec ed f_12 fb2_3 fc2_4 fd2_22 (by omega) (by omega)) mi_X0_hold wl_X0_38 rfl 0 0 rfl rfl rfl rfl rfl dX0_sayApart_50) (roK hro) [0, 1, 2, 3, 4] [] rfl rfl rfl rfl (fun r_26 uz hw => ?_)
          refine ex1 hw ?_
          clear hw
          intro fd2_27 hw
          refine an2 hw ?_
          clear hw
          intro he_30 h_28 hw
          have h_29 := hw
          clear hw
          subst he_30
          refine ww_eq (ws' := [(e, .inr (0, [.int 2, .int 0, .ref ea, .ref eb, .ref ec, .ref ed])), (ea, .inl (E.2.1 7, 4, .inr (.inr (.inr (.inr f_12))))), (eb, .inl (E.2.1 1, 4, .inl fb2_3)), (ec, .inl (E.2.1 1, 4, .inl fc2_4)), (ed, .inl (E.2.1 1, 16, .inl fd2_27))]) ?_ rfl rfl rfl
          refine ww_pop C dX0_sayApart_53 rfl ?_
          refine ww_iinc (j := 0) (v := (nI (i1 + 1))) (lv' := [(4, .int (nI (i1 + 1))), (0, .ref e), (1, .ref sa), (2, .int (nI c)), (3, .int gr)]) C dX0_sayApart_54 rfl (nI_add i1 1) rfl rfl ?_
          refine ww_goto (tgt := 15) C dX0_sayApart_57 (by decide) ?_
          exact ww_lv [0, 1, 2, 3, 4] rfl (ww_sub [0, 1, 2, 3, 4] rfl rfl (ih_15 (i1 + 1) fd2_27 (by omega) (SPx.ext hsp (by omega) (Or.inl ⟨h_15, rfl⟩) h_23 h_28) (by omega)))
        · refine an2 hw ?_
          clear hw
          intro he_19 he_20 hw
          have h_18 := hw
          clear hw
          have he_19 := he_19.symm
          subst he_19
          subst he_20
          refine ww_eq (ws' := [(e, .inr (0, [.int 2, .int 0, .ref ea, .ref eb, .ref ec, .ref ed])), (ea, .inl (E.2.1 7, 4, .inr (.inr (.inr (.inr f_12))))), (eb, .inl (E.2.1 1, 4, .inl fb2_3)), (ec, .inl (E.2.1 1, 4, .inl fc2_4)), (ed, .inl (E.2.1 1, 16, .inl f1))]) ?_ rfl rfl rfl
          refine ww_if_eq_t (tgt := 38) C dX0_sayApart_31 (by decide) (rfl) ?_
          refine ww_iconst (v := 1) C dX0_sayApart_38 rfl ?_
          refine ww_iconst (v := 1) C dX0_sayApart_39 rfl ?_
          refine ww_ci (wr := []) (k' := 0) (n' := 0) C (run_V (As := [.int (nI i1), .int 0, .int 1, .int 1]) (rest := []) C (e_hold X.2.1 E ro e i1 0 1 1 2 0 ea eb ec ed f_12 fb2_3 fc2_4 f1 (by omega) (by omega)) mi_X0_hold wl_X0_38 rfl 0 0 rfl rfl rfl rfl rfl dX0_sayApart_40) (roK hro) [0, 1, 2, 3, 4] [] rfl rfl rfl rfl (fun r_31 uz hw => ?_)
          refine ex1 hw ?_
          clear hw
          intro fd2_32 hw
          refine an2 hw ?_
          clear hw
          intro he_35 h_33 hw
          have h_34 := hw
          clear hw
          subst he_35
          refine ww_eq (ws' := [(e, .inr (0, [.int 2, .int 0, .ref ea, .ref eb, .ref ec, .ref ed])), (ea, .inl (E.2.1 7, 4, .inr (.inr (.inr (.inr f_12))))), (eb, .inl (E.2.1 1, 4, .inl fb2_3)), (ec, .inl (E.2.1 1, 4, .inl fc2_4)), (ed, .inl (E.2.1 1, 16, .inl fd2_32))]) ?_ rfl rfl rfl
          refine ww_pop C dX0_sayApart_43 rfl ?_
          refine ww_aload_n C dX0_sayApart_44 1 rfl rfl ?_
          refine ww_iload C dX0_sayApart_45 0 rfl ?_
          refine ww_iconst (v := 1) C dX0_sayApart_47 rfl ?_
          refine ww_iconst (v := 1) C dX0_sayApart_48 rfl ?_
          refine ww_iconst (v := 1) C dX0_sayApart_49 rfl ?_
          refine ww_ci (wr := []) (k' := 0) (n' := 0) C (run_V (As := [.int (nI i1), .int 1, .int 1, .int 1]) (rest := []) C (e_hold X.2.1 E ro e i1 1 1 1 2 0 ea eb ec ed f_12 fb2_3 fc2_4 fd2_32 (by omega) (by omega)) mi_X0_hold wl_X0_38 rfl 0 0 rfl rfl rfl rfl rfl dX0_sayApart_50) (roK hro) [0, 1, 2, 3, 4] [] rfl rfl rfl rfl (fun r_36 uz hw => ?_)
          refine ex1 hw ?_
          clear hw
          intro fd2_37 hw
          refine an2 hw ?_
          clear hw
          intro he_40 h_38 hw
          have h_39 := hw
          clear hw
          subst he_40
          refine ww_eq (ws' := [(e, .inr (0, [.int 2, .int 0, .ref ea, .ref eb, .ref ec, .ref ed])), (ea, .inl (E.2.1 7, 4, .inr (.inr (.inr (.inr f_12))))), (eb, .inl (E.2.1 1, 4, .inl fb2_3)), (ec, .inl (E.2.1 1, 4, .inl fc2_4)), (ed, .inl (E.2.1 1, 16, .inl fd2_37))]) ?_ rfl rfl rfl
          refine ww_pop C dX0_sayApart_53 rfl ?_
          refine ww_iinc (j := 0) (v := (nI (i1 + 1))) (lv' := [(4, .int (nI (i1 + 1))), (0, .ref e), (1, .ref sa), (2, .int (nI c)), (3, .int gr)]) C dX0_sayApart_54 rfl (nI_add i1 1) rfl rfl ?_
          refine ww_goto (tgt := 15) C dX0_sayApart_57 (by decide) ?_
          exact ww_lv [0, 1, 2, 3, 4] rfl (ww_sub [0, 1, 2, 3, 4] rfl rfl (ih_15 (i1 + 1) fd2_37 (by omega) (SPx.ext hsp (by omega) (Or.inr ⟨h_18, rfl⟩) h_33 h_38) (by omega)))
  exact ww_lv [0, 1, 2, 3, 4] rfl (ww_sub [0, 1, 2, 3, 4] rfl rfl (loop_15 _ 0 fd2_5 (by omega) (SPx.nil h_9) (Nat.lt_succ_self _)))
theorem EVr.cs {E : EV} {ro : va_W} {e cs rc : Nat} {T : Nat → Option SVal} {fb fc fd : Nat → Int32} (h : EVr E ro e cs rc T fb fc fd) : cs ≤ 4 := by
  obtain ⟨i0, i1, i2, i3, i4, a, b, c, d, fi, h0, h1, h2, h3, h4, h5, h6, h7⟩ := h; exact h5
theorem EVr.rc {E : EV} {ro : va_W} {e cs rc : Nat} {T : Nat → Option SVal} {fb fc fd : Nat → Int32} (h : EVr E ro e cs rc T fb fc fd) : rc ≤ 3 := by
  obtain ⟨i0, i1, i2, i3, i4, a, b, c, d, fi, h0, h1, h2, h3, h4, h5, h6, h7⟩ := h; exact h6
def chg (fb fc : Nat → Int32) (x : Int32) (c : Nat) : Int32 := x &&& (fc c ^^^ (-1 : Int32)) ||| fb c
theorem dX0_changed_0 : decode cX0_changed 0 = .ok (.iload_n 1, 1) := dl_27 (by decide +kernel)
theorem dX0_changed_1 : decode cX0_changed 1 = .ok (.aload_n 0, 1) := dl_42 (by decide +kernel)
theorem dX0_changed_2 : decode cX0_changed 2 = .ok (.getfield 21, 3) := dl_180 (by decide +kernel)
theorem dX0_changed_5 : decode cX0_changed 5 = .ok (.iload_n 2, 1) := dl_28 (by decide +kernel)
theorem dX0_changed_6 : decode cX0_changed 6 = .ok (.iaload, 1) := dl_46 (by decide +kernel)
theorem dX0_changed_7 : decode cX0_changed 7 = .ok (.iconst (-1), 1) := dl_2 (by decide +kernel)
theorem dX0_changed_8 : decode cX0_changed 8 = .ok (.ixor, 1) := dl_130 (by decide +kernel)
theorem dX0_changed_9 : decode cX0_changed 9 = .ok (.iand, 1) := dl_126 (by decide +kernel)
theorem dX0_changed_10 : decode cX0_changed 10 = .ok (.aload_n 0, 1) := dl_42 (by decide +kernel)
theorem dX0_changed_11 : decode cX0_changed 11 = .ok (.getfield 17, 3) := dl_180 (by decide +kernel)
theorem dX0_changed_14 : decode cX0_changed 14 = .ok (.iload_n 2, 1) := dl_28 (by decide +kernel)
theorem dX0_changed_15 : decode cX0_changed 15 = .ok (.iaload, 1) := dl_46 (by decide +kernel)
theorem dX0_changed_16 : decode cX0_changed 16 = .ok (.ior, 1) := dl_128 (by decide +kernel)
theorem dX0_changed_17 : decode cX0_changed 17 = .ok (.ireturn, 1) := dl_172 (by decide +kernel)
set_option maxRecDepth 100000 in
set_option maxHeartbeats 4000000 in
theorem e_changed (l : Launch) (E : EV) (ro : va_W) (e : Nat) (x : Int32) (c : Nat) (ecs : Nat) (erc : Nat) (eT : Nat → Option SVal) (efb : Nat → Int32) (efc : Nat → Int32) (efd : Nat → Int32) (hc : c < 4) (hev : EVr E ro e ecs erc eT efb efc efd) : CT l yX0_changed (Cond.code yX0_changed cX0_changed 3 (some .int) :: TB) ({ frames := 0, cells := 0, slots := 0, locals := 0 }) E ro [.ref e, .int x, .int (nI c)] [] (Qi E (fun (rz : Int32) uz => (rz = (chg efb efc x c) ∧ uz = []))) 0 0 := by
  refine ct_of rfl rfl ?_
  intro X C hT hin hro
  show WW X 3 E 0 [(0, .ref e), (1, .int x), (2, .int (nI c))] [] [] 0 0
  obtain ⟨i0y_1, i1y_1, i2y_1, i3y_1, i4y_1, cay_1, cby_1, ccy_1, cdy_1, fiy_1, g0y_1, g1y_1, g2y_1, g3y_1, g4y_1, hcsy_1, hrcy_1, hfiy_1⟩ := id hev
  refine ww_iload_n C dX0_changed_0 1 rfl rfl ?_
  refine ww_aload_n C dX0_changed_1 0 rfl rfl ?_
  refine ww_getR C hro fg_X0_21 i0y_1 g0y_1 rfl dX0_changed_2 ?_
  refine ww_iload_n C dX0_changed_5 2 rfl rfl ?_
  obtain ⟨x_2, ex_2⟩ : ∃ z : Int32, efc c = z := ⟨_, rfl⟩
  refine ww_ialdR (v := x_2) C hro i3y_1 g3y_1 (vp_in_nI (by omega) (by omega)) (ldn (by omega) ex_2) dX0_changed_6 ?_
  refine ww_iconst (v := (-1)) C dX0_changed_7 rfl ?_
  obtain ⟨x_3, ex_3⟩ : ∃ z : Int32, x_2 ^^^ ((-1) : Int32) = z := ⟨_, rfl⟩
  refine ww_ixor (v := x_3) C dX0_changed_8 ex_3 ?_
  obtain ⟨x_4, ex_4⟩ : ∃ z : Int32, x &&& x_3 = z := ⟨_, rfl⟩
  refine ww_iand (v := x_4) C dX0_changed_9 ex_4 ?_
  refine ww_aload_n C dX0_changed_10 0 rfl rfl ?_
  refine ww_getR C hro fg_X0_17 i0y_1 g0y_1 rfl dX0_changed_11 ?_
  refine ww_iload_n C dX0_changed_14 2 rfl rfl ?_
  obtain ⟨x_5, ex_5⟩ : ∃ z : Int32, efb c = z := ⟨_, rfl⟩
  refine ww_ialdR (v := x_5) C hro i2y_1 g2y_1 (vp_in_nI (by omega) (by omega)) (ldn (by omega) ex_5) dX0_changed_15 ?_
  obtain ⟨x_6, ex_6⟩ : ∃ z : Int32, x_4 ||| x_5 = z := ⟨_, rfl⟩
  refine ww_ior (v := x_6) C dX0_changed_16 ex_6 ?_
  exact ww_iret (u := []) C hT [] rfl rfl rfl rfl dX0_changed_17 (⟨(by unfold chg; rw [ex_2, ex_3, ex_4, ex_5, ex_6]), rfl⟩)
end
section
theorem BS.at {f : Nat → Int32} {P : Nat → Bool} {j : Nat} {x : Int32} (e : f j = x) (h : BS (f j) P) : BS x P := by rw [← e]; exact h
theorem BS.at2 {f : Nat → Int32} {P : Nat → Bool} {j k : Nat} {x : Int32} (hk : j = k) (e : f j = x) (h : BS (f k) P) : BS x P := by subst hk; rw [← e]; exact h
theorem all_bs {n r : Nat} {f g : Nat → Int32} {x : Int32} (h : ∀ i, i < 32 → bt x i = decide (i < n)) : BS x (vAll (am n r f g)) := h
section EVS
variable {m : AM} {al x y z u v arg : Int32} {P Q : Nat → Bool}
theorem ev_0 (h : BS x (vF m arg)) : BS x (evC m 0 arg P Q) := h
theorem ev_1 (h : BS al (vAll m)) : BS al (evC m 1 arg P Q) := h
theorem ev_b {g b c : Int32} (h : BS al (vAll m)) (hg : BS g P) (e1 : g ^^^ (-1 : Int32) = b) (e2 : al &&& b = c) : BS c (vNot m P) := BS.and h (BS.not hg e1) e2
theorem ev_2 {nn : Nat} {g b c : Int32} (h : BS al (vAll m)) (hg : BS g P) (e1 : g ^^^ (-1 : Int32) = b) (e2 : al &&& b = c) : BS c (evC m 2 arg P Q) := ev_b h hg e1 e2
theorem ev_3 {g k c : Int32} (hg : BS g P) (hk : BS k Q) (e : g &&& k = c) : BS c (evC m 3 arg P Q) := BS.and hg hk e
theorem ev_4 {g k c : Int32} (hg : BS g P) (hk : BS k Q) (e : g ||| k = c) : BS c (evC m 4 arg P Q) := BS.or hg hk e
theorem ev_5 {g b c : Int32} (hw : WFm m) (h : BS al (vAll m)) (hg : BS g P) (e1 : g ^^^ (-1 : Int32) = b) (e2 : al &&& b = c) (hx : BS x (ld m arg (bt g) 1)) (hy : BS y (ld m arg (bt c) 1)) (e3 : x &&& y = z) (e4 : z ^^^ (-1 : Int32) = u) (e5 : al &&& u = v) : BS v (evC m 5 arg P Q) := by
  have h1 := BS.and h (BS.not (BS.and (ld_b hx hg) (ld_b hy (ev_b h hg e1 e2)) e3) e4) e5
  exact h1.cg (fun w _ => vwh_c hw w)
theorem ev_6 {g b c : Int32} (hw : WFm m) (h : BS al (vAll m)) (hg : BS g P) (e1 : g ^^^ (-1 : Int32) = b) (e2 : al &&& b = c) (hx : BS x (ld m arg (bt c) 1)) (e4 : x ^^^ (-1 : Int32) = u) (e5 : al &&& u = v) : BS v (evC m 6 arg P Q) := by
  have h1 := BS.and h (BS.not (ld_b hx (ev_b h hg e1 e2)) e4) e5
  exact h1.cg (fun w _ => vev_c hw w)
theorem ev_7 {g b c : Int32} (hw : WFm m) (hn : m.1 ≤ 24) (h : BS al (vAll m)) (hg : BS g P) (e1 : g ^^^ (-1 : Int32) = b) (e2 : al &&& b = c) (hx : BS x (ld m arg (bt c) 24)) (e4 : x ^^^ (-1 : Int32) = u) (e5 : al &&& u = v) : BS v (evC m 7 arg P Q) := by
  have h1 := BS.and h (BS.not (ld_b hx (ev_b h hg e1 e2)) e4) e5
  exact h1.cg (fun w _ => vcom_c hw hn w)
theorem ev_8 {g : Int32} (hg : BS g P) (hx : BS x (vTog m arg (bt g))) : BS x (evC m 8 arg P Q) := vTog_b hx hg
end EVS
theorem dX2_plain_0 : decode cX2_plain 0 = .ok (.aload_n 1, 1) := dl_43 (by decide +kernel)
theorem dX2_plain_1 : decode cX2_plain 1 = .ok (.invokevirtual 61, 3) := dl_182 (by decide +kernel)
theorem wl_X2_61 : Cond.methodLink RX2 61 yX4_all ∈ TB := tbm (tq3 (List.mem_of_getElem? (i := 227) (by decide +kernel))) (by decide +kernel)
theorem dX2_plain_4 : decode cX2_plain 4 = .ok (.istore_n 3, 1) := dl_62 (by decide +kernel)
theorem dX2_plain_5 : decode cX2_plain 5 = .ok (.iconst 0, 1) := dl_3 (by decide +kernel)
theorem dX2_plain_6 : decode cX2_plain 6 = .ok (.istore 4, 2) := dl_54 (by decide +kernel)
theorem dX2_plain_8 : decode cX2_plain 8 = .ok (.aload_n 2, 1) := dl_44 (by decide +kernel)
theorem dX2_plain_9 : decode cX2_plain 9 = .ok (.getfield 74, 3) := dl_180 (by decide +kernel)
theorem uw_X8 : ∀ w ∈ u_ws RX8 TX8 7, w ∈ TB := uw_of [652, 654, 656, 658, 660, 662, 664] (by decide +kernel) (by decide +kernel)
theorem wf_X2_74 : Cond.fieldLink RX2 74 RX8 "ops" "[I" ∈ TB := tbm (tq3 (List.mem_of_getElem? (i := 155) (by decide +kernel))) (by decide +kernel)
theorem fg_X2_74 : FG RX2 74 8 0 := ⟨RX8, TX8, 7, uw_X8, wf_X2_74, rfl, by decide, rfl⟩
theorem dX2_plain_12 : decode cX2_plain 12 = .ok (.arraylength, 1) := dl_190 (by decide +kernel)
theorem dX2_plain_13 : decode cX2_plain 13 = .ok (.iconst 1, 1) := dl_4 (by decide +kernel)
theorem dX2_plain_14 : decode cX2_plain 14 = .ok (.isub, 1) := dl_100 (by decide +kernel)
theorem dX2_plain_15 : decode cX2_plain 15 = .ok (.istore 5, 2) := dl_54 (by decide +kernel)
theorem dX2_plain_17 : decode cX2_plain 17 = .ok (.iload 5, 2) := dl_21 (by decide +kernel)
theorem dX2_plain_19 : decode cX2_plain 19 = .ok (.ifCond .lt 285, 3) := dl_155 (by decide +kernel)
theorem dX2_plain_304 : decode cX2_plain 304 = .ok (.aload_n 0, 1) := dl_42 (by decide +kernel)
theorem dX2_plain_305 : decode cX2_plain 305 = .ok (.getfield 23, 3) := dl_180 (by decide +kernel)
theorem uw_X2 : ∀ w ∈ u_ws RX2 TX2 4, w ∈ TB := uw_of [220, 222, 224, 226] (by decide +kernel) (by decide +kernel)
theorem wf_X2_23 : Cond.fieldLink RX2 23 RX2 "truths" "[I" ∈ TB := tbm (tq1 (List.mem_of_getElem? (i := 218) (by decide +kernel))) (by decide +kernel)
theorem fg_X2_23 : FG RX2 23 2 2 := ⟨RX2, TX2, 4, uw_X2, wf_X2_23, rfl, by decide, rfl⟩
theorem dX2_plain_308 : decode cX2_plain 308 = .ok (.iconst 0, 1) := dl_3 (by decide +kernel)
theorem dX2_plain_309 : decode cX2_plain 309 = .ok (.iaload, 1) := dl_46 (by decide +kernel)
theorem dX2_plain_310 : decode cX2_plain 310 = .ok (.ireturn, 1) := dl_172 (by decide +kernel)
theorem dX2_plain_22 : decode cX2_plain 22 = .ok (.aload_n 2, 1) := dl_44 (by decide +kernel)
theorem dX2_plain_23 : decode cX2_plain 23 = .ok (.getfield 74, 3) := dl_180 (by decide +kernel)
theorem dX2_plain_26 : decode cX2_plain 26 = .ok (.iload 5, 2) := dl_21 (by decide +kernel)
theorem dX2_plain_28 : decode cX2_plain 28 = .ok (.iaload, 1) := dl_46 (by decide +kernel)
theorem dX2_plain_29 : decode cX2_plain 29 = .ok (.istore 6, 2) := dl_54 (by decide +kernel)
theorem dX2_plain_31 : decode cX2_plain 31 = .ok (.aload_n 2, 1) := dl_44 (by decide +kernel)
theorem dX2_plain_32 : decode cX2_plain 32 = .ok (.getfield 77, 3) := dl_180 (by decide +kernel)
theorem wf_X2_77 : Cond.fieldLink RX2 77 RX8 "args" "[I" ∈ TB := tbm (tq3 (List.mem_of_getElem? (i := 158) (by decide +kernel))) (by decide +kernel)
theorem fg_X2_77 : FG RX2 77 8 1 := ⟨RX8, TX8, 7, uw_X8, wf_X2_77, rfl, by decide, rfl⟩
theorem dX2_plain_35 : decode cX2_plain 35 = .ok (.iload 5, 2) := dl_21 (by decide +kernel)
theorem dX2_plain_37 : decode cX2_plain 37 = .ok (.iaload, 1) := dl_46 (by decide +kernel)
theorem dX2_plain_38 : decode cX2_plain 38 = .ok (.istore 7, 2) := dl_54 (by decide +kernel)
theorem dX2_plain_40 : decode cX2_plain 40 = .ok (.iload 4, 2) := dl_21 (by decide +kernel)
theorem dX2_plain_42 : decode cX2_plain 42 = .ok (.iconst 1, 1) := dl_4 (by decide +kernel)
theorem dX2_plain_43 : decode cX2_plain 43 = .ok (.iload 6, 2) := dl_21 (by decide +kernel)
theorem dX2_plain_45 : decode cX2_plain 45 = .ok (.invokestatic 80, 3) := dl_184 (by decide +kernel)
theorem wc_X11_under : Cond.code yX11_under cX11_under 1 (some .int) ∈ TB := tbm (tq3 (List.mem_of_getElem? (i := 143) (rfl))) (by decide +kernel)
theorem wt_X11_under : Cond.static yX11_under ∈ TB := tbm (tq3 (List.mem_of_getElem? (i := 142) (by decide +kernel))) (by decide +kernel)
theorem ms_X11_under : MS yX11_under cX11_under 1 (some .int) 1 := ⟨wc_X11_under, wn_X11, ⟨by decide +kernel, by decide +kernel, by decide +kernel⟩, wt_X11_under⟩
theorem dX2_plain_48 : decode cX2_plain 48 = .ok (.isub, 1) := dl_100 (by decide +kernel)
theorem dX2_plain_49 : decode cX2_plain 49 = .ok (.iadd, 1) := dl_96 (by decide +kernel)
theorem dX2_plain_50 : decode cX2_plain 50 = .ok (.istore 4, 2) := dl_54 (by decide +kernel)
theorem dX2_plain_52 : decode cX2_plain 52 = .ok (.iload 4, 2) := dl_21 (by decide +kernel)
theorem dX2_plain_54 : decode cX2_plain 54 = .ok (.iconst 1, 1) := dl_4 (by decide +kernel)
theorem dX2_plain_55 : decode cX2_plain 55 = .ok (.isub, 1) := dl_100 (by decide +kernel)
theorem dX2_plain_56 : decode cX2_plain 56 = .ok (.istore 8, 2) := dl_54 (by decide +kernel)
theorem dX2_plain_58 : decode cX2_plain 58 = .ok (.aload_n 0, 1) := dl_42 (by decide +kernel)
theorem dX2_plain_59 : decode cX2_plain 59 = .ok (.getfield 23, 3) := dl_180 (by decide +kernel)
theorem dX2_plain_62 : decode cX2_plain 62 = .ok (.iload 8, 2) := dl_21 (by decide +kernel)
theorem dX2_plain_64 : decode cX2_plain 64 = .ok (.iaload, 1) := dl_46 (by decide +kernel)
theorem dX2_plain_65 : decode cX2_plain 65 = .ok (.istore 9, 2) := dl_54 (by decide +kernel)
theorem dX2_plain_67 : decode cX2_plain 67 = .ok (.iload_n 3, 1) := dl_29 (by decide +kernel)
theorem dX2_plain_68 : decode cX2_plain 68 = .ok (.iload 9, 2) := dl_21 (by decide +kernel)
theorem dX2_plain_70 : decode cX2_plain 70 = .ok (.iconst (-1), 1) := dl_2 (by decide +kernel)
theorem dX2_plain_71 : decode cX2_plain 71 = .ok (.ixor, 1) := dl_130 (by decide +kernel)
theorem dX2_plain_72 : decode cX2_plain 72 = .ok (.iand, 1) := dl_126 (by decide +kernel)
theorem dX2_plain_73 : decode cX2_plain 73 = .ok (.istore 10, 2) := dl_54 (by decide +kernel)
theorem dX2_plain_75 : decode cX2_plain 75 = .ok (.iload 6, 2) := dl_21 (by decide +kernel)
theorem dX2_plain_77 : decode cX2_plain 77 = .ok (.tableswitch 206 0 7 #[47, 63, 74, 86, 106, 126, 159, 182], 47) := by decide +kernel
theorem dX2_plain_124 : decode cX2_plain 124 = .ok (.aload_n 0, 1) := dl_42 (by decide +kernel)
theorem dX2_plain_125 : decode cX2_plain 125 = .ok (.getfield 23, 3) := dl_180 (by decide +kernel)
theorem dX2_plain_128 : decode cX2_plain 128 = .ok (.iload 8, 2) := dl_21 (by decide +kernel)
theorem dX2_plain_130 : decode cX2_plain 130 = .ok (.aload_n 1, 1) := dl_43 (by decide +kernel)
theorem dX2_plain_131 : decode cX2_plain 131 = .ok (.iload 7, 2) := dl_21 (by decide +kernel)
theorem dX2_plain_133 : decode cX2_plain 133 = .ok (.invokevirtual 84, 3) := dl_182 (by decide +kernel)
theorem wl_X2_84 : Cond.methodLink RX2 84 yX4_withFact ∈ TB := tbm (tq3 (List.mem_of_getElem? (i := 229) (by decide +kernel))) (by decide +kernel)
theorem wc_X4_withFact : Cond.code yX4_withFact cX4_withFact 4 (some .int) ∈ TB := tbm (tq3 (List.mem_of_getElem? (i := 232) (rfl))) (by decide +kernel)
theorem wi_X4_withFact : Cond.instanceMethod yX4_withFact ∈ TB := tbm (tq3 (List.mem_of_getElem? (i := 230) (by decide +kernel))) (by decide +kernel)
theorem ws_X4_withFact : Cond.selects RX4 yX4_withFact yX4_withFact ∈ TB := tbm (tq3 (List.mem_of_getElem? (i := 231) (by decide +kernel))) (by decide +kernel)
theorem mi_X4_withFact : MI yX4_withFact cX4_withFact 4 (some .int) 1 := ⟨wc_X4_withFact, wn_X4, ⟨by decide +kernel, by decide +kernel, by decide +kernel⟩, wi_X4_withFact, ws_X4_withFact⟩
theorem dX2_plain_136 : decode cX2_plain 136 = .ok (.iastore, 1) := dl_79 (by decide +kernel)
theorem dX2_plain_137 : decode cX2_plain 137 = .ok (.goto 161, 3) := dl_167 (by decide +kernel)
theorem dX2_plain_298 : decode cX2_plain 298 = .ok (.iinc 5 (-1), 3) := dl_132 (by decide +kernel)
theorem dX2_plain_301 : decode cX2_plain 301 = .ok (.goto (-284), 3) := dl_167 (by decide +kernel)
theorem dX2_plain_140 : decode cX2_plain 140 = .ok (.aload_n 0, 1) := dl_42 (by decide +kernel)
theorem dX2_plain_141 : decode cX2_plain 141 = .ok (.getfield 23, 3) := dl_180 (by decide +kernel)
theorem dX2_plain_144 : decode cX2_plain 144 = .ok (.iload 8, 2) := dl_21 (by decide +kernel)
theorem dX2_plain_146 : decode cX2_plain 146 = .ok (.iload_n 3, 1) := dl_29 (by decide +kernel)
theorem dX2_plain_147 : decode cX2_plain 147 = .ok (.iastore, 1) := dl_79 (by decide +kernel)
theorem dX2_plain_148 : decode cX2_plain 148 = .ok (.goto 150, 3) := dl_167 (by decide +kernel)
theorem dX2_plain_151 : decode cX2_plain 151 = .ok (.aload_n 0, 1) := dl_42 (by decide +kernel)
theorem dX2_plain_152 : decode cX2_plain 152 = .ok (.getfield 23, 3) := dl_180 (by decide +kernel)
theorem dX2_plain_155 : decode cX2_plain 155 = .ok (.iload 8, 2) := dl_21 (by decide +kernel)
theorem dX2_plain_157 : decode cX2_plain 157 = .ok (.iload 10, 2) := dl_21 (by decide +kernel)
theorem dX2_plain_159 : decode cX2_plain 159 = .ok (.iastore, 1) := dl_79 (by decide +kernel)
theorem dX2_plain_160 : decode cX2_plain 160 = .ok (.goto 138, 3) := dl_167 (by decide +kernel)
theorem dX2_plain_163 : decode cX2_plain 163 = .ok (.aload_n 0, 1) := dl_42 (by decide +kernel)
theorem dX2_plain_164 : decode cX2_plain 164 = .ok (.getfield 23, 3) := dl_180 (by decide +kernel)
theorem dX2_plain_167 : decode cX2_plain 167 = .ok (.iload 8, 2) := dl_21 (by decide +kernel)
theorem dX2_plain_169 : decode cX2_plain 169 = .ok (.iload 9, 2) := dl_21 (by decide +kernel)
theorem dX2_plain_171 : decode cX2_plain 171 = .ok (.aload_n 0, 1) := dl_42 (by decide +kernel)
theorem dX2_plain_172 : decode cX2_plain 172 = .ok (.getfield 23, 3) := dl_180 (by decide +kernel)
theorem dX2_plain_175 : decode cX2_plain 175 = .ok (.iload 4, 2) := dl_21 (by decide +kernel)
theorem dX2_plain_177 : decode cX2_plain 177 = .ok (.iaload, 1) := dl_46 (by decide +kernel)
theorem dX2_plain_178 : decode cX2_plain 178 = .ok (.iand, 1) := dl_126 (by decide +kernel)
theorem dX2_plain_179 : decode cX2_plain 179 = .ok (.iastore, 1) := dl_79 (by decide +kernel)
theorem dX2_plain_180 : decode cX2_plain 180 = .ok (.goto 118, 3) := dl_167 (by decide +kernel)
theorem dX2_plain_183 : decode cX2_plain 183 = .ok (.aload_n 0, 1) := dl_42 (by decide +kernel)
theorem dX2_plain_184 : decode cX2_plain 184 = .ok (.getfield 23, 3) := dl_180 (by decide +kernel)
theorem dX2_plain_187 : decode cX2_plain 187 = .ok (.iload 8, 2) := dl_21 (by decide +kernel)
theorem dX2_plain_189 : decode cX2_plain 189 = .ok (.iload 9, 2) := dl_21 (by decide +kernel)
theorem dX2_plain_191 : decode cX2_plain 191 = .ok (.aload_n 0, 1) := dl_42 (by decide +kernel)
theorem dX2_plain_192 : decode cX2_plain 192 = .ok (.getfield 23, 3) := dl_180 (by decide +kernel)
theorem dX2_plain_195 : decode cX2_plain 195 = .ok (.iload 4, 2) := dl_21 (by decide +kernel)
theorem dX2_plain_197 : decode cX2_plain 197 = .ok (.iaload, 1) := dl_46 (by decide +kernel)
theorem dX2_plain_198 : decode cX2_plain 198 = .ok (.ior, 1) := dl_128 (by decide +kernel)
theorem dX2_plain_199 : decode cX2_plain 199 = .ok (.iastore, 1) := dl_79 (by decide +kernel)
theorem dX2_plain_200 : decode cX2_plain 200 = .ok (.goto 98, 3) := dl_167 (by decide +kernel)
theorem dX2_plain_203 : decode cX2_plain 203 = .ok (.aload_n 0, 1) := dl_42 (by decide +kernel)
theorem dX2_plain_204 : decode cX2_plain 204 = .ok (.getfield 23, 3) := dl_180 (by decide +kernel)
theorem dX2_plain_207 : decode cX2_plain 207 = .ok (.iload 8, 2) := dl_21 (by decide +kernel)
theorem dX2_plain_209 : decode cX2_plain 209 = .ok (.iload_n 3, 1) := dl_29 (by decide +kernel)
theorem dX2_plain_210 : decode cX2_plain 210 = .ok (.aload_n 1, 1) := dl_43 (by decide +kernel)
theorem dX2_plain_211 : decode cX2_plain 211 = .ok (.iload 7, 2) := dl_21 (by decide +kernel)
theorem dX2_plain_213 : decode cX2_plain 213 = .ok (.iload 9, 2) := dl_21 (by decide +kernel)
theorem dX2_plain_215 : decode cX2_plain 215 = .ok (.iconst 1, 1) := dl_4 (by decide +kernel)
theorem dX2_plain_216 : decode cX2_plain 216 = .ok (.invokevirtual 87, 3) := dl_182 (by decide +kernel)
theorem wl_X2_87 : Cond.methodLink RX2 87 yX4_leadingTo ∈ TB := tbm (tq3 (List.mem_of_getElem? (i := 233) (by decide +kernel))) (by decide +kernel)
theorem wc_X4_leadingTo : Cond.code yX4_leadingTo cX4_leadingTo 8 (some .int) ∈ TB := tbm (tq3 (List.mem_of_getElem? (i := 236) (rfl))) (by decide +kernel)
theorem wi_X4_leadingTo : Cond.instanceMethod yX4_leadingTo ∈ TB := tbm (tq3 (List.mem_of_getElem? (i := 234) (by decide +kernel))) (by decide +kernel)
theorem ws_X4_leadingTo : Cond.selects RX4 yX4_leadingTo yX4_leadingTo ∈ TB := tbm (tq3 (List.mem_of_getElem? (i := 235) (by decide +kernel))) (by decide +kernel)
theorem mi_X4_leadingTo : MI yX4_leadingTo cX4_leadingTo 8 (some .int) 3 := ⟨wc_X4_leadingTo, wn_X4, ⟨by decide +kernel, by decide +kernel, by decide +kernel⟩, wi_X4_leadingTo, ws_X4_leadingTo⟩
theorem dX2_plain_219 : decode cX2_plain 219 = .ok (.aload_n 1, 1) := dl_43 (by decide +kernel)
theorem dX2_plain_220 : decode cX2_plain 220 = .ok (.iload 7, 2) := dl_21 (by decide +kernel)
theorem dX2_plain_222 : decode cX2_plain 222 = .ok (.iload 10, 2) := dl_21 (by decide +kernel)
theorem dX2_plain_224 : decode cX2_plain 224 = .ok (.iconst 1, 1) := dl_4 (by decide +kernel)
theorem dX2_plain_225 : decode cX2_plain 225 = .ok (.invokevirtual 87, 3) := dl_182 (by decide +kernel)
theorem dX2_plain_228 : decode cX2_plain 228 = .ok (.iand, 1) := dl_126 (by decide +kernel)
theorem dX2_plain_229 : decode cX2_plain 229 = .ok (.iconst (-1), 1) := dl_2 (by decide +kernel)
theorem dX2_plain_230 : decode cX2_plain 230 = .ok (.ixor, 1) := dl_130 (by decide +kernel)
theorem dX2_plain_231 : decode cX2_plain 231 = .ok (.iand, 1) := dl_126 (by decide +kernel)
theorem dX2_plain_232 : decode cX2_plain 232 = .ok (.iastore, 1) := dl_79 (by decide +kernel)
theorem dX2_plain_233 : decode cX2_plain 233 = .ok (.goto 65, 3) := dl_167 (by decide +kernel)
theorem dX2_plain_236 : decode cX2_plain 236 = .ok (.aload_n 0, 1) := dl_42 (by decide +kernel)
theorem dX2_plain_237 : decode cX2_plain 237 = .ok (.getfield 23, 3) := dl_180 (by decide +kernel)
theorem dX2_plain_240 : decode cX2_plain 240 = .ok (.iload 8, 2) := dl_21 (by decide +kernel)
theorem dX2_plain_242 : decode cX2_plain 242 = .ok (.iload_n 3, 1) := dl_29 (by decide +kernel)
theorem dX2_plain_243 : decode cX2_plain 243 = .ok (.aload_n 1, 1) := dl_43 (by decide +kernel)
theorem dX2_plain_244 : decode cX2_plain 244 = .ok (.iload 7, 2) := dl_21 (by decide +kernel)
theorem dX2_plain_246 : decode cX2_plain 246 = .ok (.iload 10, 2) := dl_21 (by decide +kernel)
theorem dX2_plain_248 : decode cX2_plain 248 = .ok (.iconst 1, 1) := dl_4 (by decide +kernel)
theorem dX2_plain_249 : decode cX2_plain 249 = .ok (.invokevirtual 87, 3) := dl_182 (by decide +kernel)
theorem dX2_plain_252 : decode cX2_plain 252 = .ok (.iconst (-1), 1) := dl_2 (by decide +kernel)
theorem dX2_plain_253 : decode cX2_plain 253 = .ok (.ixor, 1) := dl_130 (by decide +kernel)
theorem dX2_plain_254 : decode cX2_plain 254 = .ok (.iand, 1) := dl_126 (by decide +kernel)
theorem dX2_plain_255 : decode cX2_plain 255 = .ok (.iastore, 1) := dl_79 (by decide +kernel)
theorem dX2_plain_256 : decode cX2_plain 256 = .ok (.goto 42, 3) := dl_167 (by decide +kernel)
theorem dX2_plain_259 : decode cX2_plain 259 = .ok (.aload_n 0, 1) := dl_42 (by decide +kernel)
theorem dX2_plain_260 : decode cX2_plain 260 = .ok (.getfield 23, 3) := dl_180 (by decide +kernel)
theorem dX2_plain_263 : decode cX2_plain 263 = .ok (.iload 8, 2) := dl_21 (by decide +kernel)
theorem dX2_plain_265 : decode cX2_plain 265 = .ok (.iload_n 3, 1) := dl_29 (by decide +kernel)
theorem dX2_plain_266 : decode cX2_plain 266 = .ok (.aload_n 1, 1) := dl_43 (by decide +kernel)
theorem dX2_plain_267 : decode cX2_plain 267 = .ok (.iload 7, 2) := dl_21 (by decide +kernel)
theorem dX2_plain_269 : decode cX2_plain 269 = .ok (.iload 10, 2) := dl_21 (by decide +kernel)
theorem dX2_plain_271 : decode cX2_plain 271 = .ok (.bipush 24, 2) := dl_16 (by decide +kernel)
theorem dX2_plain_273 : decode cX2_plain 273 = .ok (.invokevirtual 87, 3) := dl_182 (by decide +kernel)
theorem dX2_plain_276 : decode cX2_plain 276 = .ok (.iconst (-1), 1) := dl_2 (by decide +kernel)
theorem dX2_plain_277 : decode cX2_plain 277 = .ok (.ixor, 1) := dl_130 (by decide +kernel)
theorem dX2_plain_278 : decode cX2_plain 278 = .ok (.iand, 1) := dl_126 (by decide +kernel)
theorem dX2_plain_279 : decode cX2_plain 279 = .ok (.iastore, 1) := dl_79 (by decide +kernel)
theorem dX2_plain_280 : decode cX2_plain 280 = .ok (.goto 18, 3) := dl_167 (by decide +kernel)
theorem dX2_plain_283 : decode cX2_plain 283 = .ok (.aload_n 0, 1) := dl_42 (by decide +kernel)
theorem dX2_plain_284 : decode cX2_plain 284 = .ok (.getfield 23, 3) := dl_180 (by decide +kernel)
theorem dX2_plain_287 : decode cX2_plain 287 = .ok (.iload 8, 2) := dl_21 (by decide +kernel)
theorem dX2_plain_289 : decode cX2_plain 289 = .ok (.aload_n 1, 1) := dl_43 (by decide +kernel)
theorem dX2_plain_290 : decode cX2_plain 290 = .ok (.iload 7, 2) := dl_21 (by decide +kernel)
theorem dX2_plain_292 : decode cX2_plain 292 = .ok (.iload 9, 2) := dl_21 (by decide +kernel)
theorem dX2_plain_294 : decode cX2_plain 294 = .ok (.invokevirtual 91, 3) := dl_182 (by decide +kernel)
theorem wl_X2_91 : Cond.methodLink RX2 91 yX4_togetherWithin ∈ TB := tbm (tq3 (List.mem_of_getElem? (i := 237) (by decide +kernel))) (by decide +kernel)
theorem wc_X4_togetherWithin : Cond.code yX4_togetherWithin cX4_togetherWithin 7 (some .int) ∈ TB := tbm (tq4 (List.mem_of_getElem? (i := 0) (rfl))) (by decide +kernel)
theorem wi_X4_togetherWithin : Cond.instanceMethod yX4_togetherWithin ∈ TB := tbm (tq3 (List.mem_of_getElem? (i := 238) (by decide +kernel))) (by decide +kernel)
theorem ws_X4_togetherWithin : Cond.selects RX4 yX4_togetherWithin yX4_togetherWithin ∈ TB := tbm (tq3 (List.mem_of_getElem? (i := 239) (by decide +kernel))) (by decide +kernel)
theorem mi_X4_togetherWithin : MI yX4_togetherWithin cX4_togetherWithin 7 (some .int) 2 := ⟨wc_X4_togetherWithin, wn_X4, ⟨by decide +kernel, by decide +kernel, by decide +kernel⟩, wi_X4_togetherWithin, ws_X4_togetherWithin⟩
theorem dX2_plain_297 : decode cX2_plain 297 = .ok (.iastore, 1) := dl_79 (by decide +kernel)
set_option maxRecDepth 100000 in
set_option maxHeartbeats 4000000 in
theorem j_plain (l : Launch) (E : EV) (ro : va_W) (qj : Nat) (h : Nat) (sa : Nat) (jt : Nat) (je : Nat) (ju : Nat) (ja : Nat) (ft : Nat → Int32) (n : Nat) (r : Nat) (a : Nat) (b : Nat) (f : Nat → Int32) (gg : Nat → Int32) (SS : SVal) (hn : n ≤ 24) (hr : r < n ∨ r = 0) (hsa : SYv E ro sa SS) (hwfm : WFm (am n r f gg)) : CT l yX2_plain (Cond.code yX2_plain cX2_plain 11 (some .int) :: TB) ({ frames := 2, cells := 0, slots := 0, locals := 51 }) E ro [.ref qj, .ref h, .ref sa] [(qj, .inr (2, [.ref jt, .ref je, .ref ju, .ref ja])), (ju, .inl (E.2.1 1, 32, .inl ft)), (h, .inr (4, [.int (nI n), .int (nI r), .ref a, .ref b])), (a, .inl (E.2.1 1, 24, .inl f)), (b, .inl (E.2.1 1, 96, .inl gg))] (Qi E (fun (rz : Int32) uz => (∃ (ft2 : Nat → Int32), uz = [(qj, .inr (2, [.ref jt, .ref je, .ref ju, .ref ja])), (ju, .inl (E.2.1 1, 32, .inl ft2)), (h, .inr (4, [.int (nI n), .int (nI r), .ref a, .ref b])), (a, .inl (E.2.1 1, 24, .inl f)), (b, .inl (E.2.1 1, 96, .inl gg))] ∧ (BS rz (vPl (am n r f gg) SS.1 SS.2.1 SS.2.2.1))))) 0 0 := by
  refine ct_of rfl rfl ?_
  intro X C hT hin hro
  show WW X 11 E 0 [(0, .ref qj), (1, .ref h), (2, .ref sa)] [] [(qj, .inr (2, [.ref jt, .ref je, .ref ju, .ref ja])), (ju, .inl (E.2.1 1, 32, .inl ft)), (h, .inr (4, [.int (nI n), .int (nI r), .ref a, .ref b])), (a, .inl (E.2.1 1, 24, .inl f)), (b, .inl (E.2.1 1, 96, .inl gg))] 0 0
  obtain ⟨nn, so, sr, sf, tk, dp, nm, na⟩ := SS
  obtain ⟨i0, i1, i2, i3, sx, sy, sz, h0, h1, h2, h3, hwf, hna, haf⟩ := id hsa
  have h0 : ro[i0]? = some (sa, .inr (8, [.ref sx, .ref sy, .int (nI tk), .int (nI na), .ref sz, .int dp, .int nm])) := h0
  have h1 : ro[i1]? = some (sx, .inl (E.2.1 1, nn, .inl so)) := h1
  have h2 : ro[i2]? = some (sy, .inl (E.2.1 1, nn, .inl sr)) := h2
  have h3 : ro[i3]? = some (sz, .inl (E.2.1 1, 2, .inl sf)) := h3
  have hwf : WFs nn so := hwf
  have hna : na ≤ 2 := hna
  have haf : ∀ k, k < na → ∃ j : Nat, j < 4 ∧ sf k = nI j := haf
  have hwn : 1 ≤ nn ∧ nn ≤ 32 := ⟨hwf.1, hwf.2.1⟩
  refine ww_aload_n C dX2_plain_0 1 rfl rfl ?_
  refine ww_ci (wr := [(qj, .inr (2, [.ref jt, .ref je, .ref ju, .ref ja])), (ju, .inl (E.2.1 1, 32, .inl ft)), (a, .inl (E.2.1 1, 24, .inl f)), (b, .inl (E.2.1 1, 96, .inl gg))]) (k' := 0) (n' := 0) C (run_V (As := []) (rest := []) C (m_all X.2.1 E ro h n r a b (by omega)) mi_X4_all wl_X2_61 rfl 0 4 rfl rfl rfl rfl rfl dX2_plain_1) (roK hro) [2] [0, 1, 3, 4] rfl rfl rfl rfl (fun r_1 uz hw => ?_)
  refine an1 hw ?_
  clear hw
  intro he_3 hw
  have h_2 := hw
  clear hw
  subst he_3
  refine ww_eq (ws' := [(qj, .inr (2, [.ref jt, .ref je, .ref ju, .ref ja])), (ju, .inl (E.2.1 1, 32, .inl ft)), (a, .inl (E.2.1 1, 24, .inl f)), (b, .inl (E.2.1 1, 96, .inl gg)), (h, .inr (4, [.int (nI n), .int (nI r), .ref a, .ref b]))]) ?_ rfl rfl rfl
  refine ww_istore_n (lv' := [(3, .int r_1), (0, .ref qj), (1, .ref h), (2, .ref sa)]) C dX2_plain_4 rfl rfl rfl ?_
  refine ww_iconst (v := 0) C dX2_plain_5 rfl ?_
  refine ww_istore (lv' := [(4, .int 0), (3, .int r_1), (0, .ref qj), (1, .ref h), (2, .ref sa)]) C dX2_plain_6 rfl rfl ?_
  refine ww_aload_n C dX2_plain_8 4 rfl rfl ?_
  refine ww_getR C hro fg_X2_74 i0 h0 rfl dX2_plain_9 ?_
  refine ww_alenR (v := (nI nn)) (t0 := 1) C hro i1 h1 rfl rfl dX2_plain_12 ?_
  refine ww_iconst (v := 1) C dX2_plain_13 rfl ?_
  obtain ⟨x_4, ex_4⟩ : ∃ z : Int32, (nI nn) - (1 : Int32) = z := ⟨_, rfl⟩
  have zx_4 : x_4.toInt = ((nn : Nat) : Int) - 1 := by rw [← ex_4]; exact i_sub (nI_toInt (n := nn) (by omega)) rfl (by omega) (by omega)
  refine ww_isub (v := x_4) C dX2_plain_14 ex_4 ?_
  refine ww_istore (lv' := [(5, .int x_4), (4, .int 0), (3, .int r_1), (0, .ref qj), (1, .ref h), (2, .ref sa)]) C dX2_plain_15 rfl rfl ?_
  have hal := all_bs (r := r) (f := f) (g := gg) h_2
  have loop_17 : ∀ (fu : Nat) (xi : Int32) (ii : Nat) (tt : Nat) (f1 : Nat → Int32), (xi.toInt = (ii : Int) - 1) → (ii ≤ nn) → ((tt : Int) = opn so ii) → (∀ j : Nat, (j : Int) < opn so ii → BS (f1 j) (vSt (am n r f gg) nn so sr (nn - ii) j)) → ii < fu → WW X 11 E 17 [(5, .int xi), (4, .int (nI tt)), (3, .int r_1), (0, .ref qj), (1, .ref h), (2, .ref sa)] [] [(qj, .inr (2, [.ref jt, .ref je, .ref ju, .ref ja])), (ju, .inl (E.2.1 1, 32, .inl f1)), (a, .inl (E.2.1 1, 24, .inl f)), (b, .inl (E.2.1 1, 96, .inl gg)), (h, .inr (4, [.int (nI n), .int (nI r), .ref a, .ref b]))] 0 0 := by
    intro fu
    induction fu with
    | zero => intro xi ii tt f1 hxi hii htt hst hmeas; exact absurd hmeas (Nat.not_lt_zero _)
    | succ fu ih_17 =>
      intro xi ii tt f1 hxi hii htt hst hmeas
      refine ww_iload C dX2_plain_17 0 rfl ?_
      refine ww_if_lt (tgt := 304) C dX2_plain_19 (by decide) (fun c_5 => ?_) (fun c_5 => ?_)
      · have zc_5 : ((ii : Int) - 1) < 0 := i_lt hxi rfl c_5
        refine ww_aload_n C dX2_plain_304 3 rfl rfl ?_
        refine ww_get C fg_X2_23 0 rfl rfl dX2_plain_305 ?_
        refine ww_iconst (v := 0) C dX2_plain_308 rfl ?_
        obtain ⟨x_6, ex_6⟩ : ∃ z : Int32, f1 0 = z := ⟨_, rfl⟩
        refine ww_iald (v := x_6) C 1 rfl (vin rfl) ex_6 dX2_plain_309 ?_
        exact ww_iret (u := [(qj, .inr (2, [.ref jt, .ref je, .ref ju, .ref ja])), (ju, .inl (E.2.1 1, 32, .inl f1)), (h, .inr (4, [.int (nI n), .int (nI r), .ref a, .ref b])), (a, .inl (E.2.1 1, 24, .inl f)), (b, .inl (E.2.1 1, 96, .inl gg))]) C hT [0, 1, 4, 2, 3] rfl rfl rfl rfl dX2_plain_310 (⟨f1, rfl, (by have h9 : ii = 0 := (by omega); rw [h9] at hst; exact BS.at ex_6 (hst 0 (by show ((0 : Nat) : Int) < 1; decide)))⟩)
      · have zc_5 : ((ii : Int) - 1) ≥ 0 := i_nlt hxi rfl c_5
        obtain ⟨j_7, hj_7, rfl⟩ := i_nat (x := xi) (N := 31) (by omega) (by omega)
        have hzj_7 := nI_toInt (n := j_7) (by omega)
        refine ww_aload_n C dX2_plain_22 5 rfl rfl ?_
        refine ww_getR C hro fg_X2_74 i0 h0 rfl dX2_plain_23 ?_
        refine ww_iload C dX2_plain_26 0 rfl ?_
        obtain ⟨x_8, ex_8⟩ : ∃ z : Int32, so j_7 = z := ⟨_, rfl⟩
        refine ww_ialdR (v := x_8) C hro i1 h1 (vp_in_nI (by omega) (by omega)) (ldn (by omega) ex_8) dX2_plain_28 ?_
        refine ww_istore (lv' := [(6, .int x_8), (5, .int (nI j_7)), (4, .int (nI tt)), (3, .int r_1), (0, .ref qj), (1, .ref h), (2, .ref sa)]) C dX2_plain_29 rfl rfl ?_
        have hbj_7 := hwf.2.2.1 j_7 (by omega)
        rw [ex_8] at hbj_7
        have hoj_7 := opn_s so j_7
        have h1j_7 := hwf.2.2.2.1 j_7 (by omega)
        have h2j_7 := opn_le hwf (i := j_7 + 1) (by omega)
        have h3j_7 := opn_le hwf (i := j_7) (by omega)
        have h4j_7 : ii = j_7 + 1 := by omega
        rw [h4j_7] at htt hst
        rcases sp_0_8 (x := x_8) (by omega) (by omega) with rfl | rfl | rfl | rfl | rfl | rfl | rfl | rfl | rfl
        · rw [ex_8, uN_0] at hoj_7
          refine ww_aload_n C dX2_plain_31 6 rfl rfl ?_
          refine ww_getR C hro fg_X2_77 i0 h0 rfl dX2_plain_32 ?_
          refine ww_iload C dX2_plain_35 1 rfl ?_
          obtain ⟨x_9, ex_9⟩ : ∃ z : Int32, sr j_7 = z := ⟨_, rfl⟩
          refine ww_ialdR (v := x_9) C hro i2 h2 (vp_in_nI (by omega) (by omega)) (ldn (by omega) ex_9) dX2_plain_37 ?_
          refine ww_istore (lv' := [(7, .int x_9), (6, .int 0), (5, .int (nI j_7)), (4, .int (nI tt)), (3, .int r_1), (0, .ref qj), (1, .ref h), (2, .ref sa)]) C dX2_plain_38 rfl rfl ?_
          refine ww_iload C dX2_plain_40 3 rfl ?_
          refine ww_iconst (v := 1) C dX2_plain_42 rfl ?_
          refine ww_iload C dX2_plain_43 1 rfl ?_
          refine ww_ci (wr := [(qj, .inr (2, [.ref jt, .ref je, .ref ju, .ref ja])), (ju, .inl (E.2.1 1, 32, .inl f1)), (a, .inl (E.2.1 1, 24, .inl f)), (b, .inl (E.2.1 1, 96, .inl gg)), (h, .inr (4, [.int (nI n), .int (nI r), .ref a, .ref b]))]) (k' := 0) (n' := 0) C (run_SN (As := [.int 0]) (rest := [.int 1, .int (nI tt)]) C (c_under X.2.1 E ro 0) ms_X11_under (List.mem_of_getElem? (i := 15) rfl) rfl rfl rfl rfl dX2_plain_45) (roK hro) [] [0, 1, 2, 3, 4] rfl rfl rfl rfl (fun r_10 uz hw => ?_)
          rcases hw with hw | hw | hw
          · refine an2 hw ?_
            clear hw
            intro he_12 he_13 hw
            have h_11 := hw
            clear hw
            have he_12 := he_12.symm
            subst he_12
            subst he_13
            refine ww_eq (ws' := [(qj, .inr (2, [.ref jt, .ref je, .ref ju, .ref ja])), (ju, .inl (E.2.1 1, 32, .inl f1)), (a, .inl (E.2.1 1, 24, .inl f)), (b, .inl (E.2.1 1, 96, .inl gg)), (h, .inr (4, [.int (nI n), .int (nI r), .ref a, .ref b]))]) ?_ rfl rfl rfl
            refine ww_isub (v := 1) C dX2_plain_48 (by decide) ?_
            refine ww_iadd (v := (nI (tt + 1))) C dX2_plain_49 (nI_add tt 1) ?_
            refine ww_istore (lv' := [(4, .int (nI (tt + 1))), (7, .int x_9), (6, .int 0), (5, .int (nI j_7)), (3, .int r_1), (0, .ref qj), (1, .ref h), (2, .ref sa)]) C dX2_plain_50 rfl rfl ?_
            refine ww_iload C dX2_plain_52 0 rfl ?_
            refine ww_iconst (v := 1) C dX2_plain_54 rfl ?_
            refine ww_isub (v := (nI ((tt + 1) - 1))) C dX2_plain_55 (pk_sub (a := (tt + 1)) (b := 1) (by omega)) ?_
            refine ww_istore (lv' := [(8, .int (nI ((tt + 1) - 1))), (4, .int (nI (tt + 1))), (7, .int x_9), (6, .int 0), (5, .int (nI j_7)), (3, .int r_1), (0, .ref qj), (1, .ref h), (2, .ref sa)]) C dX2_plain_56 rfl rfl ?_
            refine ww_aload_n C dX2_plain_58 6 rfl rfl ?_
            refine ww_get C fg_X2_23 0 rfl rfl dX2_plain_59 ?_
            refine ww_iload C dX2_plain_62 0 rfl ?_
            obtain ⟨x_20, ex_20⟩ : ∃ z : Int32, f1 ((tt + 1) - 1) = z := ⟨_, rfl⟩
            refine ww_iald (v := x_20) C 1 rfl (vp_in_nI (by omega) (by omega)) (ldn (by omega) ex_20) dX2_plain_64 ?_
            refine ww_istore (lv' := [(9, .int x_20), (8, .int (nI ((tt + 1) - 1))), (4, .int (nI (tt + 1))), (7, .int x_9), (6, .int 0), (5, .int (nI j_7)), (3, .int r_1), (0, .ref qj), (1, .ref h), (2, .ref sa)]) C dX2_plain_65 rfl rfl ?_
            refine ww_iload_n C dX2_plain_67 6 rfl rfl ?_
            refine ww_iload C dX2_plain_68 0 rfl ?_
            refine ww_iconst (v := (-1)) C dX2_plain_70 rfl ?_
            obtain ⟨x_21, ex_21⟩ : ∃ z : Int32, x_20 ^^^ ((-1) : Int32) = z := ⟨_, rfl⟩
            refine ww_ixor (v := x_21) C dX2_plain_71 ex_21 ?_
            obtain ⟨x_22, ex_22⟩ : ∃ z : Int32, r_1 &&& x_21 = z := ⟨_, rfl⟩
            refine ww_iand (v := x_22) C dX2_plain_72 ex_22 ?_
            refine ww_istore (lv' := [(10, .int x_22), (9, .int x_20), (8, .int (nI ((tt + 1) - 1))), (4, .int (nI (tt + 1))), (7, .int x_9), (6, .int 0), (5, .int (nI j_7)), (3, .int r_1), (0, .ref qj), (1, .ref h), (2, .ref sa)]) C dX2_plain_73 rfl rfl ?_
            refine ww_iload C dX2_plain_75 5 rfl ?_
            refine ww_tableIn (tgt := 124) C dX2_plain_77 (by decide) (by decide) rfl (by decide) ?_
            refine ww_aload_n C dX2_plain_124 8 rfl rfl ?_
            refine ww_get C fg_X2_23 0 rfl rfl dX2_plain_125 ?_
            refine ww_iload C dX2_plain_128 2 rfl ?_
            refine ww_aload_n C dX2_plain_130 9 rfl rfl ?_
            refine ww_iload C dX2_plain_131 4 rfl ?_
            refine ww_ci (wr := [(qj, .inr (2, [.ref jt, .ref je, .ref ju, .ref ja])), (ju, .inl (E.2.1 1, 32, .inl f1))]) (k' := 0) (n' := 0) C (run_V (As := [.int x_9]) (rest := [.int (nI ((tt + 1) - 1)), .ref ju]) C (m_withFact X.2.1 E ro h x_9 n r a b f gg (by omega) (by omega)) mi_X4_withFact wl_X2_84 rfl 0 4 rfl rfl rfl rfl rfl dX2_plain_133) (roK hro) [4, 2, 3] [0, 1] rfl rfl rfl rfl (fun r_23 uz hw => ?_)
            refine an1 hw ?_
            clear hw
            intro he_25 hw
            have h_24 := hw
            clear hw
            subst he_25
            refine ww_eq (ws' := [(qj, .inr (2, [.ref jt, .ref je, .ref ju, .ref ja])), (ju, .inl (E.2.1 1, 32, .inl f1)), (h, .inr (4, [.int (nI n), .int (nI r), .ref a, .ref b])), (a, .inl (E.2.1 1, 24, .inl f)), (b, .inl (E.2.1 1, 96, .inl gg))]) ?_ rfl rfl rfl
            obtain ⟨f_26, ef_26⟩ : ∃ z : Nat → Int32, upd f1 ((tt + 1) - 1) r_23 = z := ⟨_, rfl⟩
            refine ww_iast (ws' := [(qj, .inr (2, [.ref jt, .ref je, .ref ju, .ref ja])), (ju, .inl (E.2.1 1, 32, .inl f_26)), (h, .inr (4, [.int (nI n), .int (nI r), .ref a, .ref b])), (a, .inl (E.2.1 1, 24, .inl f)), (b, .inl (E.2.1 1, 96, .inl gg))]) C 1 rfl (vp_in_nI (by omega) (by omega)) (ldn2 (by omega) ef_26) rfl dX2_plain_136 ?_
            refine ww_goto (tgt := 298) C dX2_plain_137 (by decide) ?_
            obtain ⟨x_27, ex_27⟩ : ∃ z : Int32, (nI j_7) + Int32.ofInt (-1) = z := ⟨_, rfl⟩
            have zx_27 : x_27.toInt = ((j_7 : Nat) : Int) - 1 := by rw [← ex_27]; exact i_dec (c := 1) (nI_toInt (n := j_7) (by omega)) rfl (by omega) (by omega)
            refine ww_iinc (j := 6) (v := x_27) (lv' := [(5, .int x_27), (10, .int x_22), (9, .int x_20), (8, .int (nI ((tt + 1) - 1))), (4, .int (nI (tt + 1))), (7, .int x_9), (6, .int 0), (3, .int r_1), (0, .ref qj), (1, .ref h), (2, .ref sa)]) C dX2_plain_298 rfl ex_27 rfl rfl ?_
            refine ww_goto (tgt := 17) C dX2_plain_301 (by decide) ?_
            exact ww_lv [0, 4, 7, 8, 9, 10] rfl (ww_sub [0, 1, 3, 4, 2] rfl rfl (ih_17 x_27 j_7 (tt + 1) f_26 (by omega) (by omega) (by omega) (st_s (l := ((tt + 1) - 1)) hst (by omega) (by omega) (by rw [show so j_7 = 0 from ex_8, show sr j_7 = x_9 from ex_9]; exact (ev_0 h_24)) ef_26) (by omega)))
          · refine an2 hw ?_
            clear hw
            intro he_15 he_16 hw
            have h_14 := hw
            clear hw
            have he_15 := he_15.symm
            subst he_15
            subst he_16
            exact absurd h_14 (by decide)
          · refine an2 hw ?_
            clear hw
            intro he_18 he_19 hw
            have h_17 := hw
            clear hw
            have he_18 := he_18.symm
            subst he_18
            subst he_19
            exact absurd h_17 (by decide)
        · rw [ex_8, uN_1] at hoj_7
          refine ww_aload_n C dX2_plain_31 6 rfl rfl ?_
          refine ww_getR C hro fg_X2_77 i0 h0 rfl dX2_plain_32 ?_
          refine ww_iload C dX2_plain_35 1 rfl ?_
          obtain ⟨x_28, ex_28⟩ : ∃ z : Int32, sr j_7 = z := ⟨_, rfl⟩
          refine ww_ialdR (v := x_28) C hro i2 h2 (vp_in_nI (by omega) (by omega)) (ldn (by omega) ex_28) dX2_plain_37 ?_
          refine ww_istore (lv' := [(7, .int x_28), (6, .int 1), (5, .int (nI j_7)), (4, .int (nI tt)), (3, .int r_1), (0, .ref qj), (1, .ref h), (2, .ref sa)]) C dX2_plain_38 rfl rfl ?_
          refine ww_iload C dX2_plain_40 3 rfl ?_
          refine ww_iconst (v := 1) C dX2_plain_42 rfl ?_
          refine ww_iload C dX2_plain_43 1 rfl ?_
          refine ww_ci (wr := [(qj, .inr (2, [.ref jt, .ref je, .ref ju, .ref ja])), (ju, .inl (E.2.1 1, 32, .inl f1)), (a, .inl (E.2.1 1, 24, .inl f)), (b, .inl (E.2.1 1, 96, .inl gg)), (h, .inr (4, [.int (nI n), .int (nI r), .ref a, .ref b]))]) (k' := 0) (n' := 0) C (run_SN (As := [.int 1]) (rest := [.int 1, .int (nI tt)]) C (c_under X.2.1 E ro 1) ms_X11_under (List.mem_of_getElem? (i := 15) rfl) rfl rfl rfl rfl dX2_plain_45) (roK hro) [] [0, 1, 2, 3, 4] rfl rfl rfl rfl (fun r_29 uz hw => ?_)
          rcases hw with hw | hw | hw
          · refine an2 hw ?_
            clear hw
            intro he_31 he_32 hw
            have h_30 := hw
            clear hw
            have he_31 := he_31.symm
            subst he_31
            subst he_32
            refine ww_eq (ws' := [(qj, .inr (2, [.ref jt, .ref je, .ref ju, .ref ja])), (ju, .inl (E.2.1 1, 32, .inl f1)), (a, .inl (E.2.1 1, 24, .inl f)), (b, .inl (E.2.1 1, 96, .inl gg)), (h, .inr (4, [.int (nI n), .int (nI r), .ref a, .ref b]))]) ?_ rfl rfl rfl
            refine ww_isub (v := 1) C dX2_plain_48 (by decide) ?_
            refine ww_iadd (v := (nI (tt + 1))) C dX2_plain_49 (nI_add tt 1) ?_
            refine ww_istore (lv' := [(4, .int (nI (tt + 1))), (7, .int x_28), (6, .int 1), (5, .int (nI j_7)), (3, .int r_1), (0, .ref qj), (1, .ref h), (2, .ref sa)]) C dX2_plain_50 rfl rfl ?_
            refine ww_iload C dX2_plain_52 0 rfl ?_
            refine ww_iconst (v := 1) C dX2_plain_54 rfl ?_
            refine ww_isub (v := (nI ((tt + 1) - 1))) C dX2_plain_55 (pk_sub (a := (tt + 1)) (b := 1) (by omega)) ?_
            refine ww_istore (lv' := [(8, .int (nI ((tt + 1) - 1))), (4, .int (nI (tt + 1))), (7, .int x_28), (6, .int 1), (5, .int (nI j_7)), (3, .int r_1), (0, .ref qj), (1, .ref h), (2, .ref sa)]) C dX2_plain_56 rfl rfl ?_
            refine ww_aload_n C dX2_plain_58 6 rfl rfl ?_
            refine ww_get C fg_X2_23 0 rfl rfl dX2_plain_59 ?_
            refine ww_iload C dX2_plain_62 0 rfl ?_
            obtain ⟨x_39, ex_39⟩ : ∃ z : Int32, f1 ((tt + 1) - 1) = z := ⟨_, rfl⟩
            refine ww_iald (v := x_39) C 1 rfl (vp_in_nI (by omega) (by omega)) (ldn (by omega) ex_39) dX2_plain_64 ?_
            refine ww_istore (lv' := [(9, .int x_39), (8, .int (nI ((tt + 1) - 1))), (4, .int (nI (tt + 1))), (7, .int x_28), (6, .int 1), (5, .int (nI j_7)), (3, .int r_1), (0, .ref qj), (1, .ref h), (2, .ref sa)]) C dX2_plain_65 rfl rfl ?_
            refine ww_iload_n C dX2_plain_67 6 rfl rfl ?_
            refine ww_iload C dX2_plain_68 0 rfl ?_
            refine ww_iconst (v := (-1)) C dX2_plain_70 rfl ?_
            obtain ⟨x_40, ex_40⟩ : ∃ z : Int32, x_39 ^^^ ((-1) : Int32) = z := ⟨_, rfl⟩
            refine ww_ixor (v := x_40) C dX2_plain_71 ex_40 ?_
            obtain ⟨x_41, ex_41⟩ : ∃ z : Int32, r_1 &&& x_40 = z := ⟨_, rfl⟩
            refine ww_iand (v := x_41) C dX2_plain_72 ex_41 ?_
            refine ww_istore (lv' := [(10, .int x_41), (9, .int x_39), (8, .int (nI ((tt + 1) - 1))), (4, .int (nI (tt + 1))), (7, .int x_28), (6, .int 1), (5, .int (nI j_7)), (3, .int r_1), (0, .ref qj), (1, .ref h), (2, .ref sa)]) C dX2_plain_73 rfl rfl ?_
            refine ww_iload C dX2_plain_75 5 rfl ?_
            refine ww_tableIn (tgt := 140) C dX2_plain_77 (by decide) (by decide) rfl (by decide) ?_
            refine ww_aload_n C dX2_plain_140 8 rfl rfl ?_
            refine ww_get C fg_X2_23 0 rfl rfl dX2_plain_141 ?_
            refine ww_iload C dX2_plain_144 2 rfl ?_
            refine ww_iload_n C dX2_plain_146 7 rfl rfl ?_
            obtain ⟨f_42, ef_42⟩ : ∃ z : Nat → Int32, upd f1 ((tt + 1) - 1) r_1 = z := ⟨_, rfl⟩
            refine ww_iast (ws' := [(qj, .inr (2, [.ref jt, .ref je, .ref ju, .ref ja])), (ju, .inl (E.2.1 1, 32, .inl f_42)), (a, .inl (E.2.1 1, 24, .inl f)), (b, .inl (E.2.1 1, 96, .inl gg)), (h, .inr (4, [.int (nI n), .int (nI r), .ref a, .ref b]))]) C 1 rfl (vp_in_nI (by omega) (by omega)) (ldn2 (by omega) ef_42) rfl dX2_plain_147 ?_
            refine ww_goto (tgt := 298) C dX2_plain_148 (by decide) ?_
            obtain ⟨x_43, ex_43⟩ : ∃ z : Int32, (nI j_7) + Int32.ofInt (-1) = z := ⟨_, rfl⟩
            have zx_43 : x_43.toInt = ((j_7 : Nat) : Int) - 1 := by rw [← ex_43]; exact i_dec (c := 1) (nI_toInt (n := j_7) (by omega)) rfl (by omega) (by omega)
            refine ww_iinc (j := 6) (v := x_43) (lv' := [(5, .int x_43), (10, .int x_41), (9, .int x_39), (8, .int (nI ((tt + 1) - 1))), (4, .int (nI (tt + 1))), (7, .int x_28), (6, .int 1), (3, .int r_1), (0, .ref qj), (1, .ref h), (2, .ref sa)]) C dX2_plain_298 rfl ex_43 rfl rfl ?_
            refine ww_goto (tgt := 17) C dX2_plain_301 (by decide) ?_
            exact ww_lv [0, 4, 7, 8, 9, 10] rfl (ww_sub [0, 1, 2, 3, 4] rfl rfl (ih_17 x_43 j_7 (tt + 1) f_42 (by omega) (by omega) (by omega) (st_s (l := ((tt + 1) - 1)) hst (by omega) (by omega) (by rw [show so j_7 = 1 from ex_8, show sr j_7 = x_28 from ex_28]; exact (ev_1 hal)) ef_42) (by omega)))
          · refine an2 hw ?_
            clear hw
            intro he_34 he_35 hw
            have h_33 := hw
            clear hw
            have he_34 := he_34.symm
            subst he_34
            subst he_35
            exact absurd h_33 (by decide)
          · refine an2 hw ?_
            clear hw
            intro he_37 he_38 hw
            have h_36 := hw
            clear hw
            have he_37 := he_37.symm
            subst he_37
            subst he_38
            exact absurd h_36 (by decide)
        · rw [ex_8, uN_2] at hoj_7
          refine ww_aload_n C dX2_plain_31 6 rfl rfl ?_
          refine ww_getR C hro fg_X2_77 i0 h0 rfl dX2_plain_32 ?_
          refine ww_iload C dX2_plain_35 1 rfl ?_
          obtain ⟨x_44, ex_44⟩ : ∃ z : Int32, sr j_7 = z := ⟨_, rfl⟩
          refine ww_ialdR (v := x_44) C hro i2 h2 (vp_in_nI (by omega) (by omega)) (ldn (by omega) ex_44) dX2_plain_37 ?_
          refine ww_istore (lv' := [(7, .int x_44), (6, .int 2), (5, .int (nI j_7)), (4, .int (nI tt)), (3, .int r_1), (0, .ref qj), (1, .ref h), (2, .ref sa)]) C dX2_plain_38 rfl rfl ?_
          refine ww_iload C dX2_plain_40 3 rfl ?_
          refine ww_iconst (v := 1) C dX2_plain_42 rfl ?_
          refine ww_iload C dX2_plain_43 1 rfl ?_
          refine ww_ci (wr := [(qj, .inr (2, [.ref jt, .ref je, .ref ju, .ref ja])), (ju, .inl (E.2.1 1, 32, .inl f1)), (a, .inl (E.2.1 1, 24, .inl f)), (b, .inl (E.2.1 1, 96, .inl gg)), (h, .inr (4, [.int (nI n), .int (nI r), .ref a, .ref b]))]) (k' := 0) (n' := 0) C (run_SN (As := [.int 2]) (rest := [.int 1, .int (nI tt)]) C (c_under X.2.1 E ro 2) ms_X11_under (List.mem_of_getElem? (i := 15) rfl) rfl rfl rfl rfl dX2_plain_45) (roK hro) [] [0, 1, 2, 3, 4] rfl rfl rfl rfl (fun r_45 uz hw => ?_)
          rcases hw with hw | hw | hw
          · refine an2 hw ?_
            clear hw
            intro he_47 he_48 hw
            have h_46 := hw
            clear hw
            have he_47 := he_47.symm
            subst he_47
            subst he_48
            exact absurd h_46 (by decide)
          · refine an2 hw ?_
            clear hw
            intro he_50 he_51 hw
            have h_49 := hw
            clear hw
            have he_50 := he_50.symm
            subst he_50
            subst he_51
            exact absurd h_49 (by decide)
          · refine an2 hw ?_
            clear hw
            intro he_53 he_54 hw
            have h_52 := hw
            clear hw
            have he_53 := he_53.symm
            subst he_53
            subst he_54
            refine ww_eq (ws' := [(qj, .inr (2, [.ref jt, .ref je, .ref ju, .ref ja])), (ju, .inl (E.2.1 1, 32, .inl f1)), (a, .inl (E.2.1 1, 24, .inl f)), (b, .inl (E.2.1 1, 96, .inl gg)), (h, .inr (4, [.int (nI n), .int (nI r), .ref a, .ref b]))]) ?_ rfl rfl rfl
            refine ww_isub (v := 0) C dX2_plain_48 (by decide) ?_
            refine ww_iadd (v := (nI tt)) C dX2_plain_49 (nI_add tt 0) ?_
            refine ww_istore (lv' := [(4, .int (nI tt)), (7, .int x_44), (6, .int 2), (5, .int (nI j_7)), (3, .int r_1), (0, .ref qj), (1, .ref h), (2, .ref sa)]) C dX2_plain_50 rfl rfl ?_
            refine ww_iload C dX2_plain_52 0 rfl ?_
            refine ww_iconst (v := 1) C dX2_plain_54 rfl ?_
            refine ww_isub (v := (nI (tt - 1))) C dX2_plain_55 (pk_sub (a := tt) (b := 1) (by omega)) ?_
            refine ww_istore (lv' := [(8, .int (nI (tt - 1))), (4, .int (nI tt)), (7, .int x_44), (6, .int 2), (5, .int (nI j_7)), (3, .int r_1), (0, .ref qj), (1, .ref h), (2, .ref sa)]) C dX2_plain_56 rfl rfl ?_
            refine ww_aload_n C dX2_plain_58 6 rfl rfl ?_
            refine ww_get C fg_X2_23 0 rfl rfl dX2_plain_59 ?_
            refine ww_iload C dX2_plain_62 0 rfl ?_
            obtain ⟨x_55, ex_55⟩ : ∃ z : Int32, f1 (tt - 1) = z := ⟨_, rfl⟩
            refine ww_iald (v := x_55) C 1 rfl (vp_in_nI (by omega) (by omega)) (ldn (by omega) ex_55) dX2_plain_64 ?_
            refine ww_istore (lv' := [(9, .int x_55), (8, .int (nI (tt - 1))), (4, .int (nI tt)), (7, .int x_44), (6, .int 2), (5, .int (nI j_7)), (3, .int r_1), (0, .ref qj), (1, .ref h), (2, .ref sa)]) C dX2_plain_65 rfl rfl ?_
            refine ww_iload_n C dX2_plain_67 6 rfl rfl ?_
            refine ww_iload C dX2_plain_68 0 rfl ?_
            refine ww_iconst (v := (-1)) C dX2_plain_70 rfl ?_
            obtain ⟨x_56, ex_56⟩ : ∃ z : Int32, x_55 ^^^ ((-1) : Int32) = z := ⟨_, rfl⟩
            refine ww_ixor (v := x_56) C dX2_plain_71 ex_56 ?_
            obtain ⟨x_57, ex_57⟩ : ∃ z : Int32, r_1 &&& x_56 = z := ⟨_, rfl⟩
            refine ww_iand (v := x_57) C dX2_plain_72 ex_57 ?_
            refine ww_istore (lv' := [(10, .int x_57), (9, .int x_55), (8, .int (nI (tt - 1))), (4, .int (nI tt)), (7, .int x_44), (6, .int 2), (5, .int (nI j_7)), (3, .int r_1), (0, .ref qj), (1, .ref h), (2, .ref sa)]) C dX2_plain_73 rfl rfl ?_
            refine ww_iload C dX2_plain_75 5 rfl ?_
            refine ww_tableIn (tgt := 151) C dX2_plain_77 (by decide) (by decide) rfl (by decide) ?_
            refine ww_aload_n C dX2_plain_151 8 rfl rfl ?_
            refine ww_get C fg_X2_23 0 rfl rfl dX2_plain_152 ?_
            refine ww_iload C dX2_plain_155 2 rfl ?_
            refine ww_iload C dX2_plain_157 0 rfl ?_
            obtain ⟨f_58, ef_58⟩ : ∃ z : Nat → Int32, upd f1 (tt - 1) x_57 = z := ⟨_, rfl⟩
            refine ww_iast (ws' := [(qj, .inr (2, [.ref jt, .ref je, .ref ju, .ref ja])), (ju, .inl (E.2.1 1, 32, .inl f_58)), (a, .inl (E.2.1 1, 24, .inl f)), (b, .inl (E.2.1 1, 96, .inl gg)), (h, .inr (4, [.int (nI n), .int (nI r), .ref a, .ref b]))]) C 1 rfl (vp_in_nI (by omega) (by omega)) (ldn2 (by omega) ef_58) rfl dX2_plain_159 ?_
            refine ww_goto (tgt := 298) C dX2_plain_160 (by decide) ?_
            obtain ⟨x_59, ex_59⟩ : ∃ z : Int32, (nI j_7) + Int32.ofInt (-1) = z := ⟨_, rfl⟩
            have zx_59 : x_59.toInt = ((j_7 : Nat) : Int) - 1 := by rw [← ex_59]; exact i_dec (c := 1) (nI_toInt (n := j_7) (by omega)) rfl (by omega) (by omega)
            refine ww_iinc (j := 6) (v := x_59) (lv' := [(5, .int x_59), (10, .int x_57), (9, .int x_55), (8, .int (nI (tt - 1))), (4, .int (nI tt)), (7, .int x_44), (6, .int 2), (3, .int r_1), (0, .ref qj), (1, .ref h), (2, .ref sa)]) C dX2_plain_298 rfl ex_59 rfl rfl ?_
            refine ww_goto (tgt := 17) C dX2_plain_301 (by decide) ?_
            exact ww_lv [0, 4, 7, 8, 9, 10] rfl (ww_sub [0, 1, 2, 3, 4] rfl rfl (ih_17 x_59 j_7 tt f_58 (by omega) (by omega) (by omega) (st_s (l := (tt - 1)) hst (by omega) (by omega) (by rw [show so j_7 = 2 from ex_8, show sr j_7 = x_44 from ex_44]; exact (ev_2 (nn := nn) hal (BS.at ex_55 (hst (tt - 1) (by omega))) ex_56 ex_57)) ef_58) (by omega)))
        · rw [ex_8, uN_3] at hoj_7
          refine ww_aload_n C dX2_plain_31 6 rfl rfl ?_
          refine ww_getR C hro fg_X2_77 i0 h0 rfl dX2_plain_32 ?_
          refine ww_iload C dX2_plain_35 1 rfl ?_
          obtain ⟨x_60, ex_60⟩ : ∃ z : Int32, sr j_7 = z := ⟨_, rfl⟩
          refine ww_ialdR (v := x_60) C hro i2 h2 (vp_in_nI (by omega) (by omega)) (ldn (by omega) ex_60) dX2_plain_37 ?_
          refine ww_istore (lv' := [(7, .int x_60), (6, .int 3), (5, .int (nI j_7)), (4, .int (nI tt)), (3, .int r_1), (0, .ref qj), (1, .ref h), (2, .ref sa)]) C dX2_plain_38 rfl rfl ?_
          refine ww_iload C dX2_plain_40 3 rfl ?_
          refine ww_iconst (v := 1) C dX2_plain_42 rfl ?_
          refine ww_iload C dX2_plain_43 1 rfl ?_
          refine ww_ci (wr := [(qj, .inr (2, [.ref jt, .ref je, .ref ju, .ref ja])), (ju, .inl (E.2.1 1, 32, .inl f1)), (a, .inl (E.2.1 1, 24, .inl f)), (b, .inl (E.2.1 1, 96, .inl gg)), (h, .inr (4, [.int (nI n), .int (nI r), .ref a, .ref b]))]) (k' := 0) (n' := 0) C (run_SN (As := [.int 3]) (rest := [.int 1, .int (nI tt)]) C (c_under X.2.1 E ro 3) ms_X11_under (List.mem_of_getElem? (i := 15) rfl) rfl rfl rfl rfl dX2_plain_45) (roK hro) [] [0, 1, 2, 3, 4] rfl rfl rfl rfl (fun r_61 uz hw => ?_)
          rcases hw with hw | hw | hw
          · refine an2 hw ?_
            clear hw
            intro he_63 he_64 hw
            have h_62 := hw
            clear hw
            have he_63 := he_63.symm
            subst he_63
            subst he_64
            exact absurd h_62 (by decide)
          · refine an2 hw ?_
            clear hw
            intro he_66 he_67 hw
            have h_65 := hw
            clear hw
            have he_66 := he_66.symm
            subst he_66
            subst he_67
            refine ww_eq (ws' := [(qj, .inr (2, [.ref jt, .ref je, .ref ju, .ref ja])), (ju, .inl (E.2.1 1, 32, .inl f1)), (a, .inl (E.2.1 1, 24, .inl f)), (b, .inl (E.2.1 1, 96, .inl gg)), (h, .inr (4, [.int (nI n), .int (nI r), .ref a, .ref b]))]) ?_ rfl rfl rfl
            refine ww_isub (v := (-1)) C dX2_plain_48 (by decide) ?_
            refine ww_iadd (v := (nI (tt - 1))) C dX2_plain_49 (nI_subc (a := tt) (c := 1) (by omega) rfl) ?_
            refine ww_istore (lv' := [(4, .int (nI (tt - 1))), (7, .int x_60), (6, .int 3), (5, .int (nI j_7)), (3, .int r_1), (0, .ref qj), (1, .ref h), (2, .ref sa)]) C dX2_plain_50 rfl rfl ?_
            refine ww_iload C dX2_plain_52 0 rfl ?_
            refine ww_iconst (v := 1) C dX2_plain_54 rfl ?_
            refine ww_isub (v := (nI ((tt - 1) - 1))) C dX2_plain_55 (pk_sub (a := (tt - 1)) (b := 1) (by omega)) ?_
            refine ww_istore (lv' := [(8, .int (nI ((tt - 1) - 1))), (4, .int (nI (tt - 1))), (7, .int x_60), (6, .int 3), (5, .int (nI j_7)), (3, .int r_1), (0, .ref qj), (1, .ref h), (2, .ref sa)]) C dX2_plain_56 rfl rfl ?_
            refine ww_aload_n C dX2_plain_58 6 rfl rfl ?_
            refine ww_get C fg_X2_23 0 rfl rfl dX2_plain_59 ?_
            refine ww_iload C dX2_plain_62 0 rfl ?_
            obtain ⟨x_71, ex_71⟩ : ∃ z : Int32, f1 ((tt - 1) - 1) = z := ⟨_, rfl⟩
            refine ww_iald (v := x_71) C 1 rfl (vp_in_nI (by omega) (by omega)) (ldn (by omega) ex_71) dX2_plain_64 ?_
            refine ww_istore (lv' := [(9, .int x_71), (8, .int (nI ((tt - 1) - 1))), (4, .int (nI (tt - 1))), (7, .int x_60), (6, .int 3), (5, .int (nI j_7)), (3, .int r_1), (0, .ref qj), (1, .ref h), (2, .ref sa)]) C dX2_plain_65 rfl rfl ?_
            refine ww_iload_n C dX2_plain_67 6 rfl rfl ?_
            refine ww_iload C dX2_plain_68 0 rfl ?_
            refine ww_iconst (v := (-1)) C dX2_plain_70 rfl ?_
            obtain ⟨x_72, ex_72⟩ : ∃ z : Int32, x_71 ^^^ ((-1) : Int32) = z := ⟨_, rfl⟩
            refine ww_ixor (v := x_72) C dX2_plain_71 ex_72 ?_
            obtain ⟨x_73, ex_73⟩ : ∃ z : Int32, r_1 &&& x_72 = z := ⟨_, rfl⟩
            refine ww_iand (v := x_73) C dX2_plain_72 ex_73 ?_
            refine ww_istore (lv' := [(10, .int x_73), (9, .int x_71), (8, .int (nI ((tt - 1) - 1))), (4, .int (nI (tt - 1))), (7, .int x_60), (6, .int 3), (5, .int (nI j_7)), (3, .int r_1), (0, .ref qj), (1, .ref h), (2, .ref sa)]) C dX2_plain_73 rfl rfl ?_
            refine ww_iload C dX2_plain_75 5 rfl ?_
            refine ww_tableIn (tgt := 163) C dX2_plain_77 (by decide) (by decide) rfl (by decide) ?_
            refine ww_aload_n C dX2_plain_163 8 rfl rfl ?_
            refine ww_get C fg_X2_23 0 rfl rfl dX2_plain_164 ?_
            refine ww_iload C dX2_plain_167 2 rfl ?_
            refine ww_iload C dX2_plain_169 1 rfl ?_
            refine ww_aload_n C dX2_plain_171 8 rfl rfl ?_
            refine ww_get C fg_X2_23 0 rfl rfl dX2_plain_172 ?_
            refine ww_iload C dX2_plain_175 3 rfl ?_
            obtain ⟨x_74, ex_74⟩ : ∃ z : Int32, f1 (tt - 1) = z := ⟨_, rfl⟩
            refine ww_iald (v := x_74) C 1 rfl (vp_in_nI (by omega) (by omega)) (ldn (by omega) ex_74) dX2_plain_177 ?_
            obtain ⟨x_75, ex_75⟩ : ∃ z : Int32, x_71 &&& x_74 = z := ⟨_, rfl⟩
            refine ww_iand (v := x_75) C dX2_plain_178 ex_75 ?_
            obtain ⟨f_76, ef_76⟩ : ∃ z : Nat → Int32, upd f1 ((tt - 1) - 1) x_75 = z := ⟨_, rfl⟩
            refine ww_iast (ws' := [(qj, .inr (2, [.ref jt, .ref je, .ref ju, .ref ja])), (ju, .inl (E.2.1 1, 32, .inl f_76)), (a, .inl (E.2.1 1, 24, .inl f)), (b, .inl (E.2.1 1, 96, .inl gg)), (h, .inr (4, [.int (nI n), .int (nI r), .ref a, .ref b]))]) C 1 rfl (vp_in_nI (by omega) (by omega)) (ldn2 (by omega) ef_76) rfl dX2_plain_179 ?_
            refine ww_goto (tgt := 298) C dX2_plain_180 (by decide) ?_
            obtain ⟨x_77, ex_77⟩ : ∃ z : Int32, (nI j_7) + Int32.ofInt (-1) = z := ⟨_, rfl⟩
            have zx_77 : x_77.toInt = ((j_7 : Nat) : Int) - 1 := by rw [← ex_77]; exact i_dec (c := 1) (nI_toInt (n := j_7) (by omega)) rfl (by omega) (by omega)
            refine ww_iinc (j := 6) (v := x_77) (lv' := [(5, .int x_77), (10, .int x_73), (9, .int x_71), (8, .int (nI ((tt - 1) - 1))), (4, .int (nI (tt - 1))), (7, .int x_60), (6, .int 3), (3, .int r_1), (0, .ref qj), (1, .ref h), (2, .ref sa)]) C dX2_plain_298 rfl ex_77 rfl rfl ?_
            refine ww_goto (tgt := 17) C dX2_plain_301 (by decide) ?_
            exact ww_lv [0, 4, 7, 8, 9, 10] rfl (ww_sub [0, 1, 2, 3, 4] rfl rfl (ih_17 x_77 j_7 (tt - 1) f_76 (by omega) (by omega) (by omega) (st_s (l := ((tt - 1) - 1)) hst (by omega) (by omega) (by rw [show so j_7 = 3 from ex_8, show sr j_7 = x_60 from ex_60]; exact (ev_3 (BS.at ex_71 (hst ((tt - 1) - 1) (by omega))) (BS.at2 (show (tt - 1) = ((tt - 1) - 1) + 1 by omega) ex_74 (hst (((tt - 1) - 1) + 1) (by omega))) ex_75)) ef_76) (by omega)))
          · refine an2 hw ?_
            clear hw
            intro he_69 he_70 hw
            have h_68 := hw
            clear hw
            have he_69 := he_69.symm
            subst he_69
            subst he_70
            exact absurd h_68 (by decide)
        · rw [ex_8, uN_4] at hoj_7
          refine ww_aload_n C dX2_plain_31 6 rfl rfl ?_
          refine ww_getR C hro fg_X2_77 i0 h0 rfl dX2_plain_32 ?_
          refine ww_iload C dX2_plain_35 1 rfl ?_
          obtain ⟨x_78, ex_78⟩ : ∃ z : Int32, sr j_7 = z := ⟨_, rfl⟩
          refine ww_ialdR (v := x_78) C hro i2 h2 (vp_in_nI (by omega) (by omega)) (ldn (by omega) ex_78) dX2_plain_37 ?_
          refine ww_istore (lv' := [(7, .int x_78), (6, .int 4), (5, .int (nI j_7)), (4, .int (nI tt)), (3, .int r_1), (0, .ref qj), (1, .ref h), (2, .ref sa)]) C dX2_plain_38 rfl rfl ?_
          refine ww_iload C dX2_plain_40 3 rfl ?_
          refine ww_iconst (v := 1) C dX2_plain_42 rfl ?_
          refine ww_iload C dX2_plain_43 1 rfl ?_
          refine ww_ci (wr := [(qj, .inr (2, [.ref jt, .ref je, .ref ju, .ref ja])), (ju, .inl (E.2.1 1, 32, .inl f1)), (a, .inl (E.2.1 1, 24, .inl f)), (b, .inl (E.2.1 1, 96, .inl gg)), (h, .inr (4, [.int (nI n), .int (nI r), .ref a, .ref b]))]) (k' := 0) (n' := 0) C (run_SN (As := [.int 4]) (rest := [.int 1, .int (nI tt)]) C (c_under X.2.1 E ro 4) ms_X11_under (List.mem_of_getElem? (i := 15) rfl) rfl rfl rfl rfl dX2_plain_45) (roK hro) [] [0, 1, 2, 3, 4] rfl rfl rfl rfl (fun r_79 uz hw => ?_)
          rcases hw with hw | hw | hw
          · refine an2 hw ?_
            clear hw
            intro he_81 he_82 hw
            have h_80 := hw
            clear hw
            have he_81 := he_81.symm
            subst he_81
            subst he_82
            exact absurd h_80 (by decide)
          · refine an2 hw ?_
            clear hw
            intro he_84 he_85 hw
            have h_83 := hw
            clear hw
            have he_84 := he_84.symm
            subst he_84
            subst he_85
            refine ww_eq (ws' := [(qj, .inr (2, [.ref jt, .ref je, .ref ju, .ref ja])), (ju, .inl (E.2.1 1, 32, .inl f1)), (a, .inl (E.2.1 1, 24, .inl f)), (b, .inl (E.2.1 1, 96, .inl gg)), (h, .inr (4, [.int (nI n), .int (nI r), .ref a, .ref b]))]) ?_ rfl rfl rfl
            refine ww_isub (v := (-1)) C dX2_plain_48 (by decide) ?_
            refine ww_iadd (v := (nI (tt - 1))) C dX2_plain_49 (nI_subc (a := tt) (c := 1) (by omega) rfl) ?_
            refine ww_istore (lv' := [(4, .int (nI (tt - 1))), (7, .int x_78), (6, .int 4), (5, .int (nI j_7)), (3, .int r_1), (0, .ref qj), (1, .ref h), (2, .ref sa)]) C dX2_plain_50 rfl rfl ?_
            refine ww_iload C dX2_plain_52 0 rfl ?_
            refine ww_iconst (v := 1) C dX2_plain_54 rfl ?_
            refine ww_isub (v := (nI ((tt - 1) - 1))) C dX2_plain_55 (pk_sub (a := (tt - 1)) (b := 1) (by omega)) ?_
            refine ww_istore (lv' := [(8, .int (nI ((tt - 1) - 1))), (4, .int (nI (tt - 1))), (7, .int x_78), (6, .int 4), (5, .int (nI j_7)), (3, .int r_1), (0, .ref qj), (1, .ref h), (2, .ref sa)]) C dX2_plain_56 rfl rfl ?_
            refine ww_aload_n C dX2_plain_58 6 rfl rfl ?_
            refine ww_get C fg_X2_23 0 rfl rfl dX2_plain_59 ?_
            refine ww_iload C dX2_plain_62 0 rfl ?_
            obtain ⟨x_89, ex_89⟩ : ∃ z : Int32, f1 ((tt - 1) - 1) = z := ⟨_, rfl⟩
            refine ww_iald (v := x_89) C 1 rfl (vp_in_nI (by omega) (by omega)) (ldn (by omega) ex_89) dX2_plain_64 ?_
            refine ww_istore (lv' := [(9, .int x_89), (8, .int (nI ((tt - 1) - 1))), (4, .int (nI (tt - 1))), (7, .int x_78), (6, .int 4), (5, .int (nI j_7)), (3, .int r_1), (0, .ref qj), (1, .ref h), (2, .ref sa)]) C dX2_plain_65 rfl rfl ?_
            refine ww_iload_n C dX2_plain_67 6 rfl rfl ?_
            refine ww_iload C dX2_plain_68 0 rfl ?_
            refine ww_iconst (v := (-1)) C dX2_plain_70 rfl ?_
            obtain ⟨x_90, ex_90⟩ : ∃ z : Int32, x_89 ^^^ ((-1) : Int32) = z := ⟨_, rfl⟩
            refine ww_ixor (v := x_90) C dX2_plain_71 ex_90 ?_
            obtain ⟨x_91, ex_91⟩ : ∃ z : Int32, r_1 &&& x_90 = z := ⟨_, rfl⟩
            refine ww_iand (v := x_91) C dX2_plain_72 ex_91 ?_
            refine ww_istore (lv' := [(10, .int x_91), (9, .int x_89), (8, .int (nI ((tt - 1) - 1))), (4, .int (nI (tt - 1))), (7, .int x_78), (6, .int 4), (5, .int (nI j_7)), (3, .int r_1), (0, .ref qj), (1, .ref h), (2, .ref sa)]) C dX2_plain_73 rfl rfl ?_
            refine ww_iload C dX2_plain_75 5 rfl ?_
            refine ww_tableIn (tgt := 183) C dX2_plain_77 (by decide) (by decide) rfl (by decide) ?_
            refine ww_aload_n C dX2_plain_183 8 rfl rfl ?_
            refine ww_get C fg_X2_23 0 rfl rfl dX2_plain_184 ?_
            refine ww_iload C dX2_plain_187 2 rfl ?_
            refine ww_iload C dX2_plain_189 1 rfl ?_
            refine ww_aload_n C dX2_plain_191 8 rfl rfl ?_
            refine ww_get C fg_X2_23 0 rfl rfl dX2_plain_192 ?_
            refine ww_iload C dX2_plain_195 3 rfl ?_
            obtain ⟨x_92, ex_92⟩ : ∃ z : Int32, f1 (tt - 1) = z := ⟨_, rfl⟩
            refine ww_iald (v := x_92) C 1 rfl (vp_in_nI (by omega) (by omega)) (ldn (by omega) ex_92) dX2_plain_197 ?_
            obtain ⟨x_93, ex_93⟩ : ∃ z : Int32, x_89 ||| x_92 = z := ⟨_, rfl⟩
            refine ww_ior (v := x_93) C dX2_plain_198 ex_93 ?_
            obtain ⟨f_94, ef_94⟩ : ∃ z : Nat → Int32, upd f1 ((tt - 1) - 1) x_93 = z := ⟨_, rfl⟩
            refine ww_iast (ws' := [(qj, .inr (2, [.ref jt, .ref je, .ref ju, .ref ja])), (ju, .inl (E.2.1 1, 32, .inl f_94)), (a, .inl (E.2.1 1, 24, .inl f)), (b, .inl (E.2.1 1, 96, .inl gg)), (h, .inr (4, [.int (nI n), .int (nI r), .ref a, .ref b]))]) C 1 rfl (vp_in_nI (by omega) (by omega)) (ldn2 (by omega) ef_94) rfl dX2_plain_199 ?_
            refine ww_goto (tgt := 298) C dX2_plain_200 (by decide) ?_
            obtain ⟨x_95, ex_95⟩ : ∃ z : Int32, (nI j_7) + Int32.ofInt (-1) = z := ⟨_, rfl⟩
            have zx_95 : x_95.toInt = ((j_7 : Nat) : Int) - 1 := by rw [← ex_95]; exact i_dec (c := 1) (nI_toInt (n := j_7) (by omega)) rfl (by omega) (by omega)
            refine ww_iinc (j := 6) (v := x_95) (lv' := [(5, .int x_95), (10, .int x_91), (9, .int x_89), (8, .int (nI ((tt - 1) - 1))), (4, .int (nI (tt - 1))), (7, .int x_78), (6, .int 4), (3, .int r_1), (0, .ref qj), (1, .ref h), (2, .ref sa)]) C dX2_plain_298 rfl ex_95 rfl rfl ?_
            refine ww_goto (tgt := 17) C dX2_plain_301 (by decide) ?_
            exact ww_lv [0, 4, 7, 8, 9, 10] rfl (ww_sub [0, 1, 2, 3, 4] rfl rfl (ih_17 x_95 j_7 (tt - 1) f_94 (by omega) (by omega) (by omega) (st_s (l := ((tt - 1) - 1)) hst (by omega) (by omega) (by rw [show so j_7 = 4 from ex_8, show sr j_7 = x_78 from ex_78]; exact (ev_4 (BS.at ex_89 (hst ((tt - 1) - 1) (by omega))) (BS.at2 (show (tt - 1) = ((tt - 1) - 1) + 1 by omega) ex_92 (hst (((tt - 1) - 1) + 1) (by omega))) ex_93)) ef_94) (by omega)))
          · refine an2 hw ?_
            clear hw
            intro he_87 he_88 hw
            have h_86 := hw
            clear hw
            have he_87 := he_87.symm
            subst he_87
            subst he_88
            exact absurd h_86 (by decide)
        · rw [ex_8, uN_5] at hoj_7
          refine ww_aload_n C dX2_plain_31 6 rfl rfl ?_
          refine ww_getR C hro fg_X2_77 i0 h0 rfl dX2_plain_32 ?_
          refine ww_iload C dX2_plain_35 1 rfl ?_
          obtain ⟨x_96, ex_96⟩ : ∃ z : Int32, sr j_7 = z := ⟨_, rfl⟩
          refine ww_ialdR (v := x_96) C hro i2 h2 (vp_in_nI (by omega) (by omega)) (ldn (by omega) ex_96) dX2_plain_37 ?_
          refine ww_istore (lv' := [(7, .int x_96), (6, .int 5), (5, .int (nI j_7)), (4, .int (nI tt)), (3, .int r_1), (0, .ref qj), (1, .ref h), (2, .ref sa)]) C dX2_plain_38 rfl rfl ?_
          refine ww_iload C dX2_plain_40 3 rfl ?_
          refine ww_iconst (v := 1) C dX2_plain_42 rfl ?_
          refine ww_iload C dX2_plain_43 1 rfl ?_
          refine ww_ci (wr := [(qj, .inr (2, [.ref jt, .ref je, .ref ju, .ref ja])), (ju, .inl (E.2.1 1, 32, .inl f1)), (a, .inl (E.2.1 1, 24, .inl f)), (b, .inl (E.2.1 1, 96, .inl gg)), (h, .inr (4, [.int (nI n), .int (nI r), .ref a, .ref b]))]) (k' := 0) (n' := 0) C (run_SN (As := [.int 5]) (rest := [.int 1, .int (nI tt)]) C (c_under X.2.1 E ro 5) ms_X11_under (List.mem_of_getElem? (i := 15) rfl) rfl rfl rfl rfl dX2_plain_45) (roK hro) [] [0, 1, 2, 3, 4] rfl rfl rfl rfl (fun r_97 uz hw => ?_)
          rcases hw with hw | hw | hw
          · refine an2 hw ?_
            clear hw
            intro he_99 he_100 hw
            have h_98 := hw
            clear hw
            have he_99 := he_99.symm
            subst he_99
            subst he_100
            exact absurd h_98 (by decide)
          · refine an2 hw ?_
            clear hw
            intro he_102 he_103 hw
            have h_101 := hw
            clear hw
            have he_102 := he_102.symm
            subst he_102
            subst he_103
            exact absurd h_101 (by decide)
          · refine an2 hw ?_
            clear hw
            intro he_105 he_106 hw
            have h_104 := hw
            clear hw
            have he_105 := he_105.symm
            subst he_105
            subst he_106
            refine ww_eq (ws' := [(qj, .inr (2, [.ref jt, .ref je, .ref ju, .ref ja])), (ju, .inl (E.2.1 1, 32, .inl f1)), (a, .inl (E.2.1 1, 24, .inl f)), (b, .inl (E.2.1 1, 96, .inl gg)), (h, .inr (4, [.int (nI n), .int (nI r), .ref a, .ref b]))]) ?_ rfl rfl rfl
            refine ww_isub (v := 0) C dX2_plain_48 (by decide) ?_
            refine ww_iadd (v := (nI tt)) C dX2_plain_49 (nI_add tt 0) ?_
            refine ww_istore (lv' := [(4, .int (nI tt)), (7, .int x_96), (6, .int 5), (5, .int (nI j_7)), (3, .int r_1), (0, .ref qj), (1, .ref h), (2, .ref sa)]) C dX2_plain_50 rfl rfl ?_
            refine ww_iload C dX2_plain_52 0 rfl ?_
            refine ww_iconst (v := 1) C dX2_plain_54 rfl ?_
            refine ww_isub (v := (nI (tt - 1))) C dX2_plain_55 (pk_sub (a := tt) (b := 1) (by omega)) ?_
            refine ww_istore (lv' := [(8, .int (nI (tt - 1))), (4, .int (nI tt)), (7, .int x_96), (6, .int 5), (5, .int (nI j_7)), (3, .int r_1), (0, .ref qj), (1, .ref h), (2, .ref sa)]) C dX2_plain_56 rfl rfl ?_
            refine ww_aload_n C dX2_plain_58 6 rfl rfl ?_
            refine ww_get C fg_X2_23 0 rfl rfl dX2_plain_59 ?_
            refine ww_iload C dX2_plain_62 0 rfl ?_
            obtain ⟨x_107, ex_107⟩ : ∃ z : Int32, f1 (tt - 1) = z := ⟨_, rfl⟩
            refine ww_iald (v := x_107) C 1 rfl (vp_in_nI (by omega) (by omega)) (ldn (by omega) ex_107) dX2_plain_64 ?_
            refine ww_istore (lv' := [(9, .int x_107), (8, .int (nI (tt - 1))), (4, .int (nI tt)), (7, .int x_96), (6, .int 5), (5, .int (nI j_7)), (3, .int r_1), (0, .ref qj), (1, .ref h), (2, .ref sa)]) C dX2_plain_65 rfl rfl ?_
            refine ww_iload_n C dX2_plain_67 6 rfl rfl ?_
            refine ww_iload C dX2_plain_68 0 rfl ?_
            refine ww_iconst (v := (-1)) C dX2_plain_70 rfl ?_
            obtain ⟨x_108, ex_108⟩ : ∃ z : Int32, x_107 ^^^ ((-1) : Int32) = z := ⟨_, rfl⟩
            refine ww_ixor (v := x_108) C dX2_plain_71 ex_108 ?_
            obtain ⟨x_109, ex_109⟩ : ∃ z : Int32, r_1 &&& x_108 = z := ⟨_, rfl⟩
            refine ww_iand (v := x_109) C dX2_plain_72 ex_109 ?_
            refine ww_istore (lv' := [(10, .int x_109), (9, .int x_107), (8, .int (nI (tt - 1))), (4, .int (nI tt)), (7, .int x_96), (6, .int 5), (5, .int (nI j_7)), (3, .int r_1), (0, .ref qj), (1, .ref h), (2, .ref sa)]) C dX2_plain_73 rfl rfl ?_
            refine ww_iload C dX2_plain_75 5 rfl ?_
            refine ww_tableIn (tgt := 203) C dX2_plain_77 (by decide) (by decide) rfl (by decide) ?_
            refine ww_aload_n C dX2_plain_203 8 rfl rfl ?_
            refine ww_get C fg_X2_23 0 rfl rfl dX2_plain_204 ?_
            refine ww_iload C dX2_plain_207 2 rfl ?_
            refine ww_iload_n C dX2_plain_209 7 rfl rfl ?_
            refine ww_aload_n C dX2_plain_210 9 rfl rfl ?_
            refine ww_iload C dX2_plain_211 4 rfl ?_
            refine ww_iload C dX2_plain_213 1 rfl ?_
            refine ww_iconst (v := 1) C dX2_plain_215 rfl ?_
            refine ww_ci (wr := [(qj, .inr (2, [.ref jt, .ref je, .ref ju, .ref ja])), (ju, .inl (E.2.1 1, 32, .inl f1))]) (k' := 0) (n' := 0) C (run_V (As := [.int x_96, .int x_107, .int 1]) (rest := [.int r_1, .int (nI (tt - 1)), .ref ju]) C (m_leadingTo X.2.1 E ro h x_96 x_107 1 n r a b f gg (by omega) (by omega) (by omega)) mi_X4_leadingTo wl_X2_87 rfl 0 4 rfl rfl rfl rfl rfl dX2_plain_216) (roK hro) [4, 2, 3] [0, 1] rfl rfl rfl rfl (fun r_110 uz hw => ?_)
            refine an1 hw ?_
            clear hw
            intro he_112 hw
            have h_111 := hw
            clear hw
            subst he_112
            refine ww_eq (ws' := [(qj, .inr (2, [.ref jt, .ref je, .ref ju, .ref ja])), (ju, .inl (E.2.1 1, 32, .inl f1)), (h, .inr (4, [.int (nI n), .int (nI r), .ref a, .ref b])), (a, .inl (E.2.1 1, 24, .inl f)), (b, .inl (E.2.1 1, 96, .inl gg))]) ?_ rfl rfl rfl
            refine ww_aload_n C dX2_plain_219 9 rfl rfl ?_
            refine ww_iload C dX2_plain_220 4 rfl ?_
            refine ww_iload C dX2_plain_222 0 rfl ?_
            refine ww_iconst (v := 1) C dX2_plain_224 rfl ?_
            refine ww_ci (wr := [(qj, .inr (2, [.ref jt, .ref je, .ref ju, .ref ja])), (ju, .inl (E.2.1 1, 32, .inl f1))]) (k' := 0) (n' := 0) C (run_V (As := [.int x_96, .int x_109, .int 1]) (rest := [.int r_110, .int r_1, .int (nI (tt - 1)), .ref ju]) C (m_leadingTo X.2.1 E ro h x_96 x_109 1 n r a b f gg (by omega) (by omega) (by omega)) mi_X4_leadingTo wl_X2_87 rfl 0 4 rfl rfl rfl rfl rfl dX2_plain_225) (roK hro) [2, 3, 4] [0, 1] rfl rfl rfl rfl (fun r_113 uz hw => ?_)
            refine an1 hw ?_
            clear hw
            intro he_115 hw
            have h_114 := hw
            clear hw
            subst he_115
            refine ww_eq (ws' := [(qj, .inr (2, [.ref jt, .ref je, .ref ju, .ref ja])), (ju, .inl (E.2.1 1, 32, .inl f1)), (h, .inr (4, [.int (nI n), .int (nI r), .ref a, .ref b])), (a, .inl (E.2.1 1, 24, .inl f)), (b, .inl (E.2.1 1, 96, .inl gg))]) ?_ rfl rfl rfl
            obtain ⟨x_116, ex_116⟩ : ∃ z : Int32, r_110 &&& r_113 = z := ⟨_, rfl⟩
            refine ww_iand (v := x_116) C dX2_plain_228 ex_116 ?_
            refine ww_iconst (v := (-1)) C dX2_plain_229 rfl ?_
            obtain ⟨x_117, ex_117⟩ : ∃ z : Int32, x_116 ^^^ ((-1) : Int32) = z := ⟨_, rfl⟩
            refine ww_ixor (v := x_117) C dX2_plain_230 ex_117 ?_
            obtain ⟨x_118, ex_118⟩ : ∃ z : Int32, r_1 &&& x_117 = z := ⟨_, rfl⟩
            refine ww_iand (v := x_118) C dX2_plain_231 ex_118 ?_
            obtain ⟨f_119, ef_119⟩ : ∃ z : Nat → Int32, upd f1 (tt - 1) x_118 = z := ⟨_, rfl⟩
            refine ww_iast (ws' := [(qj, .inr (2, [.ref jt, .ref je, .ref ju, .ref ja])), (ju, .inl (E.2.1 1, 32, .inl f_119)), (h, .inr (4, [.int (nI n), .int (nI r), .ref a, .ref b])), (a, .inl (E.2.1 1, 24, .inl f)), (b, .inl (E.2.1 1, 96, .inl gg))]) C 1 rfl (vp_in_nI (by omega) (by omega)) (ldn2 (by omega) ef_119) rfl dX2_plain_232 ?_
            refine ww_goto (tgt := 298) C dX2_plain_233 (by decide) ?_
            obtain ⟨x_120, ex_120⟩ : ∃ z : Int32, (nI j_7) + Int32.ofInt (-1) = z := ⟨_, rfl⟩
            have zx_120 : x_120.toInt = ((j_7 : Nat) : Int) - 1 := by rw [← ex_120]; exact i_dec (c := 1) (nI_toInt (n := j_7) (by omega)) rfl (by omega) (by omega)
            refine ww_iinc (j := 6) (v := x_120) (lv' := [(5, .int x_120), (10, .int x_109), (9, .int x_107), (8, .int (nI (tt - 1))), (4, .int (nI tt)), (7, .int x_96), (6, .int 5), (3, .int r_1), (0, .ref qj), (1, .ref h), (2, .ref sa)]) C dX2_plain_298 rfl ex_120 rfl rfl ?_
            refine ww_goto (tgt := 17) C dX2_plain_301 (by decide) ?_
            exact ww_lv [0, 4, 7, 8, 9, 10] rfl (ww_sub [0, 1, 3, 4, 2] rfl rfl (ih_17 x_120 j_7 tt f_119 (by omega) (by omega) (by omega) (st_s (l := (tt - 1)) hst (by omega) (by omega) (by rw [show so j_7 = 5 from ex_8, show sr j_7 = x_96 from ex_96]; exact (ev_5 hwfm hal (BS.at ex_107 (hst (tt - 1) (by omega))) ex_108 ex_109 h_111 h_114 ex_116 ex_117 ex_118)) ef_119) (by omega)))
        · rw [ex_8, uN_6] at hoj_7
          refine ww_aload_n C dX2_plain_31 6 rfl rfl ?_
          refine ww_getR C hro fg_X2_77 i0 h0 rfl dX2_plain_32 ?_
          refine ww_iload C dX2_plain_35 1 rfl ?_
          obtain ⟨x_121, ex_121⟩ : ∃ z : Int32, sr j_7 = z := ⟨_, rfl⟩
          refine ww_ialdR (v := x_121) C hro i2 h2 (vp_in_nI (by omega) (by omega)) (ldn (by omega) ex_121) dX2_plain_37 ?_
          refine ww_istore (lv' := [(7, .int x_121), (6, .int 6), (5, .int (nI j_7)), (4, .int (nI tt)), (3, .int r_1), (0, .ref qj), (1, .ref h), (2, .ref sa)]) C dX2_plain_38 rfl rfl ?_
          refine ww_iload C dX2_plain_40 3 rfl ?_
          refine ww_iconst (v := 1) C dX2_plain_42 rfl ?_
          refine ww_iload C dX2_plain_43 1 rfl ?_
          refine ww_ci (wr := [(qj, .inr (2, [.ref jt, .ref je, .ref ju, .ref ja])), (ju, .inl (E.2.1 1, 32, .inl f1)), (a, .inl (E.2.1 1, 24, .inl f)), (b, .inl (E.2.1 1, 96, .inl gg)), (h, .inr (4, [.int (nI n), .int (nI r), .ref a, .ref b]))]) (k' := 0) (n' := 0) C (run_SN (As := [.int 6]) (rest := [.int 1, .int (nI tt)]) C (c_under X.2.1 E ro 6) ms_X11_under (List.mem_of_getElem? (i := 15) rfl) rfl rfl rfl rfl dX2_plain_45) (roK hro) [] [0, 1, 2, 3, 4] rfl rfl rfl rfl (fun r_122 uz hw => ?_)
          rcases hw with hw | hw | hw
          · refine an2 hw ?_
            clear hw
            intro he_124 he_125 hw
            have h_123 := hw
            clear hw
            have he_124 := he_124.symm
            subst he_124
            subst he_125
            exact absurd h_123 (by decide)
          · refine an2 hw ?_
            clear hw
            intro he_127 he_128 hw
            have h_126 := hw
            clear hw
            have he_127 := he_127.symm
            subst he_127
            subst he_128
            exact absurd h_126 (by decide)
          · refine an2 hw ?_
            clear hw
            intro he_130 he_131 hw
            have h_129 := hw
            clear hw
            have he_130 := he_130.symm
            subst he_130
            subst he_131
            refine ww_eq (ws' := [(qj, .inr (2, [.ref jt, .ref je, .ref ju, .ref ja])), (ju, .inl (E.2.1 1, 32, .inl f1)), (a, .inl (E.2.1 1, 24, .inl f)), (b, .inl (E.2.1 1, 96, .inl gg)), (h, .inr (4, [.int (nI n), .int (nI r), .ref a, .ref b]))]) ?_ rfl rfl rfl
            refine ww_isub (v := 0) C dX2_plain_48 (by decide) ?_
            refine ww_iadd (v := (nI tt)) C dX2_plain_49 (nI_add tt 0) ?_
            refine ww_istore (lv' := [(4, .int (nI tt)), (7, .int x_121), (6, .int 6), (5, .int (nI j_7)), (3, .int r_1), (0, .ref qj), (1, .ref h), (2, .ref sa)]) C dX2_plain_50 rfl rfl ?_
            refine ww_iload C dX2_plain_52 0 rfl ?_
            refine ww_iconst (v := 1) C dX2_plain_54 rfl ?_
            refine ww_isub (v := (nI (tt - 1))) C dX2_plain_55 (pk_sub (a := tt) (b := 1) (by omega)) ?_
            refine ww_istore (lv' := [(8, .int (nI (tt - 1))), (4, .int (nI tt)), (7, .int x_121), (6, .int 6), (5, .int (nI j_7)), (3, .int r_1), (0, .ref qj), (1, .ref h), (2, .ref sa)]) C dX2_plain_56 rfl rfl ?_
            refine ww_aload_n C dX2_plain_58 6 rfl rfl ?_
            refine ww_get C fg_X2_23 0 rfl rfl dX2_plain_59 ?_
            refine ww_iload C dX2_plain_62 0 rfl ?_
            obtain ⟨x_132, ex_132⟩ : ∃ z : Int32, f1 (tt - 1) = z := ⟨_, rfl⟩
            refine ww_iald (v := x_132) C 1 rfl (vp_in_nI (by omega) (by omega)) (ldn (by omega) ex_132) dX2_plain_64 ?_
            refine ww_istore (lv' := [(9, .int x_132), (8, .int (nI (tt - 1))), (4, .int (nI tt)), (7, .int x_121), (6, .int 6), (5, .int (nI j_7)), (3, .int r_1), (0, .ref qj), (1, .ref h), (2, .ref sa)]) C dX2_plain_65 rfl rfl ?_
            refine ww_iload_n C dX2_plain_67 6 rfl rfl ?_
            refine ww_iload C dX2_plain_68 0 rfl ?_
            refine ww_iconst (v := (-1)) C dX2_plain_70 rfl ?_
            obtain ⟨x_133, ex_133⟩ : ∃ z : Int32, x_132 ^^^ ((-1) : Int32) = z := ⟨_, rfl⟩
            refine ww_ixor (v := x_133) C dX2_plain_71 ex_133 ?_
            obtain ⟨x_134, ex_134⟩ : ∃ z : Int32, r_1 &&& x_133 = z := ⟨_, rfl⟩
            refine ww_iand (v := x_134) C dX2_plain_72 ex_134 ?_
            refine ww_istore (lv' := [(10, .int x_134), (9, .int x_132), (8, .int (nI (tt - 1))), (4, .int (nI tt)), (7, .int x_121), (6, .int 6), (5, .int (nI j_7)), (3, .int r_1), (0, .ref qj), (1, .ref h), (2, .ref sa)]) C dX2_plain_73 rfl rfl ?_
            refine ww_iload C dX2_plain_75 5 rfl ?_
            refine ww_tableIn (tgt := 236) C dX2_plain_77 (by decide) (by decide) rfl (by decide) ?_
            refine ww_aload_n C dX2_plain_236 8 rfl rfl ?_
            refine ww_get C fg_X2_23 0 rfl rfl dX2_plain_237 ?_
            refine ww_iload C dX2_plain_240 2 rfl ?_
            refine ww_iload_n C dX2_plain_242 7 rfl rfl ?_
            refine ww_aload_n C dX2_plain_243 9 rfl rfl ?_
            refine ww_iload C dX2_plain_244 4 rfl ?_
            refine ww_iload C dX2_plain_246 0 rfl ?_
            refine ww_iconst (v := 1) C dX2_plain_248 rfl ?_
            refine ww_ci (wr := [(qj, .inr (2, [.ref jt, .ref je, .ref ju, .ref ja])), (ju, .inl (E.2.1 1, 32, .inl f1))]) (k' := 0) (n' := 0) C (run_V (As := [.int x_121, .int x_134, .int 1]) (rest := [.int r_1, .int (nI (tt - 1)), .ref ju]) C (m_leadingTo X.2.1 E ro h x_121 x_134 1 n r a b f gg (by omega) (by omega) (by omega)) mi_X4_leadingTo wl_X2_87 rfl 0 4 rfl rfl rfl rfl rfl dX2_plain_249) (roK hro) [4, 2, 3] [0, 1] rfl rfl rfl rfl (fun r_135 uz hw => ?_)
            refine an1 hw ?_
            clear hw
            intro he_137 hw
            have h_136 := hw
            clear hw
            subst he_137
            refine ww_eq (ws' := [(qj, .inr (2, [.ref jt, .ref je, .ref ju, .ref ja])), (ju, .inl (E.2.1 1, 32, .inl f1)), (h, .inr (4, [.int (nI n), .int (nI r), .ref a, .ref b])), (a, .inl (E.2.1 1, 24, .inl f)), (b, .inl (E.2.1 1, 96, .inl gg))]) ?_ rfl rfl rfl
            refine ww_iconst (v := (-1)) C dX2_plain_252 rfl ?_
            obtain ⟨x_138, ex_138⟩ : ∃ z : Int32, r_135 ^^^ ((-1) : Int32) = z := ⟨_, rfl⟩
            refine ww_ixor (v := x_138) C dX2_plain_253 ex_138 ?_
            obtain ⟨x_139, ex_139⟩ : ∃ z : Int32, r_1 &&& x_138 = z := ⟨_, rfl⟩
            refine ww_iand (v := x_139) C dX2_plain_254 ex_139 ?_
            obtain ⟨f_140, ef_140⟩ : ∃ z : Nat → Int32, upd f1 (tt - 1) x_139 = z := ⟨_, rfl⟩
            refine ww_iast (ws' := [(qj, .inr (2, [.ref jt, .ref je, .ref ju, .ref ja])), (ju, .inl (E.2.1 1, 32, .inl f_140)), (h, .inr (4, [.int (nI n), .int (nI r), .ref a, .ref b])), (a, .inl (E.2.1 1, 24, .inl f)), (b, .inl (E.2.1 1, 96, .inl gg))]) C 1 rfl (vp_in_nI (by omega) (by omega)) (ldn2 (by omega) ef_140) rfl dX2_plain_255 ?_
            refine ww_goto (tgt := 298) C dX2_plain_256 (by decide) ?_
            obtain ⟨x_141, ex_141⟩ : ∃ z : Int32, (nI j_7) + Int32.ofInt (-1) = z := ⟨_, rfl⟩
            have zx_141 : x_141.toInt = ((j_7 : Nat) : Int) - 1 := by rw [← ex_141]; exact i_dec (c := 1) (nI_toInt (n := j_7) (by omega)) rfl (by omega) (by omega)
            refine ww_iinc (j := 6) (v := x_141) (lv' := [(5, .int x_141), (10, .int x_134), (9, .int x_132), (8, .int (nI (tt - 1))), (4, .int (nI tt)), (7, .int x_121), (6, .int 6), (3, .int r_1), (0, .ref qj), (1, .ref h), (2, .ref sa)]) C dX2_plain_298 rfl ex_141 rfl rfl ?_
            refine ww_goto (tgt := 17) C dX2_plain_301 (by decide) ?_
            exact ww_lv [0, 4, 7, 8, 9, 10] rfl (ww_sub [0, 1, 3, 4, 2] rfl rfl (ih_17 x_141 j_7 tt f_140 (by omega) (by omega) (by omega) (st_s (l := (tt - 1)) hst (by omega) (by omega) (by rw [show so j_7 = 6 from ex_8, show sr j_7 = x_121 from ex_121]; exact (ev_6 hwfm hal (BS.at ex_132 (hst (tt - 1) (by omega))) ex_133 ex_134 h_136 ex_138 ex_139)) ef_140) (by omega)))
        · rw [ex_8, uN_7] at hoj_7
          refine ww_aload_n C dX2_plain_31 6 rfl rfl ?_
          refine ww_getR C hro fg_X2_77 i0 h0 rfl dX2_plain_32 ?_
          refine ww_iload C dX2_plain_35 1 rfl ?_
          obtain ⟨x_142, ex_142⟩ : ∃ z : Int32, sr j_7 = z := ⟨_, rfl⟩
          refine ww_ialdR (v := x_142) C hro i2 h2 (vp_in_nI (by omega) (by omega)) (ldn (by omega) ex_142) dX2_plain_37 ?_
          refine ww_istore (lv' := [(7, .int x_142), (6, .int 7), (5, .int (nI j_7)), (4, .int (nI tt)), (3, .int r_1), (0, .ref qj), (1, .ref h), (2, .ref sa)]) C dX2_plain_38 rfl rfl ?_
          refine ww_iload C dX2_plain_40 3 rfl ?_
          refine ww_iconst (v := 1) C dX2_plain_42 rfl ?_
          refine ww_iload C dX2_plain_43 1 rfl ?_
          refine ww_ci (wr := [(qj, .inr (2, [.ref jt, .ref je, .ref ju, .ref ja])), (ju, .inl (E.2.1 1, 32, .inl f1)), (a, .inl (E.2.1 1, 24, .inl f)), (b, .inl (E.2.1 1, 96, .inl gg)), (h, .inr (4, [.int (nI n), .int (nI r), .ref a, .ref b]))]) (k' := 0) (n' := 0) C (run_SN (As := [.int 7]) (rest := [.int 1, .int (nI tt)]) C (c_under X.2.1 E ro 7) ms_X11_under (List.mem_of_getElem? (i := 15) rfl) rfl rfl rfl rfl dX2_plain_45) (roK hro) [] [0, 1, 2, 3, 4] rfl rfl rfl rfl (fun r_143 uz hw => ?_)
          rcases hw with hw | hw | hw
          · refine an2 hw ?_
            clear hw
            intro he_145 he_146 hw
            have h_144 := hw
            clear hw
            have he_145 := he_145.symm
            subst he_145
            subst he_146
            exact absurd h_144 (by decide)
          · refine an2 hw ?_
            clear hw
            intro he_148 he_149 hw
            have h_147 := hw
            clear hw
            have he_148 := he_148.symm
            subst he_148
            subst he_149
            exact absurd h_147 (by decide)
          · refine an2 hw ?_
            clear hw
            intro he_151 he_152 hw
            have h_150 := hw
            clear hw
            have he_151 := he_151.symm
            subst he_151
            subst he_152
            refine ww_eq (ws' := [(qj, .inr (2, [.ref jt, .ref je, .ref ju, .ref ja])), (ju, .inl (E.2.1 1, 32, .inl f1)), (a, .inl (E.2.1 1, 24, .inl f)), (b, .inl (E.2.1 1, 96, .inl gg)), (h, .inr (4, [.int (nI n), .int (nI r), .ref a, .ref b]))]) ?_ rfl rfl rfl
            refine ww_isub (v := 0) C dX2_plain_48 (by decide) ?_
            refine ww_iadd (v := (nI tt)) C dX2_plain_49 (nI_add tt 0) ?_
            refine ww_istore (lv' := [(4, .int (nI tt)), (7, .int x_142), (6, .int 7), (5, .int (nI j_7)), (3, .int r_1), (0, .ref qj), (1, .ref h), (2, .ref sa)]) C dX2_plain_50 rfl rfl ?_
            refine ww_iload C dX2_plain_52 0 rfl ?_
            refine ww_iconst (v := 1) C dX2_plain_54 rfl ?_
            refine ww_isub (v := (nI (tt - 1))) C dX2_plain_55 (pk_sub (a := tt) (b := 1) (by omega)) ?_
            refine ww_istore (lv' := [(8, .int (nI (tt - 1))), (4, .int (nI tt)), (7, .int x_142), (6, .int 7), (5, .int (nI j_7)), (3, .int r_1), (0, .ref qj), (1, .ref h), (2, .ref sa)]) C dX2_plain_56 rfl rfl ?_
            refine ww_aload_n C dX2_plain_58 6 rfl rfl ?_
            refine ww_get C fg_X2_23 0 rfl rfl dX2_plain_59 ?_
            refine ww_iload C dX2_plain_62 0 rfl ?_
            obtain ⟨x_153, ex_153⟩ : ∃ z : Int32, f1 (tt - 1) = z := ⟨_, rfl⟩
            refine ww_iald (v := x_153) C 1 rfl (vp_in_nI (by omega) (by omega)) (ldn (by omega) ex_153) dX2_plain_64 ?_
            refine ww_istore (lv' := [(9, .int x_153), (8, .int (nI (tt - 1))), (4, .int (nI tt)), (7, .int x_142), (6, .int 7), (5, .int (nI j_7)), (3, .int r_1), (0, .ref qj), (1, .ref h), (2, .ref sa)]) C dX2_plain_65 rfl rfl ?_
            refine ww_iload_n C dX2_plain_67 6 rfl rfl ?_
            refine ww_iload C dX2_plain_68 0 rfl ?_
            refine ww_iconst (v := (-1)) C dX2_plain_70 rfl ?_
            obtain ⟨x_154, ex_154⟩ : ∃ z : Int32, x_153 ^^^ ((-1) : Int32) = z := ⟨_, rfl⟩
            refine ww_ixor (v := x_154) C dX2_plain_71 ex_154 ?_
            obtain ⟨x_155, ex_155⟩ : ∃ z : Int32, r_1 &&& x_154 = z := ⟨_, rfl⟩
            refine ww_iand (v := x_155) C dX2_plain_72 ex_155 ?_
            refine ww_istore (lv' := [(10, .int x_155), (9, .int x_153), (8, .int (nI (tt - 1))), (4, .int (nI tt)), (7, .int x_142), (6, .int 7), (5, .int (nI j_7)), (3, .int r_1), (0, .ref qj), (1, .ref h), (2, .ref sa)]) C dX2_plain_73 rfl rfl ?_
            refine ww_iload C dX2_plain_75 5 rfl ?_
            refine ww_tableIn (tgt := 259) C dX2_plain_77 (by decide) (by decide) rfl (by decide) ?_
            refine ww_aload_n C dX2_plain_259 8 rfl rfl ?_
            refine ww_get C fg_X2_23 0 rfl rfl dX2_plain_260 ?_
            refine ww_iload C dX2_plain_263 2 rfl ?_
            refine ww_iload_n C dX2_plain_265 7 rfl rfl ?_
            refine ww_aload_n C dX2_plain_266 9 rfl rfl ?_
            refine ww_iload C dX2_plain_267 4 rfl ?_
            refine ww_iload C dX2_plain_269 0 rfl ?_
            refine ww_bipush (v := 24) C dX2_plain_271 rfl ?_
            refine ww_ci (wr := [(qj, .inr (2, [.ref jt, .ref je, .ref ju, .ref ja])), (ju, .inl (E.2.1 1, 32, .inl f1))]) (k' := 0) (n' := 0) C (run_V (As := [.int x_142, .int x_155, .int 24]) (rest := [.int r_1, .int (nI (tt - 1)), .ref ju]) C (m_leadingTo X.2.1 E ro h x_142 x_155 24 n r a b f gg (by omega) (by omega) (by omega)) mi_X4_leadingTo wl_X2_87 rfl 0 4 rfl rfl rfl rfl rfl dX2_plain_273) (roK hro) [4, 2, 3] [0, 1] rfl rfl rfl rfl (fun r_156 uz hw => ?_)
            refine an1 hw ?_
            clear hw
            intro he_158 hw
            have h_157 := hw
            clear hw
            subst he_158
            refine ww_eq (ws' := [(qj, .inr (2, [.ref jt, .ref je, .ref ju, .ref ja])), (ju, .inl (E.2.1 1, 32, .inl f1)), (h, .inr (4, [.int (nI n), .int (nI r), .ref a, .ref b])), (a, .inl (E.2.1 1, 24, .inl f)), (b, .inl (E.2.1 1, 96, .inl gg))]) ?_ rfl rfl rfl
            refine ww_iconst (v := (-1)) C dX2_plain_276 rfl ?_
            obtain ⟨x_159, ex_159⟩ : ∃ z : Int32, r_156 ^^^ ((-1) : Int32) = z := ⟨_, rfl⟩
            refine ww_ixor (v := x_159) C dX2_plain_277 ex_159 ?_
            obtain ⟨x_160, ex_160⟩ : ∃ z : Int32, r_1 &&& x_159 = z := ⟨_, rfl⟩
            refine ww_iand (v := x_160) C dX2_plain_278 ex_160 ?_
            obtain ⟨f_161, ef_161⟩ : ∃ z : Nat → Int32, upd f1 (tt - 1) x_160 = z := ⟨_, rfl⟩
            refine ww_iast (ws' := [(qj, .inr (2, [.ref jt, .ref je, .ref ju, .ref ja])), (ju, .inl (E.2.1 1, 32, .inl f_161)), (h, .inr (4, [.int (nI n), .int (nI r), .ref a, .ref b])), (a, .inl (E.2.1 1, 24, .inl f)), (b, .inl (E.2.1 1, 96, .inl gg))]) C 1 rfl (vp_in_nI (by omega) (by omega)) (ldn2 (by omega) ef_161) rfl dX2_plain_279 ?_
            refine ww_goto (tgt := 298) C dX2_plain_280 (by decide) ?_
            obtain ⟨x_162, ex_162⟩ : ∃ z : Int32, (nI j_7) + Int32.ofInt (-1) = z := ⟨_, rfl⟩
            have zx_162 : x_162.toInt = ((j_7 : Nat) : Int) - 1 := by rw [← ex_162]; exact i_dec (c := 1) (nI_toInt (n := j_7) (by omega)) rfl (by omega) (by omega)
            refine ww_iinc (j := 6) (v := x_162) (lv' := [(5, .int x_162), (10, .int x_155), (9, .int x_153), (8, .int (nI (tt - 1))), (4, .int (nI tt)), (7, .int x_142), (6, .int 7), (3, .int r_1), (0, .ref qj), (1, .ref h), (2, .ref sa)]) C dX2_plain_298 rfl ex_162 rfl rfl ?_
            refine ww_goto (tgt := 17) C dX2_plain_301 (by decide) ?_
            exact ww_lv [0, 4, 7, 8, 9, 10] rfl (ww_sub [0, 1, 3, 4, 2] rfl rfl (ih_17 x_162 j_7 tt f_161 (by omega) (by omega) (by omega) (st_s (l := (tt - 1)) hst (by omega) (by omega) (by rw [show so j_7 = 7 from ex_8, show sr j_7 = x_142 from ex_142]; exact (ev_7 hwfm hn hal (BS.at ex_153 (hst (tt - 1) (by omega))) ex_154 ex_155 h_157 ex_159 ex_160)) ef_161) (by omega)))
        · rw [ex_8, uN_8] at hoj_7
          refine ww_aload_n C dX2_plain_31 6 rfl rfl ?_
          refine ww_getR C hro fg_X2_77 i0 h0 rfl dX2_plain_32 ?_
          refine ww_iload C dX2_plain_35 1 rfl ?_
          obtain ⟨x_163, ex_163⟩ : ∃ z : Int32, sr j_7 = z := ⟨_, rfl⟩
          refine ww_ialdR (v := x_163) C hro i2 h2 (vp_in_nI (by omega) (by omega)) (ldn (by omega) ex_163) dX2_plain_37 ?_
          refine ww_istore (lv' := [(7, .int x_163), (6, .int 8), (5, .int (nI j_7)), (4, .int (nI tt)), (3, .int r_1), (0, .ref qj), (1, .ref h), (2, .ref sa)]) C dX2_plain_38 rfl rfl ?_
          refine ww_iload C dX2_plain_40 3 rfl ?_
          refine ww_iconst (v := 1) C dX2_plain_42 rfl ?_
          refine ww_iload C dX2_plain_43 1 rfl ?_
          refine ww_ci (wr := [(qj, .inr (2, [.ref jt, .ref je, .ref ju, .ref ja])), (ju, .inl (E.2.1 1, 32, .inl f1)), (a, .inl (E.2.1 1, 24, .inl f)), (b, .inl (E.2.1 1, 96, .inl gg)), (h, .inr (4, [.int (nI n), .int (nI r), .ref a, .ref b]))]) (k' := 0) (n' := 0) C (run_SN (As := [.int 8]) (rest := [.int 1, .int (nI tt)]) C (c_under X.2.1 E ro 8) ms_X11_under (List.mem_of_getElem? (i := 15) rfl) rfl rfl rfl rfl dX2_plain_45) (roK hro) [] [0, 1, 2, 3, 4] rfl rfl rfl rfl (fun r_164 uz hw => ?_)
          rcases hw with hw | hw | hw
          · refine an2 hw ?_
            clear hw
            intro he_166 he_167 hw
            have h_165 := hw
            clear hw
            have he_166 := he_166.symm
            subst he_166
            subst he_167
            exact absurd h_165 (by decide)
          · refine an2 hw ?_
            clear hw
            intro he_169 he_170 hw
            have h_168 := hw
            clear hw
            have he_169 := he_169.symm
            subst he_169
            subst he_170
            exact absurd h_168 (by decide)
          · refine an2 hw ?_
            clear hw
            intro he_172 he_173 hw
            have h_171 := hw
            clear hw
            have he_172 := he_172.symm
            subst he_172
            subst he_173
            refine ww_eq (ws' := [(qj, .inr (2, [.ref jt, .ref je, .ref ju, .ref ja])), (ju, .inl (E.2.1 1, 32, .inl f1)), (a, .inl (E.2.1 1, 24, .inl f)), (b, .inl (E.2.1 1, 96, .inl gg)), (h, .inr (4, [.int (nI n), .int (nI r), .ref a, .ref b]))]) ?_ rfl rfl rfl
            refine ww_isub (v := 0) C dX2_plain_48 (by decide) ?_
            refine ww_iadd (v := (nI tt)) C dX2_plain_49 (nI_add tt 0) ?_
            refine ww_istore (lv' := [(4, .int (nI tt)), (7, .int x_163), (6, .int 8), (5, .int (nI j_7)), (3, .int r_1), (0, .ref qj), (1, .ref h), (2, .ref sa)]) C dX2_plain_50 rfl rfl ?_
            refine ww_iload C dX2_plain_52 0 rfl ?_
            refine ww_iconst (v := 1) C dX2_plain_54 rfl ?_
            refine ww_isub (v := (nI (tt - 1))) C dX2_plain_55 (pk_sub (a := tt) (b := 1) (by omega)) ?_
            refine ww_istore (lv' := [(8, .int (nI (tt - 1))), (4, .int (nI tt)), (7, .int x_163), (6, .int 8), (5, .int (nI j_7)), (3, .int r_1), (0, .ref qj), (1, .ref h), (2, .ref sa)]) C dX2_plain_56 rfl rfl ?_
            refine ww_aload_n C dX2_plain_58 6 rfl rfl ?_
            refine ww_get C fg_X2_23 0 rfl rfl dX2_plain_59 ?_
            refine ww_iload C dX2_plain_62 0 rfl ?_
            obtain ⟨x_174, ex_174⟩ : ∃ z : Int32, f1 (tt - 1) = z := ⟨_, rfl⟩
            refine ww_iald (v := x_174) C 1 rfl (vp_in_nI (by omega) (by omega)) (ldn (by omega) ex_174) dX2_plain_64 ?_
            refine ww_istore (lv' := [(9, .int x_174), (8, .int (nI (tt - 1))), (4, .int (nI tt)), (7, .int x_163), (6, .int 8), (5, .int (nI j_7)), (3, .int r_1), (0, .ref qj), (1, .ref h), (2, .ref sa)]) C dX2_plain_65 rfl rfl ?_
            refine ww_iload_n C dX2_plain_67 6 rfl rfl ?_
            refine ww_iload C dX2_plain_68 0 rfl ?_
            refine ww_iconst (v := (-1)) C dX2_plain_70 rfl ?_
            obtain ⟨x_175, ex_175⟩ : ∃ z : Int32, x_174 ^^^ ((-1) : Int32) = z := ⟨_, rfl⟩
            refine ww_ixor (v := x_175) C dX2_plain_71 ex_175 ?_
            obtain ⟨x_176, ex_176⟩ : ∃ z : Int32, r_1 &&& x_175 = z := ⟨_, rfl⟩
            refine ww_iand (v := x_176) C dX2_plain_72 ex_176 ?_
            refine ww_istore (lv' := [(10, .int x_176), (9, .int x_174), (8, .int (nI (tt - 1))), (4, .int (nI tt)), (7, .int x_163), (6, .int 8), (5, .int (nI j_7)), (3, .int r_1), (0, .ref qj), (1, .ref h), (2, .ref sa)]) C dX2_plain_73 rfl rfl ?_
            refine ww_iload C dX2_plain_75 5 rfl ?_
            refine ww_tableOut (tgt := 283) C dX2_plain_77 (by decide) (by decide) ?_
            refine ww_aload_n C dX2_plain_283 8 rfl rfl ?_
            refine ww_get C fg_X2_23 0 rfl rfl dX2_plain_284 ?_
            refine ww_iload C dX2_plain_287 2 rfl ?_
            refine ww_aload_n C dX2_plain_289 9 rfl rfl ?_
            refine ww_iload C dX2_plain_290 4 rfl ?_
            refine ww_iload C dX2_plain_292 1 rfl ?_
            refine ww_ci (wr := [(qj, .inr (2, [.ref jt, .ref je, .ref ju, .ref ja])), (ju, .inl (E.2.1 1, 32, .inl f1))]) (k' := 0) (n' := 0) C (run_V (As := [.int x_163, .int x_174]) (rest := [.int (nI (tt - 1)), .ref ju]) C (m_togetherWithin X.2.1 E ro h x_163 x_174 n r a b f gg (by omega) (by omega)) mi_X4_togetherWithin wl_X2_91 rfl 0 4 rfl rfl rfl rfl rfl dX2_plain_294) (roK hro) [4, 2, 3] [0, 1] rfl rfl rfl rfl (fun r_177 uz hw => ?_)
            refine an1 hw ?_
            clear hw
            intro he_179 hw
            have h_178 := hw
            clear hw
            subst he_179
            refine ww_eq (ws' := [(qj, .inr (2, [.ref jt, .ref je, .ref ju, .ref ja])), (ju, .inl (E.2.1 1, 32, .inl f1)), (h, .inr (4, [.int (nI n), .int (nI r), .ref a, .ref b])), (a, .inl (E.2.1 1, 24, .inl f)), (b, .inl (E.2.1 1, 96, .inl gg))]) ?_ rfl rfl rfl
            obtain ⟨f_180, ef_180⟩ : ∃ z : Nat → Int32, upd f1 (tt - 1) r_177 = z := ⟨_, rfl⟩
            refine ww_iast (ws' := [(qj, .inr (2, [.ref jt, .ref je, .ref ju, .ref ja])), (ju, .inl (E.2.1 1, 32, .inl f_180)), (h, .inr (4, [.int (nI n), .int (nI r), .ref a, .ref b])), (a, .inl (E.2.1 1, 24, .inl f)), (b, .inl (E.2.1 1, 96, .inl gg))]) C 1 rfl (vp_in_nI (by omega) (by omega)) (ldn2 (by omega) ef_180) rfl dX2_plain_297 ?_
            obtain ⟨x_181, ex_181⟩ : ∃ z : Int32, (nI j_7) + Int32.ofInt (-1) = z := ⟨_, rfl⟩
            have zx_181 : x_181.toInt = ((j_7 : Nat) : Int) - 1 := by rw [← ex_181]; exact i_dec (c := 1) (nI_toInt (n := j_7) (by omega)) rfl (by omega) (by omega)
            refine ww_iinc (j := 6) (v := x_181) (lv' := [(5, .int x_181), (10, .int x_176), (9, .int x_174), (8, .int (nI (tt - 1))), (4, .int (nI tt)), (7, .int x_163), (6, .int 8), (3, .int r_1), (0, .ref qj), (1, .ref h), (2, .ref sa)]) C dX2_plain_298 rfl ex_181 rfl rfl ?_
            refine ww_goto (tgt := 17) C dX2_plain_301 (by decide) ?_
            exact ww_lv [0, 4, 7, 8, 9, 10] rfl (ww_sub [0, 1, 3, 4, 2] rfl rfl (ih_17 x_181 j_7 tt f_180 (by omega) (by omega) (by omega) (st_s (l := (tt - 1)) hst (by omega) (by omega) (by rw [show so j_7 = 8 from ex_8, show sr j_7 = x_163 from ex_163]; exact (ev_8 (BS.at ex_174 (hst (tt - 1) (by omega))) h_178)) ef_180) (by omega)))
  exact ww_lv [0, 1, 2, 3, 4, 5] rfl (ww_sub [0, 1, 2, 3, 4] rfl rfl (loop_17 _ x_4 nn 0 ft (by omega) (by omega) (by have := hwf.2.2.2.2; omega) (st_0 hwf.2.2.2.2) (Nat.lt_succ_self _)))
end
section
theorem cN_s {f g : Nat → Int32} {k t : Nat} (ht : t < 2 ^ 31) (e : upd f k (nI t) = g) : cN g k = t := by
  unfold cN; rw [← e, pk_us]; exact nI_clamp ht
theorem cN_n {f g : Nat → Int32} {k j : Nat} {v : Int32} (e : upd f k v = g) (h : j ≠ k) : cN g j = cN f j := by
  unfold cN; rw [← e, pk_un h]
/-! events by value: cases, the real one, ifs, what becomes so and not so, who holds what -/
abbrev EVl : Type := Nat × Nat × (Nat → Option SVal) × (Nat → Int32) × (Nat → Int32) × (Nat → Int32)
def canE (m : AM) (o : Option SVal) : Nat → Bool := match o with
  | none => vAll m
  | some S => vPl m S.1 S.2.1 S.2.2.1
/-- the pairs, as places: 4 w + c -/
def lyP (m : AM) (ev : EVl) : Nat → Bool := fun p => decide (p / 4 < m.1) && (decide (p % 4 < ev.1) && canE m (ev.2.2.1 (p % 4)) (p / 4))
theorem lyP_at {m : AM} {ev : EVl} {w c : Nat} (hc : c < 4) : lyP m ev (4 * w + c) = (decide (w < m.1) && (decide (c < ev.1) && canE m (ev.2.2.1 c) w)) := by
  unfold lyP
  rw [show (4 * w + c) / 4 = w by omega, show (4 * w + c) % 4 = c by omega]
def lyC (m : AM) (ev : EVl) : Nat := cb (lyP m ev) (4 * m.1)
/-- the model behind an event -/
def lyF (m : AM) (ev : EVl) : Nat → Int32 := fun p => chg ev.2.2.2.1 ev.2.2.2.2.1 (m.2.2.1 (p / 4)) (p % 4)
def lyR (m : AM) (ev : EVl) : Nat → Nat → Nat → Bool := fun k p q => m.2.2.2 k (p / 4) (q / 4) && bt (ev.2.2.2.2.2 (k * 4 + p % 4)) (q % 4)
def aLay (m : AM) (ev : EVl) : AM := cmpS (lyP m ev) (4 * m.1) (if lyP m ev (4 * m.2.1 + ev.2.1) = true then cb (lyP m ev) (4 * m.2.1 + ev.2.1) else 0) (lyF m ev) (lyR m ev)
/-- of a layer: which cases can be in which worlds -/
def LYM (n : Nat) (P : Nat → Bool) (cf : Nat → Int32) : Prop := ∀ w c, w < n → c < 4 → (cN cf w).testBit c = P (4 * w + c)
theorem ly_w {n : Nat} {P : Nat → Bool} {cf : Nat → Int32} (h : LYM n P cf) : ∀ w, w ≤ n → pcs cf w = cb P (4 * w)
  | 0, _ => rfl
  | w + 1, hw => by
    have e : 4 * (w + 1) = 4 * w + 4 := by omega
    rw [e, cb_add, pcs_s, ly_w h w (by omega)]
    congr 1
    unfold bi
    exact cb_congr (fun i hi => h w i (by omega) hi)
theorem ly_cb {n : Nat} {P : Nat → Bool} {cf : Nat → Int32} (h : LYM n P cf) {w c : Nat} (hw : w < n) (hc : c ≤ 4) : pcs cf w + bi cf w c = cb P (4 * w + c) := by
  rw [cb_add, ly_w h w (by omega)]
  congr 1
  unfold bi
  exact cb_congr (fun i hi => h w i hw (by omega))
/-- cases below c are measured, of case c the worlds below i -/
def LYx (n : Nat) (C : Nat → Nat → Bool) (c i : Nat) (cf : Nat → Int32) : Prop := ∀ w c', w < n → c' < 4 → (cN cf w).testBit c' = (decide (c' < c ∨ c' = c ∧ w < i) && C c' w)
theorem LYx.zero {n : Nat} {C : Nat → Nat → Bool} {cf : Nat → Int32} (h : ∀ w, w < n → cf w = 0) : LYx n C 0 0 cf := fun w c hw _ => by
  have e : cN cf w = 0 := by unfold cN; rw [h w hw]; rfl
  rw [e, Nat.zero_testBit, decide_eq_false (show ¬ (c < 0 ∨ c = 0 ∧ w < 0) by omega), Bool.false_and]
theorem LYx.up {n c i : Nat} {C : Nat → Nat → Bool} {cf : Nat → Int32} (h : LYx n C c i cf) (e : i = n) : LYx n C (c + 1) 0 cf := fun w c' hw hc => by
  rw [h w c' hw hc]
  congr 1
  exact dec_cg (by omega)
theorem LYx.ext {n c i j t : Nat} {C : Nat → Nat → Bool} {cf g : Nat → Int32} (h : LYx n C c i cf) (hc : c < 4) (hi : i < n) (hj : decide (j = 1) = C c i) (hj2 : j < 2) (ht : t = cN cf i ||| j * 2 ^ c) (ht2 : t < 2 ^ 31) (e : upd cf i (nI t) = g) : LYx n C c (i + 1) g := by
  intro w c' hw hc'
  by_cases q : w = i
  · subst q
    rw [cN_s ht2 e, ht, Nat.testBit_or, h w c' hw hc']
    have hb : (j * 2 ^ c).testBit c' = (decide (j = 1) && decide (c' = c)) := by
      rcases (show j = 0 ∨ j = 1 by omega) with rfl | rfl
      · rw [Nat.zero_mul, Nat.zero_testBit]; rfl
      · rw [Nat.one_mul, Nat.testBit_two_pow]
        show decide (c = c') = (true && decide (c' = c))
        rw [Bool.true_and]; exact dec_cg ⟨fun z => z.symm, fun z => z.symm⟩
    rw [hb, hj]
    by_cases z : c' = c
    · subst z
      rw [decide_eq_false (show ¬ (c' < c' ∨ c' = c' ∧ w < w) by omega), decide_eq_true (show c' < c' ∨ c' = c' ∧ w < w + 1 by omega), decide_eq_true rfl, Bool.false_and, Bool.false_or, Bool.true_and, Bool.and_true]
    · rw [decide_eq_false z, Bool.and_false, Bool.or_false, dec_cg (show (c' < c ∨ c' = c ∧ w < w) ↔ (c' < c ∨ c' = c ∧ w < w + 1) by omega)]
  · rw [cN_n e q, h w c' hw hc', dec_cg (show (c' < c ∨ c' = c ∧ w < i) ↔ (c' < c ∨ c' = c ∧ w < i + 1) by omega)]
theorem LYx.lym {n r cs rc i : Nat} {f g : Nat → Int32} {T : Nat → Option SVal} {fb fc fd cf : Nat → Int32} (h : LYx n (fun c w => canE (am n r f g) (T c) w) i 0 cf) (e : i = cs) : LYM n (lyP (am n r f g) (cs, rc, T, fb, fc, fd)) cf := by
  subst e
  intro w c hw hc
  rw [lyP_at hc, h w c hw hc]
  show _ = (decide (w < n) && (decide (c < i) && canE (am n r f g) (T c) w))
  rw [decide_eq_true hw, Bool.true_and, dec_cg (show (c < i ∨ c = i ∧ w < 0) ↔ c < i by omega)]
theorem orshX {a j c : Nat} {y : Int32} (hc : c < 4) (ha : a < 2 ^ (c + 1)) (hj : j < 2) (e : nI j <<< (nI c &&& 31) = y) : nI a ||| y = nI (a ||| j * 2 ^ c) ∧ a ||| j * 2 ^ c < 2 ^ (c + 1) := by
  have h : ∀ c, c < 4 → ∀ a, a < 2 ^ (c + 1) → ∀ j, j < 2 → nI a ||| (nI j <<< (nI c &&& 31)) = nI (a ||| j * 2 ^ c) ∧ a ||| j * 2 ^ c < 2 ^ (c + 1) := by decide +kernel
  subst e
  exact h c hc a ha j hj
theorem shj_b {x s : Int32} {i j : Nat} {P : Nat → Bool} (h : BS x P) (hi : i < 32) (e1 : x >>> (nI i &&& 31) = s) (e2 : s &&& 1 = nI j) (hj : j < 2) : decide (j = 1) = P i := by
  rw [← h i hi]
  rcases (show j = 0 ∨ j = 1 by omega) with rfl | rfl
  · rw [hasb_0 hi e1 e2 rfl]; rfl
  · rw [hasb_1 hi e1 e2 rfl]; rfl
/-! the model behind is built, pair by pair (N places, P: which are pairs) -/
section LAYB
variable {P : Nat → Bool} {N i : Nat} {q q' f1 f2 : Nat → Int32} {F : Nat → Int32}
/-- which pairs have which case: the places below i are taken -/
def PQx (P : Nat → Bool) (N i : Nat) (q : Nat → Int32) : Prop := ∀ c, c < 4 → BS (q c) (fun j => decide (j < cb P i) && decide (nth P N j % 4 = c))
theorem PQx.nil (h : ∀ c, c < 4 → q c = 0) : PQx P N 0 q := fun c hc v hv => by
  show bt (q c) v = (decide (v < 0) && _)
  rw [h c hc, b_0, decide_eq_false (Nat.not_lt_zero v), Bool.false_and]
theorem PQx.f (h : PQx P N i q) (hP : P i = false) : PQx P N (i + 1) q := by unfold PQx; rw [cb_f hP]; exact h
theorem cb_flat {P : Nat → Bool} {i j : Nat} (hij : i ≤ j) (hP : ∀ p, i ≤ p → p < j → P p = false) : cb P j = cb P i := by
  obtain ⟨d, rfl⟩ : ∃ d, j = i + d := ⟨j - i, by omega⟩
  rw [cb_add, cb_zero (f := fun k => P (i + k)) (fun k hk => hP (i + k) (by omega) (by omega)), Nat.add_zero]
theorem PQx.fs {j : Nat} (h : PQx P N i q) (hij : i ≤ j) (hP : ∀ p, i ≤ p → p < j → P p = false) : PQx P N j q := by unfold PQx; rw [cb_flat hij hP]; exact h
theorem PQx.t {x y z : Int32} {c t : Nat} (h : PQx P N i q) (hi : i < N) (h24 : cb P i ≤ 30) (hP : P i = true) (hc : c = i % 4) (ht : t = cb P i) (ex : q c = x) (ey : (1 : Int32) <<< (nI t &&& 31) = y) (ez : x ||| y = z) (e : upd q c z = q') : PQx P N (i + 1) q' := by
  subst ht
  intro c' hc' v hv
  rw [cb_t hP, ← e]
  by_cases k : c' = c
  · rw [k, pk_us, ← ez, b_or, ← ey, one_b h24 v hv, ← ex, h c (by omega) v hv]
    show ((decide (v < cb P i) && decide (nth P N v % 4 = c)) || decide (v = cb P i)) = (decide (v < cb P i + 1) && decide (nth P N v % 4 = c))
    by_cases z : v = cb P i
    · rw [z, nth_cb hi hP, decide_eq_true (show i % 4 = c from hc.symm), decide_eq_true rfl, decide_eq_true (show cb P i < cb P i + 1 by omega), Bool.or_true, Bool.and_self]
    · rw [decide_eq_false z, Bool.or_false, dec_cg (show v < cb P i + 1 ↔ v < cb P i by omega)]
  · rw [pk_un k, h c' hc' v hv]
    show (decide (v < cb P i) && decide (nth P N v % 4 = c')) = (decide (v < cb P i + 1) && decide (nth P N v % 4 = c'))
    by_cases z : v = cb P i
    · rw [z, nth_cb hi hP, decide_eq_false (show ¬ i % 4 = c' by omega), Bool.and_false, Bool.and_false]
    · rw [dec_cg (show v < cb P i + 1 ↔ v < cb P i by omega)]
/-- the facts of the pairs so far -/
def PFx (P : Nat → Bool) (i : Nat) (F : Nat → Int32) (f1 : Nat → Int32) : Prop := ∀ p, p < i → P p = true → f1 (cb P p) = F p
theorem PFx.nil : PFx P 0 F f1 := fun p h => absurd h (Nat.not_lt_zero _)
theorem PFx.f (h : PFx P i F f1) (hP : P i = false) : PFx P (i + 1) F f1 := fun p hp hq => h p (Nat.lt_of_le_of_ne (by omega) (fun z => by rw [z, hP] at hq; cases hq)) hq
theorem PFx.fs {j : Nat} (h : PFx P i F f1) (hij : i ≤ j) (hP : ∀ p, i ≤ p → p < j → P p = false) : PFx P j F f1 := fun p hp hq => by
  rcases Nat.lt_or_ge p i with z | z
  · exact h p z hq
  · rw [hP p z hp] at hq; cases hq
theorem PFx.t {x : Int32} {t : Nat} (h : PFx P i F f1) (hP : P i = true) (ht : t = cb P i) (hx : x = F i) (e : upd f1 t x = f2) : PFx P (i + 1) F f2 := by
  intro p hp hq
  rw [← e]
  by_cases z : p = i
  · rw [z, ht, pk_us]; exact hx
  · have h1 := cb_lt (f := P) (show p < i by omega) hq
    rw [pk_un (by omega)]; exact h p (by omega) hq
end LAYB
/-- the pairs of some worlds: those of the first i worlds -/
def PWx (P : Nat → Bool) (N M : Nat) (bs : Int32) (i : Nat) (x : Int32) : Prop := BS x (fun j => decide (j < cb P (4 * i)) && bt bs (nth P N j / 4))
theorem PWx.nil {P : Nat → Bool} {N M : Nat} {bs : Int32} : PWx P N M bs 0 0 := fun v hv => by
  show bt 0 v = (decide (v < 0) && bt bs (nth P N v / 4))
  rw [b_0, decide_eq_false (Nat.not_lt_zero v), Bool.false_and]
theorem nth_4 {P : Nat → Bool} {N i v : Nat} (h : 4 * i + 4 ≤ N) (h1 : cb P (4 * i) ≤ v) (h2 : v < cb P (4 * i + 4)) : nth P N v / 4 = i := by
  rw [nth_up h h2]
  have h3 := nth_in h2
  have h4 := nth_ge h1 h2
  omega
theorem PWx.f {P : Nat → Bool} {N M i : Nat} {bs x : Int32} (h : PWx P N M bs i x) (hN : 4 * i + 4 ≤ N) (hb : bt bs i = false) : PWx P N M bs (i + 1) x := fun v hv => by
  rw [h v hv]
  show (decide (v < cb P (4 * i)) && bt bs (nth P N v / 4)) = (decide (v < cb P (4 * i + 4)) && bt bs (nth P N v / 4))
  have hm := cb_mono P (show 4 * i ≤ 4 * i + 4 by omega)
  by_cases z : v < cb P (4 * i)
  · rw [decide_eq_true z, decide_eq_true (show v < cb P (4 * i + 4) by omega)]
  · rw [decide_eq_false z, Bool.false_and]
    by_cases y : v < cb P (4 * i + 4)
    · rw [nth_4 hN (by omega) y, hb, Bool.and_false]
    · rw [decide_eq_false y, Bool.false_and]
theorem blk_b {a l v : Nat} {x y z w : Int32} (hl : l ≤ 4) (ha : a + l ≤ 30) (e1 : (1 : Int32) <<< (nI l &&& 31) = x) (e2 : x - 1 = y) (e3 : y <<< (nI a &&& 31) = z) (hv : v < 32) : bt z v = (decide (a ≤ v) && decide (v < a + l)) := by
  have h1 : ∀ i, i < 32 → bt y i = decide (i < l) := all_b (n := l) (by omega) e1 e2
  rw [← e3, b_shl a (by omega) _ hv, h1 (v - a) (by omega)]
  by_cases q : a ≤ v
  · rw [decide_eq_true q, Bool.true_and, Bool.true_and]; exact dec_cg (by omega)
  · rw [decide_eq_false q, Bool.false_and, Bool.false_and]
theorem PWx.t {P : Nat → Bool} {N M i l a : Nat} {bs x p q y z : Int32} (h : PWx P N M bs i x) (hN : 4 * i + 4 ≤ N) (hb : bt bs i = true) (hM : cb P (4 * i + 4) ≤ 30) (ha : a = cb P (4 * i)) (hl : a + l = cb P (4 * i + 4)) (hl4 : l ≤ 4) (e1 : (1 : Int32) <<< (nI l &&& 31) = p) (e2 : p - 1 = q) (e3 : q <<< (nI a &&& 31) = y) (e : x ||| y = z) : PWx P N M bs (i + 1) z := fun v hv => by
  rw [← e, b_or, h v hv, blk_b (w := 0) hl4 (by omega) e1 e2 e3 hv, hl, ha]
  show ((decide (v < cb P (4 * i)) && bt bs (nth P N v / 4)) || (decide (cb P (4 * i) ≤ v) && decide (v < cb P (4 * i + 4)))) = (decide (v < cb P (4 * i + 4)) && bt bs (nth P N v / 4))
  have hm := cb_mono P (show 4 * i ≤ 4 * i + 4 by omega)
  by_cases z : v < cb P (4 * i)
  · rw [decide_eq_true z, decide_eq_true (show v < cb P (4 * i + 4) by omega), decide_eq_false (show ¬ cb P (4 * i) ≤ v by omega), Bool.false_and, Bool.or_false]
  · rw [decide_eq_false z, Bool.false_and, Bool.false_or, decide_eq_true (show cb P (4 * i) ≤ v by omega), Bool.true_and]
    by_cases y : v < cb P (4 * i + 4)
    · rw [nth_4 hN (by omega) y, hb, Bool.and_true]
    · rw [decide_eq_false y, Bool.false_and]
/-- the pairs of some cases: those of the first i -/
def PCx (P : Nat → Bool) (N M : Nat) (bs : Int32) (i : Nat) (x : Int32) : Prop := BS x (fun j => decide (j < cb P M) && (decide (nth P N j % 4 < i) && bt bs (nth P N j % 4)))
theorem PCx.nil {P : Nat → Bool} {N M : Nat} {bs : Int32} : PCx P N M bs 0 0 := fun v hv => by
  show bt 0 v = (decide (v < cb P M) && (decide (nth P N v % 4 < 0) && _))
  rw [b_0, decide_eq_false (Nat.not_lt_zero _), Bool.false_and, Bool.and_false]
theorem PCx.f {P : Nat → Bool} {N M i : Nat} {bs x : Int32} (h : PCx P N M bs i x) (hb : bt bs i = false) : PCx P N M bs (i + 1) x := fun v hv => by
  rw [h v hv]
  show (decide (v < cb P M) && (decide (nth P N v % 4 < i) && bt bs (nth P N v % 4))) = (decide (v < cb P M) && (decide (nth P N v % 4 < i + 1) && bt bs (nth P N v % 4)))
  congr 1
  by_cases z : nth P N v % 4 = i
  · rw [z, hb, Bool.and_false, Bool.and_false]
  · rw [dec_cg (show nth P N v % 4 < i + 1 ↔ nth P N v % 4 < i by omega)]
theorem PCx.t {P : Nat → Bool} {N M i : Nat} {bs x y z : Int32} {q : Nat → Int32} (h : PCx P N M bs i x) (hq : PQx P N M q) (hi : i < 4) (hb : bt bs i = true) (ey : q i = y) (e : x ||| y = z) : PCx P N M bs (i + 1) z := fun v hv => by
  rw [← e, b_or, h v hv, ← ey, hq i hi v hv]
  show ((decide (v < cb P M) && (decide (nth P N v % 4 < i) && bt bs (nth P N v % 4))) || (decide (v < cb P M) && decide (nth P N v % 4 = i))) = (decide (v < cb P M) && (decide (nth P N v % 4 < i + 1) && bt bs (nth P N v % 4)))
  by_cases z : nth P N v % 4 = i
  · rw [z, hb, decide_eq_false (Nat.lt_irrefl i), decide_eq_true rfl, decide_eq_true (show i < i + 1 by omega), Bool.false_and, Bool.and_false, Bool.false_or, Bool.and_true, Bool.true_and, Bool.and_true]
  · rw [decide_eq_false z, Bool.and_false, Bool.or_false, dec_cg (show nth P N v % 4 < i + 1 ↔ nth P N v % 4 < i by omega)]
/-- rows of the pairs: of knowers below k, of knower k those of places below i -/
def PRx (P : Nat → Bool) (N k i : Nat) (R : Nat → Nat → Nat → Bool) (g : Nat → Int32) : Prop := ∀ k' p, k' < 4 → p < N → P p = true → (k' < k ∨ k' = k ∧ p < i) → BS (g (k' * 24 + cb P p)) (fun j => decide (j < cb P N) && R k' p (nth P N j))
theorem PRx.nil {P : Nat → Bool} {N : Nat} {R : Nat → Nat → Nat → Bool} {g : Nat → Int32} : PRx P N 0 0 R g := fun k p _ _ _ h => absurd h (by omega)
theorem PRx.up {P : Nat → Bool} {N k i : Nat} {R : Nat → Nat → Nat → Bool} {g : Nat → Int32} (h : PRx P N k i R g) (e : i = N) : PRx P N (k + 1) 0 R g := fun k' p a b c d => h k' p a b c (by omega)
theorem PRx.f {P : Nat → Bool} {N k i : Nat} {R : Nat → Nat → Nat → Bool} {g : Nat → Int32} (h : PRx P N k i R g) (hP : P i = false) : PRx P N k (i + 1) R g := fun k' p a b c d => h k' p a b c (d.elim Or.inl (fun q => Or.inr ⟨q.1, Nat.lt_of_le_of_ne (by omega) (fun z => by rw [z, hP] at c; cases c)⟩))
theorem PRx.f4 {P : Nat → Bool} {N k w : Nat} {R : Nat → Nat → Nat → Bool} {g : Nat → Int32} (h : PRx P N k (4 * w) R g) (hP : ∀ c, c < 4 → P (4 * w + c) = false) : PRx P N k (4 * (w + 1)) R g := PRx.f (PRx.f (PRx.f (PRx.f h (hP 0 (by omega))) (hP 1 (by omega))) (hP 2 (by omega))) (hP 3 (by omega))
theorem PRx.fs {P : Nat → Bool} {N k i j : Nat} {R : Nat → Nat → Nat → Bool} {g : Nat → Int32} (h : PRx P N k i R g) (hij : i ≤ j) (hP : ∀ p, i ≤ p → p < j → P p = false) : PRx P N k j R g := fun k' p a b c d => h k' p a b c (d.elim Or.inl (fun q => Or.inr ⟨q.1, by
  rcases Nat.lt_or_ge p i with z | z
  · exact z
  · rw [hP p z q.2] at c; cases c⟩))
theorem PRx.t {P : Nat → Bool} {N k i t : Nat} {R : Nat → Nat → Nat → Bool} {g g' : Nat → Int32} {r : Int32} (h : PRx P N k i R g) (hN : cb P N ≤ 24) (hi : i < N) (hk : k < 4) (hP : P i = true) (ht : t = cb P i) (hr : BS r (fun j => decide (j < cb P N) && R k i (nth P N j))) (e : upd g (k * 24 + t) r = g') : PRx P N k (i + 1) R g' := by
  intro k' p a b c d
  have h1 := cb_lt (f := P) b c
  have h2 := cb_lt (f := P) hi hP
  rw [← e]
  by_cases z : k' * 24 + cb P p = k * 24 + t
  · have e1 : k' = k := by omega
    have e2 : p = i := cb_inj c hP (by omega)
    rw [z, pk_us, e1, e2]; exact hr
  · rw [pk_un z]
    refine h k' p a b c (d.elim Or.inl (fun q => Or.inr ⟨q.1, Nat.lt_of_le_of_ne (by omega) (fun y => z ?_)⟩))
    rw [q.1, y, ht]
/-- the pairs of a world and those of a case: those of both -/
theorem hp_row {n r cs rc k w c : Nat} {f g : Nat → Int32} {T : Nat → Option SVal} {fb fc fd : Nat → Int32} {bs b2 x y z : Int32} (hw : w < n) (hc : c < 4) (hk : k < 4) (h1 : PWx (lyP (am n r f g) (cs, rc, T, fb, fc, fd)) (4 * n) n bs n x) (e1 : g (k * 24 + w) = bs) (h2 : PCx (lyP (am n r f g) (cs, rc, T, fb, fc, fd)) (4 * n) (4 * n) b2 4 y) (e2 : fd (k * 4 + c) = b2) (e : x &&& y = z) : BS z (fun j => decide (j < cb (lyP (am n r f g) (cs, rc, T, fb, fc, fd)) (4 * n)) && lyR (am n r f g) (cs, rc, T, fb, fc, fd) k (4 * w + c) (nth (lyP (am n r f g) (cs, rc, T, fb, fc, fd)) (4 * n) j)) := by
  intro v hv
  rw [← e, b_and, h1 v hv, h2 v hv]
  show ((decide (v < cb _ (4 * n)) && bt bs (nth _ (4 * n) v / 4)) && (decide (v < cb _ (4 * n)) && (decide (nth _ (4 * n) v % 4 < 4) && bt b2 (nth _ (4 * n) v % 4)))) = (decide (v < cb _ (4 * n)) && ((am n r f g).2.2.2 k ((4 * w + c) / 4) (nth _ (4 * n) v / 4) && bt (fd (k * 4 + (4 * w + c) % 4)) (nth _ (4 * n) v % 4)))
  rw [show (4 * w + c) / 4 = w by omega, show (4 * w + c) % 4 = c by omega, am_S hk hw, e1, e2, decide_eq_true (show nth (lyP (am n r f g) (cs, rc, T, fb, fc, fd)) (4 * n) v % 4 < 4 by omega), Bool.true_and]
  by_cases q : v < cb (lyP (am n r f g) (cs, rc, T, fb, fc, fd)) (4 * n)
  · rw [decide_eq_true q, Bool.true_and, Bool.true_and, Bool.true_and]
  · rw [decide_eq_false q, Bool.false_and, Bool.false_and, Bool.false_and]
/-- worlds that become one of these, or of which nothing can become -/
def bcm (P : Nat → Bool) (w rc : Nat) : Nat := if P (4 * w + rc) = true then cb P (4 * w + rc) else cb P (4 * w)
def vBack (m : AM) (ev : EVl) (T : Nat → Bool) : Nat → Bool := fun w => decide (w < m.1) && (decide (cb (lyP m ev) (4 * w + 4) = cb (lyP m ev) (4 * w)) || T (bcm (lyP m ev) w ev.2.1))
theorem lyP_no {m : AM} {ev : EVl} {w c : Nat} (hc : ev.1 ≤ c) (h4 : c < 4) : lyP m ev (4 * w + c) = false := by
  rw [lyP_at h4, decide_eq_false (show ¬ c < ev.1 by omega), Bool.false_and, Bool.and_false]
theorem lyP_nos {m : AM} {ev : EVl} {w c : Nat} (hc : ev.1 ≤ c) : ∀ p, 4 * w + c ≤ p → p < 4 * w + 4 → lyP m ev p = false := fun p h1 h2 => by
  rw [show p = 4 * w + (p - 4 * w) by omega]
  exact lyP_no (by omega) (by omega)
theorem cN_0b {cf : Nat → Int32} {w : Nat} (h : cN cf w = 0) : ∀ c, (cN cf w).testBit c = false := fun c => by rw [h, Nat.zero_testBit]
theorem bi_0 {cf : Nat → Int32} {w : Nat} (h : cN cf w < 16) : bi cf w 4 = 0 ↔ cN cf w = 0 := by
  have key : ∀ t, t < 16 → (cb t.testBit 4 = 0 ↔ t = 0) := by decide +kernel
  exact key _ h
theorem lyF_at {n r cs rc w c : Nat} {f g : Nat → Int32} {T : Nat → Option SVal} {fb fc fd : Nat → Int32} (hw : w < n) (hc : c < 4) : lyF (am n r f g) (cs, rc, T, fb, fc, fd) (4 * w + c) = chg fb fc (f w) c := by
  unfold lyF
  rw [show (4 * w + c) / 4 = w by omega, show (4 * w + c) % 4 = c by omega]
  show chg fb fc ((am n r f g).2.2.1 w) c = _
  rw [am_F hw]
theorem bcm_lt {P : Nat → Bool} {w rc N : Nat} (hrc : rc < 4) (hw : 4 * w + 4 ≤ N) : bcm P w rc ≤ cb P N := by
  unfold bcm
  split
  · exact cb_mono P (by omega)
  · exact cb_mono P (by omega)
theorem vBack_b {m : AM} {ev : EVl} {x : Int32} {T : Nat → Bool} {y : Int32} (h : BS y (vBack m ev (bt x))) (hx : BS x T) (hC : lyC m ev ≤ 24) (hrc : ev.2.1 < 4) : BS y (vBack m ev T) := h.cg (fun w _ => by
  show (decide (w < m.1) && (_ || bt x (bcm (lyP m ev) w ev.2.1))) = (decide (w < m.1) && (_ || T (bcm (lyP m ev) w ev.2.1)))
  by_cases q : w < m.1
  · have h1 := bcm_lt (P := lyP m ev) (w := w) (N := 4 * m.1) hrc (by omega)
    have h2 : cb (lyP m ev) (4 * m.1) ≤ 24 := hC
    rw [hx _ (by omega)]
  · rw [decide_eq_false q, Bool.false_and, Bool.false_and])
/-- where a saying is true, its afters laid -/
def vW (m : AM) (ev : Nat → EVl) (S : SVal) : List Nat → Nat → Bool
  | [] => vPl m S.1 S.2.1 S.2.2.1
  | e :: es => if lyC m (ev e) ≤ 24 then vBack m (ev e) (vW (aLay m (ev e)) ev S es) else vAll m
def aftL (S : SVal) : List Nat := if S.2.2.2.2.2.2.2 = 0 then [] else if S.2.2.2.2.2.2.2 = 1 then [cN S.2.2.2.1 0] else [cN S.2.2.2.1 0, cN S.2.2.2.1 1]
def vWho (m : AM) (ev : Nat → EVl) (S : SVal) : Nat → Bool := vW m ev S (aftL S)
theorem cN_of {f : Nat → Int32} {k j : Nat} (h : f k = nI j) (hj : j < 2 ^ 31) : cN f k = j := by unfold cN; rw [h]; exact nI_clamp hj
section VWH
variable {m : AM} {ev : Nat → EVl} {S : SVal} {x y z : Int32} {j k : Nat}
theorem w_0 (hS : S.2.2.2.2.2.2.2 = 0) (h : BS x (vPl m S.1 S.2.1 S.2.2.1)) : BS x (vWho m ev S) := by
  unfold vWho aftL; rw [if_pos hS]; exact h
theorem aft_1 (hS : S.2.2.2.2.2.2.2 = 1) (e : cN S.2.2.2.1 0 = j) : aftL S = [j] := by
  unfold aftL; rw [if_neg (by omega), if_pos hS, e]
theorem aft_2 (hS : S.2.2.2.2.2.2.2 = 2) (e : cN S.2.2.2.1 0 = j) (e2 : cN S.2.2.2.1 1 = k) : aftL S = [j, k] := by
  unfold aftL; rw [if_neg (by omega), if_neg (by omega), e, e2]
theorem aft_n (hS : S.2.2.2.2.2.2.2 ≠ 0) (e : cN S.2.2.2.1 0 = j) : ∃ l, aftL S = j :: l := by
  unfold aftL; rw [if_neg hS, e]
  by_cases q : S.2.2.2.2.2.2.2 = 1
  · rw [if_pos q]; exact ⟨_, rfl⟩
  · rw [if_neg q]; exact ⟨_, rfl⟩
theorem vW_y {es : List Nat} (hC : lyC m (ev j) ≤ 24) (hrc : (ev j).2.1 < 4) (h : BS x (vW (aLay m (ev j)) ev S es)) (hy : BS y (vBack m (ev j) (bt x))) : BS y (vW m ev S (j :: es)) := by
  show BS y (if lyC m (ev j) ≤ 24 then vBack m (ev j) (vW (aLay m (ev j)) ev S es) else vAll m)
  rw [if_pos hC]; exact vBack_b hy h hC hrc
theorem vW_n {es : List Nat} (hC : ¬ lyC m (ev j) ≤ 24) (h : BS x (vAll m)) : BS x (vW m ev S (j :: es)) := by
  show BS x (if lyC m (ev j) ≤ 24 then vBack m (ev j) (vW (aLay m (ev j)) ev S es) else vAll m)
  rw [if_neg hC]; exact h
theorem w_1 (hS : S.2.2.2.2.2.2.2 = 1) (e : cN S.2.2.2.1 0 = j) (hC : lyC m (ev j) ≤ 24) (hrc : (ev j).2.1 < 4) (h : BS x (vPl (aLay m (ev j)) S.1 S.2.1 S.2.2.1)) (hy : BS y (vBack m (ev j) (bt x))) : BS y (vWho m ev S) := by
  unfold vWho; rw [aft_1 hS e]; exact vW_y hC hrc (es := []) h hy
theorem w_n (hS : S.2.2.2.2.2.2.2 ≠ 0) (e : cN S.2.2.2.1 0 = j) (hC : ¬ lyC m (ev j) ≤ 24) (h : BS x (vAll m)) : BS x (vWho m ev S) := by
  obtain ⟨l, hl⟩ := aft_n hS e
  unfold vWho; rw [hl]; exact vW_n hC h
theorem w_2 (hS : S.2.2.2.2.2.2.2 = 2) (e : cN S.2.2.2.1 0 = j) (e2 : cN S.2.2.2.1 1 = k) (hC : lyC m (ev j) ≤ 24) (hrc : (ev j).2.1 < 4) (hC2 : lyC (aLay m (ev j)) (ev k) ≤ 24) (hrc2 : (ev k).2.1 < 4) (h : BS x (vPl (aLay (aLay m (ev j)) (ev k)) S.1 S.2.1 S.2.2.1)) (hy : BS y (vBack (aLay m (ev j)) (ev k) (bt x))) (hz : BS z (vBack m (ev j) (bt y))) : BS z (vWho m ev S) := by
  unfold vWho; rw [aft_2 hS e e2]; exact vW_y hC hrc (vW_y hC2 hrc2 (es := []) h hy) hz
theorem w_2n (hS : S.2.2.2.2.2.2.2 = 2) (e : cN S.2.2.2.1 0 = j) (e2 : cN S.2.2.2.1 1 = k) (hC : lyC m (ev j) ≤ 24) (hrc : (ev j).2.1 < 4) (hC2 : ¬ lyC (aLay m (ev j)) (ev k) ≤ 24) (h : BS x (vAll (aLay m (ev j)))) (hy : BS y (vBack m (ev j) (bt x))) : BS y (vWho m ev S) := by
  unfold vWho; rw [aft_2 hS e e2]; exact vW_y hC hrc (vW_n hC2 h) hy
end VWH
end
section
theorem dX3_measure_0 : decode cX3_measure 0 = .ok (.aload_n 0, 1) := dl_42 (by decide +kernel)
theorem dX3_measure_1 : decode cX3_measure 1 = .ok (.aload_n 1, 1) := dl_43 (by decide +kernel)
theorem dX3_measure_2 : decode cX3_measure 2 = .ok (.getfield 28, 3) := dl_180 (by decide +kernel)
theorem wf_X3_28 : Cond.fieldLink RX3 28 RX4 "size" "I" ∈ TB := tbm (tq1 (List.mem_of_getElem? (i := 35) (by decide +kernel))) (by decide +kernel)
theorem fg_X3_28 : FG RX3 28 4 0 := ⟨RX4, TX4, 4, uw_X4, wf_X3_28, rfl, by decide, rfl⟩
theorem dX3_measure_5 : decode cX3_measure 5 = .ok (.putfield 32, 3) := dl_181 (by decide +kernel)
theorem uw_X3 : ∀ w ∈ u_ws RX3 TX3 6, w ∈ TB := uw_of [199, 201, 203, 205, 207, 209] (by decide +kernel) (by decide +kernel)
theorem wf_X3_32 : Cond.fieldLink RX3 32 RX3 "worlds" "I" ∈ TB := tbm (tq1 (List.mem_of_getElem? (i := 195) (by decide +kernel))) (by decide +kernel)
theorem fp_X3_32 : FP RX3 32 3 2 .int false := ⟨RX3, TX3, 6, tyX3, uw_X3, wf_X3_32, rfl, by decide, rfl, tyX3_ok, nmX3, rfl, by decide +kernel⟩
theorem dX3_measure_8 : decode cX3_measure 8 = .ok (.iconst 0, 1) := dl_3 (by decide +kernel)
theorem dX3_measure_9 : decode cX3_measure 9 = .ok (.istore 4, 2) := dl_54 (by decide +kernel)
theorem dX3_measure_11 : decode cX3_measure 11 = .ok (.iload 4, 2) := dl_21 (by decide +kernel)
theorem dX3_measure_13 : decode cX3_measure 13 = .ok (.aload_n 0, 1) := dl_42 (by decide +kernel)
theorem dX3_measure_14 : decode cX3_measure 14 = .ok (.getfield 32, 3) := dl_180 (by decide +kernel)
theorem fg_X3_32 : FG RX3 32 3 2 := ⟨RX3, TX3, 6, uw_X3, wf_X3_32, rfl, by decide, rfl⟩
theorem dX3_measure_17 : decode cX3_measure 17 = .ok (.if_icmp .ge 17, 3) := dl_162 (by decide +kernel)
theorem dX3_measure_34 : decode cX3_measure 34 = .ok (.iconst 0, 1) := dl_3 (by decide +kernel)
theorem dX3_measure_35 : decode cX3_measure 35 = .ok (.istore 4, 2) := dl_54 (by decide +kernel)
theorem dX3_measure_37 : decode cX3_measure 37 = .ok (.iload 4, 2) := dl_21 (by decide +kernel)
theorem dX3_measure_39 : decode cX3_measure 39 = .ok (.aload_n 2, 1) := dl_44 (by decide +kernel)
theorem dX3_measure_40 : decode cX3_measure 40 = .ok (.getfield 35, 3) := dl_180 (by decide +kernel)
theorem wf_X3_35 : Cond.fieldLink RX3 35 RX0 "cases" "I" ∈ TB := tbm (tq1 (List.mem_of_getElem? (i := 151) (by decide +kernel))) (by decide +kernel)
theorem fg_X3_35 : FG RX3 35 0 0 := ⟨RX0, TX0, 6, uw_X0, wf_X3_35, rfl, by decide, rfl⟩
theorem dX3_measure_43 : decode cX3_measure 43 = .ok (.if_icmp .ge 77, 3) := dl_162 (by decide +kernel)
theorem dX3_measure_120 : decode cX3_measure 120 = .ok (.aload_n 0, 1) := dl_42 (by decide +kernel)
theorem dX3_measure_121 : decode cX3_measure 121 = .ok (.iconst 0, 1) := dl_3 (by decide +kernel)
theorem dX3_measure_122 : decode cX3_measure 122 = .ok (.putfield 54, 3) := dl_181 (by decide +kernel)
theorem wf_X3_54 : Cond.fieldLink RX3 54 RX3 "pairs" "I" ∈ TB := tbm (tq1 (List.mem_of_getElem? (i := 192) (by decide +kernel))) (by decide +kernel)
theorem fp_X3_54 : FP RX3 54 3 1 .int false := ⟨RX3, TX3, 6, tyX3, uw_X3, wf_X3_54, rfl, by decide, rfl, tyX3_ok, nmX3, rfl, by decide +kernel⟩
theorem dX3_measure_125 : decode cX3_measure 125 = .ok (.iconst 0, 1) := dl_3 (by decide +kernel)
theorem dX3_measure_126 : decode cX3_measure 126 = .ok (.istore 4, 2) := dl_54 (by decide +kernel)
theorem dX3_measure_128 : decode cX3_measure 128 = .ok (.iload 4, 2) := dl_21 (by decide +kernel)
theorem dX3_measure_130 : decode cX3_measure 130 = .ok (.aload_n 0, 1) := dl_42 (by decide +kernel)
theorem dX3_measure_131 : decode cX3_measure 131 = .ok (.getfield 32, 3) := dl_180 (by decide +kernel)
theorem dX3_measure_134 : decode cX3_measure 134 = .ok (.if_icmp .ge 39, 3) := dl_162 (by decide +kernel)
theorem dX3_measure_173 : decode cX3_measure 173 = .ok (.return_, 1) := dl_177 (by decide +kernel)
theorem dX3_measure_137 : decode cX3_measure 137 = .ok (.aload_n 0, 1) := dl_42 (by decide +kernel)
theorem dX3_measure_138 : decode cX3_measure 138 = .ok (.getfield 22, 3) := dl_180 (by decide +kernel)
theorem wf_X3_22 : Cond.fieldLink RX3 22 RX3 "firstPair" "[I" ∈ TB := tbm (tq1 (List.mem_of_getElem? (i := 197) (by decide +kernel))) (by decide +kernel)
theorem fg_X3_22 : FG RX3 22 3 4 := ⟨RX3, TX3, 6, uw_X3, wf_X3_22, rfl, by decide, rfl⟩
theorem dX3_measure_141 : decode cX3_measure 141 = .ok (.iload 4, 2) := dl_21 (by decide +kernel)
theorem dX3_measure_143 : decode cX3_measure 143 = .ok (.aload_n 0, 1) := dl_42 (by decide +kernel)
theorem dX3_measure_144 : decode cX3_measure 144 = .ok (.getfield 54, 3) := dl_180 (by decide +kernel)
theorem fg_X3_54 : FG RX3 54 3 1 := ⟨RX3, TX3, 6, uw_X3, wf_X3_54, rfl, by decide, rfl⟩
theorem dX3_measure_147 : decode cX3_measure 147 = .ok (.iastore, 1) := dl_79 (by decide +kernel)
theorem dX3_measure_148 : decode cX3_measure 148 = .ok (.aload_n 0, 1) := dl_42 (by decide +kernel)
theorem dX3_measure_149 : decode cX3_measure 149 = .ok (.dup, 1) := dl_89 (by decide +kernel)
theorem dX3_measure_150 : decode cX3_measure 150 = .ok (.getfield 54, 3) := dl_180 (by decide +kernel)
theorem dX3_measure_153 : decode cX3_measure 153 = .ok (.aload_n 0, 1) := dl_42 (by decide +kernel)
theorem dX3_measure_154 : decode cX3_measure 154 = .ok (.getfield 18, 3) := dl_180 (by decide +kernel)
theorem wf_X3_18 : Cond.fieldLink RX3 18 RX3 "canBe" "[I" ∈ TB := tbm (tq1 (List.mem_of_getElem? (i := 196) (by decide +kernel))) (by decide +kernel)
theorem fg_X3_18 : FG RX3 18 3 3 := ⟨RX3, TX3, 6, uw_X3, wf_X3_18, rfl, by decide, rfl⟩
theorem dX3_measure_157 : decode cX3_measure 157 = .ok (.iload 4, 2) := dl_21 (by decide +kernel)
theorem dX3_measure_159 : decode cX3_measure 159 = .ok (.iaload, 1) := dl_46 (by decide +kernel)
theorem dX3_measure_160 : decode cX3_measure 160 = .ok (.invokestatic 57, 3) := dl_184 (by decide +kernel)
theorem wl_X3_57 : Cond.methodLink RX3 57 yJ6_bitCount_0f7a4 ∈ TB := tbm (tq4 (List.mem_of_getElem? (i := 2) (by decide +kernel))) (by decide +kernel)
theorem dX3_measure_163 : decode cX3_measure 163 = .ok (.iadd, 1) := dl_96 (by decide +kernel)
theorem dX3_measure_164 : decode cX3_measure 164 = .ok (.putfield 54, 3) := dl_181 (by decide +kernel)
theorem dX3_measure_167 : decode cX3_measure 167 = .ok (.iinc 4 1, 3) := dl_132 (by decide +kernel)
theorem dX3_measure_170 : decode cX3_measure 170 = .ok (.goto (-42), 3) := dl_167 (by decide +kernel)
theorem dX3_measure_46 : decode cX3_measure 46 = .ok (.aload_n 2, 1) := dl_44 (by decide +kernel)
theorem dX3_measure_47 : decode cX3_measure 47 = .ok (.getfield 40, 3) := dl_180 (by decide +kernel)
theorem wf_X3_40 : Cond.fieldLink RX3 40 RX0 "ifs" "[LWhoKnows$Saying;" ∈ TB := tbm (tq1 (List.mem_of_getElem? (i := 159) (by decide +kernel))) (by decide +kernel)
theorem fg_X3_40 : FG RX3 40 0 2 := ⟨RX0, TX0, 6, uw_X0, wf_X3_40, rfl, by decide, rfl⟩
theorem dX3_measure_50 : decode cX3_measure 50 = .ok (.iload 4, 2) := dl_21 (by decide +kernel)
theorem dX3_measure_52 : decode cX3_measure 52 = .ok (.aaload, 1) := dl_50 (by decide +kernel)
theorem dX3_measure_53 : decode cX3_measure 53 = .ok (.astore 5, 2) := dl_58 (by decide +kernel)
theorem dX3_measure_55 : decode cX3_measure 55 = .ok (.aload 5, 2) := dl_25 (by decide +kernel)
theorem dX3_measure_57 : decode cX3_measure 57 = .ok (.ifnonnull 10, 3) := dl_199 (by decide +kernel)
theorem dX3_measure_60 : decode cX3_measure 60 = .ok (.aload_n 1, 1) := dl_43 (by decide +kernel)
theorem dX3_measure_61 : decode cX3_measure 61 = .ok (.invokevirtual 44, 3) := dl_182 (by decide +kernel)
theorem wl_X3_44 : Cond.methodLink RX3 44 yX4_all ∈ TB := tbm (tq3 (List.mem_of_getElem? (i := 219) (by decide +kernel))) (by decide +kernel)
theorem dX3_measure_64 : decode cX3_measure 64 = .ok (.goto 10, 3) := dl_167 (by decide +kernel)
theorem dX3_measure_74 : decode cX3_measure 74 = .ok (.istore 6, 2) := dl_54 (by decide +kernel)
theorem dX3_measure_76 : decode cX3_measure 76 = .ok (.iconst 0, 1) := dl_3 (by decide +kernel)
theorem dX3_measure_77 : decode cX3_measure 77 = .ok (.istore 7, 2) := dl_54 (by decide +kernel)
theorem dX3_measure_79 : decode cX3_measure 79 = .ok (.iload 7, 2) := dl_21 (by decide +kernel)
theorem dX3_measure_81 : decode cX3_measure 81 = .ok (.aload_n 0, 1) := dl_42 (by decide +kernel)
theorem dX3_measure_82 : decode cX3_measure 82 = .ok (.getfield 32, 3) := dl_180 (by decide +kernel)
theorem dX3_measure_85 : decode cX3_measure 85 = .ok (.if_icmp .ge 29, 3) := dl_162 (by decide +kernel)
theorem dX3_measure_114 : decode cX3_measure 114 = .ok (.iinc 4 1, 3) := dl_132 (by decide +kernel)
theorem dX3_measure_117 : decode cX3_measure 117 = .ok (.goto (-80), 3) := dl_167 (by decide +kernel)
theorem dX3_measure_88 : decode cX3_measure 88 = .ok (.aload_n 0, 1) := dl_42 (by decide +kernel)
theorem dX3_measure_89 : decode cX3_measure 89 = .ok (.getfield 18, 3) := dl_180 (by decide +kernel)
theorem dX3_measure_92 : decode cX3_measure 92 = .ok (.iload 7, 2) := dl_21 (by decide +kernel)
theorem dX3_measure_94 : decode cX3_measure 94 = .ok (.dup2, 1) := dl_92 (by decide +kernel)
theorem dX3_measure_95 : decode cX3_measure 95 = .ok (.iaload, 1) := dl_46 (by decide +kernel)
theorem dX3_measure_96 : decode cX3_measure 96 = .ok (.iload 6, 2) := dl_21 (by decide +kernel)
theorem dX3_measure_98 : decode cX3_measure 98 = .ok (.iload 7, 2) := dl_21 (by decide +kernel)
theorem dX3_measure_100 : decode cX3_measure 100 = .ok (.ishr, 1) := dl_122 (by decide +kernel)
theorem dX3_measure_101 : decode cX3_measure 101 = .ok (.iconst 1, 1) := dl_4 (by decide +kernel)
theorem dX3_measure_102 : decode cX3_measure 102 = .ok (.iand, 1) := dl_126 (by decide +kernel)
theorem dX3_measure_103 : decode cX3_measure 103 = .ok (.iload 4, 2) := dl_21 (by decide +kernel)
theorem dX3_measure_105 : decode cX3_measure 105 = .ok (.ishl, 1) := dl_120 (by decide +kernel)
theorem dX3_measure_106 : decode cX3_measure 106 = .ok (.ior, 1) := dl_128 (by decide +kernel)
theorem dX3_measure_107 : decode cX3_measure 107 = .ok (.iastore, 1) := dl_79 (by decide +kernel)
theorem dX3_measure_108 : decode cX3_measure 108 = .ok (.iinc 7 1, 3) := dl_132 (by decide +kernel)
theorem dX3_measure_111 : decode cX3_measure 111 = .ok (.goto (-32), 3) := dl_167 (by decide +kernel)
theorem dX3_measure_67 : decode cX3_measure 67 = .ok (.aload_n 3, 1) := dl_45 (by decide +kernel)
theorem dX3_measure_68 : decode cX3_measure 68 = .ok (.aload_n 1, 1) := dl_43 (by decide +kernel)
theorem dX3_measure_69 : decode cX3_measure 69 = .ok (.aload 5, 2) := dl_25 (by decide +kernel)
theorem dX3_measure_71 : decode cX3_measure 71 = .ok (.invokevirtual 48, 3) := dl_182 (by decide +kernel)
theorem wl_X3_48 : Cond.methodLink RX3 48 yX2_plain ∈ TB := tbm (tq3 (List.mem_of_getElem? (i := 223) (by decide +kernel))) (by decide +kernel)
theorem wc_X2_plain : Cond.code yX2_plain cX2_plain 11 (some .int) ∈ TB := tbm (tq3 (List.mem_of_getElem? (i := 226) (rfl))) (by decide +kernel)
theorem wn_X2 : Cond.initialized RX2 ∈ TB := tbm (tq1 (List.mem_of_getElem? (i := 5) (by decide +kernel))) (by decide +kernel)
theorem wi_X2_plain : Cond.instanceMethod yX2_plain ∈ TB := tbm (tq3 (List.mem_of_getElem? (i := 224) (by decide +kernel))) (by decide +kernel)
theorem ws_X2_plain : Cond.selects RX2 yX2_plain yX2_plain ∈ TB := tbm (tq3 (List.mem_of_getElem? (i := 225) (by decide +kernel))) (by decide +kernel)
theorem mi_X2_plain : MI yX2_plain cX2_plain 11 (some .int) 2 := ⟨wc_X2_plain, wn_X2, ⟨by decide +kernel, by decide +kernel, by decide +kernel⟩, wi_X2_plain, ws_X2_plain⟩
theorem dX3_measure_20 : decode cX3_measure 20 = .ok (.aload_n 0, 1) := dl_42 (by decide +kernel)
theorem dX3_measure_21 : decode cX3_measure 21 = .ok (.getfield 18, 3) := dl_180 (by decide +kernel)
theorem dX3_measure_24 : decode cX3_measure 24 = .ok (.iload 4, 2) := dl_21 (by decide +kernel)
theorem dX3_measure_26 : decode cX3_measure 26 = .ok (.iconst 0, 1) := dl_3 (by decide +kernel)
theorem dX3_measure_27 : decode cX3_measure 27 = .ok (.iastore, 1) := dl_79 (by decide +kernel)
theorem dX3_measure_28 : decode cX3_measure 28 = .ok (.iinc 4 1, 3) := dl_132 (by decide +kernel)
theorem dX3_measure_31 : decode cX3_measure 31 = .ok (.goto (-20), 3) := dl_167 (by decide +kernel)
set_option maxRecDepth 100000 in
set_option maxHeartbeats 4000000 in
theorem l_measure (l : Launch) (E : EV) (ro : va_W) (ly : Nat) (h : Nat) (e : Nat) (qj : Nat) (lym : Nat) (pr : Int32) (wo : Int32) (lyc : Nat) (lyf : Nat) (lyq : Nat) (cf : Nat → Int32) (ff : Nat → Int32) (n : Nat) (r : Nat) (a : Nat) (b : Nat) (f : Nat → Int32) (gg : Nat → Int32) (jt : Nat) (je : Nat) (ju : Nat) (ja : Nat) (ft : Nat → Int32) (ecs : Nat) (erc : Nat) (eT : Nat → Option SVal) (efb : Nat → Int32) (efc : Nat → Int32) (efd : Nat → Int32) (hn : n ≤ 24) (hr : r < n ∨ r = 0) (hev : EVr E ro e ecs erc eT efb efc efd) (hwfm : WFm (am n r f gg)) : CT l yX3_measure (Cond.code yX3_measure cX3_measure 8 none :: TB) ({ frames := 3, cells := 0, slots := 0, locals := 81 }) E ro [.ref ly, .ref h, .ref e, .ref qj] [(ly, .inr (3, [.ref lym, .int pr, .int wo, .ref lyc, .ref lyf, .ref lyq])), (lyc, .inl (E.2.1 1, 24, .inl cf)), (lyf, .inl (E.2.1 1, 24, .inl ff)), (h, .inr (4, [.int (nI n), .int (nI r), .ref a, .ref b])), (a, .inl (E.2.1 1, 24, .inl f)), (b, .inl (E.2.1 1, 96, .inl gg)), (qj, .inr (2, [.ref jt, .ref je, .ref ju, .ref ja])), (ju, .inl (E.2.1 1, 32, .inl ft))] (Qv E (fun uz => (∃ (Pp : Nat) (cf2 : Nat → Int32) (ff2 : Nat → Int32) (ft2 : Nat → Int32), uz = [(ly, .inr (3, [.ref lym, .int (nI Pp), .int (nI n), .ref lyc, .ref lyf, .ref lyq])), (lyc, .inl (E.2.1 1, 24, .inl cf2)), (lyf, .inl (E.2.1 1, 24, .inl ff2)), (h, .inr (4, [.int (nI n), .int (nI r), .ref a, .ref b])), (a, .inl (E.2.1 1, 24, .inl f)), (b, .inl (E.2.1 1, 96, .inl gg)), (qj, .inr (2, [.ref jt, .ref je, .ref ju, .ref ja])), (ju, .inl (E.2.1 1, 32, .inl ft2))] ∧ (LYR n cf2 ff2 Pp) ∧ (Pp ≤ 96) ∧ (CBx n ecs cf2) ∧ (LYM n (lyP (am n r f gg) (ecs, erc, eT, efb, efc, efd)) cf2) ∧ (Pp = lyC (am n r f gg) (ecs, erc, eT, efb, efc, efd))))) 0 0 := by
  refine ct_of rfl rfl ?_
  intro X C hT hin hro
  show WW X 8 E 0 [(0, .ref ly), (1, .ref h), (2, .ref e), (3, .ref qj)] [] [(ly, .inr (3, [.ref lym, .int pr, .int wo, .ref lyc, .ref lyf, .ref lyq])), (lyc, .inl (E.2.1 1, 24, .inl cf)), (lyf, .inl (E.2.1 1, 24, .inl ff)), (h, .inr (4, [.int (nI n), .int (nI r), .ref a, .ref b])), (a, .inl (E.2.1 1, 24, .inl f)), (b, .inl (E.2.1 1, 96, .inl gg)), (qj, .inr (2, [.ref jt, .ref je, .ref ju, .ref ja])), (ju, .inl (E.2.1 1, 32, .inl ft))] 0 0
  obtain ⟨i0y_1, i1y_1, i2y_1, i3y_1, i4y_1, cay_1, cby_1, ccy_1, cdy_1, fiy_1, g0y_1, g1y_1, g2y_1, g3y_1, g4y_1, hcsy_1, hrcy_1, hfiy_1⟩ := id hev
  have hecs := hev.cs
  have herc := hev.rc
  refine ww_aload_n C dX3_measure_0 0 rfl rfl ?_
  refine ww_aload_n C dX3_measure_1 1 rfl rfl ?_
  refine ww_get C fg_X3_28 3 rfl rfl dX3_measure_2 ?_
  refine ww_put (ws' := [(ly, .inr (3, [.ref lym, .int pr, .int (nI n), .ref lyc, .ref lyf, .ref lyq])), (lyc, .inl (E.2.1 1, 24, .inl cf)), (lyf, .inl (E.2.1 1, 24, .inl ff)), (h, .inr (4, [.int (nI n), .int (nI r), .ref a, .ref b])), (a, .inl (E.2.1 1, 24, .inl f)), (b, .inl (E.2.1 1, 96, .inl gg)), (qj, .inr (2, [.ref jt, .ref je, .ref ju, .ref ja])), (ju, .inl (E.2.1 1, 32, .inl ft))]) C fp_X3_32 0 rfl rfl rfl rfl rfl dX3_measure_5 ?_
  refine ww_iconst (v := 0) C dX3_measure_8 rfl ?_
  refine ww_istore (lv' := [(4, .int 0), (0, .ref ly), (1, .ref h), (2, .ref e), (3, .ref qj)]) C dX3_measure_9 rfl rfl ?_
  have loop_11 : ∀ (fu : Nat) (i1 : Nat) (c1 : Nat → Int32), (i1 ≤ n) → (CBx i1 0 c1) → (Z0x i1 c1) → n - i1 < fu → WW X 8 E 11 [(4, .int (nI i1)), (0, .ref ly), (1, .ref h), (2, .ref e), (3, .ref qj)] [] [(ly, .inr (3, [.ref lym, .int pr, .int (nI n), .ref lyc, .ref lyf, .ref lyq])), (lyc, .inl (E.2.1 1, 24, .inl c1)), (lyf, .inl (E.2.1 1, 24, .inl ff)), (h, .inr (4, [.int (nI n), .int (nI r), .ref a, .ref b])), (a, .inl (E.2.1 1, 24, .inl f)), (b, .inl (E.2.1 1, 96, .inl gg)), (qj, .inr (2, [.ref jt, .ref je, .ref ju, .ref ja])), (ju, .inl (E.2.1 1, 32, .inl ft))] 0 0 := by
    intro fu
    induction fu with
    | zero => intro i1 c1 hi1 hc1 hz0 hmeas; exact absurd hmeas (Nat.not_lt_zero _)
    | succ fu ih_11 =>
      intro i1 c1 hi1 hc1 hz0 hmeas
      refine ww_iload C dX3_measure_11 0 rfl ?_
      refine ww_aload_n C dX3_measure_13 1 rfl rfl ?_
      refine ww_get C fg_X3_32 0 rfl rfl dX3_measure_14 ?_
      refine ww_icmp_ge (tgt := 34) C dX3_measure_17 (by decide) (fun c_2 => ?_) (fun c_2 => ?_)
      · have zc_2 : ((i1 : Nat) : Int) ≥ ((n : Nat) : Int) := i_le (nI_toInt (n := n) (by omega)) (nI_toInt (n := i1) (by omega)) c_2
        refine ww_iconst (v := 0) C dX3_measure_34 rfl ?_
        refine ww_istore (lv' := [(4, .int 0), (0, .ref ly), (1, .ref h), (2, .ref e), (3, .ref qj)]) C dX3_measure_35 rfl rfl ?_
        have hi1n : i1 = n := by omega
        rw [hi1n] at hc1 hz0
        have loop_37 : ∀ (fu : Nat) (i2 : Nat) (c2 : Nat → Int32) (t2 : Nat → Int32), (i2 ≤ ecs) → (CBx n i2 c2) → (LYx n (fun c w => canE (am n r f gg) (eT c) w) i2 0 c2) → ecs - i2 < fu → WW X 8 E 37 [(4, .int (nI i2)), (0, .ref ly), (1, .ref h), (2, .ref e), (3, .ref qj)] [] [(ly, .inr (3, [.ref lym, .int pr, .int (nI n), .ref lyc, .ref lyf, .ref lyq])), (lyc, .inl (E.2.1 1, 24, .inl c2)), (lyf, .inl (E.2.1 1, 24, .inl ff)), (h, .inr (4, [.int (nI n), .int (nI r), .ref a, .ref b])), (a, .inl (E.2.1 1, 24, .inl f)), (b, .inl (E.2.1 1, 96, .inl gg)), (qj, .inr (2, [.ref jt, .ref je, .ref ju, .ref ja])), (ju, .inl (E.2.1 1, 32, .inl t2))] 0 0 := by
          intro fu
          induction fu with
          | zero => intro i2 c2 t2 hi2 hc2 hlx2 hmeas; exact absurd hmeas (Nat.not_lt_zero _)
          | succ fu ih_37 =>
            intro i2 c2 t2 hi2 hc2 hlx2 hmeas
            refine ww_iload C dX3_measure_37 0 rfl ?_
            refine ww_aload_n C dX3_measure_39 3 rfl rfl ?_
            refine ww_getR C hro fg_X3_35 i0y_1 g0y_1 rfl dX3_measure_40 ?_
            refine ww_icmp_ge (tgt := 120) C dX3_measure_43 (by decide) (fun c_3 => ?_) (fun c_3 => ?_)
            · have zc_3 : ((i2 : Nat) : Int) ≥ ((ecs : Nat) : Int) := i_le (nI_toInt (n := ecs) (by omega)) (nI_toInt (n := i2) (by omega)) c_3
              refine ww_aload_n C dX3_measure_120 1 rfl rfl ?_
              refine ww_iconst (v := 0) C dX3_measure_121 rfl ?_
              refine ww_put (ws' := [(ly, .inr (3, [.ref lym, .int 0, .int (nI n), .ref lyc, .ref lyf, .ref lyq])), (lyc, .inl (E.2.1 1, 24, .inl c2)), (lyf, .inl (E.2.1 1, 24, .inl ff)), (h, .inr (4, [.int (nI n), .int (nI r), .ref a, .ref b])), (a, .inl (E.2.1 1, 24, .inl f)), (b, .inl (E.2.1 1, 96, .inl gg)), (qj, .inr (2, [.ref jt, .ref je, .ref ju, .ref ja])), (ju, .inl (E.2.1 1, 32, .inl t2))]) C fp_X3_54 0 rfl rfl rfl rfl rfl dX3_measure_122 ?_
              refine ww_iconst (v := 0) C dX3_measure_125 rfl ?_
              refine ww_istore (lv' := [(4, .int 0), (0, .ref ly), (1, .ref h), (2, .ref e), (3, .ref qj)]) C dX3_measure_126 rfl rfl ?_
              have loop_128 : ∀ (fu : Nat) (i4 : Nat) (f4 : Nat → Int32), (i4 ≤ n) → (FPx i4 c2 f4) → n - i4 < fu → WW X 8 E 128 [(4, .int (nI i4)), (0, .ref ly), (1, .ref h), (2, .ref e), (3, .ref qj)] [] [(ly, .inr (3, [.ref lym, .int (nI (pcs c2 i4)), .int (nI n), .ref lyc, .ref lyf, .ref lyq])), (lyc, .inl (E.2.1 1, 24, .inl c2)), (lyf, .inl (E.2.1 1, 24, .inl f4)), (h, .inr (4, [.int (nI n), .int (nI r), .ref a, .ref b])), (a, .inl (E.2.1 1, 24, .inl f)), (b, .inl (E.2.1 1, 96, .inl gg)), (qj, .inr (2, [.ref jt, .ref je, .ref ju, .ref ja])), (ju, .inl (E.2.1 1, 32, .inl t2))] 0 0 := by
                intro fu
                induction fu with
                | zero => intro i4 f4 hi4 hf4 hmeas; exact absurd hmeas (Nat.not_lt_zero _)
                | succ fu ih_128 =>
                  intro i4 f4 hi4 hf4 hmeas
                  refine ww_iload C dX3_measure_128 0 rfl ?_
                  refine ww_aload_n C dX3_measure_130 1 rfl rfl ?_
                  refine ww_get C fg_X3_32 0 rfl rfl dX3_measure_131 ?_
                  refine ww_icmp_ge (tgt := 173) C dX3_measure_134 (by decide) (fun c_4 => ?_) (fun c_4 => ?_)
                  · have zc_4 : ((i4 : Nat) : Int) ≥ ((n : Nat) : Int) := i_le (nI_toInt (n := n) (by omega)) (nI_toInt (n := i4) (by omega)) c_4
                    exact ww_vret (u := [(ly, .inr (3, [.ref lym, .int (nI (pcs c2 i4)), .int (nI n), .ref lyc, .ref lyf, .ref lyq])), (lyc, .inl (E.2.1 1, 24, .inl c2)), (lyf, .inl (E.2.1 1, 24, .inl f4)), (h, .inr (4, [.int (nI n), .int (nI r), .ref a, .ref b])), (a, .inl (E.2.1 1, 24, .inl f)), (b, .inl (E.2.1 1, 96, .inl gg)), (qj, .inr (2, [.ref jt, .ref je, .ref ju, .ref ja])), (ju, .inl (E.2.1 1, 32, .inl t2))]) C hT [0, 1, 2, 3, 4, 5, 6, 7] (gqk (by eq_refl)) (ndk (by decide +kernel)) rfl rfl dX3_measure_173 (⟨(pcs c2 i4), c2, f4, t2, rfl, ⟨CBx.up hc2 (by omega), by rw [show n = i4 by omega]; exact hf4, by rw [show n = i4 by omega]⟩, (by have := pcs_le c2 i4; omega), (by rw [show ecs = i2 by omega]; exact hc2), (LYx.lym hlx2 (by omega)), (by rw [show i4 = n by omega]; exact ly_w (LYx.lym hlx2 (by omega)) n (Nat.le_refl _))⟩)
                  · have zc_4 : ((i4 : Nat) : Int) < ((n : Nat) : Int) := i_nle (nI_toInt (n := n) (by omega)) (nI_toInt (n := i4) (by omega)) c_4
                    refine ww_aload_n C dX3_measure_137 1 rfl rfl ?_
                    refine ww_get C fg_X3_22 0 rfl rfl dX3_measure_138 ?_
                    refine ww_iload C dX3_measure_141 0 rfl ?_
                    refine ww_aload_n C dX3_measure_143 1 rfl rfl ?_
                    refine ww_get C fg_X3_54 0 rfl rfl dX3_measure_144 ?_
                    obtain ⟨f_5, ef_5⟩ : ∃ z : Nat → Int32, upd f4 i4 (nI (pcs c2 i4)) = z := ⟨_, rfl⟩
                    refine ww_iast (ws' := [(ly, .inr (3, [.ref lym, .int (nI (pcs c2 i4)), .int (nI n), .ref lyc, .ref lyf, .ref lyq])), (lyc, .inl (E.2.1 1, 24, .inl c2)), (lyf, .inl (E.2.1 1, 24, .inl f_5)), (h, .inr (4, [.int (nI n), .int (nI r), .ref a, .ref b])), (a, .inl (E.2.1 1, 24, .inl f)), (b, .inl (E.2.1 1, 96, .inl gg)), (qj, .inr (2, [.ref jt, .ref je, .ref ju, .ref ja])), (ju, .inl (E.2.1 1, 32, .inl t2))]) C 2 rfl (vp_in_nI (by omega) (by omega)) (ldn2 (by omega) ef_5) rfl dX3_measure_147 ?_
                    refine ww_aload_n C dX3_measure_148 1 rfl rfl ?_
                    refine ww_dup C dX3_measure_149 rfl ?_
                    refine ww_get C fg_X3_54 0 rfl rfl dX3_measure_150 ?_
                    refine ww_aload_n C dX3_measure_153 1 rfl rfl ?_
                    refine ww_get C fg_X3_18 0 rfl rfl dX3_measure_154 ?_
                    refine ww_iload C dX3_measure_157 0 rfl ?_
                    have hbx_6 := (hc2 i4 (by omega)).2
                    have hcx_6 := CBx.lt hc2 (by omega) (show i4 < n by omega)
                    refine ww_iald (v := (nI (cN c2 i4))) C 1 rfl (vp_in_nI (by omega) (by omega)) (ldn (by omega) (hc2 i4 (by omega)).1) dX3_measure_159 ?_
                    refine ww_ci (wr := [(ly, .inr (3, [.ref lym, .int (nI (pcs c2 i4)), .int (nI n), .ref lyc, .ref lyf, .ref lyq])), (lyc, .inl (E.2.1 1, 24, .inl c2)), (lyf, .inl (E.2.1 1, 24, .inl f_5)), (h, .inr (4, [.int (nI n), .int (nI r), .ref a, .ref b])), (a, .inl (E.2.1 1, 24, .inl f)), (b, .inl (E.2.1 1, 96, .inl gg)), (qj, .inr (2, [.ref jt, .ref je, .ref ju, .ref ja])), (ju, .inl (E.2.1 1, 32, .inl t2))]) (k' := 0) (n' := 0) C (run_S (As := [.int (nI (cN c2 i4))]) (rest := [.int (nI (pcs c2 i4)), .ref ly]) C (c_bitCount X.2.1 E ro (nI (cN c2 i4))) ms_J6_bitCount_0f7a4 wl_X3_57 rfl rfl rfl rfl dX3_measure_160) (roK hro) [] [0, 1, 2, 3, 4, 5, 6, 7] rfl (gqk (by eq_refl)) (plk (by decide +kernel)) rfl (fun r_7 uz hw => ?_)
                    refine an1 hw ?_
                    clear hw
                    intro he_8 hw
                    have he_9 := hw
                    clear hw
                    have he_8 := he_8.symm
                    subst he_8
                    subst he_9
                    refine ww_eq (ws' := [(ly, .inr (3, [.ref lym, .int (nI (pcs c2 i4)), .int (nI n), .ref lyc, .ref lyf, .ref lyq])), (lyc, .inl (E.2.1 1, 24, .inl c2)), (lyf, .inl (E.2.1 1, 24, .inl f_5)), (h, .inr (4, [.int (nI n), .int (nI r), .ref a, .ref b])), (a, .inl (E.2.1 1, 24, .inl f)), (b, .inl (E.2.1 1, 96, .inl gg)), (qj, .inr (2, [.ref jt, .ref je, .ref ju, .ref ja])), (ju, .inl (E.2.1 1, 32, .inl t2))]) ?_ rfl rfl rfl
                    refine ww_iadd (v := (nI (pcs c2 (i4 + 1)))) C dX3_measure_163 (pcs_step (cf := c2) (w := i4) (by omega)) ?_
                    refine ww_put (ws' := [(ly, .inr (3, [.ref lym, .int (nI (pcs c2 (i4 + 1))), .int (nI n), .ref lyc, .ref lyf, .ref lyq])), (lyc, .inl (E.2.1 1, 24, .inl c2)), (lyf, .inl (E.2.1 1, 24, .inl f_5)), (h, .inr (4, [.int (nI n), .int (nI r), .ref a, .ref b])), (a, .inl (E.2.1 1, 24, .inl f)), (b, .inl (E.2.1 1, 96, .inl gg)), (qj, .inr (2, [.ref jt, .ref je, .ref ju, .ref ja])), (ju, .inl (E.2.1 1, 32, .inl t2))]) C fp_X3_54 0 rfl rfl rfl rfl rfl dX3_measure_164 ?_
                    refine ww_iinc (j := 0) (v := (nI (i4 + 1))) (lv' := [(4, .int (nI (i4 + 1))), (0, .ref ly), (1, .ref h), (2, .ref e), (3, .ref qj)]) C dX3_measure_167 rfl (nI_add i4 1) rfl rfl ?_
                    refine ww_goto (tgt := 128) C dX3_measure_170 (by decide) ?_
                    exact ww_lv [0, 1, 2, 3, 4] rfl (ww_sub [0, 1, 2, 3, 4, 5, 6, 7] (ndk (by decide +kernel)) (gqk (by eq_refl)) (ih_128 (i4 + 1) f_5 (by omega) (FPx.ext hf4 ef_5) (by omega)))
              exact ww_lv [0, 1, 2, 3, 4] rfl (ww_sub [0, 1, 2, 3, 4, 5, 6, 7] (ndk (by decide +kernel)) (gqk (by eq_refl)) (loop_128 _ 0 ff (by omega) FPx.zero (Nat.lt_succ_self _)))
            · have zc_3 : ((i2 : Nat) : Int) < ((ecs : Nat) : Int) := i_nle (nI_toInt (n := ecs) (by omega)) (nI_toInt (n := i2) (by omega)) c_3
              refine ww_aload_n C dX3_measure_46 3 rfl rfl ?_
              refine ww_getR C hro fg_X3_40 i0y_1 g0y_1 rfl dX3_measure_47 ?_
              refine ww_iload C dX3_measure_50 0 rfl ?_
              rcases hq_10 : fiy_1 i2 with _ | a_11
              · refine ww_aldR (v := none) (t0 := 7) C hro i1y_1 g1y_1 rfl (vp_in_nI (by omega) (by omega)) (ldn (by omega) hq_10) dX3_measure_52 ?_
                refine ww_eq (st' := [.null]) ?_ rfl rfl rfl
                refine ww_astoreN (lv' := [(5, .null), (4, .int (nI i2)), (0, .ref ly), (1, .ref h), (2, .ref e), (3, .ref qj)]) C dX3_measure_53 rfl rfl ?_
                refine ww_aloadN C dX3_measure_55 0 rfl ?_
                refine ww_ifnonnullN C dX3_measure_57 ?_
                refine ww_aload_n C dX3_measure_60 3 rfl rfl ?_
                refine ww_ci (wr := [(ly, .inr (3, [.ref lym, .int pr, .int (nI n), .ref lyc, .ref lyf, .ref lyq])), (lyc, .inl (E.2.1 1, 24, .inl c2)), (lyf, .inl (E.2.1 1, 24, .inl ff)), (a, .inl (E.2.1 1, 24, .inl f)), (b, .inl (E.2.1 1, 96, .inl gg)), (qj, .inr (2, [.ref jt, .ref je, .ref ju, .ref ja])), (ju, .inl (E.2.1 1, 32, .inl t2))]) (k' := 0) (n' := 0) C (run_V (As := []) (rest := []) C (m_all X.2.1 E ro h n r a b (by omega)) mi_X4_all wl_X3_44 rfl 0 4 rfl rfl rfl rfl rfl dX3_measure_61) (roK hro) [3] [0, 1, 2, 4, 5, 6, 7] rfl rfl (plk (by decide +kernel)) rfl (fun r_12 uz hw => ?_)
                refine an1 hw ?_
                clear hw
                intro he_14 hw
                have h_13 := hw
                clear hw
                subst he_14
                refine ww_eq (ws' := [(ly, .inr (3, [.ref lym, .int pr, .int (nI n), .ref lyc, .ref lyf, .ref lyq])), (lyc, .inl (E.2.1 1, 24, .inl c2)), (lyf, .inl (E.2.1 1, 24, .inl ff)), (a, .inl (E.2.1 1, 24, .inl f)), (b, .inl (E.2.1 1, 96, .inl gg)), (qj, .inr (2, [.ref jt, .ref je, .ref ju, .ref ja])), (ju, .inl (E.2.1 1, 32, .inl t2)), (h, .inr (4, [.int (nI n), .int (nI r), .ref a, .ref b]))]) ?_ rfl rfl rfl
                refine ww_goto (tgt := 74) C dX3_measure_64 (by decide) ?_
                refine ww_istore (lv' := [(6, .int r_12), (5, .null), (4, .int (nI i2)), (0, .ref ly), (1, .ref h), (2, .ref e), (3, .ref qj)]) C dX3_measure_74 rfl rfl ?_
                refine ww_iconst (v := 0) C dX3_measure_76 rfl ?_
                refine ww_istore (lv' := [(7, .int 0), (6, .int r_12), (5, .null), (4, .int (nI i2)), (0, .ref ly), (1, .ref h), (2, .ref e), (3, .ref qj)]) C dX3_measure_77 rfl rfl ?_
                have hwh : BS r_12 (canE (am n r f gg) (eT i2)) := by rw [SYT.no hfiy_1 (by omega) hq_10]; exact all_bs h_13
                have loop_79 : ∀ (fu : Nat) (i3_16 : Nat) (c3_15 : Nat → Int32), (i3_16 ≤ n) → (CBx n (i2 + 1) c3_15) → (LYx n (fun c w => canE (am n r f gg) (eT c) w) i2 i3_16 c3_15) → n - i3_16 < fu → WW X 8 E 79 [(7, .int (nI i3_16)), (6, .int r_12), (5, .null), (4, .int (nI i2)), (0, .ref ly), (1, .ref h), (2, .ref e), (3, .ref qj)] [] [(ly, .inr (3, [.ref lym, .int pr, .int (nI n), .ref lyc, .ref lyf, .ref lyq])), (lyc, .inl (E.2.1 1, 24, .inl c3_15)), (lyf, .inl (E.2.1 1, 24, .inl ff)), (a, .inl (E.2.1 1, 24, .inl f)), (b, .inl (E.2.1 1, 96, .inl gg)), (qj, .inr (2, [.ref jt, .ref je, .ref ju, .ref ja])), (ju, .inl (E.2.1 1, 32, .inl t2)), (h, .inr (4, [.int (nI n), .int (nI r), .ref a, .ref b]))] 0 0 := by
                  intro fu
                  induction fu with
                  | zero => intro i3_16 c3_15 hi3_16 hc3_15 hlx3 hmeas; exact absurd hmeas (Nat.not_lt_zero _)
                  | succ fu ih_79 =>
                    intro i3_16 c3_15 hi3_16 hc3_15 hlx3 hmeas
                    refine ww_iload C dX3_measure_79 0 rfl ?_
                    refine ww_aload_n C dX3_measure_81 4 rfl rfl ?_
                    refine ww_get C fg_X3_32 0 rfl rfl dX3_measure_82 ?_
                    refine ww_icmp_ge (tgt := 114) C dX3_measure_85 (by decide) (fun c_17 => ?_) (fun c_17 => ?_)
                    · have zc_17 : ((i3_16 : Nat) : Int) ≥ ((n : Nat) : Int) := i_le (nI_toInt (n := n) (by omega)) (nI_toInt (n := i3_16) (by omega)) c_17
                      refine ww_iinc (j := 3) (v := (nI (i2 + 1))) (lv' := [(4, .int (nI (i2 + 1))), (7, .int (nI i3_16)), (6, .int r_12), (5, .null), (0, .ref ly), (1, .ref h), (2, .ref e), (3, .ref qj)]) C dX3_measure_114 rfl (nI_add i2 1) rfl rfl ?_
                      refine ww_goto (tgt := 37) C dX3_measure_117 (by decide) ?_
                      exact ww_lv [0, 4, 5, 6, 7] rfl (ww_sub [0, 1, 2, 7, 3, 4, 5, 6] (ndk (by decide +kernel)) (gqk (by eq_refl)) (ih_37 (i2 + 1) c3_15 t2 (by omega) hc3_15 (LYx.up hlx3 (by omega)) (by omega)))
                    · have zc_17 : ((i3_16 : Nat) : Int) < ((n : Nat) : Int) := i_nle (nI_toInt (n := n) (by omega)) (nI_toInt (n := i3_16) (by omega)) c_17
                      refine ww_aload_n C dX3_measure_88 4 rfl rfl ?_
                      refine ww_get C fg_X3_18 0 rfl rfl dX3_measure_89 ?_
                      refine ww_iload C dX3_measure_92 0 rfl ?_
                      refine ww_dup2 C dX3_measure_94 rfl rfl ?_
                      have hbx_18 := (hc3_15 i3_16 (by omega)).2
                      have hcx_18 := CBx.lt hc3_15 (by omega) (show i3_16 < n by omega)
                      refine ww_iald (v := (nI (cN c3_15 i3_16))) C 1 rfl (vp_in_nI (by omega) (by omega)) (ldn (by omega) (hc3_15 i3_16 (by omega)).1) dX3_measure_95 ?_
                      refine ww_iload C dX3_measure_96 1 rfl ?_
                      refine ww_iload C dX3_measure_98 0 rfl ?_
                      obtain ⟨x_19, ex_19⟩ : ∃ z : Int32, r_12 >>> ((nI i3_16) &&& 31) = z := ⟨_, rfl⟩
                      refine ww_ishr (v := x_19) C dX3_measure_100 ex_19 ?_
                      refine ww_iconst (v := 1) C dX3_measure_101 rfl ?_
                      obtain ⟨j_20, hj_20, ej_20⟩ := pk_andE x_19 (m := 1) 1 rfl
                      refine ww_iand (v := (nI j_20)) C dX3_measure_102 ej_20 ?_
                      refine ww_iload C dX3_measure_103 3 rfl ?_
                      obtain ⟨y_21, ey_21⟩ : ∃ z : Int32, (nI j_20) <<< ((nI i2) &&& 31) = z := ⟨_, rfl⟩
                      refine ww_ishl (v := y_21) C dX3_measure_105 ey_21 ?_
                      obtain ⟨t_22, ht_22, et_22, dt_22⟩ : ∃ z : Nat, z < 2 ^ (i2 + 1) ∧ nI (cN c3_15 i3_16) ||| y_21 = nI z ∧ z = cN c3_15 i3_16 ||| j_20 * 2 ^ i2 := (fun q => ⟨_, q.2, q.1, rfl⟩) (orshX (a := cN c3_15 i3_16) (j := j_20) (c := i2) (by omega) hbx_18 (by omega) ey_21)
                      refine ww_ior (v := (nI t_22)) C dX3_measure_106 et_22 ?_
                      obtain ⟨f_23, ef_23⟩ : ∃ z : Nat → Int32, upd c3_15 i3_16 (nI t_22) = z := ⟨_, rfl⟩
                      refine ww_iast (ws' := [(ly, .inr (3, [.ref lym, .int pr, .int (nI n), .ref lyc, .ref lyf, .ref lyq])), (lyc, .inl (E.2.1 1, 24, .inl f_23)), (lyf, .inl (E.2.1 1, 24, .inl ff)), (a, .inl (E.2.1 1, 24, .inl f)), (b, .inl (E.2.1 1, 96, .inl gg)), (qj, .inr (2, [.ref jt, .ref je, .ref ju, .ref ja])), (ju, .inl (E.2.1 1, 32, .inl t2)), (h, .inr (4, [.int (nI n), .int (nI r), .ref a, .ref b]))]) C 1 rfl (vp_in_nI (by omega) (by omega)) (ldn2 (by omega) ef_23) rfl dX3_measure_107 ?_
                      refine ww_iinc (j := 0) (v := (nI (i3_16 + 1))) (lv' := [(7, .int (nI (i3_16 + 1))), (6, .int r_12), (5, .null), (4, .int (nI i2)), (0, .ref ly), (1, .ref h), (2, .ref e), (3, .ref qj)]) C dX3_measure_108 rfl (nI_add i3_16 1) rfl rfl ?_
                      refine ww_goto (tgt := 79) C dX3_measure_111 (by decide) ?_
                      exact ww_lv [0, 1, 2, 3, 4, 5, 6, 7] rfl (ww_sub [0, 1, 2, 3, 4, 5, 6, 7] (ndk (by decide +kernel)) (gqk (by eq_refl)) (ih_79 (i3_16 + 1) f_23 (by omega) (CBx.put hc3_15 (by omega) ht_22 ef_23) (LYx.ext hlx3 (by omega) (by omega) (shj_b hwh (by omega) ex_19 ej_20 (by omega)) (by omega) dt_22 (by have h9 : 2 ^ (i2 + 1) ≤ 2 ^ 4 := Nat.pow_le_pow_right (by decide) (by omega); omega) ef_23) (by omega)))
                exact ww_lv [0, 1, 2, 3, 4, 5, 6, 7] rfl (ww_sub [0, 1, 2, 3, 4, 5, 6, 7] (ndk (by decide +kernel)) (gqk (by eq_refl)) (loop_79 _ 0 c2 (by omega) (CBx.up hc2 (by omega)) hlx2 (Nat.lt_succ_self _)))
              · refine ww_aldR (v := (some a_11)) (t0 := 7) C hro i1y_1 g1y_1 rfl (vp_in_nI (by omega) (by omega)) (ldn (by omega) hq_10) dX3_measure_52 ?_
                refine ww_eq (st' := [.ref a_11]) ?_ rfl rfl rfl
                refine ww_astore (lv' := [(5, .ref a_11), (4, .int (nI i2)), (0, .ref ly), (1, .ref h), (2, .ref e), (3, .ref qj)]) C dX3_measure_53 rfl rfl ?_
                refine ww_aload C dX3_measure_55 0 rfl ?_
                refine ww_ifnonnull (tgt := 67) C dX3_measure_57 (by decide) ?_
                refine ww_aload_n C dX3_measure_67 5 rfl rfl ?_
                refine ww_aload_n C dX3_measure_68 3 rfl rfl ?_
                refine ww_aload C dX3_measure_69 0 rfl ?_
                refine ww_ci (wr := [(ly, .inr (3, [.ref lym, .int pr, .int (nI n), .ref lyc, .ref lyf, .ref lyq])), (lyc, .inl (E.2.1 1, 24, .inl c2)), (lyf, .inl (E.2.1 1, 24, .inl ff))]) (k' := 0) (n' := 0) C (run_V (As := [.ref h, .ref a_11]) (rest := []) C (j_plain X.2.1 E ro qj h a_11 jt je ju ja t2 n r a b f gg ((eT i2).getD sv0) (by omega) (by omega) (SYT.v hfiy_1 (by omega) hq_10) (by omega)) mi_X2_plain wl_X3_48 rfl 0 2 rfl rfl rfl rfl rfl dX3_measure_71) (roK hro) [6, 7, 3, 4, 5] [0, 1, 2] rfl rfl (plk (by decide +kernel)) rfl (fun r_26 uz hw => ?_)
                refine ex1 hw ?_
                clear hw
                intro ft2_27 hw
                refine an1 hw ?_
                clear hw
                intro he_29 hw
                have h_28 := hw
                clear hw
                subst he_29
                refine ww_eq (ws' := [(ly, .inr (3, [.ref lym, .int pr, .int (nI n), .ref lyc, .ref lyf, .ref lyq])), (lyc, .inl (E.2.1 1, 24, .inl c2)), (lyf, .inl (E.2.1 1, 24, .inl ff)), (qj, .inr (2, [.ref jt, .ref je, .ref ju, .ref ja])), (ju, .inl (E.2.1 1, 32, .inl ft2_27)), (h, .inr (4, [.int (nI n), .int (nI r), .ref a, .ref b])), (a, .inl (E.2.1 1, 24, .inl f)), (b, .inl (E.2.1 1, 96, .inl gg))]) ?_ rfl rfl rfl
                refine ww_istore (lv' := [(6, .int r_26), (5, .ref a_11), (4, .int (nI i2)), (0, .ref ly), (1, .ref h), (2, .ref e), (3, .ref qj)]) C dX3_measure_74 rfl rfl ?_
                refine ww_iconst (v := 0) C dX3_measure_76 rfl ?_
                refine ww_istore (lv' := [(7, .int 0), (6, .int r_26), (5, .ref a_11), (4, .int (nI i2)), (0, .ref ly), (1, .ref h), (2, .ref e), (3, .ref qj)]) C dX3_measure_77 rfl rfl ?_
                have hwh : BS r_26 (canE (am n r f gg) (eT i2)) := by rw [SYT.vs hfiy_1 (by omega) hq_10]; exact h_28
                have loop_79 : ∀ (fu : Nat) (i3_31 : Nat) (c3_30 : Nat → Int32), (i3_31 ≤ n) → (CBx n (i2 + 1) c3_30) → (LYx n (fun c w => canE (am n r f gg) (eT c) w) i2 i3_31 c3_30) → n - i3_31 < fu → WW X 8 E 79 [(7, .int (nI i3_31)), (6, .int r_26), (5, .ref a_11), (4, .int (nI i2)), (0, .ref ly), (1, .ref h), (2, .ref e), (3, .ref qj)] [] [(ly, .inr (3, [.ref lym, .int pr, .int (nI n), .ref lyc, .ref lyf, .ref lyq])), (lyc, .inl (E.2.1 1, 24, .inl c3_30)), (lyf, .inl (E.2.1 1, 24, .inl ff)), (qj, .inr (2, [.ref jt, .ref je, .ref ju, .ref ja])), (ju, .inl (E.2.1 1, 32, .inl ft2_27)), (h, .inr (4, [.int (nI n), .int (nI r), .ref a, .ref b])), (a, .inl (E.2.1 1, 24, .inl f)), (b, .inl (E.2.1 1, 96, .inl gg))] 0 0 := by
                  intro fu
                  induction fu with
                  | zero => intro i3_31 c3_30 hi3_31 hc3_30 hlx3 hmeas; exact absurd hmeas (Nat.not_lt_zero _)
                  | succ fu ih_79 =>
                    intro i3_31 c3_30 hi3_31 hc3_30 hlx3 hmeas
                    refine ww_iload C dX3_measure_79 0 rfl ?_
                    refine ww_aload_n C dX3_measure_81 4 rfl rfl ?_
                    refine ww_get C fg_X3_32 0 rfl rfl dX3_measure_82 ?_
                    refine ww_icmp_ge (tgt := 114) C dX3_measure_85 (by decide) (fun c_32 => ?_) (fun c_32 => ?_)
                    · have zc_32 : ((i3_31 : Nat) : Int) ≥ ((n : Nat) : Int) := i_le (nI_toInt (n := n) (by omega)) (nI_toInt (n := i3_31) (by omega)) c_32
                      refine ww_iinc (j := 3) (v := (nI (i2 + 1))) (lv' := [(4, .int (nI (i2 + 1))), (7, .int (nI i3_31)), (6, .int r_26), (5, .ref a_11), (0, .ref ly), (1, .ref h), (2, .ref e), (3, .ref qj)]) C dX3_measure_114 rfl (nI_add i2 1) rfl rfl ?_
                      refine ww_goto (tgt := 37) C dX3_measure_117 (by decide) ?_
                      exact ww_lv [0, 4, 5, 6, 7] rfl (ww_sub [0, 1, 2, 5, 6, 7, 3, 4] (ndk (by decide +kernel)) (gqk (by eq_refl)) (ih_37 (i2 + 1) c3_30 ft2_27 (by omega) hc3_30 (LYx.up hlx3 (by omega)) (by omega)))
                    · have zc_32 : ((i3_31 : Nat) : Int) < ((n : Nat) : Int) := i_nle (nI_toInt (n := n) (by omega)) (nI_toInt (n := i3_31) (by omega)) c_32
                      refine ww_aload_n C dX3_measure_88 4 rfl rfl ?_
                      refine ww_get C fg_X3_18 0 rfl rfl dX3_measure_89 ?_
                      refine ww_iload C dX3_measure_92 0 rfl ?_
                      refine ww_dup2 C dX3_measure_94 rfl rfl ?_
                      have hbx_33 := (hc3_30 i3_31 (by omega)).2
                      have hcx_33 := CBx.lt hc3_30 (by omega) (show i3_31 < n by omega)
                      refine ww_iald (v := (nI (cN c3_30 i3_31))) C 1 rfl (vp_in_nI (by omega) (by omega)) (ldn (by omega) (hc3_30 i3_31 (by omega)).1) dX3_measure_95 ?_
                      refine ww_iload C dX3_measure_96 1 rfl ?_
                      refine ww_iload C dX3_measure_98 0 rfl ?_
                      obtain ⟨x_34, ex_34⟩ : ∃ z : Int32, r_26 >>> ((nI i3_31) &&& 31) = z := ⟨_, rfl⟩
                      refine ww_ishr (v := x_34) C dX3_measure_100 ex_34 ?_
                      refine ww_iconst (v := 1) C dX3_measure_101 rfl ?_
                      obtain ⟨j_35, hj_35, ej_35⟩ := pk_andE x_34 (m := 1) 1 rfl
                      refine ww_iand (v := (nI j_35)) C dX3_measure_102 ej_35 ?_
                      refine ww_iload C dX3_measure_103 3 rfl ?_
                      obtain ⟨y_36, ey_36⟩ : ∃ z : Int32, (nI j_35) <<< ((nI i2) &&& 31) = z := ⟨_, rfl⟩
                      refine ww_ishl (v := y_36) C dX3_measure_105 ey_36 ?_
                      obtain ⟨t_37, ht_37, et_37, dt_37⟩ : ∃ z : Nat, z < 2 ^ (i2 + 1) ∧ nI (cN c3_30 i3_31) ||| y_36 = nI z ∧ z = cN c3_30 i3_31 ||| j_35 * 2 ^ i2 := (fun q => ⟨_, q.2, q.1, rfl⟩) (orshX (a := cN c3_30 i3_31) (j := j_35) (c := i2) (by omega) hbx_33 (by omega) ey_36)
                      refine ww_ior (v := (nI t_37)) C dX3_measure_106 et_37 ?_
                      obtain ⟨f_38, ef_38⟩ : ∃ z : Nat → Int32, upd c3_30 i3_31 (nI t_37) = z := ⟨_, rfl⟩
                      refine ww_iast (ws' := [(ly, .inr (3, [.ref lym, .int pr, .int (nI n), .ref lyc, .ref lyf, .ref lyq])), (lyc, .inl (E.2.1 1, 24, .inl f_38)), (lyf, .inl (E.2.1 1, 24, .inl ff)), (qj, .inr (2, [.ref jt, .ref je, .ref ju, .ref ja])), (ju, .inl (E.2.1 1, 32, .inl ft2_27)), (h, .inr (4, [.int (nI n), .int (nI r), .ref a, .ref b])), (a, .inl (E.2.1 1, 24, .inl f)), (b, .inl (E.2.1 1, 96, .inl gg))]) C 1 rfl (vp_in_nI (by omega) (by omega)) (ldn2 (by omega) ef_38) rfl dX3_measure_107 ?_
                      refine ww_iinc (j := 0) (v := (nI (i3_31 + 1))) (lv' := [(7, .int (nI (i3_31 + 1))), (6, .int r_26), (5, .ref a_11), (4, .int (nI i2)), (0, .ref ly), (1, .ref h), (2, .ref e), (3, .ref qj)]) C dX3_measure_108 rfl (nI_add i3_31 1) rfl rfl ?_
                      refine ww_goto (tgt := 79) C dX3_measure_111 (by decide) ?_
                      exact ww_lv [0, 1, 2, 3, 4, 5, 6, 7] rfl (ww_sub [0, 1, 2, 3, 4, 5, 6, 7] (ndk (by decide +kernel)) (gqk (by eq_refl)) (ih_79 (i3_31 + 1) f_38 (by omega) (CBx.put hc3_30 (by omega) ht_37 ef_38) (LYx.ext hlx3 (by omega) (by omega) (shj_b hwh (by omega) ex_34 ej_35 (by omega)) (by omega) dt_37 (by have h9 : 2 ^ (i2 + 1) ≤ 2 ^ 4 := Nat.pow_le_pow_right (by decide) (by omega); omega) ef_38) (by omega)))
                exact ww_lv [0, 1, 2, 3, 4, 5, 6, 7] rfl (ww_sub [0, 1, 2, 3, 4, 5, 6, 7] (ndk (by decide +kernel)) (gqk (by eq_refl)) (loop_79 _ 0 c2 (by omega) (CBx.up hc2 (by omega)) hlx2 (Nat.lt_succ_self _)))
        exact ww_lv [0, 1, 2, 3, 4] rfl (ww_sub [0, 1, 2, 3, 4, 5, 6, 7] (ndk (by decide +kernel)) (gqk (by eq_refl)) (loop_37 _ 0 c1 ft (by omega) hc1 (LYx.zero hz0) (Nat.lt_succ_self _)))
      · have zc_2 : ((i1 : Nat) : Int) < ((n : Nat) : Int) := i_nle (nI_toInt (n := n) (by omega)) (nI_toInt (n := i1) (by omega)) c_2
        refine ww_aload_n C dX3_measure_20 1 rfl rfl ?_
        refine ww_get C fg_X3_18 0 rfl rfl dX3_measure_21 ?_
        refine ww_iload C dX3_measure_24 0 rfl ?_
        refine ww_iconst (v := 0) C dX3_measure_26 rfl ?_
        obtain ⟨f_41, ef_41⟩ : ∃ z : Nat → Int32, upd c1 i1 0 = z := ⟨_, rfl⟩
        refine ww_iast (ws' := [(ly, .inr (3, [.ref lym, .int pr, .int (nI n), .ref lyc, .ref lyf, .ref lyq])), (lyc, .inl (E.2.1 1, 24, .inl f_41)), (lyf, .inl (E.2.1 1, 24, .inl ff)), (h, .inr (4, [.int (nI n), .int (nI r), .ref a, .ref b])), (a, .inl (E.2.1 1, 24, .inl f)), (b, .inl (E.2.1 1, 96, .inl gg)), (qj, .inr (2, [.ref jt, .ref je, .ref ju, .ref ja])), (ju, .inl (E.2.1 1, 32, .inl ft))]) C 1 rfl (vp_in_nI (by omega) (by omega)) (ldn2 (by omega) ef_41) rfl dX3_measure_27 ?_
        refine ww_iinc (j := 0) (v := (nI (i1 + 1))) (lv' := [(4, .int (nI (i1 + 1))), (0, .ref ly), (1, .ref h), (2, .ref e), (3, .ref qj)]) C dX3_measure_28 rfl (nI_add i1 1) rfl rfl ?_
        refine ww_goto (tgt := 11) C dX3_measure_31 (by decide) ?_
        exact ww_lv [0, 1, 2, 3, 4] rfl (ww_sub [0, 1, 2, 3, 4, 5, 6, 7] (ndk (by decide +kernel)) (gqk (by eq_refl)) (ih_11 (i1 + 1) f_41 (by omega) (CBx.ext hc1 (t := 0) (by omega) (by decide) ef_41) (Z0x.ext hz0 ef_41) (by omega)))
  exact ww_lv [0, 1, 2, 3, 4] rfl (ww_sub [0, 1, 2, 3, 4, 5, 6, 7] (ndk (by decide +kernel)) (gqk (by eq_refl)) (loop_11 _ 0 cf (by omega) CBx.zero Z0x.nil (Nat.lt_succ_self _)))
theorem dX3_lets_0 : decode cX3_lets 0 = .ok (.iload_n 1, 1) := dl_27 (by decide +kernel)
theorem dX3_lets_1 : decode cX3_lets 1 = .ok (.aload_n 0, 1) := dl_42 (by decide +kernel)
theorem dX3_lets_2 : decode cX3_lets 2 = .ok (.getfield 32, 3) := dl_180 (by decide +kernel)
theorem dX3_lets_5 : decode cX3_lets 5 = .ok (.if_icmp .ge 20, 3) := dl_162 (by decide +kernel)
theorem dX3_lets_25 : decode cX3_lets 25 = .ok (.iconst 0, 1) := dl_3 (by decide +kernel)
theorem dX3_lets_26 : decode cX3_lets 26 = .ok (.ireturn, 1) := dl_172 (by decide +kernel)
theorem dX3_lets_8 : decode cX3_lets 8 = .ok (.aload_n 0, 1) := dl_42 (by decide +kernel)
theorem dX3_lets_9 : decode cX3_lets 9 = .ok (.getfield 18, 3) := dl_180 (by decide +kernel)
theorem dX3_lets_12 : decode cX3_lets 12 = .ok (.iload_n 1, 1) := dl_27 (by decide +kernel)
theorem dX3_lets_13 : decode cX3_lets 13 = .ok (.iaload, 1) := dl_46 (by decide +kernel)
theorem dX3_lets_14 : decode cX3_lets 14 = .ok (.iload_n 2, 1) := dl_28 (by decide +kernel)
theorem dX3_lets_15 : decode cX3_lets 15 = .ok (.invokestatic 63, 3) := dl_184 (by decide +kernel)
theorem dX3_lets_18 : decode cX3_lets 18 = .ok (.ifCond .eq 7, 3) := dl_153 (by decide +kernel)
theorem dX3_lets_21 : decode cX3_lets 21 = .ok (.iconst 1, 1) := dl_4 (by decide +kernel)
theorem dX3_lets_22 : decode cX3_lets 22 = .ok (.goto 4, 3) := dl_167 (by decide +kernel)
set_option maxRecDepth 100000 in
set_option maxHeartbeats 4000000 in
theorem l_lets (l : Launch) (E : EV) (ro : va_W) (ly : Nat) (w : Nat) (c : Nat) (lym : Nat) (Pp : Nat) (n : Nat) (lyc : Nat) (lyf : Nat) (lyq : Nat) (cf : Nat → Int32) (hn : n ≤ 24) (hw : w < 24) (hc : c < 4) (hC : C16 n cf) : CT l yX3_lets (Cond.code yX3_lets cX3_lets 3 (some .boolean) :: TB) ({ frames := 1, cells := 0, slots := 0, locals := 21 }) E ro [.ref ly, .int (nI w), .int (nI c)] [(ly, .inr (3, [.ref lym, .int (nI Pp), .int (nI n), .ref lyc, .ref lyf, .ref lyq])), (lyc, .inl (E.2.1 1, 24, .inl cf))] (Qi E (fun (rz : Int32) uz => (rz = 1 ∧ uz = [(ly, .inr (3, [.ref lym, .int (nI Pp), .int (nI n), .ref lyc, .ref lyf, .ref lyq])), (lyc, .inl (E.2.1 1, 24, .inl cf))] ∧ (w < n) ∧ ((cN cf w).testBit c = true)) ∨ (rz = 0 ∧ uz = [(ly, .inr (3, [.ref lym, .int (nI Pp), .int (nI n), .ref lyc, .ref lyf, .ref lyq])), (lyc, .inl (E.2.1 1, 24, .inl cf))] ∧ (w < n → (cN cf w).testBit c = false)))) 0 0 := by
  refine ct_of rfl rfl ?_
  intro X C hT hin hro
  show WW X 3 E 0 [(0, .ref ly), (1, .int (nI w)), (2, .int (nI c))] [] [(ly, .inr (3, [.ref lym, .int (nI Pp), .int (nI n), .ref lyc, .ref lyf, .ref lyq])), (lyc, .inl (E.2.1 1, 24, .inl cf))] 0 0
  refine ww_iload_n C dX3_lets_0 1 rfl rfl ?_
  refine ww_aload_n C dX3_lets_1 0 rfl rfl ?_
  refine ww_get C fg_X3_32 0 rfl rfl dX3_lets_2 ?_
  refine ww_icmp_ge (tgt := 25) C dX3_lets_5 (by decide) (fun c_1 => ?_) (fun c_1 => ?_)
  · have zc_1 : ((w : Nat) : Int) ≥ ((n : Nat) : Int) := i_le (nI_toInt (n := n) (by omega)) (nI_toInt (n := w) (by omega)) c_1
    refine ww_iconst (v := 0) C dX3_lets_25 rfl ?_
    exact ww_zret (u := [(ly, .inr (3, [.ref lym, .int (nI Pp), .int (nI n), .ref lyc, .ref lyf, .ref lyq])), (lyc, .inl (E.2.1 1, 24, .inl cf))]) C hT [0, 1] rfl rfl rfl rfl rfl dX3_lets_26 (Or.inr ⟨rfl, rfl, (fun h => absurd h (by omega))⟩)
  · have zc_1 : ((w : Nat) : Int) < ((n : Nat) : Int) := i_nle (nI_toInt (n := n) (by omega)) (nI_toInt (n := w) (by omega)) c_1
    refine ww_aload_n C dX3_lets_8 0 rfl rfl ?_
    refine ww_get C fg_X3_18 0 rfl rfl dX3_lets_9 ?_
    refine ww_iload_n C dX3_lets_12 1 rfl rfl ?_
    refine ww_iald (v := (nI (cN cf w))) C 1 rfl (vp_in_nI (by omega) (by omega)) (ldn (by omega) (hC w (by omega)).1) dX3_lets_13 ?_
    refine ww_iload_n C dX3_lets_14 2 rfl rfl ?_
    refine ww_ci (wr := [(ly, .inr (3, [.ref lym, .int (nI Pp), .int (nI n), .ref lyc, .ref lyf, .ref lyq])), (lyc, .inl (E.2.1 1, 24, .inl cf))]) (k' := 0) (n' := 0) C (run_SN (As := [.int (nI (cN cf w)), .int (nI c)]) (rest := []) C (c_hasN X.2.1 E ro (nI (cN cf w)) c (by omega)) ms_X11_has (List.mem_of_getElem? (i := 16) rfl) rfl rfl rfl rfl dX3_lets_15) (roK hro) [] [0, 1] rfl rfl rfl rfl (fun r_3 uz hw => ?_)
    rcases hw with hw | hw
    · refine an2 hw ?_
      clear hw
      intro he_5 he_6 hw
      have h_4 := hw
      clear hw
      have he_5 := he_5.symm
      subst he_5
      subst he_6
      refine ww_eq (ws' := [(ly, .inr (3, [.ref lym, .int (nI Pp), .int (nI n), .ref lyc, .ref lyf, .ref lyq])), (lyc, .inl (E.2.1 1, 24, .inl cf))]) ?_ rfl rfl rfl
      refine ww_if_eq_f (tgt := 25) C dX3_lets_18 (by decide) (by decide) ?_
      refine ww_iconst (v := 1) C dX3_lets_21 rfl ?_
      refine ww_goto (tgt := 26) C dX3_lets_22 (by decide) ?_
      exact ww_zret (u := [(ly, .inr (3, [.ref lym, .int (nI Pp), .int (nI n), .ref lyc, .ref lyf, .ref lyq])), (lyc, .inl (E.2.1 1, 24, .inl cf))]) C hT [0, 1] rfl rfl rfl rfl rfl dX3_lets_26 (Or.inl ⟨rfl, rfl, (by first | assumption | omega | decide), (lets_1 (CBx.lt hC (by omega) (by omega)) hc (by assumption))⟩)
    · refine an2 hw ?_
      clear hw
      intro he_8 he_9 hw
      have h_7 := hw
      clear hw
      have he_8 := he_8.symm
      subst he_8
      subst he_9
      refine ww_eq (ws' := [(ly, .inr (3, [.ref lym, .int (nI Pp), .int (nI n), .ref lyc, .ref lyf, .ref lyq])), (lyc, .inl (E.2.1 1, 24, .inl cf))]) ?_ rfl rfl rfl
      refine ww_if_eq_t (tgt := 25) C dX3_lets_18 (by decide) (rfl) ?_
      refine ww_iconst (v := 0) C dX3_lets_25 rfl ?_
      exact ww_zret (u := [(ly, .inr (3, [.ref lym, .int (nI Pp), .int (nI n), .ref lyc, .ref lyf, .ref lyq])), (lyc, .inl (E.2.1 1, 24, .inl cf))]) C hT [0, 1] rfl rfl rfl rfl rfl dX3_lets_26 (Or.inr ⟨rfl, rfl, (fun _ => lets_0 (CBx.lt hC (by omega) (by omega)) hc (by assumption))⟩)
end
