def pick4 {α : Type} (a b c d : α) (k : Nat) : α := match k with | 0 => a | 1 => b | 2 => c | _ => d
/-! sayings: what is asked of their nodes -/
def uN (x : Int32) : Int := if x.toInt = 0 ∨ x.toInt = 1 then 0 else if x.toInt = 3 ∨ x.toInt = 4 then 2 else 1
def opn (o : Nat → Int32) : Nat → Int
  | 0 => 1
  | i + 1 => opn o i + uN (o i) - 1
theorem opn_s (o : Nat → Int32) (i : Nat) : opn o (i + 1) = opn o i + uN (o i) - 1 := rfl
theorem uN_in (x : Int32) : 0 ≤ uN x ∧ uN x ≤ 2 := by
  unfold uN; split
  · omega
  · split <;> omega
def WFs (n : Nat) (o : Nat → Int32) : Prop := 1 ≤ n ∧ n ≤ 32 ∧ (∀ i, i < n → 0 ≤ (o i).toInt ∧ (o i).toInt ≤ 8) ∧ (∀ i, i < n → 1 ≤ opn o i) ∧ opn o n = 0
theorem opn_le {n : Nat} {o : Nat → Int32} (h : WFs n o) {i : Nat} (hi : i ≤ n) : opn o i ≤ (n : Int) - i := by
  obtain ⟨d, rfl⟩ : ∃ d, n = i + d := ⟨n - i, by omega⟩
  have key : ∀ d : Nat, opn o i ≤ opn o (i + d) + d := by
    intro d
    induction d with
    | zero => simp
    | succ d ih =>
      have h1 := opn_s o (i + d)
      have h2 := uN_in (o (i + d))
      show opn o i ≤ opn o (i + d + 1) + ((d + 1 : Nat) : Int)
      omega
  have h2 := key d
  have h3 := h.2.2.2.2
  omega
def SYg (E : EV) (ro : va_W) (a : Nat) : Prop := ∃ (nn : Nat) (o ar af : Nat → Int32) (tk dp nm : Int32) (na i0 i1 i2 i3 x y z : Nat), ro[i0]? = some (a, .inr (8, [.ref x, .ref y, .int tk, .int (nI na), .ref z, .int dp, .int nm])) ∧ ro[i1]? = some (x, .inl (E.2.1 1, nn, .inl o)) ∧ ro[i2]? = some (y, .inl (E.2.1 1, nn, .inl ar)) ∧ ro[i3]? = some (z, .inl (E.2.1 1, 2, .inl af)) ∧ WFs nn o ∧ na ≤ 2 ∧ ∀ k, k < na → ∃ j : Nat, j < 4 ∧ af k = nI j
theorem SYg.o {E : EV} {ro : va_W} {a : Nat} (h : SYg E ro a) : SYo ro a := by
  obtain ⟨nn, o, ar, af, tk, dp, nm, na, i0, i1, i2, i3, x, y, z, h0, -⟩ := h
  exact ⟨i0, _, h0⟩
/-- each of N places holds a saying, or nothing -/
def SYA (E : EV) (ro : va_W) (N : Nat) (f : Nat → Option Nat) : Prop := ∀ c, c < N → ∀ a, f c = some a → SYg E ro a
theorem SYA.none {E : EV} {ro : va_W} {N k : Nat} {f f' : Nat → Option Nat} (h : SYA E ro N f) (e : va_up f k none = f') : SYA E ro N f' := by
  intro c hc a ha
  rw [← e] at ha
  by_cases hk : c = k
  · rw [hk, vup_s] at ha; cases ha
  · rw [vup_n hk] at ha; exact h c hc a ha
theorem SYA.some {E : EV} {ro : va_W} {N k s : Nat} {f f' : Nat → Option Nat} (h : SYA E ro N f) (hs : SYg E ro s) (e : va_up f k (some s) = f') : SYA E ro N f' := by
  intro c hc a ha
  rw [← e] at ha
  by_cases hk : c = k
  · rw [hk, vup_s] at ha; cases ha; exact hs
  · rw [vup_n hk] at ha; exact h c hc a ha
theorem SYA.nil {E : EV} {ro : va_W} {N : Nat} : SYA E ro N (fun _ => Option.none) := fun c _ a h => by cases h
theorem SYg.more0 {E : EV} {ro new : va_W} {a : Nat} (h : SYg E ro a) : SYg E (new ++ ro) a := by
  obtain ⟨nn, o, ar, af, tk, dp, nm, na, i0, i1, i2, i3, x, y, z, h0, h1, h2, h3, h4⟩ := h
  have key : ∀ i q, ro[i]? = some q → (new ++ ro)[new.length + i]? = some q := by
    intro i q hq
    rw [List.getElem?_append_right (by omega), show new.length + i - new.length = i by omega]; exact hq
  exact ⟨nn, o, ar, af, tk, dp, nm, na, _, _, _, _, x, y, z, key _ _ h0, key _ _ h1, key _ _ h2, key _ _ h3, h4⟩
theorem SYA.more0 {E : EV} {ro new : va_W} {N : Nat} {f : Nat → Option Nat} (h : SYA E ro N f) : SYA E (new ++ ro) N f := fun c hc a ha => (h c hc a ha).more0
theorem uN_0 : uN 0 = 0 := rfl
theorem uN_1 : uN 1 = 0 := rfl
theorem uN_2 : uN 2 = 1 := rfl
theorem uN_3 : uN 3 = 2 := rfl
theorem uN_4 : uN 4 = 2 := rfl
theorem uN_5 : uN 5 = 1 := rfl
theorem uN_6 : uN 6 = 1 := rfl
theorem uN_7 : uN 7 = 1 := rfl
theorem uN_8 : uN 8 = 1 := rfl
/-! layers -/
def cN (cf : Nat → Int32) (w : Nat) : Nat := (cf w).toNatClampNeg
def bi (cf : Nat → Int32) (w c : Nat) : Nat := cb (cN cf w).testBit c
def pcs (cf : Nat → Int32) : Nat → Nat
  | 0 => 0
  | w + 1 => pcs cf w + bi cf w 4
theorem pcs_s (cf : Nat → Int32) (w : Nat) : pcs cf (w + 1) = pcs cf w + bi cf w 4 := rfl
theorem pcs_mono (cf : Nat → Int32) {a b : Nat} (h : a ≤ b) : pcs cf a ≤ pcs cf b := by
  induction b with
  | zero => rw [Nat.le_zero.mp h]; exact Nat.le_refl _
  | succ b ih =>
    rcases Nat.lt_or_ge a (b + 1) with q | q
    · exact Nat.le_trans (ih (by omega)) (Nat.le_add_right _ _)
    · rw [show a = b + 1 by omega]; exact Nat.le_refl _
theorem bi_s (cf : Nat → Int32) (w c : Nat) : bi cf w (c + 1) = bi cf w c + (if (cN cf w).testBit c then 1 else 0) := rfl
theorem bi_mono (cf : Nat → Int32) (w : Nat) {a b : Nat} (h : a ≤ b) : bi cf w a ≤ bi cf w b := by
  induction b with
  | zero => rw [Nat.le_zero.mp h]; exact Nat.le_refl _
  | succ b ih =>
    rcases Nat.lt_or_ge a (b + 1) with q | q
    · exact Nat.le_trans (ih (by omega)) (by rw [bi_s]; omega)
    · rw [show a = b + 1 by omega]; exact Nat.le_refl _
/-- places below n hold b bits -/
def CBx (n b : Nat) (cf : Nat → Int32) : Prop := ∀ v, v < n → cf v = nI (cN cf v) ∧ cN cf v < 2 ^ b
abbrev C16 (n : Nat) (cf : Nat → Int32) : Prop := CBx n 4 cf
theorem CBx.of {n b : Nat} {cf : Nat → Int32} (hb : b ≤ 4) (h : ∀ v, v < n → ∃ t : Nat, t < 2 ^ b ∧ cf v = nI t) : CBx n b cf := by
  intro v hv
  obtain ⟨t, h1, h2⟩ := h v hv
  have hp : 2 ^ b ≤ 2 ^ 4 := Nat.pow_le_pow_right (by omega) hb
  have e : cN cf v = t := by unfold cN; rw [h2]; exact nI_clamp (by omega)
  rw [e]; exact ⟨h2, h1⟩
theorem CBx.put {n b k t : Nat} {cf g : Nat → Int32} (h : CBx n b cf) (hb : b ≤ 4) (ht : t < 2 ^ b) (e : upd cf k (nI t) = g) : CBx n b g := by
  apply CBx.of hb
  intro v hv
  rw [← e]
  by_cases hk : v = k
  · rw [hk, pk_us]; exact ⟨t, ht, rfl⟩
  · rw [pk_un hk]; exact ⟨_, (h v hv).2, (h v hv).1⟩
theorem CBx.up {n b c : Nat} {cf : Nat → Int32} (h : CBx n b cf) (hc : b ≤ c) : CBx n c cf := fun v hv => ⟨(h v hv).1, Nat.lt_of_lt_of_le (h v hv).2 (Nat.pow_le_pow_right (by omega) hc)⟩
theorem CBx.zero {b : Nat} {cf : Nat → Int32} : CBx 0 b cf := fun v h => absurd h (Nat.not_lt_zero _)
theorem CBx.ext {i b t : Nat} {cf g : Nat → Int32} (h : CBx i b cf) (hb : b ≤ 4) (ht : t < 2 ^ b) (e : upd cf i (nI t) = g) : CBx (i + 1) b g := by
  apply CBx.of hb
  intro v hv
  rw [← e]
  by_cases hk : v = i
  · rw [hk, pk_us]; exact ⟨t, ht, rfl⟩
  · rw [pk_un hk]; exact ⟨_, (h v (by omega)).2, (h v (by omega)).1⟩
theorem CBx.lt {n b v : Nat} {cf : Nat → Int32} (h : CBx n b cf) (hb : b ≤ 4) (hv : v < n) : cN cf v < 16 := Nat.lt_of_lt_of_le (h v hv).2 (show 2 ^ b ≤ 2 ^ 4 from Nat.pow_le_pow_right (by decide) hb)
/-- no case behind the last: all bits lie below b -/
theorem CBx.bi {n b v : Nat} {cf : Nat → Int32} (h : CBx n b cf) (hb : b ≤ 4) (hv : v < n) : bi cf v 4 = bi cf v b := cb_small (h v hv).2 hb
theorem orsh {a j c : Nat} {y : Int32} (hc : c < 4) (ha : a < 2 ^ (c + 1)) (hj : j < 2) (e : nI j <<< (nI c &&& 31) = y) : ∃ t : Nat, t < 2 ^ (c + 1) ∧ nI a ||| y = nI t := by
  have h : ∀ c, c < 4 → ∀ a, a < 2 ^ (c + 1) → ∀ j, j < 2 → nI a ||| (nI j <<< (nI c &&& 31)) = nI (a ||| j * 2 ^ c) ∧ a ||| j * 2 ^ c < 2 ^ (c + 1) := by decide +kernel
  subst e
  exact ⟨_, (h c hc a ha j hj).2, (h c hc a ha j hj).1⟩
theorem bcf16 {t : Nat} (ht : t < 16) : bcf (nI t) = nI (cb t.testBit 4) := by
  rw [bcf_nI (by omega), cb_small (r := 4) (by omega) (by omega)]
theorem low16 : ∀ t, t < 16 → ∀ c, c < 4 → bcf (nI t &&& (1 <<< (nI c &&& 31) - 1)) = nI (cb t.testBit c) := by decide +kernel
/-- a layer as it was measured over n worlds: P pairs -/
def LYR (n : Nat) (cf ff : Nat → Int32) (Pp : Nat) : Prop := C16 n cf ∧ (∀ w, w < n → ff w = nI (pcs cf w)) ∧ Pp = pcs cf n
theorem pcs_le (cf : Nat → Int32) (n : Nat) : pcs cf n ≤ 4 * n := by
  induction n with
  | zero => exact Nat.le_refl _
  | succ n ih => have := cb_le (cN cf n).testBit 4; rw [pcs_s]; unfold bi; omega
/-- a case that can be: its pair lies among the pairs -/
theorem LYR.lt {n w c Pp : Nat} {cf ff : Nat → Int32} (h : LYR n cf ff Pp) (hw : w < n) (hc : c < 4) (hb : (cN cf w).testBit c = true) : pcs cf w + bi cf w c < Pp ∧ pcs cf (w + 1) ≤ Pp := by
  have h1 := pcs_mono cf (show w + 1 ≤ n by omega)
  have h2 := bi_mono cf w (show c + 1 ≤ 4 by omega)
  have h3 := bi_s cf w c
  rw [hb] at h3
  have h4 := pcs_s cf w
  have h5 := h.2.2
  simp at h3
  omega
theorem pcs_step {cf : Nat → Int32} {w : Nat} (h : cN cf w < 16) : nI (pcs cf w) + bcf (nI (cN cf w)) = nI (pcs cf (w + 1)) := by
  rw [bcf16 h, nI_add]; rfl
def FPx (i : Nat) (cf ff : Nat → Int32) : Prop := ∀ v, v < i → ff v = nI (pcs cf v)
theorem FPx.zero {cf ff : Nat → Int32} : FPx 0 cf ff := fun v h => absurd h (Nat.not_lt_zero _)
theorem FPx.ext {i : Nat} {cf ff g : Nat → Int32} (h : FPx i cf ff) (e : upd ff i (nI (pcs cf i)) = g) : FPx (i + 1) cf g := by
  intro v hv
  rw [← e]
  by_cases hk : v = i
  · rw [hk, pk_us]
  · rw [pk_un hk]; exact h v (by omega)
theorem lets_1 {cf : Nat → Int32} {w c : Nat} (h : cN cf w < 16) (hc : c < 4) (hb : bt (nI (cN cf w)) c = true) : (cN cf w).testBit c = true := by rw [← bt_nI (by omega)]; exact hb
theorem lets_0 {cf : Nat → Int32} {w c : Nat} (h : cN cf w < 16) (hc : c < 4) (hb : bt (nI (cN cf w)) c = false) : (cN cf w).testBit c = false := by rw [← bt_nI (by omega)]; exact hb
theorem pair_v {n w c Pp : Nat} {cf ff : Nat → Int32} {x y z v : Int32} (hL : LYR n cf ff Pp) (hw : w < n) (hc : c < 4) (ex : (1 : Int32) <<< (nI c &&& 31) = x) (ey : x - 1 = y) (ez : nI (cN cf w) &&& y = z) (ev : nI (pcs cf w) + bcf z = v) : v = nI (pcs cf w + bi cf w c) := by
  subst ev; subst ez; subst ey; subst ex
  rw [low16 _ (hL.1 w hw).2 _ hc, nI_add]; rfl
/-! sayings by value: nodes, ops, arguments, events of the afters, tokens, depth, names, afters -/
abbrev SVal : Type := Nat × (Nat → Int32) × (Nat → Int32) × (Nat → Int32) × Nat × Int32 × Int32 × Nat
abbrev sNa (S : SVal) : Nat := S.2.2.2.2.2.2.2
def SYv (E : EV) (ro : va_W) (a : Nat) (S : SVal) : Prop := ∃ i0 i1 i2 i3 x y z : Nat, ro[i0]? = some (a, .inr (8, [.ref x, .ref y, .int (nI S.2.2.2.2.1), .int (nI S.2.2.2.2.2.2.2), .ref z, .int S.2.2.2.2.2.1, .int S.2.2.2.2.2.2.1])) ∧ ro[i1]? = some (x, .inl (E.2.1 1, S.1, .inl S.2.1)) ∧ ro[i2]? = some (y, .inl (E.2.1 1, S.1, .inl S.2.2.1)) ∧ ro[i3]? = some (z, .inl (E.2.1 1, 2, .inl S.2.2.2.1)) ∧ WFs S.1 S.2.1 ∧ S.2.2.2.2.2.2.2 ≤ 2 ∧ ∀ k, k < S.2.2.2.2.2.2.2 → ∃ j : Nat, j < 4 ∧ S.2.2.2.1 k = nI j
theorem SYv.g {E : EV} {ro : va_W} {a : Nat} {S : SVal} (h : SYv E ro a S) : SYg E ro a := by
  obtain ⟨i0, i1, i2, i3, x, y, z, h0, h1, h2, h3, h4, h5, h6⟩ := h
  exact ⟨_, _, _, _, _, _, _, _, i0, i1, i2, i3, x, y, z, h0, h1, h2, h3, h4, h5, h6⟩
def SYT (E : EV) (ro : va_W) (N : Nat) (f : Nat → Option Nat) (T : Nat → Option SVal) : Prop := ∀ c, c < N → (f c = Option.none ∧ T c = Option.none) ∨ ∃ a S, f c = some a ∧ T c = some S ∧ SYv E ro a S
theorem SYT.a {E : EV} {ro : va_W} {N : Nat} {f : Nat → Option Nat} {T : Nat → Option SVal} (h : SYT E ro N f T) : SYA E ro N f := by
  intro c hc a ha
  rcases h c hc with ⟨h1, h2⟩ | ⟨b, S, h1, h2, h3⟩
  · rw [h1] at ha; cases ha
  · rw [h1] at ha; cases ha; exact h3.g
theorem SYT.at {E : EV} {ro : va_W} {N c a : Nat} {f : Nat → Option Nat} {T : Nat → Option SVal} (h : SYT E ro N f T) (hc : c < N) (ha : f c = some a) : ∃ S, T c = some S ∧ SYv E ro a S := by
  rcases h c hc with ⟨h1, h2⟩ | ⟨b, S, h1, h2, h3⟩
  · rw [h1] at ha; cases ha
  · rw [h1] at ha; cases ha; exact ⟨S, h2, h3⟩
theorem SYT.no {E : EV} {ro : va_W} {N c : Nat} {f : Nat → Option Nat} {T : Nat → Option SVal} (h : SYT E ro N f T) (hc : c < N) (ha : f c = Option.none) : T c = Option.none := by
  rcases h c hc with ⟨h1, h2⟩ | ⟨b, S, h1, h2, h3⟩
  · exact h2
  · rw [h1] at ha; cases ha
theorem SYT.nil {E : EV} {ro : va_W} {N : Nat} : SYT E ro N (fun _ => Option.none) (fun _ => Option.none) := fun c _ => Or.inl ⟨rfl, rfl⟩
theorem SYT.some {E : EV} {ro : va_W} {N k s : Nat} {S : SVal} {f f' : Nat → Option Nat} {T : Nat → Option SVal} (h : SYT E ro N f T) (hs : SYv E ro s S) (e : va_up f k (Option.some s) = f') : SYT E ro N f' (va_up T k (Option.some S)) := by
  intro c hc
  rw [← e]
  by_cases hk : c = k
  · rw [hk, vup_s, vup_s]; exact Or.inr ⟨s, S, rfl, rfl, hs⟩
  · rw [vup_n hk, vup_n hk]; exact h c hc
theorem SYT.none {E : EV} {ro : va_W} {N k : Nat} {f f' : Nat → Option Nat} {T : Nat → Option SVal} (h : SYT E ro N f T) (e : va_up f k Option.none = f') : SYT E ro N f' (va_up T k Option.none) := by
  intro c hc
  rw [← e]
  by_cases hk : c = k
  · rw [hk, vup_s, vup_s]; exact Or.inl ⟨rfl, rfl⟩
  · rw [vup_n hk, vup_n hk]; exact h c hc
def sv0 : SVal := (1, fun _ => 0, fun _ => 0, fun _ => 0, 0, 0, 0, 0)
theorem SYT.v {E : EV} {ro : va_W} {N c a : Nat} {f : Nat → Option Nat} {T : Nat → Option SVal} (h : SYT E ro N f T) (hc : c < N) (ha : f c = Option.some a) : SYv E ro a ((T c).getD sv0) := by
  obtain ⟨S, h1, h2⟩ := h.at hc ha
  rw [h1]; exact h2
theorem SYT.vs {E : EV} {ro : va_W} {N c a : Nat} {f : Nat → Option Nat} {T : Nat → Option SVal} (h : SYT E ro N f T) (hc : c < N) (ha : f c = Option.some a) : T c = Option.some ((T c).getD sv0) := by
  obtain ⟨S, h1, h2⟩ := h.at hc ha
  rw [h1]; rfl
theorem SYv.more0 {E : EV} {ro new : va_W} {a : Nat} {S : SVal} (h : SYv E ro a S) : SYv E (new ++ ro) a S := by
  obtain ⟨i0, i1, i2, i3, x, y, z, h0, h1, h2, h3, h4⟩ := h
  have key : ∀ i q, ro[i]? = Option.some q → (new ++ ro)[new.length + i]? = Option.some q := by
    intro i q hq
    rw [List.getElem?_append_right (by omega), show new.length + i - new.length = i by omega]; exact hq
  exact ⟨_, _, _, _, x, y, z, key _ _ h0, key _ _ h1, key _ _ h2, key _ _ h3, h4⟩
theorem SYT.more0 {E : EV} {ro new : va_W} {N : Nat} {f : Nat → Option Nat} {T : Nat → Option SVal} (h : SYT E ro N f T) : SYT E (new ++ ro) N f T := fun c hc => (h c hc).imp id (fun ⟨a, S, h1, h2, h3⟩ => ⟨a, S, h1, h2, h3.more0⟩)
/-- an event that is only read -/
def EVr (E : EV) (ro : va_W) (e cs rc : Nat) (T : Nat → Option SVal) (fb fc fd : Nat → Int32) : Prop := ∃ (i0 i1 i2 i3 i4 a b c d : Nat) (fi : Nat → Option Nat), ro[i0]? = some (e, .inr (0, [.int (nI cs), .int (nI rc), .ref a, .ref b, .ref c, .ref d])) ∧ ro[i1]? = some (a, .inl (E.2.1 7, 4, .inr (.inr (.inr (.inr fi))))) ∧ ro[i2]? = some (b, .inl (E.2.1 1, 4, .inl fb)) ∧ ro[i3]? = some (c, .inl (E.2.1 1, 4, .inl fc)) ∧ ro[i4]? = some (d, .inl (E.2.1 1, 16, .inl fd)) ∧ cs ≤ 4 ∧ rc ≤ 3 ∧ SYT E ro 4 fi T
/-- the four events -/
def EVA (E : EV) (ro : va_W) (je : Nat) (vc vr : Nat → Nat) (vi : Nat → Nat → Option SVal) (vs vn vp : Nat → Nat → Int32) : Prop := ∃ (i : Nat) (fe : Nat → Option Nat), ro[i]? = some (je, .inl (E.2.1 4, 4, .inr (.inr (.inr (.inr fe))))) ∧ ∀ j, j < 4 → ∃ e, fe j = some e ∧ EVr E ro e (vc j) (vr j) (vi j) (vs j) (vn j) (vp j)
theorem eva_mk {E : EV} {ro : va_W} {je i e0 e1 e2 e3 c0 c1 c2 c3 r0 r1 r2 r3 : Nat} {fe : Nat → Option Nat} {i0 i1 i2 i3 : Nat → Option SVal} {s0 s1 s2 s3 n0 n1 n2 n3 p0 p1 p2 p3 : Nat → Int32} (h : ro[i]? = some (je, .inl (E.2.1 4, 4, .inr (.inr (.inr (.inr fe)))))) (k0 : fe 0 = some e0) (k1 : fe 1 = some e1) (k2 : fe 2 = some e2) (k3 : fe 3 = some e3) (h0 : EVr E ro e0 c0 r0 i0 s0 n0 p0) (h1 : EVr E ro e1 c1 r1 i1 s1 n1 p1) (h2 : EVr E ro e2 c2 r2 i2 s2 n2 p2) (h3 : EVr E ro e3 c3 r3 i3 s3 n3 p3) : EVA E ro je (pick4 c0 c1 c2 c3) (pick4 r0 r1 r2 r3) (pick4 i0 i1 i2 i3) (pick4 s0 s1 s2 s3) (pick4 n0 n1 n2 n3) (pick4 p0 p1 p2 p3) := by
  refine ⟨i, fe, h, fun j hj => ?_⟩
  rcases (show j = 0 ∨ j = 1 ∨ j = 2 ∨ j = 3 by omega) with rfl | rfl | rfl | rfl
  · exact ⟨e0, k0, h0⟩
  · exact ⟨e1, k1, h1⟩
  · exact ⟨e2, k2, h2⟩
  · exact ⟨e3, k3, h3⟩
/-- which sayings can be an if -/
def PLN (T : Nat → Option Nat) (k : Int32) : Prop := 0 ≤ k.toInt ∧ k.toInt ≤ 7 ∧ T k.toNatClampNeg = some 0
def sNs (T : Nat → Option SVal) : Nat → Option Nat := fun k => (T k).map sNa
theorem PLN.mk {T : Nat → Option SVal} {j : Nat} {S : SVal} (hj : j ≤ 7) (h : T j = some S) (h0 : S.2.2.2.2.2.2.2 = 0) : PLN (sNs T) (nI j) := by
  refine ⟨by rw [nI_toInt (by omega)]; omega, by rw [nI_toInt (by omega)]; omega, ?_⟩
  rw [nI_clamp (by omega)]
  unfold sNs
  rw [h]
  show some S.2.2.2.2.2.2.2 = some 0
  rw [h0]
theorem PLN.no2 {T : Nat → Option SVal} {j : Nat} (hj : j ≤ 7) (h : T j = none) : ¬ PLN (sNs T) (nI j) := by
  rintro ⟨_, _, q⟩
  rw [nI_clamp (by omega)] at q
  unfold sNs at q
  rw [h] at q
  cases q
theorem PLN.no3 {T : Nat → Option SVal} {j : Nat} {S : SVal} (hj : j ≤ 7) (h : T j = some S) (h0 : S.2.2.2.2.2.2.2 ≠ 0) : ¬ PLN (sNs T) (nI j) := by
  rintro ⟨_, _, q⟩
  rw [nI_clamp (by omega)] at q
  unfold sNs at q
  rw [h] at q
  have q2 : some (sNa S) = some 0 := q
  exact h0 (Option.some.inj q2)
theorem PLN.tno {E : EV} {ro : va_W} {f : Nat → Option Nat} {T : Nat → Option SVal} {k : Int32} (h : SYT E ro 8 f T) (h9 : k.toInt < 0 ∨ 7 < k.toInt ∨ f k.toNatClampNeg = none) : ¬ PLN (sNs T) k := by
  rintro ⟨h1, h2, q⟩
  rcases h9 with z | z | z
  · omega
  · omega
  · obtain ⟨j, e1, e2⟩ := nI_ex (x := k) (n := 7) h1 h2
    rw [e1, nI_clamp (by omega)] at q z
    unfold sNs at q
    rw [SYT.no h (by omega) z] at q
    cases q
/-- a case of an event -/
def CSE (cs : Nat → Nat) (e i : Int32) : Prop := 0 ≤ e.toInt ∧ e.toInt ≤ 3 ∧ 0 ≤ i.toInt ∧ i.toInt < (cs e.toNatClampNeg : Nat)
/-! events: what their rows become -/
def EZ (i : Nat) (q : Nat → Option Nat) (f g : Nat → Int32) : Prop := ∀ c, c < i → q c = none ∧ f c = 0 ∧ g c = 0
theorem EZ.nil {q : Nat → Option Nat} {f g : Nat → Int32} : EZ 0 q f g := fun c h => absurd h (by omega)
theorem EZ.ext {i : Nat} {q q' : Nat → Option Nat} {f g f' g' : Nat → Int32} (h : EZ i q f g) (e1 : va_up q i none = q') (e2 : upd f i 0 = f') (e3 : upd g i 0 = g') : EZ (i + 1) q' f' g' := by
  intro c hc
  by_cases k : c = i
  · rw [k, ← e1, ← e2, ← e3, vup_s, pk_us, pk_us]; exact ⟨rfl, rfl, rfl⟩
  · rw [← e1, ← e2, ← e3, vup_n k, pk_un k, pk_un k]; exact h c (by omega)
/-- a word aloud: who holds what, the first i knowers -/
def SAx (i : Nat) (f : Nat → Int32) : Prop := ∀ c, c < 16 → f c = if c % 4 = 0 ∧ c / 4 < i then 1 else 0
theorem SAx.nil {f : Nat → Int32} (h : Z0x 16 f) : SAx 0 f := fun c hc => by rw [h c hc, if_neg (by omega)]
theorem SAx.ext {i : Nat} {f f' : Nat → Int32} (h : SAx i f) (hi : i < 4) (e : upd f (i * 4 + 0) (hbt (f (i * 4 + 0)) 0 1) = f') : SAx (i + 1) f' := by
  intro c hc
  have h0 := h (i * 4 + 0) (by omega)
  rw [if_neg (by omega)] at h0
  rw [h0, show hbt 0 0 1 = 1 from rfl] at e
  rw [← e]
  by_cases q : c = i * 4 + 0
  · rw [q, pk_us, if_pos (by omega)]
  · rw [pk_un q, h c hc]
    by_cases q2 : c % 4 = 0 ∧ c / 4 < i
    · rw [if_pos q2, if_pos (by omega)]
    · rw [if_neg q2, if_neg (by omega)]
/-- a whisper, a lie -/
def SPx (gr : Int32) (i : Nat) (f : Nat → Int32) : Prop := ∀ c, c < 16 → f c = if c / 4 < i then (if c % 4 = 0 then (if bt gr (c / 4) = true then 1 else 2) else if c % 4 = 1 then 2 else 0) else 0
theorem SPx.nil {gr : Int32} {f : Nat → Int32} (h : Z0x 16 f) : SPx gr 0 f := fun c hc => by rw [h c hc, if_neg (by omega)]
theorem SPx.ext {gr v : Int32} {i : Nat} {f f' f'' : Nat → Int32} (h : SPx gr i f) (hi : i < 4) (hv : (bt gr i = true ∧ v = 0) ∨ (bt gr i = false ∧ v = 1)) (e : upd f (i * 4 + 0) (hbt (f (i * 4 + 0)) v 1) = f') (e2 : upd f' (i * 4 + 1) (hbt (f' (i * 4 + 1)) 1 1) = f'') : SPx gr (i + 1) f'' := by
  intro c hc
  have h0 := h (i * 4 + 0) (by omega)
  rw [if_neg (by omega)] at h0
  have h1 := h (i * 4 + 1) (by omega)
  rw [if_neg (by omega)] at h1
  have h2 : f' (i * 4 + 1) = 0 := by rw [← e, pk_un (by omega)]; exact h1
  rw [h2, show hbt 0 1 1 = 2 from rfl] at e2
  rw [h0] at e
  rw [← e2]
  by_cases q : c = i * 4 + 1
  · rw [q, pk_us, if_pos (by omega), if_neg (by omega), if_pos (by omega)]
  · rw [pk_un q, ← e]
    by_cases q1 : c = i * 4 + 0
    · rw [q1, pk_us, if_pos (by omega), if_pos (by omega), show (i * 4 + 0) / 4 = i by omega]
      rcases hv with ⟨z1, z2⟩ | ⟨z1, z2⟩
      · rw [z2, if_pos z1]; rfl
      · rw [z2, if_neg (by rw [z1]; decide)]; rfl
    · rw [pk_un q1, h c hc]
      by_cases q2 : c / 4 < i
      · rw [if_pos q2, if_pos (show c / 4 < i + 1 by omega)]
      · rw [if_neg q2]
        by_cases q3 : c / 4 < i + 1
        · rw [if_pos q3, if_neg (by omega), if_neg (by omega)]
        · rw [if_neg q3]
/-! a growing set comes to rest -/
theorem cb_gt {f g : Nat → Bool} {N : Nat} (hm : ∀ v, f v = true → g v = true) (hb : ∀ v, g v = true → v < N) (hne : ¬ ∀ v, g v = f v) : cb f N < cb g N := by
  refine cb_sub_lt N (fun i _ => hm i) ?_
  apply Classical.byContradiction
  intro hno
  apply hne
  intro v
  by_cases hg : g v = true
  · by_cases hf : f v = true
    · rw [hg, hf]
    · exact absurd ⟨v, hb v hg, by simpa using hf, hg⟩ hno
  · by_cases hf : f v = true
    · exact absurd (hm v hf) hg
    · rw [Bool.not_eq_true] at hg hf; rw [hg, hf]
theorem rest_at {A : Nat → Nat → Bool} {N : Nat} (hm : ∀ s v, A s v = true → A (s + 1) v = true) (hb : ∀ s v, A s v = true → v < N) (hs : ∀ s, (∀ v, A (s + 1) v = A s v) → ∀ v, A (s + 2) v = A (s + 1) v) (s : Nat) (h : N ≤ s) : ∀ v, A (s + 1) v = A s v := by
  have key : ∀ s, (∀ v, A (s + 1) v = A s v) ∨ s + 1 ≤ cb (A (s + 1)) N := by
    intro s
    induction s with
    | zero =>
      by_cases q : ∀ v, A 1 v = A 0 v
      · exact Or.inl q
      · have h1 : cb (A 0) N < cb (A (0 + 1)) N := cb_gt (hm 0) (hb 1) q
        exact Or.inr (by omega)
    | succ s ih =>
      by_cases q : ∀ v, A (s + 2) v = A (s + 1) v
      · exact Or.inl q
      · rcases ih with ih | ih
        · exact absurd (hs s ih) q
        · have h1 : cb (A (s + 1)) N < cb (A (s + 1 + 1)) N := cb_gt (hm (s + 1)) (hb (s + 2)) q
          exact Or.inr (by omega)
  obtain ⟨d, rfl⟩ : ∃ d, s = N + d := ⟨s - N, by omega⟩
  induction d with
  | zero =>
    rcases key N with h1 | h1
    · exact h1
    · have h2 := cb_le (A (N + 1)) N
      omega
  | succ d ih => exact hs (N + d) (ih (by omega))
theorem nx_lt {m : AM} (hw : WFm m) {gr : Int32} {u v : Nat} (h : nx m gr u v = true) : v < m.1 := by
  obtain ⟨k, hk, h2⟩ := anyN_iff.mp h
  rw [Bool.and_eq_true] at h2
  exact hw k u v h2.2
/-! to which worlds steps lead -/
theorem fw_s (m : AM) (gr : Int32) (w s v : Nat) : fw m gr w (s + 1) v = (fw m gr w s v || anyN (fun u => fw m gr w s u && nx m gr u v) m.1) := rfl
theorem fw_mono {m : AM} {gr : Int32} {w s v : Nat} (h : fw m gr w s v = true) : fw m gr w (s + 1) v = true := by rw [fw_s, h, Bool.true_or]
theorem fw_lt {m : AM} (hw : WFm m) {gr : Int32} {w : Nat} : ∀ s v, fw m gr w s v = true → v < m.1
  | 0, v, h => nx_lt hw h
  | s + 1, v, h => by
    rw [fw_s, Bool.or_eq_true] at h
    rcases h with h | h
    · exact fw_lt hw s v h
    · obtain ⟨u, hu, h2⟩ := anyN_iff.mp h
      rw [Bool.and_eq_true] at h2
      exact nx_lt hw h2.2
theorem fw_rest {m : AM} (hw : WFm m) {gr : Int32} {w : Nat} (s : Nat) (h : m.1 ≤ s) : ∀ v, fw m gr w (s + 1) v = fw m gr w s v :=
  rest_at (A := fw m gr w) (fun s v h => fw_mono h) (fun s v h => fw_lt hw s v h) (fun s h v => by
    have e : fw m gr w (s + 1) = fw m gr w s := funext h
    show (fw m gr w (s + 1) v || anyN (fun u => fw m gr w (s + 1) u && nx m gr u v) m.1) = fw m gr w (s + 1) v
    rw [e]; exact h v) s h
theorem fw_up {m : AM} {gr : Int32} {w s v : Nat} (h : fw m gr w s v = true) : ∀ d, fw m gr w (s + d) v = true
  | 0 => h
  | d + 1 => fw_mono (fw_up h d)
def Rc (m : AM) (gr : Int32) (w : Nat) : Nat → Bool := fw m gr w m.1
theorem Rc_nx {m : AM} {gr : Int32} {w v : Nat} (h : nx m gr w v = true) : Rc m gr w v = true := by
  have h1 := fw_up (m := m) (gr := gr) (w := w) (s := 0) (v := v) h m.1
  rw [Nat.zero_add] at h1
  exact h1
theorem Rc_cl {m : AM} (hw : WFm m) {gr : Int32} {w u v : Nat} (hu : u < m.1) (h : Rc m gr w u = true) (h2 : nx m gr u v = true) : Rc m gr w v = true := by
  have e := fw_rest (gr := gr) (w := w) hw m.1 (Nat.le_refl _) v
  show fw m gr w m.1 v = true
  rw [← e, fw_s, anyN_iff.mpr ⟨u, hu, (by rw [Bool.and_eq_true]; exact ⟨h, h2⟩)⟩, Bool.or_true]
theorem Rc_lt {m : AM} (hw : WFm m) {gr : Int32} {w v : Nat} (h : Rc m gr w v = true) : v < m.1 := fw_lt hw _ _ h
theorem Rc_in {m : AM} {gr : Int32} {w : Nat} {Q : Nat → Prop} (h0 : ∀ v, nx m gr w v = true → Q v) (h1 : ∀ u v, u < m.1 → Q u → nx m gr u v = true → Q v) : ∀ s v, fw m gr w s v = true → Q v
  | 0, v, h => h0 v h
  | s + 1, v, h => by
    rw [fw_s, Bool.or_eq_true] at h
    rcases h with h | h
    · exact Rc_in h0 h1 s v h
    · obtain ⟨u, hu, h2⟩ := anyN_iff.mp h
      rw [Bool.and_eq_true] at h2
      exact h1 u v hu (Rc_in h0 h1 s u h2.1) h2.2
theorem Rc_tr {m : AM} (hw : WFm m) {gr : Int32} {w u v : Nat} (hu : u < m.1) (h : Rc m gr w u = true) (h2 : Rc m gr u v = true) : Rc m gr w v = true :=
  Rc_in (Q := fun x => Rc m gr w x = true) (fun x hx => Rc_cl hw hu h hx) (fun y x hy q hx => Rc_cl hw hy q hx) m.1 v h2
/-! from which worlds steps lead to a set -/
theorem ld_s (m : AM) (gr : Int32) (T : Nat → Bool) (s w : Nat) : ld m gr T (s + 1) w = (ld m gr T s w || (decide (w < m.1) && anyN (fun v => nx m gr w v && (T v || ld m gr T s v)) 32)) := rfl
theorem ld_lt {m : AM} {gr : Int32} {T : Nat → Bool} : ∀ s v, ld m gr T s v = true → v < m.1
  | 0, v, h => absurd h Bool.false_ne_true
  | s + 1, v, h => by
    rw [ld_s, Bool.or_eq_true] at h
    rcases h with h | h
    · exact ld_lt s v h
    · rw [Bool.and_eq_true, decide_eq_true_eq] at h
      exact h.1
theorem ld_rest {m : AM} {gr : Int32} {T : Nat → Bool} (s : Nat) (h : m.1 ≤ s) : ∀ v, ld m gr T (s + 1) v = ld m gr T s v :=
  rest_at (A := ld m gr T) (fun s v h => by rw [ld_s, h, Bool.true_or]) (fun s v h => ld_lt s v h) (fun s h v => by
    have e : ld m gr T (s + 1) = ld m gr T s := funext h
    show (ld m gr T (s + 1) v || (decide (v < m.1) && anyN (fun u => nx m gr v u && (T u || ld m gr T (s + 1) u)) 32)) = ld m gr T (s + 1) v
    rw [e]; exact h v) s h
theorem ld_in {m : AM} (hw : WFm m) {gr : Int32} {T : Nat → Bool} : ∀ s w, ld m gr T s w = true → ∃ v, Rc m gr w v = true ∧ T v = true
  | 0, w, h => absurd h Bool.false_ne_true
  | s + 1, w, h => by
    rw [ld_s, Bool.or_eq_true] at h
    rcases h with h | h
    · exact ld_in hw s w h
    · rw [Bool.and_eq_true] at h
      obtain ⟨v, hv, h2⟩ := anyN_iff.mp h.2
      rw [Bool.and_eq_true, Bool.or_eq_true] at h2
      rcases h2.2 with q | q
      · exact ⟨v, Rc_nx h2.1, q⟩
      · obtain ⟨x, a, b⟩ := ld_in hw s v q
        exact ⟨x, Rc_tr hw (nx_lt hw h2.1) (Rc_nx h2.1) a, b⟩
theorem ld_Rc {m : AM} (hw : WFm m) (hn : m.1 ≤ 32) {gr : Int32} {T : Nat → Bool} {s w : Nat} (hs : m.1 ≤ s) (hw2 : w < m.1) : ld m gr T s w = true ↔ ∃ v, Rc m gr w v = true ∧ T v = true := by
  constructor
  · exact ld_in hw s w
  · rintro ⟨v, h1, h2⟩
    have cl : ∀ u x, u < m.1 → nx m gr u x = true → (T x = true ∨ ld m gr T s x = true) → ld m gr T s u = true := by
      intro u x hu hx hT
      rw [← ld_rest s hs u, ld_s, decide_eq_true hu, Bool.true_and, Bool.or_eq_true]
      right
      refine anyN_iff.mpr ⟨x, Nat.lt_of_lt_of_le (nx_lt hw hx) hn, ?_⟩
      rw [Bool.and_eq_true, Bool.or_eq_true]
      exact ⟨hx, hT⟩
    exact Rc_in (Q := fun x => (T x = true ∨ ld m gr T s x = true) → ld m gr T s w = true) (fun x hx hT => cl w x hw2 hx hT) (fun u x hu q hx hT => q (Or.inr (cl u x hu hx hT))) m.1 v h1 (Or.inl h2)
/-! sayings of worlds: what a node says -/
def vCom (m : AM) (gr : Int32) (P : Nat → Bool) : Nat → Bool := fun w => decide (w < m.1) && !anyN (fun v => Rc m gr w v && !P v) 32
def vEv (m : AM) (gr : Int32) (P : Nat → Bool) : Nat → Bool := fun w => decide (w < m.1) && !anyN (fun v => nx m gr w v && !P v) 32
def vWh (m : AM) (gr : Int32) (P : Nat → Bool) : Nat → Bool := fun w => decide (w < m.1) && !(anyN (fun v => nx m gr w v && P v) 32 && anyN (fun v => nx m gr w v && !P v) 32)
theorem bool_iff {a b : Bool} (h : a = true ↔ b = true) : a = b := by
  by_cases q : a = true
  · rw [q, h.mp q]
  · have q2 : ¬ b = true := fun z => q (h.mpr z)
    rw [Bool.not_eq_true] at q q2; rw [q, q2]
theorem vcom_c {m : AM} (hw : WFm m) (hn : m.1 ≤ 24) {gr : Int32} {P : Nat → Bool} (w : Nat) : (decide (w < m.1) && !ld m gr (vNot m P) 24 w) = vCom m gr P w := by
  unfold vCom
  by_cases hl : w < m.1
  · rw [decide_eq_true hl, Bool.true_and, Bool.true_and]
    congr 1
    apply bool_iff
    rw [ld_Rc hw (by omega) hn hl, anyN_iff]
    constructor
    · rintro ⟨v, h1, h2⟩
      have h3 := Rc_lt hw h1
      unfold vNot at h2
      rw [decide_eq_true h3, Bool.true_and] at h2
      exact ⟨v, by omega, by rw [h1, h2]; rfl⟩
    · rintro ⟨v, hv, h1⟩
      rw [Bool.and_eq_true] at h1
      have h3 := Rc_lt hw h1.1
      exact ⟨v, h1.1, by unfold vNot; rw [decide_eq_true h3, Bool.true_and]; exact h1.2⟩
  · rw [decide_eq_false hl, Bool.false_and, Bool.false_and]
theorem ld_1 (m : AM) (gr : Int32) (T : Nat → Bool) (w : Nat) : ld m gr T 1 w = (decide (w < m.1) && anyN (fun v => nx m gr w v && T v) 32) := by
  show (false || (decide (w < m.1) && anyN (fun v => nx m gr w v && (T v || false)) 32)) = _
  rw [Bool.false_or]
  congr 1
  exact anyN_cg (fun v _ => by rw [Bool.or_false])
theorem nx_not {m : AM} (hw : WFm m) {gr : Int32} {P : Nat → Bool} {w : Nat} : anyN (fun v => nx m gr w v && vNot m P v) 32 = anyN (fun v => nx m gr w v && !P v) 32 := by
  refine anyN_cg (fun v _ => ?_)
  by_cases h : nx m gr w v = true
  · unfold vNot; rw [decide_eq_true (nx_lt hw h), Bool.true_and]
  · rw [Bool.not_eq_true] at h; rw [h, Bool.false_and, Bool.false_and]
theorem vev_c {m : AM} (hw : WFm m) {gr : Int32} {P : Nat → Bool} (w : Nat) : (decide (w < m.1) && !ld m gr (vNot m P) 1 w) = vEv m gr P w := by
  unfold vEv
  rw [ld_1, nx_not hw]
  by_cases hl : w < m.1
  · rw [decide_eq_true hl, Bool.true_and, Bool.true_and, Bool.true_and]
  · rw [decide_eq_false hl, Bool.false_and, Bool.false_and]
theorem vwh_c {m : AM} (hw : WFm m) {gr : Int32} {P : Nat → Bool} (w : Nat) : (decide (w < m.1) && !(ld m gr P 1 w && ld m gr (vNot m P) 1 w)) = vWh m gr P w := by
  unfold vWh
  rw [ld_1, ld_1, nx_not hw]
  by_cases hl : w < m.1
  · simp [hl]
  · rw [decide_eq_false hl, Bool.false_and, Bool.false_and]
def evC (m : AM) (op arg : Int32) (P Q : Nat → Bool) : Nat → Bool := if op = 0 then vF m arg else if op = 1 then vAll m else if op = 2 then vNot m P else if op = 3 then (fun w => P w && Q w) else if op = 4 then (fun w => P w || Q w) else if op = 5 then vWh m arg P else if op = 6 then vEv m arg P else if op = 7 then vCom m arg P else vTog m arg P
def lastN (o : Nat → Int32) (i : Nat) : Nat := (opn o i - 1).toNat
/-- the row of sets when the last d nodes are taken -/
def vSt (m : AM) (nn : Nat) (o ar : Nat → Int32) : Nat → Nat → Nat → Bool
  | 0 => fun _ _ => false
  | d + 1 => va_up (vSt m nn o ar d) (lastN o (nn - 1 - d)) (evC m (o (nn - 1 - d)) (ar (nn - 1 - d)) (vSt m nn o ar d (lastN o (nn - 1 - d))) (vSt m nn o ar d (lastN o (nn - 1 - d) + 1)))
/-- where a saying without after is true -/
def vPl (m : AM) (nn : Nat) (o ar : Nat → Int32) : Nat → Bool := vSt m nn o ar nn 0
theorem st_0 {m : AM} {nn : Nat} {o ar f : Nat → Int32} (h0 : opn o nn = 0) : ∀ j : Nat, (j : Int) < opn o nn → BS (f j) (vSt m nn o ar (nn - nn) j) := fun j h => absurd h (by omega)
theorem st_s {m : AM} {nn i l : Nat} {o ar f f' : Nat → Int32} {r : Int32} (h : ∀ j : Nat, (j : Int) < opn o (i + 1) → BS (f j) (vSt m nn o ar (nn - (i + 1)) j)) (hi : i < nn) (hl : (l : Int) = opn o i - 1) (hr : BS r (evC m (o i) (ar i) (vSt m nn o ar (nn - (i + 1)) l) (vSt m nn o ar (nn - (i + 1)) (l + 1)))) (e : upd f l r = f') : ∀ j : Nat, (j : Int) < opn o i → BS (f' j) (vSt m nn o ar (nn - i) j) := by
  intro j hj
  have e1 : nn - i = (nn - (i + 1)) + 1 := by omega
  have e2 : nn - 1 - (nn - (i + 1)) = i := by omega
  have e3 : lastN o i = l := by unfold lastN; omega
  have e4 : vSt m nn o ar (nn - i) = va_up (vSt m nn o ar (nn - (i + 1))) l (evC m (o i) (ar i) (vSt m nn o ar (nn - (i + 1)) l) (vSt m nn o ar (nn - (i + 1)) (l + 1))) := by
    rw [e1]
    show va_up (vSt m nn o ar (nn - (i + 1))) (lastN o (nn - 1 - (nn - (i + 1)))) _ = _
    rw [e2, e3]
  rw [e4, ← e]
  by_cases q : j = l
  · rw [q, pk_us, vup_s]; exact hr
  · rw [pk_un q, vup_n q]
    have h1 := opn_s o i
    have h2 := uN_in (o i)
    exact h j (by omega)
