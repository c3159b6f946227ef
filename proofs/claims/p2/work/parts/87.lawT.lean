/-! the text of both sides -/
/-- eight bytes come behind the text; the text is cut -/
def czf (c : Nat → Int) (t : Nat) (v : Int64) : Nat → Int := fun k => if k < t then c k else if k < t + 8 then nz (rexp v (k - t)) else -4
def cze (c : Nat → Int) (n : Nat) : Nat → Int := fun k => if k < n then c k else -4
theorem cz_e {f : Nat → Int32} {t n : Nat} (h : n ≤ t) : cz f n = cze (cz f t) n := by
  funext k
  unfold cze
  by_cases q : k < n
  · rw [if_pos q, cz_1 q, cz_1 (by omega)]
  · rw [if_neg q, cz_0 (by omega)]
theorem cz_ry {f g : Nat → Int32} {t : Nat} {v : Int64} (h : RYW f g t 8 v) : cz g (t + 8) = czf (cz f t) t v := by
  funext k
  unfold czf
  by_cases q : k < t
  · rw [if_pos q, cz_1 (by omega), cz_1 q, h.1 k q]
  · rw [if_neg q]
    by_cases q2 : k < t + 8
    · rw [if_pos q2, cz_1 q2]
      have h1 := h.2 (k - t) (by omega)
      rw [show t + (k - t) = k by omega] at h1
      rw [h1]
    · rw [if_neg q2, cz_0 (by omega)]
theorem ti_m (x : Int32) : x.toInt % 256 = ((x.toBitVec.toNat % 256 : Nat) : Int) := by
  have h : x.toInt = x.toBitVec.toInt := rfl
  have h2 := BitVec.toInt_eq_toNat_cond x.toBitVec
  have h3 := x.toBitVec.isLt
  rw [h, h2]
  split <;> omega
theorem nz8 (x : Int32) : nz (x.toInt8.toInt32) = if x.toInt % 256 < 128 then x.toInt % 256 else 200 := by
  have h1 : (x.toInt8.toInt32).toInt = x.toInt.bmod 256 := by rw [Int8.toInt_toInt32, Int32.toInt_toInt8]
  unfold nz
  rw [h1]
  unfold Int.bmod
  simp only []
  split <;> split <;> split <;> omega
theorem and255 (x : Int32) : (x &&& 255).toInt = x.toInt % 256 := by
  obtain ⟨n, hn, rfl⟩ := i_nI x
  have e : (255 : Int32) = nI 255 := rfl
  rw [e, nI_and hn (by omega), show n &&& 255 = n % 256 from Nat.and_two_pow_sub_one_eq_mod n 8, nI_toInt (by omega), ti_m, pk_tn hn]
theorem nz255 (x : Int32) : nz (x &&& 255) = if x.toInt % 256 < 128 then x.toInt % 256 else 200 := by
  unfold nz
  rw [and255]
  split <;> split <;> omega
theorem lo8 {x y : Int32} (h : ∀ i, i < 8 → bt x i = bt y i) : x.toInt % 256 = y.toInt % 256 := by
  have h1 : x.toBitVec.setWidth 8 = y.toBitVec.setWidth 8 := BitVec.eq_of_getLsbD_eq (fun i hi => by
    rw [BitVec.getLsbD_setWidth, BitVec.getLsbD_setWidth]
    have h2 := h i hi
    unfold bt at h2
    rw [h2])
  have h3 := congrArg BitVec.toNat h1
  rw [BitVec.toNat_setWidth, BitVec.toNat_setWidth] at h3
  rw [ti_m, ti_m]
  have e : (2 : Nat) ^ 8 = 256 := rfl
  rw [e] at h3
  rw [h3]
theorem l32_b (a : Int64) {i : Nat} (hi : i < 32) : bt a.toInt32 i = a.toBitVec.getLsbD i := by
  unfold bt
  rw [Int64.toBitVec_toInt32, BitVec.getLsbD_signExtend]
  simp only [hi, decide_true, Bool.true_and]
  rw [if_pos (by omega)]
theorem s64_l : ∀ n, n < 64 → (((nI n).toInt64 &&& 63).toBitVec.smod 64).toNat = n := by decide +kernel
theorem s64_u : ∀ n, n < 64 → (((nI n).toInt64.toUInt64 &&& Int64.toUInt64 63).toBitVec % 64).toNat = n := by decide +kernel
theorem l_sshr (n : Nat) (hn : n < 64) (v : Int64) {i : Nat} (hi : n + i < 64) : (v >>> ((nI n).toInt64 &&& 63)).toBitVec.getLsbD i = v.toBitVec.getLsbD (n + i) := by
  rw [Int64.toBitVec_shiftRight]
  show (v.toBitVec.sshiftRight (((nI n).toInt64 &&& 63).toBitVec.smod 64).toNat).getLsbD i = _
  rw [s64_l n hn, BitVec.getLsbD_sshiftRight]
  simp [hi, show i < 64 by omega]
theorem l_ushr (n : Nat) (hn : n < 64) (v : Int64) (i : Nat) : ((v.toUInt64 >>> ((nI n).toInt64.toUInt64 &&& Int64.toUInt64 63)).toInt64).toBitVec.getLsbD i = v.toBitVec.getLsbD (n + i) := by
  show (v.toUInt64 >>> ((nI n).toInt64.toUInt64 &&& Int64.toUInt64 63)).toBitVec.getLsbD i = v.toUInt64.toBitVec.getLsbD (n + i)
  rw [UInt64.toBitVec_shiftRight]
  show (v.toUInt64.toBitVec >>> (((nI n).toInt64.toUInt64 &&& Int64.toUInt64 63).toBitVec % 64).toNat).getLsbD i = _
  rw [s64_u n hn, BitVec.getLsbD_ushiftRight]
theorem i8_8 (x : Int32) : x.toInt8.toInt32.toInt % 256 = x.toInt % 256 := by
  have h1 : (x.toInt8.toInt32).toInt = x.toInt.bmod 256 := by rw [Int8.toInt_toInt32, Int32.toInt_toInt8]
  rw [h1]
  unfold Int.bmod
  simp only []
  split <;> omega
theorem nz_be {v : Int64} {j : Nat} (hj : j < 8) : nz (bexp v j) = nz (rexp v j) := by
  have e : bexp v j = ((((v.toUInt64 >>> ((nI (56 - 8 * j)).toInt64.toUInt64 &&& Int64.toUInt64 63)).toInt64).toInt32).toInt8.toInt32).toInt8.toInt32 := rfl
  rw [e, nz8, i8_8]
  unfold rexp
  rw [nz255]
  have h : ((v.toUInt64 >>> ((nI (56 - 8 * j)).toInt64.toUInt64 &&& Int64.toUInt64 63)).toInt64).toInt32.toInt % 256 = ((v >>> ((nI (56 - 8 * j)).toInt64 &&& 63)).toInt32).toInt % 256 := by
    apply lo8
    intro i hi
    rw [l32_b _ (by omega), l32_b _ (by omega), l_ushr _ (by omega), l_sshr _ (by omega) _ (by omega)]
  rw [h]
theorem cz_by {fb g : Nat → Int32} {tl : Nat} {v : Int64} (h : BYW fb g tl 8 v) : cz g (tl + 8) = czf (cz fb tl) tl v := by
  funext k
  unfold czf
  by_cases q : k < tl
  · rw [if_pos q, cz_1 (by omega), cz_1 q, h.1 k q]
  · rw [if_neg q]
    by_cases q2 : k < tl + 8
    · rw [if_pos q2, cz_1 q2]
      have h1 := h.2 (k - tl) (by omega)
      rw [show tl + (k - tl) = k by omega] at h1
      rw [h1, nz_be (by omega)]
    · rw [if_neg q2, cz_0 (by omega)]
/-- what say answers, of a text -/
def SAYR (c : Nat → Int) (r : Int32) : Prop := (∃ l, SBAD c l ∧ r = (-10 : Int32) - nI l) ∨ ∃ p n v w K m, SOK c p n v w K m ∧ r = nI m
theorem SAYR.uniq {c : Nat → Int} {r s : Int32} (h1 : SAYR c r) (h2 : SAYR c s) : r = s := by
  rcases h1 with ⟨l, a1, a2⟩ | ⟨p, n, v, w, K, m, a1, a2⟩
  · rcases h2 with ⟨l', b1, b2⟩ | ⟨p', n', v', w', K', m', b1, b2⟩
    · rw [a2, b2, SBAD.uniq a1 b1]
    · exact absurd a1 (fun q => SOK.not b1 q)
  · rcases h2 with ⟨l', b1, b2⟩ | ⟨p', n', v', w', K', m', b1, b2⟩
    · exact absurd b1 (fun q => SOK.not a1 q)
    · rw [a2, b2, (SOK.uniq a1 b1).2.2.2.2.2]
/-! calls on some cells of a world with a tail -/
theorem lk_app {w0 t : va_W} : ∀ (is : List Nat) (wc : va_W), is.map (fun i => w0[i]?) = wc.map some → is.map (fun i => (w0 ++ t)[i]?) = wc.map some
  | [], wc, h => by simpa using h
  | i :: is, [], h => by simp at h
  | i :: is, q :: wc, h => by
    simp only [List.map_cons, List.cons.injEq] at h ⊢
    refine ⟨?_, lk_app is wc h.2⟩
    have hi : i < w0.length := (List.getElem?_eq_some_iff.mp h.1).1
    rw [List.getElem?_append_left hi]; exact h.1
theorem pT {D : va_G} {cls : List vw_C} {w0 w1 tl : va_W} {H : Heap} (is : List Nat) (h : is.map (fun i => w0[i]?) = w1.map some) (hP : va_P D cls (w0 ++ tl) H) : va_P D cls (w1 ++ tl) H := fun k q hk => hP _ q (va_part is h k q hk)
theorem dT {A : Nat → Prop} {w0 w1 tl : va_W} (is : List Nat) (hnd : va_nd is = true) (h : is.map (fun i => w0[i]?) = w1.map some) (hD : va_D A (w0 ++ tl)) : va_D A (w1 ++ tl) := by
  refine ⟨fun i j p q hp hq e => ?_, fun k q hk => hD.2 _ q (va_part is h k q hk)⟩
  have hij := hD.1 _ _ p q (va_part is h i p hp) (va_part is h j q hq) e
  have key : ∀ a x, a < w1.length → (w1 ++ tl)[a]? = some x → ∃ y, is[a]? = some y ∧ y < w0.length := by
    intro a x ha hx
    rw [List.getElem?_append_left ha] at hx
    obtain ⟨y, h1, h2⟩ := va_in_of is h hx
    exact ⟨y, h1, (List.getElem?_eq_some_iff.mp h2).1⟩
  by_cases hi1 : i < w1.length
  · obtain ⟨a, a1, a2⟩ := key i p hi1 hp
    by_cases hj1 : j < w1.length
    · obtain ⟨b, b1, b2⟩ := key j q hj1 hq
      rw [if_pos hi1, if_pos hj1, a1, b1] at hij
      simp only [Option.getD_some] at hij
      exact va_nd_inj is hnd i j a a1 (by rw [hij]; exact b1)
    · rw [if_pos hi1, if_neg hj1, a1] at hij
      simp only [Option.getD_some] at hij
      omega
  · by_cases hj1 : j < w1.length
    · obtain ⟨b, b1, b2⟩ := key j q hj1 hq
      rw [if_neg hi1, if_pos hj1, b1] at hij
      simp only [Option.getD_some] at hij
      omega
    · rw [if_neg hi1, if_neg hj1] at hij
      omega
theorem dN {A : Nat → Prop} {ws : va_W} : va_D A ws ↔ ws.Pairwise (fun a b => a.1 ≠ b.1) ∧ ∀ q ∈ ws, A q.1 := by
  constructor
  · intro hD
    refine ⟨List.pairwise_iff_getElem.mpr (fun i j hi hj hij e => ?_), fun q hq => ?_⟩
    · have := hD.1 i j _ _ (List.getElem?_eq_getElem hi) (List.getElem?_eq_getElem hj) e
      omega
    · obtain ⟨k, hk⟩ := List.mem_iff_getElem?.mp hq
      exact hD.2 k q hk
  · intro ⟨h1, h2⟩
    refine ⟨fun i j p q hp hq e => ?_, fun k q hk => h2 q (List.mem_of_getElem? hk)⟩
    obtain ⟨hi, rfl⟩ := List.getElem?_eq_some_iff.mp hp
    obtain ⟨hj, rfl⟩ := List.getElem?_eq_some_iff.mp hq
    rcases Nat.lt_trichotomy i j with c | c | c
    · exact absurd e (List.pairwise_iff_getElem.mp h1 i j hi hj c)
    · exact c
    · exact absurd e.symm (List.pairwise_iff_getElem.mp h1 j i hj hi c)
theorem dPerm {A : Nat → Prop} {ws ws' : va_W} (h : ws.Perm ws') (hD : va_D A ws) : va_D A ws' := by
  rw [dN] at *
  exact ⟨(h.pairwise_iff (fun {a b} (hab : a.1 ≠ b.1) => hab.symm)).mp hD.1, fun q hq => hD.2 q (h.mem_iff.mpr hq)⟩
theorem pPerm {D : va_G} {cls : List vw_C} {ws ws' : va_W} {H : Heap} (h : ws.Perm ws') (hP : va_P D cls ws H) : va_P D cls ws' H := by
  intro k q hk
  obtain ⟨i, hi⟩ := List.mem_iff_getElem?.mp (h.mem_iff.mpr (List.mem_of_getElem? hk))
  exact hP i q hi
section LT
variable {X : XT} {rm : Room} {cc : ByteArray} {nL : Nat} {own : String} {ret9 : Option FieldType} {E : EV} {pc : Nat} {lv : List (Nat × Value)} {st rest : List Value} {k n mc ms k' n' : Nat} {wc wr ro w0 w1 tl : va_W} {av : List Value}
theorem ww_perm {ws ws' : va_W} (h : ws.Perm ws') (kk : WW X nL E pc lv st ws' k n) : WW X nL E pc lv st ws k n := fun H locs ls hP hD hS hl => kk H locs ls (pPerm h hP) (dPerm h hD) hS hl
theorem ww_subT (is : List Nat) (hnd : va_nd is = true) (h : is.map (fun i => w0[i]?) = w1.map some) (kk : WW X nL E pc lv st (w1 ++ tl) k n) : WW X nL E pc lv st (w0 ++ tl) k n := fun H locs ls hP hD hS hl => kk H locs ls (pT is h hP) (dT is hnd h hD) hS hl
theorem ww_wid {k' n' : Nat} (hk : k ≤ k') (hn : n ≤ n') {ws : va_W} (kk : WW X nL E pc lv st ws k' n') : WW X nL E pc lv st ws k n := fun H locs ls hP hD hS hl => W.widen hk hn (kk H locs ls hP hD hS hl)
theorem ww_ciT {post : Int32 → va_W → Prop} (C : CX X rm cc nL own ret9 E) (hr : RunOf X nL E ro pc st rest wc (Qi E post) av mc ms) (hro : ROf X E (w0 ++ tl) wc ro) (isC isR : List Nat) (hC : isC.map (fun i => w0[i]?) = wc.map some) (hR : isR.map (fun i => w0[i]?) = wr.map some) (hnd : plOk isC isR = true) (hk : k + mc ≤ k' ∧ n + ms ≤ n' ∧ k' ≤ rm.cells ∧ n' ≤ rm.slots)
    (kk : ∀ (r : Int32) (u : va_W), post r u → WW X nL E (pc + 3) lv (.int r :: rest) ((wr ++ u) ++ tl) k' n') : WW X nL E pc lv st (w0 ++ tl) k n := by
  intro H locs ls hP hD hS hl
  obtain ⟨p, l, e, R, s, m, args, below, meth, c, A, Q⟩ := X
  obtain ⟨hx, hb, hml, hown, hts, hK, hA, hr', hlk, hrm, hJF⟩ := C
  dsimp only at *
  subst hrm
  obtain ⟨n1, n2, n3⟩ := plOk.use hnd
  obtain ⟨k1, k2, k3, k4⟩ := hk
  have hC2 := lk_app (t := tl) isC wc hC
  have hPc := hP.sub isC (fm_of hC2)
  have hDc0 := hD.sub isC n1 hC2
  have hDc := hDc0.weaken (B := fun _ => True) (fun _ _ _ _ => trivial)
  have hFc := va_free hD hS hA isC hC2
  have hq := hro H locs hP hD hS (fun j e he => hDc0.2 j e he)
  refine va_calli (hr H locs ls k n hPc hDc hq.1 hq.2 ((hJF.kept hS.2.1).narrow hFc) hl.1 (Nat.le_trans k1 k3) (Nat.le_trans k2 k4)) hS (fun q _ h => hFc q h) hFc (fun r u t H1 locs1 ht hvm hw hB hz1 hk1 hS1 => ?_)
  obtain ⟨hP1, hD1⟩ := hB
  rw [ht] at hP1
  obtain ⟨hP2, hD2⟩ := va_joinQ hP hD isC isR hC hR n2 n3 hk1 hFc hP1 hD1
  exact W.widen k1 k2 (kk r u hw H1 locs1 ls hP2 hD2 hS1 hl)
theorem roT {pre pool : va_W} (isC : List Nat) (hC : isC.map (fun i => w0[i]?) = wc.map some) (ht : tl = pre ++ pool) : ROf X E (w0 ++ tl) wc pool := by
  subst ht
  intro H locs hP hD hS hA
  have at1 : ∀ k q, pool[k]? = some q → (w0 ++ (pre ++ pool))[w0.length + (pre.length + k)]? = some q := by
    intro k q hk
    rw [List.getElem?_append_right (by omega), List.getElem?_append_right (by omega)]
    rw [show w0.length + (pre.length + k) - w0.length - pre.length = k by omega]; exact hk
  refine ⟨fun k q hk => hP _ q (at1 k q hk), fun k q hk j e he e1 => ?_⟩
  obtain ⟨i, h1, h2⟩ := va_in_of isC hC he
  have hi : i < w0.length := (List.getElem?_eq_some_iff.mp h2).1
  have h3 : (w0 ++ (pre ++ pool))[i]? = some e := by rw [List.getElem?_append_left hi]; exact h2
  have := hD.1 _ _ e q h3 (at1 k q hk) e1
  omega
theorem ro0 {ws : va_W} : ROf X E ws wc [] := fun H locs hP hD hS hA => ⟨fun k q h => by simp at h, fun k q h => by simp at h⟩
end LT
/-- sayings stay sayings when others come -/
theorem SYg.more {E : EV} {ro new : va_W} {a : Nat} (h : SYg E ro a) : SYg E (new ++ ro) a := by
  obtain ⟨nn, o, ar, af, tk, dp, nm, na, i0, i1, i2, i3, x, y, z, h0, h1, h2, h3, h4⟩ := h
  have key : ∀ i q, ro[i]? = some q → (new ++ ro)[new.length + i]? = some q := by
    intro i q hq
    rw [List.getElem?_append_right (by omega), show new.length + i - new.length = i by omega]; exact hq
  exact ⟨nn, o, ar, af, tk, dp, nm, na, _, _, _, _, x, y, z, key _ _ h0, key _ _ h1, key _ _ h2, key _ _ h3, h4⟩
theorem SYA.more {E : EV} {ro new : va_W} {N : Nat} {f : Nat → Option Nat} (h : SYA E ro N f) : SYA E (new ++ ro) N f := fun c hc a ha => (h c hc a ha).more
theorem SYv.more {E : EV} {ro new : va_W} {a : Nat} {S : SVal} (h : SYv E ro a S) : SYv E (new ++ ro) a S := by
  obtain ⟨i0, i1, i2, i3, x, y, z, h0, h1, h2, h3, h4⟩ := h
  have key : ∀ i q, ro[i]? = some q → (new ++ ro)[new.length + i]? = some q := by
    intro i q hq
    rw [List.getElem?_append_right (by omega), show new.length + i - new.length = i by omega]; exact hq
  exact ⟨_, _, _, _, x, y, z, key _ _ h0, key _ _ h1, key _ _ h2, key _ _ h3, h4⟩
theorem SYT.more {E : EV} {ro new : va_W} {N : Nat} {f : Nat → Option Nat} {T : Nat → Option SVal} (h : SYT E ro N f T) : SYT E (new ++ ro) N f T := by
  intro c hc
  rcases h c hc with q | ⟨a, S, h1, h2, h3⟩
  · exact Or.inl q
  · exact Or.inr ⟨a, S, h1, h2, h3.more⟩
