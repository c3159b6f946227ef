section
/-! the text of both sides -/
/-- eight bytes come behind the text; the text is cut -/
def czf (c : Nat → Int) (t : Nat) (v : Int64) : Nat → Int := fun k => if k < t then c k else if k < t + 8 then nz (rexp v (k - t)) else -4
def cze (c : Nat → Int) (n : Nat) : Nat → Int := fun k => if k < n then c k else -4
theorem cz_e {f : Nat → Int32} {t n : Nat} (h : n ≤ t) : cz f n = cze (cz f t) n := by
  funext k
  unfold cze
  by_cases q : k < n
  · rw [if_pos q, cz_1 q, cz_1 (by omega)]
  · rw [if_neg q, cz_0 (by omega)]
theorem cz_ry {f g : Nat → Int32} {t : Nat} {v : Int64} (h : RYW f g t 8 v) : cz g (t + 8) = czf (cz f t) t v := by
  funext k
  unfold czf
  by_cases q : k < t
  · rw [if_pos q, cz_1 (by omega), cz_1 q, h.1 k q]
  · rw [if_neg q]
    by_cases q2 : k < t + 8
    · rw [if_pos q2, cz_1 q2]
      have h1 := h.2 (k - t) (by omega)
      rw [show t + (k - t) = k by omega] at h1
      rw [h1]
    · rw [if_neg q2, cz_0 (by omega)]
theorem ti_m (x : Int32) : x.toInt % 256 = ((x.toBitVec.toNat % 256 : Nat) : Int) := by
  have h : x.toInt = x.toBitVec.toInt := rfl
  have h2 := BitVec.toInt_eq_toNat_cond x.toBitVec
  have h3 := x.toBitVec.isLt
  rw [h, h2]
  split <;> omega
theorem nz8 (x : Int32) : nz (x.toInt8.toInt32) = if x.toInt % 256 < 128 then x.toInt % 256 else 200 := by
  have h1 : (x.toInt8.toInt32).toInt = x.toInt.bmod 256 := by rw [Int8.toInt_toInt32, Int32.toInt_toInt8]
  unfold nz
  rw [h1]
  unfold Int.bmod
  simp only []
  split <;> split <;> split <;> omega
theorem and255 (x : Int32) : (x &&& 255).toInt = x.toInt % 256 := by
  obtain ⟨n, hn, rfl⟩ := i_nI x
  have e : (255 : Int32) = nI 255 := rfl
  rw [e, nI_and hn (by omega), show n &&& 255 = n % 256 from Nat.and_two_pow_sub_one_eq_mod n 8, nI_toInt (by omega), ti_m, pk_tn hn]
theorem nz255 (x : Int32) : nz (x &&& 255) = if x.toInt % 256 < 128 then x.toInt % 256 else 200 := by
  unfold nz
  rw [and255]
  split <;> split <;> omega
theorem lo8 {x y : Int32} (h : ∀ i, i < 8 → bt x i = bt y i) : x.toInt % 256 = y.toInt % 256 := by
  have h1 : x.toBitVec.setWidth 8 = y.toBitVec.setWidth 8 := BitVec.eq_of_getLsbD_eq (fun i hi => by
    rw [BitVec.getLsbD_setWidth, BitVec.getLsbD_setWidth]
    have h2 := h i hi
    unfold bt at h2
    rw [h2])
  have h3 := congrArg BitVec.toNat h1
  rw [BitVec.toNat_setWidth, BitVec.toNat_setWidth] at h3
  rw [ti_m, ti_m]
  have e : (2 : Nat) ^ 8 = 256 := rfl
  rw [e] at h3
  rw [h3]
theorem l32_b (a : Int64) {i : Nat} (hi : i < 32) : bt a.toInt32 i = a.toBitVec.getLsbD i := by
  unfold bt
  rw [Int64.toBitVec_toInt32, BitVec.getLsbD_signExtend]
  simp only [hi, decide_true, Bool.true_and]
  rw [if_pos (by omega)]
theorem s64_l : ∀ n, n < 64 → (((nI n).toInt64 &&& 63).toBitVec.smod 64).toNat = n := by decide +kernel
theorem s64_u : ∀ n, n < 64 → (((nI n).toInt64.toUInt64 &&& Int64.toUInt64 63).toBitVec % 64).toNat = n := by decide +kernel
theorem l_sshr (n : Nat) (hn : n < 64) (v : Int64) {i : Nat} (hi : n + i < 64) : (v >>> ((nI n).toInt64 &&& 63)).toBitVec.getLsbD i = v.toBitVec.getLsbD (n + i) := by
  rw [Int64.toBitVec_shiftRight]
  show (v.toBitVec.sshiftRight (((nI n).toInt64 &&& 63).toBitVec.smod 64).toNat).getLsbD i = _
  rw [s64_l n hn, BitVec.getLsbD_sshiftRight]
  simp [hi, show i < 64 by omega]
theorem l_ushr (n : Nat) (hn : n < 64) (v : Int64) (i : Nat) : ((v.toUInt64 >>> ((nI n).toInt64.toUInt64 &&& Int64.toUInt64 63)).toInt64).toBitVec.getLsbD i = v.toBitVec.getLsbD (n + i) := by
  show (v.toUInt64 >>> ((nI n).toInt64.toUInt64 &&& Int64.toUInt64 63)).toBitVec.getLsbD i = v.toUInt64.toBitVec.getLsbD (n + i)
  rw [UInt64.toBitVec_shiftRight]
  show (v.toUInt64.toBitVec >>> (((nI n).toInt64.toUInt64 &&& Int64.toUInt64 63).toBitVec % 64).toNat).getLsbD i = _
  rw [s64_u n hn, BitVec.getLsbD_ushiftRight]
theorem i8_8 (x : Int32) : x.toInt8.toInt32.toInt % 256 = x.toInt % 256 := by
  have h1 : (x.toInt8.toInt32).toInt = x.toInt.bmod 256 := by rw [Int8.toInt_toInt32, Int32.toInt_toInt8]
  rw [h1]
  unfold Int.bmod
  simp only []
  split <;> omega
theorem nz_be {v : Int64} {j : Nat} (hj : j < 8) : nz (bexp v j) = nz (rexp v j) := by
  have e : bexp v j = ((((v.toUInt64 >>> ((nI (56 - 8 * j)).toInt64.toUInt64 &&& Int64.toUInt64 63)).toInt64).toInt32).toInt8.toInt32).toInt8.toInt32 := rfl
  rw [e, nz8, i8_8]
  unfold rexp
  rw [nz255]
  have h : ((v.toUInt64 >>> ((nI (56 - 8 * j)).toInt64.toUInt64 &&& Int64.toUInt64 63)).toInt64).toInt32.toInt % 256 = ((v >>> ((nI (56 - 8 * j)).toInt64 &&& 63)).toInt32).toInt % 256 := by
    apply lo8
    intro i hi
    rw [l32_b _ (by omega), l32_b _ (by omega), l_ushr _ (by omega), l_sshr _ (by omega) _ (by omega)]
  rw [h]
theorem cz_by {fb g : Nat → Int32} {tl : Nat} {v : Int64} (h : BYW fb g tl 8 v) : cz g (tl + 8) = czf (cz fb tl) tl v := by
  funext k
  unfold czf
  by_cases q : k < tl
  · rw [if_pos q, cz_1 (by omega), cz_1 q, h.1 k q]
  · rw [if_neg q]
    by_cases q2 : k < tl + 8
    · rw [if_pos q2, cz_1 q2]
      have h1 := h.2 (k - tl) (by omega)
      rw [show tl + (k - tl) = k by omega] at h1
      rw [h1, nz_be (by omega)]
    · rw [if_neg q2, cz_0 (by omega)]
/-- what say answers, of a text -/
def SAYR (c : Nat → Int) (r : Int32) : Prop := (∃ l, SBAD c l ∧ r = (-10 : Int32) - nI l) ∨ ∃ p n v w K m, SOK c p n v w K m ∧ r = nI m
theorem SAYR.uniq {c : Nat → Int} {r s : Int32} (h1 : SAYR c r) (h2 : SAYR c s) : r = s := by
  rcases h1 with ⟨l, a1, a2⟩ | ⟨p, n, v, w, K, m, a1, a2⟩
  · rcases h2 with ⟨l', b1, b2⟩ | ⟨p', n', v', w', K', m', b1, b2⟩
    · rw [a2, b2, SBAD.uniq a1 b1]
    · exact absurd a1 (fun q => SOK.not b1 q)
  · rcases h2 with ⟨l', b1, b2⟩ | ⟨p', n', v', w', K', m', b1, b2⟩
    · exact absurd b1 (fun q => SOK.not a1 q)
    · rw [a2, b2, (SOK.uniq a1 b1).2.2.2.2.2]
/-! calls on some cells of a world with a tail -/
theorem lk_app {w0 t : va_W} : ∀ (is : List Nat) (wc : va_W), is.map (fun i => w0[i]?) = wc.map some → is.map (fun i => (w0 ++ t)[i]?) = wc.map some
  | [], wc, h => by simpa using h
  | i :: is, [], h => by simp at h
  | i :: is, q :: wc, h => by
    simp only [List.map_cons, List.cons.injEq] at h ⊢
    refine ⟨?_, lk_app is wc h.2⟩
    have hi : i < w0.length := (List.getElem?_eq_some_iff.mp h.1).1
    rw [List.getElem?_append_left hi]; exact h.1
theorem pT {D : va_G} {cls : List vw_C} {w0 w1 tl : va_W} {H : Heap} (is : List Nat) (h : is.map (fun i => w0[i]?) = w1.map some) (hP : va_P D cls (w0 ++ tl) H) : va_P D cls (w1 ++ tl) H := fun k q hk => hP _ q (va_part is h k q hk)
theorem dT {A : Nat → Prop} {w0 w1 tl : va_W} (is : List Nat) (hnd : va_nd is = true) (h : is.map (fun i => w0[i]?) = w1.map some) (hD : va_D A (w0 ++ tl)) : va_D A (w1 ++ tl) := by
  refine ⟨fun i j p q hp hq e => ?_, fun k q hk => hD.2 _ q (va_part is h k q hk)⟩
  have hij := hD.1 _ _ p q (va_part is h i p hp) (va_part is h j q hq) e
  have key : ∀ a x, a < w1.length → (w1 ++ tl)[a]? = some x → ∃ y, is[a]? = some y ∧ y < w0.length := by
    intro a x ha hx
    rw [List.getElem?_append_left ha] at hx
    obtain ⟨y, h1, h2⟩ := va_in_of is h hx
    exact ⟨y, h1, (List.getElem?_eq_some_iff.mp h2).1⟩
  by_cases hi1 : i < w1.length
  · obtain ⟨a, a1, a2⟩ := key i p hi1 hp
    by_cases hj1 : j < w1.length
    · obtain ⟨b, b1, b2⟩ := key j q hj1 hq
      rw [if_pos hi1, if_pos hj1, a1, b1] at hij
      simp only [Option.getD_some] at hij
      exact va_nd_inj is hnd i j a a1 (by rw [hij]; exact b1)
    · rw [if_pos hi1, if_neg hj1, a1] at hij
      simp only [Option.getD_some] at hij
      omega
  · by_cases hj1 : j < w1.length
    · obtain ⟨b, b1, b2⟩ := key j q hj1 hq
      rw [if_neg hi1, if_pos hj1, b1] at hij
      simp only [Option.getD_some] at hij
      omega
    · rw [if_neg hi1, if_neg hj1] at hij
      omega
theorem dN {A : Nat → Prop} {ws : va_W} : va_D A ws ↔ ws.Pairwise (fun a b => a.1 ≠ b.1) ∧ ∀ q ∈ ws, A q.1 := by
  constructor
  · intro hD
    refine ⟨List.pairwise_iff_getElem.mpr (fun i j hi hj hij e => ?_), fun q hq => ?_⟩
    · have := hD.1 i j _ _ (List.getElem?_eq_getElem hi) (List.getElem?_eq_getElem hj) e
      omega
    · obtain ⟨k, hk⟩ := List.mem_iff_getElem?.mp hq
      exact hD.2 k q hk
  · intro ⟨h1, h2⟩
    refine ⟨fun i j p q hp hq e => ?_, fun k q hk => h2 q (List.mem_of_getElem? hk)⟩
    obtain ⟨hi, rfl⟩ := List.getElem?_eq_some_iff.mp hp
    obtain ⟨hj, rfl⟩ := List.getElem?_eq_some_iff.mp hq
    rcases Nat.lt_trichotomy i j with c | c | c
    · exact absurd e (List.pairwise_iff_getElem.mp h1 i j hi hj c)
    · exact c
    · exact absurd e.symm (List.pairwise_iff_getElem.mp h1 j i hj hi c)
theorem dPerm {A : Nat → Prop} {ws ws' : va_W} (h : ws.Perm ws') (hD : va_D A ws) : va_D A ws' := by
  rw [dN] at *
  exact ⟨(h.pairwise_iff (fun {a b} (hab : a.1 ≠ b.1) => hab.symm)).mp hD.1, fun q hq => hD.2 q (h.mem_iff.mpr hq)⟩
theorem pPerm {D : va_G} {cls : List vw_C} {ws ws' : va_W} {H : Heap} (h : ws.Perm ws') (hP : va_P D cls ws H) : va_P D cls ws' H := by
  intro k q hk
  obtain ⟨i, hi⟩ := List.mem_iff_getElem?.mp (h.mem_iff.mpr (List.mem_of_getElem? hk))
  exact hP i q hi
section LT
variable {X : XT} {rm : Room} {cc : ByteArray} {nL : Nat} {own : String} {ret9 : Option FieldType} {E : EV} {pc : Nat} {lv : List (Nat × Value)} {st rest : List Value} {k n mc ms k' n' : Nat} {wc wr ro w0 w1 tl : va_W} {av : List Value}
theorem ww_perm {ws ws' : va_W} (h : ws.Perm ws') (kk : WW X nL E pc lv st ws' k n) : WW X nL E pc lv st ws k n := fun H locs ls hP hD hS hl => kk H locs ls (pPerm h hP) (dPerm h hD) hS hl
theorem ww_subT (is : List Nat) (hnd : va_nd is = true) (h : is.map (fun i => w0[i]?) = w1.map some) (kk : WW X nL E pc lv st (w1 ++ tl) k n) : WW X nL E pc lv st (w0 ++ tl) k n := fun H locs ls hP hD hS hl => kk H locs ls (pT is h hP) (dT is hnd h hD) hS hl
theorem ww_wid {k' n' : Nat} (hk : k ≤ k') (hn : n ≤ n') {ws : va_W} (kk : WW X nL E pc lv st ws k' n') : WW X nL E pc lv st ws k n := fun H locs ls hP hD hS hl => W.widen hk hn (kk H locs ls hP hD hS hl)
theorem ww_ciT {post : Int32 → va_W → Prop} (C : CX X rm cc nL own ret9 E) (hr : RunOf X nL E ro pc st rest wc (Qi E post) av mc ms) (hro : ROf X E (w0 ++ tl) wc ro) (isC isR : List Nat) (hC : isC.map (fun i => w0[i]?) = wc.map some) (hR : isR.map (fun i => w0[i]?) = wr.map some) (hnd : plOk isC isR = true) (hk : k + mc ≤ k' ∧ n + ms ≤ n' ∧ k' ≤ rm.cells ∧ n' ≤ rm.slots)
    (kk : ∀ (r : Int32) (u : va_W), post r u → WW X nL E (pc + 3) lv (.int r :: rest) ((wr ++ u) ++ tl) k' n') : WW X nL E pc lv st (w0 ++ tl) k n := by
  intro H locs ls hP hD hS hl
  obtain ⟨p, l, e, R, s, m, args, below, meth, c, A, Q⟩ := X
  obtain ⟨hx, hb, hml, hown, hts, hK, hA, hr', hlk, hrm, hJF⟩ := C
  dsimp only at *
  subst hrm
  obtain ⟨n1, n2, n3⟩ := plOk.use hnd
  obtain ⟨k1, k2, k3, k4⟩ := hk
  have hC2 := lk_app (t := tl) isC wc hC
  have hPc := hP.sub isC (fm_of hC2)
  have hDc0 := hD.sub isC n1 hC2
  have hDc := hDc0.weaken (B := fun _ => True) (fun _ _ _ _ => trivial)
  have hFc := va_free hD hS hA isC hC2
  have hq := hro H locs hP hD hS (fun j e he => hDc0.2 j e he)
  refine va_calli (hr H locs ls k n hPc hDc hq.1 hq.2 ((hJF.kept hS.2.1).narrow hFc) hl.1 (Nat.le_trans k1 k3) (Nat.le_trans k2 k4)) hS (fun q _ h => hFc q h) hFc (fun r u t H1 locs1 ht hvm hw hB hz1 hk1 hS1 => ?_)
  obtain ⟨hP1, hD1⟩ := hB
  rw [ht] at hP1
  obtain ⟨hP2, hD2⟩ := va_joinQ hP hD isC isR hC hR n2 n3 hk1 hFc hP1 hD1
  exact W.widen k1 k2 (kk r u hw H1 locs1 ls hP2 hD2 hS1 hl)
theorem roT {pre pool : va_W} (isC : List Nat) (hC : isC.map (fun i => w0[i]?) = wc.map some) (ht : tl = pre ++ pool) : ROf X E (w0 ++ tl) wc pool := by
  subst ht
  intro H locs hP hD hS hA
  have at1 : ∀ k q, pool[k]? = some q → (w0 ++ (pre ++ pool))[w0.length + (pre.length + k)]? = some q := by
    intro k q hk
    rw [List.getElem?_append_right (by omega), List.getElem?_append_right (by omega)]
    rw [show w0.length + (pre.length + k) - w0.length - pre.length = k by omega]; exact hk
  refine ⟨fun k q hk => hP _ q (at1 k q hk), fun k q hk j e he e1 => ?_⟩
  obtain ⟨i, h1, h2⟩ := va_in_of isC hC he
  have hi : i < w0.length := (List.getElem?_eq_some_iff.mp h2).1
  have h3 : (w0 ++ (pre ++ pool))[i]? = some e := by rw [List.getElem?_append_left hi]; exact h2
  have := hD.1 _ _ e q h3 (at1 k q hk) e1
  omega
theorem ro0 {ws : va_W} : ROf X E ws wc [] := fun H locs hP hD hS hA => ⟨fun k q h => by simp at h, fun k q h => by simp at h⟩
end LT
/-- sayings stay sayings when others come -/
theorem SYg.more {E : EV} {ro new : va_W} {a : Nat} (h : SYg E ro a) : SYg E (new ++ ro) a := by
  obtain ⟨nn, o, ar, af, tk, dp, nm, na, i0, i1, i2, i3, x, y, z, h0, h1, h2, h3, h4⟩ := h
  have key : ∀ i q, ro[i]? = some q → (new ++ ro)[new.length + i]? = some q := by
    intro i q hq
    rw [List.getElem?_append_right (by omega), show new.length + i - new.length = i by omega]; exact hq
  exact ⟨nn, o, ar, af, tk, dp, nm, na, _, _, _, _, x, y, z, key _ _ h0, key _ _ h1, key _ _ h2, key _ _ h3, h4⟩
theorem SYA.more {E : EV} {ro new : va_W} {N : Nat} {f : Nat → Option Nat} (h : SYA E ro N f) : SYA E (new ++ ro) N f := fun c hc a ha => (h c hc a ha).more
theorem SYv.more {E : EV} {ro new : va_W} {a : Nat} {S : SVal} (h : SYv E ro a S) : SYv E (new ++ ro) a S := by
  obtain ⟨i0, i1, i2, i3, x, y, z, h0, h1, h2, h3, h4⟩ := h
  have key : ∀ i q, ro[i]? = some q → (new ++ ro)[new.length + i]? = some q := by
    intro i q hq
    rw [List.getElem?_append_right (by omega), show new.length + i - new.length = i by omega]; exact hq
  exact ⟨_, _, _, _, x, y, z, key _ _ h0, key _ _ h1, key _ _ h2, key _ _ h3, h4⟩
theorem SYT.more {E : EV} {ro new : va_W} {N : Nat} {f : Nat → Option Nat} {T : Nat → Option SVal} (h : SYT E ro N f T) : SYT E (new ++ ro) N f T := by
  intro c hc
  rcases h c hc with q | ⟨a, S, h1, h2, h3⟩
  · exact Or.inl q
  · exact Or.inr ⟨a, S, h1, h2, h3.more⟩
end
section
def ok_now (E : EV) (ro : va_W) (h : Nat) (mN : AM) (w : va_W) : Prop := ∃ (n : Nat) (r : Nat) (a : Nat) (b : Nat) (f : Nat → Int32) (gg : Nat → Int32), w = [(h, .inr (4, [.int (nI n), .int (nI r), .ref a, .ref b])), (a, .inl (E.2.1 1, 24, .inl f)), (b, .inl (E.2.1 1, 96, .inl gg))] ∧ (n ≤ 24) ∧ (r < n ∨ r = 0) ∧ (WFm (am n r f gg)) ∧ (mN = (am n r f gg))
def ok_past (E : EV) (ro : va_W) (qp : Nat) (pV : Nat → AM) (w : va_W) : Prop := ∃ (fqp : Nat → Option Nat) (p0 : Nat) (p1 : Nat) (p2 : Nat) (p3 : Nat) (p4 : Nat) (p5 : Nat) (p6 : Nat) (p7 : Nat) (p0n : Nat) (p0r : Nat) (p0a : Nat) (p0b : Nat) (p0f : Nat → Int32) (p0g : Nat → Int32) (p1n : Nat) (p1r : Nat) (p1a : Nat) (p1b : Nat) (p1f : Nat → Int32) (p1g : Nat → Int32) (p2n : Nat) (p2r : Nat) (p2a : Nat) (p2b : Nat) (p2f : Nat → Int32) (p2g : Nat → Int32) (p3n : Nat) (p3r : Nat) (p3a : Nat) (p3b : Nat) (p3f : Nat → Int32) (p3g : Nat → Int32) (p4n : Nat) (p4r : Nat) (p4a : Nat) (p4b : Nat) (p4f : Nat → Int32) (p4g : Nat → Int32) (p5n : Nat) (p5r : Nat) (p5a : Nat) (p5b : Nat) (p5f : Nat → Int32) (p5g : Nat → Int32) (p6n : Nat) (p6r : Nat) (p6a : Nat) (p6b : Nat) (p6f : Nat → Int32) (p6g : Nat → Int32) (p7n : Nat) (p7r : Nat) (p7a : Nat) (p7b : Nat) (p7f : Nat → Int32) (p7g : Nat → Int32), w = [(qp, .inl (E.2.1 6, 8, .inr (.inr (.inr (.inr fqp))))), (p0, .inr (4, [.int (nI p0n), .int (nI p0r), .ref p0a, .ref p0b])), (p0a, .inl (E.2.1 1, 24, .inl p0f)), (p0b, .inl (E.2.1 1, 96, .inl p0g)), (p1, .inr (4, [.int (nI p1n), .int (nI p1r), .ref p1a, .ref p1b])), (p1a, .inl (E.2.1 1, 24, .inl p1f)), (p1b, .inl (E.2.1 1, 96, .inl p1g)), (p2, .inr (4, [.int (nI p2n), .int (nI p2r), .ref p2a, .ref p2b])), (p2a, .inl (E.2.1 1, 24, .inl p2f)), (p2b, .inl (E.2.1 1, 96, .inl p2g)), (p3, .inr (4, [.int (nI p3n), .int (nI p3r), .ref p3a, .ref p3b])), (p3a, .inl (E.2.1 1, 24, .inl p3f)), (p3b, .inl (E.2.1 1, 96, .inl p3g)), (p4, .inr (4, [.int (nI p4n), .int (nI p4r), .ref p4a, .ref p4b])), (p4a, .inl (E.2.1 1, 24, .inl p4f)), (p4b, .inl (E.2.1 1, 96, .inl p4g)), (p5, .inr (4, [.int (nI p5n), .int (nI p5r), .ref p5a, .ref p5b])), (p5a, .inl (E.2.1 1, 24, .inl p5f)), (p5b, .inl (E.2.1 1, 96, .inl p5g)), (p6, .inr (4, [.int (nI p6n), .int (nI p6r), .ref p6a, .ref p6b])), (p6a, .inl (E.2.1 1, 24, .inl p6f)), (p6b, .inl (E.2.1 1, 96, .inl p6g)), (p7, .inr (4, [.int (nI p7n), .int (nI p7r), .ref p7a, .ref p7b])), (p7a, .inl (E.2.1 1, 24, .inl p7f)), (p7b, .inl (E.2.1 1, 96, .inl p7g))] ∧ (fqp 0 = some p0) ∧ (fqp 1 = some p1) ∧ (fqp 2 = some p2) ∧ (fqp 3 = some p3) ∧ (fqp 4 = some p4) ∧ (fqp 5 = some p5) ∧ (fqp 6 = some p6) ∧ (fqp 7 = some p7) ∧ (p0n ≤ 24) ∧ (p0r < p0n ∨ p0r = 0) ∧ (WFm (am p0n p0r p0f p0g)) ∧ (p1n ≤ 24) ∧ (p1r < p1n ∨ p1r = 0) ∧ (WFm (am p1n p1r p1f p1g)) ∧ (p2n ≤ 24) ∧ (p2r < p2n ∨ p2r = 0) ∧ (WFm (am p2n p2r p2f p2g)) ∧ (p3n ≤ 24) ∧ (p3r < p3n ∨ p3r = 0) ∧ (WFm (am p3n p3r p3f p3g)) ∧ (p4n ≤ 24) ∧ (p4r < p4n ∨ p4r = 0) ∧ (WFm (am p4n p4r p4f p4g)) ∧ (p5n ≤ 24) ∧ (p5r < p5n ∨ p5r = 0) ∧ (WFm (am p5n p5r p5f p5g)) ∧ (p6n ≤ 24) ∧ (p6r < p6n ∨ p6r = 0) ∧ (WFm (am p6n p6r p6f p6g)) ∧ (p7n ≤ 24) ∧ (p7r < p7n ∨ p7r = 0) ∧ (WFm (am p7n p7r p7f p7g)) ∧ (pV = (pick8 (am p0n p0r p0f p0g) (am p1n p1r p1f p1g) (am p2n p2r p2f p2g) (am p3n p3r p3f p3g) (am p4n p4r p4f p4g) (am p5n p5r p5f p5g) (am p6n p6r p6f p6g) (am p7n p7r p7f p7g)))
def ok_pars (E : EV) (ro : va_W) (qs : Nat) (tl : Nat) (ct : Nat → Int) (w : va_W) : Prop := ∃ (qt : Nat) (po : Nat) (pa : Nat) (pf : Nat) (pd : Nat) (nd : Int32) (tn : Int32) (an : Int32) (wr : Int32) (pl : Int32) (tb : Nat) (ta : Int32) (tk : Int32) (ts : Int32) (fb : Nat → Int32) (fo : Nat → Int32) (pfa : Nat → Int32) (af : Nat → Int32) (fd : Nat → Int32), w = [(qs, .inr (5, [.ref qt, .ref po, .ref pa, .ref pf, .ref pd, .int nd, .int tn, .int an, .int wr, .int pl])), (qt, .inr (10, [.ref tb, .int (nI tl), .int ta, .int tk, .int ts])), (tb, .inl (E.2.1 0, 160, .inl fb)), (po, .inl (E.2.1 1, 32, .inl fo)), (pa, .inl (E.2.1 1, 32, .inl pfa)), (pf, .inl (E.2.1 1, 2, .inl af)), (pd, .inl (E.2.1 1, 32, .inl fd))] ∧ (tl ≤ 160) ∧ (ct = cz fb tl)
def ok_judg (E : EV) (ro : va_W) (qj : Nat) (tT : Nat → Option SVal) (ec : Nat → Nat) (er : Nat → Nat) (ed : Nat → Nat → Int32) (eT : Nat → Nat → Option SVal) (eb : Nat → Nat → Int32) (en : Nat → Nat → Int32) (w : va_W) : Prop := ∃ (jt : Nat) (je : Nat) (ju : Nat) (ja : Nat) (ft : Nat → Int32) (fe : Nat → Option Nat) (e0 : Nat) (e1 : Nat) (e2 : Nat) (e3 : Nat) (fa : Nat → Option Nat) (la0 : Nat) (la1 : Nat) (e0cs : Nat) (e0rc : Nat) (e0a : Nat) (e0b : Nat) (e0c : Nat) (e0d : Nat) (e0fi : Nat → Option Nat) (e0fb : Nat → Int32) (e0fc : Nat → Int32) (e0fd : Nat → Int32) (e1cs : Nat) (e1rc : Nat) (e1a : Nat) (e1b : Nat) (e1c : Nat) (e1d : Nat) (e1fi : Nat → Option Nat) (e1fb : Nat → Int32) (e1fc : Nat → Int32) (e1fd : Nat → Int32) (e2cs : Nat) (e2rc : Nat) (e2a : Nat) (e2b : Nat) (e2c : Nat) (e2d : Nat) (e2fi : Nat → Option Nat) (e2fb : Nat → Int32) (e2fc : Nat → Int32) (e2fd : Nat → Int32) (e3cs : Nat) (e3rc : Nat) (e3a : Nat) (e3b : Nat) (e3c : Nat) (e3d : Nat) (e3fi : Nat → Option Nat) (e3fb : Nat → Int32) (e3fc : Nat → Int32) (e3fd : Nat → Int32) (la0m : Nat) (la0p : Int32) (la0w : Int32) (la0c : Nat) (la0f : Nat) (la0q : Nat) (la0fc : Nat → Int32) (la0ff : Nat → Int32) (la0fq : Nat → Int32) (la0n : Nat) (la0r : Nat) (la0x : Nat) (la0y : Nat) (la0gx : Nat → Int32) (la0gy : Nat → Int32) (la1m : Nat) (la1p : Int32) (la1w : Int32) (la1c : Nat) (la1f : Nat) (la1q : Nat) (la1fc : Nat → Int32) (la1ff : Nat → Int32) (la1fq : Nat → Int32) (la1n : Nat) (la1r : Nat) (la1x : Nat) (la1y : Nat) (la1gx : Nat → Int32) (la1gy : Nat → Int32) (fto : Nat → Option Nat) (e0T : Nat → Option SVal) (e1T : Nat → Option SVal) (e2T : Nat → Option SVal) (e3T : Nat → Option SVal), w = [(qj, .inr (2, [.ref jt, .ref je, .ref ju, .ref ja])), (ju, .inl (E.2.1 1, 32, .inl ft)), (je, .inl (E.2.1 4, 4, .inr (.inr (.inr (.inr fe))))), (ja, .inl (E.2.1 5, 2, .inr (.inr (.inr (.inr fa))))), (e0, .inr (0, [.int (nI e0cs), .int (nI e0rc), .ref e0a, .ref e0b, .ref e0c, .ref e0d])), (e0a, .inl (E.2.1 7, 4, .inr (.inr (.inr (.inr e0fi))))), (e0b, .inl (E.2.1 1, 4, .inl e0fb)), (e0c, .inl (E.2.1 1, 4, .inl e0fc)), (e0d, .inl (E.2.1 1, 16, .inl e0fd)), (e1, .inr (0, [.int (nI e1cs), .int (nI e1rc), .ref e1a, .ref e1b, .ref e1c, .ref e1d])), (e1a, .inl (E.2.1 7, 4, .inr (.inr (.inr (.inr e1fi))))), (e1b, .inl (E.2.1 1, 4, .inl e1fb)), (e1c, .inl (E.2.1 1, 4, .inl e1fc)), (e1d, .inl (E.2.1 1, 16, .inl e1fd)), (e2, .inr (0, [.int (nI e2cs), .int (nI e2rc), .ref e2a, .ref e2b, .ref e2c, .ref e2d])), (e2a, .inl (E.2.1 7, 4, .inr (.inr (.inr (.inr e2fi))))), (e2b, .inl (E.2.1 1, 4, .inl e2fb)), (e2c, .inl (E.2.1 1, 4, .inl e2fc)), (e2d, .inl (E.2.1 1, 16, .inl e2fd)), (e3, .inr (0, [.int (nI e3cs), .int (nI e3rc), .ref e3a, .ref e3b, .ref e3c, .ref e3d])), (e3a, .inl (E.2.1 7, 4, .inr (.inr (.inr (.inr e3fi))))), (e3b, .inl (E.2.1 1, 4, .inl e3fb)), (e3c, .inl (E.2.1 1, 4, .inl e3fc)), (e3d, .inl (E.2.1 1, 16, .inl e3fd)), (la0, .inr (3, [.ref la0m, .int la0p, .int la0w, .ref la0c, .ref la0f, .ref la0q])), (la0c, .inl (E.2.1 1, 24, .inl la0fc)), (la0f, .inl (E.2.1 1, 24, .inl la0ff)), (la0q, .inl (E.2.1 1, 4, .inl la0fq)), (la0m, .inr (4, [.int (nI la0n), .int (nI la0r), .ref la0x, .ref la0y])), (la0x, .inl (E.2.1 1, 24, .inl la0gx)), (la0y, .inl (E.2.1 1, 96, .inl la0gy)), (la1, .inr (3, [.ref la1m, .int la1p, .int la1w, .ref la1c, .ref la1f, .ref la1q])), (la1c, .inl (E.2.1 1, 24, .inl la1fc)), (la1f, .inl (E.2.1 1, 24, .inl la1ff)), (la1q, .inl (E.2.1 1, 4, .inl la1fq)), (la1m, .inr (4, [.int (nI la1n), .int (nI la1r), .ref la1x, .ref la1y])), (la1x, .inl (E.2.1 1, 24, .inl la1gx)), (la1y, .inl (E.2.1 1, 96, .inl la1gy)), (jt, .inl (E.2.1 7, 8, .inr (.inr (.inr (.inr fto)))))] ∧ (fe 0 = some e0) ∧ (fe 1 = some e1) ∧ (fe 2 = some e2) ∧ (fe 3 = some e3) ∧ (fa 0 = some la0) ∧ (fa 1 = some la1) ∧ (e0cs ≤ 4) ∧ (e0rc ≤ 3) ∧ (SYT E ro 4 e0fi e0T) ∧ (e1cs ≤ 4) ∧ (e1rc ≤ 3) ∧ (SYT E ro 4 e1fi e1T) ∧ (e2cs ≤ 4) ∧ (e2rc ≤ 3) ∧ (SYT E ro 4 e2fi e2T) ∧ (e3cs ≤ 4) ∧ (e3rc ≤ 3) ∧ (SYT E ro 4 e3fi e3T) ∧ (la0n ≤ 24) ∧ (la0r < la0n ∨ la0r = 0) ∧ (la1n ≤ 24) ∧ (la1r < la1n ∨ la1r = 0) ∧ (SYT E ro 8 fto tT) ∧ (ec = pick4 e0cs e1cs e2cs e3cs) ∧ (er = pick4 e0rc e1rc e2rc e3rc) ∧ (ed = pick4 e0fd e1fd e2fd e3fd) ∧ (eT = pick4 e0T e1T e2T e3T) ∧ (eb = pick4 e0fb e1fb e2fb e3fb) ∧ (en = pick4 e0fc e1fc e2fc e3fc)
def ok_layr (E : EV) (ro : va_W) (ly : Nat)  (w : va_W) : Prop := ∃ (lym : Nat) (lyp : Int32) (lyw : Int32) (lyc : Nat) (lyf : Nat) (lyq : Nat) (lyfc : Nat → Int32) (lyff : Nat → Int32) (lyfq : Nat → Int32) (lyn : Nat) (lyr : Nat) (lyx : Nat) (lyy : Nat) (lygx : Nat → Int32) (lygy : Nat → Int32), w = [(ly, .inr (3, [.ref lym, .int lyp, .int lyw, .ref lyc, .ref lyf, .ref lyq])), (lyc, .inl (E.2.1 1, 24, .inl lyfc)), (lyf, .inl (E.2.1 1, 24, .inl lyff)), (lyq, .inl (E.2.1 1, 4, .inl lyfq)), (lym, .inr (4, [.int (nI lyn), .int (nI lyr), .ref lyx, .ref lyy])), (lyx, .inl (E.2.1 1, 24, .inl lygx)), (lyy, .inl (E.2.1 1, 96, .inl lygy))] ∧ (lyn ≤ 24) ∧ (lyr < lyn ∨ lyr = 0)
def ok_heap (E : EV) (ro : va_W) (qh : Nat)  (w : va_W) : Prop := ∃ (hl0 : Value) (hr0 : Value) (hz0 : Int32) (ha : Nat) (hb : Nat) (hc : Nat) (fl : Nat → Int32) (fn : Nat → Int32) (fs : Nat → Int64), w = [(qh, .inr (1, [hl0, hr0, .int hz0, .ref ha, .ref hb, .ref hc])), (ha, .inl (E.2.1 1, 48, .inl fl)), (hb, .inl (E.2.1 1, 48, .inl fn)), (hc, .inl (E.2.1 2, 192, .inr (.inl fs)))] ∧ (RNG 48 48 fl)
def ok_kept (E : EV) (ro : va_W) (kk : Nat) (kc : Nat) (kV : Nat → AM) (w : va_W) : Prop := ∃ (fkk : Nat → Option Nat) (k0 : Nat) (k1 : Nat) (k2 : Nat) (k3 : Nat) (k0n : Nat) (k0r : Nat) (k0a : Nat) (k0b : Nat) (k0f : Nat → Int32) (k0g : Nat → Int32) (k1n : Nat) (k1r : Nat) (k1a : Nat) (k1b : Nat) (k1f : Nat → Int32) (k1g : Nat → Int32) (k2n : Nat) (k2r : Nat) (k2a : Nat) (k2b : Nat) (k2f : Nat → Int32) (k2g : Nat → Int32) (k3n : Nat) (k3r : Nat) (k3a : Nat) (k3b : Nat) (k3f : Nat → Int32) (k3g : Nat → Int32), w = [(kk, .inl (E.2.1 6, 4, .inr (.inr (.inr (.inr fkk))))), (k0, .inr (4, [.int (nI k0n), .int (nI k0r), .ref k0a, .ref k0b])), (k0a, .inl (E.2.1 1, 24, .inl k0f)), (k0b, .inl (E.2.1 1, 96, .inl k0g)), (k1, .inr (4, [.int (nI k1n), .int (nI k1r), .ref k1a, .ref k1b])), (k1a, .inl (E.2.1 1, 24, .inl k1f)), (k1b, .inl (E.2.1 1, 96, .inl k1g)), (k2, .inr (4, [.int (nI k2n), .int (nI k2r), .ref k2a, .ref k2b])), (k2a, .inl (E.2.1 1, 24, .inl k2f)), (k2b, .inl (E.2.1 1, 96, .inl k2g)), (k3, .inr (4, [.int (nI k3n), .int (nI k3r), .ref k3a, .ref k3b])), (k3a, .inl (E.2.1 1, 24, .inl k3f)), (k3b, .inl (E.2.1 1, 96, .inl k3g))] ∧ (fkk 0 = some k0) ∧ (fkk 1 = some k1) ∧ (fkk 2 = some k2) ∧ (fkk 3 = some k3) ∧ (k0n ≤ 24) ∧ (k0r < k0n ∨ k0r = 0) ∧ (WFm (am k0n k0r k0f k0g)) ∧ (0 < kc → k0r < k0n) ∧ (k1n ≤ 24) ∧ (k1r < k1n ∨ k1r = 0) ∧ (WFm (am k1n k1r k1f k1g)) ∧ (1 < kc → k1r < k1n) ∧ (k2n ≤ 24) ∧ (k2r < k2n ∨ k2r = 0) ∧ (WFm (am k2n k2r k2f k2g)) ∧ (2 < kc → k2r < k2n) ∧ (k3n ≤ 24) ∧ (k3r < k3n ∨ k3r = 0) ∧ (WFm (am k3n k3r k3f k3g)) ∧ (3 < kc → k3r < k3n) ∧ (kV = (pick4 (am k0n k0r k0f k0g) (am k1n k1r k1f k1g) (am k2n k2r k2f k2g) (am k3n k3r k3f k3g)))
def ok_rnds (E : EV) (ro : va_W) (rd : Nat)  (w : va_W) : Prop := ∃ (rt : Nat) (rf : Nat) (go0 : Int32) (sty0 : Int32) (knw0 : Int32) (frf : Nat → Int32) (rtn : Nat) (rtr : Nat) (rx : Nat) (ry : Nat) (rtf : Nat → Int32) (rtg : Nat → Int32), w = [(rd, .inr (7, [.ref rt, .ref rf, .int go0, .int sty0, .int knw0])), (rf, .inl (E.2.1 1, 4, .inl frf)), (rt, .inr (4, [.int (nI rtn), .int (nI rtr), .ref rx, .ref ry])), (rx, .inl (E.2.1 1, 24, .inl rtf)), (ry, .inl (E.2.1 1, 96, .inl rtg))] ∧ (rtn ≤ 24) ∧ (rtr < rtn ∨ rtr = 0)
def ok_plnr (E : EV) (ro : va_W) (pg : Nat)  (w : va_W) : Prop := ∃ (ps : Nat) (am0 : Value) (hd0 : Value) (plen : Int32) (prow : Int32) (fps : Nat → Option Nat) (st0 : Nat) (st1 : Nat) (st2 : Nat) (st0m : Nat) (st0p : Int32) (st0w : Int32) (st0c : Nat) (st0f : Nat) (st0q : Nat) (st0fc : Nat → Int32) (st0ff : Nat → Int32) (st0fq : Nat → Int32) (st0n : Nat) (st0r : Nat) (st0x : Nat) (st0y : Nat) (st0gx : Nat → Int32) (st0gy : Nat → Int32) (st1m : Nat) (st1p : Int32) (st1w : Int32) (st1c : Nat) (st1f : Nat) (st1q : Nat) (st1fc : Nat → Int32) (st1ff : Nat → Int32) (st1fq : Nat → Int32) (st1n : Nat) (st1r : Nat) (st1x : Nat) (st1y : Nat) (st1gx : Nat → Int32) (st1gy : Nat → Int32) (st2m : Nat) (st2p : Int32) (st2w : Int32) (st2c : Nat) (st2f : Nat) (st2q : Nat) (st2fc : Nat → Int32) (st2ff : Nat → Int32) (st2fq : Nat → Int32) (st2n : Nat) (st2r : Nat) (st2x : Nat) (st2y : Nat) (st2gx : Nat → Int32) (st2gy : Nat → Int32), w = [(pg, .inr (6, [.ref ps, am0, hd0, .int plen, .int prow])), (ps, .inl (E.2.1 5, 3, .inr (.inr (.inr (.inr fps))))), (st0, .inr (3, [.ref st0m, .int st0p, .int st0w, .ref st0c, .ref st0f, .ref st0q])), (st0c, .inl (E.2.1 1, 24, .inl st0fc)), (st0f, .inl (E.2.1 1, 24, .inl st0ff)), (st0q, .inl (E.2.1 1, 4, .inl st0fq)), (st0m, .inr (4, [.int (nI st0n), .int (nI st0r), .ref st0x, .ref st0y])), (st0x, .inl (E.2.1 1, 24, .inl st0gx)), (st0y, .inl (E.2.1 1, 96, .inl st0gy)), (st1, .inr (3, [.ref st1m, .int st1p, .int st1w, .ref st1c, .ref st1f, .ref st1q])), (st1c, .inl (E.2.1 1, 24, .inl st1fc)), (st1f, .inl (E.2.1 1, 24, .inl st1ff)), (st1q, .inl (E.2.1 1, 4, .inl st1fq)), (st1m, .inr (4, [.int (nI st1n), .int (nI st1r), .ref st1x, .ref st1y])), (st1x, .inl (E.2.1 1, 24, .inl st1gx)), (st1y, .inl (E.2.1 1, 96, .inl st1gy)), (st2, .inr (3, [.ref st2m, .int st2p, .int st2w, .ref st2c, .ref st2f, .ref st2q])), (st2c, .inl (E.2.1 1, 24, .inl st2fc)), (st2f, .inl (E.2.1 1, 24, .inl st2ff)), (st2q, .inl (E.2.1 1, 4, .inl st2fq)), (st2m, .inr (4, [.int (nI st2n), .int (nI st2r), .ref st2x, .ref st2y])), (st2x, .inl (E.2.1 1, 24, .inl st2gx)), (st2y, .inl (E.2.1 1, 96, .inl st2gy))] ∧ (fps 0 = some st0) ∧ (fps 1 = some st1) ∧ (fps 2 = some st2) ∧ (st0n ≤ 24) ∧ (st0r < st0n ∨ st0r = 0) ∧ (st1n ≤ 24) ∧ (st1r < st1n ∨ st1r = 0) ∧ (st2n ≤ 24) ∧ (st2r < st2n ∨ st2r = 0)
def ok_shts (E : EV) (ro : va_W) (ss : Nat) (st : Nat → Nat) (sn : Nat → Nat) (sl : Nat → Nat) (scx : Nat → Nat → Int32) (w : va_W) : Prop := ∃ (fss : Nat → Option Nat) (s0 : Nat) (s1 : Nat) (s2 : Nat) (s3 : Nat) (s0t : Nat) (s0n : Nat) (s0l : Nat) (s0c : Nat) (s0f : Nat → Int32) (s1t : Nat) (s1n : Nat) (s1l : Nat) (s1c : Nat) (s1f : Nat → Int32) (s2t : Nat) (s2n : Nat) (s2l : Nat) (s2c : Nat) (s2f : Nat → Int32) (s3t : Nat) (s3n : Nat) (s3l : Nat) (s3c : Nat) (s3f : Nat → Int32), w = [(ss, .inl (E.2.1 8, 4, .inr (.inr (.inr (.inr fss))))), (s0, .inr (9, [.int (nI s0t), .int (nI s0n), .int (nI s0l), .ref s0c])), (s0c, .inl (E.2.1 1, 48, .inl s0f)), (s1, .inr (9, [.int (nI s1t), .int (nI s1n), .int (nI s1l), .ref s1c])), (s1c, .inl (E.2.1 1, 48, .inl s1f)), (s2, .inr (9, [.int (nI s2t), .int (nI s2n), .int (nI s2l), .ref s2c])), (s2c, .inl (E.2.1 1, 48, .inl s2f)), (s3, .inr (9, [.int (nI s3t), .int (nI s3n), .int (nI s3l), .ref s3c])), (s3c, .inl (E.2.1 1, 48, .inl s3f))] ∧ (fss 0 = some s0) ∧ (fss 1 = some s1) ∧ (fss 2 = some s2) ∧ (fss 3 = some s3) ∧ (st = pick4 s0t s1t s2t s3t) ∧ (sn = pick4 s0n s1n s2n s3n) ∧ (sl = pick4 s0l s1l s2l s3l) ∧ (scx = pick4 s0f s1f s2f s3f) ∧ (s0t ≤ 1) ∧ (s0n ≤ 48) ∧ (s0l ≤ 2) ∧ (s1t ≤ 1) ∧ (s1n ≤ 48) ∧ (s1l ≤ 2) ∧ (s2t ≤ 1) ∧ (s2n ≤ 48) ∧ (s2l ≤ 2) ∧ (s3t ≤ 1) ∧ (s3n ≤ 48) ∧ (s3l ≤ 2)
def ok_ref (E : EV) (ro : va_W) (hm : Nat) (q_undos : Nat) (q_models : Nat) (PGv : Nat → AM) (f_afterOf : Nat → Int32) (f_actMany : Nat → Int32) (f_actOf : Nat → Int32) (f_whom : Nat → Int32) (f_hasIf : Nat → Int32) (f_becomes : Nat → Int32) (f_goneOf : Nat → Int32) (q_taped : Nat) (cr : Nat → Int) (q_people : Nat) (f_secrets : Nat → Int32) (f_lanes : Nat → Int32) (f_lengths : Nat → Int32) (f_cells : Nat → Int32) (f_tokens : Nat → Int32) (f_afters : Nat → Int32) (f_caseMany : Nat → Int32) (f_happen : Nat → Int32) (f_heard : Nat → Int32) (w : va_W) : Prop := ∃ (m_manys : Nat) (m_reals : Nat) (m_factsOf : Nat) (m_possible : Nat) (m_tape : Nat) (q_fault : Int32) (q_wrong : Int32) (q_wrongAt : Int32) (q_spot : Int32) (q_place : Int32) (q_token : Nat) (q_value : Nat) (m_ends : Nat) (m_letters : Nat) (m_actOf : Nat) (m_whom : Nat) (m_actMany : Nat) (m_tokens : Nat) (m_afters : Nat) (m_afterOf : Nat) (q_counted : Int32) (m_pile : Nat) (m_caseMany : Nat) (m_happen : Nat) (m_hasIf : Nat) (m_becomes : Nat) (m_goneOf : Nat) (m_heard : Nat) (m_pairs : Nat) (m_heaps : Nat) (q_rounds : Int32) (q_heapMany : Int32) (m_led : Nat) (m_newAt : Nat) (m_knowing : Nat) (m_firsts : Nat) (m_secrets : Nat) (m_tried : Nat) (m_lanes : Nat) (m_lengths : Nat) (m_cells : Nat) (f_manys : Nat → Int32) (f_reals : Nat → Int32) (f_factsOf : Nat → Int32) (f_possible : Nat → Int32) (f_tape : Nat → Int32) (f_ends : Nat → Int32) (f_letters : Nat → Int32) (f_pile : Nat → Int32) (f_pairs : Nat → Int32) (f_heaps : Nat → Int32) (f_led : Nat → Int64) (f_newAt : Nat → Int32) (f_knowing : Nat → Int32) (f_firsts : Nat → Int32) (f_tried : Nat → Int32), w = [(hm, .inr (12, [.ref m_manys, .ref m_reals, .ref m_factsOf, .ref m_possible, .int (nI q_undos), .int (nI q_models), .ref m_tape, .int (nI q_taped), .int q_fault, .int q_wrong, .int q_wrongAt, .int q_spot, .int q_place, .int (nI q_token), .int (nI q_value), .ref m_ends, .ref m_letters, .ref m_actOf, .ref m_whom, .ref m_actMany, .ref m_tokens, .ref m_afters, .ref m_afterOf, .int q_counted, .ref m_pile, .ref m_caseMany, .ref m_happen, .ref m_hasIf, .ref m_becomes, .ref m_goneOf, .ref m_heard, .ref m_pairs, .ref m_heaps, .int q_rounds, .int q_heapMany, .ref m_led, .ref m_newAt, .ref m_knowing, .ref m_firsts, .int (nI q_people), .ref m_secrets, .ref m_tried, .ref m_lanes, .ref m_lengths, .ref m_cells])), (m_manys, .inl (E.2.1 1, 18, .inl f_manys)), (m_reals, .inl (E.2.1 1, 18, .inl f_reals)), (m_factsOf, .inl (E.2.1 1, 432, .inl f_factsOf)), (m_possible, .inl (E.2.1 1, 1728, .inl f_possible)), (m_tape, .inl (E.2.1 1, 160, .inl f_tape)), (m_ends, .inl (E.2.1 1, 15, .inl f_ends)), (m_letters, .inl (E.2.1 1, 50, .inl f_letters)), (m_actOf, .inl (E.2.1 1, 800, .inl f_actOf)), (m_whom, .inl (E.2.1 1, 800, .inl f_whom)), (m_actMany, .inl (E.2.1 1, 25, .inl f_actMany)), (m_tokens, .inl (E.2.1 1, 9, .inl f_tokens)), (m_afters, .inl (E.2.1 1, 9, .inl f_afters)), (m_afterOf, .inl (E.2.1 1, 18, .inl f_afterOf)), (m_pile, .inl (E.2.1 1, 34, .inl f_pile)), (m_caseMany, .inl (E.2.1 1, 4, .inl f_caseMany)), (m_happen, .inl (E.2.1 1, 4, .inl f_happen)), (m_hasIf, .inl (E.2.1 3, 16, .inl f_hasIf)), (m_becomes, .inl (E.2.1 1, 16, .inl f_becomes)), (m_goneOf, .inl (E.2.1 1, 16, .inl f_goneOf)), (m_heard, .inl (E.2.1 1, 64, .inl f_heard)), (m_pairs, .inl (E.2.1 1, 576, .inl f_pairs)), (m_heaps, .inl (E.2.1 1, 2400, .inl f_heaps)), (m_led, .inl (E.2.1 2, 192, .inr (.inl f_led))), (m_newAt, .inl (E.2.1 1, 24, .inl f_newAt)), (m_knowing, .inl (E.2.1 1, 4, .inl f_knowing)), (m_firsts, .inl (E.2.1 1, 4, .inl f_firsts)), (m_secrets, .inl (E.2.1 1, 4, .inl f_secrets)), (m_tried, .inl (E.2.1 1, 4, .inl f_tried)), (m_lanes, .inl (E.2.1 1, 4, .inl f_lanes)), (m_lengths, .inl (E.2.1 1, 4, .inl f_lengths)), (m_cells, .inl (E.2.1 1, 192, .inl f_cells))] ∧ (NB 18 24 f_manys) ∧ (NB 18 23 f_reals) ∧ (NB 160 255 f_tape) ∧ (EN f_ends) ∧ (LTR f_letters) ∧ (NB 25 32 f_actMany) ∧ (NB 9 2 f_afters) ∧ (NB 18 3 f_afterOf) ∧ (NB 4 4 f_caseMany) ∧ (NB 4 3 f_happen) ∧ (NB 4 48 f_lengths) ∧ (PG f_manys f_reals) ∧ (HP f_caseMany f_happen) ∧ (SV f_actOf f_actMany) ∧ (WFP (pgs f_manys f_reals f_factsOf f_possible)) ∧ (q_undos ≤ 8) ∧ (q_models ≤ 4) ∧ (q_taped ≤ 160) ∧ (q_people ≤ 4) ∧ (q_token ≤ 2) ∧ (q_value ≤ 9) ∧ (cr = cz f_tape q_taped) ∧ (PGv = pgs f_manys f_reals f_factsOf f_possible)
end
section
theorem wc_X11_world : Cond.code yX11_world cX11_world 2 (some .int) ∈ TB := tbm (tq2 (List.mem_of_getElem? (i := 145) (rfl))) (by decide +kernel)
theorem wi_X11_world : Cond.instanceMethod yX11_world ∈ TB := tbm (tq2 (List.mem_of_getElem? (i := 143) (by decide +kernel))) (by decide +kernel)
theorem ws_X11_world : Cond.selects RX11 yX11_world yX11_world ∈ TB := tbm (tq2 (List.mem_of_getElem? (i := 144) (by decide +kernel))) (by decide +kernel)
theorem mi_X11_world : MI yX11_world cX11_world 2 (some .int) 1 := ⟨wc_X11_world, wn_X11, ⟨by decide +kernel, by decide +kernel, by decide +kernel⟩, wi_X11_world, ws_X11_world⟩
theorem wl_L_13 : Cond.methodLink RL 13 yX11_world ∈ TB := tbm (tq2 (List.mem_of_getElem? (i := 142) (by decide +kernel))) (by decide +kernel)
theorem dL_law_206 : decode cL_law 206 = .ok (.invokevirtual 13, 3) := dl_182 (by decide +kernel)
set_option maxRecDepth 100000 in
set_option maxHeartbeats 4000000 in
theorem lx_world {X : XT} {E : EV} {ro wT pre : va_W} {lv : List (Nat × Value)} {rest : List Value} {kC nC : Nat} {hx h qp qs qj ly qh kk rd pg ss : Nat} {ac np kc pe : Nat} {kn : Int32} {mN : AM} {pV : Nat → AM} {w_now : va_W} {w_past : va_W} {v0 : Int32}  (C : CX X room_1 cL_law 4 RL ret E) (hW : Nat.ble (rest.map fun v => v.category).sum 8 = true) (hT : wT = pre ++ ro) (hk : kC + 0 ≤ 600000 ∧ nC + 0 ≤ 7302250) (hac : ac ≤ 8) (hnp : np < 8) (hkc : kc ≤ 4) (hpe : pe ≤ 4) (H_now : ok_now E ro h mN w_now) (H_past : ok_past E ro qp pV w_past) (kont : ∀ (rr : Int32) (acZ : Nat) (npZ : Nat) (mNZ : AM) (pVZ : Nat → AM) (w_nowZ : va_W) (w_pastZ : va_W), acZ ≤ 8 → npZ < 8 → ok_now E ro h mNZ w_nowZ → ok_past E ro qp pVZ w_pastZ → (((asX mNZ acZ npZ pVZ), rr) = opWorld (asX mN ac np pV) v0) → WW X 4 E 209 lv (.int rr :: rest) ([(hx, .inr (11, [.ref h, .ref qp, .int (nI acZ), .int (nI npZ), .ref qs, .ref qj, .ref ly, .ref qh, .ref kk, .int (nI kc), .ref rd, .ref pg, .int (nI pe), .int kn, .ref ss]))] ++ (w_nowZ ++ (w_pastZ ++ wT))) kC nC) : WW X 4 E 206 lv (.int v0 :: .ref hx :: rest) ([(hx, .inr (11, [.ref h, .ref qp, .int (nI ac), .int (nI np), .ref qs, .ref qj, .ref ly, .ref qh, .ref kk, .int (nI kc), .ref rd, .ref pg, .int (nI pe), .int kn, .ref ss]))] ++ (w_now ++ (w_past ++ wT))) kC nC := by
  unfold ok_now at H_now
  refine ex6 H_now ?_
  clear H_now
  intro n r a b f gg H_now
  refine an4 H_now ?_
  clear H_now
  intro we_now hn hr hwfm H_now
  have hmN := H_now
  clear H_now
  subst we_now
  subst hmN
  unfold ok_past at H_past
  refine ex8 H_past ?_
  clear H_past
  intro fqp p0 p1 p2 p3 p4 p5 p6 H_past
  refine ex8 H_past ?_
  clear H_past
  intro p7 p0n p0r p0a p0b p0f p0g p1n H_past
  refine ex8 H_past ?_
  clear H_past
  intro p1r p1a p1b p1f p1g p2n p2r p2a H_past
  refine ex8 H_past ?_
  clear H_past
  intro p2b p2f p2g p3n p3r p3a p3b p3f H_past
  refine ex8 H_past ?_
  clear H_past
  intro p3g p4n p4r p4a p4b p4f p4g p5n H_past
  refine ex8 H_past ?_
  clear H_past
  intro p5r p5a p5b p5f p5g p6n p6r p6a H_past
  refine ex8 H_past ?_
  clear H_past
  intro p6b p6f p6g p7n p7r p7a p7b p7f H_past
  refine ex1 H_past ?_
  clear H_past
  intro p7g H_past
  refine an8 H_past ?_
  clear H_past
  intro we_past k_fqp_0 k_fqp_1 k_fqp_2 k_fqp_3 k_fqp_4 k_fqp_5 k_fqp_6 H_past
  refine an8 H_past ?_
  clear H_past
  intro k_fqp_7 hp0_n hp0_r hp0_w hp1_n hp1_r hp1_w hp2_n H_past
  refine an8 H_past ?_
  clear H_past
  intro hp2_r hp2_w hp3_n hp3_r hp3_w hp4_n hp4_r hp4_w H_past
  refine an8 H_past ?_
  clear H_past
  intro hp5_n hp5_r hp5_w hp6_n hp6_r hp6_w hp7_n hp7_r H_past
  refine an1 H_past ?_
  clear H_past
  intro hp7_w H_past
  have hpV := H_past
  clear H_past
  subst we_past
  subst hpV
  refine ww_eq (ws' := [(hx, .inr (11, [.ref h, .ref qp, .int (nI ac), .int (nI np), .ref qs, .ref qj, .ref ly, .ref qh, .ref kk, .int (nI kc), .ref rd, .ref pg, .int (nI pe), .int kn, .ref ss])), (h, .inr (4, [.int (nI n), .int (nI r), .ref a, .ref b])), (a, .inl (E.2.1 1, 24, .inl f)), (b, .inl (E.2.1 1, 96, .inl gg)), (qp, .inl (E.2.1 6, 8, .inr (.inr (.inr (.inr fqp))))), (p0, .inr (4, [.int (nI p0n), .int (nI p0r), .ref p0a, .ref p0b])), (p0a, .inl (E.2.1 1, 24, .inl p0f)), (p0b, .inl (E.2.1 1, 96, .inl p0g)), (p1, .inr (4, [.int (nI p1n), .int (nI p1r), .ref p1a, .ref p1b])), (p1a, .inl (E.2.1 1, 24, .inl p1f)), (p1b, .inl (E.2.1 1, 96, .inl p1g)), (p2, .inr (4, [.int (nI p2n), .int (nI p2r), .ref p2a, .ref p2b])), (p2a, .inl (E.2.1 1, 24, .inl p2f)), (p2b, .inl (E.2.1 1, 96, .inl p2g)), (p3, .inr (4, [.int (nI p3n), .int (nI p3r), .ref p3a, .ref p3b])), (p3a, .inl (E.2.1 1, 24, .inl p3f)), (p3b, .inl (E.2.1 1, 96, .inl p3g)), (p4, .inr (4, [.int (nI p4n), .int (nI p4r), .ref p4a, .ref p4b])), (p4a, .inl (E.2.1 1, 24, .inl p4f)), (p4b, .inl (E.2.1 1, 96, .inl p4g)), (p5, .inr (4, [.int (nI p5n), .int (nI p5r), .ref p5a, .ref p5b])), (p5a, .inl (E.2.1 1, 24, .inl p5f)), (p5b, .inl (E.2.1 1, 96, .inl p5g)), (p6, .inr (4, [.int (nI p6n), .int (nI p6r), .ref p6a, .ref p6b])), (p6a, .inl (E.2.1 1, 24, .inl p6f)), (p6b, .inl (E.2.1 1, 96, .inl p6g)), (p7, .inr (4, [.int (nI p7n), .int (nI p7r), .ref p7a, .ref p7b])), (p7a, .inl (E.2.1 1, 24, .inl p7f)), (p7b, .inl (E.2.1 1, 96, .inl p7g))] ++ wT) ?_ rfl rfl rfl
  refine ww_ciT (k' := kC) (n' := nC) (wr := []) C (run_V (As := [.int v0]) (rest := rest) C (x_world X.2.1 E ro hx v0 h qp ac np qs qj ly qh kk kc rd pg pe kn ss fqp p0 p1 p2 p3 p4 p5 p6 p7 p0n p0r p0a p0b p0f p0g p1n p1r p1a p1b p1f p1g p2n p2r p2a p2b p2f p2g p3n p3r p3a p3b p3f p3g p4n p4r p4a p4b p4f p4g p5n p5r p5a p5b p5f p5g p6n p6r p6a p6b p6f p6g p7n p7r p7a p7b p7f p7g n r a b f gg k_fqp_0 k_fqp_1 k_fqp_2 k_fqp_3 k_fqp_4 k_fqp_5 k_fqp_6 k_fqp_7 (by first | assumption | omega) (by first | assumption | omega) (by first | assumption | omega) (by first | assumption | omega) (by first | assumption | omega) (by first | assumption | omega) (by first | assumption | omega) (by first | assumption | omega) (by first | assumption | omega) (by first | assumption | omega) (by first | assumption | omega) (by first | assumption | omega) (by first | assumption | omega) (by first | assumption | omega) (by first | assumption | omega) (by first | assumption | omega) (by first | assumption | omega) (by first | assumption | omega) (by first | assumption | omega) (by first | assumption | omega) (by first | assumption | omega) (by first | assumption | omega) (by first | assumption | omega) (by first | assumption | omega) (by first | assumption | omega) (by first | assumption | omega) (by first | assumption | omega) (by first | assumption | omega) (by first | assumption | omega) (by first | assumption | omega) (by first | assumption | omega)) mi_X11_world wl_L_13 rfl 0 11 rfl rfl rfl rfl hW dL_law_206) (roT (pre := pre) [0, 4, 5, 6, 7, 8, 9, 10, 11, 12, 13, 14, 15, 16, 17, 18, 19, 20, 21, 22, 23, 24, 25, 26, 27, 28, 1, 2, 3] rfl hT) [0, 4, 5, 6, 7, 8, 9, 10, 11, 12, 13, 14, 15, 16, 17, 18, 19, 20, 21, 22, 23, 24, 25, 26, 27, 28, 1, 2, 3] [] (gqk (by eq_refl)) rfl (plk (by decide +kernel)) ⟨by omega, by omega, hk.1, hk.2⟩ (fun rr u hw => ?_)
  refine ex8 hw ?_
  clear hw
  intro acz_1 npz_2 p0nz_3 p0rz__4 p0fz_5 p0gz_6 p1nz_7 p1rz__8 hw
  refine ex8 hw ?_
  clear hw
  intro p1fz_9 p1gz_10 p2nz_11 p2rz__12 p2fz_13 p2gz_14 p3nz_15 p3rz__16 hw
  refine ex8 hw ?_
  clear hw
  intro p3fz_17 p3gz_18 p4nz_19 p4rz__20 p4fz_21 p4gz_22 p5nz_23 p5rz__24 hw
  refine ex8 hw ?_
  clear hw
  intro p5fz_25 p5gz_26 p6nz_27 p6rz__28 p6fz_29 p6gz_30 p7nz_31 p7rz__32 hw
  refine ex6 hw ?_
  clear hw
  intro p7fz_33 p7gz_34 nz_35 rz__36 fz_37 ggz_38 hw
  refine an8 hw ?_
  clear hw
  intro he_u h_39 h_40 h_41 h_42 h_43 h_44 h_45 hw
  refine an8 hw ?_
  clear hw
  intro h_46 h_47 h_48 h_49 h_50 h_51 h_52 h_53 hw
  refine an8 hw ?_
  clear hw
  intro h_54 h_55 h_56 h_57 h_58 h_59 h_60 h_61 hw
  refine an6 hw ?_
  clear hw
  intro h_62 h_63 h_64 h_65 h_66 h_67 hw
  have h_68 := hw
  clear hw
  subst he_u
  refine ww_subT (w1 := [(hx, .inr (11, [.ref h, .ref qp, .int (nI acz_1), .int (nI npz_2), .ref qs, .ref qj, .ref ly, .ref qh, .ref kk, .int (nI kc), .ref rd, .ref pg, .int (nI pe), .int kn, .ref ss])), (h, .inr (4, [.int (nI nz_35), .int (nI rz__36), .ref a, .ref b])), (a, .inl (E.2.1 1, 24, .inl fz_37)), (b, .inl (E.2.1 1, 96, .inl ggz_38)), (qp, .inl (E.2.1 6, 8, .inr (.inr (.inr (.inr fqp))))), (p0, .inr (4, [.int (nI p0nz_3), .int (nI p0rz__4), .ref p0a, .ref p0b])), (p0a, .inl (E.2.1 1, 24, .inl p0fz_5)), (p0b, .inl (E.2.1 1, 96, .inl p0gz_6)), (p1, .inr (4, [.int (nI p1nz_7), .int (nI p1rz__8), .ref p1a, .ref p1b])), (p1a, .inl (E.2.1 1, 24, .inl p1fz_9)), (p1b, .inl (E.2.1 1, 96, .inl p1gz_10)), (p2, .inr (4, [.int (nI p2nz_11), .int (nI p2rz__12), .ref p2a, .ref p2b])), (p2a, .inl (E.2.1 1, 24, .inl p2fz_13)), (p2b, .inl (E.2.1 1, 96, .inl p2gz_14)), (p3, .inr (4, [.int (nI p3nz_15), .int (nI p3rz__16), .ref p3a, .ref p3b])), (p3a, .inl (E.2.1 1, 24, .inl p3fz_17)), (p3b, .inl (E.2.1 1, 96, .inl p3gz_18)), (p4, .inr (4, [.int (nI p4nz_19), .int (nI p4rz__20), .ref p4a, .ref p4b])), (p4a, .inl (E.2.1 1, 24, .inl p4fz_21)), (p4b, .inl (E.2.1 1, 96, .inl p4gz_22)), (p5, .inr (4, [.int (nI p5nz_23), .int (nI p5rz__24), .ref p5a, .ref p5b])), (p5a, .inl (E.2.1 1, 24, .inl p5fz_25)), (p5b, .inl (E.2.1 1, 96, .inl p5gz_26)), (p6, .inr (4, [.int (nI p6nz_27), .int (nI p6rz__28), .ref p6a, .ref p6b])), (p6a, .inl (E.2.1 1, 24, .inl p6fz_29)), (p6b, .inl (E.2.1 1, 96, .inl p6gz_30)), (p7, .inr (4, [.int (nI p7nz_31), .int (nI p7rz__32), .ref p7a, .ref p7b])), (p7a, .inl (E.2.1 1, 24, .inl p7fz_33)), (p7b, .inl (E.2.1 1, 96, .inl p7gz_34))]) [0, 26, 27, 28, 1, 2, 3, 4, 5, 6, 7, 8, 9, 10, 11, 12, 13, 14, 15, 16, 17, 18, 19, 20, 21, 22, 23, 24, 25] (ndk (by decide +kernel)) (gqk (by eq_refl)) ?_
  exact kont rr acz_1 npz_2 (am nz_35 rz__36 fz_37 ggz_38) (pick8 (am p0nz_3 p0rz__4 p0fz_5 p0gz_6) (am p1nz_7 p1rz__8 p1fz_9 p1gz_10) (am p2nz_11 p2rz__12 p2fz_13 p2gz_14) (am p3nz_15 p3rz__16 p3fz_17 p3gz_18) (am p4nz_19 p4rz__20 p4fz_21 p4gz_22) (am p5nz_23 p5rz__24 p5fz_25 p5gz_26) (am p6nz_27 p6rz__28 p6fz_29 p6gz_30) (am p7nz_31 p7rz__32 p7fz_33 p7gz_34)) [(h, .inr (4, [.int (nI nz_35), .int (nI rz__36), .ref a, .ref b])), (a, .inl (E.2.1 1, 24, .inl fz_37)), (b, .inl (E.2.1 1, 96, .inl ggz_38))] [(qp, .inl (E.2.1 6, 8, .inr (.inr (.inr (.inr fqp))))), (p0, .inr (4, [.int (nI p0nz_3), .int (nI p0rz__4), .ref p0a, .ref p0b])), (p0a, .inl (E.2.1 1, 24, .inl p0fz_5)), (p0b, .inl (E.2.1 1, 96, .inl p0gz_6)), (p1, .inr (4, [.int (nI p1nz_7), .int (nI p1rz__8), .ref p1a, .ref p1b])), (p1a, .inl (E.2.1 1, 24, .inl p1fz_9)), (p1b, .inl (E.2.1 1, 96, .inl p1gz_10)), (p2, .inr (4, [.int (nI p2nz_11), .int (nI p2rz__12), .ref p2a, .ref p2b])), (p2a, .inl (E.2.1 1, 24, .inl p2fz_13)), (p2b, .inl (E.2.1 1, 96, .inl p2gz_14)), (p3, .inr (4, [.int (nI p3nz_15), .int (nI p3rz__16), .ref p3a, .ref p3b])), (p3a, .inl (E.2.1 1, 24, .inl p3fz_17)), (p3b, .inl (E.2.1 1, 96, .inl p3gz_18)), (p4, .inr (4, [.int (nI p4nz_19), .int (nI p4rz__20), .ref p4a, .ref p4b])), (p4a, .inl (E.2.1 1, 24, .inl p4fz_21)), (p4b, .inl (E.2.1 1, 96, .inl p4gz_22)), (p5, .inr (4, [.int (nI p5nz_23), .int (nI p5rz__24), .ref p5a, .ref p5b])), (p5a, .inl (E.2.1 1, 24, .inl p5fz_25)), (p5b, .inl (E.2.1 1, 96, .inl p5gz_26)), (p6, .inr (4, [.int (nI p6nz_27), .int (nI p6rz__28), .ref p6a, .ref p6b])), (p6a, .inl (E.2.1 1, 24, .inl p6fz_29)), (p6b, .inl (E.2.1 1, 96, .inl p6gz_30)), (p7, .inr (4, [.int (nI p7nz_31), .int (nI p7rz__32), .ref p7a, .ref p7b])), (p7a, .inl (E.2.1 1, 24, .inl p7fz_33)), (p7b, .inl (E.2.1 1, 96, .inl p7gz_34))] (by first | assumption | omega) (by first | assumption | omega) ⟨nz_35, rz__36, a, b, fz_37, ggz_38, rfl, (by first | assumption | omega), (by first | assumption | omega), (by first | assumption | omega), rfl⟩ ⟨fqp, p0, p1, p2, p3, p4, p5, p6, p7, p0nz_3, p0rz__4, p0a, p0b, p0fz_5, p0gz_6, p1nz_7, p1rz__8, p1a, p1b, p1fz_9, p1gz_10, p2nz_11, p2rz__12, p2a, p2b, p2fz_13, p2gz_14, p3nz_15, p3rz__16, p3a, p3b, p3fz_17, p3gz_18, p4nz_19, p4rz__20, p4a, p4b, p4fz_21, p4gz_22, p5nz_23, p5rz__24, p5a, p5b, p5fz_25, p5gz_26, p6nz_27, p6rz__28, p6a, p6b, p6fz_29, p6gz_30, p7nz_31, p7rz__32, p7a, p7b, p7fz_33, p7gz_34, rfl, k_fqp_0, k_fqp_1, k_fqp_2, k_fqp_3, k_fqp_4, k_fqp_5, k_fqp_6, k_fqp_7, (by first | assumption | omega), (by first | assumption | omega), (by first | assumption | omega), (by first | assumption | omega), (by first | assumption | omega), (by first | assumption | omega), (by first | assumption | omega), (by first | assumption | omega), (by first | assumption | omega), (by first | assumption | omega), (by first | assumption | omega), (by first | assumption | omega), (by first | assumption | omega), (by first | assumption | omega), (by first | assumption | omega), (by first | assumption | omega), (by first | assumption | omega), (by first | assumption | omega), (by first | assumption | omega), (by first | assumption | omega), (by first | assumption | omega), (by first | assumption | omega), (by first | assumption | omega), (by first | assumption | omega), rfl⟩ (h_68)
theorem wc_X11_sees : Cond.code yX11_sees cX11_sees 7 (some .int) ∈ TB := tbm (tq2 (List.mem_of_getElem? (i := 170) (rfl))) (by decide +kernel)
theorem wi_X11_sees : Cond.instanceMethod yX11_sees ∈ TB := tbm (tq2 (List.mem_of_getElem? (i := 168) (by decide +kernel))) (by decide +kernel)
theorem ws_X11_sees : Cond.selects RX11 yX11_sees yX11_sees ∈ TB := tbm (tq2 (List.mem_of_getElem? (i := 169) (by decide +kernel))) (by decide +kernel)
theorem mi_X11_sees : MI yX11_sees cX11_sees 7 (some .int) 5 := ⟨wc_X11_sees, wn_X11, ⟨by decide +kernel, by decide +kernel, by decide +kernel⟩, wi_X11_sees, ws_X11_sees⟩
theorem wl_L_18 : Cond.methodLink RL 18 yX11_sees ∈ TB := tbm (tq2 (List.mem_of_getElem? (i := 167) (by decide +kernel))) (by decide +kernel)
theorem dL_law_265 : decode cL_law 265 = .ok (.invokevirtual 18, 3) := dl_182 (by decide +kernel)
set_option maxRecDepth 100000 in
set_option maxHeartbeats 4000000 in
theorem lx_sees {X : XT} {E : EV} {ro wT pre : va_W} {lv : List (Nat × Value)} {rest : List Value} {kC nC : Nat} {hx h qp qs qj ly qh kk rd pg ss : Nat} {ac np kc pe : Nat} {kn : Int32} {mN : AM} {pV : Nat → AM} {w_now : va_W} {w_past : va_W} {v0 : Int32} {v1 : Int32} {v2 : Int32} {v3 : Int32} {v4 : Int32}  (C : CX X room_1 cL_law 4 RL ret E) (hW : Nat.ble (rest.map fun v => v.category).sum 8 = true) (hT : wT = pre ++ ro) (hk : kC + 0 ≤ 600000 ∧ nC + 0 ≤ 7302250) (hac : ac ≤ 8) (hnp : np < 8) (hkc : kc ≤ 4) (hpe : pe ≤ 4) (H_now : ok_now E ro h mN w_now) (H_past : ok_past E ro qp pV w_past) (kont : ∀ (rr : Int32) (acZ : Nat) (npZ : Nat) (mNZ : AM) (pVZ : Nat → AM) (w_nowZ : va_W) (w_pastZ : va_W), acZ ≤ 8 → npZ < 8 → ok_now E ro h mNZ w_nowZ → ok_past E ro qp pVZ w_pastZ → (((asX mNZ acZ npZ pVZ), rr) = opSees (asX mN ac np pV) v0 v1 v2 v3 v4) → WW X 4 E 268 lv (.int rr :: rest) ([(hx, .inr (11, [.ref h, .ref qp, .int (nI acZ), .int (nI npZ), .ref qs, .ref qj, .ref ly, .ref qh, .ref kk, .int (nI kc), .ref rd, .ref pg, .int (nI pe), .int kn, .ref ss]))] ++ (w_nowZ ++ (w_pastZ ++ wT))) kC nC) : WW X 4 E 265 lv (.int v4 :: .int v3 :: .int v2 :: .int v1 :: .int v0 :: .ref hx :: rest) ([(hx, .inr (11, [.ref h, .ref qp, .int (nI ac), .int (nI np), .ref qs, .ref qj, .ref ly, .ref qh, .ref kk, .int (nI kc), .ref rd, .ref pg, .int (nI pe), .int kn, .ref ss]))] ++ (w_now ++ (w_past ++ wT))) kC nC := by
  unfold ok_now at H_now
  refine ex6 H_now ?_
  clear H_now
  intro n r a b f gg H_now
  refine an4 H_now ?_
  clear H_now
  intro we_now hn hr hwfm H_now
  have hmN := H_now
  clear H_now
  subst we_now
  subst hmN
  unfold ok_past at H_past
  refine ex8 H_past ?_
  clear H_past
  intro fqp p0 p1 p2 p3 p4 p5 p6 H_past
  refine ex8 H_past ?_
  clear H_past
  intro p7 p0n p0r p0a p0b p0f p0g p1n H_past
  refine ex8 H_past ?_
  clear H_past
  intro p1r p1a p1b p1f p1g p2n p2r p2a H_past
  refine ex8 H_past ?_
  clear H_past
  intro p2b p2f p2g p3n p3r p3a p3b p3f H_past
  refine ex8 H_past ?_
  clear H_past
  intro p3g p4n p4r p4a p4b p4f p4g p5n H_past
  refine ex8 H_past ?_
  clear H_past
  intro p5r p5a p5b p5f p5g p6n p6r p6a H_past
  refine ex8 H_past ?_
  clear H_past
  intro p6b p6f p6g p7n p7r p7a p7b p7f H_past
  refine ex1 H_past ?_
  clear H_past
  intro p7g H_past
  refine an8 H_past ?_
  clear H_past
  intro we_past k_fqp_0 k_fqp_1 k_fqp_2 k_fqp_3 k_fqp_4 k_fqp_5 k_fqp_6 H_past
  refine an8 H_past ?_
  clear H_past
  intro k_fqp_7 hp0_n hp0_r hp0_w hp1_n hp1_r hp1_w hp2_n H_past
  refine an8 H_past ?_
  clear H_past
  intro hp2_r hp2_w hp3_n hp3_r hp3_w hp4_n hp4_r hp4_w H_past
  refine an8 H_past ?_
  clear H_past
  intro hp5_n hp5_r hp5_w hp6_n hp6_r hp6_w hp7_n hp7_r H_past
  refine an1 H_past ?_
  clear H_past
  intro hp7_w H_past
  have hpV := H_past
  clear H_past
  subst we_past
  subst hpV
  refine ww_eq (ws' := [(hx, .inr (11, [.ref h, .ref qp, .int (nI ac), .int (nI np), .ref qs, .ref qj, .ref ly, .ref qh, .ref kk, .int (nI kc), .ref rd, .ref pg, .int (nI pe), .int kn, .ref ss])), (h, .inr (4, [.int (nI n), .int (nI r), .ref a, .ref b])), (a, .inl (E.2.1 1, 24, .inl f)), (b, .inl (E.2.1 1, 96, .inl gg)), (qp, .inl (E.2.1 6, 8, .inr (.inr (.inr (.inr fqp))))), (p0, .inr (4, [.int (nI p0n), .int (nI p0r), .ref p0a, .ref p0b])), (p0a, .inl (E.2.1 1, 24, .inl p0f)), (p0b, .inl (E.2.1 1, 96, .inl p0g)), (p1, .inr (4, [.int (nI p1n), .int (nI p1r), .ref p1a, .ref p1b])), (p1a, .inl (E.2.1 1, 24, .inl p1f)), (p1b, .inl (E.2.1 1, 96, .inl p1g)), (p2, .inr (4, [.int (nI p2n), .int (nI p2r), .ref p2a, .ref p2b])), (p2a, .inl (E.2.1 1, 24, .inl p2f)), (p2b, .inl (E.2.1 1, 96, .inl p2g)), (p3, .inr (4, [.int (nI p3n), .int (nI p3r), .ref p3a, .ref p3b])), (p3a, .inl (E.2.1 1, 24, .inl p3f)), (p3b, .inl (E.2.1 1, 96, .inl p3g)), (p4, .inr (4, [.int (nI p4n), .int (nI p4r), .ref p4a, .ref p4b])), (p4a, .inl (E.2.1 1, 24, .inl p4f)), (p4b, .inl (E.2.1 1, 96, .inl p4g)), (p5, .inr (4, [.int (nI p5n), .int (nI p5r), .ref p5a, .ref p5b])), (p5a, .inl (E.2.1 1, 24, .inl p5f)), (p5b, .inl (E.2.1 1, 96, .inl p5g)), (p6, .inr (4, [.int (nI p6n), .int (nI p6r), .ref p6a, .ref p6b])), (p6a, .inl (E.2.1 1, 24, .inl p6f)), (p6b, .inl (E.2.1 1, 96, .inl p6g)), (p7, .inr (4, [.int (nI p7n), .int (nI p7r), .ref p7a, .ref p7b])), (p7a, .inl (E.2.1 1, 24, .inl p7f)), (p7b, .inl (E.2.1 1, 96, .inl p7g))] ++ wT) ?_ rfl rfl rfl
  refine ww_ciT (k' := kC) (n' := nC) (wr := []) C (run_V (As := [.int v0, .int v1, .int v2, .int v3, .int v4]) (rest := rest) C (x_sees X.2.1 E ro hx v0 v1 v2 v3 v4 h qp ac np qs qj ly qh kk kc rd pg pe kn ss fqp p0 p1 p2 p3 p4 p5 p6 p7 p0n p0r p0a p0b p0f p0g p1n p1r p1a p1b p1f p1g p2n p2r p2a p2b p2f p2g p3n p3r p3a p3b p3f p3g p4n p4r p4a p4b p4f p4g p5n p5r p5a p5b p5f p5g p6n p6r p6a p6b p6f p6g p7n p7r p7a p7b p7f p7g n r a b f gg k_fqp_0 k_fqp_1 k_fqp_2 k_fqp_3 k_fqp_4 k_fqp_5 k_fqp_6 k_fqp_7 (by first | assumption | omega) (by first | assumption | omega) (by first | assumption | omega) (by first | assumption | omega) (by first | assumption | omega) (by first | assumption | omega) (by first | assumption | omega) (by first | assumption | omega) (by first | assumption | omega) (by first | assumption | omega) (by first | assumption | omega) (by first | assumption | omega) (by first | assumption | omega) (by first | assumption | omega) (by first | assumption | omega) (by first | assumption | omega) (by first | assumption | omega) (by first | assumption | omega) (by first | assumption | omega) (by first | assumption | omega) (by first | assumption | omega) (by first | assumption | omega) (by first | assumption | omega) (by first | assumption | omega) (by first | assumption | omega) (by first | assumption | omega) (by first | assumption | omega) (by first | assumption | omega) (by first | assumption | omega) (by first | assumption | omega) (by first | assumption | omega)) mi_X11_sees wl_L_18 rfl 0 11 rfl rfl rfl rfl hW dL_law_265) (roT (pre := pre) [0, 4, 5, 6, 7, 8, 9, 10, 11, 12, 13, 14, 15, 16, 17, 18, 19, 20, 21, 22, 23, 24, 25, 26, 27, 28, 1, 2, 3] rfl hT) [0, 4, 5, 6, 7, 8, 9, 10, 11, 12, 13, 14, 15, 16, 17, 18, 19, 20, 21, 22, 23, 24, 25, 26, 27, 28, 1, 2, 3] [] (gqk (by eq_refl)) rfl (plk (by decide +kernel)) ⟨by omega, by omega, hk.1, hk.2⟩ (fun rr u hw => ?_)
  refine ex8 hw ?_
  clear hw
  intro acz_1 npz_2 p0nz_3 p0rz__4 p0fz_5 p0gz_6 p1nz_7 p1rz__8 hw
  refine ex8 hw ?_
  clear hw
  intro p1fz_9 p1gz_10 p2nz_11 p2rz__12 p2fz_13 p2gz_14 p3nz_15 p3rz__16 hw
  refine ex8 hw ?_
  clear hw
  intro p3fz_17 p3gz_18 p4nz_19 p4rz__20 p4fz_21 p4gz_22 p5nz_23 p5rz__24 hw
  refine ex8 hw ?_
  clear hw
  intro p5fz_25 p5gz_26 p6nz_27 p6rz__28 p6fz_29 p6gz_30 p7nz_31 p7rz__32 hw
  refine ex6 hw ?_
  clear hw
  intro p7fz_33 p7gz_34 nz_35 rz__36 fz_37 ggz_38 hw
  refine an8 hw ?_
  clear hw
  intro he_u h_39 h_40 h_41 h_42 h_43 h_44 h_45 hw
  refine an8 hw ?_
  clear hw
  intro h_46 h_47 h_48 h_49 h_50 h_51 h_52 h_53 hw
  refine an8 hw ?_
  clear hw
  intro h_54 h_55 h_56 h_57 h_58 h_59 h_60 h_61 hw
  refine an6 hw ?_
  clear hw
  intro h_62 h_63 h_64 h_65 h_66 h_67 hw
  have h_68 := hw
  clear hw
  subst he_u
  refine ww_subT (w1 := [(hx, .inr (11, [.ref h, .ref qp, .int (nI acz_1), .int (nI npz_2), .ref qs, .ref qj, .ref ly, .ref qh, .ref kk, .int (nI kc), .ref rd, .ref pg, .int (nI pe), .int kn, .ref ss])), (h, .inr (4, [.int (nI nz_35), .int (nI rz__36), .ref a, .ref b])), (a, .inl (E.2.1 1, 24, .inl fz_37)), (b, .inl (E.2.1 1, 96, .inl ggz_38)), (qp, .inl (E.2.1 6, 8, .inr (.inr (.inr (.inr fqp))))), (p0, .inr (4, [.int (nI p0nz_3), .int (nI p0rz__4), .ref p0a, .ref p0b])), (p0a, .inl (E.2.1 1, 24, .inl p0fz_5)), (p0b, .inl (E.2.1 1, 96, .inl p0gz_6)), (p1, .inr (4, [.int (nI p1nz_7), .int (nI p1rz__8), .ref p1a, .ref p1b])), (p1a, .inl (E.2.1 1, 24, .inl p1fz_9)), (p1b, .inl (E.2.1 1, 96, .inl p1gz_10)), (p2, .inr (4, [.int (nI p2nz_11), .int (nI p2rz__12), .ref p2a, .ref p2b])), (p2a, .inl (E.2.1 1, 24, .inl p2fz_13)), (p2b, .inl (E.2.1 1, 96, .inl p2gz_14)), (p3, .inr (4, [.int (nI p3nz_15), .int (nI p3rz__16), .ref p3a, .ref p3b])), (p3a, .inl (E.2.1 1, 24, .inl p3fz_17)), (p3b, .inl (E.2.1 1, 96, .inl p3gz_18)), (p4, .inr (4, [.int (nI p4nz_19), .int (nI p4rz__20), .ref p4a, .ref p4b])), (p4a, .inl (E.2.1 1, 24, .inl p4fz_21)), (p4b, .inl (E.2.1 1, 96, .inl p4gz_22)), (p5, .inr (4, [.int (nI p5nz_23), .int (nI p5rz__24), .ref p5a, .ref p5b])), (p5a, .inl (E.2.1 1, 24, .inl p5fz_25)), (p5b, .inl (E.2.1 1, 96, .inl p5gz_26)), (p6, .inr (4, [.int (nI p6nz_27), .int (nI p6rz__28), .ref p6a, .ref p6b])), (p6a, .inl (E.2.1 1, 24, .inl p6fz_29)), (p6b, .inl (E.2.1 1, 96, .inl p6gz_30)), (p7, .inr (4, [.int (nI p7nz_31), .int (nI p7rz__32), .ref p7a, .ref p7b])), (p7a, .inl (E.2.1 1, 24, .inl p7fz_33)), (p7b, .inl (E.2.1 1, 96, .inl p7gz_34))]) [0, 26, 27, 28, 1, 2, 3, 4, 5, 6, 7, 8, 9, 10, 11, 12, 13, 14, 15, 16, 17, 18, 19, 20, 21, 22, 23, 24, 25] (ndk (by decide +kernel)) (gqk (by eq_refl)) ?_
  exact kont rr acz_1 npz_2 (am nz_35 rz__36 fz_37 ggz_38) (pick8 (am p0nz_3 p0rz__4 p0fz_5 p0gz_6) (am p1nz_7 p1rz__8 p1fz_9 p1gz_10) (am p2nz_11 p2rz__12 p2fz_13 p2gz_14) (am p3nz_15 p3rz__16 p3fz_17 p3gz_18) (am p4nz_19 p4rz__20 p4fz_21 p4gz_22) (am p5nz_23 p5rz__24 p5fz_25 p5gz_26) (am p6nz_27 p6rz__28 p6fz_29 p6gz_30) (am p7nz_31 p7rz__32 p7fz_33 p7gz_34)) [(h, .inr (4, [.int (nI nz_35), .int (nI rz__36), .ref a, .ref b])), (a, .inl (E.2.1 1, 24, .inl fz_37)), (b, .inl (E.2.1 1, 96, .inl ggz_38))] [(qp, .inl (E.2.1 6, 8, .inr (.inr (.inr (.inr fqp))))), (p0, .inr (4, [.int (nI p0nz_3), .int (nI p0rz__4), .ref p0a, .ref p0b])), (p0a, .inl (E.2.1 1, 24, .inl p0fz_5)), (p0b, .inl (E.2.1 1, 96, .inl p0gz_6)), (p1, .inr (4, [.int (nI p1nz_7), .int (nI p1rz__8), .ref p1a, .ref p1b])), (p1a, .inl (E.2.1 1, 24, .inl p1fz_9)), (p1b, .inl (E.2.1 1, 96, .inl p1gz_10)), (p2, .inr (4, [.int (nI p2nz_11), .int (nI p2rz__12), .ref p2a, .ref p2b])), (p2a, .inl (E.2.1 1, 24, .inl p2fz_13)), (p2b, .inl (E.2.1 1, 96, .inl p2gz_14)), (p3, .inr (4, [.int (nI p3nz_15), .int (nI p3rz__16), .ref p3a, .ref p3b])), (p3a, .inl (E.2.1 1, 24, .inl p3fz_17)), (p3b, .inl (E.2.1 1, 96, .inl p3gz_18)), (p4, .inr (4, [.int (nI p4nz_19), .int (nI p4rz__20), .ref p4a, .ref p4b])), (p4a, .inl (E.2.1 1, 24, .inl p4fz_21)), (p4b, .inl (E.2.1 1, 96, .inl p4gz_22)), (p5, .inr (4, [.int (nI p5nz_23), .int (nI p5rz__24), .ref p5a, .ref p5b])), (p5a, .inl (E.2.1 1, 24, .inl p5fz_25)), (p5b, .inl (E.2.1 1, 96, .inl p5gz_26)), (p6, .inr (4, [.int (nI p6nz_27), .int (nI p6rz__28), .ref p6a, .ref p6b])), (p6a, .inl (E.2.1 1, 24, .inl p6fz_29)), (p6b, .inl (E.2.1 1, 96, .inl p6gz_30)), (p7, .inr (4, [.int (nI p7nz_31), .int (nI p7rz__32), .ref p7a, .ref p7b])), (p7a, .inl (E.2.1 1, 24, .inl p7fz_33)), (p7b, .inl (E.2.1 1, 96, .inl p7gz_34))] (by first | assumption | omega) (by first | assumption | omega) ⟨nz_35, rz__36, a, b, fz_37, ggz_38, rfl, (by first | assumption | omega), (by first | assumption | omega), (by first | assumption | omega), rfl⟩ ⟨fqp, p0, p1, p2, p3, p4, p5, p6, p7, p0nz_3, p0rz__4, p0a, p0b, p0fz_5, p0gz_6, p1nz_7, p1rz__8, p1a, p1b, p1fz_9, p1gz_10, p2nz_11, p2rz__12, p2a, p2b, p2fz_13, p2gz_14, p3nz_15, p3rz__16, p3a, p3b, p3fz_17, p3gz_18, p4nz_19, p4rz__20, p4a, p4b, p4fz_21, p4gz_22, p5nz_23, p5rz__24, p5a, p5b, p5fz_25, p5gz_26, p6nz_27, p6rz__28, p6a, p6b, p6fz_29, p6gz_30, p7nz_31, p7rz__32, p7a, p7b, p7fz_33, p7gz_34, rfl, k_fqp_0, k_fqp_1, k_fqp_2, k_fqp_3, k_fqp_4, k_fqp_5, k_fqp_6, k_fqp_7, (by first | assumption | omega), (by first | assumption | omega), (by first | assumption | omega), (by first | assumption | omega), (by first | assumption | omega), (by first | assumption | omega), (by first | assumption | omega), (by first | assumption | omega), (by first | assumption | omega), (by first | assumption | omega), (by first | assumption | omega), (by first | assumption | omega), (by first | assumption | omega), (by first | assumption | omega), (by first | assumption | omega), (by first | assumption | omega), (by first | assumption | omega), (by first | assumption | omega), (by first | assumption | omega), (by first | assumption | omega), (by first | assumption | omega), (by first | assumption | omega), (by first | assumption | omega), (by first | assumption | omega), rfl⟩ (h_68)
theorem wc_X11_blind : Cond.code yX11_blind cX11_blind 2 (some .int) ∈ TB := tbm (tq2 (List.mem_of_getElem? (i := 187) (rfl))) (by decide +kernel)
theorem wi_X11_blind : Cond.instanceMethod yX11_blind ∈ TB := tbm (tq2 (List.mem_of_getElem? (i := 185) (by decide +kernel))) (by decide +kernel)
theorem ws_X11_blind : Cond.selects RX11 yX11_blind yX11_blind ∈ TB := tbm (tq2 (List.mem_of_getElem? (i := 186) (by decide +kernel))) (by decide +kernel)
theorem mi_X11_blind : MI yX11_blind cX11_blind 2 (some .int) 1 := ⟨wc_X11_blind, wn_X11, ⟨by decide +kernel, by decide +kernel, by decide +kernel⟩, wi_X11_blind, ws_X11_blind⟩
theorem wl_L_23 : Cond.methodLink RL 23 yX11_blind ∈ TB := tbm (tq2 (List.mem_of_getElem? (i := 184) (by decide +kernel))) (by decide +kernel)
theorem dL_law_324 : decode cL_law 324 = .ok (.invokevirtual 23, 3) := dl_182 (by decide +kernel)
set_option maxRecDepth 100000 in
set_option maxHeartbeats 4000000 in
theorem lx_blind {X : XT} {E : EV} {ro wT pre : va_W} {lv : List (Nat × Value)} {rest : List Value} {kC nC : Nat} {hx h qp qs qj ly qh kk rd pg ss : Nat} {ac np kc pe : Nat} {kn : Int32} {mN : AM} {pV : Nat → AM} {w_now : va_W} {w_past : va_W} {v0 : Int32}  (C : CX X room_1 cL_law 4 RL ret E) (hW : Nat.ble (rest.map fun v => v.category).sum 8 = true) (hT : wT = pre ++ ro) (hk : kC + 0 ≤ 600000 ∧ nC + 0 ≤ 7302250) (hac : ac ≤ 8) (hnp : np < 8) (hkc : kc ≤ 4) (hpe : pe ≤ 4) (H_now : ok_now E ro h mN w_now) (H_past : ok_past E ro qp pV w_past) (kont : ∀ (rr : Int32) (acZ : Nat) (npZ : Nat) (mNZ : AM) (pVZ : Nat → AM) (w_nowZ : va_W) (w_pastZ : va_W), acZ ≤ 8 → npZ < 8 → ok_now E ro h mNZ w_nowZ → ok_past E ro qp pVZ w_pastZ → (((asX mNZ acZ npZ pVZ), rr) = opBlind (asX mN ac np pV) v0) → WW X 4 E 327 lv (.int rr :: rest) ([(hx, .inr (11, [.ref h, .ref qp, .int (nI acZ), .int (nI npZ), .ref qs, .ref qj, .ref ly, .ref qh, .ref kk, .int (nI kc), .ref rd, .ref pg, .int (nI pe), .int kn, .ref ss]))] ++ (w_nowZ ++ (w_pastZ ++ wT))) kC nC) : WW X 4 E 324 lv (.int v0 :: .ref hx :: rest) ([(hx, .inr (11, [.ref h, .ref qp, .int (nI ac), .int (nI np), .ref qs, .ref qj, .ref ly, .ref qh, .ref kk, .int (nI kc), .ref rd, .ref pg, .int (nI pe), .int kn, .ref ss]))] ++ (w_now ++ (w_past ++ wT))) kC nC := by
  unfold ok_now at H_now
  refine ex6 H_now ?_
  clear H_now
  intro n r a b f gg H_now
  refine an4 H_now ?_
  clear H_now
  intro we_now hn hr hwfm H_now
  have hmN := H_now
  clear H_now
  subst we_now
  subst hmN
  unfold ok_past at H_past
  refine ex8 H_past ?_
  clear H_past
  intro fqp p0 p1 p2 p3 p4 p5 p6 H_past
  refine ex8 H_past ?_
  clear H_past
  intro p7 p0n p0r p0a p0b p0f p0g p1n H_past
  refine ex8 H_past ?_
  clear H_past
  intro p1r p1a p1b p1f p1g p2n p2r p2a H_past
  refine ex8 H_past ?_
  clear H_past
  intro p2b p2f p2g p3n p3r p3a p3b p3f H_past
  refine ex8 H_past ?_
  clear H_past
  intro p3g p4n p4r p4a p4b p4f p4g p5n H_past
  refine ex8 H_past ?_
  clear H_past
  intro p5r p5a p5b p5f p5g p6n p6r p6a H_past
  refine ex8 H_past ?_
  clear H_past
  intro p6b p6f p6g p7n p7r p7a p7b p7f H_past
  refine ex1 H_past ?_
  clear H_past
  intro p7g H_past
  refine an8 H_past ?_
  clear H_past
  intro we_past k_fqp_0 k_fqp_1 k_fqp_2 k_fqp_3 k_fqp_4 k_fqp_5 k_fqp_6 H_past
  refine an8 H_past ?_
  clear H_past
  intro k_fqp_7 hp0_n hp0_r hp0_w hp1_n hp1_r hp1_w hp2_n H_past
  refine an8 H_past ?_
  clear H_past
  intro hp2_r hp2_w hp3_n hp3_r hp3_w hp4_n hp4_r hp4_w H_past
  refine an8 H_past ?_
  clear H_past
  intro hp5_n hp5_r hp5_w hp6_n hp6_r hp6_w hp7_n hp7_r H_past
  refine an1 H_past ?_
  clear H_past
  intro hp7_w H_past
  have hpV := H_past
  clear H_past
  subst we_past
  subst hpV
  refine ww_eq (ws' := [(hx, .inr (11, [.ref h, .ref qp, .int (nI ac), .int (nI np), .ref qs, .ref qj, .ref ly, .ref qh, .ref kk, .int (nI kc), .ref rd, .ref pg, .int (nI pe), .int kn, .ref ss])), (h, .inr (4, [.int (nI n), .int (nI r), .ref a, .ref b])), (a, .inl (E.2.1 1, 24, .inl f)), (b, .inl (E.2.1 1, 96, .inl gg)), (qp, .inl (E.2.1 6, 8, .inr (.inr (.inr (.inr fqp))))), (p0, .inr (4, [.int (nI p0n), .int (nI p0r), .ref p0a, .ref p0b])), (p0a, .inl (E.2.1 1, 24, .inl p0f)), (p0b, .inl (E.2.1 1, 96, .inl p0g)), (p1, .inr (4, [.int (nI p1n), .int (nI p1r), .ref p1a, .ref p1b])), (p1a, .inl (E.2.1 1, 24, .inl p1f)), (p1b, .inl (E.2.1 1, 96, .inl p1g)), (p2, .inr (4, [.int (nI p2n), .int (nI p2r), .ref p2a, .ref p2b])), (p2a, .inl (E.2.1 1, 24, .inl p2f)), (p2b, .inl (E.2.1 1, 96, .inl p2g)), (p3, .inr (4, [.int (nI p3n), .int (nI p3r), .ref p3a, .ref p3b])), (p3a, .inl (E.2.1 1, 24, .inl p3f)), (p3b, .inl (E.2.1 1, 96, .inl p3g)), (p4, .inr (4, [.int (nI p4n), .int (nI p4r), .ref p4a, .ref p4b])), (p4a, .inl (E.2.1 1, 24, .inl p4f)), (p4b, .inl (E.2.1 1, 96, .inl p4g)), (p5, .inr (4, [.int (nI p5n), .int (nI p5r), .ref p5a, .ref p5b])), (p5a, .inl (E.2.1 1, 24, .inl p5f)), (p5b, .inl (E.2.1 1, 96, .inl p5g)), (p6, .inr (4, [.int (nI p6n), .int (nI p6r), .ref p6a, .ref p6b])), (p6a, .inl (E.2.1 1, 24, .inl p6f)), (p6b, .inl (E.2.1 1, 96, .inl p6g)), (p7, .inr (4, [.int (nI p7n), .int (nI p7r), .ref p7a, .ref p7b])), (p7a, .inl (E.2.1 1, 24, .inl p7f)), (p7b, .inl (E.2.1 1, 96, .inl p7g))] ++ wT) ?_ rfl rfl rfl
  refine ww_ciT (k' := kC) (n' := nC) (wr := []) C (run_V (As := [.int v0]) (rest := rest) C (x_blind X.2.1 E ro hx v0 h qp ac np qs qj ly qh kk kc rd pg pe kn ss fqp p0 p1 p2 p3 p4 p5 p6 p7 p0n p0r p0a p0b p0f p0g p1n p1r p1a p1b p1f p1g p2n p2r p2a p2b p2f p2g p3n p3r p3a p3b p3f p3g p4n p4r p4a p4b p4f p4g p5n p5r p5a p5b p5f p5g p6n p6r p6a p6b p6f p6g p7n p7r p7a p7b p7f p7g n r a b f gg k_fqp_0 k_fqp_1 k_fqp_2 k_fqp_3 k_fqp_4 k_fqp_5 k_fqp_6 k_fqp_7 (by first | assumption | omega) (by first | assumption | omega) (by first | assumption | omega) (by first | assumption | omega) (by first | assumption | omega) (by first | assumption | omega) (by first | assumption | omega) (by first | assumption | omega) (by first | assumption | omega) (by first | assumption | omega) (by first | assumption | omega) (by first | assumption | omega) (by first | assumption | omega) (by first | assumption | omega) (by first | assumption | omega) (by first | assumption | omega) (by first | assumption | omega) (by first | assumption | omega) (by first | assumption | omega) (by first | assumption | omega) (by first | assumption | omega) (by first | assumption | omega) (by first | assumption | omega) (by first | assumption | omega) (by first | assumption | omega) (by first | assumption | omega) (by first | assumption | omega) (by first | assumption | omega) (by first | assumption | omega) (by first | assumption | omega) (by first | assumption | omega)) mi_X11_blind wl_L_23 rfl 0 11 rfl rfl rfl rfl hW dL_law_324) (roT (pre := pre) [0, 4, 5, 6, 7, 8, 9, 10, 11, 12, 13, 14, 15, 16, 17, 18, 19, 20, 21, 22, 23, 24, 25, 26, 27, 28, 1, 2, 3] rfl hT) [0, 4, 5, 6, 7, 8, 9, 10, 11, 12, 13, 14, 15, 16, 17, 18, 19, 20, 21, 22, 23, 24, 25, 26, 27, 28, 1, 2, 3] [] (gqk (by eq_refl)) rfl (plk (by decide +kernel)) ⟨by omega, by omega, hk.1, hk.2⟩ (fun rr u hw => ?_)
  refine ex8 hw ?_
  clear hw
  intro acz_1 npz_2 p0nz_3 p0rz__4 p0fz_5 p0gz_6 p1nz_7 p1rz__8 hw
  refine ex8 hw ?_
  clear hw
  intro p1fz_9 p1gz_10 p2nz_11 p2rz__12 p2fz_13 p2gz_14 p3nz_15 p3rz__16 hw
  refine ex8 hw ?_
  clear hw
  intro p3fz_17 p3gz_18 p4nz_19 p4rz__20 p4fz_21 p4gz_22 p5nz_23 p5rz__24 hw
  refine ex8 hw ?_
  clear hw
  intro p5fz_25 p5gz_26 p6nz_27 p6rz__28 p6fz_29 p6gz_30 p7nz_31 p7rz__32 hw
  refine ex6 hw ?_
  clear hw
  intro p7fz_33 p7gz_34 nz_35 rz__36 fz_37 ggz_38 hw
  refine an8 hw ?_
  clear hw
  intro he_u h_39 h_40 h_41 h_42 h_43 h_44 h_45 hw
  refine an8 hw ?_
  clear hw
  intro h_46 h_47 h_48 h_49 h_50 h_51 h_52 h_53 hw
  refine an8 hw ?_
  clear hw
  intro h_54 h_55 h_56 h_57 h_58 h_59 h_60 h_61 hw
  refine an6 hw ?_
  clear hw
  intro h_62 h_63 h_64 h_65 h_66 h_67 hw
  have h_68 := hw
  clear hw
  subst he_u
  refine ww_subT (w1 := [(hx, .inr (11, [.ref h, .ref qp, .int (nI acz_1), .int (nI npz_2), .ref qs, .ref qj, .ref ly, .ref qh, .ref kk, .int (nI kc), .ref rd, .ref pg, .int (nI pe), .int kn, .ref ss])), (h, .inr (4, [.int (nI nz_35), .int (nI rz__36), .ref a, .ref b])), (a, .inl (E.2.1 1, 24, .inl fz_37)), (b, .inl (E.2.1 1, 96, .inl ggz_38)), (qp, .inl (E.2.1 6, 8, .inr (.inr (.inr (.inr fqp))))), (p0, .inr (4, [.int (nI p0nz_3), .int (nI p0rz__4), .ref p0a, .ref p0b])), (p0a, .inl (E.2.1 1, 24, .inl p0fz_5)), (p0b, .inl (E.2.1 1, 96, .inl p0gz_6)), (p1, .inr (4, [.int (nI p1nz_7), .int (nI p1rz__8), .ref p1a, .ref p1b])), (p1a, .inl (E.2.1 1, 24, .inl p1fz_9)), (p1b, .inl (E.2.1 1, 96, .inl p1gz_10)), (p2, .inr (4, [.int (nI p2nz_11), .int (nI p2rz__12), .ref p2a, .ref p2b])), (p2a, .inl (E.2.1 1, 24, .inl p2fz_13)), (p2b, .inl (E.2.1 1, 96, .inl p2gz_14)), (p3, .inr (4, [.int (nI p3nz_15), .int (nI p3rz__16), .ref p3a, .ref p3b])), (p3a, .inl (E.2.1 1, 24, .inl p3fz_17)), (p3b, .inl (E.2.1 1, 96, .inl p3gz_18)), (p4, .inr (4, [.int (nI p4nz_19), .int (nI p4rz__20), .ref p4a, .ref p4b])), (p4a, .inl (E.2.1 1, 24, .inl p4fz_21)), (p4b, .inl (E.2.1 1, 96, .inl p4gz_22)), (p5, .inr (4, [.int (nI p5nz_23), .int (nI p5rz__24), .ref p5a, .ref p5b])), (p5a, .inl (E.2.1 1, 24, .inl p5fz_25)), (p5b, .inl (E.2.1 1, 96, .inl p5gz_26)), (p6, .inr (4, [.int (nI p6nz_27), .int (nI p6rz__28), .ref p6a, .ref p6b])), (p6a, .inl (E.2.1 1, 24, .inl p6fz_29)), (p6b, .inl (E.2.1 1, 96, .inl p6gz_30)), (p7, .inr (4, [.int (nI p7nz_31), .int (nI p7rz__32), .ref p7a, .ref p7b])), (p7a, .inl (E.2.1 1, 24, .inl p7fz_33)), (p7b, .inl (E.2.1 1, 96, .inl p7gz_34))]) [0, 26, 27, 28, 1, 2, 3, 4, 5, 6, 7, 8, 9, 10, 11, 12, 13, 14, 15, 16, 17, 18, 19, 20, 21, 22, 23, 24, 25] (ndk (by decide +kernel)) (gqk (by eq_refl)) ?_
  exact kont rr acz_1 npz_2 (am nz_35 rz__36 fz_37 ggz_38) (pick8 (am p0nz_3 p0rz__4 p0fz_5 p0gz_6) (am p1nz_7 p1rz__8 p1fz_9 p1gz_10) (am p2nz_11 p2rz__12 p2fz_13 p2gz_14) (am p3nz_15 p3rz__16 p3fz_17 p3gz_18) (am p4nz_19 p4rz__20 p4fz_21 p4gz_22) (am p5nz_23 p5rz__24 p5fz_25 p5gz_26) (am p6nz_27 p6rz__28 p6fz_29 p6gz_30) (am p7nz_31 p7rz__32 p7fz_33 p7gz_34)) [(h, .inr (4, [.int (nI nz_35), .int (nI rz__36), .ref a, .ref b])), (a, .inl (E.2.1 1, 24, .inl fz_37)), (b, .inl (E.2.1 1, 96, .inl ggz_38))] [(qp, .inl (E.2.1 6, 8, .inr (.inr (.inr (.inr fqp))))), (p0, .inr (4, [.int (nI p0nz_3), .int (nI p0rz__4), .ref p0a, .ref p0b])), (p0a, .inl (E.2.1 1, 24, .inl p0fz_5)), (p0b, .inl (E.2.1 1, 96, .inl p0gz_6)), (p1, .inr (4, [.int (nI p1nz_7), .int (nI p1rz__8), .ref p1a, .ref p1b])), (p1a, .inl (E.2.1 1, 24, .inl p1fz_9)), (p1b, .inl (E.2.1 1, 96, .inl p1gz_10)), (p2, .inr (4, [.int (nI p2nz_11), .int (nI p2rz__12), .ref p2a, .ref p2b])), (p2a, .inl (E.2.1 1, 24, .inl p2fz_13)), (p2b, .inl (E.2.1 1, 96, .inl p2gz_14)), (p3, .inr (4, [.int (nI p3nz_15), .int (nI p3rz__16), .ref p3a, .ref p3b])), (p3a, .inl (E.2.1 1, 24, .inl p3fz_17)), (p3b, .inl (E.2.1 1, 96, .inl p3gz_18)), (p4, .inr (4, [.int (nI p4nz_19), .int (nI p4rz__20), .ref p4a, .ref p4b])), (p4a, .inl (E.2.1 1, 24, .inl p4fz_21)), (p4b, .inl (E.2.1 1, 96, .inl p4gz_22)), (p5, .inr (4, [.int (nI p5nz_23), .int (nI p5rz__24), .ref p5a, .ref p5b])), (p5a, .inl (E.2.1 1, 24, .inl p5fz_25)), (p5b, .inl (E.2.1 1, 96, .inl p5gz_26)), (p6, .inr (4, [.int (nI p6nz_27), .int (nI p6rz__28), .ref p6a, .ref p6b])), (p6a, .inl (E.2.1 1, 24, .inl p6fz_29)), (p6b, .inl (E.2.1 1, 96, .inl p6gz_30)), (p7, .inr (4, [.int (nI p7nz_31), .int (nI p7rz__32), .ref p7a, .ref p7b])), (p7a, .inl (E.2.1 1, 24, .inl p7fz_33)), (p7b, .inl (E.2.1 1, 96, .inl p7gz_34))] (by first | assumption | omega) (by first | assumption | omega) ⟨nz_35, rz__36, a, b, fz_37, ggz_38, rfl, (by first | assumption | omega), (by first | assumption | omega), (by first | assumption | omega), rfl⟩ ⟨fqp, p0, p1, p2, p3, p4, p5, p6, p7, p0nz_3, p0rz__4, p0a, p0b, p0fz_5, p0gz_6, p1nz_7, p1rz__8, p1a, p1b, p1fz_9, p1gz_10, p2nz_11, p2rz__12, p2a, p2b, p2fz_13, p2gz_14, p3nz_15, p3rz__16, p3a, p3b, p3fz_17, p3gz_18, p4nz_19, p4rz__20, p4a, p4b, p4fz_21, p4gz_22, p5nz_23, p5rz__24, p5a, p5b, p5fz_25, p5gz_26, p6nz_27, p6rz__28, p6a, p6b, p6fz_29, p6gz_30, p7nz_31, p7rz__32, p7a, p7b, p7fz_33, p7gz_34, rfl, k_fqp_0, k_fqp_1, k_fqp_2, k_fqp_3, k_fqp_4, k_fqp_5, k_fqp_6, k_fqp_7, (by first | assumption | omega), (by first | assumption | omega), (by first | assumption | omega), (by first | assumption | omega), (by first | assumption | omega), (by first | assumption | omega), (by first | assumption | omega), (by first | assumption | omega), (by first | assumption | omega), (by first | assumption | omega), (by first | assumption | omega), (by first | assumption | omega), (by first | assumption | omega), (by first | assumption | omega), (by first | assumption | omega), (by first | assumption | omega), (by first | assumption | omega), (by first | assumption | omega), (by first | assumption | omega), (by first | assumption | omega), (by first | assumption | omega), (by first | assumption | omega), (by first | assumption | omega), (by first | assumption | omega), rfl⟩ (h_68)
theorem wc_X11_real : Cond.code yX11_real cX11_real 3 (some .int) ∈ TB := tbm (tq2 (List.mem_of_getElem? (i := 206) (rfl))) (by decide +kernel)
theorem wi_X11_real : Cond.instanceMethod yX11_real ∈ TB := tbm (tq2 (List.mem_of_getElem? (i := 204) (by decide +kernel))) (by decide +kernel)
theorem ws_X11_real : Cond.selects RX11 yX11_real yX11_real ∈ TB := tbm (tq2 (List.mem_of_getElem? (i := 205) (by decide +kernel))) (by decide +kernel)
theorem mi_X11_real : MI yX11_real cX11_real 3 (some .int) 1 := ⟨wc_X11_real, wn_X11, ⟨by decide +kernel, by decide +kernel, by decide +kernel⟩, wi_X11_real, ws_X11_real⟩
theorem wl_L_27 : Cond.methodLink RL 27 yX11_real ∈ TB := tbm (tq2 (List.mem_of_getElem? (i := 203) (by decide +kernel))) (by decide +kernel)
theorem dL_law_347 : decode cL_law 347 = .ok (.invokevirtual 27, 3) := dl_182 (by decide +kernel)
set_option maxRecDepth 100000 in
set_option maxHeartbeats 4000000 in
theorem lx_real {X : XT} {E : EV} {ro wT pre : va_W} {lv : List (Nat × Value)} {rest : List Value} {kC nC : Nat} {hx h qp qs qj ly qh kk rd pg ss : Nat} {ac np kc pe : Nat} {kn : Int32} {mN : AM} {pV : Nat → AM} {w_now : va_W} {w_past : va_W} {v0 : Int32}  (C : CX X room_1 cL_law 4 RL ret E) (hW : Nat.ble (rest.map fun v => v.category).sum 8 = true) (hT : wT = pre ++ ro) (hk : kC + 0 ≤ 600000 ∧ nC + 0 ≤ 7302250) (hac : ac ≤ 8) (hnp : np < 8) (hkc : kc ≤ 4) (hpe : pe ≤ 4) (H_now : ok_now E ro h mN w_now) (H_past : ok_past E ro qp pV w_past) (kont : ∀ (rr : Int32) (acZ : Nat) (npZ : Nat) (mNZ : AM) (pVZ : Nat → AM) (w_nowZ : va_W) (w_pastZ : va_W), acZ ≤ 8 → npZ < 8 → ok_now E ro h mNZ w_nowZ → ok_past E ro qp pVZ w_pastZ → (((asX mNZ acZ npZ pVZ), rr) = opReal (asX mN ac np pV) v0) → WW X 4 E 350 lv (.int rr :: rest) ([(hx, .inr (11, [.ref h, .ref qp, .int (nI acZ), .int (nI npZ), .ref qs, .ref qj, .ref ly, .ref qh, .ref kk, .int (nI kc), .ref rd, .ref pg, .int (nI pe), .int kn, .ref ss]))] ++ (w_nowZ ++ (w_pastZ ++ wT))) kC nC) : WW X 4 E 347 lv (.int v0 :: .ref hx :: rest) ([(hx, .inr (11, [.ref h, .ref qp, .int (nI ac), .int (nI np), .ref qs, .ref qj, .ref ly, .ref qh, .ref kk, .int (nI kc), .ref rd, .ref pg, .int (nI pe), .int kn, .ref ss]))] ++ (w_now ++ (w_past ++ wT))) kC nC := by
  unfold ok_now at H_now
  refine ex6 H_now ?_
  clear H_now
  intro n r a b f gg H_now
  refine an4 H_now ?_
  clear H_now
  intro we_now hn hr hwfm H_now
  have hmN := H_now
  clear H_now
  subst we_now
  subst hmN
  unfold ok_past at H_past
  refine ex8 H_past ?_
  clear H_past
  intro fqp p0 p1 p2 p3 p4 p5 p6 H_past
  refine ex8 H_past ?_
  clear H_past
  intro p7 p0n p0r p0a p0b p0f p0g p1n H_past
  refine ex8 H_past ?_
  clear H_past
  intro p1r p1a p1b p1f p1g p2n p2r p2a H_past
  refine ex8 H_past ?_
  clear H_past
  intro p2b p2f p2g p3n p3r p3a p3b p3f H_past
  refine ex8 H_past ?_
  clear H_past
  intro p3g p4n p4r p4a p4b p4f p4g p5n H_past
  refine ex8 H_past ?_
  clear H_past
  intro p5r p5a p5b p5f p5g p6n p6r p6a H_past
  refine ex8 H_past ?_
  clear H_past
  intro p6b p6f p6g p7n p7r p7a p7b p7f H_past
  refine ex1 H_past ?_
  clear H_past
  intro p7g H_past
  refine an8 H_past ?_
  clear H_past
  intro we_past k_fqp_0 k_fqp_1 k_fqp_2 k_fqp_3 k_fqp_4 k_fqp_5 k_fqp_6 H_past
  refine an8 H_past ?_
  clear H_past
  intro k_fqp_7 hp0_n hp0_r hp0_w hp1_n hp1_r hp1_w hp2_n H_past
  refine an8 H_past ?_
  clear H_past
  intro hp2_r hp2_w hp3_n hp3_r hp3_w hp4_n hp4_r hp4_w H_past
  refine an8 H_past ?_
  clear H_past
  intro hp5_n hp5_r hp5_w hp6_n hp6_r hp6_w hp7_n hp7_r H_past
  refine an1 H_past ?_
  clear H_past
  intro hp7_w H_past
  have hpV := H_past
  clear H_past
  subst we_past
  subst hpV
  refine ww_eq (ws' := [(hx, .inr (11, [.ref h, .ref qp, .int (nI ac), .int (nI np), .ref qs, .ref qj, .ref ly, .ref qh, .ref kk, .int (nI kc), .ref rd, .ref pg, .int (nI pe), .int kn, .ref ss])), (h, .inr (4, [.int (nI n), .int (nI r), .ref a, .ref b])), (a, .inl (E.2.1 1, 24, .inl f)), (b, .inl (E.2.1 1, 96, .inl gg)), (qp, .inl (E.2.1 6, 8, .inr (.inr (.inr (.inr fqp))))), (p0, .inr (4, [.int (nI p0n), .int (nI p0r), .ref p0a, .ref p0b])), (p0a, .inl (E.2.1 1, 24, .inl p0f)), (p0b, .inl (E.2.1 1, 96, .inl p0g)), (p1, .inr (4, [.int (nI p1n), .int (nI p1r), .ref p1a, .ref p1b])), (p1a, .inl (E.2.1 1, 24, .inl p1f)), (p1b, .inl (E.2.1 1, 96, .inl p1g)), (p2, .inr (4, [.int (nI p2n), .int (nI p2r), .ref p2a, .ref p2b])), (p2a, .inl (E.2.1 1, 24, .inl p2f)), (p2b, .inl (E.2.1 1, 96, .inl p2g)), (p3, .inr (4, [.int (nI p3n), .int (nI p3r), .ref p3a, .ref p3b])), (p3a, .inl (E.2.1 1, 24, .inl p3f)), (p3b, .inl (E.2.1 1, 96, .inl p3g)), (p4, .inr (4, [.int (nI p4n), .int (nI p4r), .ref p4a, .ref p4b])), (p4a, .inl (E.2.1 1, 24, .inl p4f)), (p4b, .inl (E.2.1 1, 96, .inl p4g)), (p5, .inr (4, [.int (nI p5n), .int (nI p5r), .ref p5a, .ref p5b])), (p5a, .inl (E.2.1 1, 24, .inl p5f)), (p5b, .inl (E.2.1 1, 96, .inl p5g)), (p6, .inr (4, [.int (nI p6n), .int (nI p6r), .ref p6a, .ref p6b])), (p6a, .inl (E.2.1 1, 24, .inl p6f)), (p6b, .inl (E.2.1 1, 96, .inl p6g)), (p7, .inr (4, [.int (nI p7n), .int (nI p7r), .ref p7a, .ref p7b])), (p7a, .inl (E.2.1 1, 24, .inl p7f)), (p7b, .inl (E.2.1 1, 96, .inl p7g))] ++ wT) ?_ rfl rfl rfl
  refine ww_ciT (k' := kC) (n' := nC) (wr := []) C (run_V (As := [.int v0]) (rest := rest) C (x_real X.2.1 E ro hx v0 h qp ac np qs qj ly qh kk kc rd pg pe kn ss fqp p0 p1 p2 p3 p4 p5 p6 p7 p0n p0r p0a p0b p0f p0g p1n p1r p1a p1b p1f p1g p2n p2r p2a p2b p2f p2g p3n p3r p3a p3b p3f p3g p4n p4r p4a p4b p4f p4g p5n p5r p5a p5b p5f p5g p6n p6r p6a p6b p6f p6g p7n p7r p7a p7b p7f p7g n r a b f gg k_fqp_0 k_fqp_1 k_fqp_2 k_fqp_3 k_fqp_4 k_fqp_5 k_fqp_6 k_fqp_7 (by first | assumption | omega) (by first | assumption | omega) (by first | assumption | omega) (by first | assumption | omega) (by first | assumption | omega) (by first | assumption | omega) (by first | assumption | omega) (by first | assumption | omega) (by first | assumption | omega) (by first | assumption | omega) (by first | assumption | omega) (by first | assumption | omega) (by first | assumption | omega) (by first | assumption | omega) (by first | assumption | omega) (by first | assumption | omega) (by first | assumption | omega) (by first | assumption | omega) (by first | assumption | omega) (by first | assumption | omega) (by first | assumption | omega) (by first | assumption | omega) (by first | assumption | omega) (by first | assumption | omega) (by first | assumption | omega) (by first | assumption | omega) (by first | assumption | omega) (by first | assumption | omega) (by first | assumption | omega) (by first | assumption | omega) (by first | assumption | omega)) mi_X11_real wl_L_27 rfl 0 11 rfl rfl rfl rfl hW dL_law_347) (roT (pre := pre) [0, 4, 5, 6, 7, 8, 9, 10, 11, 12, 13, 14, 15, 16, 17, 18, 19, 20, 21, 22, 23, 24, 25, 26, 27, 28, 1, 2, 3] rfl hT) [0, 4, 5, 6, 7, 8, 9, 10, 11, 12, 13, 14, 15, 16, 17, 18, 19, 20, 21, 22, 23, 24, 25, 26, 27, 28, 1, 2, 3] [] (gqk (by eq_refl)) rfl (plk (by decide +kernel)) ⟨by omega, by omega, hk.1, hk.2⟩ (fun rr u hw => ?_)
  refine ex8 hw ?_
  clear hw
  intro acz_1 npz_2 p0nz_3 p0rz__4 p0fz_5 p0gz_6 p1nz_7 p1rz__8 hw
  refine ex8 hw ?_
  clear hw
  intro p1fz_9 p1gz_10 p2nz_11 p2rz__12 p2fz_13 p2gz_14 p3nz_15 p3rz__16 hw
  refine ex8 hw ?_
  clear hw
  intro p3fz_17 p3gz_18 p4nz_19 p4rz__20 p4fz_21 p4gz_22 p5nz_23 p5rz__24 hw
  refine ex8 hw ?_
  clear hw
  intro p5fz_25 p5gz_26 p6nz_27 p6rz__28 p6fz_29 p6gz_30 p7nz_31 p7rz__32 hw
  refine ex6 hw ?_
  clear hw
  intro p7fz_33 p7gz_34 nz_35 rz__36 fz_37 ggz_38 hw
  refine an8 hw ?_
  clear hw
  intro he_u h_39 h_40 h_41 h_42 h_43 h_44 h_45 hw
  refine an8 hw ?_
  clear hw
  intro h_46 h_47 h_48 h_49 h_50 h_51 h_52 h_53 hw
  refine an8 hw ?_
  clear hw
  intro h_54 h_55 h_56 h_57 h_58 h_59 h_60 h_61 hw
  refine an6 hw ?_
  clear hw
  intro h_62 h_63 h_64 h_65 h_66 h_67 hw
  have h_68 := hw
  clear hw
  subst he_u
  refine ww_subT (w1 := [(hx, .inr (11, [.ref h, .ref qp, .int (nI acz_1), .int (nI npz_2), .ref qs, .ref qj, .ref ly, .ref qh, .ref kk, .int (nI kc), .ref rd, .ref pg, .int (nI pe), .int kn, .ref ss])), (h, .inr (4, [.int (nI nz_35), .int (nI rz__36), .ref a, .ref b])), (a, .inl (E.2.1 1, 24, .inl fz_37)), (b, .inl (E.2.1 1, 96, .inl ggz_38)), (qp, .inl (E.2.1 6, 8, .inr (.inr (.inr (.inr fqp))))), (p0, .inr (4, [.int (nI p0nz_3), .int (nI p0rz__4), .ref p0a, .ref p0b])), (p0a, .inl (E.2.1 1, 24, .inl p0fz_5)), (p0b, .inl (E.2.1 1, 96, .inl p0gz_6)), (p1, .inr (4, [.int (nI p1nz_7), .int (nI p1rz__8), .ref p1a, .ref p1b])), (p1a, .inl (E.2.1 1, 24, .inl p1fz_9)), (p1b, .inl (E.2.1 1, 96, .inl p1gz_10)), (p2, .inr (4, [.int (nI p2nz_11), .int (nI p2rz__12), .ref p2a, .ref p2b])), (p2a, .inl (E.2.1 1, 24, .inl p2fz_13)), (p2b, .inl (E.2.1 1, 96, .inl p2gz_14)), (p3, .inr (4, [.int (nI p3nz_15), .int (nI p3rz__16), .ref p3a, .ref p3b])), (p3a, .inl (E.2.1 1, 24, .inl p3fz_17)), (p3b, .inl (E.2.1 1, 96, .inl p3gz_18)), (p4, .inr (4, [.int (nI p4nz_19), .int (nI p4rz__20), .ref p4a, .ref p4b])), (p4a, .inl (E.2.1 1, 24, .inl p4fz_21)), (p4b, .inl (E.2.1 1, 96, .inl p4gz_22)), (p5, .inr (4, [.int (nI p5nz_23), .int (nI p5rz__24), .ref p5a, .ref p5b])), (p5a, .inl (E.2.1 1, 24, .inl p5fz_25)), (p5b, .inl (E.2.1 1, 96, .inl p5gz_26)), (p6, .inr (4, [.int (nI p6nz_27), .int (nI p6rz__28), .ref p6a, .ref p6b])), (p6a, .inl (E.2.1 1, 24, .inl p6fz_29)), (p6b, .inl (E.2.1 1, 96, .inl p6gz_30)), (p7, .inr (4, [.int (nI p7nz_31), .int (nI p7rz__32), .ref p7a, .ref p7b])), (p7a, .inl (E.2.1 1, 24, .inl p7fz_33)), (p7b, .inl (E.2.1 1, 96, .inl p7gz_34))]) [0, 26, 27, 28, 1, 2, 3, 4, 5, 6, 7, 8, 9, 10, 11, 12, 13, 14, 15, 16, 17, 18, 19, 20, 21, 22, 23, 24, 25] (ndk (by decide +kernel)) (gqk (by eq_refl)) ?_
  exact kont rr acz_1 npz_2 (am nz_35 rz__36 fz_37 ggz_38) (pick8 (am p0nz_3 p0rz__4 p0fz_5 p0gz_6) (am p1nz_7 p1rz__8 p1fz_9 p1gz_10) (am p2nz_11 p2rz__12 p2fz_13 p2gz_14) (am p3nz_15 p3rz__16 p3fz_17 p3gz_18) (am p4nz_19 p4rz__20 p4fz_21 p4gz_22) (am p5nz_23 p5rz__24 p5fz_25 p5gz_26) (am p6nz_27 p6rz__28 p6fz_29 p6gz_30) (am p7nz_31 p7rz__32 p7fz_33 p7gz_34)) [(h, .inr (4, [.int (nI nz_35), .int (nI rz__36), .ref a, .ref b])), (a, .inl (E.2.1 1, 24, .inl fz_37)), (b, .inl (E.2.1 1, 96, .inl ggz_38))] [(qp, .inl (E.2.1 6, 8, .inr (.inr (.inr (.inr fqp))))), (p0, .inr (4, [.int (nI p0nz_3), .int (nI p0rz__4), .ref p0a, .ref p0b])), (p0a, .inl (E.2.1 1, 24, .inl p0fz_5)), (p0b, .inl (E.2.1 1, 96, .inl p0gz_6)), (p1, .inr (4, [.int (nI p1nz_7), .int (nI p1rz__8), .ref p1a, .ref p1b])), (p1a, .inl (E.2.1 1, 24, .inl p1fz_9)), (p1b, .inl (E.2.1 1, 96, .inl p1gz_10)), (p2, .inr (4, [.int (nI p2nz_11), .int (nI p2rz__12), .ref p2a, .ref p2b])), (p2a, .inl (E.2.1 1, 24, .inl p2fz_13)), (p2b, .inl (E.2.1 1, 96, .inl p2gz_14)), (p3, .inr (4, [.int (nI p3nz_15), .int (nI p3rz__16), .ref p3a, .ref p3b])), (p3a, .inl (E.2.1 1, 24, .inl p3fz_17)), (p3b, .inl (E.2.1 1, 96, .inl p3gz_18)), (p4, .inr (4, [.int (nI p4nz_19), .int (nI p4rz__20), .ref p4a, .ref p4b])), (p4a, .inl (E.2.1 1, 24, .inl p4fz_21)), (p4b, .inl (E.2.1 1, 96, .inl p4gz_22)), (p5, .inr (4, [.int (nI p5nz_23), .int (nI p5rz__24), .ref p5a, .ref p5b])), (p5a, .inl (E.2.1 1, 24, .inl p5fz_25)), (p5b, .inl (E.2.1 1, 96, .inl p5gz_26)), (p6, .inr (4, [.int (nI p6nz_27), .int (nI p6rz__28), .ref p6a, .ref p6b])), (p6a, .inl (E.2.1 1, 24, .inl p6fz_29)), (p6b, .inl (E.2.1 1, 96, .inl p6gz_30)), (p7, .inr (4, [.int (nI p7nz_31), .int (nI p7rz__32), .ref p7a, .ref p7b])), (p7a, .inl (E.2.1 1, 24, .inl p7fz_33)), (p7b, .inl (E.2.1 1, 96, .inl p7gz_34))] (by first | assumption | omega) (by first | assumption | omega) ⟨nz_35, rz__36, a, b, fz_37, ggz_38, rfl, (by first | assumption | omega), (by first | assumption | omega), (by first | assumption | omega), rfl⟩ ⟨fqp, p0, p1, p2, p3, p4, p5, p6, p7, p0nz_3, p0rz__4, p0a, p0b, p0fz_5, p0gz_6, p1nz_7, p1rz__8, p1a, p1b, p1fz_9, p1gz_10, p2nz_11, p2rz__12, p2a, p2b, p2fz_13, p2gz_14, p3nz_15, p3rz__16, p3a, p3b, p3fz_17, p3gz_18, p4nz_19, p4rz__20, p4a, p4b, p4fz_21, p4gz_22, p5nz_23, p5rz__24, p5a, p5b, p5fz_25, p5gz_26, p6nz_27, p6rz__28, p6a, p6b, p6fz_29, p6gz_30, p7nz_31, p7rz__32, p7a, p7b, p7fz_33, p7gz_34, rfl, k_fqp_0, k_fqp_1, k_fqp_2, k_fqp_3, k_fqp_4, k_fqp_5, k_fqp_6, k_fqp_7, (by first | assumption | omega), (by first | assumption | omega), (by first | assumption | omega), (by first | assumption | omega), (by first | assumption | omega), (by first | assumption | omega), (by first | assumption | omega), (by first | assumption | omega), (by first | assumption | omega), (by first | assumption | omega), (by first | assumption | omega), (by first | assumption | omega), (by first | assumption | omega), (by first | assumption | omega), (by first | assumption | omega), (by first | assumption | omega), (by first | assumption | omega), (by first | assumption | omega), (by first | assumption | omega), (by first | assumption | omega), (by first | assumption | omega), (by first | assumption | omega), (by first | assumption | omega), (by first | assumption | omega), rfl⟩ (h_68)
theorem wc_X11_of : Cond.code yX11_of cX11_of 3 (some .int) ∈ TB := tbm (tq2 (List.mem_of_getElem? (i := 210) (rfl))) (by decide +kernel)
theorem wi_X11_of : Cond.instanceMethod yX11_of ∈ TB := tbm (tq2 (List.mem_of_getElem? (i := 208) (by decide +kernel))) (by decide +kernel)
theorem ws_X11_of : Cond.selects RX11 yX11_of yX11_of ∈ TB := tbm (tq2 (List.mem_of_getElem? (i := 209) (by decide +kernel))) (by decide +kernel)
theorem mi_X11_of : MI yX11_of cX11_of 3 (some .int) 2 := ⟨wc_X11_of, wn_X11, ⟨by decide +kernel, by decide +kernel, by decide +kernel⟩, wi_X11_of, ws_X11_of⟩
theorem wl_L_31 : Cond.methodLink RL 31 yX11_of ∈ TB := tbm (tq2 (List.mem_of_getElem? (i := 207) (by decide +kernel))) (by decide +kernel)
theorem dL_law_375 : decode cL_law 375 = .ok (.invokevirtual 31, 3) := dl_182 (by decide +kernel)
set_option maxRecDepth 100000 in
set_option maxHeartbeats 4000000 in
theorem lx_of {X : XT} {E : EV} {ro wT pre : va_W} {lv : List (Nat × Value)} {rest : List Value} {kC nC : Nat} {hx h qp qs qj ly qh kk rd pg ss : Nat} {ac np kc pe : Nat} {kn : Int32} {mN : AM} {w_now : va_W} {v0 : Int32} {v1 : Int32}  (C : CX X room_1 cL_law 4 RL ret E) (hW : Nat.ble (rest.map fun v => v.category).sum 8 = true) (hT : wT = pre ++ ro) (hk : kC + 0 ≤ 600000 ∧ nC + 0 ≤ 7302250) (hac : ac ≤ 8) (hnp : np < 8) (hkc : kc ≤ 4) (hpe : pe ≤ 4) (H_now : ok_now E ro h mN w_now) (kont : ∀ (rr : Int32) (w_nowZ : va_W), ok_now E ro h mN w_nowZ → (rr = ansOf mN v0 v1) → WW X 4 E 378 lv (.int rr :: rest) ([(hx, .inr (11, [.ref h, .ref qp, .int (nI ac), .int (nI np), .ref qs, .ref qj, .ref ly, .ref qh, .ref kk, .int (nI kc), .ref rd, .ref pg, .int (nI pe), .int kn, .ref ss]))] ++ (w_nowZ ++ wT)) kC nC) : WW X 4 E 375 lv (.int v1 :: .int v0 :: .ref hx :: rest) ([(hx, .inr (11, [.ref h, .ref qp, .int (nI ac), .int (nI np), .ref qs, .ref qj, .ref ly, .ref qh, .ref kk, .int (nI kc), .ref rd, .ref pg, .int (nI pe), .int kn, .ref ss]))] ++ (w_now ++ wT)) kC nC := by
  unfold ok_now at H_now
  refine ex6 H_now ?_
  clear H_now
  intro n r a b f gg H_now
  refine an4 H_now ?_
  clear H_now
  intro we_now hn hr hwfm H_now
  have hmN := H_now
  clear H_now
  subst we_now
  subst hmN
  refine ww_eq (ws' := [(hx, .inr (11, [.ref h, .ref qp, .int (nI ac), .int (nI np), .ref qs, .ref qj, .ref ly, .ref qh, .ref kk, .int (nI kc), .ref rd, .ref pg, .int (nI pe), .int kn, .ref ss])), (h, .inr (4, [.int (nI n), .int (nI r), .ref a, .ref b])), (a, .inl (E.2.1 1, 24, .inl f)), (b, .inl (E.2.1 1, 96, .inl gg))] ++ wT) ?_ rfl rfl rfl
  refine ww_ciT (k' := kC) (n' := nC) (wr := []) C (run_V (As := [.int v0, .int v1]) (rest := rest) C (x_of X.2.1 E ro hx v0 v1 h qp ac np qs qj ly qh kk kc rd pg pe kn ss n r a b f gg (by first | assumption | omega) (by first | assumption | omega) (by first | assumption | omega) (by first | assumption | omega) (by first | assumption | omega) (by first | assumption | omega) (by first | assumption | omega)) mi_X11_of wl_L_31 rfl 0 11 rfl rfl rfl rfl hW dL_law_375) (roT (pre := pre) [0, 1, 2, 3] rfl hT) [0, 1, 2, 3] [] rfl rfl rfl ⟨by omega, by omega, hk.1, hk.2⟩ (fun rr u hw => ?_)
  refine an1 hw ?_
  clear hw
  intro he_u hw
  have h_1 := hw
  clear hw
  subst he_u
  refine ww_subT (w1 := [(hx, .inr (11, [.ref h, .ref qp, .int (nI ac), .int (nI np), .ref qs, .ref qj, .ref ly, .ref qh, .ref kk, .int (nI kc), .ref rd, .ref pg, .int (nI pe), .int kn, .ref ss])), (h, .inr (4, [.int (nI n), .int (nI r), .ref a, .ref b])), (a, .inl (E.2.1 1, 24, .inl f)), (b, .inl (E.2.1 1, 96, .inl gg))]) [0, 1, 2, 3] rfl rfl ?_
  exact kont rr  [(h, .inr (4, [.int (nI n), .int (nI r), .ref a, .ref b])), (a, .inl (E.2.1 1, 24, .inl f)), (b, .inl (E.2.1 1, 96, .inl gg))]  ⟨n, r, a, b, f, gg, rfl, (by first | assumption | omega), (by first | assumption | omega), (by first | assumption | omega), rfl⟩ (h_1)
theorem wc_X11_reach : Cond.code yX11_reach cX11_reach 3 (some .int) ∈ TB := tbm (tq2 (List.mem_of_getElem? (i := 218) (rfl))) (by decide +kernel)
theorem wi_X11_reach : Cond.instanceMethod yX11_reach ∈ TB := tbm (tq2 (List.mem_of_getElem? (i := 216) (by decide +kernel))) (by decide +kernel)
theorem ws_X11_reach : Cond.selects RX11 yX11_reach yX11_reach ∈ TB := tbm (tq2 (List.mem_of_getElem? (i := 217) (by decide +kernel))) (by decide +kernel)
theorem mi_X11_reach : MI yX11_reach cX11_reach 3 (some .int) 2 := ⟨wc_X11_reach, wn_X11, ⟨by decide +kernel, by decide +kernel, by decide +kernel⟩, wi_X11_reach, ws_X11_reach⟩
theorem wl_L_36 : Cond.methodLink RL 36 yX11_reach ∈ TB := tbm (tq2 (List.mem_of_getElem? (i := 215) (by decide +kernel))) (by decide +kernel)
theorem dL_law_408 : decode cL_law 408 = .ok (.invokevirtual 36, 3) := dl_182 (by decide +kernel)
set_option maxRecDepth 100000 in
set_option maxHeartbeats 4000000 in
theorem lx_reach {X : XT} {E : EV} {ro wT pre : va_W} {lv : List (Nat × Value)} {rest : List Value} {kC nC : Nat} {hx h qp qs qj ly qh kk rd pg ss : Nat} {ac np kc pe : Nat} {kn : Int32} {mN : AM} {w_now : va_W} {v0 : Int32} {v1 : Int32}  (C : CX X room_1 cL_law 4 RL ret E) (hW : Nat.ble (rest.map fun v => v.category).sum 8 = true) (hT : wT = pre ++ ro) (hk : kC + 0 ≤ 600000 ∧ nC + 0 ≤ 7302250) (hac : ac ≤ 8) (hnp : np < 8) (hkc : kc ≤ 4) (hpe : pe ≤ 4) (H_now : ok_now E ro h mN w_now) (kont : ∀ (rr : Int32) (w_nowZ : va_W), ok_now E ro h mN w_nowZ → (rr = ansReach mN v0 v1) → WW X 4 E 411 lv (.int rr :: rest) ([(hx, .inr (11, [.ref h, .ref qp, .int (nI ac), .int (nI np), .ref qs, .ref qj, .ref ly, .ref qh, .ref kk, .int (nI kc), .ref rd, .ref pg, .int (nI pe), .int kn, .ref ss]))] ++ (w_nowZ ++ wT)) kC nC) : WW X 4 E 408 lv (.int v1 :: .int v0 :: .ref hx :: rest) ([(hx, .inr (11, [.ref h, .ref qp, .int (nI ac), .int (nI np), .ref qs, .ref qj, .ref ly, .ref qh, .ref kk, .int (nI kc), .ref rd, .ref pg, .int (nI pe), .int kn, .ref ss]))] ++ (w_now ++ wT)) kC nC := by
  unfold ok_now at H_now
  refine ex6 H_now ?_
  clear H_now
  intro n r a b f gg H_now
  refine an4 H_now ?_
  clear H_now
  intro we_now hn hr hwfm H_now
  have hmN := H_now
  clear H_now
  subst we_now
  subst hmN
  refine ww_eq (ws' := [(hx, .inr (11, [.ref h, .ref qp, .int (nI ac), .int (nI np), .ref qs, .ref qj, .ref ly, .ref qh, .ref kk, .int (nI kc), .ref rd, .ref pg, .int (nI pe), .int kn, .ref ss])), (h, .inr (4, [.int (nI n), .int (nI r), .ref a, .ref b])), (a, .inl (E.2.1 1, 24, .inl f)), (b, .inl (E.2.1 1, 96, .inl gg))] ++ wT) ?_ rfl rfl rfl
  refine ww_ciT (k' := kC) (n' := nC) (wr := []) C (run_V (As := [.int v0, .int v1]) (rest := rest) C (x_reach X.2.1 E ro hx v0 v1 h qp ac np qs qj ly qh kk kc rd pg pe kn ss n r a b f gg (by first | assumption | omega) (by first | assumption | omega) (by first | assumption | omega) (by first | assumption | omega) (by first | assumption | omega) (by first | assumption | omega) (by first | assumption | omega)) mi_X11_reach wl_L_36 rfl 0 11 rfl rfl rfl rfl hW dL_law_408) (roT (pre := pre) [0, 1, 2, 3] rfl hT) [0, 1, 2, 3] [] rfl rfl rfl ⟨by omega, by omega, hk.1, hk.2⟩ (fun rr u hw => ?_)
  refine an1 hw ?_
  clear hw
  intro he_u hw
  have h_1 := hw
  clear hw
  subst he_u
  refine ww_subT (w1 := [(hx, .inr (11, [.ref h, .ref qp, .int (nI ac), .int (nI np), .ref qs, .ref qj, .ref ly, .ref qh, .ref kk, .int (nI kc), .ref rd, .ref pg, .int (nI pe), .int kn, .ref ss])), (h, .inr (4, [.int (nI n), .int (nI r), .ref a, .ref b])), (a, .inl (E.2.1 1, 24, .inl f)), (b, .inl (E.2.1 1, 96, .inl gg))]) [0, 1, 2, 3] rfl rfl ?_
  exact kont rr  [(h, .inr (4, [.int (nI n), .int (nI r), .ref a, .ref b])), (a, .inl (E.2.1 1, 24, .inl f)), (b, .inl (E.2.1 1, 96, .inl gg))]  ⟨n, r, a, b, f, gg, rfl, (by first | assumption | omega), (by first | assumption | omega), (by first | assumption | omega), rfl⟩ (h_1)
theorem wc_X11_feed : Cond.code yX11_feed cX11_feed 3 (some .int) ∈ TB := tbm (tq2 (List.mem_of_getElem? (i := 233) (rfl))) (by decide +kernel)
theorem wi_X11_feed : Cond.instanceMethod yX11_feed ∈ TB := tbm (tq2 (List.mem_of_getElem? (i := 231) (by decide +kernel))) (by decide +kernel)
theorem ws_X11_feed : Cond.selects RX11 yX11_feed yX11_feed ∈ TB := tbm (tq2 (List.mem_of_getElem? (i := 232) (by decide +kernel))) (by decide +kernel)
theorem mi_X11_feed : MI yX11_feed cX11_feed 3 (some .int) 1 := ⟨wc_X11_feed, wn_X11, ⟨by decide +kernel, by decide +kernel, by decide +kernel⟩, wi_X11_feed, ws_X11_feed⟩
theorem wl_L_42 : Cond.methodLink RL 42 yX11_feed ∈ TB := tbm (tq2 (List.mem_of_getElem? (i := 230) (by decide +kernel))) (by decide +kernel)
theorem dL_law_451 : decode cL_law 451 = .ok (.invokevirtual 42, 3) := dl_182 (by decide +kernel)
set_option maxRecDepth 100000 in
set_option maxHeartbeats 4000000 in
theorem lx_feed {X : XT} {E : EV} {ro wT pre : va_W} {lv : List (Nat × Value)} {rest : List Value} {kC nC : Nat} {hx h qp qs qj ly qh kk rd pg ss : Nat} {ac np kc pe : Nat} {kn : Int32} {tl : Nat} {ct : Nat → Int} {w_pars : va_W} {v0 : Int64}  (C : CX X room_1 cL_law 4 RL ret E) (hW : Nat.ble (rest.map fun v => v.category).sum 8 = true) (hT : wT = pre ++ ro) (hk : kC + 0 ≤ 600000 ∧ nC + 0 ≤ 7302250) (hac : ac ≤ 8) (hnp : np < 8) (hkc : kc ≤ 4) (hpe : pe ≤ 4) (H_pars : ok_pars E ro qs tl ct w_pars) (kont : ∀ (rr : Int32) (tlZ : Nat) (ctZ : Nat → Int) (w_parsZ : va_W), ok_pars E ro qs tlZ ctZ w_parsZ → ((tl + 8 ≤ 160 ∧ tlZ = tl + 8 ∧ ctZ = czf ct tl v0 ∧ rr = nI (tl + 8)) ∨ (160 < tl + 8 ∧ tlZ = tl ∧ ctZ = ct ∧ rr = -3)) → WW X 4 E 454 lv (.int rr :: rest) ([(hx, .inr (11, [.ref h, .ref qp, .int (nI ac), .int (nI np), .ref qs, .ref qj, .ref ly, .ref qh, .ref kk, .int (nI kc), .ref rd, .ref pg, .int (nI pe), .int kn, .ref ss]))] ++ (w_parsZ ++ wT)) kC nC) : WW X 4 E 451 lv (.long v0 :: .ref hx :: rest) ([(hx, .inr (11, [.ref h, .ref qp, .int (nI ac), .int (nI np), .ref qs, .ref qj, .ref ly, .ref qh, .ref kk, .int (nI kc), .ref rd, .ref pg, .int (nI pe), .int kn, .ref ss]))] ++ (w_pars ++ wT)) kC nC := by
  unfold ok_pars at H_pars
  refine ex8 H_pars ?_
  clear H_pars
  intro qt po pa pf pd nd tn an H_pars
  refine ex8 H_pars ?_
  clear H_pars
  intro wr pl tb ta tk ts fb fo H_pars
  refine ex3 H_pars ?_
  clear H_pars
  intro pfa af fd H_pars
  refine an2 H_pars ?_
  clear H_pars
  intro we_pars htl H_pars
  have hct := H_pars
  clear H_pars
  subst we_pars
  subst hct
  refine ww_eq (ws' := [(hx, .inr (11, [.ref h, .ref qp, .int (nI ac), .int (nI np), .ref qs, .ref qj, .ref ly, .ref qh, .ref kk, .int (nI kc), .ref rd, .ref pg, .int (nI pe), .int kn, .ref ss])), (qs, .inr (5, [.ref qt, .ref po, .ref pa, .ref pf, .ref pd, .int nd, .int tn, .int an, .int wr, .int pl])), (qt, .inr (10, [.ref tb, .int (nI tl), .int ta, .int tk, .int ts])), (tb, .inl (E.2.1 0, 160, .inl fb)), (po, .inl (E.2.1 1, 32, .inl fo)), (pa, .inl (E.2.1 1, 32, .inl pfa)), (pf, .inl (E.2.1 1, 2, .inl af)), (pd, .inl (E.2.1 1, 32, .inl fd))] ++ wT) ?_ rfl rfl rfl
  refine ww_ciT (k' := kC) (n' := nC) (wr := [(po, .inl (E.2.1 1, 32, .inl fo)), (pa, .inl (E.2.1 1, 32, .inl pfa)), (pf, .inl (E.2.1 1, 2, .inl af)), (pd, .inl (E.2.1 1, 32, .inl fd))]) C (run_V (As := [.long v0]) (rest := rest) C (x_feed X.2.1 E ro hx v0 h qp ac np qs qj ly qh kk kc rd pg pe kn ss qt po pa pf pd nd tn an wr pl tb tl ta tk ts fb (by first | assumption | omega) (by first | assumption | omega) (by first | assumption | omega) (by first | assumption | omega) (by first | assumption | omega)) mi_X11_feed wl_L_42 rfl 0 11 rfl rfl rfl rfl hW dL_law_451) (roT (pre := pre) [0, 1, 2, 3] rfl hT) [0, 1, 2, 3] [4, 5, 6, 7] rfl rfl (plk (by decide +kernel)) ⟨by omega, by omega, hk.1, hk.2⟩ (fun rr u hw => ?_)
  rcases hw with hw | hw
  · refine ex1 hw ?_
    clear hw
    intro fb2_1 hw
    refine an3 hw ?_
    clear hw
    intro he_r he_u h_2 hw
    have h_3 := hw
    clear hw
    have he_r := he_r.symm
    subst he_r
    subst he_u
    refine ww_subT (w1 := [(hx, .inr (11, [.ref h, .ref qp, .int (nI ac), .int (nI np), .ref qs, .ref qj, .ref ly, .ref qh, .ref kk, .int (nI kc), .ref rd, .ref pg, .int (nI pe), .int kn, .ref ss])), (qs, .inr (5, [.ref qt, .ref po, .ref pa, .ref pf, .ref pd, .int nd, .int tn, .int an, .int wr, .int pl])), (qt, .inr (10, [.ref tb, .int (nI (tl + 8)), .int ta, .int tk, .int ts])), (tb, .inl (E.2.1 0, 160, .inl fb2_1)), (po, .inl (E.2.1 1, 32, .inl fo)), (pa, .inl (E.2.1 1, 32, .inl pfa)), (pf, .inl (E.2.1 1, 2, .inl af)), (pd, .inl (E.2.1 1, 32, .inl fd))]) [4, 5, 6, 7, 0, 1, 2, 3] (ndk (by decide +kernel)) (gqk (by eq_refl)) ?_
    exact kont (nI (tl + 8)) (tl + 8) (cz fb2_1 (tl + 8)) [(qs, .inr (5, [.ref qt, .ref po, .ref pa, .ref pf, .ref pd, .int nd, .int tn, .int an, .int wr, .int pl])), (qt, .inr (10, [.ref tb, .int (nI (tl + 8)), .int ta, .int tk, .int ts])), (tb, .inl (E.2.1 0, 160, .inl fb2_1)), (po, .inl (E.2.1 1, 32, .inl fo)), (pa, .inl (E.2.1 1, 32, .inl pfa)), (pf, .inl (E.2.1 1, 2, .inl af)), (pd, .inl (E.2.1 1, 32, .inl fd))]  ⟨qt, po, pa, pf, pd, nd, tn, an, wr, pl, tb, ta, tk, ts, fb2_1, fo, pfa, af, fd, rfl, (by first | assumption | omega), rfl⟩ (Or.inl ⟨h_2, rfl, cz_by h_3, rfl⟩)
  · refine an2 hw ?_
    clear hw
    intro he_r he_u hw
    have h_4 := hw
    clear hw
    have he_r := he_r.symm
    subst he_r
    subst he_u
    refine ww_subT (w1 := [(hx, .inr (11, [.ref h, .ref qp, .int (nI ac), .int (nI np), .ref qs, .ref qj, .ref ly, .ref qh, .ref kk, .int (nI kc), .ref rd, .ref pg, .int (nI pe), .int kn, .ref ss])), (qs, .inr (5, [.ref qt, .ref po, .ref pa, .ref pf, .ref pd, .int nd, .int tn, .int an, .int wr, .int pl])), (qt, .inr (10, [.ref tb, .int (nI tl), .int ta, .int tk, .int ts])), (tb, .inl (E.2.1 0, 160, .inl fb)), (po, .inl (E.2.1 1, 32, .inl fo)), (pa, .inl (E.2.1 1, 32, .inl pfa)), (pf, .inl (E.2.1 1, 2, .inl af)), (pd, .inl (E.2.1 1, 32, .inl fd))]) [4, 5, 6, 7, 0, 1, 2, 3] (ndk (by decide +kernel)) (gqk (by eq_refl)) ?_
    exact kont (-3) tl (cz fb tl) [(qs, .inr (5, [.ref qt, .ref po, .ref pa, .ref pf, .ref pd, .int nd, .int tn, .int an, .int wr, .int pl])), (qt, .inr (10, [.ref tb, .int (nI tl), .int ta, .int tk, .int ts])), (tb, .inl (E.2.1 0, 160, .inl fb)), (po, .inl (E.2.1 1, 32, .inl fo)), (pa, .inl (E.2.1 1, 32, .inl pfa)), (pf, .inl (E.2.1 1, 2, .inl af)), (pd, .inl (E.2.1 1, 32, .inl fd))]  ⟨qt, po, pa, pf, pd, nd, tn, an, wr, pl, tb, ta, tk, ts, fb, fo, pfa, af, fd, rfl, (by first | assumption | omega), rfl⟩ (Or.inr (⟨h_4, rfl, rfl, rfl⟩))
end
section
theorem wc_X11_end : Cond.code yX11_end cX11_end 3 (some .int) ∈ TB := tbm (tq3 (List.mem_of_getElem? (i := 1) (rfl))) (by decide +kernel)
theorem wi_X11_end : Cond.instanceMethod yX11_end ∈ TB := tbm (tq2 (List.mem_of_getElem? (i := 239) (by decide +kernel))) (by decide +kernel)
theorem ws_X11_end : Cond.selects RX11 yX11_end yX11_end ∈ TB := tbm (tq3 (List.mem_of_getElem? (i := 0) (by decide +kernel))) (by decide +kernel)
theorem mi_X11_end : MI yX11_end cX11_end 3 (some .int) 1 := ⟨wc_X11_end, wn_X11, ⟨by decide +kernel, by decide +kernel, by decide +kernel⟩, wi_X11_end, ws_X11_end⟩
theorem wl_L_47 : Cond.methodLink RL 47 yX11_end ∈ TB := tbm (tq2 (List.mem_of_getElem? (i := 238) (by decide +kernel))) (by decide +kernel)
theorem dL_law_489 : decode cL_law 489 = .ok (.invokevirtual 47, 3) := dl_182 (by decide +kernel)
set_option maxRecDepth 100000 in
set_option maxHeartbeats 4000000 in
theorem lx_end {X : XT} {E : EV} {ro wT pre : va_W} {lv : List (Nat × Value)} {rest : List Value} {kC nC : Nat} {hx h qp qs qj ly qh kk rd pg ss : Nat} {ac np kc pe : Nat} {kn : Int32} {tl : Nat} {ct : Nat → Int} {w_pars : va_W} {v0 : Int32}  (C : CX X room_1 cL_law 4 RL ret E) (hW : Nat.ble (rest.map fun v => v.category).sum 8 = true) (hT : wT = pre ++ ro) (hk : kC + 0 ≤ 600000 ∧ nC + 0 ≤ 7302250) (hac : ac ≤ 8) (hnp : np < 8) (hkc : kc ≤ 4) (hpe : pe ≤ 4) (H_pars : ok_pars E ro qs tl ct w_pars) (kont : ∀ (rr : Int32) (tlZ : Nat) (ctZ : Nat → Int) (w_parsZ : va_W), ok_pars E ro qs tlZ ctZ w_parsZ → (((v0.toInt < 0 ∨ (tl : Int) < v0.toInt) ∧ tlZ = tl ∧ ctZ = ct ∧ rr = -1) ∨ (v0 = nI tlZ ∧ tlZ ≤ tl ∧ ctZ = cze ct tlZ ∧ rr = nI tl)) → WW X 4 E 492 lv (.int rr :: rest) ([(hx, .inr (11, [.ref h, .ref qp, .int (nI ac), .int (nI np), .ref qs, .ref qj, .ref ly, .ref qh, .ref kk, .int (nI kc), .ref rd, .ref pg, .int (nI pe), .int kn, .ref ss]))] ++ (w_parsZ ++ wT)) kC nC) : WW X 4 E 489 lv (.int v0 :: .ref hx :: rest) ([(hx, .inr (11, [.ref h, .ref qp, .int (nI ac), .int (nI np), .ref qs, .ref qj, .ref ly, .ref qh, .ref kk, .int (nI kc), .ref rd, .ref pg, .int (nI pe), .int kn, .ref ss]))] ++ (w_pars ++ wT)) kC nC := by
  unfold ok_pars at H_pars
  refine ex8 H_pars ?_
  clear H_pars
  intro qt po pa pf pd nd tn an H_pars
  refine ex8 H_pars ?_
  clear H_pars
  intro wr pl tb ta tk ts fb fo H_pars
  refine ex3 H_pars ?_
  clear H_pars
  intro pfa af fd H_pars
  refine an2 H_pars ?_
  clear H_pars
  intro we_pars htl H_pars
  have hct := H_pars
  clear H_pars
  subst we_pars
  subst hct
  refine ww_eq (ws' := [(hx, .inr (11, [.ref h, .ref qp, .int (nI ac), .int (nI np), .ref qs, .ref qj, .ref ly, .ref qh, .ref kk, .int (nI kc), .ref rd, .ref pg, .int (nI pe), .int kn, .ref ss])), (qs, .inr (5, [.ref qt, .ref po, .ref pa, .ref pf, .ref pd, .int nd, .int tn, .int an, .int wr, .int pl])), (qt, .inr (10, [.ref tb, .int (nI tl), .int ta, .int tk, .int ts])), (tb, .inl (E.2.1 0, 160, .inl fb)), (po, .inl (E.2.1 1, 32, .inl fo)), (pa, .inl (E.2.1 1, 32, .inl pfa)), (pf, .inl (E.2.1 1, 2, .inl af)), (pd, .inl (E.2.1 1, 32, .inl fd))] ++ wT) ?_ rfl rfl rfl
  refine ww_ciT (k' := kC) (n' := nC) (wr := [(po, .inl (E.2.1 1, 32, .inl fo)), (pa, .inl (E.2.1 1, 32, .inl pfa)), (pf, .inl (E.2.1 1, 2, .inl af)), (pd, .inl (E.2.1 1, 32, .inl fd))]) C (run_V (As := [.int v0]) (rest := rest) C (x_end X.2.1 E ro hx v0 h qp ac np qs qj ly qh kk kc rd pg pe kn ss qt po pa pf pd nd tn an wr pl tb tl ta tk ts fb (by first | assumption | omega) (by first | assumption | omega) (by first | assumption | omega) (by first | assumption | omega) (by first | assumption | omega)) mi_X11_end wl_L_47 rfl 0 11 rfl rfl rfl rfl hW dL_law_489) (roT (pre := pre) [0, 1, 2, 3] rfl hT) [0, 1, 2, 3] [4, 5, 6, 7] rfl rfl (plk (by decide +kernel)) ⟨by omega, by omega, hk.1, hk.2⟩ (fun rr u hw => ?_)
  rcases hw with hw | hw
  · refine an2 hw ?_
    clear hw
    intro he_r he_u hw
    have h_1 := hw
    clear hw
    have he_r := he_r.symm
    subst he_r
    subst he_u
    refine ww_subT (w1 := [(hx, .inr (11, [.ref h, .ref qp, .int (nI ac), .int (nI np), .ref qs, .ref qj, .ref ly, .ref qh, .ref kk, .int (nI kc), .ref rd, .ref pg, .int (nI pe), .int kn, .ref ss])), (qs, .inr (5, [.ref qt, .ref po, .ref pa, .ref pf, .ref pd, .int nd, .int tn, .int an, .int wr, .int pl])), (qt, .inr (10, [.ref tb, .int (nI tl), .int ta, .int tk, .int ts])), (tb, .inl (E.2.1 0, 160, .inl fb)), (po, .inl (E.2.1 1, 32, .inl fo)), (pa, .inl (E.2.1 1, 32, .inl pfa)), (pf, .inl (E.2.1 1, 2, .inl af)), (pd, .inl (E.2.1 1, 32, .inl fd))]) [4, 5, 6, 7, 0, 1, 2, 3] (ndk (by decide +kernel)) (gqk (by eq_refl)) ?_
    exact kont (-1) tl (cz fb tl) [(qs, .inr (5, [.ref qt, .ref po, .ref pa, .ref pf, .ref pd, .int nd, .int tn, .int an, .int wr, .int pl])), (qt, .inr (10, [.ref tb, .int (nI tl), .int ta, .int tk, .int ts])), (tb, .inl (E.2.1 0, 160, .inl fb)), (po, .inl (E.2.1 1, 32, .inl fo)), (pa, .inl (E.2.1 1, 32, .inl pfa)), (pf, .inl (E.2.1 1, 2, .inl af)), (pd, .inl (E.2.1 1, 32, .inl fd))]  ⟨qt, po, pa, pf, pd, nd, tn, an, wr, pl, tb, ta, tk, ts, fb, fo, pfa, af, fd, rfl, (by first | assumption | omega), rfl⟩ (Or.inl ⟨h_1, rfl, rfl, rfl⟩)
  · refine ex1 hw ?_
    clear hw
    intro tlz_2 hw
    refine an3 hw ?_
    clear hw
    intro he_r he_u h_3 hw
    have h_4 := hw
    clear hw
    have he_r := he_r.symm
    subst he_r
    subst he_u
    refine ww_subT (w1 := [(hx, .inr (11, [.ref h, .ref qp, .int (nI ac), .int (nI np), .ref qs, .ref qj, .ref ly, .ref qh, .ref kk, .int (nI kc), .ref rd, .ref pg, .int (nI pe), .int kn, .ref ss])), (qs, .inr (5, [.ref qt, .ref po, .ref pa, .ref pf, .ref pd, .int nd, .int tn, .int an, .int wr, .int pl])), (qt, .inr (10, [.ref tb, .int (nI tlz_2), .int ta, .int tk, .int ts])), (tb, .inl (E.2.1 0, 160, .inl fb)), (po, .inl (E.2.1 1, 32, .inl fo)), (pa, .inl (E.2.1 1, 32, .inl pfa)), (pf, .inl (E.2.1 1, 2, .inl af)), (pd, .inl (E.2.1 1, 32, .inl fd))]) [4, 5, 6, 7, 0, 1, 2, 3] (ndk (by decide +kernel)) (gqk (by eq_refl)) ?_
    exact kont (nI tl) tlz_2 (cz fb tlz_2) [(qs, .inr (5, [.ref qt, .ref po, .ref pa, .ref pf, .ref pd, .int nd, .int tn, .int an, .int wr, .int pl])), (qt, .inr (10, [.ref tb, .int (nI tlz_2), .int ta, .int tk, .int ts])), (tb, .inl (E.2.1 0, 160, .inl fb)), (po, .inl (E.2.1 1, 32, .inl fo)), (pa, .inl (E.2.1 1, 32, .inl pfa)), (pf, .inl (E.2.1 1, 2, .inl af)), (pd, .inl (E.2.1 1, 32, .inl fd))]  ⟨qt, po, pa, pf, pd, nd, tn, an, wr, pl, tb, ta, tk, ts, fb, fo, pfa, af, fd, rfl, (by first | assumption | omega), rfl⟩ (Or.inr (⟨h_3, h_4, cz_e h_4, rfl⟩))
theorem wc_X11_say : Cond.code yX11_say cX11_say 3 (some .int) ∈ TB := tbm (tq3 (List.mem_of_getElem? (i := 5) (rfl))) (by decide +kernel)
theorem wi_X11_say : Cond.instanceMethod yX11_say ∈ TB := tbm (tq3 (List.mem_of_getElem? (i := 3) (by decide +kernel))) (by decide +kernel)
theorem ws_X11_say : Cond.selects RX11 yX11_say yX11_say ∈ TB := tbm (tq3 (List.mem_of_getElem? (i := 4) (by decide +kernel))) (by decide +kernel)
theorem mi_X11_say : MI yX11_say cX11_say 3 (some .int) 1 := ⟨wc_X11_say, wn_X11, ⟨by decide +kernel, by decide +kernel, by decide +kernel⟩, wi_X11_say, ws_X11_say⟩
theorem wl_L_51 : Cond.methodLink RL 51 yX11_say ∈ TB := tbm (tq3 (List.mem_of_getElem? (i := 2) (by decide +kernel))) (by decide +kernel)
theorem dL_law_512 : decode cL_law 512 = .ok (.invokevirtual 51, 3) := dl_182 (by decide +kernel)
set_option maxRecDepth 100000 in
set_option maxHeartbeats 4000000 in
theorem lx_say {X : XT} {E : EV} {ro wT pre : va_W} {lv : List (Nat × Value)} {rest : List Value} {kC nC : Nat} {hx h qp qs qj ly qh kk rd pg ss : Nat} {ac np kc pe : Nat} {kn : Int32} {tl : Nat} {ct : Nat → Int} {tT : Nat → Option SVal} {ec : Nat → Nat} {er : Nat → Nat} {ed : Nat → Nat → Int32} {eT : Nat → Nat → Option SVal} {eb : Nat → Nat → Int32} {en : Nat → Nat → Int32} {w_pars : va_W} {w_judg : va_W} {v0 : Int32}  (C : CX X room_1 cL_law 4 RL ret E) (hW : Nat.ble (rest.map fun v => v.category).sum 8 = true) (hT : wT = pre ++ ro) (hk : kC + 4 ≤ 600000 ∧ nC + 73 ≤ 7302250) (hac : ac ≤ 8) (hnp : np < 8) (hkc : kc ≤ 4) (hpe : pe ≤ 4) (H_pars : ok_pars E ro qs tl ct w_pars) (H_judg : ok_judg E ro qj tT ec er ed eT eb en w_judg) (kont : ∀ (rr : Int32) (tlZ : Nat) (ctZ : Nat → Int) (tTZ : Nat → Option SVal) (w_parsZ : va_W) (w_judgZ : va_W) (roZ : va_W), ok_pars E roZ qs tlZ ctZ w_parsZ → ok_judg E roZ qj tTZ ec er ed eT eb en w_judgZ → (roZ = ro ∨ ∃ new : va_W, roZ = new ++ ro) → (((v0.toInt < 0 ∨ 7 < v0.toInt) ∧ tlZ = tl ∧ ctZ = ct ∧ tTZ = tT ∧ rr = -1) ∨ (0 ≤ v0.toInt ∧ v0.toInt ≤ 7 ∧ tlZ = 0 ∧ ctZ = cze ct 0 ∧ ((∃ l, SBAD ct l ∧ rr = (-10 : Int32) - nI l ∧ tTZ = tT) ∨ ∃ jk p n v w K m S, v0 = nI jk ∧ jk ≤ 7 ∧ SOK ct p n v w K m ∧ rr = nI m ∧ tTZ = va_up tT jk (some S) ∧ sNa S = n ∧ S.1 = K ∧ (1 ≤ K ∧ K ≤ 32) ∧ OPX ct p K S.2.1 S.2.2.1 ∧ (0 < n → S.2.2.2.1 0 = nI v) ∧ (1 < n → S.2.2.2.1 1 = nI w) ∧ AFI n S.2.2.2.1 ∧ S.2.2.2.2.1 = m ∧ S.2.2.2.2.2.1 = nI (dPl S.1 S.2.1) ∧ S.2.2.2.2.2.2.1 = nPl S.2.1 S.2.2.1 S.1))) → WW X 4 E 515 lv (.int rr :: rest) ([(hx, .inr (11, [.ref h, .ref qp, .int (nI ac), .int (nI np), .ref qs, .ref qj, .ref ly, .ref qh, .ref kk, .int (nI kc), .ref rd, .ref pg, .int (nI pe), .int kn, .ref ss]))] ++ (w_parsZ ++ (w_judgZ ++ (pre ++ roZ)))) (kC + 4) (nC + 73)) : WW X 4 E 512 lv (.int v0 :: .ref hx :: rest) ([(hx, .inr (11, [.ref h, .ref qp, .int (nI ac), .int (nI np), .ref qs, .ref qj, .ref ly, .ref qh, .ref kk, .int (nI kc), .ref rd, .ref pg, .int (nI pe), .int kn, .ref ss]))] ++ (w_pars ++ (w_judg ++ wT))) kC nC := by
  subst hT
  unfold ok_pars at H_pars
  refine ex8 H_pars ?_
  clear H_pars
  intro qt po pa pf pd nd tn an H_pars
  refine ex8 H_pars ?_
  clear H_pars
  intro wr pl tb ta tk ts fb fo H_pars
  refine ex3 H_pars ?_
  clear H_pars
  intro pfa af fd H_pars
  refine an2 H_pars ?_
  clear H_pars
  intro we_pars htl H_pars
  have hct := H_pars
  clear H_pars
  subst we_pars
  subst hct
  unfold ok_judg at H_judg
  refine ex8 H_judg ?_
  clear H_judg
  intro jt je ju ja ft fe e0 e1 H_judg
  refine ex8 H_judg ?_
  clear H_judg
  intro e2 e3 fa la0 la1 e0cs e0rc e0a H_judg
  refine ex8 H_judg ?_
  clear H_judg
  intro e0b e0c e0d e0fi e0fb e0fc e0fd e1cs H_judg
  refine ex8 H_judg ?_
  clear H_judg
  intro e1rc e1a e1b e1c e1d e1fi e1fb e1fc H_judg
  refine ex8 H_judg ?_
  clear H_judg
  intro e1fd e2cs e2rc e2a e2b e2c e2d e2fi H_judg
  refine ex8 H_judg ?_
  clear H_judg
  intro e2fb e2fc e2fd e3cs e3rc e3a e3b e3c H_judg
  refine ex8 H_judg ?_
  clear H_judg
  intro e3d e3fi e3fb e3fc e3fd la0m la0p la0w H_judg
  refine ex8 H_judg ?_
  clear H_judg
  intro la0c la0f la0q la0fc la0ff la0fq la0n la0r H_judg
  refine ex8 H_judg ?_
  clear H_judg
  intro la0x la0y la0gx la0gy la1m la1p la1w la1c H_judg
  refine ex8 H_judg ?_
  clear H_judg
  intro la1f la1q la1fc la1ff la1fq la1n la1r la1x H_judg
  refine ex8 H_judg ?_
  clear H_judg
  intro la1y la1gx la1gy fto e0T e1T e2T e3T H_judg
  refine an8 H_judg ?_
  clear H_judg
  intro we_judg k_fe_0 k_fe_1 k_fe_2 k_fe_3 k_fa_0 k_fa_1 he0cs H_judg
  refine an8 H_judg ?_
  clear H_judg
  intro he0rc he0fi he1cs he1rc he1fi he2cs he2rc he2fi H_judg
  refine an8 H_judg ?_
  clear H_judg
  intro he3cs he3rc he3fi hla0n hla0r hla1n hla1r hto H_judg
  refine an5 H_judg ?_
  clear H_judg
  intro hec her hed heT heb H_judg
  have hen := H_judg
  clear H_judg
  subst we_judg
  subst hec
  subst her
  subst hed
  subst heT
  subst heb
  subst hen
  refine ww_eq (ws' := [(hx, .inr (11, [.ref h, .ref qp, .int (nI ac), .int (nI np), .ref qs, .ref qj, .ref ly, .ref qh, .ref kk, .int (nI kc), .ref rd, .ref pg, .int (nI pe), .int kn, .ref ss])), (qs, .inr (5, [.ref qt, .ref po, .ref pa, .ref pf, .ref pd, .int nd, .int tn, .int an, .int wr, .int pl])), (qt, .inr (10, [.ref tb, .int (nI tl), .int ta, .int tk, .int ts])), (tb, .inl (E.2.1 0, 160, .inl fb)), (po, .inl (E.2.1 1, 32, .inl fo)), (pa, .inl (E.2.1 1, 32, .inl pfa)), (pf, .inl (E.2.1 1, 2, .inl af)), (pd, .inl (E.2.1 1, 32, .inl fd)), (qj, .inr (2, [.ref jt, .ref je, .ref ju, .ref ja])), (ju, .inl (E.2.1 1, 32, .inl ft)), (je, .inl (E.2.1 4, 4, .inr (.inr (.inr (.inr fe))))), (ja, .inl (E.2.1 5, 2, .inr (.inr (.inr (.inr fa))))), (e0, .inr (0, [.int (nI e0cs), .int (nI e0rc), .ref e0a, .ref e0b, .ref e0c, .ref e0d])), (e0a, .inl (E.2.1 7, 4, .inr (.inr (.inr (.inr e0fi))))), (e0b, .inl (E.2.1 1, 4, .inl e0fb)), (e0c, .inl (E.2.1 1, 4, .inl e0fc)), (e0d, .inl (E.2.1 1, 16, .inl e0fd)), (e1, .inr (0, [.int (nI e1cs), .int (nI e1rc), .ref e1a, .ref e1b, .ref e1c, .ref e1d])), (e1a, .inl (E.2.1 7, 4, .inr (.inr (.inr (.inr e1fi))))), (e1b, .inl (E.2.1 1, 4, .inl e1fb)), (e1c, .inl (E.2.1 1, 4, .inl e1fc)), (e1d, .inl (E.2.1 1, 16, .inl e1fd)), (e2, .inr (0, [.int (nI e2cs), .int (nI e2rc), .ref e2a, .ref e2b, .ref e2c, .ref e2d])), (e2a, .inl (E.2.1 7, 4, .inr (.inr (.inr (.inr e2fi))))), (e2b, .inl (E.2.1 1, 4, .inl e2fb)), (e2c, .inl (E.2.1 1, 4, .inl e2fc)), (e2d, .inl (E.2.1 1, 16, .inl e2fd)), (e3, .inr (0, [.int (nI e3cs), .int (nI e3rc), .ref e3a, .ref e3b, .ref e3c, .ref e3d])), (e3a, .inl (E.2.1 7, 4, .inr (.inr (.inr (.inr e3fi))))), (e3b, .inl (E.2.1 1, 4, .inl e3fb)), (e3c, .inl (E.2.1 1, 4, .inl e3fc)), (e3d, .inl (E.2.1 1, 16, .inl e3fd)), (la0, .inr (3, [.ref la0m, .int la0p, .int la0w, .ref la0c, .ref la0f, .ref la0q])), (la0c, .inl (E.2.1 1, 24, .inl la0fc)), (la0f, .inl (E.2.1 1, 24, .inl la0ff)), (la0q, .inl (E.2.1 1, 4, .inl la0fq)), (la0m, .inr (4, [.int (nI la0n), .int (nI la0r), .ref la0x, .ref la0y])), (la0x, .inl (E.2.1 1, 24, .inl la0gx)), (la0y, .inl (E.2.1 1, 96, .inl la0gy)), (la1, .inr (3, [.ref la1m, .int la1p, .int la1w, .ref la1c, .ref la1f, .ref la1q])), (la1c, .inl (E.2.1 1, 24, .inl la1fc)), (la1f, .inl (E.2.1 1, 24, .inl la1ff)), (la1q, .inl (E.2.1 1, 4, .inl la1fq)), (la1m, .inr (4, [.int (nI la1n), .int (nI la1r), .ref la1x, .ref la1y])), (la1x, .inl (E.2.1 1, 24, .inl la1gx)), (la1y, .inl (E.2.1 1, 96, .inl la1gy)), (jt, .inl (E.2.1 7, 8, .inr (.inr (.inr (.inr fto)))))] ++ (pre ++ ro)) ?_ rfl rfl rfl
  refine ww_ciT (k' := (kC + 4)) (n' := (nC + 73)) (wr := [(ju, .inl (E.2.1 1, 32, .inl ft)), (je, .inl (E.2.1 4, 4, .inr (.inr (.inr (.inr fe))))), (ja, .inl (E.2.1 5, 2, .inr (.inr (.inr (.inr fa))))), (e0, .inr (0, [.int (nI e0cs), .int (nI e0rc), .ref e0a, .ref e0b, .ref e0c, .ref e0d])), (e0a, .inl (E.2.1 7, 4, .inr (.inr (.inr (.inr e0fi))))), (e0b, .inl (E.2.1 1, 4, .inl e0fb)), (e0c, .inl (E.2.1 1, 4, .inl e0fc)), (e0d, .inl (E.2.1 1, 16, .inl e0fd)), (e1, .inr (0, [.int (nI e1cs), .int (nI e1rc), .ref e1a, .ref e1b, .ref e1c, .ref e1d])), (e1a, .inl (E.2.1 7, 4, .inr (.inr (.inr (.inr e1fi))))), (e1b, .inl (E.2.1 1, 4, .inl e1fb)), (e1c, .inl (E.2.1 1, 4, .inl e1fc)), (e1d, .inl (E.2.1 1, 16, .inl e1fd)), (e2, .inr (0, [.int (nI e2cs), .int (nI e2rc), .ref e2a, .ref e2b, .ref e2c, .ref e2d])), (e2a, .inl (E.2.1 7, 4, .inr (.inr (.inr (.inr e2fi))))), (e2b, .inl (E.2.1 1, 4, .inl e2fb)), (e2c, .inl (E.2.1 1, 4, .inl e2fc)), (e2d, .inl (E.2.1 1, 16, .inl e2fd)), (e3, .inr (0, [.int (nI e3cs), .int (nI e3rc), .ref e3a, .ref e3b, .ref e3c, .ref e3d])), (e3a, .inl (E.2.1 7, 4, .inr (.inr (.inr (.inr e3fi))))), (e3b, .inl (E.2.1 1, 4, .inl e3fb)), (e3c, .inl (E.2.1 1, 4, .inl e3fc)), (e3d, .inl (E.2.1 1, 16, .inl e3fd)), (la0, .inr (3, [.ref la0m, .int la0p, .int la0w, .ref la0c, .ref la0f, .ref la0q])), (la0c, .inl (E.2.1 1, 24, .inl la0fc)), (la0f, .inl (E.2.1 1, 24, .inl la0ff)), (la0q, .inl (E.2.1 1, 4, .inl la0fq)), (la0m, .inr (4, [.int (nI la0n), .int (nI la0r), .ref la0x, .ref la0y])), (la0x, .inl (E.2.1 1, 24, .inl la0gx)), (la0y, .inl (E.2.1 1, 96, .inl la0gy)), (la1, .inr (3, [.ref la1m, .int la1p, .int la1w, .ref la1c, .ref la1f, .ref la1q])), (la1c, .inl (E.2.1 1, 24, .inl la1fc)), (la1f, .inl (E.2.1 1, 24, .inl la1ff)), (la1q, .inl (E.2.1 1, 4, .inl la1fq)), (la1m, .inr (4, [.int (nI la1n), .int (nI la1r), .ref la1x, .ref la1y])), (la1x, .inl (E.2.1 1, 24, .inl la1gx)), (la1y, .inl (E.2.1 1, 96, .inl la1gy))]) C (run_V (As := [.int v0]) (rest := rest) C (x_say X.2.1 E ro hx v0 h qp ac np qs qj ly qh kk kc rd pg pe kn ss qt po pa pf pd nd tn an wr pl tb tl ta tk ts fb fo pfa af fd jt je ju ja fto tT (by first | assumption | omega) (by first | assumption | omega) (by first | assumption | omega) (by first | assumption | omega) (by first | assumption | omega) hto) mi_X11_say wl_L_51 rfl 0 11 rfl rfl rfl rfl hW dL_law_512) (roT (pre := pre) [0, 1, 2, 3, 4, 5, 6, 7, 8, 46] rfl rfl) [0, 1, 2, 3, 4, 5, 6, 7, 8, 46] [9, 10, 11, 12, 13, 14, 15, 16, 17, 18, 19, 20, 21, 22, 23, 24, 25, 26, 27, 28, 29, 30, 31, 32, 33, 34, 35, 36, 37, 38, 39, 40, 41, 42, 43, 44, 45] (gqk (by eq_refl)) (gqk (by eq_refl)) (plk (by decide +kernel)) ⟨by omega, by omega, hk.1, hk.2⟩ (fun rr u hw => ?_)
  rcases hw with hw | hw | hw
  · refine an2 hw ?_
    clear hw
    intro he_r he_u hw
    have h_1 := hw
    clear hw
    have he_r := he_r.symm
    subst he_r
    subst he_u
    refine ww_subT (w1 := [(hx, .inr (11, [.ref h, .ref qp, .int (nI ac), .int (nI np), .ref qs, .ref qj, .ref ly, .ref qh, .ref kk, .int (nI kc), .ref rd, .ref pg, .int (nI pe), .int kn, .ref ss])), (qs, .inr (5, [.ref qt, .ref po, .ref pa, .ref pf, .ref pd, .int nd, .int tn, .int an, .int wr, .int pl])), (qt, .inr (10, [.ref tb, .int (nI tl), .int ta, .int tk, .int ts])), (tb, .inl (E.2.1 0, 160, .inl fb)), (po, .inl (E.2.1 1, 32, .inl fo)), (pa, .inl (E.2.1 1, 32, .inl pfa)), (pf, .inl (E.2.1 1, 2, .inl af)), (pd, .inl (E.2.1 1, 32, .inl fd)), (qj, .inr (2, [.ref jt, .ref je, .ref ju, .ref ja])), (ju, .inl (E.2.1 1, 32, .inl ft)), (je, .inl (E.2.1 4, 4, .inr (.inr (.inr (.inr fe))))), (ja, .inl (E.2.1 5, 2, .inr (.inr (.inr (.inr fa))))), (e0, .inr (0, [.int (nI e0cs), .int (nI e0rc), .ref e0a, .ref e0b, .ref e0c, .ref e0d])), (e0a, .inl (E.2.1 7, 4, .inr (.inr (.inr (.inr e0fi))))), (e0b, .inl (E.2.1 1, 4, .inl e0fb)), (e0c, .inl (E.2.1 1, 4, .inl e0fc)), (e0d, .inl (E.2.1 1, 16, .inl e0fd)), (e1, .inr (0, [.int (nI e1cs), .int (nI e1rc), .ref e1a, .ref e1b, .ref e1c, .ref e1d])), (e1a, .inl (E.2.1 7, 4, .inr (.inr (.inr (.inr e1fi))))), (e1b, .inl (E.2.1 1, 4, .inl e1fb)), (e1c, .inl (E.2.1 1, 4, .inl e1fc)), (e1d, .inl (E.2.1 1, 16, .inl e1fd)), (e2, .inr (0, [.int (nI e2cs), .int (nI e2rc), .ref e2a, .ref e2b, .ref e2c, .ref e2d])), (e2a, .inl (E.2.1 7, 4, .inr (.inr (.inr (.inr e2fi))))), (e2b, .inl (E.2.1 1, 4, .inl e2fb)), (e2c, .inl (E.2.1 1, 4, .inl e2fc)), (e2d, .inl (E.2.1 1, 16, .inl e2fd)), (e3, .inr (0, [.int (nI e3cs), .int (nI e3rc), .ref e3a, .ref e3b, .ref e3c, .ref e3d])), (e3a, .inl (E.2.1 7, 4, .inr (.inr (.inr (.inr e3fi))))), (e3b, .inl (E.2.1 1, 4, .inl e3fb)), (e3c, .inl (E.2.1 1, 4, .inl e3fc)), (e3d, .inl (E.2.1 1, 16, .inl e3fd)), (la0, .inr (3, [.ref la0m, .int la0p, .int la0w, .ref la0c, .ref la0f, .ref la0q])), (la0c, .inl (E.2.1 1, 24, .inl la0fc)), (la0f, .inl (E.2.1 1, 24, .inl la0ff)), (la0q, .inl (E.2.1 1, 4, .inl la0fq)), (la0m, .inr (4, [.int (nI la0n), .int (nI la0r), .ref la0x, .ref la0y])), (la0x, .inl (E.2.1 1, 24, .inl la0gx)), (la0y, .inl (E.2.1 1, 96, .inl la0gy)), (la1, .inr (3, [.ref la1m, .int la1p, .int la1w, .ref la1c, .ref la1f, .ref la1q])), (la1c, .inl (E.2.1 1, 24, .inl la1fc)), (la1f, .inl (E.2.1 1, 24, .inl la1ff)), (la1q, .inl (E.2.1 1, 4, .inl la1fq)), (la1m, .inr (4, [.int (nI la1n), .int (nI la1r), .ref la1x, .ref la1y])), (la1x, .inl (E.2.1 1, 24, .inl la1gx)), (la1y, .inl (E.2.1 1, 96, .inl la1gy)), (jt, .inl (E.2.1 7, 8, .inr (.inr (.inr (.inr fto)))))]) [37, 38, 39, 40, 41, 42, 43, 44, 45, 0, 1, 2, 3, 4, 5, 6, 7, 8, 9, 10, 11, 12, 13, 14, 15, 16, 17, 18, 19, 20, 21, 22, 23, 24, 25, 26, 27, 28, 29, 30, 31, 32, 33, 34, 35, 36, 46] (ndk (by decide +kernel)) (gqk (by eq_refl)) ?_
    have hk9 := kont (-1) tl (cz fb tl) tT [(qs, .inr (5, [.ref qt, .ref po, .ref pa, .ref pf, .ref pd, .int nd, .int tn, .int an, .int wr, .int pl])), (qt, .inr (10, [.ref tb, .int (nI tl), .int ta, .int tk, .int ts])), (tb, .inl (E.2.1 0, 160, .inl fb)), (po, .inl (E.2.1 1, 32, .inl fo)), (pa, .inl (E.2.1 1, 32, .inl pfa)), (pf, .inl (E.2.1 1, 2, .inl af)), (pd, .inl (E.2.1 1, 32, .inl fd))] [(qj, .inr (2, [.ref jt, .ref je, .ref ju, .ref ja])), (ju, .inl (E.2.1 1, 32, .inl ft)), (je, .inl (E.2.1 4, 4, .inr (.inr (.inr (.inr fe))))), (ja, .inl (E.2.1 5, 2, .inr (.inr (.inr (.inr fa))))), (e0, .inr (0, [.int (nI e0cs), .int (nI e0rc), .ref e0a, .ref e0b, .ref e0c, .ref e0d])), (e0a, .inl (E.2.1 7, 4, .inr (.inr (.inr (.inr e0fi))))), (e0b, .inl (E.2.1 1, 4, .inl e0fb)), (e0c, .inl (E.2.1 1, 4, .inl e0fc)), (e0d, .inl (E.2.1 1, 16, .inl e0fd)), (e1, .inr (0, [.int (nI e1cs), .int (nI e1rc), .ref e1a, .ref e1b, .ref e1c, .ref e1d])), (e1a, .inl (E.2.1 7, 4, .inr (.inr (.inr (.inr e1fi))))), (e1b, .inl (E.2.1 1, 4, .inl e1fb)), (e1c, .inl (E.2.1 1, 4, .inl e1fc)), (e1d, .inl (E.2.1 1, 16, .inl e1fd)), (e2, .inr (0, [.int (nI e2cs), .int (nI e2rc), .ref e2a, .ref e2b, .ref e2c, .ref e2d])), (e2a, .inl (E.2.1 7, 4, .inr (.inr (.inr (.inr e2fi))))), (e2b, .inl (E.2.1 1, 4, .inl e2fb)), (e2c, .inl (E.2.1 1, 4, .inl e2fc)), (e2d, .inl (E.2.1 1, 16, .inl e2fd)), (e3, .inr (0, [.int (nI e3cs), .int (nI e3rc), .ref e3a, .ref e3b, .ref e3c, .ref e3d])), (e3a, .inl (E.2.1 7, 4, .inr (.inr (.inr (.inr e3fi))))), (e3b, .inl (E.2.1 1, 4, .inl e3fb)), (e3c, .inl (E.2.1 1, 4, .inl e3fc)), (e3d, .inl (E.2.1 1, 16, .inl e3fd)), (la0, .inr (3, [.ref la0m, .int la0p, .int la0w, .ref la0c, .ref la0f, .ref la0q])), (la0c, .inl (E.2.1 1, 24, .inl la0fc)), (la0f, .inl (E.2.1 1, 24, .inl la0ff)), (la0q, .inl (E.2.1 1, 4, .inl la0fq)), (la0m, .inr (4, [.int (nI la0n), .int (nI la0r), .ref la0x, .ref la0y])), (la0x, .inl (E.2.1 1, 24, .inl la0gx)), (la0y, .inl (E.2.1 1, 96, .inl la0gy)), (la1, .inr (3, [.ref la1m, .int la1p, .int la1w, .ref la1c, .ref la1f, .ref la1q])), (la1c, .inl (E.2.1 1, 24, .inl la1fc)), (la1f, .inl (E.2.1 1, 24, .inl la1ff)), (la1q, .inl (E.2.1 1, 4, .inl la1fq)), (la1m, .inr (4, [.int (nI la1n), .int (nI la1r), .ref la1x, .ref la1y])), (la1x, .inl (E.2.1 1, 24, .inl la1gx)), (la1y, .inl (E.2.1 1, 96, .inl la1gy)), (jt, .inl (E.2.1 7, 8, .inr (.inr (.inr (.inr fto)))))] ro  ⟨qt, po, pa, pf, pd, nd, tn, an, wr, pl, tb, ta, tk, ts, fb, fo, pfa, af, fd, rfl, (by first | assumption | omega), rfl⟩ ⟨jt, je, ju, ja, ft, fe, e0, e1, e2, e3, fa, la0, la1, e0cs, e0rc, e0a, e0b, e0c, e0d, e0fi, e0fb, e0fc, e0fd, e1cs, e1rc, e1a, e1b, e1c, e1d, e1fi, e1fb, e1fc, e1fd, e2cs, e2rc, e2a, e2b, e2c, e2d, e2fi, e2fb, e2fc, e2fd, e3cs, e3rc, e3a, e3b, e3c, e3d, e3fi, e3fb, e3fc, e3fd, la0m, la0p, la0w, la0c, la0f, la0q, la0fc, la0ff, la0fq, la0n, la0r, la0x, la0y, la0gx, la0gy, la1m, la1p, la1w, la1c, la1f, la1q, la1fc, la1ff, la1fq, la1n, la1r, la1x, la1y, la1gx, la1gy, fto, e0T, e1T, e2T, e3T, rfl, k_fe_0, k_fe_1, k_fe_2, k_fe_3, k_fa_0, k_fa_1, (by first | assumption | omega), (by first | assumption | omega), he0fi, (by first | assumption | omega), (by first | assumption | omega), he1fi, (by first | assumption | omega), (by first | assumption | omega), he2fi, (by first | assumption | omega), (by first | assumption | omega), he3fi, (by first | assumption | omega), (by first | assumption | omega), (by first | assumption | omega), (by first | assumption | omega), hto, rfl, rfl, rfl, rfl, rfl, rfl⟩ (Or.inl rfl) (Or.inl ⟨h_1, rfl, rfl, rfl, rfl⟩)
    exact hk9
  · refine ex8 hw ?_
    clear hw
    intro ndz_2 tnz_3 anz_4 wrz_5 taz_6 tkz_7 tsz_8 plz_9 hw
    refine ex4 hw ?_
    clear hw
    intro foz_10 faz_11 afz_12 fdz_13 hw
    refine an4 hw ?_
    clear hw
    intro he_r he_u h_14 h_15 hw
    have h_16 := hw
    clear hw
    have he_r := he_r.symm
    subst he_r
    subst he_u
    refine ww_subT (w1 := [(hx, .inr (11, [.ref h, .ref qp, .int (nI ac), .int (nI np), .ref qs, .ref qj, .ref ly, .ref qh, .ref kk, .int (nI kc), .ref rd, .ref pg, .int (nI pe), .int kn, .ref ss])), (qs, .inr (5, [.ref qt, .ref po, .ref pa, .ref pf, .ref pd, .int ndz_2, .int tnz_3, .int anz_4, .int wrz_5, .int (nI plz_9)])), (qt, .inr (10, [.ref tb, .int 0, .int taz_6, .int tkz_7, .int tsz_8])), (tb, .inl (E.2.1 0, 160, .inl fb)), (po, .inl (E.2.1 1, 32, .inl foz_10)), (pa, .inl (E.2.1 1, 32, .inl faz_11)), (pf, .inl (E.2.1 1, 2, .inl afz_12)), (pd, .inl (E.2.1 1, 32, .inl fdz_13)), (qj, .inr (2, [.ref jt, .ref je, .ref ju, .ref ja])), (ju, .inl (E.2.1 1, 32, .inl ft)), (je, .inl (E.2.1 4, 4, .inr (.inr (.inr (.inr fe))))), (ja, .inl (E.2.1 5, 2, .inr (.inr (.inr (.inr fa))))), (e0, .inr (0, [.int (nI e0cs), .int (nI e0rc), .ref e0a, .ref e0b, .ref e0c, .ref e0d])), (e0a, .inl (E.2.1 7, 4, .inr (.inr (.inr (.inr e0fi))))), (e0b, .inl (E.2.1 1, 4, .inl e0fb)), (e0c, .inl (E.2.1 1, 4, .inl e0fc)), (e0d, .inl (E.2.1 1, 16, .inl e0fd)), (e1, .inr (0, [.int (nI e1cs), .int (nI e1rc), .ref e1a, .ref e1b, .ref e1c, .ref e1d])), (e1a, .inl (E.2.1 7, 4, .inr (.inr (.inr (.inr e1fi))))), (e1b, .inl (E.2.1 1, 4, .inl e1fb)), (e1c, .inl (E.2.1 1, 4, .inl e1fc)), (e1d, .inl (E.2.1 1, 16, .inl e1fd)), (e2, .inr (0, [.int (nI e2cs), .int (nI e2rc), .ref e2a, .ref e2b, .ref e2c, .ref e2d])), (e2a, .inl (E.2.1 7, 4, .inr (.inr (.inr (.inr e2fi))))), (e2b, .inl (E.2.1 1, 4, .inl e2fb)), (e2c, .inl (E.2.1 1, 4, .inl e2fc)), (e2d, .inl (E.2.1 1, 16, .inl e2fd)), (e3, .inr (0, [.int (nI e3cs), .int (nI e3rc), .ref e3a, .ref e3b, .ref e3c, .ref e3d])), (e3a, .inl (E.2.1 7, 4, .inr (.inr (.inr (.inr e3fi))))), (e3b, .inl (E.2.1 1, 4, .inl e3fb)), (e3c, .inl (E.2.1 1, 4, .inl e3fc)), (e3d, .inl (E.2.1 1, 16, .inl e3fd)), (la0, .inr (3, [.ref la0m, .int la0p, .int la0w, .ref la0c, .ref la0f, .ref la0q])), (la0c, .inl (E.2.1 1, 24, .inl la0fc)), (la0f, .inl (E.2.1 1, 24, .inl la0ff)), (la0q, .inl (E.2.1 1, 4, .inl la0fq)), (la0m, .inr (4, [.int (nI la0n), .int (nI la0r), .ref la0x, .ref la0y])), (la0x, .inl (E.2.1 1, 24, .inl la0gx)), (la0y, .inl (E.2.1 1, 96, .inl la0gy)), (la1, .inr (3, [.ref la1m, .int la1p, .int la1w, .ref la1c, .ref la1f, .ref la1q])), (la1c, .inl (E.2.1 1, 24, .inl la1fc)), (la1f, .inl (E.2.1 1, 24, .inl la1ff)), (la1q, .inl (E.2.1 1, 4, .inl la1fq)), (la1m, .inr (4, [.int (nI la1n), .int (nI la1r), .ref la1x, .ref la1y])), (la1x, .inl (E.2.1 1, 24, .inl la1gx)), (la1y, .inl (E.2.1 1, 96, .inl la1gy)), (jt, .inl (E.2.1 7, 8, .inr (.inr (.inr (.inr fto)))))]) [37, 38, 39, 40, 41, 42, 43, 44, 45, 0, 1, 2, 3, 4, 5, 6, 7, 8, 9, 10, 11, 12, 13, 14, 15, 16, 17, 18, 19, 20, 21, 22, 23, 24, 25, 26, 27, 28, 29, 30, 31, 32, 33, 34, 35, 36, 46] (ndk (by decide +kernel)) (gqk (by eq_refl)) ?_
    have hk9 := kont ((-10 : Int32) - nI plz_9) 0 (cz fb 0) tT [(qs, .inr (5, [.ref qt, .ref po, .ref pa, .ref pf, .ref pd, .int ndz_2, .int tnz_3, .int anz_4, .int wrz_5, .int (nI plz_9)])), (qt, .inr (10, [.ref tb, .int 0, .int taz_6, .int tkz_7, .int tsz_8])), (tb, .inl (E.2.1 0, 160, .inl fb)), (po, .inl (E.2.1 1, 32, .inl foz_10)), (pa, .inl (E.2.1 1, 32, .inl faz_11)), (pf, .inl (E.2.1 1, 2, .inl afz_12)), (pd, .inl (E.2.1 1, 32, .inl fdz_13))] [(qj, .inr (2, [.ref jt, .ref je, .ref ju, .ref ja])), (ju, .inl (E.2.1 1, 32, .inl ft)), (je, .inl (E.2.1 4, 4, .inr (.inr (.inr (.inr fe))))), (ja, .inl (E.2.1 5, 2, .inr (.inr (.inr (.inr fa))))), (e0, .inr (0, [.int (nI e0cs), .int (nI e0rc), .ref e0a, .ref e0b, .ref e0c, .ref e0d])), (e0a, .inl (E.2.1 7, 4, .inr (.inr (.inr (.inr e0fi))))), (e0b, .inl (E.2.1 1, 4, .inl e0fb)), (e0c, .inl (E.2.1 1, 4, .inl e0fc)), (e0d, .inl (E.2.1 1, 16, .inl e0fd)), (e1, .inr (0, [.int (nI e1cs), .int (nI e1rc), .ref e1a, .ref e1b, .ref e1c, .ref e1d])), (e1a, .inl (E.2.1 7, 4, .inr (.inr (.inr (.inr e1fi))))), (e1b, .inl (E.2.1 1, 4, .inl e1fb)), (e1c, .inl (E.2.1 1, 4, .inl e1fc)), (e1d, .inl (E.2.1 1, 16, .inl e1fd)), (e2, .inr (0, [.int (nI e2cs), .int (nI e2rc), .ref e2a, .ref e2b, .ref e2c, .ref e2d])), (e2a, .inl (E.2.1 7, 4, .inr (.inr (.inr (.inr e2fi))))), (e2b, .inl (E.2.1 1, 4, .inl e2fb)), (e2c, .inl (E.2.1 1, 4, .inl e2fc)), (e2d, .inl (E.2.1 1, 16, .inl e2fd)), (e3, .inr (0, [.int (nI e3cs), .int (nI e3rc), .ref e3a, .ref e3b, .ref e3c, .ref e3d])), (e3a, .inl (E.2.1 7, 4, .inr (.inr (.inr (.inr e3fi))))), (e3b, .inl (E.2.1 1, 4, .inl e3fb)), (e3c, .inl (E.2.1 1, 4, .inl e3fc)), (e3d, .inl (E.2.1 1, 16, .inl e3fd)), (la0, .inr (3, [.ref la0m, .int la0p, .int la0w, .ref la0c, .ref la0f, .ref la0q])), (la0c, .inl (E.2.1 1, 24, .inl la0fc)), (la0f, .inl (E.2.1 1, 24, .inl la0ff)), (la0q, .inl (E.2.1 1, 4, .inl la0fq)), (la0m, .inr (4, [.int (nI la0n), .int (nI la0r), .ref la0x, .ref la0y])), (la0x, .inl (E.2.1 1, 24, .inl la0gx)), (la0y, .inl (E.2.1 1, 96, .inl la0gy)), (la1, .inr (3, [.ref la1m, .int la1p, .int la1w, .ref la1c, .ref la1f, .ref la1q])), (la1c, .inl (E.2.1 1, 24, .inl la1fc)), (la1f, .inl (E.2.1 1, 24, .inl la1ff)), (la1q, .inl (E.2.1 1, 4, .inl la1fq)), (la1m, .inr (4, [.int (nI la1n), .int (nI la1r), .ref la1x, .ref la1y])), (la1x, .inl (E.2.1 1, 24, .inl la1gx)), (la1y, .inl (E.2.1 1, 96, .inl la1gy)), (jt, .inl (E.2.1 7, 8, .inr (.inr (.inr (.inr fto)))))] ro  ⟨qt, po, pa, pf, pd, ndz_2, tnz_3, anz_4, wrz_5, (nI plz_9), tb, taz_6, tkz_7, tsz_8, fb, foz_10, faz_11, afz_12, fdz_13, rfl, (by first | assumption | omega), rfl⟩ ⟨jt, je, ju, ja, ft, fe, e0, e1, e2, e3, fa, la0, la1, e0cs, e0rc, e0a, e0b, e0c, e0d, e0fi, e0fb, e0fc, e0fd, e1cs, e1rc, e1a, e1b, e1c, e1d, e1fi, e1fb, e1fc, e1fd, e2cs, e2rc, e2a, e2b, e2c, e2d, e2fi, e2fb, e2fc, e2fd, e3cs, e3rc, e3a, e3b, e3c, e3d, e3fi, e3fb, e3fc, e3fd, la0m, la0p, la0w, la0c, la0f, la0q, la0fc, la0ff, la0fq, la0n, la0r, la0x, la0y, la0gx, la0gy, la1m, la1p, la1w, la1c, la1f, la1q, la1fc, la1ff, la1fq, la1n, la1r, la1x, la1y, la1gx, la1gy, fto, e0T, e1T, e2T, e3T, rfl, k_fe_0, k_fe_1, k_fe_2, k_fe_3, k_fa_0, k_fa_1, (by first | assumption | omega), (by first | assumption | omega), he0fi, (by first | assumption | omega), (by first | assumption | omega), he1fi, (by first | assumption | omega), (by first | assumption | omega), he2fi, (by first | assumption | omega), (by first | assumption | omega), he3fi, (by first | assumption | omega), (by first | assumption | omega), (by first | assumption | omega), (by first | assumption | omega), hto, rfl, rfl, rfl, rfl, rfl, rfl⟩ (Or.inl rfl) (Or.inr (⟨h_14, h_15, rfl, cz_e (Nat.zero_le _), Or.inl ⟨_, h_16, rfl, rfl⟩⟩))
    exact hk9
  · refine ex8 hw ?_
    clear hw
    intro tm_17 ndz_18 tnz_19 anz_20 wrz_21 plz_22 taz_23 tkz_24 hw
    refine ex8 hw ?_
    clear hw
    intro tsz_25 foz_26 faz_27 afz_28 fdz_29 jk_30 sg_31 nn_32 hw
    refine ex8 hw ?_
    clear hw
    intro na_33 sx_34 sy_35 sz_36 p__37 v__38 w__39 ftoz_40 hw
    refine ex5 hw ?_
    clear hw
    intro dp_41 nm_42 so_43 sr_44 sf_45 hw
    refine an8 hw ?_
    clear hw
    intro he_r he_u h_46 h_47 h_48 h_49 h_50 h_51 hw
    refine an1 hw ?_
    clear hw
    intro h_52 hw
    have h_53 := hw
    clear hw
    have he_r := he_r.symm
    subst he_r
    subst he_u
    refine ww_subT (w1 := [(hx, .inr (11, [.ref h, .ref qp, .int (nI ac), .int (nI np), .ref qs, .ref qj, .ref ly, .ref qh, .ref kk, .int (nI kc), .ref rd, .ref pg, .int (nI pe), .int kn, .ref ss])), (qs, .inr (5, [.ref qt, .ref po, .ref pa, .ref pf, .ref pd, .int ndz_18, .int tnz_19, .int anz_20, .int wrz_21, .int plz_22])), (qt, .inr (10, [.ref tb, .int 0, .int taz_23, .int tkz_24, .int tsz_25])), (tb, .inl (E.2.1 0, 160, .inl fb)), (po, .inl (E.2.1 1, 32, .inl foz_26)), (pa, .inl (E.2.1 1, 32, .inl faz_27)), (pf, .inl (E.2.1 1, 2, .inl afz_28)), (pd, .inl (E.2.1 1, 32, .inl fdz_29)), (qj, .inr (2, [.ref jt, .ref je, .ref ju, .ref ja])), (ju, .inl (E.2.1 1, 32, .inl ft)), (je, .inl (E.2.1 4, 4, .inr (.inr (.inr (.inr fe))))), (ja, .inl (E.2.1 5, 2, .inr (.inr (.inr (.inr fa))))), (e0, .inr (0, [.int (nI e0cs), .int (nI e0rc), .ref e0a, .ref e0b, .ref e0c, .ref e0d])), (e0a, .inl (E.2.1 7, 4, .inr (.inr (.inr (.inr e0fi))))), (e0b, .inl (E.2.1 1, 4, .inl e0fb)), (e0c, .inl (E.2.1 1, 4, .inl e0fc)), (e0d, .inl (E.2.1 1, 16, .inl e0fd)), (e1, .inr (0, [.int (nI e1cs), .int (nI e1rc), .ref e1a, .ref e1b, .ref e1c, .ref e1d])), (e1a, .inl (E.2.1 7, 4, .inr (.inr (.inr (.inr e1fi))))), (e1b, .inl (E.2.1 1, 4, .inl e1fb)), (e1c, .inl (E.2.1 1, 4, .inl e1fc)), (e1d, .inl (E.2.1 1, 16, .inl e1fd)), (e2, .inr (0, [.int (nI e2cs), .int (nI e2rc), .ref e2a, .ref e2b, .ref e2c, .ref e2d])), (e2a, .inl (E.2.1 7, 4, .inr (.inr (.inr (.inr e2fi))))), (e2b, .inl (E.2.1 1, 4, .inl e2fb)), (e2c, .inl (E.2.1 1, 4, .inl e2fc)), (e2d, .inl (E.2.1 1, 16, .inl e2fd)), (e3, .inr (0, [.int (nI e3cs), .int (nI e3rc), .ref e3a, .ref e3b, .ref e3c, .ref e3d])), (e3a, .inl (E.2.1 7, 4, .inr (.inr (.inr (.inr e3fi))))), (e3b, .inl (E.2.1 1, 4, .inl e3fb)), (e3c, .inl (E.2.1 1, 4, .inl e3fc)), (e3d, .inl (E.2.1 1, 16, .inl e3fd)), (la0, .inr (3, [.ref la0m, .int la0p, .int la0w, .ref la0c, .ref la0f, .ref la0q])), (la0c, .inl (E.2.1 1, 24, .inl la0fc)), (la0f, .inl (E.2.1 1, 24, .inl la0ff)), (la0q, .inl (E.2.1 1, 4, .inl la0fq)), (la0m, .inr (4, [.int (nI la0n), .int (nI la0r), .ref la0x, .ref la0y])), (la0x, .inl (E.2.1 1, 24, .inl la0gx)), (la0y, .inl (E.2.1 1, 96, .inl la0gy)), (la1, .inr (3, [.ref la1m, .int la1p, .int la1w, .ref la1c, .ref la1f, .ref la1q])), (la1c, .inl (E.2.1 1, 24, .inl la1fc)), (la1f, .inl (E.2.1 1, 24, .inl la1ff)), (la1q, .inl (E.2.1 1, 4, .inl la1fq)), (la1m, .inr (4, [.int (nI la1n), .int (nI la1r), .ref la1x, .ref la1y])), (la1x, .inl (E.2.1 1, 24, .inl la1gx)), (la1y, .inl (E.2.1 1, 96, .inl la1gy)), (jt, .inl (E.2.1 7, 8, .inr (.inr (.inr (.inr ftoz_40))))), (sg_31, .inr (8, [.ref sx_34, .ref sy_35, .int (nI tm_17), .int (nI na_33), .ref sz_36, .int dp_41, .int nm_42])), (sx_34, .inl (E.2.1 1, nn_32, .inl so_43)), (sy_35, .inl (E.2.1 1, nn_32, .inl sr_44)), (sz_36, .inl (E.2.1 1, 2, .inl sf_45))]) [37, 38, 39, 40, 41, 42, 43, 44, 45, 0, 1, 2, 3, 4, 5, 6, 7, 8, 9, 10, 11, 12, 13, 14, 15, 16, 17, 18, 19, 20, 21, 22, 23, 24, 25, 26, 27, 28, 29, 30, 31, 32, 33, 34, 35, 36, 46, 47, 48, 49, 50] (ndk (by decide +kernel)) (gqk (by eq_refl)) ?_
    refine ww_eq (ws' := ([(hx, .inr (11, [.ref h, .ref qp, .int (nI ac), .int (nI np), .ref qs, .ref qj, .ref ly, .ref qh, .ref kk, .int (nI kc), .ref rd, .ref pg, .int (nI pe), .int kn, .ref ss]))] ++ ([(qs, .inr (5, [.ref qt, .ref po, .ref pa, .ref pf, .ref pd, .int ndz_18, .int tnz_19, .int anz_20, .int wrz_21, .int plz_22])), (qt, .inr (10, [.ref tb, .int 0, .int taz_23, .int tkz_24, .int tsz_25])), (tb, .inl (E.2.1 0, 160, .inl fb)), (po, .inl (E.2.1 1, 32, .inl foz_26)), (pa, .inl (E.2.1 1, 32, .inl faz_27)), (pf, .inl (E.2.1 1, 2, .inl afz_28)), (pd, .inl (E.2.1 1, 32, .inl fdz_29))] ++ ([(qj, .inr (2, [.ref jt, .ref je, .ref ju, .ref ja])), (ju, .inl (E.2.1 1, 32, .inl ft)), (je, .inl (E.2.1 4, 4, .inr (.inr (.inr (.inr fe))))), (ja, .inl (E.2.1 5, 2, .inr (.inr (.inr (.inr fa))))), (e0, .inr (0, [.int (nI e0cs), .int (nI e0rc), .ref e0a, .ref e0b, .ref e0c, .ref e0d])), (e0a, .inl (E.2.1 7, 4, .inr (.inr (.inr (.inr e0fi))))), (e0b, .inl (E.2.1 1, 4, .inl e0fb)), (e0c, .inl (E.2.1 1, 4, .inl e0fc)), (e0d, .inl (E.2.1 1, 16, .inl e0fd)), (e1, .inr (0, [.int (nI e1cs), .int (nI e1rc), .ref e1a, .ref e1b, .ref e1c, .ref e1d])), (e1a, .inl (E.2.1 7, 4, .inr (.inr (.inr (.inr e1fi))))), (e1b, .inl (E.2.1 1, 4, .inl e1fb)), (e1c, .inl (E.2.1 1, 4, .inl e1fc)), (e1d, .inl (E.2.1 1, 16, .inl e1fd)), (e2, .inr (0, [.int (nI e2cs), .int (nI e2rc), .ref e2a, .ref e2b, .ref e2c, .ref e2d])), (e2a, .inl (E.2.1 7, 4, .inr (.inr (.inr (.inr e2fi))))), (e2b, .inl (E.2.1 1, 4, .inl e2fb)), (e2c, .inl (E.2.1 1, 4, .inl e2fc)), (e2d, .inl (E.2.1 1, 16, .inl e2fd)), (e3, .inr (0, [.int (nI e3cs), .int (nI e3rc), .ref e3a, .ref e3b, .ref e3c, .ref e3d])), (e3a, .inl (E.2.1 7, 4, .inr (.inr (.inr (.inr e3fi))))), (e3b, .inl (E.2.1 1, 4, .inl e3fb)), (e3c, .inl (E.2.1 1, 4, .inl e3fc)), (e3d, .inl (E.2.1 1, 16, .inl e3fd)), (la0, .inr (3, [.ref la0m, .int la0p, .int la0w, .ref la0c, .ref la0f, .ref la0q])), (la0c, .inl (E.2.1 1, 24, .inl la0fc)), (la0f, .inl (E.2.1 1, 24, .inl la0ff)), (la0q, .inl (E.2.1 1, 4, .inl la0fq)), (la0m, .inr (4, [.int (nI la0n), .int (nI la0r), .ref la0x, .ref la0y])), (la0x, .inl (E.2.1 1, 24, .inl la0gx)), (la0y, .inl (E.2.1 1, 96, .inl la0gy)), (la1, .inr (3, [.ref la1m, .int la1p, .int la1w, .ref la1c, .ref la1f, .ref la1q])), (la1c, .inl (E.2.1 1, 24, .inl la1fc)), (la1f, .inl (E.2.1 1, 24, .inl la1ff)), (la1q, .inl (E.2.1 1, 4, .inl la1fq)), (la1m, .inr (4, [.int (nI la1n), .int (nI la1r), .ref la1x, .ref la1y])), (la1x, .inl (E.2.1 1, 24, .inl la1gx)), (la1y, .inl (E.2.1 1, 96, .inl la1gy)), (jt, .inl (E.2.1 7, 8, .inr (.inr (.inr (.inr ftoz_40)))))] ++ ([(sg_31, .inr (8, [.ref sx_34, .ref sy_35, .int (nI tm_17), .int (nI na_33), .ref sz_36, .int dp_41, .int nm_42])), (sx_34, .inl (E.2.1 1, nn_32, .inl so_43)), (sy_35, .inl (E.2.1 1, nn_32, .inl sr_44)), (sz_36, .inl (E.2.1 1, 2, .inl sf_45))] ++ (pre ++ ro)))))) ?_ rfl rfl rfl
    refine ww_perm (List.Perm.append_left _ (List.Perm.append_left _ (List.Perm.append_left _ (List.perm_append_comm_assoc _ _ _)))) ?_
    have hk9 := kont (nI tm_17) 0 (cz fb 0) (va_up tT jk_30 (some (nn_32, so_43, sr_44, sf_45, tm_17, dp_41, nm_42, na_33))) [(qs, .inr (5, [.ref qt, .ref po, .ref pa, .ref pf, .ref pd, .int ndz_18, .int tnz_19, .int anz_20, .int wrz_21, .int plz_22])), (qt, .inr (10, [.ref tb, .int 0, .int taz_23, .int tkz_24, .int tsz_25])), (tb, .inl (E.2.1 0, 160, .inl fb)), (po, .inl (E.2.1 1, 32, .inl foz_26)), (pa, .inl (E.2.1 1, 32, .inl faz_27)), (pf, .inl (E.2.1 1, 2, .inl afz_28)), (pd, .inl (E.2.1 1, 32, .inl fdz_29))] [(qj, .inr (2, [.ref jt, .ref je, .ref ju, .ref ja])), (ju, .inl (E.2.1 1, 32, .inl ft)), (je, .inl (E.2.1 4, 4, .inr (.inr (.inr (.inr fe))))), (ja, .inl (E.2.1 5, 2, .inr (.inr (.inr (.inr fa))))), (e0, .inr (0, [.int (nI e0cs), .int (nI e0rc), .ref e0a, .ref e0b, .ref e0c, .ref e0d])), (e0a, .inl (E.2.1 7, 4, .inr (.inr (.inr (.inr e0fi))))), (e0b, .inl (E.2.1 1, 4, .inl e0fb)), (e0c, .inl (E.2.1 1, 4, .inl e0fc)), (e0d, .inl (E.2.1 1, 16, .inl e0fd)), (e1, .inr (0, [.int (nI e1cs), .int (nI e1rc), .ref e1a, .ref e1b, .ref e1c, .ref e1d])), (e1a, .inl (E.2.1 7, 4, .inr (.inr (.inr (.inr e1fi))))), (e1b, .inl (E.2.1 1, 4, .inl e1fb)), (e1c, .inl (E.2.1 1, 4, .inl e1fc)), (e1d, .inl (E.2.1 1, 16, .inl e1fd)), (e2, .inr (0, [.int (nI e2cs), .int (nI e2rc), .ref e2a, .ref e2b, .ref e2c, .ref e2d])), (e2a, .inl (E.2.1 7, 4, .inr (.inr (.inr (.inr e2fi))))), (e2b, .inl (E.2.1 1, 4, .inl e2fb)), (e2c, .inl (E.2.1 1, 4, .inl e2fc)), (e2d, .inl (E.2.1 1, 16, .inl e2fd)), (e3, .inr (0, [.int (nI e3cs), .int (nI e3rc), .ref e3a, .ref e3b, .ref e3c, .ref e3d])), (e3a, .inl (E.2.1 7, 4, .inr (.inr (.inr (.inr e3fi))))), (e3b, .inl (E.2.1 1, 4, .inl e3fb)), (e3c, .inl (E.2.1 1, 4, .inl e3fc)), (e3d, .inl (E.2.1 1, 16, .inl e3fd)), (la0, .inr (3, [.ref la0m, .int la0p, .int la0w, .ref la0c, .ref la0f, .ref la0q])), (la0c, .inl (E.2.1 1, 24, .inl la0fc)), (la0f, .inl (E.2.1 1, 24, .inl la0ff)), (la0q, .inl (E.2.1 1, 4, .inl la0fq)), (la0m, .inr (4, [.int (nI la0n), .int (nI la0r), .ref la0x, .ref la0y])), (la0x, .inl (E.2.1 1, 24, .inl la0gx)), (la0y, .inl (E.2.1 1, 96, .inl la0gy)), (la1, .inr (3, [.ref la1m, .int la1p, .int la1w, .ref la1c, .ref la1f, .ref la1q])), (la1c, .inl (E.2.1 1, 24, .inl la1fc)), (la1f, .inl (E.2.1 1, 24, .inl la1ff)), (la1q, .inl (E.2.1 1, 4, .inl la1fq)), (la1m, .inr (4, [.int (nI la1n), .int (nI la1r), .ref la1x, .ref la1y])), (la1x, .inl (E.2.1 1, 24, .inl la1gx)), (la1y, .inl (E.2.1 1, 96, .inl la1gy)), (jt, .inl (E.2.1 7, 8, .inr (.inr (.inr (.inr ftoz_40)))))] ([(sg_31, .inr (8, [.ref sx_34, .ref sy_35, .int (nI tm_17), .int (nI na_33), .ref sz_36, .int dp_41, .int nm_42])), (sx_34, .inl (E.2.1 1, nn_32, .inl so_43)), (sy_35, .inl (E.2.1 1, nn_32, .inl sr_44)), (sz_36, .inl (E.2.1 1, 2, .inl sf_45))] ++ ro)  ⟨qt, po, pa, pf, pd, ndz_18, tnz_19, anz_20, wrz_21, plz_22, tb, taz_23, tkz_24, tsz_25, fb, foz_26, faz_27, afz_28, fdz_29, rfl, (by first | assumption | omega), rfl⟩ ⟨jt, je, ju, ja, ft, fe, e0, e1, e2, e3, fa, la0, la1, e0cs, e0rc, e0a, e0b, e0c, e0d, e0fi, e0fb, e0fc, e0fd, e1cs, e1rc, e1a, e1b, e1c, e1d, e1fi, e1fb, e1fc, e1fd, e2cs, e2rc, e2a, e2b, e2c, e2d, e2fi, e2fb, e2fc, e2fd, e3cs, e3rc, e3a, e3b, e3c, e3d, e3fi, e3fb, e3fc, e3fd, la0m, la0p, la0w, la0c, la0f, la0q, la0fc, la0ff, la0fq, la0n, la0r, la0x, la0y, la0gx, la0gy, la1m, la1p, la1w, la1c, la1f, la1q, la1fc, la1ff, la1fq, la1n, la1r, la1x, la1y, la1gx, la1gy, ftoz_40, e0T, e1T, e2T, e3T, rfl, k_fe_0, k_fe_1, k_fe_2, k_fe_3, k_fa_0, k_fa_1, (by first | assumption | omega), (by first | assumption | omega), (SYT.more he0fi), (by first | assumption | omega), (by first | assumption | omega), (SYT.more he1fi), (by first | assumption | omega), (by first | assumption | omega), (SYT.more he2fi), (by first | assumption | omega), (by first | assumption | omega), (SYT.more he3fi), (by first | assumption | omega), (by first | assumption | omega), (by first | assumption | omega), (by first | assumption | omega), (SYT.some (SYT.more hto) (show SYv E ([(sg_31, .inr (8, [.ref sx_34, .ref sy_35, .int (nI tm_17), .int (nI na_33), .ref sz_36, .int dp_41, .int nm_42])), (sx_34, .inl (E.2.1 1, nn_32, .inl so_43)), (sy_35, .inl (E.2.1 1, nn_32, .inl sr_44)), (sz_36, .inl (E.2.1 1, 2, .inl sf_45))] ++ ro) sg_31 (nn_32, so_43, sr_44, sf_45, tm_17, dp_41, nm_42, na_33) from ⟨0, 1, 2, 3, sx_34, sy_35, sz_36, rfl, rfl, rfl, rfl, h_49.1, h_50, h_49.2⟩) h_48), rfl, rfl, rfl, rfl, rfl, rfl⟩ (Or.inr ⟨_, rfl⟩) (Or.inr (⟨by rw [h_46, nI_toInt (by omega)]; omega, by rw [h_46, nI_toInt (by omega)]; omega, rfl, cz_e (Nat.zero_le _), Or.inr ⟨_, _, _, _, _, _, _, (nn_32, so_43, sr_44, sf_45, tm_17, dp_41, nm_42, na_33), h_46, h_47, h_51.1, rfl, rfl, rfl, rfl, ⟨h_49.1.1, h_49.1.2.1⟩, h_51.2.1, h_51.2.2.1, h_51.2.2.2, h_49.2, rfl, h_53.1, h_53.2⟩⟩))
    exact hk9
theorem wc_X11_fault : Cond.code yX11_fault cX11_fault 1 (some .int) ∈ TB := tbm (tq3 (List.mem_of_getElem? (i := 198) (rfl))) (by decide +kernel)
theorem wi_X11_fault : Cond.instanceMethod yX11_fault ∈ TB := tbm (tq3 (List.mem_of_getElem? (i := 196) (by decide +kernel))) (by decide +kernel)
theorem ws_X11_fault : Cond.selects RX11 yX11_fault yX11_fault ∈ TB := tbm (tq3 (List.mem_of_getElem? (i := 197) (by decide +kernel))) (by decide +kernel)
theorem mi_X11_fault : MI yX11_fault cX11_fault 1 (some .int) 0 := ⟨wc_X11_fault, wn_X11, ⟨by decide +kernel, by decide +kernel, by decide +kernel⟩, wi_X11_fault, ws_X11_fault⟩
theorem wl_L_55 : Cond.methodLink RL 55 yX11_fault ∈ TB := tbm (tq3 (List.mem_of_getElem? (i := 195) (by decide +kernel))) (by decide +kernel)
theorem dL_law_530 : decode cL_law 530 = .ok (.invokevirtual 55, 3) := dl_182 (by decide +kernel)
set_option maxRecDepth 100000 in
set_option maxHeartbeats 4000000 in
theorem lx_fault {X : XT} {E : EV} {ro wT pre : va_W} {lv : List (Nat × Value)} {rest : List Value} {kC nC : Nat} {hx h qp qs qj ly qh kk rd pg ss : Nat} {ac np kc pe : Nat} {kn : Int32} {tl : Nat} {ct : Nat → Int} {w_pars : va_W}  (C : CX X room_1 cL_law 4 RL ret E) (hW : Nat.ble (rest.map fun v => v.category).sum 8 = true) (hT : wT = pre ++ ro) (hk : kC + 0 ≤ 600000 ∧ nC + 0 ≤ 7302250) (hac : ac ≤ 8) (hnp : np < 8) (hkc : kc ≤ 4) (hpe : pe ≤ 4) (H_pars : ok_pars E ro qs tl ct w_pars) (kont : ∀ (rr : Int32) (w_parsZ : va_W), ok_pars E ro qs tl ct w_parsZ → (True) → WW X 4 E 533 lv (.int rr :: rest) ([(hx, .inr (11, [.ref h, .ref qp, .int (nI ac), .int (nI np), .ref qs, .ref qj, .ref ly, .ref qh, .ref kk, .int (nI kc), .ref rd, .ref pg, .int (nI pe), .int kn, .ref ss]))] ++ (w_parsZ ++ wT)) kC nC) : WW X 4 E 530 lv (.ref hx :: rest) ([(hx, .inr (11, [.ref h, .ref qp, .int (nI ac), .int (nI np), .ref qs, .ref qj, .ref ly, .ref qh, .ref kk, .int (nI kc), .ref rd, .ref pg, .int (nI pe), .int kn, .ref ss]))] ++ (w_pars ++ wT)) kC nC := by
  unfold ok_pars at H_pars
  refine ex8 H_pars ?_
  clear H_pars
  intro qt po pa pf pd nd tn an H_pars
  refine ex8 H_pars ?_
  clear H_pars
  intro wr pl tb ta tk ts fb fo H_pars
  refine ex3 H_pars ?_
  clear H_pars
  intro pfa af fd H_pars
  refine an2 H_pars ?_
  clear H_pars
  intro we_pars htl H_pars
  have hct := H_pars
  clear H_pars
  subst we_pars
  subst hct
  refine ww_eq (ws' := [(hx, .inr (11, [.ref h, .ref qp, .int (nI ac), .int (nI np), .ref qs, .ref qj, .ref ly, .ref qh, .ref kk, .int (nI kc), .ref rd, .ref pg, .int (nI pe), .int kn, .ref ss])), (qs, .inr (5, [.ref qt, .ref po, .ref pa, .ref pf, .ref pd, .int nd, .int tn, .int an, .int wr, .int pl])), (qt, .inr (10, [.ref tb, .int (nI tl), .int ta, .int tk, .int ts])), (tb, .inl (E.2.1 0, 160, .inl fb)), (po, .inl (E.2.1 1, 32, .inl fo)), (pa, .inl (E.2.1 1, 32, .inl pfa)), (pf, .inl (E.2.1 1, 2, .inl af)), (pd, .inl (E.2.1 1, 32, .inl fd))] ++ wT) ?_ rfl rfl rfl
  refine ww_ciT (k' := kC) (n' := nC) (wr := [(qt, .inr (10, [.ref tb, .int (nI tl), .int ta, .int tk, .int ts])), (tb, .inl (E.2.1 0, 160, .inl fb)), (po, .inl (E.2.1 1, 32, .inl fo)), (pa, .inl (E.2.1 1, 32, .inl pfa)), (pf, .inl (E.2.1 1, 2, .inl af)), (pd, .inl (E.2.1 1, 32, .inl fd))]) C (run_V (As := []) (rest := rest) C (x_fault X.2.1 E ro hx h qp ac np qs qj ly qh kk kc rd pg pe kn ss qt po pa pf pd nd tn an wr pl) mi_X11_fault wl_L_55 rfl 0 11 rfl rfl rfl rfl hW dL_law_530) (roT (pre := pre) [0, 1] rfl hT) [0, 1] [2, 3, 4, 5, 6, 7] rfl rfl (plk (by decide +kernel)) ⟨by omega, by omega, hk.1, hk.2⟩ (fun rr u hw => ?_)
  refine an1 hw ?_
  clear hw
  intro he_r hw
  have he_u := hw
  clear hw
  have he_r := he_r.symm
  subst he_r
  subst he_u
  refine ww_subT (w1 := [(hx, .inr (11, [.ref h, .ref qp, .int (nI ac), .int (nI np), .ref qs, .ref qj, .ref ly, .ref qh, .ref kk, .int (nI kc), .ref rd, .ref pg, .int (nI pe), .int kn, .ref ss])), (qs, .inr (5, [.ref qt, .ref po, .ref pa, .ref pf, .ref pd, .int nd, .int tn, .int an, .int wr, .int pl])), (qt, .inr (10, [.ref tb, .int (nI tl), .int ta, .int tk, .int ts])), (tb, .inl (E.2.1 0, 160, .inl fb)), (po, .inl (E.2.1 1, 32, .inl fo)), (pa, .inl (E.2.1 1, 32, .inl pfa)), (pf, .inl (E.2.1 1, 2, .inl af)), (pd, .inl (E.2.1 1, 32, .inl fd))]) [6, 7, 0, 1, 2, 3, 4, 5] (ndk (by decide +kernel)) (gqk (by eq_refl)) ?_
  exact kont wr  [(qs, .inr (5, [.ref qt, .ref po, .ref pa, .ref pf, .ref pd, .int nd, .int tn, .int an, .int wr, .int pl])), (qt, .inr (10, [.ref tb, .int (nI tl), .int ta, .int tk, .int ts])), (tb, .inl (E.2.1 0, 160, .inl fb)), (po, .inl (E.2.1 1, 32, .inl fo)), (pa, .inl (E.2.1 1, 32, .inl pfa)), (pf, .inl (E.2.1 1, 2, .inl af)), (pd, .inl (E.2.1 1, 32, .inl fd))]  ⟨qt, po, pa, pf, pd, nd, tn, an, wr, pl, tb, ta, tk, ts, fb, fo, pfa, af, fd, rfl, (by first | assumption | omega), rfl⟩ (trivial)
theorem wc_X11_saying : Cond.code yX11_saying cX11_saying 3 (some .int) ∈ TB := tbm (tq3 (List.mem_of_getElem? (i := 202) (rfl))) (by decide +kernel)
theorem wi_X11_saying : Cond.instanceMethod yX11_saying ∈ TB := tbm (tq3 (List.mem_of_getElem? (i := 200) (by decide +kernel))) (by decide +kernel)
theorem ws_X11_saying : Cond.selects RX11 yX11_saying yX11_saying ∈ TB := tbm (tq3 (List.mem_of_getElem? (i := 201) (by decide +kernel))) (by decide +kernel)
theorem mi_X11_saying : MI yX11_saying cX11_saying 3 (some .int) 2 := ⟨wc_X11_saying, wn_X11, ⟨by decide +kernel, by decide +kernel, by decide +kernel⟩, wi_X11_saying, ws_X11_saying⟩
theorem wl_L_60 : Cond.methodLink RL 60 yX11_saying ∈ TB := tbm (tq3 (List.mem_of_getElem? (i := 199) (by decide +kernel))) (by decide +kernel)
theorem dL_law_553 : decode cL_law 553 = .ok (.invokevirtual 60, 3) := dl_182 (by decide +kernel)
set_option maxRecDepth 100000 in
set_option maxHeartbeats 4000000 in
theorem lx_saying {X : XT} {E : EV} {ro wT pre : va_W} {lv : List (Nat × Value)} {rest : List Value} {kC nC : Nat} {hx h qp qs qj ly qh kk rd pg ss : Nat} {ac np kc pe : Nat} {kn : Int32} {tT : Nat → Option SVal} {ec : Nat → Nat} {er : Nat → Nat} {ed : Nat → Nat → Int32} {eT : Nat → Nat → Option SVal} {eb : Nat → Nat → Int32} {en : Nat → Nat → Int32} {w_judg : va_W} {v0 : Int32} {v1 : Int32}  (C : CX X room_1 cL_law 4 RL ret E) (hW : Nat.ble (rest.map fun v => v.category).sum 8 = true) (hT : wT = pre ++ ro) (hk : kC + 0 ≤ 600000 ∧ nC + 0 ≤ 7302250) (hac : ac ≤ 8) (hnp : np < 8) (hkc : kc ≤ 4) (hpe : pe ≤ 4) (H_judg : ok_judg E ro qj tT ec er ed eT eb en w_judg) (kont : ∀ (rr : Int32) (w_judgZ : va_W), ok_judg E ro qj tT ec er ed eT eb en w_judgZ → (rr = ansSy (sy4T tT) v0 v1) → WW X 4 E 556 lv (.int rr :: rest) ([(hx, .inr (11, [.ref h, .ref qp, .int (nI ac), .int (nI np), .ref qs, .ref qj, .ref ly, .ref qh, .ref kk, .int (nI kc), .ref rd, .ref pg, .int (nI pe), .int kn, .ref ss]))] ++ (w_judgZ ++ wT)) kC nC) : WW X 4 E 553 lv (.int v1 :: .int v0 :: .ref hx :: rest) ([(hx, .inr (11, [.ref h, .ref qp, .int (nI ac), .int (nI np), .ref qs, .ref qj, .ref ly, .ref qh, .ref kk, .int (nI kc), .ref rd, .ref pg, .int (nI pe), .int kn, .ref ss]))] ++ (w_judg ++ wT)) kC nC := by
  unfold ok_judg at H_judg
  refine ex8 H_judg ?_
  clear H_judg
  intro jt je ju ja ft fe e0 e1 H_judg
  refine ex8 H_judg ?_
  clear H_judg
  intro e2 e3 fa la0 la1 e0cs e0rc e0a H_judg
  refine ex8 H_judg ?_
  clear H_judg
  intro e0b e0c e0d e0fi e0fb e0fc e0fd e1cs H_judg
  refine ex8 H_judg ?_
  clear H_judg
  intro e1rc e1a e1b e1c e1d e1fi e1fb e1fc H_judg
  refine ex8 H_judg ?_
  clear H_judg
  intro e1fd e2cs e2rc e2a e2b e2c e2d e2fi H_judg
  refine ex8 H_judg ?_
  clear H_judg
  intro e2fb e2fc e2fd e3cs e3rc e3a e3b e3c H_judg
  refine ex8 H_judg ?_
  clear H_judg
  intro e3d e3fi e3fb e3fc e3fd la0m la0p la0w H_judg
  refine ex8 H_judg ?_
  clear H_judg
  intro la0c la0f la0q la0fc la0ff la0fq la0n la0r H_judg
  refine ex8 H_judg ?_
  clear H_judg
  intro la0x la0y la0gx la0gy la1m la1p la1w la1c H_judg
  refine ex8 H_judg ?_
  clear H_judg
  intro la1f la1q la1fc la1ff la1fq la1n la1r la1x H_judg
  refine ex8 H_judg ?_
  clear H_judg
  intro la1y la1gx la1gy fto e0T e1T e2T e3T H_judg
  refine an8 H_judg ?_
  clear H_judg
  intro we_judg k_fe_0 k_fe_1 k_fe_2 k_fe_3 k_fa_0 k_fa_1 he0cs H_judg
  refine an8 H_judg ?_
  clear H_judg
  intro he0rc he0fi he1cs he1rc he1fi he2cs he2rc he2fi H_judg
  refine an8 H_judg ?_
  clear H_judg
  intro he3cs he3rc he3fi hla0n hla0r hla1n hla1r hto H_judg
  refine an5 H_judg ?_
  clear H_judg
  intro hec her hed heT heb H_judg
  have hen := H_judg
  clear H_judg
  subst we_judg
  subst hec
  subst her
  subst hed
  subst heT
  subst heb
  subst hen
  refine ww_eq (ws' := [(hx, .inr (11, [.ref h, .ref qp, .int (nI ac), .int (nI np), .ref qs, .ref qj, .ref ly, .ref qh, .ref kk, .int (nI kc), .ref rd, .ref pg, .int (nI pe), .int kn, .ref ss])), (qj, .inr (2, [.ref jt, .ref je, .ref ju, .ref ja])), (ju, .inl (E.2.1 1, 32, .inl ft)), (je, .inl (E.2.1 4, 4, .inr (.inr (.inr (.inr fe))))), (ja, .inl (E.2.1 5, 2, .inr (.inr (.inr (.inr fa))))), (e0, .inr (0, [.int (nI e0cs), .int (nI e0rc), .ref e0a, .ref e0b, .ref e0c, .ref e0d])), (e0a, .inl (E.2.1 7, 4, .inr (.inr (.inr (.inr e0fi))))), (e0b, .inl (E.2.1 1, 4, .inl e0fb)), (e0c, .inl (E.2.1 1, 4, .inl e0fc)), (e0d, .inl (E.2.1 1, 16, .inl e0fd)), (e1, .inr (0, [.int (nI e1cs), .int (nI e1rc), .ref e1a, .ref e1b, .ref e1c, .ref e1d])), (e1a, .inl (E.2.1 7, 4, .inr (.inr (.inr (.inr e1fi))))), (e1b, .inl (E.2.1 1, 4, .inl e1fb)), (e1c, .inl (E.2.1 1, 4, .inl e1fc)), (e1d, .inl (E.2.1 1, 16, .inl e1fd)), (e2, .inr (0, [.int (nI e2cs), .int (nI e2rc), .ref e2a, .ref e2b, .ref e2c, .ref e2d])), (e2a, .inl (E.2.1 7, 4, .inr (.inr (.inr (.inr e2fi))))), (e2b, .inl (E.2.1 1, 4, .inl e2fb)), (e2c, .inl (E.2.1 1, 4, .inl e2fc)), (e2d, .inl (E.2.1 1, 16, .inl e2fd)), (e3, .inr (0, [.int (nI e3cs), .int (nI e3rc), .ref e3a, .ref e3b, .ref e3c, .ref e3d])), (e3a, .inl (E.2.1 7, 4, .inr (.inr (.inr (.inr e3fi))))), (e3b, .inl (E.2.1 1, 4, .inl e3fb)), (e3c, .inl (E.2.1 1, 4, .inl e3fc)), (e3d, .inl (E.2.1 1, 16, .inl e3fd)), (la0, .inr (3, [.ref la0m, .int la0p, .int la0w, .ref la0c, .ref la0f, .ref la0q])), (la0c, .inl (E.2.1 1, 24, .inl la0fc)), (la0f, .inl (E.2.1 1, 24, .inl la0ff)), (la0q, .inl (E.2.1 1, 4, .inl la0fq)), (la0m, .inr (4, [.int (nI la0n), .int (nI la0r), .ref la0x, .ref la0y])), (la0x, .inl (E.2.1 1, 24, .inl la0gx)), (la0y, .inl (E.2.1 1, 96, .inl la0gy)), (la1, .inr (3, [.ref la1m, .int la1p, .int la1w, .ref la1c, .ref la1f, .ref la1q])), (la1c, .inl (E.2.1 1, 24, .inl la1fc)), (la1f, .inl (E.2.1 1, 24, .inl la1ff)), (la1q, .inl (E.2.1 1, 4, .inl la1fq)), (la1m, .inr (4, [.int (nI la1n), .int (nI la1r), .ref la1x, .ref la1y])), (la1x, .inl (E.2.1 1, 24, .inl la1gx)), (la1y, .inl (E.2.1 1, 96, .inl la1gy)), (jt, .inl (E.2.1 7, 8, .inr (.inr (.inr (.inr fto)))))] ++ wT) ?_ rfl rfl rfl
  refine ww_ciT (k' := kC) (n' := nC) (wr := [(ju, .inl (E.2.1 1, 32, .inl ft)), (je, .inl (E.2.1 4, 4, .inr (.inr (.inr (.inr fe))))), (ja, .inl (E.2.1 5, 2, .inr (.inr (.inr (.inr fa))))), (e0, .inr (0, [.int (nI e0cs), .int (nI e0rc), .ref e0a, .ref e0b, .ref e0c, .ref e0d])), (e0a, .inl (E.2.1 7, 4, .inr (.inr (.inr (.inr e0fi))))), (e0b, .inl (E.2.1 1, 4, .inl e0fb)), (e0c, .inl (E.2.1 1, 4, .inl e0fc)), (e0d, .inl (E.2.1 1, 16, .inl e0fd)), (e1, .inr (0, [.int (nI e1cs), .int (nI e1rc), .ref e1a, .ref e1b, .ref e1c, .ref e1d])), (e1a, .inl (E.2.1 7, 4, .inr (.inr (.inr (.inr e1fi))))), (e1b, .inl (E.2.1 1, 4, .inl e1fb)), (e1c, .inl (E.2.1 1, 4, .inl e1fc)), (e1d, .inl (E.2.1 1, 16, .inl e1fd)), (e2, .inr (0, [.int (nI e2cs), .int (nI e2rc), .ref e2a, .ref e2b, .ref e2c, .ref e2d])), (e2a, .inl (E.2.1 7, 4, .inr (.inr (.inr (.inr e2fi))))), (e2b, .inl (E.2.1 1, 4, .inl e2fb)), (e2c, .inl (E.2.1 1, 4, .inl e2fc)), (e2d, .inl (E.2.1 1, 16, .inl e2fd)), (e3, .inr (0, [.int (nI e3cs), .int (nI e3rc), .ref e3a, .ref e3b, .ref e3c, .ref e3d])), (e3a, .inl (E.2.1 7, 4, .inr (.inr (.inr (.inr e3fi))))), (e3b, .inl (E.2.1 1, 4, .inl e3fb)), (e3c, .inl (E.2.1 1, 4, .inl e3fc)), (e3d, .inl (E.2.1 1, 16, .inl e3fd)), (la0, .inr (3, [.ref la0m, .int la0p, .int la0w, .ref la0c, .ref la0f, .ref la0q])), (la0c, .inl (E.2.1 1, 24, .inl la0fc)), (la0f, .inl (E.2.1 1, 24, .inl la0ff)), (la0q, .inl (E.2.1 1, 4, .inl la0fq)), (la0m, .inr (4, [.int (nI la0n), .int (nI la0r), .ref la0x, .ref la0y])), (la0x, .inl (E.2.1 1, 24, .inl la0gx)), (la0y, .inl (E.2.1 1, 96, .inl la0gy)), (la1, .inr (3, [.ref la1m, .int la1p, .int la1w, .ref la1c, .ref la1f, .ref la1q])), (la1c, .inl (E.2.1 1, 24, .inl la1fc)), (la1f, .inl (E.2.1 1, 24, .inl la1ff)), (la1q, .inl (E.2.1 1, 4, .inl la1fq)), (la1m, .inr (4, [.int (nI la1n), .int (nI la1r), .ref la1x, .ref la1y])), (la1x, .inl (E.2.1 1, 24, .inl la1gx)), (la1y, .inl (E.2.1 1, 96, .inl la1gy))]) C (run_V (As := [.int v0, .int v1]) (rest := rest) C (x_saying X.2.1 E ro hx v0 v1 h qp ac np qs qj ly qh kk kc rd pg pe kn ss jt je ju ja fto tT (by first | assumption | omega) (by first | assumption | omega) (by first | assumption | omega) (by first | assumption | omega) hto) mi_X11_saying wl_L_60 rfl 0 11 rfl rfl rfl rfl hW dL_law_553) (roT (pre := pre) [0, 1, 39] rfl hT) [0, 1, 39] [2, 3, 4, 5, 6, 7, 8, 9, 10, 11, 12, 13, 14, 15, 16, 17, 18, 19, 20, 21, 22, 23, 24, 25, 26, 27, 28, 29, 30, 31, 32, 33, 34, 35, 36, 37, 38] rfl (gqk (by eq_refl)) (plk (by decide +kernel)) ⟨by omega, by omega, hk.1, hk.2⟩ (fun rr u hw => ?_)
  refine an1 hw ?_
  clear hw
  intro he_u hw
  have h_1 := hw
  clear hw
  subst he_u
  refine ww_subT (w1 := [(hx, .inr (11, [.ref h, .ref qp, .int (nI ac), .int (nI np), .ref qs, .ref qj, .ref ly, .ref qh, .ref kk, .int (nI kc), .ref rd, .ref pg, .int (nI pe), .int kn, .ref ss])), (qj, .inr (2, [.ref jt, .ref je, .ref ju, .ref ja])), (ju, .inl (E.2.1 1, 32, .inl ft)), (je, .inl (E.2.1 4, 4, .inr (.inr (.inr (.inr fe))))), (ja, .inl (E.2.1 5, 2, .inr (.inr (.inr (.inr fa))))), (e0, .inr (0, [.int (nI e0cs), .int (nI e0rc), .ref e0a, .ref e0b, .ref e0c, .ref e0d])), (e0a, .inl (E.2.1 7, 4, .inr (.inr (.inr (.inr e0fi))))), (e0b, .inl (E.2.1 1, 4, .inl e0fb)), (e0c, .inl (E.2.1 1, 4, .inl e0fc)), (e0d, .inl (E.2.1 1, 16, .inl e0fd)), (e1, .inr (0, [.int (nI e1cs), .int (nI e1rc), .ref e1a, .ref e1b, .ref e1c, .ref e1d])), (e1a, .inl (E.2.1 7, 4, .inr (.inr (.inr (.inr e1fi))))), (e1b, .inl (E.2.1 1, 4, .inl e1fb)), (e1c, .inl (E.2.1 1, 4, .inl e1fc)), (e1d, .inl (E.2.1 1, 16, .inl e1fd)), (e2, .inr (0, [.int (nI e2cs), .int (nI e2rc), .ref e2a, .ref e2b, .ref e2c, .ref e2d])), (e2a, .inl (E.2.1 7, 4, .inr (.inr (.inr (.inr e2fi))))), (e2b, .inl (E.2.1 1, 4, .inl e2fb)), (e2c, .inl (E.2.1 1, 4, .inl e2fc)), (e2d, .inl (E.2.1 1, 16, .inl e2fd)), (e3, .inr (0, [.int (nI e3cs), .int (nI e3rc), .ref e3a, .ref e3b, .ref e3c, .ref e3d])), (e3a, .inl (E.2.1 7, 4, .inr (.inr (.inr (.inr e3fi))))), (e3b, .inl (E.2.1 1, 4, .inl e3fb)), (e3c, .inl (E.2.1 1, 4, .inl e3fc)), (e3d, .inl (E.2.1 1, 16, .inl e3fd)), (la0, .inr (3, [.ref la0m, .int la0p, .int la0w, .ref la0c, .ref la0f, .ref la0q])), (la0c, .inl (E.2.1 1, 24, .inl la0fc)), (la0f, .inl (E.2.1 1, 24, .inl la0ff)), (la0q, .inl (E.2.1 1, 4, .inl la0fq)), (la0m, .inr (4, [.int (nI la0n), .int (nI la0r), .ref la0x, .ref la0y])), (la0x, .inl (E.2.1 1, 24, .inl la0gx)), (la0y, .inl (E.2.1 1, 96, .inl la0gy)), (la1, .inr (3, [.ref la1m, .int la1p, .int la1w, .ref la1c, .ref la1f, .ref la1q])), (la1c, .inl (E.2.1 1, 24, .inl la1fc)), (la1f, .inl (E.2.1 1, 24, .inl la1ff)), (la1q, .inl (E.2.1 1, 4, .inl la1fq)), (la1m, .inr (4, [.int (nI la1n), .int (nI la1r), .ref la1x, .ref la1y])), (la1x, .inl (E.2.1 1, 24, .inl la1gx)), (la1y, .inl (E.2.1 1, 96, .inl la1gy)), (jt, .inl (E.2.1 7, 8, .inr (.inr (.inr (.inr fto)))))]) [37, 38, 0, 1, 2, 3, 4, 5, 6, 7, 8, 9, 10, 11, 12, 13, 14, 15, 16, 17, 18, 19, 20, 21, 22, 23, 24, 25, 26, 27, 28, 29, 30, 31, 32, 33, 34, 35, 36, 39] (ndk (by decide +kernel)) (gqk (by eq_refl)) ?_
  exact kont rr  [(qj, .inr (2, [.ref jt, .ref je, .ref ju, .ref ja])), (ju, .inl (E.2.1 1, 32, .inl ft)), (je, .inl (E.2.1 4, 4, .inr (.inr (.inr (.inr fe))))), (ja, .inl (E.2.1 5, 2, .inr (.inr (.inr (.inr fa))))), (e0, .inr (0, [.int (nI e0cs), .int (nI e0rc), .ref e0a, .ref e0b, .ref e0c, .ref e0d])), (e0a, .inl (E.2.1 7, 4, .inr (.inr (.inr (.inr e0fi))))), (e0b, .inl (E.2.1 1, 4, .inl e0fb)), (e0c, .inl (E.2.1 1, 4, .inl e0fc)), (e0d, .inl (E.2.1 1, 16, .inl e0fd)), (e1, .inr (0, [.int (nI e1cs), .int (nI e1rc), .ref e1a, .ref e1b, .ref e1c, .ref e1d])), (e1a, .inl (E.2.1 7, 4, .inr (.inr (.inr (.inr e1fi))))), (e1b, .inl (E.2.1 1, 4, .inl e1fb)), (e1c, .inl (E.2.1 1, 4, .inl e1fc)), (e1d, .inl (E.2.1 1, 16, .inl e1fd)), (e2, .inr (0, [.int (nI e2cs), .int (nI e2rc), .ref e2a, .ref e2b, .ref e2c, .ref e2d])), (e2a, .inl (E.2.1 7, 4, .inr (.inr (.inr (.inr e2fi))))), (e2b, .inl (E.2.1 1, 4, .inl e2fb)), (e2c, .inl (E.2.1 1, 4, .inl e2fc)), (e2d, .inl (E.2.1 1, 16, .inl e2fd)), (e3, .inr (0, [.int (nI e3cs), .int (nI e3rc), .ref e3a, .ref e3b, .ref e3c, .ref e3d])), (e3a, .inl (E.2.1 7, 4, .inr (.inr (.inr (.inr e3fi))))), (e3b, .inl (E.2.1 1, 4, .inl e3fb)), (e3c, .inl (E.2.1 1, 4, .inl e3fc)), (e3d, .inl (E.2.1 1, 16, .inl e3fd)), (la0, .inr (3, [.ref la0m, .int la0p, .int la0w, .ref la0c, .ref la0f, .ref la0q])), (la0c, .inl (E.2.1 1, 24, .inl la0fc)), (la0f, .inl (E.2.1 1, 24, .inl la0ff)), (la0q, .inl (E.2.1 1, 4, .inl la0fq)), (la0m, .inr (4, [.int (nI la0n), .int (nI la0r), .ref la0x, .ref la0y])), (la0x, .inl (E.2.1 1, 24, .inl la0gx)), (la0y, .inl (E.2.1 1, 96, .inl la0gy)), (la1, .inr (3, [.ref la1m, .int la1p, .int la1w, .ref la1c, .ref la1f, .ref la1q])), (la1c, .inl (E.2.1 1, 24, .inl la1fc)), (la1f, .inl (E.2.1 1, 24, .inl la1ff)), (la1q, .inl (E.2.1 1, 4, .inl la1fq)), (la1m, .inr (4, [.int (nI la1n), .int (nI la1r), .ref la1x, .ref la1y])), (la1x, .inl (E.2.1 1, 24, .inl la1gx)), (la1y, .inl (E.2.1 1, 96, .inl la1gy)), (jt, .inl (E.2.1 7, 8, .inr (.inr (.inr (.inr fto)))))]  ⟨jt, je, ju, ja, ft, fe, e0, e1, e2, e3, fa, la0, la1, e0cs, e0rc, e0a, e0b, e0c, e0d, e0fi, e0fb, e0fc, e0fd, e1cs, e1rc, e1a, e1b, e1c, e1d, e1fi, e1fb, e1fc, e1fd, e2cs, e2rc, e2a, e2b, e2c, e2d, e2fi, e2fb, e2fc, e2fd, e3cs, e3rc, e3a, e3b, e3c, e3d, e3fi, e3fb, e3fc, e3fd, la0m, la0p, la0w, la0c, la0f, la0q, la0fc, la0ff, la0fq, la0n, la0r, la0x, la0y, la0gx, la0gy, la1m, la1p, la1w, la1c, la1f, la1q, la1fc, la1ff, la1fq, la1n, la1r, la1x, la1y, la1gx, la1gy, fto, e0T, e1T, e2T, e3T, rfl, k_fe_0, k_fe_1, k_fe_2, k_fe_3, k_fa_0, k_fa_1, (by first | assumption | omega), (by first | assumption | omega), he0fi, (by first | assumption | omega), (by first | assumption | omega), he1fi, (by first | assumption | omega), (by first | assumption | omega), he2fi, (by first | assumption | omega), (by first | assumption | omega), he3fi, (by first | assumption | omega), (by first | assumption | omega), (by first | assumption | omega), (by first | assumption | omega), hto, rfl, rfl, rfl, rfl, rfl, rfl⟩ (h_1)
theorem wc_X11_truth : Cond.code yX11_truth cX11_truth 2 (some .int) ∈ TB := tbm (tq3 (List.mem_of_getElem? (i := 210) (rfl))) (by decide +kernel)
theorem wi_X11_truth : Cond.instanceMethod yX11_truth ∈ TB := tbm (tq3 (List.mem_of_getElem? (i := 208) (by decide +kernel))) (by decide +kernel)
theorem ws_X11_truth : Cond.selects RX11 yX11_truth yX11_truth ∈ TB := tbm (tq3 (List.mem_of_getElem? (i := 209) (by decide +kernel))) (by decide +kernel)
theorem mi_X11_truth : MI yX11_truth cX11_truth 2 (some .int) 1 := ⟨wc_X11_truth, wn_X11, ⟨by decide +kernel, by decide +kernel, by decide +kernel⟩, wi_X11_truth, ws_X11_truth⟩
theorem wl_L_64 : Cond.methodLink RL 64 yX11_truth ∈ TB := tbm (tq3 (List.mem_of_getElem? (i := 207) (by decide +kernel))) (by decide +kernel)
theorem dL_law_581 : decode cL_law 581 = .ok (.invokevirtual 64, 3) := dl_182 (by decide +kernel)
set_option maxRecDepth 100000 in
set_option maxHeartbeats 4000000 in
theorem lx_truth {X : XT} {E : EV} {ro wT pre : va_W} {lv : List (Nat × Value)} {rest : List Value} {kC nC : Nat} {hx h qp qs qj ly qh kk rd pg ss : Nat} {ac np kc pe : Nat} {kn : Int32} {mN : AM} {tT : Nat → Option SVal} {ec : Nat → Nat} {er : Nat → Nat} {ed : Nat → Nat → Int32} {eT : Nat → Nat → Option SVal} {eb : Nat → Nat → Int32} {en : Nat → Nat → Int32} {w_now : va_W} {w_judg : va_W} {v0 : Int32}  (C : CX X room_1 cL_law 4 RL ret E) (hW : Nat.ble (rest.map fun v => v.category).sum 8 = true) (hT : wT = pre ++ ro) (hk : kC + 0 ≤ 600000 ∧ nC + 0 ≤ 7302250) (hac : ac ≤ 8) (hnp : np < 8) (hkc : kc ≤ 4) (hpe : pe ≤ 4) (H_now : ok_now E ro h mN w_now) (H_judg : ok_judg E ro qj tT ec er ed eT eb en w_judg) (kont : ∀ (rr : Int32) (w_nowZ : va_W) (w_judgZ : va_W), ok_now E ro h mN w_nowZ → ok_judg E ro qj tT ec er ed eT eb en w_judgZ → (rr = ansTruth mN (ev6 ec er eT eb en ed) tT v0) → WW X 4 E 584 lv (.int rr :: rest) ([(hx, .inr (11, [.ref h, .ref qp, .int (nI ac), .int (nI np), .ref qs, .ref qj, .ref ly, .ref qh, .ref kk, .int (nI kc), .ref rd, .ref pg, .int (nI pe), .int kn, .ref ss]))] ++ (w_nowZ ++ (w_judgZ ++ wT))) kC nC) : WW X 4 E 581 lv (.int v0 :: .ref hx :: rest) ([(hx, .inr (11, [.ref h, .ref qp, .int (nI ac), .int (nI np), .ref qs, .ref qj, .ref ly, .ref qh, .ref kk, .int (nI kc), .ref rd, .ref pg, .int (nI pe), .int kn, .ref ss]))] ++ (w_now ++ (w_judg ++ wT))) kC nC := by
  unfold ok_now at H_now
  refine ex6 H_now ?_
  clear H_now
  intro n r a b f gg H_now
  refine an4 H_now ?_
  clear H_now
  intro we_now hn hr hwfm H_now
  have hmN := H_now
  clear H_now
  subst we_now
  subst hmN
  unfold ok_judg at H_judg
  refine ex8 H_judg ?_
  clear H_judg
  intro jt je ju ja ft fe e0 e1 H_judg
  refine ex8 H_judg ?_
  clear H_judg
  intro e2 e3 fa la0 la1 e0cs e0rc e0a H_judg
  refine ex8 H_judg ?_
  clear H_judg
  intro e0b e0c e0d e0fi e0fb e0fc e0fd e1cs H_judg
  refine ex8 H_judg ?_
  clear H_judg
  intro e1rc e1a e1b e1c e1d e1fi e1fb e1fc H_judg
  refine ex8 H_judg ?_
  clear H_judg
  intro e1fd e2cs e2rc e2a e2b e2c e2d e2fi H_judg
  refine ex8 H_judg ?_
  clear H_judg
  intro e2fb e2fc e2fd e3cs e3rc e3a e3b e3c H_judg
  refine ex8 H_judg ?_
  clear H_judg
  intro e3d e3fi e3fb e3fc e3fd la0m la0p la0w H_judg
  refine ex8 H_judg ?_
  clear H_judg
  intro la0c la0f la0q la0fc la0ff la0fq la0n la0r H_judg
  refine ex8 H_judg ?_
  clear H_judg
  intro la0x la0y la0gx la0gy la1m la1p la1w la1c H_judg
  refine ex8 H_judg ?_
  clear H_judg
  intro la1f la1q la1fc la1ff la1fq la1n la1r la1x H_judg
  refine ex8 H_judg ?_
  clear H_judg
  intro la1y la1gx la1gy fto e0T e1T e2T e3T H_judg
  refine an8 H_judg ?_
  clear H_judg
  intro we_judg k_fe_0 k_fe_1 k_fe_2 k_fe_3 k_fa_0 k_fa_1 he0cs H_judg
  refine an8 H_judg ?_
  clear H_judg
  intro he0rc he0fi he1cs he1rc he1fi he2cs he2rc he2fi H_judg
  refine an8 H_judg ?_
  clear H_judg
  intro he3cs he3rc he3fi hla0n hla0r hla1n hla1r hto H_judg
  refine an5 H_judg ?_
  clear H_judg
  intro hec her hed heT heb H_judg
  have hen := H_judg
  clear H_judg
  subst we_judg
  subst hec
  subst her
  subst hed
  subst heT
  subst heb
  subst hen
  refine ww_eq (ws' := [(hx, .inr (11, [.ref h, .ref qp, .int (nI ac), .int (nI np), .ref qs, .ref qj, .ref ly, .ref qh, .ref kk, .int (nI kc), .ref rd, .ref pg, .int (nI pe), .int kn, .ref ss])), (h, .inr (4, [.int (nI n), .int (nI r), .ref a, .ref b])), (a, .inl (E.2.1 1, 24, .inl f)), (b, .inl (E.2.1 1, 96, .inl gg)), (qj, .inr (2, [.ref jt, .ref je, .ref ju, .ref ja])), (ju, .inl (E.2.1 1, 32, .inl ft)), (je, .inl (E.2.1 4, 4, .inr (.inr (.inr (.inr fe))))), (ja, .inl (E.2.1 5, 2, .inr (.inr (.inr (.inr fa))))), (e0, .inr (0, [.int (nI e0cs), .int (nI e0rc), .ref e0a, .ref e0b, .ref e0c, .ref e0d])), (e0a, .inl (E.2.1 7, 4, .inr (.inr (.inr (.inr e0fi))))), (e0b, .inl (E.2.1 1, 4, .inl e0fb)), (e0c, .inl (E.2.1 1, 4, .inl e0fc)), (e0d, .inl (E.2.1 1, 16, .inl e0fd)), (e1, .inr (0, [.int (nI e1cs), .int (nI e1rc), .ref e1a, .ref e1b, .ref e1c, .ref e1d])), (e1a, .inl (E.2.1 7, 4, .inr (.inr (.inr (.inr e1fi))))), (e1b, .inl (E.2.1 1, 4, .inl e1fb)), (e1c, .inl (E.2.1 1, 4, .inl e1fc)), (e1d, .inl (E.2.1 1, 16, .inl e1fd)), (e2, .inr (0, [.int (nI e2cs), .int (nI e2rc), .ref e2a, .ref e2b, .ref e2c, .ref e2d])), (e2a, .inl (E.2.1 7, 4, .inr (.inr (.inr (.inr e2fi))))), (e2b, .inl (E.2.1 1, 4, .inl e2fb)), (e2c, .inl (E.2.1 1, 4, .inl e2fc)), (e2d, .inl (E.2.1 1, 16, .inl e2fd)), (e3, .inr (0, [.int (nI e3cs), .int (nI e3rc), .ref e3a, .ref e3b, .ref e3c, .ref e3d])), (e3a, .inl (E.2.1 7, 4, .inr (.inr (.inr (.inr e3fi))))), (e3b, .inl (E.2.1 1, 4, .inl e3fb)), (e3c, .inl (E.2.1 1, 4, .inl e3fc)), (e3d, .inl (E.2.1 1, 16, .inl e3fd)), (la0, .inr (3, [.ref la0m, .int la0p, .int la0w, .ref la0c, .ref la0f, .ref la0q])), (la0c, .inl (E.2.1 1, 24, .inl la0fc)), (la0f, .inl (E.2.1 1, 24, .inl la0ff)), (la0q, .inl (E.2.1 1, 4, .inl la0fq)), (la0m, .inr (4, [.int (nI la0n), .int (nI la0r), .ref la0x, .ref la0y])), (la0x, .inl (E.2.1 1, 24, .inl la0gx)), (la0y, .inl (E.2.1 1, 96, .inl la0gy)), (la1, .inr (3, [.ref la1m, .int la1p, .int la1w, .ref la1c, .ref la1f, .ref la1q])), (la1c, .inl (E.2.1 1, 24, .inl la1fc)), (la1f, .inl (E.2.1 1, 24, .inl la1ff)), (la1q, .inl (E.2.1 1, 4, .inl la1fq)), (la1m, .inr (4, [.int (nI la1n), .int (nI la1r), .ref la1x, .ref la1y])), (la1x, .inl (E.2.1 1, 24, .inl la1gx)), (la1y, .inl (E.2.1 1, 96, .inl la1gy)), (jt, .inl (E.2.1 7, 8, .inr (.inr (.inr (.inr fto)))))] ++ wT) ?_ rfl rfl rfl
  refine ww_ciT (k' := kC) (n' := nC) (wr := []) C (run_V (As := [.int v0]) (rest := rest) C (x_truth X.2.1 E ro hx v0 h qp ac np qs qj ly qh kk kc rd pg pe kn ss n r a b f gg jt je ju ja ft fe e0 e1 e2 e3 fa la0 la1 e0cs e0rc e0a e0b e0c e0d e0fi e0fb e0fc e0fd e1cs e1rc e1a e1b e1c e1d e1fi e1fb e1fc e1fd e2cs e2rc e2a e2b e2c e2d e2fi e2fb e2fc e2fd e3cs e3rc e3a e3b e3c e3d e3fi e3fb e3fc e3fd la0m la0p la0w la0c la0f la0q la0fc la0ff la0fq la0n la0r la0x la0y la0gx la0gy la1m la1p la1w la1c la1f la1q la1fc la1ff la1fq la1n la1r la1x la1y la1gx la1gy fto e0T e1T e2T e3T tT k_fe_0 k_fe_1 k_fe_2 k_fe_3 k_fa_0 k_fa_1 (by first | assumption | omega) (by first | assumption | omega) (by first | assumption | omega) (by first | assumption | omega) (by first | assumption | omega) (by first | assumption | omega) (by first | assumption | omega) (by first | assumption | omega) (by first | assumption | omega) he0fi (by first | assumption | omega) (by first | assumption | omega) he1fi (by first | assumption | omega) (by first | assumption | omega) he2fi (by first | assumption | omega) (by first | assumption | omega) he3fi (by first | assumption | omega) (by first | assumption | omega) (by first | assumption | omega) (by first | assumption | omega) hto) mi_X11_truth wl_L_64 rfl 0 11 rfl rfl rfl rfl hW dL_law_581) (roT (pre := pre) [0, 1, 2, 3, 4, 5, 6, 7, 8, 9, 10, 11, 12, 13, 14, 15, 16, 17, 18, 19, 20, 21, 22, 23, 24, 25, 26, 27, 28, 29, 30, 31, 32, 33, 34, 35, 36, 37, 38, 39, 40, 41, 42] rfl hT) [0, 1, 2, 3, 4, 5, 6, 7, 8, 9, 10, 11, 12, 13, 14, 15, 16, 17, 18, 19, 20, 21, 22, 23, 24, 25, 26, 27, 28, 29, 30, 31, 32, 33, 34, 35, 36, 37, 38, 39, 40, 41, 42] [] (gqk (by eq_refl)) rfl (plk (by decide +kernel)) ⟨by omega, by omega, hk.1, hk.2⟩ (fun rr u hw => ?_)
  refine ex8 hw ?_
  clear hw
  intro ft2_1 la0zp_2 la0zw_3 la0zn_4 la0zr_5 la0zfc_6 la0zff_7 la0zfq_8 hw
  refine ex8 hw ?_
  clear hw
  intro la0zgx_9 la0zgy_10 la1zp_11 la1zw_12 la1zn_13 la1zr_14 la1zfc_15 la1zff_16 hw
  refine ex3 hw ?_
  clear hw
  intro la1zfq_17 la1zgx_18 la1zgy_19 hw
  refine an5 hw ?_
  clear hw
  intro he_u h_20 h_21 h_22 h_23 hw
  have h_24 := hw
  clear hw
  subst he_u
  refine ww_subT (w1 := [(hx, .inr (11, [.ref h, .ref qp, .int (nI ac), .int (nI np), .ref qs, .ref qj, .ref ly, .ref qh, .ref kk, .int (nI kc), .ref rd, .ref pg, .int (nI pe), .int kn, .ref ss])), (h, .inr (4, [.int (nI n), .int (nI r), .ref a, .ref b])), (a, .inl (E.2.1 1, 24, .inl f)), (b, .inl (E.2.1 1, 96, .inl gg)), (qj, .inr (2, [.ref jt, .ref je, .ref ju, .ref ja])), (ju, .inl (E.2.1 1, 32, .inl ft2_1)), (je, .inl (E.2.1 4, 4, .inr (.inr (.inr (.inr fe))))), (ja, .inl (E.2.1 5, 2, .inr (.inr (.inr (.inr fa))))), (e0, .inr (0, [.int (nI e0cs), .int (nI e0rc), .ref e0a, .ref e0b, .ref e0c, .ref e0d])), (e0a, .inl (E.2.1 7, 4, .inr (.inr (.inr (.inr e0fi))))), (e0b, .inl (E.2.1 1, 4, .inl e0fb)), (e0c, .inl (E.2.1 1, 4, .inl e0fc)), (e0d, .inl (E.2.1 1, 16, .inl e0fd)), (e1, .inr (0, [.int (nI e1cs), .int (nI e1rc), .ref e1a, .ref e1b, .ref e1c, .ref e1d])), (e1a, .inl (E.2.1 7, 4, .inr (.inr (.inr (.inr e1fi))))), (e1b, .inl (E.2.1 1, 4, .inl e1fb)), (e1c, .inl (E.2.1 1, 4, .inl e1fc)), (e1d, .inl (E.2.1 1, 16, .inl e1fd)), (e2, .inr (0, [.int (nI e2cs), .int (nI e2rc), .ref e2a, .ref e2b, .ref e2c, .ref e2d])), (e2a, .inl (E.2.1 7, 4, .inr (.inr (.inr (.inr e2fi))))), (e2b, .inl (E.2.1 1, 4, .inl e2fb)), (e2c, .inl (E.2.1 1, 4, .inl e2fc)), (e2d, .inl (E.2.1 1, 16, .inl e2fd)), (e3, .inr (0, [.int (nI e3cs), .int (nI e3rc), .ref e3a, .ref e3b, .ref e3c, .ref e3d])), (e3a, .inl (E.2.1 7, 4, .inr (.inr (.inr (.inr e3fi))))), (e3b, .inl (E.2.1 1, 4, .inl e3fb)), (e3c, .inl (E.2.1 1, 4, .inl e3fc)), (e3d, .inl (E.2.1 1, 16, .inl e3fd)), (la0, .inr (3, [.ref la0m, .int la0zp_2, .int la0zw_3, .ref la0c, .ref la0f, .ref la0q])), (la0c, .inl (E.2.1 1, 24, .inl la0zfc_6)), (la0f, .inl (E.2.1 1, 24, .inl la0zff_7)), (la0q, .inl (E.2.1 1, 4, .inl la0zfq_8)), (la0m, .inr (4, [.int (nI la0zn_4), .int (nI la0zr_5), .ref la0x, .ref la0y])), (la0x, .inl (E.2.1 1, 24, .inl la0zgx_9)), (la0y, .inl (E.2.1 1, 96, .inl la0zgy_10)), (la1, .inr (3, [.ref la1m, .int la1zp_11, .int la1zw_12, .ref la1c, .ref la1f, .ref la1q])), (la1c, .inl (E.2.1 1, 24, .inl la1zfc_15)), (la1f, .inl (E.2.1 1, 24, .inl la1zff_16)), (la1q, .inl (E.2.1 1, 4, .inl la1zfq_17)), (la1m, .inr (4, [.int (nI la1zn_13), .int (nI la1zr_14), .ref la1x, .ref la1y])), (la1x, .inl (E.2.1 1, 24, .inl la1zgx_18)), (la1y, .inl (E.2.1 1, 96, .inl la1zgy_19)), (jt, .inl (E.2.1 7, 8, .inr (.inr (.inr (.inr fto)))))]) [0, 1, 2, 3, 4, 5, 6, 7, 8, 9, 10, 11, 12, 13, 14, 15, 16, 17, 18, 19, 20, 21, 22, 23, 24, 25, 26, 27, 28, 29, 30, 31, 32, 33, 34, 35, 36, 37, 38, 39, 40, 41, 42] (ndk (by decide +kernel)) (gqk (by eq_refl)) ?_
  exact kont rr  [(h, .inr (4, [.int (nI n), .int (nI r), .ref a, .ref b])), (a, .inl (E.2.1 1, 24, .inl f)), (b, .inl (E.2.1 1, 96, .inl gg))] [(qj, .inr (2, [.ref jt, .ref je, .ref ju, .ref ja])), (ju, .inl (E.2.1 1, 32, .inl ft2_1)), (je, .inl (E.2.1 4, 4, .inr (.inr (.inr (.inr fe))))), (ja, .inl (E.2.1 5, 2, .inr (.inr (.inr (.inr fa))))), (e0, .inr (0, [.int (nI e0cs), .int (nI e0rc), .ref e0a, .ref e0b, .ref e0c, .ref e0d])), (e0a, .inl (E.2.1 7, 4, .inr (.inr (.inr (.inr e0fi))))), (e0b, .inl (E.2.1 1, 4, .inl e0fb)), (e0c, .inl (E.2.1 1, 4, .inl e0fc)), (e0d, .inl (E.2.1 1, 16, .inl e0fd)), (e1, .inr (0, [.int (nI e1cs), .int (nI e1rc), .ref e1a, .ref e1b, .ref e1c, .ref e1d])), (e1a, .inl (E.2.1 7, 4, .inr (.inr (.inr (.inr e1fi))))), (e1b, .inl (E.2.1 1, 4, .inl e1fb)), (e1c, .inl (E.2.1 1, 4, .inl e1fc)), (e1d, .inl (E.2.1 1, 16, .inl e1fd)), (e2, .inr (0, [.int (nI e2cs), .int (nI e2rc), .ref e2a, .ref e2b, .ref e2c, .ref e2d])), (e2a, .inl (E.2.1 7, 4, .inr (.inr (.inr (.inr e2fi))))), (e2b, .inl (E.2.1 1, 4, .inl e2fb)), (e2c, .inl (E.2.1 1, 4, .inl e2fc)), (e2d, .inl (E.2.1 1, 16, .inl e2fd)), (e3, .inr (0, [.int (nI e3cs), .int (nI e3rc), .ref e3a, .ref e3b, .ref e3c, .ref e3d])), (e3a, .inl (E.2.1 7, 4, .inr (.inr (.inr (.inr e3fi))))), (e3b, .inl (E.2.1 1, 4, .inl e3fb)), (e3c, .inl (E.2.1 1, 4, .inl e3fc)), (e3d, .inl (E.2.1 1, 16, .inl e3fd)), (la0, .inr (3, [.ref la0m, .int la0zp_2, .int la0zw_3, .ref la0c, .ref la0f, .ref la0q])), (la0c, .inl (E.2.1 1, 24, .inl la0zfc_6)), (la0f, .inl (E.2.1 1, 24, .inl la0zff_7)), (la0q, .inl (E.2.1 1, 4, .inl la0zfq_8)), (la0m, .inr (4, [.int (nI la0zn_4), .int (nI la0zr_5), .ref la0x, .ref la0y])), (la0x, .inl (E.2.1 1, 24, .inl la0zgx_9)), (la0y, .inl (E.2.1 1, 96, .inl la0zgy_10)), (la1, .inr (3, [.ref la1m, .int la1zp_11, .int la1zw_12, .ref la1c, .ref la1f, .ref la1q])), (la1c, .inl (E.2.1 1, 24, .inl la1zfc_15)), (la1f, .inl (E.2.1 1, 24, .inl la1zff_16)), (la1q, .inl (E.2.1 1, 4, .inl la1zfq_17)), (la1m, .inr (4, [.int (nI la1zn_13), .int (nI la1zr_14), .ref la1x, .ref la1y])), (la1x, .inl (E.2.1 1, 24, .inl la1zgx_18)), (la1y, .inl (E.2.1 1, 96, .inl la1zgy_19)), (jt, .inl (E.2.1 7, 8, .inr (.inr (.inr (.inr fto)))))]  ⟨n, r, a, b, f, gg, rfl, (by first | assumption | omega), (by first | assumption | omega), (by first | assumption | omega), rfl⟩ ⟨jt, je, ju, ja, ft2_1, fe, e0, e1, e2, e3, fa, la0, la1, e0cs, e0rc, e0a, e0b, e0c, e0d, e0fi, e0fb, e0fc, e0fd, e1cs, e1rc, e1a, e1b, e1c, e1d, e1fi, e1fb, e1fc, e1fd, e2cs, e2rc, e2a, e2b, e2c, e2d, e2fi, e2fb, e2fc, e2fd, e3cs, e3rc, e3a, e3b, e3c, e3d, e3fi, e3fb, e3fc, e3fd, la0m, la0zp_2, la0zw_3, la0c, la0f, la0q, la0zfc_6, la0zff_7, la0zfq_8, la0zn_4, la0zr_5, la0x, la0y, la0zgx_9, la0zgy_10, la1m, la1zp_11, la1zw_12, la1c, la1f, la1q, la1zfc_15, la1zff_16, la1zfq_17, la1zn_13, la1zr_14, la1x, la1y, la1zgx_18, la1zgy_19, fto, e0T, e1T, e2T, e3T, rfl, k_fe_0, k_fe_1, k_fe_2, k_fe_3, k_fa_0, k_fa_1, (by first | assumption | omega), (by first | assumption | omega), he0fi, (by first | assumption | omega), (by first | assumption | omega), he1fi, (by first | assumption | omega), (by first | assumption | omega), he2fi, (by first | assumption | omega), (by first | assumption | omega), he3fi, (by first | assumption | omega), (by first | assumption | omega), (by first | assumption | omega), (by first | assumption | omega), hto, rfl, rfl, rfl, rfl, rfl, rfl⟩ (h_24)
theorem wc_X11_holds : Cond.code yX11_holds cX11_holds 2 (some .int) ∈ TB := tbm (tq4 (List.mem_of_getElem? (i := 50) (rfl))) (by decide +kernel)
theorem wi_X11_holds : Cond.instanceMethod yX11_holds ∈ TB := tbm (tq4 (List.mem_of_getElem? (i := 48) (by decide +kernel))) (by decide +kernel)
theorem ws_X11_holds : Cond.selects RX11 yX11_holds yX11_holds ∈ TB := tbm (tq4 (List.mem_of_getElem? (i := 49) (by decide +kernel))) (by decide +kernel)
theorem mi_X11_holds : MI yX11_holds cX11_holds 2 (some .int) 1 := ⟨wc_X11_holds, wn_X11, ⟨by decide +kernel, by decide +kernel, by decide +kernel⟩, wi_X11_holds, ws_X11_holds⟩
theorem wl_L_68 : Cond.methodLink RL 68 yX11_holds ∈ TB := tbm (tq4 (List.mem_of_getElem? (i := 47) (by decide +kernel))) (by decide +kernel)
theorem dL_law_604 : decode cL_law 604 = .ok (.invokevirtual 68, 3) := dl_182 (by decide +kernel)
set_option maxRecDepth 100000 in
set_option maxHeartbeats 4000000 in
theorem lx_holds {X : XT} {E : EV} {ro wT pre : va_W} {lv : List (Nat × Value)} {rest : List Value} {kC nC : Nat} {hx h qp qs qj ly qh kk rd pg ss : Nat} {ac np kc pe : Nat} {kn : Int32} {mN : AM} {tT : Nat → Option SVal} {ec : Nat → Nat} {er : Nat → Nat} {ed : Nat → Nat → Int32} {eT : Nat → Nat → Option SVal} {eb : Nat → Nat → Int32} {en : Nat → Nat → Int32} {w_now : va_W} {w_judg : va_W} {v0 : Int32}  (C : CX X room_1 cL_law 4 RL ret E) (hW : Nat.ble (rest.map fun v => v.category).sum 8 = true) (hT : wT = pre ++ ro) (hk : kC + 0 ≤ 600000 ∧ nC + 0 ≤ 7302250) (hac : ac ≤ 8) (hnp : np < 8) (hkc : kc ≤ 4) (hpe : pe ≤ 4) (H_now : ok_now E ro h mN w_now) (H_judg : ok_judg E ro qj tT ec er ed eT eb en w_judg) (kont : ∀ (rr : Int32) (w_nowZ : va_W) (w_judgZ : va_W), ok_now E ro h mN w_nowZ → ok_judg E ro qj tT ec er ed eT eb en w_judgZ → (rr = ansHolds mN (ev6 ec er eT eb en ed) tT v0) → WW X 4 E 607 lv (.int rr :: rest) ([(hx, .inr (11, [.ref h, .ref qp, .int (nI ac), .int (nI np), .ref qs, .ref qj, .ref ly, .ref qh, .ref kk, .int (nI kc), .ref rd, .ref pg, .int (nI pe), .int kn, .ref ss]))] ++ (w_nowZ ++ (w_judgZ ++ wT))) kC nC) : WW X 4 E 604 lv (.int v0 :: .ref hx :: rest) ([(hx, .inr (11, [.ref h, .ref qp, .int (nI ac), .int (nI np), .ref qs, .ref qj, .ref ly, .ref qh, .ref kk, .int (nI kc), .ref rd, .ref pg, .int (nI pe), .int kn, .ref ss]))] ++ (w_now ++ (w_judg ++ wT))) kC nC := by
  unfold ok_now at H_now
  refine ex6 H_now ?_
  clear H_now
  intro n r a b f gg H_now
  refine an4 H_now ?_
  clear H_now
  intro we_now hn hr hwfm H_now
  have hmN := H_now
  clear H_now
  subst we_now
  subst hmN
  unfold ok_judg at H_judg
  refine ex8 H_judg ?_
  clear H_judg
  intro jt je ju ja ft fe e0 e1 H_judg
  refine ex8 H_judg ?_
  clear H_judg
  intro e2 e3 fa la0 la1 e0cs e0rc e0a H_judg
  refine ex8 H_judg ?_
  clear H_judg
  intro e0b e0c e0d e0fi e0fb e0fc e0fd e1cs H_judg
  refine ex8 H_judg ?_
  clear H_judg
  intro e1rc e1a e1b e1c e1d e1fi e1fb e1fc H_judg
  refine ex8 H_judg ?_
  clear H_judg
  intro e1fd e2cs e2rc e2a e2b e2c e2d e2fi H_judg
  refine ex8 H_judg ?_
  clear H_judg
  intro e2fb e2fc e2fd e3cs e3rc e3a e3b e3c H_judg
  refine ex8 H_judg ?_
  clear H_judg
  intro e3d e3fi e3fb e3fc e3fd la0m la0p la0w H_judg
  refine ex8 H_judg ?_
  clear H_judg
  intro la0c la0f la0q la0fc la0ff la0fq la0n la0r H_judg
  refine ex8 H_judg ?_
  clear H_judg
  intro la0x la0y la0gx la0gy la1m la1p la1w la1c H_judg
  refine ex8 H_judg ?_
  clear H_judg
  intro la1f la1q la1fc la1ff la1fq la1n la1r la1x H_judg
  refine ex8 H_judg ?_
  clear H_judg
  intro la1y la1gx la1gy fto e0T e1T e2T e3T H_judg
  refine an8 H_judg ?_
  clear H_judg
  intro we_judg k_fe_0 k_fe_1 k_fe_2 k_fe_3 k_fa_0 k_fa_1 he0cs H_judg
  refine an8 H_judg ?_
  clear H_judg
  intro he0rc he0fi he1cs he1rc he1fi he2cs he2rc he2fi H_judg
  refine an8 H_judg ?_
  clear H_judg
  intro he3cs he3rc he3fi hla0n hla0r hla1n hla1r hto H_judg
  refine an5 H_judg ?_
  clear H_judg
  intro hec her hed heT heb H_judg
  have hen := H_judg
  clear H_judg
  subst we_judg
  subst hec
  subst her
  subst hed
  subst heT
  subst heb
  subst hen
  refine ww_eq (ws' := [(hx, .inr (11, [.ref h, .ref qp, .int (nI ac), .int (nI np), .ref qs, .ref qj, .ref ly, .ref qh, .ref kk, .int (nI kc), .ref rd, .ref pg, .int (nI pe), .int kn, .ref ss])), (h, .inr (4, [.int (nI n), .int (nI r), .ref a, .ref b])), (a, .inl (E.2.1 1, 24, .inl f)), (b, .inl (E.2.1 1, 96, .inl gg)), (qj, .inr (2, [.ref jt, .ref je, .ref ju, .ref ja])), (ju, .inl (E.2.1 1, 32, .inl ft)), (je, .inl (E.2.1 4, 4, .inr (.inr (.inr (.inr fe))))), (ja, .inl (E.2.1 5, 2, .inr (.inr (.inr (.inr fa))))), (e0, .inr (0, [.int (nI e0cs), .int (nI e0rc), .ref e0a, .ref e0b, .ref e0c, .ref e0d])), (e0a, .inl (E.2.1 7, 4, .inr (.inr (.inr (.inr e0fi))))), (e0b, .inl (E.2.1 1, 4, .inl e0fb)), (e0c, .inl (E.2.1 1, 4, .inl e0fc)), (e0d, .inl (E.2.1 1, 16, .inl e0fd)), (e1, .inr (0, [.int (nI e1cs), .int (nI e1rc), .ref e1a, .ref e1b, .ref e1c, .ref e1d])), (e1a, .inl (E.2.1 7, 4, .inr (.inr (.inr (.inr e1fi))))), (e1b, .inl (E.2.1 1, 4, .inl e1fb)), (e1c, .inl (E.2.1 1, 4, .inl e1fc)), (e1d, .inl (E.2.1 1, 16, .inl e1fd)), (e2, .inr (0, [.int (nI e2cs), .int (nI e2rc), .ref e2a, .ref e2b, .ref e2c, .ref e2d])), (e2a, .inl (E.2.1 7, 4, .inr (.inr (.inr (.inr e2fi))))), (e2b, .inl (E.2.1 1, 4, .inl e2fb)), (e2c, .inl (E.2.1 1, 4, .inl e2fc)), (e2d, .inl (E.2.1 1, 16, .inl e2fd)), (e3, .inr (0, [.int (nI e3cs), .int (nI e3rc), .ref e3a, .ref e3b, .ref e3c, .ref e3d])), (e3a, .inl (E.2.1 7, 4, .inr (.inr (.inr (.inr e3fi))))), (e3b, .inl (E.2.1 1, 4, .inl e3fb)), (e3c, .inl (E.2.1 1, 4, .inl e3fc)), (e3d, .inl (E.2.1 1, 16, .inl e3fd)), (la0, .inr (3, [.ref la0m, .int la0p, .int la0w, .ref la0c, .ref la0f, .ref la0q])), (la0c, .inl (E.2.1 1, 24, .inl la0fc)), (la0f, .inl (E.2.1 1, 24, .inl la0ff)), (la0q, .inl (E.2.1 1, 4, .inl la0fq)), (la0m, .inr (4, [.int (nI la0n), .int (nI la0r), .ref la0x, .ref la0y])), (la0x, .inl (E.2.1 1, 24, .inl la0gx)), (la0y, .inl (E.2.1 1, 96, .inl la0gy)), (la1, .inr (3, [.ref la1m, .int la1p, .int la1w, .ref la1c, .ref la1f, .ref la1q])), (la1c, .inl (E.2.1 1, 24, .inl la1fc)), (la1f, .inl (E.2.1 1, 24, .inl la1ff)), (la1q, .inl (E.2.1 1, 4, .inl la1fq)), (la1m, .inr (4, [.int (nI la1n), .int (nI la1r), .ref la1x, .ref la1y])), (la1x, .inl (E.2.1 1, 24, .inl la1gx)), (la1y, .inl (E.2.1 1, 96, .inl la1gy)), (jt, .inl (E.2.1 7, 8, .inr (.inr (.inr (.inr fto)))))] ++ wT) ?_ rfl rfl rfl
  refine ww_ciT (k' := kC) (n' := nC) (wr := []) C (run_V (As := [.int v0]) (rest := rest) C (x_holds X.2.1 E ro hx v0 h qp ac np qs qj ly qh kk kc rd pg pe kn ss n r a b f gg jt je ju ja ft fe e0 e1 e2 e3 fa la0 la1 e0cs e0rc e0a e0b e0c e0d e0fi e0fb e0fc e0fd e1cs e1rc e1a e1b e1c e1d e1fi e1fb e1fc e1fd e2cs e2rc e2a e2b e2c e2d e2fi e2fb e2fc e2fd e3cs e3rc e3a e3b e3c e3d e3fi e3fb e3fc e3fd la0m la0p la0w la0c la0f la0q la0fc la0ff la0fq la0n la0r la0x la0y la0gx la0gy la1m la1p la1w la1c la1f la1q la1fc la1ff la1fq la1n la1r la1x la1y la1gx la1gy fto e0T e1T e2T e3T tT k_fe_0 k_fe_1 k_fe_2 k_fe_3 k_fa_0 k_fa_1 (by first | assumption | omega) (by first | assumption | omega) (by first | assumption | omega) (by first | assumption | omega) (by first | assumption | omega) (by first | assumption | omega) (by first | assumption | omega) (by first | assumption | omega) (by first | assumption | omega) he0fi (by first | assumption | omega) (by first | assumption | omega) he1fi (by first | assumption | omega) (by first | assumption | omega) he2fi (by first | assumption | omega) (by first | assumption | omega) he3fi (by first | assumption | omega) (by first | assumption | omega) (by first | assumption | omega) (by first | assumption | omega) hto) mi_X11_holds wl_L_68 rfl 0 11 rfl rfl rfl rfl hW dL_law_604) (roT (pre := pre) [0, 1, 2, 3, 4, 5, 6, 7, 8, 9, 10, 11, 12, 13, 14, 15, 16, 17, 18, 19, 20, 21, 22, 23, 24, 25, 26, 27, 28, 29, 30, 31, 32, 33, 34, 35, 36, 37, 38, 39, 40, 41, 42] rfl hT) [0, 1, 2, 3, 4, 5, 6, 7, 8, 9, 10, 11, 12, 13, 14, 15, 16, 17, 18, 19, 20, 21, 22, 23, 24, 25, 26, 27, 28, 29, 30, 31, 32, 33, 34, 35, 36, 37, 38, 39, 40, 41, 42] [] (gqk (by eq_refl)) rfl (plk (by decide +kernel)) ⟨by omega, by omega, hk.1, hk.2⟩ (fun rr u hw => ?_)
  refine ex8 hw ?_
  clear hw
  intro ft2_1 la0zp_2 la0zw_3 la0zn_4 la0zr_5 la0zfc_6 la0zff_7 la0zfq_8 hw
  refine ex8 hw ?_
  clear hw
  intro la0zgx_9 la0zgy_10 la1zp_11 la1zw_12 la1zn_13 la1zr_14 la1zfc_15 la1zff_16 hw
  refine ex3 hw ?_
  clear hw
  intro la1zfq_17 la1zgx_18 la1zgy_19 hw
  refine an5 hw ?_
  clear hw
  intro he_u h_20 h_21 h_22 h_23 hw
  have h_24 := hw
  clear hw
  subst he_u
  refine ww_subT (w1 := [(hx, .inr (11, [.ref h, .ref qp, .int (nI ac), .int (nI np), .ref qs, .ref qj, .ref ly, .ref qh, .ref kk, .int (nI kc), .ref rd, .ref pg, .int (nI pe), .int kn, .ref ss])), (h, .inr (4, [.int (nI n), .int (nI r), .ref a, .ref b])), (a, .inl (E.2.1 1, 24, .inl f)), (b, .inl (E.2.1 1, 96, .inl gg)), (qj, .inr (2, [.ref jt, .ref je, .ref ju, .ref ja])), (ju, .inl (E.2.1 1, 32, .inl ft2_1)), (je, .inl (E.2.1 4, 4, .inr (.inr (.inr (.inr fe))))), (ja, .inl (E.2.1 5, 2, .inr (.inr (.inr (.inr fa))))), (e0, .inr (0, [.int (nI e0cs), .int (nI e0rc), .ref e0a, .ref e0b, .ref e0c, .ref e0d])), (e0a, .inl (E.2.1 7, 4, .inr (.inr (.inr (.inr e0fi))))), (e0b, .inl (E.2.1 1, 4, .inl e0fb)), (e0c, .inl (E.2.1 1, 4, .inl e0fc)), (e0d, .inl (E.2.1 1, 16, .inl e0fd)), (e1, .inr (0, [.int (nI e1cs), .int (nI e1rc), .ref e1a, .ref e1b, .ref e1c, .ref e1d])), (e1a, .inl (E.2.1 7, 4, .inr (.inr (.inr (.inr e1fi))))), (e1b, .inl (E.2.1 1, 4, .inl e1fb)), (e1c, .inl (E.2.1 1, 4, .inl e1fc)), (e1d, .inl (E.2.1 1, 16, .inl e1fd)), (e2, .inr (0, [.int (nI e2cs), .int (nI e2rc), .ref e2a, .ref e2b, .ref e2c, .ref e2d])), (e2a, .inl (E.2.1 7, 4, .inr (.inr (.inr (.inr e2fi))))), (e2b, .inl (E.2.1 1, 4, .inl e2fb)), (e2c, .inl (E.2.1 1, 4, .inl e2fc)), (e2d, .inl (E.2.1 1, 16, .inl e2fd)), (e3, .inr (0, [.int (nI e3cs), .int (nI e3rc), .ref e3a, .ref e3b, .ref e3c, .ref e3d])), (e3a, .inl (E.2.1 7, 4, .inr (.inr (.inr (.inr e3fi))))), (e3b, .inl (E.2.1 1, 4, .inl e3fb)), (e3c, .inl (E.2.1 1, 4, .inl e3fc)), (e3d, .inl (E.2.1 1, 16, .inl e3fd)), (la0, .inr (3, [.ref la0m, .int la0zp_2, .int la0zw_3, .ref la0c, .ref la0f, .ref la0q])), (la0c, .inl (E.2.1 1, 24, .inl la0zfc_6)), (la0f, .inl (E.2.1 1, 24, .inl la0zff_7)), (la0q, .inl (E.2.1 1, 4, .inl la0zfq_8)), (la0m, .inr (4, [.int (nI la0zn_4), .int (nI la0zr_5), .ref la0x, .ref la0y])), (la0x, .inl (E.2.1 1, 24, .inl la0zgx_9)), (la0y, .inl (E.2.1 1, 96, .inl la0zgy_10)), (la1, .inr (3, [.ref la1m, .int la1zp_11, .int la1zw_12, .ref la1c, .ref la1f, .ref la1q])), (la1c, .inl (E.2.1 1, 24, .inl la1zfc_15)), (la1f, .inl (E.2.1 1, 24, .inl la1zff_16)), (la1q, .inl (E.2.1 1, 4, .inl la1zfq_17)), (la1m, .inr (4, [.int (nI la1zn_13), .int (nI la1zr_14), .ref la1x, .ref la1y])), (la1x, .inl (E.2.1 1, 24, .inl la1zgx_18)), (la1y, .inl (E.2.1 1, 96, .inl la1zgy_19)), (jt, .inl (E.2.1 7, 8, .inr (.inr (.inr (.inr fto)))))]) [0, 1, 2, 3, 4, 5, 6, 7, 8, 9, 10, 11, 12, 13, 14, 15, 16, 17, 18, 19, 20, 21, 22, 23, 24, 25, 26, 27, 28, 29, 30, 31, 32, 33, 34, 35, 36, 37, 38, 39, 40, 41, 42] (ndk (by decide +kernel)) (gqk (by eq_refl)) ?_
  exact kont rr  [(h, .inr (4, [.int (nI n), .int (nI r), .ref a, .ref b])), (a, .inl (E.2.1 1, 24, .inl f)), (b, .inl (E.2.1 1, 96, .inl gg))] [(qj, .inr (2, [.ref jt, .ref je, .ref ju, .ref ja])), (ju, .inl (E.2.1 1, 32, .inl ft2_1)), (je, .inl (E.2.1 4, 4, .inr (.inr (.inr (.inr fe))))), (ja, .inl (E.2.1 5, 2, .inr (.inr (.inr (.inr fa))))), (e0, .inr (0, [.int (nI e0cs), .int (nI e0rc), .ref e0a, .ref e0b, .ref e0c, .ref e0d])), (e0a, .inl (E.2.1 7, 4, .inr (.inr (.inr (.inr e0fi))))), (e0b, .inl (E.2.1 1, 4, .inl e0fb)), (e0c, .inl (E.2.1 1, 4, .inl e0fc)), (e0d, .inl (E.2.1 1, 16, .inl e0fd)), (e1, .inr (0, [.int (nI e1cs), .int (nI e1rc), .ref e1a, .ref e1b, .ref e1c, .ref e1d])), (e1a, .inl (E.2.1 7, 4, .inr (.inr (.inr (.inr e1fi))))), (e1b, .inl (E.2.1 1, 4, .inl e1fb)), (e1c, .inl (E.2.1 1, 4, .inl e1fc)), (e1d, .inl (E.2.1 1, 16, .inl e1fd)), (e2, .inr (0, [.int (nI e2cs), .int (nI e2rc), .ref e2a, .ref e2b, .ref e2c, .ref e2d])), (e2a, .inl (E.2.1 7, 4, .inr (.inr (.inr (.inr e2fi))))), (e2b, .inl (E.2.1 1, 4, .inl e2fb)), (e2c, .inl (E.2.1 1, 4, .inl e2fc)), (e2d, .inl (E.2.1 1, 16, .inl e2fd)), (e3, .inr (0, [.int (nI e3cs), .int (nI e3rc), .ref e3a, .ref e3b, .ref e3c, .ref e3d])), (e3a, .inl (E.2.1 7, 4, .inr (.inr (.inr (.inr e3fi))))), (e3b, .inl (E.2.1 1, 4, .inl e3fb)), (e3c, .inl (E.2.1 1, 4, .inl e3fc)), (e3d, .inl (E.2.1 1, 16, .inl e3fd)), (la0, .inr (3, [.ref la0m, .int la0zp_2, .int la0zw_3, .ref la0c, .ref la0f, .ref la0q])), (la0c, .inl (E.2.1 1, 24, .inl la0zfc_6)), (la0f, .inl (E.2.1 1, 24, .inl la0zff_7)), (la0q, .inl (E.2.1 1, 4, .inl la0zfq_8)), (la0m, .inr (4, [.int (nI la0zn_4), .int (nI la0zr_5), .ref la0x, .ref la0y])), (la0x, .inl (E.2.1 1, 24, .inl la0zgx_9)), (la0y, .inl (E.2.1 1, 96, .inl la0zgy_10)), (la1, .inr (3, [.ref la1m, .int la1zp_11, .int la1zw_12, .ref la1c, .ref la1f, .ref la1q])), (la1c, .inl (E.2.1 1, 24, .inl la1zfc_15)), (la1f, .inl (E.2.1 1, 24, .inl la1zff_16)), (la1q, .inl (E.2.1 1, 4, .inl la1zfq_17)), (la1m, .inr (4, [.int (nI la1zn_13), .int (nI la1zr_14), .ref la1x, .ref la1y])), (la1x, .inl (E.2.1 1, 24, .inl la1zgx_18)), (la1y, .inl (E.2.1 1, 96, .inl la1zgy_19)), (jt, .inl (E.2.1 7, 8, .inr (.inr (.inr (.inr fto)))))]  ⟨n, r, a, b, f, gg, rfl, (by first | assumption | omega), (by first | assumption | omega), (by first | assumption | omega), rfl⟩ ⟨jt, je, ju, ja, ft2_1, fe, e0, e1, e2, e3, fa, la0, la1, e0cs, e0rc, e0a, e0b, e0c, e0d, e0fi, e0fb, e0fc, e0fd, e1cs, e1rc, e1a, e1b, e1c, e1d, e1fi, e1fb, e1fc, e1fd, e2cs, e2rc, e2a, e2b, e2c, e2d, e2fi, e2fb, e2fc, e2fd, e3cs, e3rc, e3a, e3b, e3c, e3d, e3fi, e3fb, e3fc, e3fd, la0m, la0zp_2, la0zw_3, la0c, la0f, la0q, la0zfc_6, la0zff_7, la0zfq_8, la0zn_4, la0zr_5, la0x, la0y, la0zgx_9, la0zgy_10, la1m, la1zp_11, la1zw_12, la1c, la1f, la1q, la1zfc_15, la1zff_16, la1zfq_17, la1zn_13, la1zr_14, la1x, la1y, la1zgx_18, la1zgy_19, fto, e0T, e1T, e2T, e3T, rfl, k_fe_0, k_fe_1, k_fe_2, k_fe_3, k_fa_0, k_fa_1, (by first | assumption | omega), (by first | assumption | omega), he0fi, (by first | assumption | omega), (by first | assumption | omega), he1fi, (by first | assumption | omega), (by first | assumption | omega), he2fi, (by first | assumption | omega), (by first | assumption | omega), he3fi, (by first | assumption | omega), (by first | assumption | omega), (by first | assumption | omega), (by first | assumption | omega), hto, rfl, rfl, rfl, rfl, rfl, rfl⟩ (h_24)
theorem wc_X11_event : Cond.code yX11_event cX11_event 3 (some .int) ∈ TB := tbm (tq4 (List.mem_of_getElem? (i := 54) (rfl))) (by decide +kernel)
theorem wi_X11_event : Cond.instanceMethod yX11_event ∈ TB := tbm (tq4 (List.mem_of_getElem? (i := 52) (by decide +kernel))) (by decide +kernel)
theorem ws_X11_event : Cond.selects RX11 yX11_event yX11_event ∈ TB := tbm (tq4 (List.mem_of_getElem? (i := 53) (by decide +kernel))) (by decide +kernel)
theorem mi_X11_event : MI yX11_event cX11_event 3 (some .int) 2 := ⟨wc_X11_event, wn_X11, ⟨by decide +kernel, by decide +kernel, by decide +kernel⟩, wi_X11_event, ws_X11_event⟩
theorem wl_L_72 : Cond.methodLink RL 72 yX11_event ∈ TB := tbm (tq4 (List.mem_of_getElem? (i := 51) (by decide +kernel))) (by decide +kernel)
theorem dL_law_632 : decode cL_law 632 = .ok (.invokevirtual 72, 3) := dl_182 (by decide +kernel)
set_option maxRecDepth 100000 in
set_option maxHeartbeats 4000000 in
theorem lx_event {X : XT} {E : EV} {ro wT pre : va_W} {lv : List (Nat × Value)} {rest : List Value} {kC nC : Nat} {hx h qp qs qj ly qh kk rd pg ss : Nat} {ac np kc pe : Nat} {kn : Int32} {tT : Nat → Option SVal} {ec : Nat → Nat} {er : Nat → Nat} {ed : Nat → Nat → Int32} {eT : Nat → Nat → Option SVal} {eb : Nat → Nat → Int32} {en : Nat → Nat → Int32} {w_judg : va_W} {v0 : Int32} {v1 : Int32}  (C : CX X room_1 cL_law 4 RL ret E) (hW : Nat.ble (rest.map fun v => v.category).sum 8 = true) (hT : wT = pre ++ ro) (hk : kC + 0 ≤ 600000 ∧ nC + 0 ≤ 7302250) (hac : ac ≤ 8) (hnp : np < 8) (hkc : kc ≤ 4) (hpe : pe ≤ 4) (H_judg : ok_judg E ro qj tT ec er ed eT eb en w_judg) (kont : ∀ (rr : Int32) (ecZ : Nat → Nat) (erZ : Nat → Nat) (edZ : Nat → Nat → Int32) (eTZ : Nat → Nat → Option SVal) (ebZ : Nat → Nat → Int32) (enZ : Nat → Nat → Int32) (w_judgZ : va_W), ok_judg E ro qj tT ecZ erZ edZ eTZ ebZ enZ w_judgZ → (((v0.toInt < 0 ∨ 3 < v0.toInt ∨ v1.toInt < 1 ∨ 4 < v1.toInt) ∧ rr = -1 ∧ ecZ = ec ∧ erZ = er ∧ edZ = ed ∧ eTZ = eT ∧ ebZ = eb ∧ enZ = en) ∨ ∃ k_ n_ : Nat, v0 = nI k_ ∧ v1 = nI n_ ∧ k_ ≤ 3 ∧ (1 ≤ n_ ∧ n_ ≤ 4) ∧ (∀ i, i < 4 → ecZ i = if i = k_ then n_ else ec i) ∧ (∀ i, i < 4 → erZ i = if i = k_ then 0 else er i) ∧ (∀ i, i < 4 → i ≠ k_ → edZ i = ed i) ∧ Z0x 16 (edZ k_) ∧ rr = 1 ∧ (∀ i, i < 4 → i ≠ k_ → eTZ i = eT i) ∧ (∀ i, i < 4 → i ≠ k_ → ebZ i = eb i) ∧ (∀ i, i < 4 → i ≠ k_ → enZ i = en i) ∧ (∀ z, z < 4 → ebZ k_ z = 0 ∧ enZ k_ z = 0) ∧ ∀ z, z < 4 → eTZ k_ z = none) → WW X 4 E 635 lv (.int rr :: rest) ([(hx, .inr (11, [.ref h, .ref qp, .int (nI ac), .int (nI np), .ref qs, .ref qj, .ref ly, .ref qh, .ref kk, .int (nI kc), .ref rd, .ref pg, .int (nI pe), .int kn, .ref ss]))] ++ (w_judgZ ++ wT)) kC nC) : WW X 4 E 632 lv (.int v1 :: .int v0 :: .ref hx :: rest) ([(hx, .inr (11, [.ref h, .ref qp, .int (nI ac), .int (nI np), .ref qs, .ref qj, .ref ly, .ref qh, .ref kk, .int (nI kc), .ref rd, .ref pg, .int (nI pe), .int kn, .ref ss]))] ++ (w_judg ++ wT)) kC nC := by
  unfold ok_judg at H_judg
  refine ex8 H_judg ?_
  clear H_judg
  intro jt je ju ja ft fe e0 e1 H_judg
  refine ex8 H_judg ?_
  clear H_judg
  intro e2 e3 fa la0 la1 e0cs e0rc e0a H_judg
  refine ex8 H_judg ?_
  clear H_judg
  intro e0b e0c e0d e0fi e0fb e0fc e0fd e1cs H_judg
  refine ex8 H_judg ?_
  clear H_judg
  intro e1rc e1a e1b e1c e1d e1fi e1fb e1fc H_judg
  refine ex8 H_judg ?_
  clear H_judg
  intro e1fd e2cs e2rc e2a e2b e2c e2d e2fi H_judg
  refine ex8 H_judg ?_
  clear H_judg
  intro e2fb e2fc e2fd e3cs e3rc e3a e3b e3c H_judg
  refine ex8 H_judg ?_
  clear H_judg
  intro e3d e3fi e3fb e3fc e3fd la0m la0p la0w H_judg
  refine ex8 H_judg ?_
  clear H_judg
  intro la0c la0f la0q la0fc la0ff la0fq la0n la0r H_judg
  refine ex8 H_judg ?_
  clear H_judg
  intro la0x la0y la0gx la0gy la1m la1p la1w la1c H_judg
  refine ex8 H_judg ?_
  clear H_judg
  intro la1f la1q la1fc la1ff la1fq la1n la1r la1x H_judg
  refine ex8 H_judg ?_
  clear H_judg
  intro la1y la1gx la1gy fto e0T e1T e2T e3T H_judg
  refine an8 H_judg ?_
  clear H_judg
  intro we_judg k_fe_0 k_fe_1 k_fe_2 k_fe_3 k_fa_0 k_fa_1 he0cs H_judg
  refine an8 H_judg ?_
  clear H_judg
  intro he0rc he0fi he1cs he1rc he1fi he2cs he2rc he2fi H_judg
  refine an8 H_judg ?_
  clear H_judg
  intro he3cs he3rc he3fi hla0n hla0r hla1n hla1r hto H_judg
  refine an5 H_judg ?_
  clear H_judg
  intro hec her hed heT heb H_judg
  have hen := H_judg
  clear H_judg
  subst we_judg
  subst hec
  subst her
  subst hed
  subst heT
  subst heb
  subst hen
  refine ww_eq (ws' := [(hx, .inr (11, [.ref h, .ref qp, .int (nI ac), .int (nI np), .ref qs, .ref qj, .ref ly, .ref qh, .ref kk, .int (nI kc), .ref rd, .ref pg, .int (nI pe), .int kn, .ref ss])), (qj, .inr (2, [.ref jt, .ref je, .ref ju, .ref ja])), (ju, .inl (E.2.1 1, 32, .inl ft)), (je, .inl (E.2.1 4, 4, .inr (.inr (.inr (.inr fe))))), (ja, .inl (E.2.1 5, 2, .inr (.inr (.inr (.inr fa))))), (e0, .inr (0, [.int (nI e0cs), .int (nI e0rc), .ref e0a, .ref e0b, .ref e0c, .ref e0d])), (e0a, .inl (E.2.1 7, 4, .inr (.inr (.inr (.inr e0fi))))), (e0b, .inl (E.2.1 1, 4, .inl e0fb)), (e0c, .inl (E.2.1 1, 4, .inl e0fc)), (e0d, .inl (E.2.1 1, 16, .inl e0fd)), (e1, .inr (0, [.int (nI e1cs), .int (nI e1rc), .ref e1a, .ref e1b, .ref e1c, .ref e1d])), (e1a, .inl (E.2.1 7, 4, .inr (.inr (.inr (.inr e1fi))))), (e1b, .inl (E.2.1 1, 4, .inl e1fb)), (e1c, .inl (E.2.1 1, 4, .inl e1fc)), (e1d, .inl (E.2.1 1, 16, .inl e1fd)), (e2, .inr (0, [.int (nI e2cs), .int (nI e2rc), .ref e2a, .ref e2b, .ref e2c, .ref e2d])), (e2a, .inl (E.2.1 7, 4, .inr (.inr (.inr (.inr e2fi))))), (e2b, .inl (E.2.1 1, 4, .inl e2fb)), (e2c, .inl (E.2.1 1, 4, .inl e2fc)), (e2d, .inl (E.2.1 1, 16, .inl e2fd)), (e3, .inr (0, [.int (nI e3cs), .int (nI e3rc), .ref e3a, .ref e3b, .ref e3c, .ref e3d])), (e3a, .inl (E.2.1 7, 4, .inr (.inr (.inr (.inr e3fi))))), (e3b, .inl (E.2.1 1, 4, .inl e3fb)), (e3c, .inl (E.2.1 1, 4, .inl e3fc)), (e3d, .inl (E.2.1 1, 16, .inl e3fd)), (la0, .inr (3, [.ref la0m, .int la0p, .int la0w, .ref la0c, .ref la0f, .ref la0q])), (la0c, .inl (E.2.1 1, 24, .inl la0fc)), (la0f, .inl (E.2.1 1, 24, .inl la0ff)), (la0q, .inl (E.2.1 1, 4, .inl la0fq)), (la0m, .inr (4, [.int (nI la0n), .int (nI la0r), .ref la0x, .ref la0y])), (la0x, .inl (E.2.1 1, 24, .inl la0gx)), (la0y, .inl (E.2.1 1, 96, .inl la0gy)), (la1, .inr (3, [.ref la1m, .int la1p, .int la1w, .ref la1c, .ref la1f, .ref la1q])), (la1c, .inl (E.2.1 1, 24, .inl la1fc)), (la1f, .inl (E.2.1 1, 24, .inl la1ff)), (la1q, .inl (E.2.1 1, 4, .inl la1fq)), (la1m, .inr (4, [.int (nI la1n), .int (nI la1r), .ref la1x, .ref la1y])), (la1x, .inl (E.2.1 1, 24, .inl la1gx)), (la1y, .inl (E.2.1 1, 96, .inl la1gy)), (jt, .inl (E.2.1 7, 8, .inr (.inr (.inr (.inr fto)))))] ++ wT) ?_ rfl rfl rfl
  refine ww_ciT (k' := kC) (n' := nC) (wr := [(ju, .inl (E.2.1 1, 32, .inl ft)), (ja, .inl (E.2.1 5, 2, .inr (.inr (.inr (.inr fa))))), (la0, .inr (3, [.ref la0m, .int la0p, .int la0w, .ref la0c, .ref la0f, .ref la0q])), (la0c, .inl (E.2.1 1, 24, .inl la0fc)), (la0f, .inl (E.2.1 1, 24, .inl la0ff)), (la0q, .inl (E.2.1 1, 4, .inl la0fq)), (la0m, .inr (4, [.int (nI la0n), .int (nI la0r), .ref la0x, .ref la0y])), (la0x, .inl (E.2.1 1, 24, .inl la0gx)), (la0y, .inl (E.2.1 1, 96, .inl la0gy)), (la1, .inr (3, [.ref la1m, .int la1p, .int la1w, .ref la1c, .ref la1f, .ref la1q])), (la1c, .inl (E.2.1 1, 24, .inl la1fc)), (la1f, .inl (E.2.1 1, 24, .inl la1ff)), (la1q, .inl (E.2.1 1, 4, .inl la1fq)), (la1m, .inr (4, [.int (nI la1n), .int (nI la1r), .ref la1x, .ref la1y])), (la1x, .inl (E.2.1 1, 24, .inl la1gx)), (la1y, .inl (E.2.1 1, 96, .inl la1gy)), (jt, .inl (E.2.1 7, 8, .inr (.inr (.inr (.inr fto)))))]) C (run_V (As := [.int v0, .int v1]) (rest := rest) C (x_event X.2.1 E ro hx v0 v1 h qp ac np qs qj ly qh kk kc rd pg pe kn ss jt je ju ja fe e0 e1 e2 e3 e0cs e0rc e0a e0b e0c e0d e0fi e0fb e0fc e0fd e1cs e1rc e1a e1b e1c e1d e1fi e1fb e1fc e1fd e2cs e2rc e2a e2b e2c e2d e2fi e2fb e2fc e2fd e3cs e3rc e3a e3b e3c e3d e3fi e3fb e3fc e3fd e0T e1T e2T e3T k_fe_0 k_fe_1 k_fe_2 k_fe_3 (by first | assumption | omega) (by first | assumption | omega) (by first | assumption | omega) (by first | assumption | omega) (by first | assumption | omega) (by first | assumption | omega) he0fi (by first | assumption | omega) (by first | assumption | omega) he1fi (by first | assumption | omega) (by first | assumption | omega) he2fi (by first | assumption | omega) (by first | assumption | omega) he3fi) mi_X11_event wl_L_72 rfl 0 11 rfl rfl rfl rfl hW dL_law_632) (roT (pre := pre) [0, 1, 3, 5, 6, 7, 8, 9, 10, 11, 12, 13, 14, 15, 16, 17, 18, 19, 20, 21, 22, 23, 24] rfl hT) [0, 1, 3, 5, 6, 7, 8, 9, 10, 11, 12, 13, 14, 15, 16, 17, 18, 19, 20, 21, 22, 23, 24] [2, 4, 25, 26, 27, 28, 29, 30, 31, 32, 33, 34, 35, 36, 37, 38, 39] (gqk (by eq_refl)) (gqk (by eq_refl)) (plk (by decide +kernel)) ⟨by omega, by omega, hk.1, hk.2⟩ (fun rr u hw => ?_)
  rcases hw with hw | hw
  · refine an2 hw ?_
    clear hw
    intro he_r he_u hw
    have h_1 := hw
    clear hw
    have he_r := he_r.symm
    subst he_r
    subst he_u
    refine ww_subT (w1 := [(hx, .inr (11, [.ref h, .ref qp, .int (nI ac), .int (nI np), .ref qs, .ref qj, .ref ly, .ref qh, .ref kk, .int (nI kc), .ref rd, .ref pg, .int (nI pe), .int kn, .ref ss])), (qj, .inr (2, [.ref jt, .ref je, .ref ju, .ref ja])), (ju, .inl (E.2.1 1, 32, .inl ft)), (je, .inl (E.2.1 4, 4, .inr (.inr (.inr (.inr fe))))), (ja, .inl (E.2.1 5, 2, .inr (.inr (.inr (.inr fa))))), (e0, .inr (0, [.int (nI e0cs), .int (nI e0rc), .ref e0a, .ref e0b, .ref e0c, .ref e0d])), (e0a, .inl (E.2.1 7, 4, .inr (.inr (.inr (.inr e0fi))))), (e0b, .inl (E.2.1 1, 4, .inl e0fb)), (e0c, .inl (E.2.1 1, 4, .inl e0fc)), (e0d, .inl (E.2.1 1, 16, .inl e0fd)), (e1, .inr (0, [.int (nI e1cs), .int (nI e1rc), .ref e1a, .ref e1b, .ref e1c, .ref e1d])), (e1a, .inl (E.2.1 7, 4, .inr (.inr (.inr (.inr e1fi))))), (e1b, .inl (E.2.1 1, 4, .inl e1fb)), (e1c, .inl (E.2.1 1, 4, .inl e1fc)), (e1d, .inl (E.2.1 1, 16, .inl e1fd)), (e2, .inr (0, [.int (nI e2cs), .int (nI e2rc), .ref e2a, .ref e2b, .ref e2c, .ref e2d])), (e2a, .inl (E.2.1 7, 4, .inr (.inr (.inr (.inr e2fi))))), (e2b, .inl (E.2.1 1, 4, .inl e2fb)), (e2c, .inl (E.2.1 1, 4, .inl e2fc)), (e2d, .inl (E.2.1 1, 16, .inl e2fd)), (e3, .inr (0, [.int (nI e3cs), .int (nI e3rc), .ref e3a, .ref e3b, .ref e3c, .ref e3d])), (e3a, .inl (E.2.1 7, 4, .inr (.inr (.inr (.inr e3fi))))), (e3b, .inl (E.2.1 1, 4, .inl e3fb)), (e3c, .inl (E.2.1 1, 4, .inl e3fc)), (e3d, .inl (E.2.1 1, 16, .inl e3fd)), (la0, .inr (3, [.ref la0m, .int la0p, .int la0w, .ref la0c, .ref la0f, .ref la0q])), (la0c, .inl (E.2.1 1, 24, .inl la0fc)), (la0f, .inl (E.2.1 1, 24, .inl la0ff)), (la0q, .inl (E.2.1 1, 4, .inl la0fq)), (la0m, .inr (4, [.int (nI la0n), .int (nI la0r), .ref la0x, .ref la0y])), (la0x, .inl (E.2.1 1, 24, .inl la0gx)), (la0y, .inl (E.2.1 1, 96, .inl la0gy)), (la1, .inr (3, [.ref la1m, .int la1p, .int la1w, .ref la1c, .ref la1f, .ref la1q])), (la1c, .inl (E.2.1 1, 24, .inl la1fc)), (la1f, .inl (E.2.1 1, 24, .inl la1ff)), (la1q, .inl (E.2.1 1, 4, .inl la1fq)), (la1m, .inr (4, [.int (nI la1n), .int (nI la1r), .ref la1x, .ref la1y])), (la1x, .inl (E.2.1 1, 24, .inl la1gx)), (la1y, .inl (E.2.1 1, 96, .inl la1gy)), (jt, .inl (E.2.1 7, 8, .inr (.inr (.inr (.inr fto)))))]) [17, 18, 0, 19, 1, 20, 21, 22, 23, 24, 25, 26, 27, 28, 29, 30, 31, 32, 33, 34, 35, 36, 37, 38, 39, 2, 3, 4, 5, 6, 7, 8, 9, 10, 11, 12, 13, 14, 15, 16] (ndk (by decide +kernel)) (gqk (by eq_refl)) ?_
    exact kont (-1) (pick4 e0cs e1cs e2cs e3cs) (pick4 e0rc e1rc e2rc e3rc) (pick4 e0fd e1fd e2fd e3fd) (pick4 e0T e1T e2T e3T) (pick4 e0fb e1fb e2fb e3fb) (pick4 e0fc e1fc e2fc e3fc) [(qj, .inr (2, [.ref jt, .ref je, .ref ju, .ref ja])), (ju, .inl (E.2.1 1, 32, .inl ft)), (je, .inl (E.2.1 4, 4, .inr (.inr (.inr (.inr fe))))), (ja, .inl (E.2.1 5, 2, .inr (.inr (.inr (.inr fa))))), (e0, .inr (0, [.int (nI e0cs), .int (nI e0rc), .ref e0a, .ref e0b, .ref e0c, .ref e0d])), (e0a, .inl (E.2.1 7, 4, .inr (.inr (.inr (.inr e0fi))))), (e0b, .inl (E.2.1 1, 4, .inl e0fb)), (e0c, .inl (E.2.1 1, 4, .inl e0fc)), (e0d, .inl (E.2.1 1, 16, .inl e0fd)), (e1, .inr (0, [.int (nI e1cs), .int (nI e1rc), .ref e1a, .ref e1b, .ref e1c, .ref e1d])), (e1a, .inl (E.2.1 7, 4, .inr (.inr (.inr (.inr e1fi))))), (e1b, .inl (E.2.1 1, 4, .inl e1fb)), (e1c, .inl (E.2.1 1, 4, .inl e1fc)), (e1d, .inl (E.2.1 1, 16, .inl e1fd)), (e2, .inr (0, [.int (nI e2cs), .int (nI e2rc), .ref e2a, .ref e2b, .ref e2c, .ref e2d])), (e2a, .inl (E.2.1 7, 4, .inr (.inr (.inr (.inr e2fi))))), (e2b, .inl (E.2.1 1, 4, .inl e2fb)), (e2c, .inl (E.2.1 1, 4, .inl e2fc)), (e2d, .inl (E.2.1 1, 16, .inl e2fd)), (e3, .inr (0, [.int (nI e3cs), .int (nI e3rc), .ref e3a, .ref e3b, .ref e3c, .ref e3d])), (e3a, .inl (E.2.1 7, 4, .inr (.inr (.inr (.inr e3fi))))), (e3b, .inl (E.2.1 1, 4, .inl e3fb)), (e3c, .inl (E.2.1 1, 4, .inl e3fc)), (e3d, .inl (E.2.1 1, 16, .inl e3fd)), (la0, .inr (3, [.ref la0m, .int la0p, .int la0w, .ref la0c, .ref la0f, .ref la0q])), (la0c, .inl (E.2.1 1, 24, .inl la0fc)), (la0f, .inl (E.2.1 1, 24, .inl la0ff)), (la0q, .inl (E.2.1 1, 4, .inl la0fq)), (la0m, .inr (4, [.int (nI la0n), .int (nI la0r), .ref la0x, .ref la0y])), (la0x, .inl (E.2.1 1, 24, .inl la0gx)), (la0y, .inl (E.2.1 1, 96, .inl la0gy)), (la1, .inr (3, [.ref la1m, .int la1p, .int la1w, .ref la1c, .ref la1f, .ref la1q])), (la1c, .inl (E.2.1 1, 24, .inl la1fc)), (la1f, .inl (E.2.1 1, 24, .inl la1ff)), (la1q, .inl (E.2.1 1, 4, .inl la1fq)), (la1m, .inr (4, [.int (nI la1n), .int (nI la1r), .ref la1x, .ref la1y])), (la1x, .inl (E.2.1 1, 24, .inl la1gx)), (la1y, .inl (E.2.1 1, 96, .inl la1gy)), (jt, .inl (E.2.1 7, 8, .inr (.inr (.inr (.inr fto)))))]  ⟨jt, je, ju, ja, ft, fe, e0, e1, e2, e3, fa, la0, la1, e0cs, e0rc, e0a, e0b, e0c, e0d, e0fi, e0fb, e0fc, e0fd, e1cs, e1rc, e1a, e1b, e1c, e1d, e1fi, e1fb, e1fc, e1fd, e2cs, e2rc, e2a, e2b, e2c, e2d, e2fi, e2fb, e2fc, e2fd, e3cs, e3rc, e3a, e3b, e3c, e3d, e3fi, e3fb, e3fc, e3fd, la0m, la0p, la0w, la0c, la0f, la0q, la0fc, la0ff, la0fq, la0n, la0r, la0x, la0y, la0gx, la0gy, la1m, la1p, la1w, la1c, la1f, la1q, la1fc, la1ff, la1fq, la1n, la1r, la1x, la1y, la1gx, la1gy, fto, e0T, e1T, e2T, e3T, rfl, k_fe_0, k_fe_1, k_fe_2, k_fe_3, k_fa_0, k_fa_1, (by first | assumption | omega), (by first | assumption | omega), he0fi, (by first | assumption | omega), (by first | assumption | omega), he1fi, (by first | assumption | omega), (by first | assumption | omega), he2fi, (by first | assumption | omega), (by first | assumption | omega), he3fi, (by first | assumption | omega), (by first | assumption | omega), (by first | assumption | omega), (by first | assumption | omega), hto, rfl, rfl, rfl, rfl, rfl, rfl⟩ (Or.inl ⟨h_1, rfl, rfl, rfl, rfl, rfl, rfl, rfl⟩)
  · refine ex8 hw ?_
    clear hw
    intro k__2 n__3 e0csz_4 e0rcz_5 e0fiz_6 e0fbz_7 e0fcz_8 e0fdz_9 hw
    refine ex8 hw ?_
    clear hw
    intro e0Tz_10 e1csz_11 e1rcz_12 e1fiz_13 e1fbz_14 e1fcz_15 e1fdz_16 e1Tz_17 hw
    refine ex8 hw ?_
    clear hw
    intro e2csz_18 e2rcz_19 e2fiz_20 e2fbz_21 e2fcz_22 e2fdz_23 e2Tz_24 e3csz_25 hw
    refine ex6 hw ?_
    clear hw
    intro e3rcz_26 e3fiz_27 e3fbz_28 e3fcz_29 e3fdz_30 e3Tz_31 hw
    refine an8 hw ?_
    clear hw
    intro he_r he_u h_32 h_33 h_34 h_35 h_36 h_37 hw
    refine an8 hw ?_
    clear hw
    intro h_38 h_39 h_40 h_41 h_42 h_43 h_44 h_45 hw
    refine an8 hw ?_
    clear hw
    intro h_46 h_47 h_48 h_49 h_50 h_51 h_52 h_53 hw
    refine an2 hw ?_
    clear hw
    intro h_54 h_55 hw
    have h_56 := hw
    clear hw
    have he_r := he_r.symm
    subst he_r
    subst he_u
    refine ww_subT (w1 := [(hx, .inr (11, [.ref h, .ref qp, .int (nI ac), .int (nI np), .ref qs, .ref qj, .ref ly, .ref qh, .ref kk, .int (nI kc), .ref rd, .ref pg, .int (nI pe), .int kn, .ref ss])), (qj, .inr (2, [.ref jt, .ref je, .ref ju, .ref ja])), (ju, .inl (E.2.1 1, 32, .inl ft)), (je, .inl (E.2.1 4, 4, .inr (.inr (.inr (.inr fe))))), (ja, .inl (E.2.1 5, 2, .inr (.inr (.inr (.inr fa))))), (e0, .inr (0, [.int (nI e0csz_4), .int (nI e0rcz_5), .ref e0a, .ref e0b, .ref e0c, .ref e0d])), (e0a, .inl (E.2.1 7, 4, .inr (.inr (.inr (.inr e0fiz_6))))), (e0b, .inl (E.2.1 1, 4, .inl e0fbz_7)), (e0c, .inl (E.2.1 1, 4, .inl e0fcz_8)), (e0d, .inl (E.2.1 1, 16, .inl e0fdz_9)), (e1, .inr (0, [.int (nI e1csz_11), .int (nI e1rcz_12), .ref e1a, .ref e1b, .ref e1c, .ref e1d])), (e1a, .inl (E.2.1 7, 4, .inr (.inr (.inr (.inr e1fiz_13))))), (e1b, .inl (E.2.1 1, 4, .inl e1fbz_14)), (e1c, .inl (E.2.1 1, 4, .inl e1fcz_15)), (e1d, .inl (E.2.1 1, 16, .inl e1fdz_16)), (e2, .inr (0, [.int (nI e2csz_18), .int (nI e2rcz_19), .ref e2a, .ref e2b, .ref e2c, .ref e2d])), (e2a, .inl (E.2.1 7, 4, .inr (.inr (.inr (.inr e2fiz_20))))), (e2b, .inl (E.2.1 1, 4, .inl e2fbz_21)), (e2c, .inl (E.2.1 1, 4, .inl e2fcz_22)), (e2d, .inl (E.2.1 1, 16, .inl e2fdz_23)), (e3, .inr (0, [.int (nI e3csz_25), .int (nI e3rcz_26), .ref e3a, .ref e3b, .ref e3c, .ref e3d])), (e3a, .inl (E.2.1 7, 4, .inr (.inr (.inr (.inr e3fiz_27))))), (e3b, .inl (E.2.1 1, 4, .inl e3fbz_28)), (e3c, .inl (E.2.1 1, 4, .inl e3fcz_29)), (e3d, .inl (E.2.1 1, 16, .inl e3fdz_30)), (la0, .inr (3, [.ref la0m, .int la0p, .int la0w, .ref la0c, .ref la0f, .ref la0q])), (la0c, .inl (E.2.1 1, 24, .inl la0fc)), (la0f, .inl (E.2.1 1, 24, .inl la0ff)), (la0q, .inl (E.2.1 1, 4, .inl la0fq)), (la0m, .inr (4, [.int (nI la0n), .int (nI la0r), .ref la0x, .ref la0y])), (la0x, .inl (E.2.1 1, 24, .inl la0gx)), (la0y, .inl (E.2.1 1, 96, .inl la0gy)), (la1, .inr (3, [.ref la1m, .int la1p, .int la1w, .ref la1c, .ref la1f, .ref la1q])), (la1c, .inl (E.2.1 1, 24, .inl la1fc)), (la1f, .inl (E.2.1 1, 24, .inl la1ff)), (la1q, .inl (E.2.1 1, 4, .inl la1fq)), (la1m, .inr (4, [.int (nI la1n), .int (nI la1r), .ref la1x, .ref la1y])), (la1x, .inl (E.2.1 1, 24, .inl la1gx)), (la1y, .inl (E.2.1 1, 96, .inl la1gy)), (jt, .inl (E.2.1 7, 8, .inr (.inr (.inr (.inr fto)))))]) [17, 18, 0, 19, 1, 20, 21, 22, 23, 24, 25, 26, 27, 28, 29, 30, 31, 32, 33, 34, 35, 36, 37, 38, 39, 2, 3, 4, 5, 6, 7, 8, 9, 10, 11, 12, 13, 14, 15, 16] (ndk (by decide +kernel)) (gqk (by eq_refl)) ?_
    exact kont (1) (pick4 e0csz_4 e1csz_11 e2csz_18 e3csz_25) (pick4 e0rcz_5 e1rcz_12 e2rcz_19 e3rcz_26) (pick4 e0fdz_9 e1fdz_16 e2fdz_23 e3fdz_30) (pick4 e0Tz_10 e1Tz_17 e2Tz_24 e3Tz_31) (pick4 e0fbz_7 e1fbz_14 e2fbz_21 e3fbz_28) (pick4 e0fcz_8 e1fcz_15 e2fcz_22 e3fcz_29) [(qj, .inr (2, [.ref jt, .ref je, .ref ju, .ref ja])), (ju, .inl (E.2.1 1, 32, .inl ft)), (je, .inl (E.2.1 4, 4, .inr (.inr (.inr (.inr fe))))), (ja, .inl (E.2.1 5, 2, .inr (.inr (.inr (.inr fa))))), (e0, .inr (0, [.int (nI e0csz_4), .int (nI e0rcz_5), .ref e0a, .ref e0b, .ref e0c, .ref e0d])), (e0a, .inl (E.2.1 7, 4, .inr (.inr (.inr (.inr e0fiz_6))))), (e0b, .inl (E.2.1 1, 4, .inl e0fbz_7)), (e0c, .inl (E.2.1 1, 4, .inl e0fcz_8)), (e0d, .inl (E.2.1 1, 16, .inl e0fdz_9)), (e1, .inr (0, [.int (nI e1csz_11), .int (nI e1rcz_12), .ref e1a, .ref e1b, .ref e1c, .ref e1d])), (e1a, .inl (E.2.1 7, 4, .inr (.inr (.inr (.inr e1fiz_13))))), (e1b, .inl (E.2.1 1, 4, .inl e1fbz_14)), (e1c, .inl (E.2.1 1, 4, .inl e1fcz_15)), (e1d, .inl (E.2.1 1, 16, .inl e1fdz_16)), (e2, .inr (0, [.int (nI e2csz_18), .int (nI e2rcz_19), .ref e2a, .ref e2b, .ref e2c, .ref e2d])), (e2a, .inl (E.2.1 7, 4, .inr (.inr (.inr (.inr e2fiz_20))))), (e2b, .inl (E.2.1 1, 4, .inl e2fbz_21)), (e2c, .inl (E.2.1 1, 4, .inl e2fcz_22)), (e2d, .inl (E.2.1 1, 16, .inl e2fdz_23)), (e3, .inr (0, [.int (nI e3csz_25), .int (nI e3rcz_26), .ref e3a, .ref e3b, .ref e3c, .ref e3d])), (e3a, .inl (E.2.1 7, 4, .inr (.inr (.inr (.inr e3fiz_27))))), (e3b, .inl (E.2.1 1, 4, .inl e3fbz_28)), (e3c, .inl (E.2.1 1, 4, .inl e3fcz_29)), (e3d, .inl (E.2.1 1, 16, .inl e3fdz_30)), (la0, .inr (3, [.ref la0m, .int la0p, .int la0w, .ref la0c, .ref la0f, .ref la0q])), (la0c, .inl (E.2.1 1, 24, .inl la0fc)), (la0f, .inl (E.2.1 1, 24, .inl la0ff)), (la0q, .inl (E.2.1 1, 4, .inl la0fq)), (la0m, .inr (4, [.int (nI la0n), .int (nI la0r), .ref la0x, .ref la0y])), (la0x, .inl (E.2.1 1, 24, .inl la0gx)), (la0y, .inl (E.2.1 1, 96, .inl la0gy)), (la1, .inr (3, [.ref la1m, .int la1p, .int la1w, .ref la1c, .ref la1f, .ref la1q])), (la1c, .inl (E.2.1 1, 24, .inl la1fc)), (la1f, .inl (E.2.1 1, 24, .inl la1ff)), (la1q, .inl (E.2.1 1, 4, .inl la1fq)), (la1m, .inr (4, [.int (nI la1n), .int (nI la1r), .ref la1x, .ref la1y])), (la1x, .inl (E.2.1 1, 24, .inl la1gx)), (la1y, .inl (E.2.1 1, 96, .inl la1gy)), (jt, .inl (E.2.1 7, 8, .inr (.inr (.inr (.inr fto)))))]  ⟨jt, je, ju, ja, ft, fe, e0, e1, e2, e3, fa, la0, la1, e0csz_4, e0rcz_5, e0a, e0b, e0c, e0d, e0fiz_6, e0fbz_7, e0fcz_8, e0fdz_9, e1csz_11, e1rcz_12, e1a, e1b, e1c, e1d, e1fiz_13, e1fbz_14, e1fcz_15, e1fdz_16, e2csz_18, e2rcz_19, e2a, e2b, e2c, e2d, e2fiz_20, e2fbz_21, e2fcz_22, e2fdz_23, e3csz_25, e3rcz_26, e3a, e3b, e3c, e3d, e3fiz_27, e3fbz_28, e3fcz_29, e3fdz_30, la0m, la0p, la0w, la0c, la0f, la0q, la0fc, la0ff, la0fq, la0n, la0r, la0x, la0y, la0gx, la0gy, la1m, la1p, la1w, la1c, la1f, la1q, la1fc, la1ff, la1fq, la1n, la1r, la1x, la1y, la1gx, la1gy, fto, e0Tz_10, e1Tz_17, e2Tz_24, e3Tz_31, rfl, k_fe_0, k_fe_1, k_fe_2, k_fe_3, k_fa_0, k_fa_1, (by first | assumption | omega), (by first | assumption | omega), h_34, (by first | assumption | omega), (by first | assumption | omega), h_37, (by first | assumption | omega), (by first | assumption | omega), h_40, (by first | assumption | omega), (by first | assumption | omega), h_43, (by first | assumption | omega), (by first | assumption | omega), (by first | assumption | omega), (by first | assumption | omega), hto, rfl, rfl, rfl, rfl, rfl, rfl⟩ (Or.inr (⟨_, _, h_44, h_45, h_46, h_47, h_48, h_49, h_53, h_56, rfl, h_50, h_51, h_52, h_54, h_55⟩))
end
