/-! secrets: bits -/
theorem b_15 : ∀ i, i < 32 → bt 15 i = decide (i < 4) := by decide +kernel
theorem sc_b {kn : Int32} {i b : Nat} (hi : i < 4) (hb : b < 32) : bt (sc kn i) b = (decide (b < 4) && bt kn (4 * i + b)) := by
  unfold sc
  rw [b_and, b_sshr (4 * i) (by omega) kn hb, b_15 b hb]
  by_cases h : b < 4
  · rw [if_pos (by omega), decide_eq_true h, Bool.and_true, Bool.true_and]
  · rw [decide_eq_false h, Bool.and_false, Bool.false_and]
theorem cl_b {kn : Int32} {i j b : Nat} (hi : i < 4) (hj : j < 4) (hb : b < 32) : bt (cl kn i j) b = (bt kn b || (decide (4 * i ≤ b) && bt (sc kn i ||| sc kn j) (b - 4 * i)) || (decide (4 * j ≤ b) && bt (sc kn i ||| sc kn j) (b - 4 * j))) := by
  unfold cl
  rw [b_or, b_or, b_shl (4 * i) (by omega) _ hb, b_shl (4 * j) (by omega) _ hb]
theorem y_b {kn : Int32} {i j c : Nat} (hi : i < 4) (hj : j < 4) (hc : c < 32) : bt (sc kn i ||| sc kn j) c = (decide (c < 4) && (bt kn (4 * i + c) || bt kn (4 * j + c))) := by
  rw [b_or, sc_b hi hc, sc_b hj hc, Bool.and_or_distrib_left]
theorem sh_b {kn : Int32} {i j k m b : Nat} (hi : i < 4) (hj : j < 4) (hk : k < 4) (hm : m < 4) (hb : b < 4) : (decide (4 * k ≤ 4 * m + b) && bt (sc kn i ||| sc kn j) (4 * m + b - 4 * k)) = (decide (m = k) && (bt kn (4 * i + b) || bt kn (4 * j + b))) := by
  by_cases h : m = k
  · subst h
    rw [decide_eq_true (show 4 * m ≤ 4 * m + b by omega), show 4 * m + b - 4 * m = b by omega, y_b hi hj (by omega), decide_eq_true hb, decide_eq_true rfl, Bool.true_and]
  · rw [decide_eq_false h, Bool.false_and]
    by_cases h2 : 4 * k ≤ 4 * m + b
    · rw [y_b hi hj (by omega), decide_eq_false (show ¬ 4 * m + b - 4 * k < 4 by omega), Bool.false_and, Bool.and_false]
    · rw [decide_eq_false h2, Bool.false_and]
theorem sc_cl {kn : Int32} {i j m : Nat} (hi : i < 4) (hj : j < 4) (hm : m < 4) : sc (cl kn i j) m = if m = i ∨ m = j then sc kn i ||| sc kn j else sc kn m := by
  apply b_ext
  intro b hb
  rw [sc_b hm hb]
  by_cases h4 : b < 4
  · rw [decide_eq_true h4, Bool.true_and, cl_b hi hj (by omega), sh_b hi hj hi hm h4, sh_b hi hj hj hm h4]
    by_cases hmi : m = i
    · subst hmi
      rw [if_pos (Or.inl rfl), y_b hm hj hb, decide_eq_true h4, decide_eq_true rfl, Bool.true_and]
      cases bt kn (4 * m + b) <;> cases bt kn (4 * j + b) <;> cases decide (m = j) <;> rfl
    · rw [decide_eq_false hmi, Bool.false_and, Bool.or_false]
      by_cases hmj : m = j
      · subst hmj
        rw [if_pos (Or.inr rfl), y_b hi hm hb, decide_eq_true h4, decide_eq_true rfl, Bool.true_and]
        cases bt kn (4 * m + b) <;> cases bt kn (4 * i + b) <;> rfl
      · rw [decide_eq_false hmj, Bool.false_and, Bool.or_false, if_neg (by omega), sc_b hm hb, decide_eq_true h4, Bool.true_and]
  · rw [decide_eq_false h4, Bool.false_and]
    split
    · rw [y_b hi hj hb, decide_eq_false h4, Bool.false_and]
    · rw [sc_b hm hb, decide_eq_false h4, Bool.false_and]
theorem cb_24 {x : Int32} (h : ∀ b, b < 32 → bt x b = true → b < 4) : cb (bt x) 24 = cb (bt x) 32 := by
  have e : cb (bt x) 32 = cb (bt x) 24 + cb (fun i => bt x (24 + i)) 8 := by rw [← cb_add]
  rw [e, cb_zero (f := fun i => bt x (24 + i)) (fun i hi => by
    cases hb : bt x (24 + i) with
    | false => rfl
    | true => have := h (24 + i) (by omega) hb; omega), Nat.add_zero]
/-- both sides' sheets -/
def SHE (st sn sl : Nat → Nat) (fl fn : Nat → Int32) : Prop := ∀ k, k < 4 → ((st k = 0 ∧ fl k = -4) ∨ (st k = 1 ∧ fl k = nI (sl k) ∧ sl k ≤ 2)) ∧ fn k = nI (sn k) ∧ sn k ≤ 48
theorem SHE.put {st sn sl st' sn' sl' : Nat → Nat} {fl fn fl' fn' : Nat → Int32} {k l n : Nat} (h : SHE st sn sl fl fn) (hl : l ≤ 2) (hn : n ≤ 48) (h1 : ∀ i, i < 4 → st' i = if i = k then 1 else st i) (h2 : ∀ i, i < 4 → sn' i = if i = k then n else sn i) (h3 : ∀ i, i < 4 → sl' i = if i = k then l else sl i) (e1 : upd fl k (nI l) = fl') (e2 : upd fn k (nI n) = fn') : SHE st' sn' sl' fl' fn' := by
  intro i hi
  rw [h1 i hi, h2 i hi, h3 i hi]
  by_cases hk : i = k
  · subst hk
    rw [if_pos rfl, if_pos rfl, if_pos rfl, ← e1, ← e2, pk_us, pk_us]
    exact ⟨Or.inr ⟨rfl, rfl, hl⟩, rfl, hn⟩
  · rw [if_neg hk, if_neg hk, if_neg hk, ← e1, ← e2, pk_un hk, pk_un hk]
    exact h i hi
theorem SHE.len {st sn sl : Nat → Nat} {fl fn : Nat → Int32} {k : Nat} (h : SHE st sn sl fl fn) (hk : k < 4) : cN fn k = sn k := by
  have h1 := h k hk
  unfold cN; rw [h1.2.1]; exact nI_clamp (by omega)
theorem SHE.no {st sn sl : Nat → Nat} {fl fn : Nat → Int32} {k : Nat} (h : SHE st sn sl fl fn) (hk : k < 4) : (st k = 0 ∧ fl k = -4) ∨ (st k = 1 ∧ fl k ≠ -4) := by
  rcases (h k hk).1 with q | ⟨q1, q2, q3⟩
  · exact Or.inl q
  · refine Or.inr ⟨q1, fun e => ?_⟩
    rw [q2] at e
    have h1 := nI_toInt (n := sl k) (by omega)
    rw [e] at h1
    have e4 : (-4 : Int32).toInt = -4 := rfl
    omega
/-- both sides' secrets -/
def SEC (pe : Nat) (kn : Int32) (fs : Nat → Int32) : Prop := ∀ i, i < pe → fs i = sc kn i
theorem SEC.call {pe i j : Nat} {kn : Int32} {fs fs' : Nat → Int32} (h : SEC pe kn fs) (hp : pe ≤ 4) (hi : i < pe) (hj : j < pe) (e : upd (upd fs i (fs i ||| fs j)) j (fs i ||| fs j) = fs') : SEC pe (cl kn i j) fs' := by
  intro m hm
  rw [sc_cl (by omega) (by omega) (by omega), ← e, h i hi, h j hj]
  by_cases h1 : m = j
  · subst h1; rw [pk_us, if_pos (Or.inr rfl)]
  · rw [pk_un h1]
    by_cases h2 : m = i
    · subst h2; rw [pk_us, if_pos (Or.inl rfl)]
    · rw [pk_un h2, if_neg (by omega), h m hm]
theorem SEC.ans {pe i j : Nat} {kn : Int32} {fs : Nat → Int32} (h : SEC pe kn fs) (hp : pe ≤ 4) (hi : i < pe) (hj : j < pe) : bcf (sc (cl kn i j) i) = nI (cb (bt (fs i ||| fs j)) 24) := by
  rw [sc_cl (by omega) (by omega) (by omega), if_pos (Or.inl rfl), h i hi, h j hj, bcf_bt]
  congr 1
  symm
  apply cb_24
  intro b hb hbt
  rw [y_b (by omega) (by omega) hb] at hbt
  by_cases h4 : b < 4
  · exact h4
  · rw [decide_eq_false h4, Bool.false_and] at hbt; cases hbt
theorem she0 {fl : Nat → Int32} (h0 : fl 0 = -4) (h1 : fl 1 = -4) (h2 : fl 2 = -4) (h3 : fl 3 = -4) : SHE (pick4 0 0 0 0) (pick4 0 0 0 0) (pick4 0 0 0 0) fl (fun _ => 0) := by
  intro k hk
  rcases (show k = 0 ∨ k = 1 ∨ k = 2 ∨ k = 3 by omega) with rfl | rfl | rfl | rfl
  · exact ⟨Or.inl ⟨rfl, h0⟩, rfl, by decide⟩
  · exact ⟨Or.inl ⟨rfl, h1⟩, rfl, by decide⟩
  · exact ⟨Or.inl ⟨rfl, h2⟩, rfl, by decide⟩
  · exact ⟨Or.inl ⟨rfl, h3⟩, rfl, by decide⟩
/-- both sides' cells -/
def CEL (st sn : Nat → Nat) (sc : Nat → Nat → Int32) (fc : Nat → Int32) : Prop := ∀ k, k < 4 → st k = 1 → ∀ i, i < sn k → sc k i = fc (48 * k + i)
theorem cel0 {sc : Nat → Nat → Int32} {fc : Nat → Int32} : CEL (pick4 0 0 0 0) (pick4 0 0 0 0) sc fc := by
  intro k hk hs
  rcases (show k = 0 ∨ k = 1 ∨ k = 2 ∨ k = 3 by omega) with rfl | rfl | rfl | rfl <;> exact absurd hs (by decide)
theorem CEL.sheet {st sn sl st' sn' : Nat → Nat} {sc sc' : Nat → Nat → Int32} {fl fn fc fc' : Nat → Int32} {k n : Nat} (h : CEL st sn sc fc) (hS : SHE st sn sl fl fn) (hn : n ≤ 48) (h1 : ∀ i, i < 4 → st' i = if i = k then 1 else st i) (h2 : ∀ i, i < 4 → sn' i = if i = k then n else sn i) (hs : ∀ i, i < 4 → i ≠ k → sc' i = sc i) (hz : Z0x n (sc' k)) (hc : CZR k 48 fc fc') : CEL st' sn' sc' fc' := by
  intro i hi ht j hj
  rw [h1 i hi] at ht
  rw [h2 i hi] at hj
  by_cases q : i = k
  · subst q
    rw [if_pos rfl] at hj
    rw [hz j hj, hc.1 j (by omega)]
  · rw [if_neg q] at hj ht
    have h3 := (hS i hi).2.2
    rw [hs i hi q, hc.2 _ (by omega)]
    exact h i hi ht j hj
theorem shl24 (v : Int32) : v <<< ((24 : Int32) &&& 31) >>> ((24 : Int32) &&& 31) = v.toInt8.toInt32 := by
  apply b_ext
  intro i hi
  have e24 : (24 : Int32) = nI 24 := rfl
  rw [e24, b_sshr 24 (by omega) _ hi]
  have h8 : bt (v.toInt8.toInt32) i = if i < 8 then bt v i else bt v 7 := by
    unfold bt
    rw [Int8.toBitVec_toInt32, BitVec.getLsbD_signExtend, Int32.toBitVec_toInt8, BitVec.msb_eq_getLsbD_last, BitVec.getLsbD_signExtend, BitVec.getLsbD_signExtend]
    by_cases q : i < 8
    · simp [hi, q]
    · simp [hi, q]
  rw [h8]
  by_cases q : i < 8
  · rw [if_pos (by omega), if_pos q, b_shl 24 (by omega) _ (by omega)]
    simp [show 24 + i - 24 = i by omega]
  · rw [if_neg (by omega), if_neg q, b_shl 24 (by omega) _ (by omega)]
    simp
theorem shl16 (v : Int32) : v <<< ((16 : Int32) &&& 31) >>> ((16 : Int32) &&& 31) = v.toInt16.toInt32 := by
  apply b_ext
  intro i hi
  have e16 : (16 : Int32) = nI 16 := rfl
  rw [e16, b_sshr 16 (by omega) _ hi]
  have h8 : bt (v.toInt16.toInt32) i = if i < 16 then bt v i else bt v 15 := by
    unfold bt
    rw [Int16.toBitVec_toInt32, BitVec.getLsbD_signExtend, Int32.toBitVec_toInt16, BitVec.msb_eq_getLsbD_last, BitVec.getLsbD_signExtend, BitVec.getLsbD_signExtend]
    by_cases q : i < 16
    · simp [hi, q]
    · simp [hi, q]
  rw [h8]
  by_cases q : i < 16
  · rw [if_pos (by omega), if_pos q, b_shl 16 (by omega) _ (by omega)]
    simp [show 16 + i - 16 = i by omega]
  · rw [if_neg (by omega), if_neg q, b_shl 16 (by omega) _ (by omega)]
    simp
theorem putw_v {l : Nat} {v : Int32} (h : l ≤ 2) : putw (nI l) v = putv l v := by
  unfold putw putv
  rw [nI_toInt (by omega), shl24, shl16]
  rcases (show l = 0 ∨ l = 1 ∨ l = 2 by omega) with rfl | rfl | rfl <;> rfl
theorem CEL.write {st sn sl : Nat → Nat} {sc sc' : Nat → Nat → Int32} {fl fn fc fc' : Nat → Int32} {k i : Nat} {v : Int32} (h : CEL st sn sc fc) (hS : SHE st sn sl fl fn) (hk : k < 4) (hst : st k = 1) (hi : i < 48) (hs : ∀ j, j < 4 → j ≠ k → sc' j = sc j) (e : upd (sc k) i (putv (sl k) v) = sc' k) (e2 : upd fc (48 * k + i) (putw (fl k) v) = fc') : CEL st sn sc' fc' := by
  intro m hm ht j hj
  have h3 := (hS m hm).2.2
  by_cases q : m = k
  · subst q
    rcases (hS m hm).1 with ⟨z1, z2⟩ | ⟨z1, z2, z3⟩
    · omega
    · rw [← e, ← e2, z2, putw_v z3]
      by_cases r : j = i
      · rw [r, pk_us, pk_us]
      · rw [pk_un r, pk_un (by omega)]; exact h m hm ht j hj
  · rw [hs m hm q, ← e2, pk_un (by omega)]; exact h m hm ht j hj
theorem rd_eq {st sn sl : Nat → Nat} {sc : Nat → Nat → Int32} {fl fn fc : Nat → Int32} {k l n : Nat} {f : Int32} (hS : SHE st sn sl fl fn) (h : CEL st sn sc fc) (hk : k < 4) (hl : l ≤ 2) : rdA (st k) (sl k) (sn k) (sc k) l f n = rdB (fl k) (cN fn k) (fun j => fc (48 * k + j)) l f n := by
  have e4 : (-4 : Int32).toInt = -4 := rfl
  rw [SHE.len hS hk]
  rcases (hS k hk).1 with ⟨z1, z2⟩ | ⟨z1, z2, z3⟩
  · rw [← rdB_1 (la := fl k) (by rw [z2, e4]; omega) hl (by rw [z2, e4])]
    unfold rdA
    rw [← chk_0 z1, if_neg (by decide)]
  · by_cases q : sl k = l
    · rw [rdB_3 (by rw [z2, nI_toInt (by omega), q]) hl]
      unfold rdA
      rw [chk_2 (by omega) (by omega), ck_congr (fun j hj => h k hk z1 j hj)]
    · rw [← rdB_2 (la := fl k) (by rw [z2, nI_toInt (by omega)]; omega) hl (by rw [z2, nI_toInt (by omega)]; omega)]
      unfold rdA
      rw [← chk_1 (by omega) (by omega), if_neg (by decide)]
/-- both sides' events -/
def EVQ (ec er : Nat → Nat) (ed : Nat → Nat → Int32) (fc fh fd : Nat → Int32) : Prop := ∀ e, e < 4 → ec e = cN fc e ∧ er e = cN fh e ∧ ∀ c, c < 16 → ed e c = fd (16 * e + c)
theorem evq0 {ed : Nat → Nat → Int32} (h : ∀ e c, ed e c = 0) : EVQ (pick4 0 0 0 0) (pick4 0 0 0 0) ed (fun _ => 0) (fun _ => 0) (fun _ => 0) := by
  intro e he
  rcases (show e = 0 ∨ e = 1 ∨ e = 2 ∨ e = 3 by omega) with rfl | rfl | rfl | rfl <;> exact ⟨rfl, rfl, fun c _ => h _ c⟩
theorem EVQ.cse {ec er : Nat → Nat} {ed : Nat → Nat → Int32} {fc fh fd : Nat → Int32} {e i : Int32} (h : EVQ ec er ed fc fh fd) : CSE ec e i ↔ CSE (cN fc) e i := by
  unfold CSE
  constructor
  · rintro ⟨h1, h2, h3, h4⟩
    obtain ⟨j, e1, e2⟩ := nI_ex (x := e) (n := 3) h1 h2
    refine ⟨h1, h2, h3, ?_⟩
    subst e1
    rw [nI_clamp (by omega)] at h4 ⊢
    rw [← (h j (by omega)).1]; exact h4
  · rintro ⟨h1, h2, h3, h4⟩
    obtain ⟨j, e1, e2⟩ := nI_ex (x := e) (n := 3) h1 h2
    refine ⟨h1, h2, h3, ?_⟩
    subst e1
    rw [nI_clamp (by omega)] at h4 ⊢
    rw [(h j (by omega)).1]; exact h4
theorem EVQ.put {ec er ec' er' : Nat → Nat} {ed ed' : Nat → Nat → Int32} {fc fh fd fc' fh' fd' : Nat → Int32} {k n : Nat} (h : EVQ ec er ed fc fh fd) (hk : k ≤ 3) (hn : n ≤ 4) (h1 : ∀ i, i < 4 → ec' i = if i = k then n else ec i) (h2 : ∀ i, i < 4 → er' i = if i = k then 0 else er i) (h3 : ∀ i, i < 4 → i ≠ k → ed' i = ed i) (h4 : ∀ c, c < 16 → ed' k c = fd' (16 * k + c)) (e1 : upd fc k (nI n) = fc') (e2 : upd fh k (nI 0) = fh') (h5 : ∀ j, (j < 16 * k ∨ 16 * k + 16 ≤ j) → fd' j = fd j) : EVQ ec' er' ed' fc' fh' fd' := by
  intro e he
  rw [h1 e he, h2 e he]
  by_cases q : e = k
  · subst q
    rw [if_pos rfl, if_pos rfl, cN_s (by omega) e1, cN_s (by omega) e2]
    exact ⟨rfl, rfl, h4⟩
  · rw [if_neg q, if_neg q, cN_n e1 q, cN_n e2 q, h3 e he q]
    exact ⟨(h e he).1, (h e he).2.1, fun c hc => by rw [h5 _ (by omega)]; exact (h e he).2.2 c hc⟩
theorem EVQ.hear {ec er : Nat → Nat} {ed ed' : Nat → Nat → Int32} {fc fh fd fd' : Nat → Int32} {k n i : Nat} {x : Int32} (h : EVQ ec er ed fc fh fd) (hk : k ≤ 3) (hn : n ≤ 3) (hi : i ≤ 3) (h3 : ∀ j, j < 4 → j ≠ k → ed' j = ed j) (e1 : upd (ed k) (n * 4 + i) x = ed' k) (e2 : upd fd (16 * k + 4 * n + i) x = fd') : EVQ ec er ed' fc fh fd' := by
  intro e he
  refine ⟨(h e he).1, (h e he).2.1, fun c hc => ?_⟩
  by_cases q : e = k
  · subst q
    rw [← e1, ← e2]
    by_cases z : c = n * 4 + i
    · rw [z, pk_us, show 16 * e + (n * 4 + i) = 16 * e + 4 * n + i by omega, pk_us]
    · rw [pk_un z, pk_un (by omega)]; exact (h e he).2.2 c hc
  · rw [h3 e he q, ← e2, pk_un (by omega)]; exact (h e he).2.2 c hc
theorem EVQ.hap {ec er er' : Nat → Nat} {ed : Nat → Nat → Int32} {fc fh fh' fd : Nat → Int32} {k i : Nat} (h : EVQ ec er ed fc fh fd) (hi : i ≤ 3) (h2 : ∀ j, j < 4 → er' j = if j = k then i else er j) (e1 : upd fh k (nI i) = fh') : EVQ ec er' ed fc fh' fd := by
  intro e he
  refine ⟨(h e he).1, ?_, (h e he).2.2⟩
  rw [h2 e he]
  by_cases q : e = k
  · rw [if_pos q, q, cN_s (by omega) e1]
  · rw [if_neg q, cN_n e1 q]; exact (h e he).2.1
theorem EVQ.wd {k d : Nat} {gr : Int32} {f g ek : Nat → Int32} (h : (d = 0 ∧ SAx 4 ek) ∨ (d ≠ 0 ∧ SPx gr 4 ek)) (hw : WX k d gr 4 f g) : ∀ c, c < 16 → ek c = g (16 * k + c) := by
  intro c hc
  rw [hw.1 c hc, if_pos (by omega)]
  rcases h with ⟨h1, h2⟩ | ⟨h1, h2⟩
  · rw [h2 c hc]
    by_cases q : c % 4 = 0
    · rw [if_pos ⟨q, by omega⟩, if_pos q, if_pos (Or.inl h1)]
    · rw [if_neg (fun z => q z.1), if_neg q, if_pos h1]
      split <;> rfl
  · rw [h2 c hc, if_pos (by omega)]
    by_cases q : c % 4 = 0
    · rw [if_pos q, if_pos q]
      by_cases z : bt gr (c / 4) = true
      · rw [if_pos z, if_pos (Or.inr z)]
      · rw [if_neg z, if_neg (fun y => y.elim h1 z)]
    · rw [if_neg q, if_neg q, if_neg h1]
/-- both sides' sayings: told or not, how many afters -/
def TLQ (tT : Nat → Option SVal) (ft fa : Nat → Int32) : Prop := ∀ k, k < 8 → sNs tT k = tRr ft fa k
theorem tlq0 : TLQ (fun _ => none) (fun _ => 0) (fun _ => 0) := fun k _ => rfl
theorem TLQ.pln {tT : Nat → Option SVal} {ft fa : Nat → Int32} {k : Int32} (h : TLQ tT ft fa) : PLN (sNs tT) k ↔ PLN (tRr ft fa) k := by
  unfold PLN
  constructor
  · rintro ⟨h1, h2, h3⟩
    obtain ⟨j, e1, e2⟩ := nI_ex (x := k) (n := 7) h1 h2
    refine ⟨h1, h2, ?_⟩
    subst e1
    rw [nI_clamp (by omega)] at h3 ⊢
    rw [← h j (by omega)]; exact h3
  · rintro ⟨h1, h2, h3⟩
    obtain ⟨j, e1, e2⟩ := nI_ex (x := k) (n := 7) h1 h2
    refine ⟨h1, h2, ?_⟩
    subst e1
    rw [nI_clamp (by omega)] at h3 ⊢
    rw [h j (by omega)]; exact h3
theorem TLQ.kp {tT : Nat → Option SVal} {ft fa fa' : Nat → Int32} (h : TLQ tT ft fa) (hk : KP 8 fa fa') : TLQ tT ft fa' := by
  intro k hk8
  rw [h k hk8]
  unfold tRr
  rw [hk.at hk8]
theorem TLQ.say {tT : Nat → Option SVal} {ft fa ft' fa' : Nat → Int32} {k n m : Nat} {S : SVal} (h : TLQ tT ft fa) (hS : sNa S = n) (hm : 1 ≤ m) (hm2 : m ≤ 32) (hn : n ≤ 2) (e1 : upd ft k (nI m) = ft') (e2 : fa' k = nI n ∧ ∀ j, j < 8 → j ≠ k → fa' j = fa j) : TLQ (va_up tT k (some S)) ft' fa' := by
  intro j hj
  unfold sNs tRr
  by_cases q : j = k
  · subst q
    rw [vup_s, ← e1, pk_us, nI_toInt (by omega), if_pos (by omega)]
    have : cN fa' j = n := by unfold cN; rw [e2.1]; exact nI_clamp (by omega)
    rw [this, ← hS]
    rfl
  · have h2 := h j hj
    unfold sNs tRr at h2
    have e3 : cN fa' j = cN fa j := by unfold cN; rw [e2.2 j hj q]
    rw [vup_n q, ← e1, pk_un q, e3]
    exact h2
theorem SOK.pos {c : Nat → Int} {p n v w K m : Nat} (h : SOK c p n v w K m) : 1 ≤ K := by
  obtain ⟨a1, a2, a3, a4, q, a5, a6⟩ := h
  apply Classical.byContradiction
  intro hk
  have e : K = 0 := by omega
  subst e
  have a5' : (Sum.inr (p, 0, 1) : Nat ⊕ (Nat × Nat × Nat)) = .inr (q, m, 0) := a5
  cases a5'
abbrev RL_ (tl : Nat) (ct : Nat → Int) (pe : Nat) (kn : Int32) (st : Nat → Nat) (sn : Nat → Nat) (sl : Nat → Nat) (scx : Nat → Nat → Int32) (tT : Nat → Option SVal) (ec : Nat → Nat) (er : Nat → Nat) (ed : Nat → Nat → Int32) (q_taped : Nat) (cr : Nat → Int) (q_people : Nat) (f_secrets : Nat → Int32) (f_lanes : Nat → Int32) (f_lengths : Nat → Int32) (f_cells : Nat → Int32) (f_tokens : Nat → Int32) (f_afters : Nat → Int32) (f_caseMany : Nat → Int32) (f_happen : Nat → Int32) (f_heard : Nat → Int32) : Prop := tl = q_taped ∧ ct = cr ∧ pe = q_people ∧ SEC pe kn f_secrets ∧ SHE st sn sl f_lanes f_lengths ∧ CEL st sn scx f_cells ∧ EVQ ec er ed f_caseMany f_happen f_heard ∧ TLQ tT f_tokens f_afters
theorem ST.tl {E : EV} {hx hm : Nat} {tl : Nat} {ct : Nat → Int} {pe : Nat} {kn : Int32} {st : Nat → Nat} {sn : Nat → Nat} {sl : Nat → Nat} {scx : Nat → Nat → Int32} {tT : Nat → Option SVal} {ec : Nat → Nat} {er : Nat → Nat} {ed : Nat → Nat → Int32} {q_taped : Nat} {cr : Nat → Int} {q_people : Nat} {f_secrets : Nat → Int32} {f_lanes : Nat → Int32} {f_lengths : Nat → Int32} {f_cells : Nat → Int32} {f_tokens : Nat → Int32} {f_afters : Nat → Int32} {f_caseMany : Nat → Int32} {f_happen : Nat → Int32} {f_heard : Nat → Int32} {ws : va_W} (h : ST E hx hm tl ct pe kn st sn sl scx tT ec er ed q_taped cr q_people f_secrets f_lanes f_lengths f_cells f_tokens f_afters f_caseMany f_happen f_heard ws) : tl ≤ 160 ∧ q_taped ≤ 160 ∧ pe ≤ 4 := by
  unfold ST at h
  refine ex8 h ?_
  clear h
  intro h qp qs qj ly qh kk rd h
  refine ex8 h ?_
  clear h
  intro pg ss ac np kc w_now w_past w_pars h
  refine ex8 h ?_
  clear h
  intro w_judg w_layr w_heap w_kept w_rnds w_plnr w_shts wm h
  refine ex1 h ?_
  clear h
  intro ro h
  refine an8 h ?_
  clear h
  intro hac hnp hkc hpe H_now H_past H_pars H_judg h
  refine an7 h ?_
  clear h
  intro H_layr H_heap H_kept H_rnds H_plnr H_shts H_ref h
  have we_st := h
  clear h
  subst we_st
  unfold ok_pars at H_pars
  refine ex8 H_pars ?_
  clear H_pars
  intro qt po pa pf pd nd tn an H_pars
  refine ex8 H_pars ?_
  clear H_pars
  intro wr pl tb ta tk ts fb fo H_pars
  refine ex3 H_pars ?_
  clear H_pars
  intro pfa af fd H_pars
  refine an2 H_pars ?_
  clear H_pars
  intro we_pars htl H_pars
  have hct := H_pars
  clear H_pars
  subst we_pars
  subst hct
  unfold ok_ref at H_ref
  refine ex8 H_ref ?_
  clear H_ref
  intro m_manys m_reals m_factsOf m_possible q_undos q_models m_tape q_fault H_ref
  refine ex8 H_ref ?_
  clear H_ref
  intro q_wrong q_wrongAt q_spot q_place q_token q_value m_ends m_letters H_ref
  refine ex8 H_ref ?_
  clear H_ref
  intro m_actOf m_whom m_actMany m_tokens m_afters m_afterOf q_counted m_pile H_ref
  refine ex8 H_ref ?_
  clear H_ref
  intro m_caseMany m_happen m_hasIf m_becomes m_goneOf m_heard m_pairs m_heaps H_ref
  refine ex8 H_ref ?_
  clear H_ref
  intro q_rounds q_heapMany m_led m_newAt m_knowing m_firsts m_secrets m_tried H_ref
  refine ex8 H_ref ?_
  clear H_ref
  intro m_lanes m_lengths m_cells f_manys f_reals f_factsOf f_possible f_tape H_ref
  refine ex8 H_ref ?_
  clear H_ref
  intro f_ends f_letters f_actOf f_whom f_actMany f_afterOf f_pile f_hasIf H_ref
  refine ex8 H_ref ?_
  clear H_ref
  intro f_becomes f_goneOf f_pairs f_heaps f_led f_newAt f_knowing f_firsts H_ref
  refine ex1 H_ref ?_
  clear H_ref
  intro f_tried H_ref
  refine an8 H_ref ?_
  clear H_ref
  intro we_ref hb_manys hb_reals hb_tape hb_ends hb_letters hb_actMany hb_afters H_ref
  refine an8 H_ref ?_
  clear H_ref
  intro hb_afterOf hb_caseMany hb_happen hb_lengths hpg hhp hsv hq_undos H_ref
  refine an5 H_ref ?_
  clear H_ref
  intro hq_models hq_taped hq_people hq_token hq_value H_ref
  have hcr := H_ref
  clear H_ref
  subst we_ref
  subst hcr
  exact ⟨htl, hq_taped, hpe⟩
theorem eq_feed {v0 v : Int64} {r1 r2 : Int32} {tl : Nat} {ct : Nat → Int} {pe : Nat} {kn : Int32} {st : Nat → Nat} {sn : Nat → Nat} {sl : Nat → Nat} {scx : Nat → Nat → Int32} {tT : Nat → Option SVal} {ec : Nat → Nat} {er : Nat → Nat} {ed : Nat → Nat → Int32} {q_taped : Nat} {cr : Nat → Int} {q_people : Nat} {f_secrets : Nat → Int32} {f_lanes : Nat → Int32} {f_lengths : Nat → Int32} {f_cells : Nat → Int32} {f_tokens : Nat → Int32} {f_afters : Nat → Int32} {f_caseMany : Nat → Int32} {f_happen : Nat → Int32} {f_heard : Nat → Int32} {tlZ : Nat} {ctZ : Nat → Int} {q_tapedZ : Nat} {crZ : Nat → Int} (hx : (tl + 8 ≤ 160 ∧ tlZ = tl + 8 ∧ ctZ = czf ct tl v0 ∧ r1 = nI (tl + 8)) ∨ (160 < tl + 8 ∧ tlZ = tl ∧ ctZ = ct ∧ r1 = -3)) (hm : (q_taped + 8 ≤ 160 ∧ q_tapedZ = q_taped + 8 ∧ crZ = czf cr q_taped v ∧ r2 = nI (q_taped + 8)) ∨ (160 < q_taped + 8 ∧ q_tapedZ = q_taped ∧ crZ = cr ∧ r2 = -3)) (hR : RL_ tl ct pe kn st sn sl scx tT ec er ed q_taped cr q_people f_secrets f_lanes f_lengths f_cells f_tokens f_afters f_caseMany f_happen f_heard) (hb : tl ≤ 160 ∧ q_taped ≤ 160 ∧ pe ≤ 4) (hv : v0 = v) : r1 = r2 := by
  have h0 := hR.1
  rcases hx with ⟨a1, a2, a3, a4⟩ | ⟨a1, a2, a3, a4⟩
  · rcases hm with ⟨b1, b2, b3, b4⟩ | ⟨b1, b2, b3, b4⟩
    · rw [a4, b4, h0]
    · exfalso; omega
  · rcases hm with ⟨b1, b2, b3, b4⟩ | ⟨b1, b2, b3, b4⟩
    · exfalso; omega
    · rw [a4, b4]
theorem re_feed {v0 v : Int64} {r1 r2 : Int32} {tl : Nat} {ct : Nat → Int} {pe : Nat} {kn : Int32} {st : Nat → Nat} {sn : Nat → Nat} {sl : Nat → Nat} {scx : Nat → Nat → Int32} {tT : Nat → Option SVal} {ec : Nat → Nat} {er : Nat → Nat} {ed : Nat → Nat → Int32} {q_taped : Nat} {cr : Nat → Int} {q_people : Nat} {f_secrets : Nat → Int32} {f_lanes : Nat → Int32} {f_lengths : Nat → Int32} {f_cells : Nat → Int32} {f_tokens : Nat → Int32} {f_afters : Nat → Int32} {f_caseMany : Nat → Int32} {f_happen : Nat → Int32} {f_heard : Nat → Int32} {tlZ : Nat} {ctZ : Nat → Int} {q_tapedZ : Nat} {crZ : Nat → Int} (hx : (tl + 8 ≤ 160 ∧ tlZ = tl + 8 ∧ ctZ = czf ct tl v0 ∧ r1 = nI (tl + 8)) ∨ (160 < tl + 8 ∧ tlZ = tl ∧ ctZ = ct ∧ r1 = -3)) (hm : (q_taped + 8 ≤ 160 ∧ q_tapedZ = q_taped + 8 ∧ crZ = czf cr q_taped v ∧ r2 = nI (q_taped + 8)) ∨ (160 < q_taped + 8 ∧ q_tapedZ = q_taped ∧ crZ = cr ∧ r2 = -3)) (hR : RL_ tl ct pe kn st sn sl scx tT ec er ed q_taped cr q_people f_secrets f_lanes f_lengths f_cells f_tokens f_afters f_caseMany f_happen f_heard) (hb : tl ≤ 160 ∧ q_taped ≤ 160 ∧ pe ≤ 4) (hv : v0 = v) : tlZ = q_tapedZ ∧ ctZ = crZ := by
  have h0 := hR.1
  have h1 := hR.2.1
  rcases hx with ⟨a1, a2, a3, a4⟩ | ⟨a1, a2, a3, a4⟩
  · rcases hm with ⟨b1, b2, b3, b4⟩ | ⟨b1, b2, b3, b4⟩
    · exact ⟨by omega, by rw [a3, b3, h0, h1, hv]⟩
    · exfalso; omega
  · rcases hm with ⟨b1, b2, b3, b4⟩ | ⟨b1, b2, b3, b4⟩
    · exfalso; omega
    · exact ⟨by omega, by rw [a3, b3, h1]⟩
theorem re_say {v0 r1 r2 : Int32} {tl : Nat} {ct : Nat → Int} {pe : Nat} {kn : Int32} {st : Nat → Nat} {sn : Nat → Nat} {sl : Nat → Nat} {scx : Nat → Nat → Int32} {tT : Nat → Option SVal} {ec : Nat → Nat} {er : Nat → Nat} {ed : Nat → Nat → Int32} {q_taped : Nat} {cr : Nat → Int} {q_people : Nat} {f_secrets : Nat → Int32} {f_lanes : Nat → Int32} {f_lengths : Nat → Int32} {f_cells : Nat → Int32} {f_tokens : Nat → Int32} {f_afters : Nat → Int32} {f_caseMany : Nat → Int32} {f_happen : Nat → Int32} {f_heard : Nat → Int32} {tlZ : Nat} {ctZ : Nat → Int} {tTZ : Nat → Option SVal} {q_tapedZ : Nat} {crZ : Nat → Int} {f_tokensZ : Nat → Int32} {f_aftersZ : Nat → Int32} (hx : ((v0.toInt < 0 ∨ 7 < v0.toInt) ∧ tlZ = tl ∧ ctZ = ct ∧ tTZ = tT ∧ r1 = -1) ∨ (0 ≤ v0.toInt ∧ v0.toInt ≤ 7 ∧ tlZ = 0 ∧ ctZ = cze ct 0 ∧ ((∃ l, SBAD ct l ∧ r1 = (-10 : Int32) - nI l ∧ tTZ = tT) ∨ ∃ jk p n v w K m S, v0 = nI jk ∧ jk ≤ 7 ∧ SOK ct p n v w K m ∧ r1 = nI m ∧ tTZ = va_up tT jk (some S) ∧ sNa S = n))) (hm : ((v0.toInt < 0 ∨ 7 < v0.toInt) ∧ q_tapedZ = q_taped ∧ crZ = cr ∧ (f_tokensZ = f_tokens ∧ f_aftersZ = f_afters) ∧ r2 = -1) ∨ (0 ≤ v0.toInt ∧ v0.toInt ≤ 7 ∧ q_tapedZ = 0 ∧ crZ = cze cr 0 ∧ ((∃ l, SBAD cr l ∧ r2 = (-10 : Int32) - nI l ∧ f_tokensZ = f_tokens ∧ KP 8 f_afters f_aftersZ) ∨ ∃ jk p n v w K m, v0 = nI jk ∧ jk ≤ 7 ∧ SOK cr p n v w K m ∧ r2 = nI m ∧ upd f_tokens jk (nI m) = f_tokensZ ∧ (f_aftersZ jk = nI n ∧ ∀ j, j < 8 → j ≠ jk → f_aftersZ j = f_afters j) ∧ m ≤ 32 ∧ n ≤ 2 ∧ K ≤ m))) (hR : RL_ tl ct pe kn st sn sl scx tT ec er ed q_taped cr q_people f_secrets f_lanes f_lengths f_cells f_tokens f_afters f_caseMany f_happen f_heard) (hb : tl ≤ 160 ∧ q_taped ≤ 160 ∧ pe ≤ 4) : (tlZ = q_tapedZ ∧ ctZ = crZ) ∧ TLQ tTZ f_tokensZ f_aftersZ := by
  have h0 := hR.1
  have h1 := hR.2.1
  rcases hx with ⟨a1, a2, a3, a6, a4⟩ | ⟨a1, a2, a3, a4, a5⟩
  · rcases hm with ⟨b1, b2, b3, b6, b4⟩ | ⟨b1, b2, b3, b4, b5⟩
    · exact ⟨⟨by omega, by rw [a3, b3, h1]⟩, by rw [a6, b6.1, b6.2]; exact hR.2.2.2.2.2.2.2⟩
    · exfalso; omega
  · rcases hm with ⟨b1, b2, b3, b6, b4⟩ | ⟨b1, b2, b3, b4, b5⟩
    · exfalso; omega
    · refine ⟨⟨by omega, by rw [a4, b4, h1]⟩, ?_⟩
      rw [h1] at a5
      rcases a5 with ⟨l, c1, c2, c3⟩ | ⟨jk, p, n, v, w, K, m, S, c0, c1, c2, c3, c4, c5⟩
      · rcases b5 with ⟨l', d1, d2, d3, d4⟩ | ⟨jk', p', n', v', w', K', m', d0, d1, d2, d3, d4, d5, d6, d7, d8⟩
        · rw [c3, d3]; exact TLQ.kp hR.2.2.2.2.2.2.2 d4
        · exact absurd c1 (fun q => SOK.not d2 q)
      · rcases b5 with ⟨l', d1, d2, d3, d4⟩ | ⟨jk', p', n', v', w', K', m', d0, d1, d2, d3, d4, d5, d6, d7, d8⟩
        · exact absurd d1 (fun q => SOK.not c2 q)
        · have e1 := (nI_eq (by omega) (by omega)).mp (c0.symm.trans d0)
          have e2 := SOK.uniq c2 d2
          have e3 := SOK.pos d2
          subst e1
          rw [c4]
          exact TLQ.say hR.2.2.2.2.2.2.2 (by rw [c5]; exact e2.2.1) (by omega) d6 d7 d4 d5
theorem eq_say {v0 r1 r2 : Int32} {tl : Nat} {ct : Nat → Int} {pe : Nat} {kn : Int32} {st : Nat → Nat} {sn : Nat → Nat} {sl : Nat → Nat} {scx : Nat → Nat → Int32} {tT : Nat → Option SVal} {ec : Nat → Nat} {er : Nat → Nat} {ed : Nat → Nat → Int32} {q_taped : Nat} {cr : Nat → Int} {q_people : Nat} {f_secrets : Nat → Int32} {f_lanes : Nat → Int32} {f_lengths : Nat → Int32} {f_cells : Nat → Int32} {f_tokens : Nat → Int32} {f_afters : Nat → Int32} {f_caseMany : Nat → Int32} {f_happen : Nat → Int32} {f_heard : Nat → Int32} {tlZ : Nat} {ctZ : Nat → Int} {tTZ : Nat → Option SVal} {q_tapedZ : Nat} {crZ : Nat → Int} {f_tokensZ : Nat → Int32} {f_aftersZ : Nat → Int32} (hx : ((v0.toInt < 0 ∨ 7 < v0.toInt) ∧ tlZ = tl ∧ ctZ = ct ∧ tTZ = tT ∧ r1 = -1) ∨ (0 ≤ v0.toInt ∧ v0.toInt ≤ 7 ∧ tlZ = 0 ∧ ctZ = cze ct 0 ∧ ((∃ l, SBAD ct l ∧ r1 = (-10 : Int32) - nI l ∧ tTZ = tT) ∨ ∃ jk p n v w K m S, v0 = nI jk ∧ jk ≤ 7 ∧ SOK ct p n v w K m ∧ r1 = nI m ∧ tTZ = va_up tT jk (some S) ∧ sNa S = n))) (hm : ((v0.toInt < 0 ∨ 7 < v0.toInt) ∧ q_tapedZ = q_taped ∧ crZ = cr ∧ (f_tokensZ = f_tokens ∧ f_aftersZ = f_afters) ∧ r2 = -1) ∨ (0 ≤ v0.toInt ∧ v0.toInt ≤ 7 ∧ q_tapedZ = 0 ∧ crZ = cze cr 0 ∧ ((∃ l, SBAD cr l ∧ r2 = (-10 : Int32) - nI l ∧ f_tokensZ = f_tokens ∧ KP 8 f_afters f_aftersZ) ∨ ∃ jk p n v w K m, v0 = nI jk ∧ jk ≤ 7 ∧ SOK cr p n v w K m ∧ r2 = nI m ∧ upd f_tokens jk (nI m) = f_tokensZ ∧ (f_aftersZ jk = nI n ∧ ∀ j, j < 8 → j ≠ jk → f_aftersZ j = f_afters j) ∧ m ≤ 32 ∧ n ≤ 2 ∧ K ≤ m))) (hR : RL_ tl ct pe kn st sn sl scx tT ec er ed q_taped cr q_people f_secrets f_lanes f_lengths f_cells f_tokens f_afters f_caseMany f_happen f_heard) (hb : tl ≤ 160 ∧ q_taped ≤ 160 ∧ pe ≤ 4) : r1 = r2 := by
  have h1 := hR.2.1
  rcases hx with ⟨a1, a2, a3, a6, a4⟩ | ⟨a1, a2, a3, a4, a5⟩
  · rcases hm with ⟨b1, b2, b3, b6, b4⟩ | ⟨b1, b2, b3, b4, b5⟩
    · rw [a4, b4]
    · exfalso; omega
  · rcases hm with ⟨b1, b2, b3, b6, b4⟩ | ⟨b1, b2, b3, b4, b5⟩
    · exfalso; omega
    · rw [h1] at a5
      refine SAYR.uniq (c := cr) ?_ ?_
      · rcases a5 with ⟨l, c1, c2, c3⟩ | ⟨jk, p, n, v, w, K, m, S, c0, c1, c2, c3, c4, c5⟩
        · exact Or.inl ⟨l, c1, c2⟩
        · exact Or.inr ⟨p, n, v, w, K, m, c2, c3⟩
      · rcases b5 with ⟨l', d1, d2, d3, d4⟩ | ⟨jk', p', n', v', w', K', m', d0, d1, d2, d3, d4, d5, d6, d7, d8⟩
        · exact Or.inl ⟨l', d1, d2⟩
        · exact Or.inr ⟨p', n', v', w', K', m', d2, d3⟩
theorem re_end {v0 r1 r2 : Int32} {tl : Nat} {ct : Nat → Int} {pe : Nat} {kn : Int32} {st : Nat → Nat} {sn : Nat → Nat} {sl : Nat → Nat} {scx : Nat → Nat → Int32} {tT : Nat → Option SVal} {ec : Nat → Nat} {er : Nat → Nat} {ed : Nat → Nat → Int32} {q_taped : Nat} {cr : Nat → Int} {q_people : Nat} {f_secrets : Nat → Int32} {f_lanes : Nat → Int32} {f_lengths : Nat → Int32} {f_cells : Nat → Int32} {f_tokens : Nat → Int32} {f_afters : Nat → Int32} {f_caseMany : Nat → Int32} {f_happen : Nat → Int32} {f_heard : Nat → Int32} {tlZ : Nat} {ctZ : Nat → Int} {q_tapedZ : Nat} {crZ : Nat → Int} (hx : ((v0.toInt < 0 ∨ (tl : Int) < v0.toInt) ∧ tlZ = tl ∧ ctZ = ct ∧ r1 = -1) ∨ (v0 = nI tlZ ∧ tlZ ≤ tl ∧ ctZ = cze ct tlZ ∧ r1 = nI tl)) (hm : ((v0.toInt < 0 ∨ (q_taped : Int) < v0.toInt) ∧ q_tapedZ = q_taped ∧ crZ = cr ∧ r2 = -1) ∨ (v0 = nI q_tapedZ ∧ q_tapedZ ≤ q_taped ∧ crZ = cze cr q_tapedZ ∧ r2 = nI q_taped)) (hR : RL_ tl ct pe kn st sn sl scx tT ec er ed q_taped cr q_people f_secrets f_lanes f_lengths f_cells f_tokens f_afters f_caseMany f_happen f_heard) (hb : tl ≤ 160 ∧ q_taped ≤ 160 ∧ pe ≤ 4) : tlZ = q_tapedZ ∧ ctZ = crZ := by
  have h0 := hR.1
  have h1 := hR.2.1
  rcases hx with ⟨a1, a2, a3, a4⟩ | ⟨a1, a2, a3, a4⟩
  · rcases hm with ⟨b1, b2, b3, b4⟩ | ⟨b1, b2, b3, b4⟩
    · exact ⟨by omega, by rw [a3, b3, h1]⟩
    · exfalso; rw [b1, nI_toInt (by omega)] at a1; omega
  · rcases hm with ⟨b1, b2, b3, b4⟩ | ⟨b1, b2, b3, b4⟩
    · exfalso; rw [a1, nI_toInt (by omega)] at b1; omega
    · have e := (nI_eq (by omega) (by omega)).mp (a1.symm.trans b1)
      exact ⟨e, by rw [a3, b3, h1, e]⟩
theorem eq_end {v0 r1 r2 : Int32} {tl : Nat} {ct : Nat → Int} {pe : Nat} {kn : Int32} {st : Nat → Nat} {sn : Nat → Nat} {sl : Nat → Nat} {scx : Nat → Nat → Int32} {tT : Nat → Option SVal} {ec : Nat → Nat} {er : Nat → Nat} {ed : Nat → Nat → Int32} {q_taped : Nat} {cr : Nat → Int} {q_people : Nat} {f_secrets : Nat → Int32} {f_lanes : Nat → Int32} {f_lengths : Nat → Int32} {f_cells : Nat → Int32} {f_tokens : Nat → Int32} {f_afters : Nat → Int32} {f_caseMany : Nat → Int32} {f_happen : Nat → Int32} {f_heard : Nat → Int32} {tlZ : Nat} {ctZ : Nat → Int} {q_tapedZ : Nat} {crZ : Nat → Int} (hx : ((v0.toInt < 0 ∨ (tl : Int) < v0.toInt) ∧ tlZ = tl ∧ ctZ = ct ∧ r1 = -1) ∨ (v0 = nI tlZ ∧ tlZ ≤ tl ∧ ctZ = cze ct tlZ ∧ r1 = nI tl)) (hm : ((v0.toInt < 0 ∨ (q_taped : Int) < v0.toInt) ∧ q_tapedZ = q_taped ∧ crZ = cr ∧ r2 = -1) ∨ (v0 = nI q_tapedZ ∧ q_tapedZ ≤ q_taped ∧ crZ = cze cr q_tapedZ ∧ r2 = nI q_taped)) (hR : RL_ tl ct pe kn st sn sl scx tT ec er ed q_taped cr q_people f_secrets f_lanes f_lengths f_cells f_tokens f_afters f_caseMany f_happen f_heard) (hb : tl ≤ 160 ∧ q_taped ≤ 160 ∧ pe ≤ 4) : r1 = r2 := by
  have h0 := hR.1
  rcases hx with ⟨a1, a2, a3, a4⟩ | ⟨a1, a2, a3, a4⟩
  · rcases hm with ⟨b1, b2, b3, b4⟩ | ⟨b1, b2, b3, b4⟩
    · rw [a4, b4]
    · exfalso; rw [b1, nI_toInt (by omega)] at a1; omega
  · rcases hm with ⟨b1, b2, b3, b4⟩ | ⟨b1, b2, b3, b4⟩
    · exfalso; rw [a1, nI_toInt (by omega)] at b1; omega
    · rw [a4, b4, h0]
theorem eq_people {v0 r1 r2 : Int32} {tl : Nat} {ct : Nat → Int} {pe : Nat} {kn : Int32} {st : Nat → Nat} {sn : Nat → Nat} {sl : Nat → Nat} {scx : Nat → Nat → Int32} {tT : Nat → Option SVal} {ec : Nat → Nat} {er : Nat → Nat} {ed : Nat → Nat → Int32} {q_taped : Nat} {cr : Nat → Int} {q_people : Nat} {f_secrets : Nat → Int32} {f_lanes : Nat → Int32} {f_lengths : Nat → Int32} {f_cells : Nat → Int32} {f_tokens : Nat → Int32} {f_afters : Nat → Int32} {f_caseMany : Nat → Int32} {f_happen : Nat → Int32} {f_heard : Nat → Int32} {peZ : Nat} {knZ : Int32} {q_peopleZ : Nat} {f_secretsZ : Nat → Int32} (hx : ((v0.toInt < 2 ∨ 4 < v0.toInt) ∧ peZ = pe ∧ knZ = kn ∧ r1 = -1) ∨ (v0.toInt = 2 ∧ peZ = 2 ∧ knZ = 33 ∧ r1 = 2) ∨ (v0.toInt = 3 ∧ peZ = 3 ∧ knZ = 1057 ∧ r1 = 3) ∨ (v0.toInt = 4 ∧ peZ = 4 ∧ knZ = 33825 ∧ r1 = 4)) (hm : ((v0.toInt < 2 ∨ 4 < v0.toInt) ∧ q_peopleZ = q_people ∧ f_secretsZ = f_secrets ∧ r2 = -1) ∨ (v0.toInt = 2 ∧ q_peopleZ = 2 ∧ (∀ i, i < 2 → f_secretsZ i = nI (2 ^ i)) ∧ r2 = 2) ∨ (v0.toInt = 3 ∧ q_peopleZ = 3 ∧ (∀ i, i < 3 → f_secretsZ i = nI (2 ^ i)) ∧ r2 = 3) ∨ (v0.toInt = 4 ∧ q_peopleZ = 4 ∧ (∀ i, i < 4 → f_secretsZ i = nI (2 ^ i)) ∧ r2 = 4)) (hR : RL_ tl ct pe kn st sn sl scx tT ec er ed q_taped cr q_people f_secrets f_lanes f_lengths f_cells f_tokens f_afters f_caseMany f_happen f_heard) (hb : tl ≤ 160 ∧ q_taped ≤ 160 ∧ pe ≤ 4) : r1 = r2 := by
  rcases hx with ⟨a1, a2, a3, a4⟩ | ⟨a1, a2, a3, a4⟩ | ⟨a1, a2, a3, a4⟩ | ⟨a1, a2, a3, a4⟩ <;> rcases hm with ⟨b1, b2, b3, b4⟩ | ⟨b1, b2, b3, b4⟩ | ⟨b1, b2, b3, b4⟩ | ⟨b1, b2, b3, b4⟩ <;> first | (rw [a4, b4]; done) | (exfalso; omega)
theorem sec_p {c : Nat} {k : Int32} {fs : Nat → Int32} (h : ∀ i, i < c → fs i = nI (2 ^ i)) (hk : ∀ i, i < c → nI (2 ^ i) = sc k i) : SEC c k fs := fun i hi => (h i hi).trans (hk i hi)
theorem re_people {v0 r1 r2 : Int32} {tl : Nat} {ct : Nat → Int} {pe : Nat} {kn : Int32} {st : Nat → Nat} {sn : Nat → Nat} {sl : Nat → Nat} {scx : Nat → Nat → Int32} {tT : Nat → Option SVal} {ec : Nat → Nat} {er : Nat → Nat} {ed : Nat → Nat → Int32} {q_taped : Nat} {cr : Nat → Int} {q_people : Nat} {f_secrets : Nat → Int32} {f_lanes : Nat → Int32} {f_lengths : Nat → Int32} {f_cells : Nat → Int32} {f_tokens : Nat → Int32} {f_afters : Nat → Int32} {f_caseMany : Nat → Int32} {f_happen : Nat → Int32} {f_heard : Nat → Int32} {peZ : Nat} {knZ : Int32} {q_peopleZ : Nat} {f_secretsZ : Nat → Int32} (hx : ((v0.toInt < 2 ∨ 4 < v0.toInt) ∧ peZ = pe ∧ knZ = kn ∧ r1 = -1) ∨ (v0.toInt = 2 ∧ peZ = 2 ∧ knZ = 33 ∧ r1 = 2) ∨ (v0.toInt = 3 ∧ peZ = 3 ∧ knZ = 1057 ∧ r1 = 3) ∨ (v0.toInt = 4 ∧ peZ = 4 ∧ knZ = 33825 ∧ r1 = 4)) (hm : ((v0.toInt < 2 ∨ 4 < v0.toInt) ∧ q_peopleZ = q_people ∧ f_secretsZ = f_secrets ∧ r2 = -1) ∨ (v0.toInt = 2 ∧ q_peopleZ = 2 ∧ (∀ i, i < 2 → f_secretsZ i = nI (2 ^ i)) ∧ r2 = 2) ∨ (v0.toInt = 3 ∧ q_peopleZ = 3 ∧ (∀ i, i < 3 → f_secretsZ i = nI (2 ^ i)) ∧ r2 = 3) ∨ (v0.toInt = 4 ∧ q_peopleZ = 4 ∧ (∀ i, i < 4 → f_secretsZ i = nI (2 ^ i)) ∧ r2 = 4)) (hR : RL_ tl ct pe kn st sn sl scx tT ec er ed q_taped cr q_people f_secrets f_lanes f_lengths f_cells f_tokens f_afters f_caseMany f_happen f_heard) (hb : tl ≤ 160 ∧ q_taped ≤ 160 ∧ pe ≤ 4) : peZ = q_peopleZ ∧ SEC peZ knZ f_secretsZ := by
  rcases hx with ⟨a1, a2, a3, a4⟩ | ⟨a1, a2, a3, a4⟩ | ⟨a1, a2, a3, a4⟩ | ⟨a1, a2, a3, a4⟩
  · rcases hm with ⟨b1, b2, b3, b4⟩ | ⟨b1, b2, b3, b4⟩ | ⟨b1, b2, b3, b4⟩ | ⟨b1, b2, b3, b4⟩
    · rw [a2, a3, b2, b3]; exact ⟨hR.2.2.1, hR.2.2.2.1⟩
    · exfalso; omega
    · exfalso; omega
    · exfalso; omega
  · rcases hm with ⟨b1, b2, b3, b4⟩ | ⟨b1, b2, b3, b4⟩ | ⟨b1, b2, b3, b4⟩ | ⟨b1, b2, b3, b4⟩
    · exfalso; omega
    · rw [a2, a3, b2]; exact ⟨rfl, sec_p b3 (by decide +kernel)⟩
    · exfalso; omega
    · exfalso; omega
  · rcases hm with ⟨b1, b2, b3, b4⟩ | ⟨b1, b2, b3, b4⟩ | ⟨b1, b2, b3, b4⟩ | ⟨b1, b2, b3, b4⟩
    · exfalso; omega
    · exfalso; omega
    · rw [a2, a3, b2]; exact ⟨rfl, sec_p b3 (by decide +kernel)⟩
    · exfalso; omega
  · rcases hm with ⟨b1, b2, b3, b4⟩ | ⟨b1, b2, b3, b4⟩ | ⟨b1, b2, b3, b4⟩ | ⟨b1, b2, b3, b4⟩
    · exfalso; omega
    · exfalso; omega
    · exfalso; omega
    · rw [a2, a3, b2]; exact ⟨rfl, sec_p b3 (by decide +kernel)⟩
theorem eq_call {v0 v1 r1 r2 : Int32} {tl : Nat} {ct : Nat → Int} {pe : Nat} {kn : Int32} {st : Nat → Nat} {sn : Nat → Nat} {sl : Nat → Nat} {scx : Nat → Nat → Int32} {tT : Nat → Option SVal} {ec : Nat → Nat} {er : Nat → Nat} {ed : Nat → Nat → Int32} {q_taped : Nat} {cr : Nat → Int} {q_people : Nat} {f_secrets : Nat → Int32} {f_lanes : Nat → Int32} {f_lengths : Nat → Int32} {f_cells : Nat → Int32} {f_tokens : Nat → Int32} {f_afters : Nat → Int32} {f_caseMany : Nat → Int32} {f_happen : Nat → Int32} {f_heard : Nat → Int32} {knZ : Int32} {f_secretsZ : Nat → Int32} (hx : ((v0.toInt < 0 ∨ (pe : Int) ≤ v0.toInt ∨ v1.toInt < 0 ∨ (pe : Int) ≤ v1.toInt ∨ v0.toInt = v1.toInt) ∧ knZ = kn ∧ r1 = -1) ∨ ∃ i j : Nat, v0 = nI i ∧ v1 = nI j ∧ i < pe ∧ j < pe ∧ i ≠ j ∧ knZ = cl kn i j ∧ r1 = bcf (sc (cl kn i j) i)) (hm : ((v0.toInt < 0 ∨ (q_people : Int) ≤ v0.toInt ∨ v1.toInt < 0 ∨ (q_people : Int) ≤ v1.toInt ∨ v0.toInt = v1.toInt) ∧ f_secretsZ = f_secrets ∧ r2 = -1) ∨ ∃ i j : Nat, v0 = nI i ∧ v1 = nI j ∧ i < q_people ∧ j < q_people ∧ i ≠ j ∧ upd (upd f_secrets i (f_secrets i ||| f_secrets j)) j (f_secrets i ||| f_secrets j) = f_secretsZ ∧ r2 = nI (cb (bt (f_secrets i ||| f_secrets j)) 24)) (hR : RL_ tl ct pe kn st sn sl scx tT ec er ed q_taped cr q_people f_secrets f_lanes f_lengths f_cells f_tokens f_afters f_caseMany f_happen f_heard) (hb : tl ≤ 160 ∧ q_taped ≤ 160 ∧ pe ≤ 4) : r1 = r2 := by
  have h0 := hR.2.2.1
  rcases hx with ⟨a1, a2, a3⟩ | ⟨i, j, a1, a2, a3, a4, a5, a6, a7⟩
  · rcases hm with ⟨b1, b2, b3⟩ | ⟨i2, j2, b1, b2, b3, b4, b5, b6, b7⟩
    · rw [a3, b3]
    · exfalso; rw [b1, b2, nI_toInt (by omega), nI_toInt (by omega)] at a1; omega
  · rcases hm with ⟨b1, b2, b3⟩ | ⟨i2, j2, b1, b2, b3, b4, b5, b6, b7⟩
    · exfalso; rw [a1, a2, nI_toInt (by omega), nI_toInt (by omega)] at b1; omega
    · have e1 := (nI_eq (by omega) (by omega)).mp (a1.symm.trans b1)
      have e2 := (nI_eq (by omega) (by omega)).mp (a2.symm.trans b2)
      subst e1; subst e2
      rw [a7, b7]; exact SEC.ans hR.2.2.2.1 hb.2.2 a3 a4
theorem re_call {v0 v1 r1 r2 : Int32} {tl : Nat} {ct : Nat → Int} {pe : Nat} {kn : Int32} {st : Nat → Nat} {sn : Nat → Nat} {sl : Nat → Nat} {scx : Nat → Nat → Int32} {tT : Nat → Option SVal} {ec : Nat → Nat} {er : Nat → Nat} {ed : Nat → Nat → Int32} {q_taped : Nat} {cr : Nat → Int} {q_people : Nat} {f_secrets : Nat → Int32} {f_lanes : Nat → Int32} {f_lengths : Nat → Int32} {f_cells : Nat → Int32} {f_tokens : Nat → Int32} {f_afters : Nat → Int32} {f_caseMany : Nat → Int32} {f_happen : Nat → Int32} {f_heard : Nat → Int32} {knZ : Int32} {f_secretsZ : Nat → Int32} (hx : ((v0.toInt < 0 ∨ (pe : Int) ≤ v0.toInt ∨ v1.toInt < 0 ∨ (pe : Int) ≤ v1.toInt ∨ v0.toInt = v1.toInt) ∧ knZ = kn ∧ r1 = -1) ∨ ∃ i j : Nat, v0 = nI i ∧ v1 = nI j ∧ i < pe ∧ j < pe ∧ i ≠ j ∧ knZ = cl kn i j ∧ r1 = bcf (sc (cl kn i j) i)) (hm : ((v0.toInt < 0 ∨ (q_people : Int) ≤ v0.toInt ∨ v1.toInt < 0 ∨ (q_people : Int) ≤ v1.toInt ∨ v0.toInt = v1.toInt) ∧ f_secretsZ = f_secrets ∧ r2 = -1) ∨ ∃ i j : Nat, v0 = nI i ∧ v1 = nI j ∧ i < q_people ∧ j < q_people ∧ i ≠ j ∧ upd (upd f_secrets i (f_secrets i ||| f_secrets j)) j (f_secrets i ||| f_secrets j) = f_secretsZ ∧ r2 = nI (cb (bt (f_secrets i ||| f_secrets j)) 24)) (hR : RL_ tl ct pe kn st sn sl scx tT ec er ed q_taped cr q_people f_secrets f_lanes f_lengths f_cells f_tokens f_afters f_caseMany f_happen f_heard) (hb : tl ≤ 160 ∧ q_taped ≤ 160 ∧ pe ≤ 4) : SEC pe knZ f_secretsZ := by
  have h0 := hR.2.2.1
  rcases hx with ⟨a1, a2, a3⟩ | ⟨i, j, a1, a2, a3, a4, a5, a6, a7⟩
  · rcases hm with ⟨b1, b2, b3⟩ | ⟨i2, j2, b1, b2, b3, b4, b5, b6, b7⟩
    · rw [a2, b2]; exact hR.2.2.2.1
    · exfalso; rw [b1, b2, nI_toInt (by omega), nI_toInt (by omega)] at a1; omega
  · rcases hm with ⟨b1, b2, b3⟩ | ⟨i2, j2, b1, b2, b3, b4, b5, b6, b7⟩
    · exfalso; rw [a1, a2, nI_toInt (by omega), nI_toInt (by omega)] at b1; omega
    · have e1 := (nI_eq (by omega) (by omega)).mp (a1.symm.trans b1)
      have e2 := (nI_eq (by omega) (by omega)).mp (a2.symm.trans b2)
      subst e1; subst e2
      rw [a6]; exact SEC.call hR.2.2.2.1 hb.2.2 a3 a4 b6
theorem eq_secrets {v0 r1 r2 : Int32} {tl : Nat} {ct : Nat → Int} {pe : Nat} {kn : Int32} {st : Nat → Nat} {sn : Nat → Nat} {sl : Nat → Nat} {scx : Nat → Nat → Int32} {tT : Nat → Option SVal} {ec : Nat → Nat} {er : Nat → Nat} {ed : Nat → Nat → Int32} {q_taped : Nat} {cr : Nat → Int} {q_people : Nat} {f_secrets : Nat → Int32} {f_lanes : Nat → Int32} {f_lengths : Nat → Int32} {f_cells : Nat → Int32} {f_tokens : Nat → Int32} {f_afters : Nat → Int32} {f_caseMany : Nat → Int32} {f_happen : Nat → Int32} {f_heard : Nat → Int32} (hx : ((v0.toInt < 0 ∨ (pe : Int) ≤ v0.toInt) ∧ r1 = -1) ∨ ∃ i : Nat, v0 = nI i ∧ i < pe ∧ r1 = sc kn i) (hm : ((v0.toInt < 0 ∨ (q_people : Int) ≤ v0.toInt) ∧ r2 = -1) ∨ ∃ i : Nat, v0 = nI i ∧ i < q_people ∧ r2 = f_secrets i) (hR : RL_ tl ct pe kn st sn sl scx tT ec er ed q_taped cr q_people f_secrets f_lanes f_lengths f_cells f_tokens f_afters f_caseMany f_happen f_heard) (hb : tl ≤ 160 ∧ q_taped ≤ 160 ∧ pe ≤ 4) : r1 = r2 := by
  have h0 := hR.2.2.1
  rcases hx with ⟨a1, a2⟩ | ⟨i, a1, a2, a3⟩
  · rcases hm with ⟨b1, b2⟩ | ⟨i2, b1, b2, b3⟩
    · rw [a2, b2]
    · exfalso; rw [b1, nI_toInt (by omega)] at a1; omega
  · rcases hm with ⟨b1, b2⟩ | ⟨i2, b1, b2, b3⟩
    · exfalso; rw [a1, nI_toInt (by omega)] at b1; omega
    · have e1 := (nI_eq (by omega) (by omega)).mp (a1.symm.trans b1)
      subst e1
      rw [a3, b3, hR.2.2.2.1 i a2]
theorem eq_event {v0 v1 r1 r2 : Int32} {tl : Nat} {ct : Nat → Int} {pe : Nat} {kn : Int32} {st : Nat → Nat} {sn : Nat → Nat} {sl : Nat → Nat} {scx : Nat → Nat → Int32} {tT : Nat → Option SVal} {ec : Nat → Nat} {er : Nat → Nat} {ed : Nat → Nat → Int32} {q_taped : Nat} {cr : Nat → Int} {q_people : Nat} {f_secrets : Nat → Int32} {f_lanes : Nat → Int32} {f_lengths : Nat → Int32} {f_cells : Nat → Int32} {f_tokens : Nat → Int32} {f_afters : Nat → Int32} {f_caseMany : Nat → Int32} {f_happen : Nat → Int32} {f_heard : Nat → Int32} {ecZ : Nat → Nat} {erZ : Nat → Nat} {edZ : Nat → Nat → Int32} {f_caseManyZ : Nat → Int32} {f_happenZ : Nat → Int32} {f_heardZ : Nat → Int32} (hx : ((v0.toInt < 0 ∨ 3 < v0.toInt ∨ v1.toInt < 1 ∨ 4 < v1.toInt) ∧ r1 = -1 ∧ ecZ = ec ∧ erZ = er ∧ edZ = ed) ∨ ∃ k_ n_ : Nat, v0 = nI k_ ∧ v1 = nI n_ ∧ k_ ≤ 3 ∧ (1 ≤ n_ ∧ n_ ≤ 4) ∧ (∀ i, i < 4 → ecZ i = if i = k_ then n_ else ec i) ∧ (∀ i, i < 4 → erZ i = if i = k_ then 0 else er i) ∧ (∀ i, i < 4 → i ≠ k_ → edZ i = ed i) ∧ Z0x 16 (edZ k_) ∧ r1 = 1) (hm : ((v0.toInt < 0 ∨ 3 < v0.toInt ∨ v1.toInt < 1 ∨ 4 < v1.toInt) ∧ r2 = -1 ∧ f_caseManyZ = f_caseMany ∧ f_happenZ = f_happen ∧ f_heardZ = f_heard) ∨ ∃ k_ n_ : Nat, v0 = nI k_ ∧ v1 = nI n_ ∧ k_ ≤ 3 ∧ (1 ≤ n_ ∧ n_ ≤ 4) ∧ upd f_caseMany k_ (nI n_) = f_caseManyZ ∧ upd f_happen k_ (nI 0) = f_happenZ ∧ HZ k_ 4 0 f_heard f_heardZ ∧ r2 = 1) (hR : RL_ tl ct pe kn st sn sl scx tT ec er ed q_taped cr q_people f_secrets f_lanes f_lengths f_cells f_tokens f_afters f_caseMany f_happen f_heard) (hb : tl ≤ 160 ∧ q_taped ≤ 160 ∧ pe ≤ 4) : r1 = r2 := by
  have hq := hR.2.2.2.2.2.2.1
  rcases hx with ⟨a1, a2, a3⟩ | ⟨k1, n1, a1, a2, a3, a4, a5, a6, a7, a8, a9⟩
  · rcases hm with ⟨b1, b2, b3⟩ | ⟨k2, n2, b1, b2, b3, b4, b5, b6, b7, b8⟩
    · rw [a2, b2]
    · exfalso; rw [b1, b2, nI_toInt (by omega), nI_toInt (by omega)] at a1; omega
  · rcases hm with ⟨b1, b2, b3⟩ | ⟨k2, n2, b1, b2, b3, b4, b5, b6, b7, b8⟩
    · exfalso; rw [a1, a2, nI_toInt (by omega), nI_toInt (by omega)] at b1; omega
    · have e1 := (nI_eq (by omega) (by omega)).mp (a1.symm.trans b1)
      have e2 := (nI_eq (by omega) (by omega)).mp (a2.symm.trans b2)
      subst e1; subst e2
      rw [a9, b8]
theorem re_event {v0 v1 r1 r2 : Int32} {tl : Nat} {ct : Nat → Int} {pe : Nat} {kn : Int32} {st : Nat → Nat} {sn : Nat → Nat} {sl : Nat → Nat} {scx : Nat → Nat → Int32} {tT : Nat → Option SVal} {ec : Nat → Nat} {er : Nat → Nat} {ed : Nat → Nat → Int32} {q_taped : Nat} {cr : Nat → Int} {q_people : Nat} {f_secrets : Nat → Int32} {f_lanes : Nat → Int32} {f_lengths : Nat → Int32} {f_cells : Nat → Int32} {f_tokens : Nat → Int32} {f_afters : Nat → Int32} {f_caseMany : Nat → Int32} {f_happen : Nat → Int32} {f_heard : Nat → Int32} {ecZ : Nat → Nat} {erZ : Nat → Nat} {edZ : Nat → Nat → Int32} {f_caseManyZ : Nat → Int32} {f_happenZ : Nat → Int32} {f_heardZ : Nat → Int32} (hx : ((v0.toInt < 0 ∨ 3 < v0.toInt ∨ v1.toInt < 1 ∨ 4 < v1.toInt) ∧ r1 = -1 ∧ ecZ = ec ∧ erZ = er ∧ edZ = ed) ∨ ∃ k_ n_ : Nat, v0 = nI k_ ∧ v1 = nI n_ ∧ k_ ≤ 3 ∧ (1 ≤ n_ ∧ n_ ≤ 4) ∧ (∀ i, i < 4 → ecZ i = if i = k_ then n_ else ec i) ∧ (∀ i, i < 4 → erZ i = if i = k_ then 0 else er i) ∧ (∀ i, i < 4 → i ≠ k_ → edZ i = ed i) ∧ Z0x 16 (edZ k_) ∧ r1 = 1) (hm : ((v0.toInt < 0 ∨ 3 < v0.toInt ∨ v1.toInt < 1 ∨ 4 < v1.toInt) ∧ r2 = -1 ∧ f_caseManyZ = f_caseMany ∧ f_happenZ = f_happen ∧ f_heardZ = f_heard) ∨ ∃ k_ n_ : Nat, v0 = nI k_ ∧ v1 = nI n_ ∧ k_ ≤ 3 ∧ (1 ≤ n_ ∧ n_ ≤ 4) ∧ upd f_caseMany k_ (nI n_) = f_caseManyZ ∧ upd f_happen k_ (nI 0) = f_happenZ ∧ HZ k_ 4 0 f_heard f_heardZ ∧ r2 = 1) (hR : RL_ tl ct pe kn st sn sl scx tT ec er ed q_taped cr q_people f_secrets f_lanes f_lengths f_cells f_tokens f_afters f_caseMany f_happen f_heard) (hb : tl ≤ 160 ∧ q_taped ≤ 160 ∧ pe ≤ 4) : EVQ ecZ erZ edZ f_caseManyZ f_happenZ f_heardZ := by
  have hq := hR.2.2.2.2.2.2.1
  rcases hx with ⟨a1, a2, a3⟩ | ⟨k1, n1, a1, a2, a3, a4, a5, a6, a7, a8, a9⟩
  · rcases hm with ⟨b1, b2, b3⟩ | ⟨k2, n2, b1, b2, b3, b4, b5, b6, b7, b8⟩
    · rw [a3.1, a3.2.1, a3.2.2, b3.1, b3.2.1, b3.2.2]; exact hq
    · exfalso; rw [b1, b2, nI_toInt (by omega), nI_toInt (by omega)] at a1; omega
  · rcases hm with ⟨b1, b2, b3⟩ | ⟨k2, n2, b1, b2, b3, b4, b5, b6, b7, b8⟩
    · exfalso; rw [a1, a2, nI_toInt (by omega), nI_toInt (by omega)] at b1; omega
    · have e1 := (nI_eq (by omega) (by omega)).mp (a1.symm.trans b1)
      have e2 := (nI_eq (by omega) (by omega)).mp (a2.symm.trans b2)
      subst e1; subst e2
      exact EVQ.put hq a3 a4.2 a5 a6 a7 (fun c hc => (a8 c hc).trans (b7.1 c hc (by omega)).symm) b5 b6 b7.2
theorem eq_when {v0 v1 v2 v3 v4 r1 r2 : Int32} {tl : Nat} {ct : Nat → Int} {pe : Nat} {kn : Int32} {st : Nat → Nat} {sn : Nat → Nat} {sl : Nat → Nat} {scx : Nat → Nat → Int32} {tT : Nat → Option SVal} {ec : Nat → Nat} {er : Nat → Nat} {ed : Nat → Nat → Int32} {q_taped : Nat} {cr : Nat → Int} {q_people : Nat} {f_secrets : Nat → Int32} {f_lanes : Nat → Int32} {f_lengths : Nat → Int32} {f_cells : Nat → Int32} {f_tokens : Nat → Int32} {f_afters : Nat → Int32} {f_caseMany : Nat → Int32} {f_happen : Nat → Int32} {f_heard : Nat → Int32} (hx : ((¬ CSE ec v0 v1 ∨ (v2 ≠ -4 ∧ ¬ PLN (sNs tT) v2) ∨ v3.toInt < 0 ∨ 15 < v3.toInt ∨ v4.toInt < 0 ∨ 15 < v4.toInt) ∧ r1 = -1) ∨ ((CSE ec v0 v1 ∧ (v2 = -4 ∨ PLN (sNs tT) v2) ∧ 0 ≤ v3.toInt ∧ v3.toInt ≤ 15 ∧ 0 ≤ v4.toInt ∧ v4.toInt ≤ 15) ∧ r1 = 1)) (hm : ((¬ CSE (cN f_caseMany) v0 v1 ∨ (v2 ≠ -4 ∧ ¬ PLN (tRr f_tokens f_afters) v2) ∨ v3.toInt < 0 ∨ 15 < v3.toInt ∨ v4.toInt < 0 ∨ 15 < v4.toInt) ∧ r2 = -1) ∨ ((CSE (cN f_caseMany) v0 v1 ∧ (v2 = -4 ∨ PLN (tRr f_tokens f_afters) v2) ∧ 0 ≤ v3.toInt ∧ v3.toInt ≤ 15 ∧ 0 ≤ v4.toInt ∧ v4.toInt ≤ 15) ∧ r2 = 1)) (hR : RL_ tl ct pe kn st sn sl scx tT ec er ed q_taped cr q_people f_secrets f_lanes f_lengths f_cells f_tokens f_afters f_caseMany f_happen f_heard) (hb : tl ≤ 160 ∧ q_taped ≤ 160 ∧ pe ≤ 4) : r1 = r2 := by
  have hc : CSE ec v0 v1 ↔ CSE (cN f_caseMany) v0 v1 := EVQ.cse hR.2.2.2.2.2.2.1
  have hp : PLN (sNs tT) v2 ↔ PLN (tRr f_tokens f_afters) v2 := TLQ.pln hR.2.2.2.2.2.2.2
  rcases hx with ⟨a1, a2⟩ | ⟨a1, a2⟩
  · rcases hm with ⟨b1, b2⟩ | ⟨b1, b2⟩
    · rw [a2, b2]
    · exfalso
      rcases a1 with q | ⟨q1, q2⟩ | q
      · exact q (hc.mpr b1.1)
      · rcases b1.2.1 with z | z
        · exact q1 z
        · exact q2 (hp.mpr z)
      · omega
  · rcases hm with ⟨b1, b2⟩ | ⟨b1, b2⟩
    · exfalso
      rcases b1 with q | ⟨q1, q2⟩ | q
      · exact q (hc.mp a1.1)
      · rcases a1.2.1 with z | z
        · exact q1 z
        · exact q2 (hp.mp z)
      · omega
    · rw [a2, b2]
theorem eq_hears {v0 v1 v2 v3 v4 r1 r2 : Int32} {tl : Nat} {ct : Nat → Int} {pe : Nat} {kn : Int32} {st : Nat → Nat} {sn : Nat → Nat} {sl : Nat → Nat} {scx : Nat → Nat → Int32} {tT : Nat → Option SVal} {ec : Nat → Nat} {er : Nat → Nat} {ed : Nat → Nat → Int32} {q_taped : Nat} {cr : Nat → Int} {q_people : Nat} {f_secrets : Nat → Int32} {f_lanes : Nat → Int32} {f_lengths : Nat → Int32} {f_cells : Nat → Int32} {f_tokens : Nat → Int32} {f_afters : Nat → Int32} {f_caseMany : Nat → Int32} {f_happen : Nat → Int32} {f_heard : Nat → Int32} {edZ : Nat → Nat → Int32} {f_heardZ : Nat → Int32} (hx : ((¬ CSE ec v0 v2 ∨ ¬ CSE ec v0 v3 ∨ v1.toInt < 0 ∨ 3 < v1.toInt) ∧ r1 = -1 ∧ edZ = ed) ∨ ∃ k_ n_ i_ : Nat, CSE ec v0 v2 ∧ CSE ec v0 v3 ∧ v0 = nI k_ ∧ v1 = nI n_ ∧ v2 = nI i_ ∧ k_ ≤ 3 ∧ n_ ≤ 3 ∧ i_ ≤ 3 ∧ (∀ i, i < 4 → i ≠ k_ → edZ i = ed i) ∧ upd (ed k_) (n_ * 4 + i_) (hbt (ed k_ (n_ * 4 + i_)) v3 v4) = edZ k_ ∧ r1 = ed k_ (n_ * 4 + i_) >>> (v3 &&& 31) &&& 1) (hm : ((¬ CSE (cN f_caseMany) v0 v2 ∨ ¬ CSE (cN f_caseMany) v0 v3 ∨ v1.toInt < 0 ∨ 3 < v1.toInt) ∧ r2 = -1 ∧ f_heardZ = f_heard) ∨ ∃ k_ n_ i_ : Nat, CSE (cN f_caseMany) v0 v2 ∧ CSE (cN f_caseMany) v0 v3 ∧ v0 = nI k_ ∧ v1 = nI n_ ∧ v2 = nI i_ ∧ k_ ≤ 3 ∧ n_ ≤ 3 ∧ i_ ≤ 3 ∧ upd f_heard (16 * k_ + 4 * n_ + i_) (hbt (f_heard (16 * k_ + 4 * n_ + i_)) v3 v4) = f_heardZ ∧ r2 = f_heard (16 * k_ + 4 * n_ + i_) >>> (v3 &&& 31) &&& 1) (hR : RL_ tl ct pe kn st sn sl scx tT ec er ed q_taped cr q_people f_secrets f_lanes f_lengths f_cells f_tokens f_afters f_caseMany f_happen f_heard) (hb : tl ≤ 160 ∧ q_taped ≤ 160 ∧ pe ≤ 4) : r1 = r2 := by
  have hq := hR.2.2.2.2.2.2.1
  have hc : CSE ec v0 v2 ↔ CSE (cN f_caseMany) v0 v2 := EVQ.cse hq
  have hd : CSE ec v0 v3 ↔ CSE (cN f_caseMany) v0 v3 := EVQ.cse hq
  rcases hx with ⟨a1, a2, a3⟩ | ⟨k1, n1, i1, a1, a2, a3, a4, a5, a6, a7, a8, a9, aa, ab⟩
  · rcases hm with ⟨b1, b2, b3⟩ | ⟨k2, n2, i2, b1, b2, b3, b4, b5, b6, b7, b8, b9, ba⟩
    · rw [a2, b2]
    · exfalso
      rcases a1 with q | q | q
      · exact q (hc.mpr b1)
      · exact q (hd.mpr b2)
      · rw [b4, nI_toInt (by omega)] at q; omega
  · rcases hm with ⟨b1, b2, b3⟩ | ⟨k2, n2, i2, b1, b2, b3, b4, b5, b6, b7, b8, b9, ba⟩
    · exfalso
      rcases b1 with q | q | q
      · exact q (hc.mp a1)
      · exact q (hd.mp a2)
      · rw [a4, nI_toInt (by omega)] at q; omega
    · have e1 := (nI_eq (by omega) (by omega)).mp (a3.symm.trans b3)
      have e2 := (nI_eq (by omega) (by omega)).mp (a4.symm.trans b4)
      have e3 := (nI_eq (by omega) (by omega)).mp (a5.symm.trans b5)
      subst e1; subst e2; subst e3
      have hh : ed k1 (n1 * 4 + i1) = f_heard (16 * k1 + 4 * n1 + i1) := by rw [(hq k1 (by omega)).2.2 (n1 * 4 + i1) (by omega)]; congr 1; omega
      rw [ab, ba, hh]
theorem re_hears {v0 v1 v2 v3 v4 r1 r2 : Int32} {tl : Nat} {ct : Nat → Int} {pe : Nat} {kn : Int32} {st : Nat → Nat} {sn : Nat → Nat} {sl : Nat → Nat} {scx : Nat → Nat → Int32} {tT : Nat → Option SVal} {ec : Nat → Nat} {er : Nat → Nat} {ed : Nat → Nat → Int32} {q_taped : Nat} {cr : Nat → Int} {q_people : Nat} {f_secrets : Nat → Int32} {f_lanes : Nat → Int32} {f_lengths : Nat → Int32} {f_cells : Nat → Int32} {f_tokens : Nat → Int32} {f_afters : Nat → Int32} {f_caseMany : Nat → Int32} {f_happen : Nat → Int32} {f_heard : Nat → Int32} {edZ : Nat → Nat → Int32} {f_heardZ : Nat → Int32} (hx : ((¬ CSE ec v0 v2 ∨ ¬ CSE ec v0 v3 ∨ v1.toInt < 0 ∨ 3 < v1.toInt) ∧ r1 = -1 ∧ edZ = ed) ∨ ∃ k_ n_ i_ : Nat, CSE ec v0 v2 ∧ CSE ec v0 v3 ∧ v0 = nI k_ ∧ v1 = nI n_ ∧ v2 = nI i_ ∧ k_ ≤ 3 ∧ n_ ≤ 3 ∧ i_ ≤ 3 ∧ (∀ i, i < 4 → i ≠ k_ → edZ i = ed i) ∧ upd (ed k_) (n_ * 4 + i_) (hbt (ed k_ (n_ * 4 + i_)) v3 v4) = edZ k_ ∧ r1 = ed k_ (n_ * 4 + i_) >>> (v3 &&& 31) &&& 1) (hm : ((¬ CSE (cN f_caseMany) v0 v2 ∨ ¬ CSE (cN f_caseMany) v0 v3 ∨ v1.toInt < 0 ∨ 3 < v1.toInt) ∧ r2 = -1 ∧ f_heardZ = f_heard) ∨ ∃ k_ n_ i_ : Nat, CSE (cN f_caseMany) v0 v2 ∧ CSE (cN f_caseMany) v0 v3 ∧ v0 = nI k_ ∧ v1 = nI n_ ∧ v2 = nI i_ ∧ k_ ≤ 3 ∧ n_ ≤ 3 ∧ i_ ≤ 3 ∧ upd f_heard (16 * k_ + 4 * n_ + i_) (hbt (f_heard (16 * k_ + 4 * n_ + i_)) v3 v4) = f_heardZ ∧ r2 = f_heard (16 * k_ + 4 * n_ + i_) >>> (v3 &&& 31) &&& 1) (hR : RL_ tl ct pe kn st sn sl scx tT ec er ed q_taped cr q_people f_secrets f_lanes f_lengths f_cells f_tokens f_afters f_caseMany f_happen f_heard) (hb : tl ≤ 160 ∧ q_taped ≤ 160 ∧ pe ≤ 4) : EVQ ec er edZ f_caseMany f_happen f_heardZ := by
  have hq := hR.2.2.2.2.2.2.1
  have hc : CSE ec v0 v2 ↔ CSE (cN f_caseMany) v0 v2 := EVQ.cse hq
  have hd : CSE ec v0 v3 ↔ CSE (cN f_caseMany) v0 v3 := EVQ.cse hq
  rcases hx with ⟨a1, a2, a3⟩ | ⟨k1, n1, i1, a1, a2, a3, a4, a5, a6, a7, a8, a9, aa, ab⟩
  · rcases hm with ⟨b1, b2, b3⟩ | ⟨k2, n2, i2, b1, b2, b3, b4, b5, b6, b7, b8, b9, ba⟩
    · rw [a3, b3]; exact hq
    · exfalso
      rcases a1 with q | q | q
      · exact q (hc.mpr b1)
      · exact q (hd.mpr b2)
      · rw [b4, nI_toInt (by omega)] at q; omega
  · rcases hm with ⟨b1, b2, b3⟩ | ⟨k2, n2, i2, b1, b2, b3, b4, b5, b6, b7, b8, b9, ba⟩
    · exfalso
      rcases b1 with q | q | q
      · exact q (hc.mp a1)
      · exact q (hd.mp a2)
      · rw [a4, nI_toInt (by omega)] at q; omega
    · have e1 := (nI_eq (by omega) (by omega)).mp (a3.symm.trans b3)
      have e2 := (nI_eq (by omega) (by omega)).mp (a4.symm.trans b4)
      have e3 := (nI_eq (by omega) (by omega)).mp (a5.symm.trans b5)
      subst e1; subst e2; subst e3
      have hh : ed k1 (n1 * 4 + i1) = f_heard (16 * k1 + 4 * n1 + i1) := by rw [(hq k1 (by omega)).2.2 (n1 * 4 + i1) (by omega)]; congr 1; omega
      rw [hh] at aa; exact EVQ.hear hq a6 a7 a8 a9 aa b9
theorem eq_happens {v0 v1 r1 r2 : Int32} {tl : Nat} {ct : Nat → Int} {pe : Nat} {kn : Int32} {st : Nat → Nat} {sn : Nat → Nat} {sl : Nat → Nat} {scx : Nat → Nat → Int32} {tT : Nat → Option SVal} {ec : Nat → Nat} {er : Nat → Nat} {ed : Nat → Nat → Int32} {q_taped : Nat} {cr : Nat → Int} {q_people : Nat} {f_secrets : Nat → Int32} {f_lanes : Nat → Int32} {f_lengths : Nat → Int32} {f_cells : Nat → Int32} {f_tokens : Nat → Int32} {f_afters : Nat → Int32} {f_caseMany : Nat → Int32} {f_happen : Nat → Int32} {f_heard : Nat → Int32} {erZ : Nat → Nat} {f_happenZ : Nat → Int32} (hx : (¬ CSE ec v0 v1 ∧ r1 = -1 ∧ erZ = er) ∨ ∃ k_ i_ : Nat, CSE ec v0 v1 ∧ v0 = nI k_ ∧ v1 = nI i_ ∧ k_ ≤ 3 ∧ i_ ≤ 3 ∧ (∀ i, i < 4 → erZ i = if i = k_ then i_ else er i) ∧ r1 = nI (er k_)) (hm : (¬ CSE (cN f_caseMany) v0 v1 ∧ r2 = -1 ∧ f_happenZ = f_happen) ∨ ∃ k_ i_ : Nat, CSE (cN f_caseMany) v0 v1 ∧ v0 = nI k_ ∧ v1 = nI i_ ∧ k_ ≤ 3 ∧ i_ ≤ 3 ∧ upd f_happen k_ (nI i_) = f_happenZ ∧ r2 = nI (cN f_happen k_)) (hR : RL_ tl ct pe kn st sn sl scx tT ec er ed q_taped cr q_people f_secrets f_lanes f_lengths f_cells f_tokens f_afters f_caseMany f_happen f_heard) (hb : tl ≤ 160 ∧ q_taped ≤ 160 ∧ pe ≤ 4) : r1 = r2 := by
  have hq := hR.2.2.2.2.2.2.1
  have hc : CSE ec v0 v1 ↔ CSE (cN f_caseMany) v0 v1 := EVQ.cse hq
  rcases hx with ⟨a1, a2, a3⟩ | ⟨k1, i1, a1, a2, a3, a4, a5, a6, a7⟩
  · rcases hm with ⟨b1, b2, b3⟩ | ⟨k2, i2, b1, b2, b3, b4, b5, b6, b7⟩
    · rw [a2, b2]
    · exact absurd (hc.mpr b1) a1
  · rcases hm with ⟨b1, b2, b3⟩ | ⟨k2, i2, b1, b2, b3, b4, b5, b6, b7⟩
    · exact absurd (hc.mp a1) b1
    · have e1 := (nI_eq (by omega) (by omega)).mp (a2.symm.trans b2)
      have e2 := (nI_eq (by omega) (by omega)).mp (a3.symm.trans b3)
      subst e1; subst e2
      rw [a7, b7, (hq k1 (by omega)).2.1]
theorem re_happens {v0 v1 r1 r2 : Int32} {tl : Nat} {ct : Nat → Int} {pe : Nat} {kn : Int32} {st : Nat → Nat} {sn : Nat → Nat} {sl : Nat → Nat} {scx : Nat → Nat → Int32} {tT : Nat → Option SVal} {ec : Nat → Nat} {er : Nat → Nat} {ed : Nat → Nat → Int32} {q_taped : Nat} {cr : Nat → Int} {q_people : Nat} {f_secrets : Nat → Int32} {f_lanes : Nat → Int32} {f_lengths : Nat → Int32} {f_cells : Nat → Int32} {f_tokens : Nat → Int32} {f_afters : Nat → Int32} {f_caseMany : Nat → Int32} {f_happen : Nat → Int32} {f_heard : Nat → Int32} {erZ : Nat → Nat} {f_happenZ : Nat → Int32} (hx : (¬ CSE ec v0 v1 ∧ r1 = -1 ∧ erZ = er) ∨ ∃ k_ i_ : Nat, CSE ec v0 v1 ∧ v0 = nI k_ ∧ v1 = nI i_ ∧ k_ ≤ 3 ∧ i_ ≤ 3 ∧ (∀ i, i < 4 → erZ i = if i = k_ then i_ else er i) ∧ r1 = nI (er k_)) (hm : (¬ CSE (cN f_caseMany) v0 v1 ∧ r2 = -1 ∧ f_happenZ = f_happen) ∨ ∃ k_ i_ : Nat, CSE (cN f_caseMany) v0 v1 ∧ v0 = nI k_ ∧ v1 = nI i_ ∧ k_ ≤ 3 ∧ i_ ≤ 3 ∧ upd f_happen k_ (nI i_) = f_happenZ ∧ r2 = nI (cN f_happen k_)) (hR : RL_ tl ct pe kn st sn sl scx tT ec er ed q_taped cr q_people f_secrets f_lanes f_lengths f_cells f_tokens f_afters f_caseMany f_happen f_heard) (hb : tl ≤ 160 ∧ q_taped ≤ 160 ∧ pe ≤ 4) : EVQ ec erZ ed f_caseMany f_happenZ f_heard := by
  have hq := hR.2.2.2.2.2.2.1
  have hc : CSE ec v0 v1 ↔ CSE (cN f_caseMany) v0 v1 := EVQ.cse hq
  rcases hx with ⟨a1, a2, a3⟩ | ⟨k1, i1, a1, a2, a3, a4, a5, a6, a7⟩
  · rcases hm with ⟨b1, b2, b3⟩ | ⟨k2, i2, b1, b2, b3, b4, b5, b6, b7⟩
    · rw [a3, b3]; exact hq
    · exact absurd (hc.mpr b1) a1
  · rcases hm with ⟨b1, b2, b3⟩ | ⟨k2, i2, b1, b2, b3, b4, b5, b6, b7⟩
    · exact absurd (hc.mp a1) b1
    · have e1 := (nI_eq (by omega) (by omega)).mp (a2.symm.trans b2)
      have e2 := (nI_eq (by omega) (by omega)).mp (a3.symm.trans b3)
      subst e1; subst e2
      exact EVQ.hap hq a5 a6 b6
theorem eq_word {v0 v1 v2 v3 r1 r2 : Int32} {tl : Nat} {ct : Nat → Int} {pe : Nat} {kn : Int32} {st : Nat → Nat} {sn : Nat → Nat} {sl : Nat → Nat} {scx : Nat → Nat → Int32} {tT : Nat → Option SVal} {ec : Nat → Nat} {er : Nat → Nat} {ed : Nat → Nat → Int32} {q_taped : Nat} {cr : Nat → Int} {q_people : Nat} {f_secrets : Nat → Int32} {f_lanes : Nat → Int32} {f_lengths : Nat → Int32} {f_cells : Nat → Int32} {f_tokens : Nat → Int32} {f_afters : Nat → Int32} {f_caseMany : Nat → Int32} {f_happen : Nat → Int32} {f_heard : Nat → Int32} {ecZ : Nat → Nat} {erZ : Nat → Nat} {edZ : Nat → Nat → Int32} {f_caseManyZ : Nat → Int32} {f_happenZ : Nat → Int32} {f_heardZ : Nat → Int32} (hx : ((v0.toInt < 0 ∨ 3 < v0.toInt ∨ v1.toInt < 0 ∨ 2 < v1.toInt ∨ ¬ PLN (sNs tT) v2 ∨ v3.toInt < 0 ∨ 15 < v3.toInt) ∧ r1 = -1 ∧ ecZ = ec ∧ erZ = er ∧ edZ = ed) ∨ ∃ k_ d_ : Nat, PLN (sNs tT) v2 ∧ v0 = nI k_ ∧ v1 = nI d_ ∧ k_ ≤ 3 ∧ d_ ≤ 2 ∧ (0 ≤ v3.toInt ∧ v3.toInt ≤ 15) ∧ (∀ i, i < 4 → ecZ i = if i = k_ then (if d_ = 0 then 1 else 2) else ec i) ∧ (∀ i, i < 4 → erZ i = if i = k_ then 0 else er i) ∧ (∀ i, i < 4 → i ≠ k_ → edZ i = ed i) ∧ ((d_ = 0 ∧ SAx 4 (edZ k_)) ∨ (d_ ≠ 0 ∧ SPx v3 4 (edZ k_))) ∧ r1 = nI (if d_ = 0 then 1 else 2)) (hm : ((v0.toInt < 0 ∨ 3 < v0.toInt ∨ v1.toInt < 0 ∨ 2 < v1.toInt ∨ ¬ PLN (tRr f_tokens f_afters) v2 ∨ v3.toInt < 0 ∨ 15 < v3.toInt) ∧ r2 = -1 ∧ f_caseManyZ = f_caseMany ∧ f_happenZ = f_happen ∧ f_heardZ = f_heard) ∨ ∃ k_ d_ : Nat, PLN (tRr f_tokens f_afters) v2 ∧ v0 = nI k_ ∧ v1 = nI d_ ∧ k_ ≤ 3 ∧ d_ ≤ 2 ∧ (0 ≤ v3.toInt ∧ v3.toInt ≤ 15) ∧ upd f_caseMany k_ (nI (if d_ = 0 then 1 else 2)) = f_caseManyZ ∧ upd f_happen k_ (nI 0) = f_happenZ ∧ WX k_ d_ v3 4 f_heard f_heardZ ∧ r2 = nI (if d_ = 0 then 1 else 2)) (hR : RL_ tl ct pe kn st sn sl scx tT ec er ed q_taped cr q_people f_secrets f_lanes f_lengths f_cells f_tokens f_afters f_caseMany f_happen f_heard) (hb : tl ≤ 160 ∧ q_taped ≤ 160 ∧ pe ≤ 4) : r1 = r2 := by
  have hq := hR.2.2.2.2.2.2.1
  have hp : PLN (sNs tT) v2 ↔ PLN (tRr f_tokens f_afters) v2 := TLQ.pln hR.2.2.2.2.2.2.2
  rcases hx with ⟨a1, a2, a3⟩ | ⟨k1, d1, a1, a2, a3, a4, a5, a6, a7, a8, a9, aa, ab⟩
  · rcases hm with ⟨b1, b2, b3⟩ | ⟨k2, d2, b1, b2, b3, b4, b5, b6, b7, b8, b9, ba⟩
    · rw [a2, b2]
    · exfalso
      rw [b2, b3, nI_toInt (by omega), nI_toInt (by omega)] at a1
      rcases a1 with q | q | q | q | q | q
      · omega
      · omega
      · omega
      · omega
      · exact q (hp.mpr b1)
      · omega
  · rcases hm with ⟨b1, b2, b3⟩ | ⟨k2, d2, b1, b2, b3, b4, b5, b6, b7, b8, b9, ba⟩
    · exfalso
      rw [a2, a3, nI_toInt (by omega), nI_toInt (by omega)] at b1
      rcases b1 with q | q | q | q | q | q
      · omega
      · omega
      · omega
      · omega
      · exact q (hp.mp a1)
      · omega
    · have e1 := (nI_eq (by omega) (by omega)).mp (a2.symm.trans b2)
      have e2 := (nI_eq (by omega) (by omega)).mp (a3.symm.trans b3)
      subst e1; subst e2
      rw [ab, ba]
theorem re_word {v0 v1 v2 v3 r1 r2 : Int32} {tl : Nat} {ct : Nat → Int} {pe : Nat} {kn : Int32} {st : Nat → Nat} {sn : Nat → Nat} {sl : Nat → Nat} {scx : Nat → Nat → Int32} {tT : Nat → Option SVal} {ec : Nat → Nat} {er : Nat → Nat} {ed : Nat → Nat → Int32} {q_taped : Nat} {cr : Nat → Int} {q_people : Nat} {f_secrets : Nat → Int32} {f_lanes : Nat → Int32} {f_lengths : Nat → Int32} {f_cells : Nat → Int32} {f_tokens : Nat → Int32} {f_afters : Nat → Int32} {f_caseMany : Nat → Int32} {f_happen : Nat → Int32} {f_heard : Nat → Int32} {ecZ : Nat → Nat} {erZ : Nat → Nat} {edZ : Nat → Nat → Int32} {f_caseManyZ : Nat → Int32} {f_happenZ : Nat → Int32} {f_heardZ : Nat → Int32} (hx : ((v0.toInt < 0 ∨ 3 < v0.toInt ∨ v1.toInt < 0 ∨ 2 < v1.toInt ∨ ¬ PLN (sNs tT) v2 ∨ v3.toInt < 0 ∨ 15 < v3.toInt) ∧ r1 = -1 ∧ ecZ = ec ∧ erZ = er ∧ edZ = ed) ∨ ∃ k_ d_ : Nat, PLN (sNs tT) v2 ∧ v0 = nI k_ ∧ v1 = nI d_ ∧ k_ ≤ 3 ∧ d_ ≤ 2 ∧ (0 ≤ v3.toInt ∧ v3.toInt ≤ 15) ∧ (∀ i, i < 4 → ecZ i = if i = k_ then (if d_ = 0 then 1 else 2) else ec i) ∧ (∀ i, i < 4 → erZ i = if i = k_ then 0 else er i) ∧ (∀ i, i < 4 → i ≠ k_ → edZ i = ed i) ∧ ((d_ = 0 ∧ SAx 4 (edZ k_)) ∨ (d_ ≠ 0 ∧ SPx v3 4 (edZ k_))) ∧ r1 = nI (if d_ = 0 then 1 else 2)) (hm : ((v0.toInt < 0 ∨ 3 < v0.toInt ∨ v1.toInt < 0 ∨ 2 < v1.toInt ∨ ¬ PLN (tRr f_tokens f_afters) v2 ∨ v3.toInt < 0 ∨ 15 < v3.toInt) ∧ r2 = -1 ∧ f_caseManyZ = f_caseMany ∧ f_happenZ = f_happen ∧ f_heardZ = f_heard) ∨ ∃ k_ d_ : Nat, PLN (tRr f_tokens f_afters) v2 ∧ v0 = nI k_ ∧ v1 = nI d_ ∧ k_ ≤ 3 ∧ d_ ≤ 2 ∧ (0 ≤ v3.toInt ∧ v3.toInt ≤ 15) ∧ upd f_caseMany k_ (nI (if d_ = 0 then 1 else 2)) = f_caseManyZ ∧ upd f_happen k_ (nI 0) = f_happenZ ∧ WX k_ d_ v3 4 f_heard f_heardZ ∧ r2 = nI (if d_ = 0 then 1 else 2)) (hR : RL_ tl ct pe kn st sn sl scx tT ec er ed q_taped cr q_people f_secrets f_lanes f_lengths f_cells f_tokens f_afters f_caseMany f_happen f_heard) (hb : tl ≤ 160 ∧ q_taped ≤ 160 ∧ pe ≤ 4) : EVQ ecZ erZ edZ f_caseManyZ f_happenZ f_heardZ := by
  have hq := hR.2.2.2.2.2.2.1
  have hp : PLN (sNs tT) v2 ↔ PLN (tRr f_tokens f_afters) v2 := TLQ.pln hR.2.2.2.2.2.2.2
  rcases hx with ⟨a1, a2, a3⟩ | ⟨k1, d1, a1, a2, a3, a4, a5, a6, a7, a8, a9, aa, ab⟩
  · rcases hm with ⟨b1, b2, b3⟩ | ⟨k2, d2, b1, b2, b3, b4, b5, b6, b7, b8, b9, ba⟩
    · rw [a3.1, a3.2.1, a3.2.2, b3.1, b3.2.1, b3.2.2]; exact hq
    · exfalso
      rw [b2, b3, nI_toInt (by omega), nI_toInt (by omega)] at a1
      rcases a1 with q | q | q | q | q | q
      · omega
      · omega
      · omega
      · omega
      · exact q (hp.mpr b1)
      · omega
  · rcases hm with ⟨b1, b2, b3⟩ | ⟨k2, d2, b1, b2, b3, b4, b5, b6, b7, b8, b9, ba⟩
    · exfalso
      rw [a2, a3, nI_toInt (by omega), nI_toInt (by omega)] at b1
      rcases b1 with q | q | q | q | q | q
      · omega
      · omega
      · omega
      · omega
      · exact q (hp.mp a1)
      · omega
    · have e1 := (nI_eq (by omega) (by omega)).mp (a2.symm.trans b2)
      have e2 := (nI_eq (by omega) (by omega)).mp (a3.symm.trans b3)
      subst e1; subst e2
      exact EVQ.put hq a4 (by split <;> omega) a7 a8 a9 (EVQ.wd aa b9) b7 b8 b9.2
theorem eq_sheet {v0 v1 v2 r1 r2 : Int32} {tl : Nat} {ct : Nat → Int} {pe : Nat} {kn : Int32} {st : Nat → Nat} {sn : Nat → Nat} {sl : Nat → Nat} {scx : Nat → Nat → Int32} {tT : Nat → Option SVal} {ec : Nat → Nat} {er : Nat → Nat} {ed : Nat → Nat → Int32} {q_taped : Nat} {cr : Nat → Int} {q_people : Nat} {f_secrets : Nat → Int32} {f_lanes : Nat → Int32} {f_lengths : Nat → Int32} {f_cells : Nat → Int32} {f_tokens : Nat → Int32} {f_afters : Nat → Int32} {f_caseMany : Nat → Int32} {f_happen : Nat → Int32} {f_heard : Nat → Int32} {stZ : Nat → Nat} {snZ : Nat → Nat} {slZ : Nat → Nat} {scxZ : Nat → Nat → Int32} {f_lanesZ : Nat → Int32} {f_lengthsZ : Nat → Int32} {f_cellsZ : Nat → Int32} (hx : ((v0.toInt < 0 ∨ 3 < v0.toInt ∨ v1.toInt < 0 ∨ 2 < v1.toInt ∨ 48 < v2.toInt) ∧ r1 = -1 ∧ stZ = st ∧ snZ = sn ∧ slZ = sl ∧ scxZ = scx) ∨ ((0 ≤ v0.toInt ∧ v0.toInt ≤ 3 ∧ 0 ≤ v1.toInt ∧ v1.toInt ≤ 2 ∧ v2.toInt < 0) ∧ r1 = -14 ∧ stZ = st ∧ snZ = sn ∧ slZ = sl ∧ scxZ = scx) ∨ ∃ k_ l_ n_ : Nat, v0 = nI k_ ∧ v1 = nI l_ ∧ v2 = nI n_ ∧ k_ ≤ 3 ∧ l_ ≤ 2 ∧ n_ ≤ 48 ∧ (∀ i, i < 4 → stZ i = if i = k_ then 1 else st i) ∧ (∀ i, i < 4 → snZ i = if i = k_ then n_ else sn i) ∧ (∀ i, i < 4 → slZ i = if i = k_ then l_ else sl i) ∧ (∀ i, i < 4 → i ≠ k_ → scxZ i = scx i) ∧ Z0x n_ (scxZ k_) ∧ r1 = 1) (hm : ((v0.toInt < 0 ∨ 3 < v0.toInt ∨ v1.toInt < 0 ∨ 2 < v1.toInt ∨ 48 < v2.toInt) ∧ r2 = -1 ∧ f_lanesZ = f_lanes ∧ f_lengthsZ = f_lengths ∧ f_cellsZ = f_cells) ∨ ((0 ≤ v0.toInt ∧ v0.toInt ≤ 3 ∧ 0 ≤ v1.toInt ∧ v1.toInt ≤ 2 ∧ v2.toInt < 0) ∧ r2 = -14 ∧ f_lanesZ = f_lanes ∧ f_lengthsZ = f_lengths ∧ f_cellsZ = f_cells) ∨ ∃ k_ l_ n_ : Nat, v0 = nI k_ ∧ v1 = nI l_ ∧ v2 = nI n_ ∧ k_ ≤ 3 ∧ l_ ≤ 2 ∧ n_ ≤ 48 ∧ upd f_lanes k_ (nI l_) = f_lanesZ ∧ upd f_lengths k_ (nI n_) = f_lengthsZ ∧ CZR k_ 48 f_cells f_cellsZ ∧ r2 = 1) (hR : RL_ tl ct pe kn st sn sl scx tT ec er ed q_taped cr q_people f_secrets f_lanes f_lengths f_cells f_tokens f_afters f_caseMany f_happen f_heard) (hb : tl ≤ 160 ∧ q_taped ≤ 160 ∧ pe ≤ 4) : r1 = r2 := by
  rcases hx with ⟨a1, a2, a3⟩ | ⟨a1, a2, a3⟩ | ⟨k1, l1, n1, a1, a2, a3, a4, a5, a6, a7, a8, a9, ac, az, a0⟩
  · rcases hm with ⟨b1, b2, b3⟩ | ⟨b1, b2, b3⟩ | ⟨k2, l2, n2, b1, b2, b3, b4, b5, b6, b7, b8, b9, b0⟩
    · rw [a2, b2]
    · exfalso; omega
    · exfalso; rw [b1, b2, b3, nI_toInt (by omega), nI_toInt (by omega), nI_toInt (by omega)] at a1; omega
  · rcases hm with ⟨b1, b2, b3⟩ | ⟨b1, b2, b3⟩ | ⟨k2, l2, n2, b1, b2, b3, b4, b5, b6, b7, b8, b9, b0⟩
    · exfalso; omega
    · rw [a2, b2]
    · exfalso; rw [b1, b2, b3, nI_toInt (by omega), nI_toInt (by omega), nI_toInt (by omega)] at a1; omega
  · rcases hm with ⟨b1, b2, b3⟩ | ⟨b1, b2, b3⟩ | ⟨k2, l2, n2, b1, b2, b3, b4, b5, b6, b7, b8, b9, b0⟩
    · exfalso; rw [a1, a2, a3, nI_toInt (by omega), nI_toInt (by omega), nI_toInt (by omega)] at b1; omega
    · exfalso; rw [a1, a2, a3, nI_toInt (by omega), nI_toInt (by omega), nI_toInt (by omega)] at b1; omega
    · rw [a0, b0]
theorem re_sheet {v0 v1 v2 r1 r2 : Int32} {tl : Nat} {ct : Nat → Int} {pe : Nat} {kn : Int32} {st : Nat → Nat} {sn : Nat → Nat} {sl : Nat → Nat} {scx : Nat → Nat → Int32} {tT : Nat → Option SVal} {ec : Nat → Nat} {er : Nat → Nat} {ed : Nat → Nat → Int32} {q_taped : Nat} {cr : Nat → Int} {q_people : Nat} {f_secrets : Nat → Int32} {f_lanes : Nat → Int32} {f_lengths : Nat → Int32} {f_cells : Nat → Int32} {f_tokens : Nat → Int32} {f_afters : Nat → Int32} {f_caseMany : Nat → Int32} {f_happen : Nat → Int32} {f_heard : Nat → Int32} {stZ : Nat → Nat} {snZ : Nat → Nat} {slZ : Nat → Nat} {scxZ : Nat → Nat → Int32} {f_lanesZ : Nat → Int32} {f_lengthsZ : Nat → Int32} {f_cellsZ : Nat → Int32} (hx : ((v0.toInt < 0 ∨ 3 < v0.toInt ∨ v1.toInt < 0 ∨ 2 < v1.toInt ∨ 48 < v2.toInt) ∧ r1 = -1 ∧ stZ = st ∧ snZ = sn ∧ slZ = sl ∧ scxZ = scx) ∨ ((0 ≤ v0.toInt ∧ v0.toInt ≤ 3 ∧ 0 ≤ v1.toInt ∧ v1.toInt ≤ 2 ∧ v2.toInt < 0) ∧ r1 = -14 ∧ stZ = st ∧ snZ = sn ∧ slZ = sl ∧ scxZ = scx) ∨ ∃ k_ l_ n_ : Nat, v0 = nI k_ ∧ v1 = nI l_ ∧ v2 = nI n_ ∧ k_ ≤ 3 ∧ l_ ≤ 2 ∧ n_ ≤ 48 ∧ (∀ i, i < 4 → stZ i = if i = k_ then 1 else st i) ∧ (∀ i, i < 4 → snZ i = if i = k_ then n_ else sn i) ∧ (∀ i, i < 4 → slZ i = if i = k_ then l_ else sl i) ∧ (∀ i, i < 4 → i ≠ k_ → scxZ i = scx i) ∧ Z0x n_ (scxZ k_) ∧ r1 = 1) (hm : ((v0.toInt < 0 ∨ 3 < v0.toInt ∨ v1.toInt < 0 ∨ 2 < v1.toInt ∨ 48 < v2.toInt) ∧ r2 = -1 ∧ f_lanesZ = f_lanes ∧ f_lengthsZ = f_lengths ∧ f_cellsZ = f_cells) ∨ ((0 ≤ v0.toInt ∧ v0.toInt ≤ 3 ∧ 0 ≤ v1.toInt ∧ v1.toInt ≤ 2 ∧ v2.toInt < 0) ∧ r2 = -14 ∧ f_lanesZ = f_lanes ∧ f_lengthsZ = f_lengths ∧ f_cellsZ = f_cells) ∨ ∃ k_ l_ n_ : Nat, v0 = nI k_ ∧ v1 = nI l_ ∧ v2 = nI n_ ∧ k_ ≤ 3 ∧ l_ ≤ 2 ∧ n_ ≤ 48 ∧ upd f_lanes k_ (nI l_) = f_lanesZ ∧ upd f_lengths k_ (nI n_) = f_lengthsZ ∧ CZR k_ 48 f_cells f_cellsZ ∧ r2 = 1) (hR : RL_ tl ct pe kn st sn sl scx tT ec er ed q_taped cr q_people f_secrets f_lanes f_lengths f_cells f_tokens f_afters f_caseMany f_happen f_heard) (hb : tl ≤ 160 ∧ q_taped ≤ 160 ∧ pe ≤ 4) : SHE stZ snZ slZ f_lanesZ f_lengthsZ ∧ CEL stZ snZ scxZ f_cellsZ := by
  rcases hx with ⟨a1, a2, a3⟩ | ⟨a1, a2, a3⟩ | ⟨k1, l1, n1, a1, a2, a3, a4, a5, a6, a7, a8, a9, ac, az, a0⟩
  · rcases hm with ⟨b1, b2, b3⟩ | ⟨b1, b2, b3⟩ | ⟨k2, l2, n2, b1, b2, b3, b4, b5, b6, b7, b8, b9, b0⟩
    · rw [a3.1, a3.2.1, a3.2.2.1, a3.2.2.2, b3.1, b3.2.1, b3.2.2]; exact ⟨hR.2.2.2.2.1, hR.2.2.2.2.2.1⟩
    · exfalso; omega
    · exfalso; rw [b1, b2, b3, nI_toInt (by omega), nI_toInt (by omega), nI_toInt (by omega)] at a1; omega
  · rcases hm with ⟨b1, b2, b3⟩ | ⟨b1, b2, b3⟩ | ⟨k2, l2, n2, b1, b2, b3, b4, b5, b6, b7, b8, b9, b0⟩
    · exfalso; omega
    · rw [a3.1, a3.2.1, a3.2.2.1, a3.2.2.2, b3.1, b3.2.1, b3.2.2]; exact ⟨hR.2.2.2.2.1, hR.2.2.2.2.2.1⟩
    · exfalso; rw [b1, b2, b3, nI_toInt (by omega), nI_toInt (by omega), nI_toInt (by omega)] at a1; omega
  · rcases hm with ⟨b1, b2, b3⟩ | ⟨b1, b2, b3⟩ | ⟨k2, l2, n2, b1, b2, b3, b4, b5, b6, b7, b8, b9, b0⟩
    · exfalso; rw [a1, a2, a3, nI_toInt (by omega), nI_toInt (by omega), nI_toInt (by omega)] at b1; omega
    · exfalso; rw [a1, a2, a3, nI_toInt (by omega), nI_toInt (by omega), nI_toInt (by omega)] at b1; omega
    · have e1 := (nI_eq (by omega) (by omega)).mp (a1.symm.trans b1)
      have e2 := (nI_eq (by omega) (by omega)).mp (a2.symm.trans b2)
      have e3 := (nI_eq (by omega) (by omega)).mp (a3.symm.trans b3)
      subst e1; subst e2; subst e3
      exact ⟨SHE.put hR.2.2.2.2.1 a5 a6 a7 a8 a9 b7 b8, CEL.sheet hR.2.2.2.2.2.1 hR.2.2.2.2.1 a6 a7 a8 ac az b9⟩
theorem eq_write {v0 v1 v2 r1 r2 : Int32} {tl : Nat} {ct : Nat → Int} {pe : Nat} {kn : Int32} {st : Nat → Nat} {sn : Nat → Nat} {sl : Nat → Nat} {scx : Nat → Nat → Int32} {tT : Nat → Option SVal} {ec : Nat → Nat} {er : Nat → Nat} {ed : Nat → Nat → Int32} {q_taped : Nat} {cr : Nat → Int} {q_people : Nat} {f_secrets : Nat → Int32} {f_lanes : Nat → Int32} {f_lengths : Nat → Int32} {f_cells : Nat → Int32} {f_tokens : Nat → Int32} {f_afters : Nat → Int32} {f_caseMany : Nat → Int32} {f_happen : Nat → Int32} {f_heard : Nat → Int32} {scxZ : Nat → Nat → Int32} {f_cellsZ : Nat → Int32} (hx : ((v0.toInt < 0 ∨ 3 < v0.toInt) ∧ r1 = -1 ∧ scxZ = scx) ∨ ∃ k_ : Nat, v0 = nI k_ ∧ k_ ≤ 3 ∧ ((st k_ = 0 ∧ r1 = -11 ∧ scxZ = scx) ∨ (st k_ = 1 ∧ (v1.toInt < 0 ∨ ((sn k_ : Nat) : Int) ≤ v1.toInt) ∧ r1 = -12 ∧ scxZ = scx) ∨ (st k_ = 1 ∧ (0 ≤ v1.toInt ∧ v1.toInt < ((sn k_ : Nat) : Int)) ∧ r1 = 1 ∧ ∃ i_ : Nat, v1 = nI i_ ∧ i_ < 48 ∧ (∀ i, i < 4 → i ≠ k_ → scxZ i = scx i) ∧ upd (scx k_) i_ (putv (sl k_) v2) = scxZ k_))) (hm : ((v0.toInt < 0 ∨ 3 < v0.toInt) ∧ r2 = -1 ∧ f_cellsZ = f_cells) ∨ ∃ k_ : Nat, v0 = nI k_ ∧ k_ ≤ 3 ∧ ((f_lanes k_ = -4 ∧ r2 = -11 ∧ f_cellsZ = f_cells) ∨ (f_lanes k_ ≠ -4 ∧ (v1.toInt < 0 ∨ ((cN f_lengths k_ : Nat) : Int) ≤ v1.toInt) ∧ r2 = -12 ∧ f_cellsZ = f_cells) ∨ (f_lanes k_ ≠ -4 ∧ (0 ≤ v1.toInt ∧ v1.toInt < ((cN f_lengths k_ : Nat) : Int)) ∧ r2 = 1 ∧ ∃ i_ : Nat, v1 = nI i_ ∧ i_ < 48 ∧ upd f_cells (48 * k_ + i_) (putw (f_lanes k_) v2) = f_cellsZ))) (hR : RL_ tl ct pe kn st sn sl scx tT ec er ed q_taped cr q_people f_secrets f_lanes f_lengths f_cells f_tokens f_afters f_caseMany f_happen f_heard) (hb : tl ≤ 160 ∧ q_taped ≤ 160 ∧ pe ≤ 4) : r1 = r2 := by
  rcases hx with ⟨a1, a2, a4⟩ | ⟨k1, a1, a2, a3⟩
  · rcases hm with ⟨b1, b2, b4⟩ | ⟨k2, b1, b2, b3⟩
    · rw [a2, b2]
    · exfalso; rw [b1, nI_toInt (by omega)] at a1; omega
  · rcases hm with ⟨b1, b2, b4⟩ | ⟨k2, b1, b2, b3⟩
    · exfalso; rw [a1, nI_toInt (by omega)] at b1; omega
    · have e1 := (nI_eq (by omega) (by omega)).mp (a1.symm.trans b1)
      subst e1
      have hl := SHE.len hR.2.2.2.2.1 (k := k1) (by omega)
      have hn := SHE.no hR.2.2.2.2.1 (k := k1) (by omega)
      rw [hl] at b3
      rcases a3 with ⟨p1, p2, p4⟩ | ⟨p1, p2, p3, p4⟩ | ⟨p1, p2, p3, p4⟩
      · rcases b3 with ⟨q1, q2, q4⟩ | ⟨q1, q2, q3, q4⟩ | ⟨q1, q2, q3, q4⟩
        · rw [p2, q2]
        · exfalso; rcases hn with ⟨h1, h2⟩ | ⟨h1, h2⟩ <;> first | exact q1 h2 | omega
        · exfalso; rcases hn with ⟨h1, h2⟩ | ⟨h1, h2⟩ <;> first | exact q1 h2 | omega
      · rcases b3 with ⟨q1, q2, q4⟩ | ⟨q1, q2, q3, q4⟩ | ⟨q1, q2, q3, q4⟩
        · exfalso; rcases hn with ⟨h1, h2⟩ | ⟨h1, h2⟩ <;> first | exact h2 q1 | omega
        · rw [p3, q3]
        · exfalso; omega
      · rcases b3 with ⟨q1, q2, q4⟩ | ⟨q1, q2, q3, q4⟩ | ⟨q1, q2, q3, q4⟩
        · exfalso; rcases hn with ⟨h1, h2⟩ | ⟨h1, h2⟩ <;> first | exact h2 q1 | omega
        · exfalso; omega
        · rw [p3, q3]
theorem re_write {v0 v1 v2 r1 r2 : Int32} {tl : Nat} {ct : Nat → Int} {pe : Nat} {kn : Int32} {st : Nat → Nat} {sn : Nat → Nat} {sl : Nat → Nat} {scx : Nat → Nat → Int32} {tT : Nat → Option SVal} {ec : Nat → Nat} {er : Nat → Nat} {ed : Nat → Nat → Int32} {q_taped : Nat} {cr : Nat → Int} {q_people : Nat} {f_secrets : Nat → Int32} {f_lanes : Nat → Int32} {f_lengths : Nat → Int32} {f_cells : Nat → Int32} {f_tokens : Nat → Int32} {f_afters : Nat → Int32} {f_caseMany : Nat → Int32} {f_happen : Nat → Int32} {f_heard : Nat → Int32} {scxZ : Nat → Nat → Int32} {f_cellsZ : Nat → Int32} (hx : ((v0.toInt < 0 ∨ 3 < v0.toInt) ∧ r1 = -1 ∧ scxZ = scx) ∨ ∃ k_ : Nat, v0 = nI k_ ∧ k_ ≤ 3 ∧ ((st k_ = 0 ∧ r1 = -11 ∧ scxZ = scx) ∨ (st k_ = 1 ∧ (v1.toInt < 0 ∨ ((sn k_ : Nat) : Int) ≤ v1.toInt) ∧ r1 = -12 ∧ scxZ = scx) ∨ (st k_ = 1 ∧ (0 ≤ v1.toInt ∧ v1.toInt < ((sn k_ : Nat) : Int)) ∧ r1 = 1 ∧ ∃ i_ : Nat, v1 = nI i_ ∧ i_ < 48 ∧ (∀ i, i < 4 → i ≠ k_ → scxZ i = scx i) ∧ upd (scx k_) i_ (putv (sl k_) v2) = scxZ k_))) (hm : ((v0.toInt < 0 ∨ 3 < v0.toInt) ∧ r2 = -1 ∧ f_cellsZ = f_cells) ∨ ∃ k_ : Nat, v0 = nI k_ ∧ k_ ≤ 3 ∧ ((f_lanes k_ = -4 ∧ r2 = -11 ∧ f_cellsZ = f_cells) ∨ (f_lanes k_ ≠ -4 ∧ (v1.toInt < 0 ∨ ((cN f_lengths k_ : Nat) : Int) ≤ v1.toInt) ∧ r2 = -12 ∧ f_cellsZ = f_cells) ∨ (f_lanes k_ ≠ -4 ∧ (0 ≤ v1.toInt ∧ v1.toInt < ((cN f_lengths k_ : Nat) : Int)) ∧ r2 = 1 ∧ ∃ i_ : Nat, v1 = nI i_ ∧ i_ < 48 ∧ upd f_cells (48 * k_ + i_) (putw (f_lanes k_) v2) = f_cellsZ))) (hR : RL_ tl ct pe kn st sn sl scx tT ec er ed q_taped cr q_people f_secrets f_lanes f_lengths f_cells f_tokens f_afters f_caseMany f_happen f_heard) (hb : tl ≤ 160 ∧ q_taped ≤ 160 ∧ pe ≤ 4) : CEL st sn scxZ f_cellsZ := by
  rcases hx with ⟨a1, a2, a4⟩ | ⟨k1, a1, a2, a3⟩
  · rcases hm with ⟨b1, b2, b4⟩ | ⟨k2, b1, b2, b3⟩
    · rw [a4, b4]; exact hR.2.2.2.2.2.1
    · exfalso; rw [b1, nI_toInt (by omega)] at a1; omega
  · rcases hm with ⟨b1, b2, b4⟩ | ⟨k2, b1, b2, b3⟩
    · exfalso; rw [a1, nI_toInt (by omega)] at b1; omega
    · have e1 := (nI_eq (by omega) (by omega)).mp (a1.symm.trans b1)
      subst e1
      have hl := SHE.len hR.2.2.2.2.1 (k := k1) (by omega)
      have hn := SHE.no hR.2.2.2.2.1 (k := k1) (by omega)
      rw [hl] at b3
      rcases a3 with ⟨p1, p2, p4⟩ | ⟨p1, p2, p3, p4⟩ | ⟨p1, p2, p3, p4⟩
      · rcases b3 with ⟨q1, q2, q4⟩ | ⟨q1, q2, q3, q4⟩ | ⟨q1, q2, q3, q4⟩
        · rw [p4, q4]; exact hR.2.2.2.2.2.1
        · exfalso; rcases hn with ⟨h1, h2⟩ | ⟨h1, h2⟩ <;> first | exact q1 h2 | omega
        · exfalso; rcases hn with ⟨h1, h2⟩ | ⟨h1, h2⟩ <;> first | exact q1 h2 | omega
      · rcases b3 with ⟨q1, q2, q4⟩ | ⟨q1, q2, q3, q4⟩ | ⟨q1, q2, q3, q4⟩
        · exfalso; rcases hn with ⟨h1, h2⟩ | ⟨h1, h2⟩ <;> first | exact h2 q1 | omega
        · rw [p4, q4]; exact hR.2.2.2.2.2.1
        · exfalso; omega
      · rcases b3 with ⟨q1, q2, q4⟩ | ⟨q1, q2, q3, q4⟩ | ⟨q1, q2, q3, q4⟩
        · exfalso; rcases hn with ⟨h1, h2⟩ | ⟨h1, h2⟩ <;> first | exact h2 q1 | omega
        · exfalso; omega
        · obtain ⟨i1, c1, c2, c3, c4⟩ := p4
          obtain ⟨i2, d1, d2, d4⟩ := q4
          have e2 := (nI_eq (by omega) (by omega)).mp (c1.symm.trans d1)
          subst e2
          exact CEL.write hR.2.2.2.2.2.1 hR.2.2.2.2.1 (by omega) p1 c2 c3 c4 d4
theorem eq_read {v0 v1 v2 v3 r1 r2 : Int32} {tl : Nat} {ct : Nat → Int} {pe : Nat} {kn : Int32} {st : Nat → Nat} {sn : Nat → Nat} {sl : Nat → Nat} {scx : Nat → Nat → Int32} {tT : Nat → Option SVal} {ec : Nat → Nat} {er : Nat → Nat} {ed : Nat → Nat → Int32} {q_taped : Nat} {cr : Nat → Int} {q_people : Nat} {f_secrets : Nat → Int32} {f_lanes : Nat → Int32} {f_lengths : Nat → Int32} {f_cells : Nat → Int32} {f_tokens : Nat → Int32} {f_afters : Nat → Int32} {f_caseMany : Nat → Int32} {f_happen : Nat → Int32} {f_heard : Nat → Int32} (hx : ((v0.toInt < 0 ∨ 3 < v0.toInt ∨ v1.toInt < 0 ∨ 2 < v1.toInt ∨ v3.toInt < 0 ∨ 24 < v3.toInt) ∧ r1 = -1) ∨ ∃ k_ l_ n_ : Nat, v0 = nI k_ ∧ v1 = nI l_ ∧ v3 = nI n_ ∧ k_ ≤ 3 ∧ l_ ≤ 2 ∧ n_ ≤ 24 ∧ r1 = rdA (st k_) (sl k_) (sn k_) (scx k_) l_ v2 n_) (hm : ((v0.toInt < 0 ∨ 3 < v0.toInt ∨ v1.toInt < 0 ∨ 2 < v1.toInt ∨ v3.toInt < 0 ∨ 24 < v3.toInt) ∧ r2 = -1) ∨ ∃ k_ l_ n_ : Nat, v0 = nI k_ ∧ v1 = nI l_ ∧ v3 = nI n_ ∧ k_ ≤ 3 ∧ l_ ≤ 2 ∧ n_ ≤ 24 ∧ r2 = rdB (f_lanes k_) (cN f_lengths k_) (fun j => f_cells (48 * k_ + j)) l_ v2 n_) (hR : RL_ tl ct pe kn st sn sl scx tT ec er ed q_taped cr q_people f_secrets f_lanes f_lengths f_cells f_tokens f_afters f_caseMany f_happen f_heard) (hb : tl ≤ 160 ∧ q_taped ≤ 160 ∧ pe ≤ 4) : r1 = r2 := by
  rcases hx with ⟨a1, a2⟩ | ⟨k1, l1, n1, a1, a2, a3, a4, a5, a6, a7⟩
  · rcases hm with ⟨b1, b2⟩ | ⟨k2, l2, n2, b1, b2, b3, b4, b5, b6, b7⟩
    · rw [a2, b2]
    · exfalso; rw [b1, b2, b3, nI_toInt (by omega), nI_toInt (by omega), nI_toInt (by omega)] at a1; omega
  · rcases hm with ⟨b1, b2⟩ | ⟨k2, l2, n2, b1, b2, b3, b4, b5, b6, b7⟩
    · exfalso; rw [a1, a2, a3, nI_toInt (by omega), nI_toInt (by omega), nI_toInt (by omega)] at b1; omega
    · have e1 := (nI_eq (by omega) (by omega)).mp (a1.symm.trans b1)
      have e2 := (nI_eq (by omega) (by omega)).mp (a2.symm.trans b2)
      have e3 := (nI_eq (by omega) (by omega)).mp (a3.symm.trans b3)
      subst e1; subst e2; subst e3
      rw [a7, b7]
      exact rd_eq hR.2.2.2.2.1 hR.2.2.2.2.2.1 (by omega) a5
