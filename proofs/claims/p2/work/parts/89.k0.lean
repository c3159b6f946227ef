/-! secrets: bits -/
theorem b_15 : ∀ i, i < 32 → bt 15 i = decide (i < 4) := by decide +kernel
theorem sc_b {kn : Int32} {i b : Nat} (hi : i < 4) (hb : b < 32) : bt (sc kn i) b = (decide (b < 4) && bt kn (4 * i + b)) := by
  unfold sc
  rw [b_and, b_sshr (4 * i) (by omega) kn hb, b_15 b hb]
  by_cases h : b < 4
  · rw [if_pos (by omega), decide_eq_true h, Bool.and_true, Bool.true_and]
  · rw [decide_eq_false h, Bool.and_false, Bool.false_and]
theorem cl_b {kn : Int32} {i j b : Nat} (hi : i < 4) (hj : j < 4) (hb : b < 32) : bt (cl kn i j) b = (bt kn b || (decide (4 * i ≤ b) && bt (sc kn i ||| sc kn j) (b - 4 * i)) || (decide (4 * j ≤ b) && bt (sc kn i ||| sc kn j) (b - 4 * j))) := by
  unfold cl
  rw [b_or, b_or, b_shl (4 * i) (by omega) _ hb, b_shl (4 * j) (by omega) _ hb]
theorem y_b {kn : Int32} {i j c : Nat} (hi : i < 4) (hj : j < 4) (hc : c < 32) : bt (sc kn i ||| sc kn j) c = (decide (c < 4) && (bt kn (4 * i + c) || bt kn (4 * j + c))) := by
  rw [b_or, sc_b hi hc, sc_b hj hc, Bool.and_or_distrib_left]
theorem sh_b {kn : Int32} {i j k m b : Nat} (hi : i < 4) (hj : j < 4) (hk : k < 4) (hm : m < 4) (hb : b < 4) : (decide (4 * k ≤ 4 * m + b) && bt (sc kn i ||| sc kn j) (4 * m + b - 4 * k)) = (decide (m = k) && (bt kn (4 * i + b) || bt kn (4 * j + b))) := by
  by_cases h : m = k
  · subst h
    rw [decide_eq_true (show 4 * m ≤ 4 * m + b by omega), show 4 * m + b - 4 * m = b by omega, y_b hi hj (by omega), decide_eq_true hb, decide_eq_true rfl, Bool.true_and]
  · rw [decide_eq_false h, Bool.false_and]
    by_cases h2 : 4 * k ≤ 4 * m + b
    · rw [y_b hi hj (by omega), decide_eq_false (show ¬ 4 * m + b - 4 * k < 4 by omega), Bool.false_and, Bool.and_false]
    · rw [decide_eq_false h2, Bool.false_and]
theorem sc_cl {kn : Int32} {i j m : Nat} (hi : i < 4) (hj : j < 4) (hm : m < 4) : sc (cl kn i j) m = if m = i ∨ m = j then sc kn i ||| sc kn j else sc kn m := by
  apply b_ext
  intro b hb
  rw [sc_b hm hb]
  by_cases h4 : b < 4
  · rw [decide_eq_true h4, Bool.true_and, cl_b hi hj (by omega), sh_b hi hj hi hm h4, sh_b hi hj hj hm h4]
    by_cases hmi : m = i
    · subst hmi
      rw [if_pos (Or.inl rfl), y_b hm hj hb, decide_eq_true h4, decide_eq_true rfl, Bool.true_and]
      cases bt kn (4 * m + b) <;> cases bt kn (4 * j + b) <;> cases decide (m = j) <;> rfl
    · rw [decide_eq_false hmi, Bool.false_and, Bool.or_false]
      by_cases hmj : m = j
      · subst hmj
        rw [if_pos (Or.inr rfl), y_b hi hm hb, decide_eq_true h4, decide_eq_true rfl, Bool.true_and]
        cases bt kn (4 * m + b) <;> cases bt kn (4 * i + b) <;> rfl
      · rw [decide_eq_false hmj, Bool.false_and, Bool.or_false, if_neg (by omega), sc_b hm hb, decide_eq_true h4, Bool.true_and]
  · rw [decide_eq_false h4, Bool.false_and]
    split
    · rw [y_b hi hj hb, decide_eq_false h4, Bool.false_and]
    · rw [sc_b hm hb, decide_eq_false h4, Bool.false_and]
theorem cb_24 {x : Int32} (h : ∀ b, b < 32 → bt x b = true → b < 4) : cb (bt x) 24 = cb (bt x) 32 := by
  have e : cb (bt x) 32 = cb (bt x) 24 + cb (fun i => bt x (24 + i)) 8 := by rw [← cb_add]
  rw [e, cb_zero (f := fun i => bt x (24 + i)) (fun i hi => by
    cases hb : bt x (24 + i) with
    | false => rfl
    | true => have := h (24 + i) (by omega) hb; omega), Nat.add_zero]
/-- both sides' sheets -/
def SHE (st sn sl : Nat → Nat) (fl fn : Nat → Int32) : Prop := ∀ k, k < 4 → ((st k = 0 ∧ fl k = -4) ∨ (st k = 1 ∧ fl k = nI (sl k) ∧ sl k ≤ 2)) ∧ fn k = nI (sn k) ∧ sn k ≤ 48
theorem SHE.put {st sn sl st' sn' sl' : Nat → Nat} {fl fn fl' fn' : Nat → Int32} {k l n : Nat} (h : SHE st sn sl fl fn) (hl : l ≤ 2) (hn : n ≤ 48) (h1 : ∀ i, i < 4 → st' i = if i = k then 1 else st i) (h2 : ∀ i, i < 4 → sn' i = if i = k then n else sn i) (h3 : ∀ i, i < 4 → sl' i = if i = k then l else sl i) (e1 : upd fl k (nI l) = fl') (e2 : upd fn k (nI n) = fn') : SHE st' sn' sl' fl' fn' := by
  intro i hi
  rw [h1 i hi, h2 i hi, h3 i hi]
  by_cases hk : i = k
  · subst hk
    rw [if_pos rfl, if_pos rfl, if_pos rfl, ← e1, ← e2, pk_us, pk_us]
    exact ⟨Or.inr ⟨rfl, rfl, hl⟩, rfl, hn⟩
  · rw [if_neg hk, if_neg hk, if_neg hk, ← e1, ← e2, pk_un hk, pk_un hk]
    exact h i hi
theorem SHE.len {st sn sl : Nat → Nat} {fl fn : Nat → Int32} {k : Nat} (h : SHE st sn sl fl fn) (hk : k < 4) : cN fn k = sn k := by
  have h1 := h k hk
  unfold cN; rw [h1.2.1]; exact nI_clamp (by omega)
theorem SHE.no {st sn sl : Nat → Nat} {fl fn : Nat → Int32} {k : Nat} (h : SHE st sn sl fl fn) (hk : k < 4) : (st k = 0 ∧ fl k = -4) ∨ (st k = 1 ∧ fl k ≠ -4) := by
  rcases (h k hk).1 with q | ⟨q1, q2, q3⟩
  · exact Or.inl q
  · refine Or.inr ⟨q1, fun e => ?_⟩
    rw [q2] at e
    have h1 := nI_toInt (n := sl k) (by omega)
    rw [e] at h1
    have e4 : (-4 : Int32).toInt = -4 := rfl
    omega
/-- both sides' secrets -/
def SEC (pe : Nat) (kn : Int32) (fs : Nat → Int32) : Prop := ∀ i, i < pe → fs i = sc kn i
theorem SEC.call {pe i j : Nat} {kn : Int32} {fs fs' : Nat → Int32} (h : SEC pe kn fs) (hp : pe ≤ 4) (hi : i < pe) (hj : j < pe) (e : upd (upd fs i (fs i ||| fs j)) j (fs i ||| fs j) = fs') : SEC pe (cl kn i j) fs' := by
  intro m hm
  rw [sc_cl (by omega) (by omega) (by omega), ← e, h i hi, h j hj]
  by_cases h1 : m = j
  · subst h1; rw [pk_us, if_pos (Or.inr rfl)]
  · rw [pk_un h1]
    by_cases h2 : m = i
    · subst h2; rw [pk_us, if_pos (Or.inl rfl)]
    · rw [pk_un h2, if_neg (by omega), h m hm]
theorem SEC.ans {pe i j : Nat} {kn : Int32} {fs : Nat → Int32} (h : SEC pe kn fs) (hp : pe ≤ 4) (hi : i < pe) (hj : j < pe) : bcf (sc (cl kn i j) i) = nI (cb (bt (fs i ||| fs j)) 24) := by
  rw [sc_cl (by omega) (by omega) (by omega), if_pos (Or.inl rfl), h i hi, h j hj, bcf_bt]
  congr 1
  symm
  apply cb_24
  intro b hb hbt
  rw [y_b (by omega) (by omega) hb] at hbt
  by_cases h4 : b < 4
  · exact h4
  · rw [decide_eq_false h4, Bool.false_and] at hbt; cases hbt
theorem she0 {fl : Nat → Int32} (h0 : fl 0 = -4) (h1 : fl 1 = -4) (h2 : fl 2 = -4) (h3 : fl 3 = -4) : SHE (pick4 0 0 0 0) (pick4 0 0 0 0) (pick4 0 0 0 0) fl (fun _ => 0) := by
  intro k hk
  rcases (show k = 0 ∨ k = 1 ∨ k = 2 ∨ k = 3 by omega) with rfl | rfl | rfl | rfl
  · exact ⟨Or.inl ⟨rfl, h0⟩, rfl, by decide⟩
  · exact ⟨Or.inl ⟨rfl, h1⟩, rfl, by decide⟩
  · exact ⟨Or.inl ⟨rfl, h2⟩, rfl, by decide⟩
  · exact ⟨Or.inl ⟨rfl, h3⟩, rfl, by decide⟩
/-- both sides' cells -/
def CEL (st sn : Nat → Nat) (sc : Nat → Nat → Int32) (fc : Nat → Int32) : Prop := ∀ k, k < 4 → st k = 1 → ∀ i, i < sn k → sc k i = fc (48 * k + i)
theorem cel0 {sc : Nat → Nat → Int32} {fc : Nat → Int32} : CEL (pick4 0 0 0 0) (pick4 0 0 0 0) sc fc := by
  intro k hk hs
  rcases (show k = 0 ∨ k = 1 ∨ k = 2 ∨ k = 3 by omega) with rfl | rfl | rfl | rfl <;> exact absurd hs (by decide)
theorem CEL.sheet {st sn sl st' sn' : Nat → Nat} {sc sc' : Nat → Nat → Int32} {fl fn fc fc' : Nat → Int32} {k n : Nat} (h : CEL st sn sc fc) (hS : SHE st sn sl fl fn) (hn : n ≤ 48) (h1 : ∀ i, i < 4 → st' i = if i = k then 1 else st i) (h2 : ∀ i, i < 4 → sn' i = if i = k then n else sn i) (hs : ∀ i, i < 4 → i ≠ k → sc' i = sc i) (hz : Z0x n (sc' k)) (hc : CZR k 48 fc fc') : CEL st' sn' sc' fc' := by
  intro i hi ht j hj
  rw [h1 i hi] at ht
  rw [h2 i hi] at hj
  by_cases q : i = k
  · subst q
    rw [if_pos rfl] at hj
    rw [hz j hj, hc.1 j (by omega)]
  · rw [if_neg q] at hj ht
    have h3 := (hS i hi).2.2
    rw [hs i hi q, hc.2 _ (by omega)]
    exact h i hi ht j hj
theorem shl24 (v : Int32) : v <<< ((24 : Int32) &&& 31) >>> ((24 : Int32) &&& 31) = v.toInt8.toInt32 := by
  apply b_ext
  intro i hi
  have e24 : (24 : Int32) = nI 24 := rfl
  rw [e24, b_sshr 24 (by omega) _ hi]
  have h8 : bt (v.toInt8.toInt32) i = if i < 8 then bt v i else bt v 7 := by
    unfold bt
    rw [Int8.toBitVec_toInt32, BitVec.getLsbD_signExtend, Int32.toBitVec_toInt8, BitVec.msb_eq_getLsbD_last, BitVec.getLsbD_signExtend, BitVec.getLsbD_signExtend]
    by_cases q : i < 8
    · simp [hi, q]
    · simp [hi, q]
  rw [h8]
  by_cases q : i < 8
  · rw [if_pos (by omega), if_pos q, b_shl 24 (by omega) _ (by omega)]
    simp [show 24 + i - 24 = i by omega]
  · rw [if_neg (by omega), if_neg q, b_shl 24 (by omega) _ (by omega)]
    simp
theorem shl16 (v : Int32) : v <<< ((16 : Int32) &&& 31) >>> ((16 : Int32) &&& 31) = v.toInt16.toInt32 := by
  apply b_ext
  intro i hi
  have e16 : (16 : Int32) = nI 16 := rfl
  rw [e16, b_sshr 16 (by omega) _ hi]
  have h8 : bt (v.toInt16.toInt32) i = if i < 16 then bt v i else bt v 15 := by
    unfold bt
    rw [Int16.toBitVec_toInt32, BitVec.getLsbD_signExtend, Int32.toBitVec_toInt16, BitVec.msb_eq_getLsbD_last, BitVec.getLsbD_signExtend, BitVec.getLsbD_signExtend]
    by_cases q : i < 16
    · simp [hi, q]
    · simp [hi, q]
  rw [h8]
  by_cases q : i < 16
  · rw [if_pos (by omega), if_pos q, b_shl 16 (by omega) _ (by omega)]
    simp [show 16 + i - 16 = i by omega]
  · rw [if_neg (by omega), if_neg q, b_shl 16 (by omega) _ (by omega)]
    simp
theorem putw_v {l : Nat} {v : Int32} (h : l ≤ 2) : putw (nI l) v = putv l v := by
  unfold putw putv
  rw [nI_toInt (by omega), shl24, shl16]
  rcases (show l = 0 ∨ l = 1 ∨ l = 2 by omega) with rfl | rfl | rfl <;> rfl
theorem CEL.write {st sn sl : Nat → Nat} {sc sc' : Nat → Nat → Int32} {fl fn fc fc' : Nat → Int32} {k i : Nat} {v : Int32} (h : CEL st sn sc fc) (hS : SHE st sn sl fl fn) (hk : k < 4) (hst : st k = 1) (hi : i < 48) (hs : ∀ j, j < 4 → j ≠ k → sc' j = sc j) (e : upd (sc k) i (putv (sl k) v) = sc' k) (e2 : upd fc (48 * k + i) (putw (fl k) v) = fc') : CEL st sn sc' fc' := by
  intro m hm ht j hj
  have h3 := (hS m hm).2.2
  by_cases q : m = k
  · subst q
    rcases (hS m hm).1 with ⟨z1, z2⟩ | ⟨z1, z2, z3⟩
    · omega
    · rw [← e, ← e2, z2, putw_v z3]
      by_cases r : j = i
      · rw [r, pk_us, pk_us]
      · rw [pk_un r, pk_un (by omega)]; exact h m hm ht j hj
  · rw [hs m hm q, ← e2, pk_un (by omega)]; exact h m hm ht j hj
theorem rd_eq {st sn sl : Nat → Nat} {sc : Nat → Nat → Int32} {fl fn fc : Nat → Int32} {k l n : Nat} {f : Int32} (hS : SHE st sn sl fl fn) (h : CEL st sn sc fc) (hk : k < 4) (hl : l ≤ 2) : rdA (st k) (sl k) (sn k) (sc k) l f n = rdB (fl k) (cN fn k) (fun j => fc (48 * k + j)) l f n := by
  have e4 : (-4 : Int32).toInt = -4 := rfl
  rw [SHE.len hS hk]
  rcases (hS k hk).1 with ⟨z1, z2⟩ | ⟨z1, z2, z3⟩
  · rw [← rdB_1 (la := fl k) (by rw [z2, e4]; omega) hl (by rw [z2, e4])]
    unfold rdA
    rw [← chk_0 z1, if_neg (by decide)]
  · by_cases q : sl k = l
    · rw [rdB_3 (by rw [z2, nI_toInt (by omega), q]) hl]
      unfold rdA
      rw [chk_2 (by omega) (by omega), ck_congr (fun j hj => h k hk z1 j hj)]
    · rw [← rdB_2 (la := fl k) (by rw [z2, nI_toInt (by omega)]; omega) hl (by rw [z2, nI_toInt (by omega)]; omega)]
      unfold rdA
      rw [← chk_1 (by omega) (by omega), if_neg (by decide)]
/-- both sides' events -/
def EVQ (ec er : Nat → Nat) (ed : Nat → Nat → Int32) (fc fh fd : Nat → Int32) : Prop := ∀ e, e < 4 → ec e = cN fc e ∧ er e = cN fh e ∧ ∀ c, c < 16 → ed e c = fd (16 * e + c)
theorem evq0 {ed : Nat → Nat → Int32} (h : ∀ e c, ed e c = 0) : EVQ (pick4 0 0 0 0) (pick4 0 0 0 0) ed (fun _ => 0) (fun _ => 0) (fun _ => 0) := by
  intro e he
  rcases (show e = 0 ∨ e = 1 ∨ e = 2 ∨ e = 3 by omega) with rfl | rfl | rfl | rfl <;> exact ⟨rfl, rfl, fun c _ => h _ c⟩
theorem EVQ.cse {ec er : Nat → Nat} {ed : Nat → Nat → Int32} {fc fh fd : Nat → Int32} {e i : Int32} (h : EVQ ec er ed fc fh fd) : CSE ec e i ↔ CSE (cN fc) e i := by
  unfold CSE
  constructor
  · rintro ⟨h1, h2, h3, h4⟩
    obtain ⟨j, e1, e2⟩ := nI_ex (x := e) (n := 3) h1 h2
    refine ⟨h1, h2, h3, ?_⟩
    subst e1
    rw [nI_clamp (by omega)] at h4 ⊢
    rw [← (h j (by omega)).1]; exact h4
  · rintro ⟨h1, h2, h3, h4⟩
    obtain ⟨j, e1, e2⟩ := nI_ex (x := e) (n := 3) h1 h2
    refine ⟨h1, h2, h3, ?_⟩
    subst e1
    rw [nI_clamp (by omega)] at h4 ⊢
    rw [(h j (by omega)).1]; exact h4
theorem EVQ.put {ec er ec' er' : Nat → Nat} {ed ed' : Nat → Nat → Int32} {fc fh fd fc' fh' fd' : Nat → Int32} {k n : Nat} (h : EVQ ec er ed fc fh fd) (hk : k ≤ 3) (hn : n ≤ 4) (h1 : ∀ i, i < 4 → ec' i = if i = k then n else ec i) (h2 : ∀ i, i < 4 → er' i = if i = k then 0 else er i) (h3 : ∀ i, i < 4 → i ≠ k → ed' i = ed i) (h4 : ∀ c, c < 16 → ed' k c = fd' (16 * k + c)) (e1 : upd fc k (nI n) = fc') (e2 : upd fh k (nI 0) = fh') (h5 : ∀ j, (j < 16 * k ∨ 16 * k + 16 ≤ j) → fd' j = fd j) : EVQ ec' er' ed' fc' fh' fd' := by
  intro e he
  rw [h1 e he, h2 e he]
  by_cases q : e = k
  · subst q
    rw [if_pos rfl, if_pos rfl, cN_s (by omega) e1, cN_s (by omega) e2]
    exact ⟨rfl, rfl, h4⟩
  · rw [if_neg q, if_neg q, cN_n e1 q, cN_n e2 q, h3 e he q]
    exact ⟨(h e he).1, (h e he).2.1, fun c hc => by rw [h5 _ (by omega)]; exact (h e he).2.2 c hc⟩
theorem EVQ.hear {ec er : Nat → Nat} {ed ed' : Nat → Nat → Int32} {fc fh fd fd' : Nat → Int32} {k n i : Nat} {x : Int32} (h : EVQ ec er ed fc fh fd) (hk : k ≤ 3) (hn : n ≤ 3) (hi : i ≤ 3) (h3 : ∀ j, j < 4 → j ≠ k → ed' j = ed j) (e1 : upd (ed k) (n * 4 + i) x = ed' k) (e2 : upd fd (16 * k + 4 * n + i) x = fd') : EVQ ec er ed' fc fh fd' := by
  intro e he
  refine ⟨(h e he).1, (h e he).2.1, fun c hc => ?_⟩
  by_cases q : e = k
  · subst q
    rw [← e1, ← e2]
    by_cases z : c = n * 4 + i
    · rw [z, pk_us, show 16 * e + (n * 4 + i) = 16 * e + 4 * n + i by omega, pk_us]
    · rw [pk_un z, pk_un (by omega)]; exact (h e he).2.2 c hc
  · rw [h3 e he q, ← e2, pk_un (by omega)]; exact (h e he).2.2 c hc
theorem EVQ.hap {ec er er' : Nat → Nat} {ed : Nat → Nat → Int32} {fc fh fh' fd : Nat → Int32} {k i : Nat} (h : EVQ ec er ed fc fh fd) (hi : i ≤ 3) (h2 : ∀ j, j < 4 → er' j = if j = k then i else er j) (e1 : upd fh k (nI i) = fh') : EVQ ec er' ed fc fh' fd := by
  intro e he
  refine ⟨(h e he).1, ?_, (h e he).2.2⟩
  rw [h2 e he]
  by_cases q : e = k
  · rw [if_pos q, q, cN_s (by omega) e1]
  · rw [if_neg q, cN_n e1 q]; exact (h e he).2.1
theorem EVQ.wd {k d : Nat} {gr : Int32} {f g ek : Nat → Int32} (h : (d = 0 ∧ SAx 4 ek) ∨ (d ≠ 0 ∧ SPx gr 4 ek)) (hw : WX k d gr 4 f g) : ∀ c, c < 16 → ek c = g (16 * k + c) := by
  intro c hc
  rw [hw.1 c hc, if_pos (by omega)]
  rcases h with ⟨h1, h2⟩ | ⟨h1, h2⟩
  · rw [h2 c hc]
    by_cases q : c % 4 = 0
    · rw [if_pos ⟨q, by omega⟩, if_pos q, if_pos (Or.inl h1)]
    · rw [if_neg (fun z => q z.1), if_neg q, if_pos h1]
      split <;> rfl
  · rw [h2 c hc, if_pos (by omega)]
    by_cases q : c % 4 = 0
    · rw [if_pos q, if_pos q]
      by_cases z : bt gr (c / 4) = true
      · rw [if_pos z, if_pos (Or.inr z)]
      · rw [if_neg z, if_neg (fun y => y.elim h1 z)]
    · rw [if_neg q, if_neg q, if_neg h1]
/-- both sides' sayings: told or not, how many afters -/
def TLQ (tT : Nat → Option SVal) (ft fa : Nat → Int32) : Prop := ∀ k, k < 8 → sNs tT k = tRr ft fa k
theorem tlq0 : TLQ (fun _ => none) (fun _ => 0) (fun _ => 0) := fun k _ => rfl
theorem TLQ.pln {tT : Nat → Option SVal} {ft fa : Nat → Int32} {k : Int32} (h : TLQ tT ft fa) : PLN (sNs tT) k ↔ PLN (tRr ft fa) k := by
  unfold PLN
  constructor
  · rintro ⟨h1, h2, h3⟩
    obtain ⟨j, e1, e2⟩ := nI_ex (x := k) (n := 7) h1 h2
    refine ⟨h1, h2, ?_⟩
    subst e1
    rw [nI_clamp (by omega)] at h3 ⊢
    rw [← h j (by omega)]; exact h3
  · rintro ⟨h1, h2, h3⟩
    obtain ⟨j, e1, e2⟩ := nI_ex (x := k) (n := 7) h1 h2
    refine ⟨h1, h2, ?_⟩
    subst e1
    rw [nI_clamp (by omega)] at h3 ⊢
    rw [h j (by omega)]; exact h3
theorem TLQ.kp {tT : Nat → Option SVal} {ft fa fa' : Nat → Int32} (h : TLQ tT ft fa) (hk : KP 8 fa fa') : TLQ tT ft fa' := by
  intro k hk8
  rw [h k hk8]
  unfold tRr
  rw [hk.at hk8]
theorem TLQ.say {tT : Nat → Option SVal} {ft fa ft' fa' : Nat → Int32} {k n m : Nat} {S : SVal} (h : TLQ tT ft fa) (hS : sNa S = n) (hm : 1 ≤ m) (hm2 : m ≤ 32) (hn : n ≤ 2) (e1 : upd ft k (nI m) = ft') (e2 : fa' k = nI n ∧ ∀ j, j < 8 → j ≠ k → fa' j = fa j) : TLQ (va_up tT k (some S)) ft' fa' := by
  intro j hj
  unfold sNs tRr
  by_cases q : j = k
  · subst q
    rw [vup_s, ← e1, pk_us, nI_toInt (by omega), if_pos (by omega)]
    have : cN fa' j = n := by unfold cN; rw [e2.1]; exact nI_clamp (by omega)
    rw [this, ← hS]
    rfl
  · have h2 := h j hj
    unfold sNs tRr at h2
    have e3 : cN fa' j = cN fa j := by unfold cN; rw [e2.2 j hj q]
    rw [vup_n q, ← e1, pk_un q, e3]
    exact h2
theorem SOK.pos {c : Nat → Int} {p n v w K m : Nat} (h : SOK c p n v w K m) : 1 ≤ K := by
  obtain ⟨a1, a2, a3, a4, q, a5, a6⟩ := h
  apply Classical.byContradiction
  intro hk
  have e : K = 0 := by omega
  subst e
  have a5' : (Sum.inr (p, 0, 1) : Nat ⊕ (Nat × Nat × Nat)) = .inr (q, m, 0) := a5
  cases a5'
/-! two tellings that read alike -/
theorem opn_cg {o o' : Nat → Int32} : ∀ n : Nat, (∀ i, i < n → o i = o' i) → opn o n = opn o' n
  | 0, _ => rfl
  | n + 1, h => by rw [opn_s, opn_s, opn_cg n (fun i hi => h i (by omega)), h n (by omega)]
theorem vSt_cg {m : AM} {nn : Nat} {o ar o' ar' : Nat → Int32} (h : ∀ i, i < nn → o i = o' i ∧ ar i = ar' i) : ∀ d, d ≤ nn → vSt m nn o ar d = vSt m nn o' ar' d
  | 0, _ => rfl
  | d + 1, hd => by
    have h1 := h (nn - 1 - d) (by omega)
    have h2 : lastN o (nn - 1 - d) = lastN o' (nn - 1 - d) := by unfold lastN; rw [opn_cg _ (fun i hi => (h i (by omega)).1)]
    show va_up (vSt m nn o ar d) (lastN o (nn - 1 - d)) _ = va_up (vSt m nn o' ar' d) (lastN o' (nn - 1 - d)) _
    rw [vSt_cg h d (by omega), h2, h1.1, h1.2]
theorem vPl_cg {m : AM} {n n' : Nat} {o ar o' ar' : Nat → Int32} (hn : n = n') (h : ∀ i, i < n → o i = o' i ∧ ar i = ar' i) : vPl m n o ar = vPl m n' o' ar' := by
  subst hn
  unfold vPl
  rw [vSt_cg h n (Nat.le_refl _)]
def SQ (S S' : SVal) : Prop := S.1 = S'.1 ∧ ∀ i, i < S.1 → S.2.1 i = S'.2.1 i ∧ S.2.2.1 i = S'.2.2.1 i
theorem SQ.pl {m : AM} {S S' : SVal} (h : SQ S S') : vPl m S.1 S.2.1 S.2.2.1 = vPl m S'.1 S'.2.1 S'.2.2.1 := vPl_cg h.1 h.2
def SQA (S S' : SVal) : Prop := SQ S S' ∧ aftL S = aftL S' ∧ ∀ e, e ∈ aftL S → e < 4
theorem SQA.zero : SQA sv0 sv0 := ⟨⟨rfl, fun _ _ => ⟨rfl, rfl⟩⟩, rfl, fun e h => absurd h (by show ¬ e ∈ aftL sv0; unfold aftL; exact List.not_mem_nil)⟩
/-- both none, or alike -/
def OQ (R : SVal → SVal → Prop) (o o' : Option SVal) : Prop := (o = none ∧ o' = none) ∨ ∃ S S', o = some S ∧ o' = some S' ∧ R S S'
theorem OQ.can {m : AM} {o o' : Option SVal} (h : OQ SQ o o') : canE m o = canE m o' := by
  rcases h with ⟨a, b⟩ | ⟨S, S', a, b, c⟩
  · rw [a, b]
  · rw [a, b]; exact c.pl
theorem OQ.some {R : SVal → SVal → Prop} {o o' : Option SVal} (h : OQ R o o') : o.isSome = o'.isSome := by
  rcases h with ⟨a, b⟩ | ⟨S, S', a, b, c⟩ <;> rw [a, b]; rfl
theorem OQ.get {o o' : Option SVal} (h : OQ SQA o o') : SQA (o.getD sv0) (o'.getD sv0) := by
  rcases h with ⟨a, b⟩ | ⟨S, S', a, b, c⟩
  · rw [a, b]; exact SQA.zero
  · rw [a, b]; exact c
def EQv (e e' : EVl) : Prop := e.1 = e'.1 ∧ e.2.1 = e'.2.1 ∧ (∀ c, c < 4 → OQ SQ (e.2.2.1 c) (e'.2.2.1 c)) ∧ (∀ c, c < 4 → e.2.2.2.1 c = e'.2.2.2.1 c ∧ e.2.2.2.2.1 c = e'.2.2.2.2.1 c) ∧ ∀ q, q < 16 → e.2.2.2.2.2 q = e'.2.2.2.2.2 q
theorem cmpS_cg {P : Nat → Bool} {N r : Nat} {F F' : Nat → Int32} {R R' : Nat → Nat → Nat → Bool} (hF : ∀ p, F p = F' p) (hR : ∀ k p q, k < 4 → R k p q = R' k p q) : cmpS P N r F R = cmpS P N r F' R' := by
  unfold cmpS
  refine Prod.ext rfl (Prod.ext rfl (Prod.ext ?_ ?_))
  · funext j
    show (if j < cb P N then F (nth P N j) else 0) = (if j < cb P N then F' (nth P N j) else 0)
    rw [hF]
  · funext k j i
    show (decide (k < 4) && (decide (j < cb P N) && (decide (i < cb P N) && R k (nth P N j) (nth P N i)))) = (decide (k < 4) && (decide (j < cb P N) && (decide (i < cb P N) && R' k (nth P N j) (nth P N i))))
    by_cases hk : k < 4
    · rw [hR _ _ _ hk]
    · rw [decide_eq_false hk, Bool.false_and, Bool.false_and]
section EQVS
variable {m : AM} {e e' : EVl} {T : Nat → Bool}
theorem EQv.P (h : EQv e e') : lyP m e = lyP m e' := by
  funext p
  unfold lyP
  rw [h.1, (h.2.2.1 (p % 4) (Nat.mod_lt _ (by decide))).can]
theorem EQv.C (h : EQv e e') : lyC m e = lyC m e' := by unfold lyC; rw [h.P]
theorem EQv.lay (h : EQv e e') : aLay m e = aLay m e' := by
  unfold aLay
  rw [h.P, h.2.1]
  refine cmpS_cg (fun p => ?_) (fun k p q hk => ?_)
  · have h1 := h.2.2.2.1 (p % 4) (Nat.mod_lt _ (by decide))
    unfold lyF chg
    rw [h1.1, h1.2]
  · have h4 := Nat.mod_lt p (show 0 < 4 by decide)
    unfold lyR
    rw [h.2.2.2.2 (k * 4 + p % 4) (by omega)]
theorem EQv.back (h : EQv e e') : vBack m e T = vBack m e' T := by
  unfold vBack
  rw [h.P, h.2.1]
theorem EQv.L (h : EQv e e') : canL m e = canL m e' := by
  unfold canL
  rw [h.P, h.C, h.2.1]
end EQVS
def ESQ (ev ev' : Nat → EVl) : Prop := ∀ e, e < 4 → EQv (ev e) (ev' e)
theorem vW_cg {ev ev' : Nat → EVl} {S S' : SVal} (hS : SQ S S') (he : ESQ ev ev') : ∀ (L : List Nat) (m : AM), (∀ e, e ∈ L → e < 4) → vW m ev S L = vW m ev' S' L
  | [], m, _ => hS.pl
  | e :: es, m, h => by
    have h4 := he e (h e List.mem_cons_self)
    show (if lyC m (ev e) ≤ 24 then vBack m (ev e) (vW (aLay m (ev e)) ev S es) else vAll m) = (if lyC m (ev' e) ≤ 24 then vBack m (ev' e) (vW (aLay m (ev' e)) ev' S' es) else vAll m)
    rw [h4.C, h4.lay, h4.back, vW_cg hS he es _ (fun x hx => h x (List.mem_cons_of_mem _ hx))]
theorem vWho_cg {m : AM} {ev ev' : Nat → EVl} {S S' : SVal} (hS : SQA S S') (he : ESQ ev ev') : vWho m ev S = vWho m ev' S' := by
  unfold vWho
  rw [← hS.2.1]; exact vW_cg hS.1 he _ m hS.2.2
def TQ (T T' : Nat → Option SVal) : Prop := ∀ k, k < 8 → OQ SQA (T k) (T' k)
section TQS
variable {m : AM} {ev ev' : Nat → EVl} {T T' : Nat → Option SVal} {gr sg v0 v1 v2 v3 x : Int32}
theorem tN_8 (h : ¬ (v0.toInt < 0 ∨ 7 < v0.toInt)) : tN v0 < 8 := by
  unfold tN
  have h1 := i_cl (x := v0) (N := 7) (by omega) (by omega) (by omega)
  have h2 := h1.2
  have h3 := h1.1
  omega
theorem tru_cg (hT : TQ T T') (he : ESQ ev ev') : ansTruth m ev T v0 = ansTruth m ev' T' v0 := by
  unfold ansTruth
  by_cases q : v0.toInt < 0 ∨ 7 < v0.toInt
  · rw [if_pos q, if_pos q]
  · rw [if_neg q, if_neg q]
    rcases hT (tN v0) (tN_8 q) with ⟨a, b⟩ | ⟨S, S', a, b, c⟩
    · rw [a, b]
    · rw [a, b]; show ofB (vWho m ev S) = ofB (vWho m ev' S'); rw [vWho_cg c he]
theorem hol_cg (hT : TQ T T') (he : ESQ ev ev') : ansHolds m ev T v0 = ansHolds m ev' T' v0 := by
  unfold ansHolds
  by_cases q : v0.toInt < 0 ∨ 7 < v0.toInt
  · rw [if_pos q, if_pos q]
  · rw [if_neg q, if_neg q]
    rcases hT (tN v0) (tN_8 q) with ⟨a, b⟩ | ⟨S, S', a, b, c⟩
    · rw [a, b]
    · rw [a, b]
      show (if m.1 = 0 then (-2 : Int32) else if vWho m ev S m.2.1 = true then 1 else 0) = (if m.1 = 0 then -2 else if vWho m ev' S' m.2.1 = true then 1 else 0)
      rw [vWho_cg c he]
theorem tN_4 (h : ¬ (v0.toInt < 0 ∨ 3 < v0.toInt)) : tN v0 < 4 := by
  unfold tN
  have h1 := i_cl (x := v0) (N := 3) (by omega) (by omega) (by omega)
  have h2 := h1.2
  have h3 := h1.1
  omega
theorem lay_cg {s : ASt} (he : ESQ ev ev') : opLay s ev v0 = opLay s ev' v0 := by
  unfold opLay
  by_cases q : v0.toInt < 0 ∨ 3 < v0.toInt
  · rw [if_pos (q.elim Or.inl (fun z => Or.inr (Or.inl z))), if_pos (q.elim Or.inl (fun z => Or.inr (Or.inl z)))]
  · have h := he (tN v0) (tN_4 q)
    rw [h.1, h.2.1, h.P, h.C, h.lay]
theorem askd_cg {k : Nat} (hT : TQ T T') : askd T gr sg k = askd T' gr sg k := by unfold askd; rw [(hT _ sgI_lt).some]
theorem aKn_cg {k : Nat} (hT : TQ T T') (he : ESQ ev ev') : aKn m ev T sg k = aKn m ev' T' sg k := by unfold aKn; rw [vWho_cg (hT _ sgI_lt).get he]
theorem stS_cg (hT : TQ T T') (he : ESQ ev ev') : ∀ k, stS m ev T gr sg k = stS m ev' T' gr sg k
  | 0 => rfl
  | k + 1 => by
    funext w
    show (stS m ev T gr sg k w && (!askd T gr sg k || (if aKn m ev T sg k m.2.1 = true then aKn m ev T sg k w else !aKn m ev T sg k w))) = (stS m ev' T' gr sg k w && (!askd T' gr sg k || (if aKn m ev' T' sg k m.2.1 = true then aKn m ev' T' sg k w else !aKn m ev' T' sg k w)))
    rw [stS_cg hT he k, askd_cg hT, aKn_cg hT he]
theorem knS_cg (hT : TQ T T') (he : ESQ ev ev') (i : Nat) : knS m ev T gr sg i = knS m ev' T' gr sg i := by
  funext k
  unfold knS
  rw [askd_cg hT, aKn_cg hT he]
theorem TQ.can (hT : TQ T T') : canT T v0 v1 ↔ canT T' v0 v1 := ⟨fun h => canT_cg (fun k hk => (hT k hk).some) h, fun h => canT_cg (fun k hk => (hT k hk).some.symm) h⟩
theorem turn_cg {s : ASt} (hT : TQ T T') (he : ESQ ev ev') : opTurn s ev T v0 v1 = opTurn s ev' T' v0 v1 := by
  unfold opTurn
  by_cases q : canT T v0 v1
  · rw [if_pos q, if_pos (hT.can.mp q), stS_cg hT he, knS_cg hT he]
  · rw [if_neg q, if_neg (fun z => q (hT.can.mpr z))]
theorem goS_cg (hT : TQ T T') (he : ESQ ev ev') : ∀ i, goS m ev T gr sg i = goS m ev' T' gr sg i
  | 0 => rfl
  | i + 1 => by
    show aCut (goS m ev T gr sg i) (stS (goS m ev T gr sg i) ev T gr sg 4) = aCut (goS m ev' T' gr sg i) (stS (goS m ev' T' gr sg i) ev' T' gr sg 4)
    rw [goS_cg hT he i, stS_cg hT he]
theorem rest_cg {i : Nat} (hT : TQ T T') (he : ESQ ev ev') : restG m ev T gr sg i ↔ restG m ev' T' gr sg i := by
  unfold restG
  rw [goS_cg hT he, stS_cg hT he]
theorem GOE_cg {N : Nat} (hT : TQ T T') (he : ESQ ev ev') (h : GOE m ev T gr sg N) : GOE m ev' T' gr sg N :=
  ⟨fun i hi z => h.1 i hi ((rest_cg hT he).mpr z), (rest_cg hT he).mp h.2⟩
theorem fstS_cg (hT : TQ T T') (he : ESQ ev ev') {k : Nat} : ∀ i, fstS m ev T gr sg k i = fstS m ev' T' gr sg k i
  | 0 => rfl
  | i + 1 => by
    show (if fstS m ev T gr sg k i = -4 ∧ knS (goS m ev T gr sg i) ev T gr sg 4 k = true then nI (i + 1) else fstS m ev T gr sg k i) = (if fstS m ev' T' gr sg k i = -4 ∧ knS (goS m ev' T' gr sg i) ev' T' gr sg 4 k = true then nI (i + 1) else fstS m ev' T' gr sg k i)
    rw [fstS_cg hT he i, goS_cg hT he, knS_cg hT he]
theorem TUR_cg (hT : TQ T T') (he : ESQ ev ev') (h : TUR m ev T v0 v1 v2 x) : TUR m ev' T' v0 v1 v2 x := by
  rcases h with ⟨a, b⟩ | ⟨a1, a2, a3, b⟩ | ⟨a1, a2, a3, N, g, b⟩
  · exact Or.inl ⟨a.elim Or.inl (fun z => Or.inr (fun y => z (hT.can.mpr y))), b⟩
  · exact Or.inr (Or.inl ⟨a1, hT.can.mp a2, a3, b⟩)
  · refine Or.inr (Or.inr ⟨a1, hT.can.mp a2, a3, N, GOE_cg hT he g, ?_⟩)
    rw [b, goS_cg hT he, goS_cg hT he, knS_cg hT he, fstS_cg hT he]
theorem hid_cg {H H' : Option SVal} (hH : OQ SQA H H') (he : ESQ ev ev') : hidO m ev H = hidO m ev' H' := by
  rcases hH with ⟨a, b⟩ | ⟨S, S', a, b, c⟩
  · rw [a, b]; rfl
  · rw [a, b]; show vWho m ev S m.2.1 = vWho m ev' S' m.2.1; rw [vWho_cg c he]
theorem plB_cg {A A' : SVal} {H H' : Option SVal} (hA : SQA A A') (hH : OQ SQA H H') (he : ESQ ev ev') : ∀ (L : Nat) (m : AM) (r : Nat), plB ev A H L m r = plB ev' A' H' L m r
  | 0, m, r => by
    show (if (hidO m ev H && vWho m ev A m.2.1) = true then some r else none) = (if (hidO m ev' H' && vWho m ev' A' m.2.1) = true then some r else none)
    rw [hid_cg hH he, vWho_cg hA he]
  | L + 1, m, r => by
    show (if hidO m ev H = true then fstO (fun i => if canL m (ev i) = true then plB ev A H L (aLay m (ev i)) (r * 10 + i) else none) 4 else none) = (if hidO m ev' H' = true then fstO (fun i => if canL m (ev' i) = true then plB ev' A' H' L (aLay m (ev' i)) (r * 10 + i) else none) 4 else none)
    rw [hid_cg hH he]
    by_cases q : hidO m ev' H' = true
    · rw [if_pos q, if_pos q]
      refine fstO_cg (fun i hi => ?_)
      rw [(he i hi).L, (he i hi).lay, plB_cg hA hH he L]
    · rw [if_neg q, if_neg q]
theorem NTD_cg (hT : TQ T T') (h : NTD T v0) : NTD T' v0 := ⟨h.1, h.2.1, by rw [← (hT (tN v0) (tN_8 (by have h1 := h.1; have h2 := h.2.1; omega))).some]; exact h.2.2⟩
theorem TQ.symm' (hT : TQ T T') : ∀ k, k < 8 → (T' k).isSome = (T k).isSome := fun k hk => (hT k hk).some.symm
theorem NTD_iff (hT : TQ T T') : NTD T v0 ↔ NTD T' v0 := ⟨NTD_cg hT, fun h => ⟨h.1, h.2.1, by rw [(hT (tN v0) (tN_8 (by have h1 := h.1; have h2 := h.2.1; omega))).some]; exact h.2.2⟩⟩
theorem NTD_8 (h : NTD T v0) : tN v0 < 8 := tN_8 (by have h1 := h.1; have h2 := h.2.1; omega)
theorem PLA_cg (hT : TQ T T') (he : ESQ ev ev') (h : PLA m ev T v0 v1 v2 v3 x) : PLA m ev' T' v0 v1 v2 v3 x := by
  rcases h with ⟨a, b⟩ | ⟨⟨a0, a1, a2, a3, a4, a5⟩, b, c⟩ | ⟨⟨a0, a1, a2, a3, a4, a5⟩, b, c⟩
  · refine Or.inl ⟨?_, b⟩
    rcases a with a | ⟨a, a'⟩ | a
    · exact Or.inl (fun z => a ((NTD_iff hT).mpr z))
    · exact Or.inr (Or.inl ⟨a, fun z => a' ((NTD_iff hT).mpr z)⟩)
    · exact Or.inr (Or.inr a)
  · exact Or.inr (Or.inl ⟨⟨(NTD_iff hT).mp a0, a1.elim Or.inl (fun z => Or.inr ((NTD_iff hT).mp z)), a2, a3, a4, a5⟩, b, c⟩)
  · have hA : SQA ((T (tN v0)).getD sv0) ((T' (tN v0)).getD sv0) := (hT _ (NTD_8 a0)).get
    have hH : OQ SQA (if v1 = -4 then none else T (tN v1)) (if v1 = -4 then none else T' (tN v1)) := by
      by_cases q : v1 = -4
      · rw [if_pos q, if_pos q]; exact Or.inl ⟨rfl, rfl⟩
      · rw [if_neg q, if_neg q]
        rcases a1 with z | z
        · exact absurd z q
        · exact hT _ (NTD_8 z)
    have hB := plB_cg hA hH he
    refine Or.inr (Or.inr ⟨⟨(NTD_iff hT).mp a0, a1.elim Or.inl (fun z => Or.inr ((NTD_iff hT).mp z)), a2, a3, a4, a5⟩, b, ?_⟩)
    rcases c with ⟨c, d⟩ | ⟨l, row, c1, c2, c3, d⟩
    · exact Or.inl ⟨fun l hl => by rw [← hB]; exact c l hl, d⟩
    · exact Or.inr ⟨l, row, c1, by rw [← hB]; exact c2, fun k hk => by rw [← hB]; exact c3 k hk, d⟩
theorem PLA.uniq {y : Int32} (h1 : PLA m ev T v0 v1 v2 v3 x) (h2 : PLA m ev T v0 v1 v2 v3 y) : x = y := by
  have key : (NTD T v0 ∧ (v1 = -4 ∨ NTD T v1) ∧ 0 ≤ v2.toInt ∧ v2.toInt ≤ 3 ∧ 0 ≤ v3.toInt ∧ v3.toInt ≤ 1) → ¬ (¬ NTD T v0 ∨ (v1 ≠ -4 ∧ ¬ NTD T v1) ∨ v2.toInt < 0 ∨ 3 < v2.toInt ∨ v3.toInt < 0 ∨ 1 < v3.toInt) := by
    rintro ⟨a0, a1, a2, a3, a4, a5⟩ q
    rcases q with q | ⟨q, q'⟩ | q
    · exact q a0
    · exact a1.elim q q'
    · omega
  rcases h1 with ⟨a, b⟩ | ⟨a, b, c⟩ | ⟨a, b, c⟩
  · rcases h2 with ⟨a', b'⟩ | ⟨a', b', c'⟩ | ⟨a', b', c'⟩
    · rw [b, b']
    · exact absurd a (key a')
    · exact absurd a (key a')
  · rcases h2 with ⟨a', b'⟩ | ⟨a', b', c'⟩ | ⟨a', b', c'⟩
    · exact absurd a' (key a)
    · rw [c, c']
    · exact absurd b b'
  · rcases h2 with ⟨a', b'⟩ | ⟨a', b', c'⟩ | ⟨a', b', c'⟩
    · exact absurd a' (key a)
    · exact absurd b' b
    · rcases c with ⟨c, d⟩ | ⟨l, row, c1, c2, c3, d⟩
      · rcases c' with ⟨c', d'⟩ | ⟨l', row', c1', c2', c3', d'⟩
        · rw [d, d']
        · exfalso; rw [c l' c1'] at c2'; cases c2'
      · rcases c' with ⟨c', d'⟩ | ⟨l', row', c1', c2', c3', d'⟩
        · exfalso; rw [c' l c1] at c2; cases c2
        · have e : l = l' := by
            rcases Nat.lt_trichotomy l l' with q | q | q
            · exfalso; rw [c3' l q] at c2; cases c2
            · exact q
            · exfalso; rw [c3 l' q] at c2'; cases c2'
          subst e
          rw [c2] at c2'
          cases c2'
          rw [d, d']
end TQS
