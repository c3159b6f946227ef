/-! strings, tape, parser: what is asked of them -/
theorem sl_le (i : Nat) : sLen.getD i 0 ≤ 8 := by
  by_cases h : i < 14
  · have key : ∀ i, i < 14 → sLen.getD i 0 ≤ 8 := by decide +kernel
    exact key i h
  · have e : sLen.getD i 0 = 0 := by rw [List.getD_eq_getElem?_getD, List.getElem?_eq_none (show sLen.length ≤ i by show 14 ≤ i; omega)]; rfl
    rw [e]; omega
theorem nI_nn {n : Nat} (h : n < 2 ^ 31) : ¬ nI n < 0 := by
  rw [Int32.lt_iff_toInt_lt, nI_toInt h]
  have e : (0 : Int32).toInt = 0 := rfl
  omega
theorem ble4 {n : Nat} (h : n ≤ 1000) : Nat.ble (n * componentBytes .int) 536870912 = true := Nat.ble_eq_true_of_le (by show n * 4 ≤ 536870912; omega)
theorem cnN_le {rm : Room} {k n s s' k' n' : Nat} (h : s' ≤ s) (hk : cnN rm k n s k' n' = true) : cnN rm k n s' k' n' = true := by
  simp only [cnN, Bool.and_eq_true] at *
  have h1 := Nat.le_of_ble_eq_true hk.2.1
  exact ⟨hk.1, Nat.ble_eq_true_of_le (by omega), hk.2.2⟩
theorem shr_0 (x : Int32) : x >>> ((0 : Int32) &&& 31) = x := by
  have e : ((0 : Int32) &&& 31) = 0 := by decide
  rw [e]; simp
theorem sb_c {i j : Nat} (hi : i < sLen.length) (hj : j < sLen.getD i 0) {x y : Int32} (ex : (sByt.getD i []).getD j 0 &&& 255 = x) (ey : (x.toUInt32 % 65536).toInt32 = y) : y = (sByt.getD i []).getD j 0 := by
  have key : ∀ i, i < 14 → ∀ j, j < 8 → (((sByt.getD i []).getD j 0 &&& 255).toUInt32 % 65536).toInt32 = (sByt.getD i []).getD j 0 := by decide +kernel
  subst ey; subst ex
  exact key i hi j (Nat.lt_of_lt_of_le hj (sl_le i))
theorem sb_n {i j : Nat} (hi : i < sLen.length) (hj : j < sLen.getD i 0) : narrow .char (.int ((sByt.getD i []).getD j 0)) = .int ((sByt.getD i []).getD j 0) := by
  have key : ∀ i, i < 14 → ∀ j, j < 8 → narrow .char (.int ((sByt.getD i []).getD j 0)) = .int ((sByt.getD i []).getD j 0) := by decide +kernel
  exact key i hi j (Nat.lt_of_lt_of_le hj (sl_le i))
/-- bytes from fr on up to j lie between lo and hi -/
def RGX (fb : Nat → Int32) (fr j : Nat) (lo hi : Int) : Prop := ∀ i, fr ≤ i → i < j → lo ≤ (fb i).toInt ∧ (fb i).toInt ≤ hi
theorem RGX.nil {fb : Nat → Int32} {fr : Nat} {lo hi : Int} : RGX fb fr fr lo hi := fun i h1 h2 => absurd h1 (by omega)
theorem RGX.ext {fb : Nat → Int32} {fr j : Nat} {lo hi : Int} {x : Int32} (h : RGX fb fr j lo hi) (e : fb j = x) (h1 : lo ≤ x.toInt) (h2 : x.toInt ≤ hi) : RGX fb fr (j + 1) lo hi := by
  intro i a b
  by_cases q : i = j
  · rw [q, e]; exact ⟨h1, h2⟩
  · exact h i a (by omega)
theorem RGX.at {fb : Nat → Int32} {fr j i : Nat} {lo hi : Int} (h : RGX fb fr j lo hi) (h1 : fr ≤ i) (h2 : i < j) : lo ≤ (fb i).toInt ∧ (fb i).toInt ≤ hi := h i h1 h2
theorem bh_c {fb : Nat → Int32} {tl fr j : Nat} {zl zh : Int} (hr : RGX fb fr j zl zh) (h1 : fr ≤ j) (h2 : j ≤ tl) (ht : tl ≤ 160) (hl : 0 ≤ zl) (hh : zh ≤ 127) (hs : j < tl → (fb j).toInt < zl ∨ zh < (fb j).toInt) : bh (cz fb tl) zl zh fr = j := by
  apply bh_u h1 (by omega)
  · intro k a b
    exact (cz_in (by omega) hl hh).mpr (hr k a b)
  · intro h
    by_cases q : j < tl
    · have h3 := (cz_in q hl hh).mp h
      have h4 := hs q
      omega
    · rw [cz_0 (by omega)] at h; omega
theorem nz_eq {x : Int32} {lo hi : Int} (h0 : 0 ≤ lo) (h1 : hi ≤ 127) (h : lo ≤ nz x ∧ nz x ≤ hi) : nz x = x.toInt := by
  unfold nz at *
  split at h
  · rw [if_pos (by assumption)]
  · omega
theorem TX.fg {fb : Nat → Int32} {tl s k e : Nat} (h : TX (cz fb tl) s k e) (hk : k = 2) : s < tl ∧ 48 ≤ (fb s).toInt ∧ (fb s).toInt ≤ 57 ∧ cz fb tl s = (fb s).toInt := by
  have h1 := h.fig hk
  have h2 : s < tl := cz_lt (f := fb) (by omega)
  have h3 := (cz_in h2 (by decide) (by decide)).mp h1
  refine ⟨h2, h3.1, h3.2, ?_⟩
  rw [cz_1 h2] at *
  exact nz_eq (lo := 48) (hi := 57) (by decide) (by decide) h1
/-- where the token is a number, its byte is a figure -/
def FG2 (tk : Nat) (fb : Nat → Int32) (ts : Nat) : Prop := tk = 2 → 48 ≤ (fb ts).toInt ∧ (fb ts).toInt ≤ 57
def fgv (tk : Nat) (fb : Nat → Int32) (ts : Nat) : Int32 := if tk = 2 then fb ts - 48 else 0
theorem fgv_1 {tk ts : Nat} {fb : Nat → Int32} {x v : Int32} (h : tk = 2) (e1 : fb ts = x) (e2 : x - 48 = v) : v = fgv tk fb ts := by
  subst e2; subst e1; unfold fgv; rw [if_pos h]
theorem fgv_0 {tk ts : Nat} {fb : Nat → Int32} (h : tk ≠ 2) : (0 : Int32) = fgv tk fb ts := by unfold fgv; rw [if_neg h]
theorem fgv_r {tk ts : Nat} {fb : Nat → Int32} (h : FG2 tk fb ts) : 0 ≤ (fgv tk fb ts).toInt ∧ (fgv tk fb ts).toInt ≤ 9 := by
  unfold fgv
  by_cases q : tk = 2
  · rw [if_pos q]
    have h1 := h q
    have e := i_sub (x := fb ts) (y := 48) rfl rfl (by have e48 : (48 : Int32).toInt = 48 := rfl; omega) (by have e48 : (48 : Int32).toInt = 48 := rfl; omega)
    have e48 : (48 : Int32).toInt = 48 := rfl
    rw [e]; omega
  · rw [if_neg q]; decide
theorem TX.fg2 {fb : Nat → Int32} {tl s k e : Nat} (h : TX (cz fb tl) s k e) : FG2 k fb s := fun hk => ⟨(h.fg hk).2.1, (h.fg hk).2.2.1⟩
theorem fgv_z {fb : Nat → Int32} {tl s k e : Nat} (h : TX (cz fb tl) s k e) (hk : k = 2) : (fgv k fb s).toInt = cz fb tl s - 48 := by
  obtain ⟨h1, h2, h3, h4⟩ := h.fg hk
  unfold fgv
  rw [if_pos hk, h4]
  have e48 : (48 : Int32).toInt = 48 := rfl
  have e := i_sub (x := fb s) (y := 48) rfl rfl (by omega) (by omega)
  rw [e]; omega
theorem fgv_n {fb : Nat → Int32} {tl s k e : Nat} (h : TX (cz fb tl) s k e) (hk : k = 2) : fgv k fb s = nI (cz fb tl s - 48).toNat := by
  have h1 := fgv_z h hk
  have h2 := h.fig hk
  apply Int32.toInt_inj.mp
  rw [h1, nI_toInt (by omega)]
  omega
theorem aF_in {c : Nat → Int} {p s k e n : Nat} (h : TK c p s k e) (hi : IN c s k e n) (hn : n < 14) : aF c p = n := by
  obtain ⟨h1, h2, h3⟩ := h
  unfold aF; rw [← h1, ← h2, ← h3]; exact aT_of hi hn
theorem aF_eq {c : Nat → Int} {p s k e : Nat} (h : TK c p s k e) : aF c p = aT c s k e := by
  obtain ⟨h1, h2, h3⟩ := h
  unfold aF; rw [← h1, ← h2, ← h3]
theorem gF_eq {c : Nat → Int} {p s k e : Nat} (h : TK c p s k e) : gF c p = gT c s k e := by
  obtain ⟨h1, h2, h3⟩ := h
  unfold gF; rw [← h1, ← h2, ← h3]
theorem aF_ni {c : Nat → Int} {p s k e n : Nat} (h : TK c p s k e) (hi : ¬ IN c s k e n) (hn : n < 14) : aF c p ≠ n := by
  rw [aF_eq h]; exact aT_nn hi hn
/-! the afters, step by step, from the tokens as they were read -/
theorem ag_stop {c : Nat → Int} {f p n v w s k e : Nat} (h0 : TK c p s k e) (hi : ¬ IN c s k e 13) : afC c (f + 1) p n v w = .inr (p, n, v, w) := af_no (aF_ni h0 hi (by omega))
theorem ag_b1 {c : Nat → Int} {f p n v w s k e : Nat} (h0 : TK c p s k e) (hi : IN c s k e 13) (hn : 2 ≤ n) : afC c (f + 1) p n v w = .inl s := by
  rw [af_full (aF_in h0 hi (by omega)) hn, h0.1]
theorem ag_b2 {c : Nat → Int} {f p n v w s k e s1 k1 e1 : Nat} (h0 : TK c p s k e) (hi : IN c s k e 13) (hn : n < 2) (h1 : TK c e s1 k1 e1) (hk : k1 ≠ 2 ∨ 51 < c s1) : afC c (f + 1) p n v w = .inl s1 := by
  obtain ⟨a1, a2, a3⟩ := id h0
  obtain ⟨b1, b2, b3⟩ := h1
  rw [a3] at b1 b2
  rw [af_1 (aF_in h0 hi (by omega)) hn (by rw [← b1, ← b2]; exact hk), b1]
theorem ag_b3 {c : Nat → Int} {f p n v w s k e s1 k1 e1 : Nat} (h0 : TK c p s k e) (hi : IN c s k e 13) (hn : n < 2) (h1 : TK c e s1 k1 e1) (hk : k1 = 2) (hc : c s1 ≤ 51) (h2 : sK c e1 = 3) : afC c (f + 1) p n v w = .inl (sS c e1) := by
  obtain ⟨a1, a2, a3⟩ := id h0
  obtain ⟨b1, b2, b3⟩ := h1
  rw [a3] at b1 b2 b3
  rw [af_2 (aF_in h0 hi (by omega)) hn (by rw [← b2]; exact hk) (by rw [← b1]; exact hc) (by rw [← b3]; exact h2), b3]
theorem ag_go {c : Nat → Int} {f p n v w s k e s1 k1 e1 s2 k2 e2 : Nat} (h0 : TK c p s k e) (hi : IN c s k e 13) (hn : n < 2) (h1 : TK c e s1 k1 e1) (hk : k1 = 2) (hc : c s1 ≤ 51) (h2 : TK c e1 s2 k2 e2) (hk2 : k2 ≠ 3) : afC c (f + 1) p n v w = afC c f e1 (n + 1) (if n = 0 then (c s1 - 48).toNat else v) (if n = 0 then w else (c s1 - 48).toNat) := by
  obtain ⟨a1, a2, a3⟩ := id h0
  obtain ⟨b1, b2, b3⟩ := h1
  obtain ⟨d1, d2, d3⟩ := h2
  rw [a3] at b1 b2 b3
  rw [af_3 (aF_in h0 hi (by omega)) hn (by rw [← b2]; exact hk) (by rw [← b1]; exact hc) (by rw [← b3, ← d2]; exact hk2), b3, b1]
/-- the events of a saying's afters -/
def AFI (n : Nat) (af : Nat → Int32) : Prop := ∀ k, k < n → ∃ j : Nat, j < 4 ∧ af k = nI j
theorem AFI.nil {af : Nat → Int32} : AFI 0 af := fun k h => absurd h (by omega)
theorem AFI.ext {n : Nat} {af g : Nat → Int32} {x : Int32} (h : AFI n af) (e : upd af n x = g) (h0 : 0 ≤ x.toInt) (h1 : x.toInt < 4) : AFI (n + 1) g := by
  intro k hk
  rw [← e]
  by_cases q : k = n
  · rw [q, pk_us]
    obtain ⟨j, e1, e2⟩ := nI_ex (x := x) (n := 3) h0 (by omega)
    exact ⟨j, by omega, e1⟩
  · rw [pk_un q]; exact h k (by omega)
theorem AFI.cpy {n : Nat} {af g h : Nat → Int32} (hA : AFI n af) (e : va_cpy af g 0 0 n = h) : AFI n h := by
  intro k hk
  rw [← e]
  have e2 : va_cpy af g 0 0 n k = af k := by unfold va_cpy; rw [if_pos (by omega)]; congr 1; omega
  rw [e2]; exact hA k hk
/-- nodes read so far -/
def OPV (n : Nat) (o : Nat → Int32) : Prop := (∀ i, i < n → 0 ≤ (o i).toInt ∧ (o i).toInt ≤ 8) ∧ ∀ i, i < n → 1 ≤ opn o i
theorem OPV.nil {o : Nat → Int32} : OPV 0 o := ⟨fun i h => absurd h (by omega), fun i h => absurd h (by omega)⟩
theorem opn_congr {o p : Nat → Int32} : ∀ n : Nat, (∀ i, i < n → p i = o i) → opn p n = opn o n
  | 0, _ => rfl
  | n + 1, h => by rw [opn_s, opn_s, opn_congr n (fun i hi => h i (by omega)), h n (by omega)]
theorem OPV.ext {n : Nat} {o p : Nat → Int32} {x : Int32} (h : OPV n o) (e : upd o n x = p) (h0 : 0 ≤ x.toInt) (h8 : x.toInt ≤ 8) (ho : 1 ≤ opn o n) : OPV (n + 1) p ∧ opn p (n + 1) = opn o n + uN x - 1 := by
  have hp : ∀ i, i < n → p i = o i := fun i hi => by rw [← e]; exact pk_un (by omega)
  have hn : p n = x := by rw [← e]; exact pk_us
  have hc : ∀ i, i ≤ n → opn p i = opn o i := fun i hi => opn_congr i (fun j hj => hp j (by omega))
  refine ⟨⟨fun i hi => ?_, fun i hi => ?_⟩, ?_⟩
  · by_cases q : i = n
    · rw [q, hn]; exact ⟨h0, h8⟩
    · rw [hp i (by omega)]; exact h.1 i (by omega)
  · rw [hc i (by omega)]
    by_cases q : i = n
    · rw [q]; exact ho
    · exact h.2 i (by omega)
  · rw [opn_s, hc n (by omega), hn]
theorem OPV.wf {n : Nat} {o : Nat → Int32} (h : OPV n o) (h1 : 1 ≤ n) (h2 : n ≤ 32) (h3 : opn o n = 0) : WFs n o := ⟨h1, h2, h.1, h.2, h3⟩
theorem WFs.cpy {n : Nat} {o g h : Nat → Int32} (w : WFs n o) (e : va_cpy o g 0 0 n = h) : WFs n h := by
  have hp : ∀ i, i < n → h i = o i := fun i hi => by
    rw [← e]; unfold va_cpy; rw [if_pos (by omega)]; congr 1; omega
  have hc : ∀ i, i ≤ n → opn h i = opn o i := fun i hi => opn_congr i (fun j hj => hp j (by omega))
  refine ⟨w.1, w.2.1, fun i hi => ?_, fun i hi => ?_, ?_⟩
  · rw [hp i hi]; exact w.2.2.1 i hi
  · rw [hc i (by omega)]; exact w.2.2.2.1 i hi
  · rw [hc n (by omega)]; exact w.2.2.2.2
theorem uN_a0 {x : Int32} (h : x.toInt = 0 ∨ x.toInt = 1) : uN x = 0 := by unfold uN; rw [if_pos h]
theorem uN_a2 {x : Int32} (h : x.toInt = 3 ∨ x.toInt = 4) : uN x = 2 := by unfold uN; rw [if_neg (by omega), if_pos h]
theorem uN_a1 {x : Int32} (h : x.toInt ≠ 0 ∧ x.toInt ≠ 1 ∧ x.toInt ≠ 3 ∧ x.toInt ≠ 4) : uN x = 1 := by unfold uN; rw [if_neg (by omega), if_neg (by omega)]
/-! eight bytes -/
def bexp (v : Int64) (i : Nat) : Int32 := vp_nar .byte ((((v.toUInt64 >>> ((nI (56 - 8 * i)).toInt64.toUInt64 &&& Int64.toUInt64 63)).toInt64).toInt32).toInt8.toInt32)
def BYW (fb g : Nat → Int32) (tl i : Nat) (v : Int64) : Prop := (∀ k, k < tl → g k = fb k) ∧ ∀ j, j < i → g (tl + j) = bexp v j
theorem BYW.nil {fb : Nat → Int32} {tl : Nat} {v : Int64} : BYW fb fb tl 0 v := ⟨fun _ _ => rfl, fun j h => absurd h (by omega)⟩
theorem BYW.ext {fb g g' : Nat → Int32} {tl i : Nat} {v l : Int64} {x y : Int32} (h : BYW fb g tl i v) (e1 : (v.toUInt64 >>> ((nI (56 - 8 * i)).toInt64.toUInt64 &&& Int64.toUInt64 63)).toInt64 = l) (e2 : l.toInt32 = x) (e3 : x.toInt8.toInt32 = y) (e : upd g (tl + i) (vp_nar .byte y) = g') : BYW fb g' tl (i + 1) v := by
  subst e1; subst e2; subst e3
  refine ⟨fun k hk => ?_, fun j hj => ?_⟩
  · rw [← e, pk_un (by omega)]; exact h.1 k hk
  · by_cases q : j = i
    · rw [q, ← e, pk_us]; rfl
    · rw [← e, pk_un (by omega)]; exact h.2 j (by omega)
/-! names and groups, as the class finds them -/
def sgL : List Nat := [13, 0, 1, 2, 3, 4, 5, 6, 7, 8, 10, 9, 11, 12]
theorem str_w : ∀ i, i < 14 → sLen.getD i 0 = wdL (sgL.getD i 0) ∧ sgL.getD i 0 < 14 ∧ ∀ j, j < 8 → j < sLen.getD i 0 → ((sByt.getD i []).getD j 0).toInt = wdB (sgL.getD i 0) j ∧ 97 ≤ ((sByt.getD i []).getD j 0).toInt ∧ ((sByt.getD i []).getD j 0).toInt ≤ 122 := by decide +kernel
theorem in_ext {fb : Nat → Int32} {tl ts i i1 : Nat} {x : Int32} (hi : i < sLen.length) (hm : ∀ j, j < i1 → cz fb tl (ts + j) = wdB (sgL.getD i 0) j) (hj : i1 < sLen.getD i 0) (hl : ts + i1 < tl) (e : fb (ts + i1) = x) (hz : x.toInt = ((sByt.getD i []).getD i1 0).toInt) : ∀ j, j < i1 + 1 → cz fb tl (ts + j) = wdB (sgL.getD i 0) j := by
  intro j hj1
  by_cases q : j = i1
  · have h1 := (str_w i hi).2.2 i1 (Nat.lt_of_lt_of_le hj (sl_le i)) hj
    rw [q, cz_1 hl, e, ← h1.1, ← hz]
    unfold nz
    rw [if_pos (by omega)]
  · exact hm j (by omega)
theorem in_no {fb : Nat → Int32} {tl ts tk ta i i1 : Nat} {x : Int32} (hi : i < sLen.length) (hj : i1 < sLen.getD i 0) (hl : ts + i1 < tl) (e : fb (ts + i1) = x) (hz : x.toInt ≠ ((sByt.getD i []).getD i1 0).toInt) : ¬ IN (cz fb tl) ts tk ta (sgL.getD i 0) := by
  intro h
  have h1 := (str_w i hi).2.2 i1 (Nat.lt_of_lt_of_le hj (sl_le i)) hj
  have h2 := h.2.2 i1 (by rw [← (str_w i hi).1]; exact hj)
  rw [cz_1 hl, e, ← h1.1] at h2
  have h3 := nz_eq (x := x) (lo := 97) (hi := 122) (by decide) (by decide) (by omega)
  omega
theorem letk {x : Int32} (h0 : 97 ≤ x.toInt) (h1 : x.toInt ≤ 122) : ∃ j : Nat, x - 97 = nI j ∧ j ≤ 25 ∧ (j : Int) = x.toInt - 97 := by
  have e97 : (97 : Int32).toInt = 97 := rfl
  have e := i_sub (x := x) (y := 97) rfl rfl (by omega) (by omega)
  obtain ⟨j, e1, e2⟩ := nI_ex (x := x - 97) (n := 25) (by omega) (by omega)
  refine ⟨j, e1, e2, ?_⟩
  rw [e1, nI_toInt (by omega)] at e
  omega
theorem or4 : ∀ a, a < 16 → ∀ k, k < 4 → nI a ||| nI (2 ^ k) = nI (a ||| 2 ^ k) := by decide +kernel
theorem or4l : ∀ a, a < 16 → ∀ k, k < 4 → a ||| 2 ^ k < 16 := by decide +kernel
theorem gr_go {c : Nat → Int} {e i a j : Nat} (hi : i < e) (hc : 97 ≤ c i ∧ c i ≤ 100) (hj : (j : Int) = c i - 97) (hb : a.testBit j = false) : gr c (e - i) i a = gr c (e - (i + 1)) (i + 1) (a ||| 2 ^ j) := by
  have h1 : (c i - 97).toNat = j := by omega
  rw [show e - i = e - (i + 1) + 1 by omega]
  show (if 97 ≤ c i ∧ c i ≤ 100 ∧ a.testBit (c i - 97).toNat = false then gr c (e - (i + 1)) (i + 1) (a ||| 2 ^ (c i - 97).toNat) else 0) = _
  rw [h1, if_pos ⟨hc.1, hc.2, hb⟩]
theorem gr_bad {c : Nat → Int} {e i a j : Nat} (hi : i < e) (hj : (j : Int) = c i - 97) (h : 4 ≤ j ∨ a.testBit j = true) : gr c (e - i) i a = 0 := by
  have h1 : (c i - 97).toNat = j := by omega
  rw [show e - i = e - (i + 1) + 1 by omega]
  show (if 97 ≤ c i ∧ c i ≤ 100 ∧ a.testBit (c i - 97).toNat = false then gr c (e - (i + 1)) (i + 1) (a ||| 2 ^ (c i - 97).toNat) else 0) = _
  rw [h1, if_neg]
  rintro ⟨q1, q2, q3⟩
  rcases h with h | h
  · omega
  · rw [q3] at h; cases h
theorem gr_end {c : Nat → Int} {e i a : Nat} (h : e ≤ i) : gr c (e - i) i a = a := by rw [show e - i = 0 by omega]; rfl
theorem gT_1 {c : Nat → Int} {s k e : Nat} (h : k = 1) : gT c s k e = gr c (e - s) s 0 := by unfold gT; rw [if_pos h]
theorem gT_0 {c : Nat → Int} {s k e : Nat} (h : k ≠ 1) : gT c s k e = 0 := by unfold gT; rw [if_neg h]
theorem tb_f {a k : Nat} (ha : a < 16) (h : bt (nI a) k = false) : a.testBit k = false := by rw [← bt_nI (by omega)]; exact h
theorem tb_t {a k : Nat} (ha : a < 16) (h : bt (nI a) k = true) : a.testBit k = true := by rw [← bt_nI (by omega)]; exact h
theorem TX.cl {fb : Nat → Int32} {tl s k e j : Nat} {x : Int32} (h : TX (cz fb tl) s k e) (hk : k = 1) (h1 : s ≤ j) (h2 : j < e) (ex : fb j = x) : 97 ≤ x.toInt ∧ x.toInt ≤ 122 ∧ cz fb tl j = x.toInt := by
  have h3 := h.let hk j h1 h2
  have h4 : j < tl := cz_lt (f := fb) (by omega)
  have h5 := (cz_in h4 (by decide) (by decide)).mp h3
  rw [cz_1 h4] at *
  rw [ex] at *
  exact ⟨h5.1, h5.2, nz_eq (lo := 97) (hi := 122) (by decide) (by decide) h3⟩
def gO (g : Nat) : Nat := if cb g.testBit 32 ≠ 1 then 0 else g
theorem gO_0 {g : Nat} (hg : g < 16) (h : (bcf (nI g)).toInt ≠ 1) : gO g = 0 := by
  unfold gO
  rw [bcf_nI (by omega), nI_toInt (by have := cb_le g.testBit 32; omega)] at h
  rw [if_pos (by omega)]
theorem gO_1 {g : Nat} (hg : g < 16) (h : (bcf (nI g)).toInt = 1) : gO g = g := by
  unfold gO
  rw [bcf_nI (by omega), nI_toInt (by have := cb_le g.testBit 32; omega)] at h
  rw [if_neg (by omega)]
theorem gO_lt {g : Nat} (hg : g < 16) : gO g < 16 := by unfold gO; split <;> omega
theorem gA_1 {a g : Nat} (h : a < 10) : gA a g = gO g := by
  unfold gA gO
  by_cases q : cb g.testBit 32 ≠ 1
  · rw [if_pos ⟨h, q⟩, if_pos q]
  · rw [if_neg (fun p => q p.2), if_neg q]
theorem gA_0 {a g : Nat} (h : 10 ≤ a) : gA a g = g := by
  unfold gA
  rw [if_neg (fun p => by omega)]
theorem fv_no {a : Nat} (h0 : a ≠ 0) (h1 : a ≠ 1) (h2 : a ≠ 2) (h3 : a ≠ 3) : (0 : Int32) = fv a := by
  unfold fv; rw [if_neg h0, if_neg h1, if_neg h2, if_neg h3]
theorem argV_0 {a g : Nat} (h : 4 ≤ a) (h8 : a < 8) : (0 : Int32) = argV a g := by
  unfold argV; rw [if_pos h8]; exact fv_no (by omega) (by omega) (by omega) (by omega)
theorem argV_f {a g : Nat} (h : a < 4) : fv a = argV a g := by unfold argV; rw [if_pos (by omega)]
theorem argV_g {a g : Nat} (h : 8 ≤ a) : nI g = argV a g := by unfold argV; rw [if_neg (by omega)]
theorem wt_u : ∀ a, a < 13 → uN (opV a) = (wt a : Int) := by decide +kernel
/-! the saying, step by step, from the tokens as they were read -/
section STEPS
variable {c : Nat → Int} {p n o o' s k e s1 k1 e1 s2 k2 e2 : Nat}
theorem sg_a (h0 : TK c p s k e) (ha : aT c s k e < 8) (hn : n < 32) (h1 : TK c e s1 k1 e1) (hk : k1 ≠ 3) (ho : o' + 1 = o + wt (aT c s k e)) : stp c p n o = .inr (e, n + 1, o') := by
  have ea := aF_eq h0
  obtain ⟨a1, a2, a3⟩ := h0
  obtain ⟨b1, b2, b3⟩ := h1
  unfold stp
  rw [ea, ← a3, if_neg (by omega), if_neg (by omega), if_pos ha]
  have : o + wt (aT c s k e) - 1 = o' := by omega
  rw [this]
theorem sg_b (h0 : TK c p s k e) (ha : 8 ≤ aT c s k e) (ha2 : aT c s k e < 13) (hn : n < 32) (h1 : TK c e s1 k1 e1) (hk : k1 ≠ 3) (hg : gA (aT c s k e) (gT c s1 k1 e1) ≠ 0) (hn2 : n + 1 < 32) (h2 : TK c e1 s2 k2 e2) (hk2 : k2 ≠ 3) : stp c p n o = .inr (e1, n + 2, o) := by
  have ea := aF_eq h0
  have eg := gF_eq h1
  obtain ⟨a1, a2, a3⟩ := h0
  obtain ⟨b1, b2, b3⟩ := h1
  obtain ⟨d1, d2, d3⟩ := h2
  unfold stp
  rw [ea, ← a3, if_neg (by omega), if_neg (by omega), if_neg (by omega), eg, if_neg (by omega), ← b3, if_neg (by omega)]
theorem sg_f1 (h0 : TK c p s k e) (h : 13 ≤ aT c s k e ∨ 32 ≤ n) : stp c p n o = .inl s := by
  have ea := aF_eq h0
  unfold stp
  rw [ea, if_pos h, h0.1]
theorem sg_f2 (h0 : TK c p s k e) (ha : aT c s k e < 13) (hn : n < 32) (h1 : sK c e = 3) : stp c p n o = .inl (sS c e) := by
  have ea := aF_eq h0
  obtain ⟨a1, a2, a3⟩ := h0
  unfold stp
  rw [ea, ← a3, if_neg (by omega), if_pos h1]
theorem sg_f3 (h0 : TK c p s k e) (ha : 8 ≤ aT c s k e) (ha2 : aT c s k e < 13) (hn : n < 32) (h1 : TK c e s1 k1 e1) (hk : k1 ≠ 3) (hg : gA (aT c s k e) (gT c s1 k1 e1) = 0 ∨ 32 ≤ n + 1) : stp c p n o = .inl s1 := by
  have ea := aF_eq h0
  have eg := gF_eq h1
  obtain ⟨a1, a2, a3⟩ := h0
  obtain ⟨b1, b2, b3⟩ := h1
  unfold stp
  rw [ea, ← a3, if_neg (by omega), if_neg (by omega), if_neg (by omega), eg, if_pos hg, b1]
theorem sg_f4 (h0 : TK c p s k e) (ha : 8 ≤ aT c s k e) (ha2 : aT c s k e < 13) (hn : n < 32) (h1 : TK c e s1 k1 e1) (hk : k1 ≠ 3) (hg : gA (aT c s k e) (gT c s1 k1 e1) ≠ 0) (hn2 : n + 1 < 32) (h2 : sK c e1 = 3) : stp c p n o = .inl (sS c e1) := by
  have ea := aF_eq h0
  have eg := gF_eq h1
  obtain ⟨a1, a2, a3⟩ := h0
  obtain ⟨b1, b2, b3⟩ := h1
  unfold stp
  rw [ea, ← a3, if_neg (by omega), if_neg (by omega), if_neg (by omega), eg, if_neg (by omega), ← b3, if_pos h2]
end STEPS
/-- the names read so far, in the class's rows -/
def OPX (c : Nat → Int) (p n : Nat) (fo fa : Nat → Int32) : Prop := ∀ i, i < n → fo i = opV (aI c p i) ∧ fa i = argV (aI c p i) (gI c p i) ∧ aI c p i < 13 ∧ gI c p i < 16
theorem OPX.nil {c : Nat → Int} {p : Nat} {fo fa : Nat → Int32} : OPX c p 0 fo fa := fun i h => absurd h (by omega)
theorem OPX.ext {c : Nat → Int} {p n a g : Nat} {fo fa fo' fa' : Nat → Int32} {x y : Int32} (h : OPX c p n fo fa) (e1 : upd fo n x = fo') (e2 : upd fa n y = fa') (ha : aI c p n = a) (hg : gI c p n = g) (hx : x = opV a) (hy : y = argV a g) (ha2 : a < 13) (hg2 : g < 16) : OPX c p (n + 1) fo' fa' := by
  intro i hi
  by_cases q : i = n
  · rw [q, ← e1, ← e2, pk_us, pk_us, ha, hg]; exact ⟨hx, hy, ha2, hg2⟩
  · rw [← e1, ← e2, pk_un q, pk_un q]; exact h i (by omega)
theorem gI_a {c : Nat → Int} {p i q n o s k e : Nat} (h : it c p i = .inr (q, n, o)) (h0 : TK c q s k e) (ha : aT c s k e < 8) : gI c p i = 0 := by
  rw [gI_at h, aF_eq h0, if_pos ha]
theorem gI_b {c : Nat → Int} {p i q n o s k e s1 k1 e1 : Nat} (h : it c p i = .inr (q, n, o)) (h0 : TK c q s k e) (ha : 8 ≤ aT c s k e) (h1 : TK c e s1 k1 e1) : gI c p i = gA (aT c s k e) (gT c s1 k1 e1) := by
  have e3 := h0.2.2
  have eg := gF_eq h1
  rw [e3] at eg
  rw [gI_at h, aF_eq h0, if_neg (by omega), eg, e3]
theorem aI_t {c : Nat → Int} {p i q n o s k e : Nat} (h : it c p i = .inr (q, n, o)) (h0 : TK c q s k e) : aI c p i = aT c s k e := by
  rw [aI_at h, aF_eq h0]
theorem dJ0_coder_7d493_0 : decode cJ0_coder_7d493 0 = .ok (.getstatic 38, 3) := by decide +kernel
theorem wf_J0_38 : Cond.fieldLink RJ0 38 RJ0 "COMPACT_STRINGS" "Z" ∈ TB := tbm (tq3 (List.mem_of_getElem? (i := 50) (by decide +kernel))) (by decide +kernel)
theorem dJ0_coder_7d493_3 : decode cJ0_coder_7d493 3 = .ok (.ifCond .eq 10, 3) := by decide +kernel
theorem dJ0_coder_7d493_6 : decode cJ0_coder_7d493 6 = .ok (.aload_n 0, 1) := by decide +kernel
theorem dJ0_coder_7d493_7 : decode cJ0_coder_7d493 7 = .ok (.getfield 15, 3) := by decide +kernel
theorem wf_J0_15 : Cond.fieldLink RJ0 15 RJ0 "coder" "B" ∈ TB := tbm (tq7 (List.mem_of_getElem? (i := 99) (by decide +kernel))) (by decide +kernel)
theorem dJ0_coder_7d493_10 : decode cJ0_coder_7d493 10 = .ok (.goto 4, 3) := by decide +kernel
theorem dJ0_coder_7d493_14 : decode cJ0_coder_7d493 14 = .ok (.ireturn, 1) := by decide +kernel
set_option maxRecDepth 100000 in
set_option maxHeartbeats 4000000 in
theorem j_coder (l : Launch) (E : EV) (ro : va_W) (i : Nat) (hsi : i < sLen.length) : CT l yJ0_coder_7d493 (Cond.code yJ0_coder_7d493 cJ0_coder_7d493 1 (some .byte) :: TB) ({ frames := 0, cells := 0, slots := 0, locals := 0 }) E ro [.ref (E.2.2 (sIdx.getD i 0))] [] (Qi E (fun (rz : Int32) uz => (rz = 0 ∧ uz = []))) 0 0 := by
  refine ct_of rfl rfl ?_
  intro X C hT hin hro
  show WW X 1 E 0 [(0, .ref (E.2.2 (sIdx.getD i 0)))] [] [] 0 0
  refine ww_getCS C wf_J0_38 dJ0_coder_7d493_0 ?_
  refine ww_if_eq_f (tgt := 13) C dJ0_coder_7d493_3 (by decide) (by decide) ?_
  refine ww_aload_n C dJ0_coder_7d493_6 0 rfl rfl ?_
  refine ww_getCd (i := i) C hsi wf_J0_15 dJ0_coder_7d493_7 ?_
  refine ww_goto (tgt := 14) C dJ0_coder_7d493_10 (by decide) ?_
  exact ww_bret (u := []) C hT [] rfl rfl rfl rfl rfl dJ0_coder_7d493_14 (⟨rfl, rfl⟩)
theorem dJ0_length_8abf5_0 : decode cJ0_length_8abf5 0 = .ok (.aload_n 0, 1) := by decide +kernel
theorem dJ0_length_8abf5_1 : decode cJ0_length_8abf5 1 = .ok (.getfield 9, 3) := by decide +kernel
theorem wf_J0_9 : Cond.fieldLink RJ0 9 RJ0 "value" "[B" ∈ TB := tbm (tq7 (List.mem_of_getElem? (i := 98) (by decide +kernel))) (by decide +kernel)
theorem dJ0_length_8abf5_4 : decode cJ0_length_8abf5 4 = .ok (.arraylength, 1) := by decide +kernel
theorem dJ0_length_8abf5_5 : decode cJ0_length_8abf5 5 = .ok (.aload_n 0, 1) := by decide +kernel
theorem dJ0_length_8abf5_6 : decode cJ0_length_8abf5 6 = .ok (.invokevirtual 335, 3) := by decide +kernel
theorem wl_J0_335 : Cond.methodLink RJ0 335 yJ0_coder_7d493 ∈ TB := tbm (tq3 (List.mem_of_getElem? (i := 46) (by decide +kernel))) (by decide +kernel)
theorem wc_J0_coder_7d493 : Cond.code yJ0_coder_7d493 cJ0_coder_7d493 1 (some .byte) ∈ TB := tbm (tq3 (List.mem_of_getElem? (i := 49) (rfl))) (by decide +kernel)
theorem wn_J0 : Cond.initialized RJ0 ∈ TB := tbm (tq1 (List.mem_of_getElem? (i := 16) (by decide +kernel))) (by decide +kernel)
theorem wi_J0_coder_7d493 : Cond.instanceMethod yJ0_coder_7d493 ∈ TB := tbm (tq3 (List.mem_of_getElem? (i := 47) (by decide +kernel))) (by decide +kernel)
theorem ws_J0_coder_7d493 : Cond.selects RJ0 yJ0_coder_7d493 yJ0_coder_7d493 ∈ TB := tbm (tq3 (List.mem_of_getElem? (i := 48) (by decide +kernel))) (by decide +kernel)
theorem mi_J0_coder_7d493 : MI yJ0_coder_7d493 cJ0_coder_7d493 1 (some .byte) 0 := ⟨wc_J0_coder_7d493, wn_J0, ⟨by decide +kernel, by decide +kernel, by decide +kernel⟩, wi_J0_coder_7d493, ws_J0_coder_7d493⟩
theorem dJ0_length_8abf5_9 : decode cJ0_length_8abf5 9 = .ok (.ishr, 1) := by decide +kernel
theorem dJ0_length_8abf5_10 : decode cJ0_length_8abf5 10 = .ok (.ireturn, 1) := by decide +kernel
set_option maxRecDepth 100000 in
set_option maxHeartbeats 4000000 in
theorem j_length (l : Launch) (E : EV) (ro : va_W) (i : Nat) (hsi : i < sLen.length) : CT l yJ0_length_8abf5 (Cond.code yJ0_length_8abf5 cJ0_length_8abf5 1 (some .int) :: TB) ({ frames := 1, cells := 0, slots := 0, locals := 20 }) E ro [.ref (E.2.2 (sIdx.getD i 0))] [] (Qi E (fun (rz : Int32) uz => (rz = (nI (sLen.getD i 0)) ∧ uz = []))) 0 0 := by
  refine ct_of rfl rfl ?_
  intro X C hT hin hro
  show WW X 1 E 0 [(0, .ref (E.2.2 (sIdx.getD i 0)))] [] [] 0 0
  refine ww_aload_n C dJ0_length_8abf5_0 0 rfl rfl ?_
  refine ww_getVl (i := i) C hsi wf_J0_9 dJ0_length_8abf5_1 ?_
  refine ww_lenS (i := i) (v := (nI (sLen.getD i 0))) C hsi rfl dJ0_length_8abf5_4 ?_
  refine ww_aload_n C dJ0_length_8abf5_5 0 rfl rfl ?_
  refine ww_ci (wr := []) (k' := 0) (n' := 0) C (run_VS (As := []) (rest := [.int (nI (sLen.getD i 0))]) C i hsi (j_coder X.2.1 E ro i hsi) mi_J0_coder_7d493 wl_J0_335 rfl rfl rfl rfl rfl dJ0_length_8abf5_6) (roK hro) [] [] rfl rfl rfl rfl (fun r_1 uz hw => ?_)
  refine an1 hw ?_
  clear hw
  intro he_2 hw
  have he_3 := hw
  clear hw
  have he_2 := he_2.symm
  subst he_2
  subst he_3
  refine ww_eq (ws' := []) ?_ rfl rfl rfl
  refine ww_ishr (v := (nI (sLen.getD i 0))) C dJ0_length_8abf5_9 (shr_0 _) ?_
  exact ww_iret (u := []) C hT [] rfl rfl rfl rfl dJ0_length_8abf5_10 (⟨rfl, rfl⟩)
theorem dJ0_isLatin1_aae02_0 : decode cJ0_isLatin1_aae02 0 = .ok (.getstatic 38, 3) := by decide +kernel
theorem dJ0_isLatin1_aae02_3 : decode cJ0_isLatin1_aae02 3 = .ok (.ifCond .eq 14, 3) := by decide +kernel
theorem dJ0_isLatin1_aae02_6 : decode cJ0_isLatin1_aae02 6 = .ok (.aload_n 0, 1) := by decide +kernel
theorem dJ0_isLatin1_aae02_7 : decode cJ0_isLatin1_aae02 7 = .ok (.getfield 15, 3) := by decide +kernel
theorem dJ0_isLatin1_aae02_10 : decode cJ0_isLatin1_aae02 10 = .ok (.ifCond .ne 7, 3) := by decide +kernel
theorem dJ0_isLatin1_aae02_13 : decode cJ0_isLatin1_aae02 13 = .ok (.iconst 1, 1) := by decide +kernel
theorem dJ0_isLatin1_aae02_14 : decode cJ0_isLatin1_aae02 14 = .ok (.goto 4, 3) := by decide +kernel
theorem dJ0_isLatin1_aae02_18 : decode cJ0_isLatin1_aae02 18 = .ok (.ireturn, 1) := by decide +kernel
set_option maxRecDepth 100000 in
set_option maxHeartbeats 4000000 in
theorem j_isLatin1 (l : Launch) (E : EV) (ro : va_W) (i : Nat) (hsi : i < sLen.length) : CT l yJ0_isLatin1_aae02 (Cond.code yJ0_isLatin1_aae02 cJ0_isLatin1_aae02 1 (some .boolean) :: TB) ({ frames := 0, cells := 0, slots := 0, locals := 0 }) E ro [.ref (E.2.2 (sIdx.getD i 0))] [] (Qi E (fun (rz : Int32) uz => (rz = 1 ∧ uz = []))) 0 0 := by
  refine ct_of rfl rfl ?_
  intro X C hT hin hro
  show WW X 1 E 0 [(0, .ref (E.2.2 (sIdx.getD i 0)))] [] [] 0 0
  refine ww_getCS C wf_J0_38 dJ0_isLatin1_aae02_0 ?_
  refine ww_if_eq_f (tgt := 17) C dJ0_isLatin1_aae02_3 (by decide) (by decide) ?_
  refine ww_aload_n C dJ0_isLatin1_aae02_6 0 rfl rfl ?_
  refine ww_getCd (i := i) C hsi wf_J0_15 dJ0_isLatin1_aae02_7 ?_
  refine ww_if_ne_f (tgt := 17) C dJ0_isLatin1_aae02_10 (by decide) (rfl) ?_
  refine ww_iconst (v := 1) C dJ0_isLatin1_aae02_13 rfl ?_
  refine ww_goto (tgt := 18) C dJ0_isLatin1_aae02_14 (by decide) ?_
  exact ww_zret (u := []) C hT [] rfl rfl rfl rfl rfl dJ0_isLatin1_aae02_18 (⟨rfl, rfl⟩)
theorem dJ3_checkIndex_8e157_0 : decode cJ3_checkIndex_8e157 0 = .ok (.iload_n 0, 1) := by decide +kernel
theorem dJ3_checkIndex_8e157_1 : decode cJ3_checkIndex_8e157 1 = .ok (.ifCond .lt 8, 3) := by decide +kernel
theorem dJ3_checkIndex_8e157_4 : decode cJ3_checkIndex_8e157 4 = .ok (.iload_n 0, 1) := by decide +kernel
theorem dJ3_checkIndex_8e157_5 : decode cJ3_checkIndex_8e157 5 = .ok (.iload_n 1, 1) := by decide +kernel
theorem dJ3_checkIndex_8e157_6 : decode cJ3_checkIndex_8e157 6 = .ok (.if_icmp .lt 10, 3) := by decide +kernel
theorem dJ3_checkIndex_8e157_16 : decode cJ3_checkIndex_8e157 16 = .ok (.iload_n 0, 1) := by decide +kernel
theorem dJ3_checkIndex_8e157_17 : decode cJ3_checkIndex_8e157 17 = .ok (.ireturn, 1) := by decide +kernel
set_option maxRecDepth 100000 in
set_option maxHeartbeats 4000000 in
theorem j_chk3N (l : Launch) (E : EV) (ro : va_W) (j : Nat) (m : Nat) (hj : j < m) (hm : m ≤ 1000) : CT l yJ3_checkIndex_8e157 (Cond.code yJ3_checkIndex_8e157 cJ3_checkIndex_8e157 3 (some .int) :: TB) ({ frames := 0, cells := 0, slots := 0, locals := 0 }) E ro [.int (nI j), .int (nI m), .null] [] (Qi E (fun (rz : Int32) uz => (rz = (nI j) ∧ uz = []))) 0 0 := by
  refine ct_of rfl rfl ?_
  intro X C hT hin hro
  show WW X 3 E 0 [(0, .int (nI j)), (1, .int (nI m)), (2, .null)] [] [] 0 0
  refine ww_iload_n C dJ3_checkIndex_8e157_0 0 rfl rfl ?_
  refine ww_if_lt (tgt := 9) C dJ3_checkIndex_8e157_1 (by decide) (fun c_1 => ?_) (fun c_1 => ?_)
  · have zc_1 : ((j : Nat) : Int) < 0 := i_lt (nI_toInt (n := j) (by omega)) rfl c_1
    omega
  · have zc_1 : ((j : Nat) : Int) ≥ 0 := i_nlt (nI_toInt (n := j) (by omega)) rfl c_1
    refine ww_iload_n C dJ3_checkIndex_8e157_4 0 rfl rfl ?_
    refine ww_iload_n C dJ3_checkIndex_8e157_5 1 rfl rfl ?_
    refine ww_icmp_lt (tgt := 16) C dJ3_checkIndex_8e157_6 (by decide) (fun c_2 => ?_) (fun c_2 => ?_)
    · have zc_2 : ((j : Nat) : Int) < ((m : Nat) : Int) := i_lt (nI_toInt (n := j) (by omega)) (nI_toInt (n := m) (by omega)) c_2
      refine ww_iload_n C dJ3_checkIndex_8e157_16 0 rfl rfl ?_
      exact ww_iret (u := []) C hT [] rfl rfl rfl rfl dJ3_checkIndex_8e157_17 (⟨rfl, rfl⟩)
    · have zc_2 : ((j : Nat) : Int) ≥ ((m : Nat) : Int) := i_nlt (nI_toInt (n := j) (by omega)) (nI_toInt (n := m) (by omega)) c_2
      omega
set_option maxRecDepth 100000 in
set_option maxHeartbeats 4000000 in
theorem j_chk3R (l : Launch) (E : EV) (ro : va_W) (j : Nat) (m : Nat) (fm : Nat) (hj : j < m) (hm : m ≤ 1000) : CT l yJ3_checkIndex_8e157 (Cond.code yJ3_checkIndex_8e157 cJ3_checkIndex_8e157 3 (some .int) :: TB) ({ frames := 0, cells := 0, slots := 0, locals := 0 }) E ro [.int (nI j), .int (nI m), .ref fm] [] (Qi E (fun (rz : Int32) uz => (rz = (nI j) ∧ uz = []))) 0 0 := by
  refine ct_of rfl rfl ?_
  intro X C hT hin hro
  show WW X 3 E 0 [(0, .int (nI j)), (1, .int (nI m)), (2, .ref fm)] [] [] 0 0
  refine ww_iload_n C dJ3_checkIndex_8e157_0 0 rfl rfl ?_
  refine ww_if_lt (tgt := 9) C dJ3_checkIndex_8e157_1 (by decide) (fun c_1 => ?_) (fun c_1 => ?_)
  · have zc_1 : ((j : Nat) : Int) < 0 := i_lt (nI_toInt (n := j) (by omega)) rfl c_1
    omega
  · have zc_1 : ((j : Nat) : Int) ≥ 0 := i_nlt (nI_toInt (n := j) (by omega)) rfl c_1
    refine ww_iload_n C dJ3_checkIndex_8e157_4 0 rfl rfl ?_
    refine ww_iload_n C dJ3_checkIndex_8e157_5 1 rfl rfl ?_
    refine ww_icmp_lt (tgt := 16) C dJ3_checkIndex_8e157_6 (by decide) (fun c_2 => ?_) (fun c_2 => ?_)
    · have zc_2 : ((j : Nat) : Int) < ((m : Nat) : Int) := i_lt (nI_toInt (n := j) (by omega)) (nI_toInt (n := m) (by omega)) c_2
      refine ww_iload_n C dJ3_checkIndex_8e157_16 0 rfl rfl ?_
      exact ww_iret (u := []) C hT [] rfl rfl rfl rfl dJ3_checkIndex_8e157_17 (⟨rfl, rfl⟩)
    · have zc_2 : ((j : Nat) : Int) ≥ ((m : Nat) : Int) := i_nlt (nI_toInt (n := j) (by omega)) (nI_toInt (n := m) (by omega)) c_2
      omega
theorem dJ0_checkIndex_df160_0 : decode cJ0_checkIndex_df160 0 = .ok (.iload_n 0, 1) := by decide +kernel
theorem dJ0_checkIndex_df160_1 : decode cJ0_checkIndex_df160 1 = .ok (.iload_n 1, 1) := by decide +kernel
theorem dJ0_checkIndex_df160_2 : decode cJ0_checkIndex_df160 2 = .ok (.getstatic 1053, 3) := by decide +kernel
theorem wf_J0_1053 : Cond.fieldLink RJ0 1053 RJ3 "SIOOBE_FORMATTER" "Ljava/util/function/BiFunction;" ∈ TB := tbm (tq3 (List.mem_of_getElem? (i := 66) (by decide +kernel))) (by decide +kernel)
theorem dJ0_checkIndex_df160_5 : decode cJ0_checkIndex_df160 5 = .ok (.invokestatic 1059, 3) := by decide +kernel
theorem wl_J0_1059 : Cond.methodLink RJ0 1059 yJ3_checkIndex_8e157 ∈ TB := tbm (tq3 (List.mem_of_getElem? (i := 68) (by decide +kernel))) (by decide +kernel)
theorem wc_J3_checkIndex_8e157 : Cond.code yJ3_checkIndex_8e157 cJ3_checkIndex_8e157 3 (some .int) ∈ TB := tbm (tq3 (List.mem_of_getElem? (i := 70) (rfl))) (by decide +kernel)
theorem wn_J3 : Cond.initialized RJ3 ∈ TB := tbm (tq1 (List.mem_of_getElem? (i := 18) (by decide +kernel))) (by decide +kernel)
theorem wt_J3_checkIndex_8e157 : Cond.static yJ3_checkIndex_8e157 ∈ TB := tbm (tq3 (List.mem_of_getElem? (i := 69) (by decide +kernel))) (by decide +kernel)
theorem ms_J3_checkIndex_8e157 : MS yJ3_checkIndex_8e157 cJ3_checkIndex_8e157 3 (some .int) 3 := ⟨wc_J3_checkIndex_8e157, wn_J3, ⟨by decide +kernel, by decide +kernel, by decide +kernel⟩, wt_J3_checkIndex_8e157⟩
theorem dJ0_checkIndex_df160_8 : decode cJ0_checkIndex_df160 8 = .ok (.pop, 1) := by decide +kernel
theorem dJ0_checkIndex_df160_9 : decode cJ0_checkIndex_df160 9 = .ok (.return_, 1) := by decide +kernel
set_option maxRecDepth 100000 in
set_option maxHeartbeats 4000000 in
theorem j_chk (l : Launch) (E : EV) (ro : va_W) (j : Nat) (m : Nat) (hj : j < m) (hm : m ≤ 1000) : CT l yJ0_checkIndex_df160 (Cond.code yJ0_checkIndex_df160 cJ0_checkIndex_df160 2 none :: TB) ({ frames := 1, cells := 0, slots := 0, locals := 22 }) E ro [.int (nI j), .int (nI m)] [] (Qv E (fun uz => (uz = []))) 0 0 := by
  refine ct_of rfl rfl ?_
  intro X C hT hin hro
  show WW X 2 E 0 [(0, .int (nI j)), (1, .int (nI m))] [] [] 0 0
  refine ww_iload_n C dJ0_checkIndex_df160_0 0 rfl rfl ?_
  refine ww_iload_n C dJ0_checkIndex_df160_1 1 rfl rfl ?_
  refine ww_getSF C wf_J0_1053 dJ0_checkIndex_df160_2 ?_ (fun t_1 => ?_)
  · refine ww_ci (wr := []) (k' := 0) (n' := 0) C (run_S (As := [.int (nI j), .int (nI m), .null]) (rest := []) C (j_chk3N X.2.1 E ro j m (by omega) (by omega)) ms_J3_checkIndex_8e157 wl_J0_1059 rfl rfl rfl rfl dJ0_checkIndex_df160_5) (roK hro) [] [] rfl rfl rfl rfl (fun r_2 uz hw => ?_)
    refine an1 hw ?_
    clear hw
    intro he_3 hw
    have he_4 := hw
    clear hw
    have he_3 := he_3.symm
    subst he_3
    subst he_4
    refine ww_eq (ws' := []) ?_ rfl rfl rfl
    refine ww_pop C dJ0_checkIndex_df160_8 rfl ?_
    exact ww_vret (u := []) C hT [] rfl rfl rfl rfl dJ0_checkIndex_df160_9 (rfl)
  · refine ww_ci (wr := []) (k' := 0) (n' := 0) C (run_S (As := [.int (nI j), .int (nI m), .ref t_1]) (rest := []) C (j_chk3R X.2.1 E ro j m t_1 (by omega) (by omega)) ms_J3_checkIndex_8e157 wl_J0_1059 rfl rfl rfl rfl dJ0_checkIndex_df160_5) (roK hro) [] [] rfl rfl rfl rfl (fun r_5 uz hw => ?_)
    refine an1 hw ?_
    clear hw
    intro he_6 hw
    have he_7 := hw
    clear hw
    have he_6 := he_6.symm
    subst he_6
    subst he_7
    refine ww_eq (ws' := []) ?_ rfl rfl rfl
    refine ww_pop C dJ0_checkIndex_df160_8 rfl ?_
    exact ww_vret (u := []) C hT [] rfl rfl rfl rfl dJ0_checkIndex_df160_9 (rfl)
theorem dJ1_charAt_3b067_0 : decode cJ1_charAt_3b067 0 = .ok (.iload_n 1, 1) := by decide +kernel
theorem dJ1_charAt_3b067_1 : decode cJ1_charAt_3b067 1 = .ok (.aload_n 0, 1) := by decide +kernel
theorem dJ1_charAt_3b067_2 : decode cJ1_charAt_3b067 2 = .ok (.arraylength, 1) := by decide +kernel
theorem dJ1_charAt_3b067_3 : decode cJ1_charAt_3b067 3 = .ok (.invokestatic 9, 3) := by decide +kernel
theorem wl_J1_9 : Cond.methodLink RJ1 9 yJ0_checkIndex_df160 ∈ TB := tbm (tq3 (List.mem_of_getElem? (i := 63) (by decide +kernel))) (by decide +kernel)
theorem wc_J0_checkIndex_df160 : Cond.code yJ0_checkIndex_df160 cJ0_checkIndex_df160 2 none ∈ TB := tbm (tq3 (List.mem_of_getElem? (i := 65) (rfl))) (by decide +kernel)
theorem wt_J0_checkIndex_df160 : Cond.static yJ0_checkIndex_df160 ∈ TB := tbm (tq3 (List.mem_of_getElem? (i := 64) (by decide +kernel))) (by decide +kernel)
theorem ms_J0_checkIndex_df160 : MS yJ0_checkIndex_df160 cJ0_checkIndex_df160 2 none 2 := ⟨wc_J0_checkIndex_df160, wn_J0, ⟨by decide +kernel, by decide +kernel, by decide +kernel⟩, wt_J0_checkIndex_df160⟩
theorem dJ1_charAt_3b067_6 : decode cJ1_charAt_3b067 6 = .ok (.aload_n 0, 1) := by decide +kernel
theorem dJ1_charAt_3b067_7 : decode cJ1_charAt_3b067 7 = .ok (.iload_n 1, 1) := by decide +kernel
theorem dJ1_charAt_3b067_8 : decode cJ1_charAt_3b067 8 = .ok (.baload, 1) := by decide +kernel
theorem dJ1_charAt_3b067_9 : decode cJ1_charAt_3b067 9 = .ok (.sipush 255, 3) := by decide +kernel
theorem dJ1_charAt_3b067_12 : decode cJ1_charAt_3b067 12 = .ok (.iand, 1) := by decide +kernel
theorem dJ1_charAt_3b067_13 : decode cJ1_charAt_3b067 13 = .ok (.i2c, 1) := by decide +kernel
theorem dJ1_charAt_3b067_14 : decode cJ1_charAt_3b067 14 = .ok (.ireturn, 1) := by decide +kernel
set_option maxRecDepth 100000 in
set_option maxHeartbeats 4000000 in
theorem j_chr1 (l : Launch) (E : EV) (ro : va_W) (j : Nat) (i : Nat) (hsi : i < sLen.length) (hj : j < sLen.getD i 0) : CT l yJ1_charAt_3b067 (Cond.code yJ1_charAt_3b067 cJ1_charAt_3b067 2 (some .char) :: TB) ({ frames := 2, cells := 0, slots := 0, locals := 43 }) E ro [.ref (E.2.2 (1000 + i)), .int (nI j)] [] (Qi E (fun (rz : Int32) uz => (rz = ((sByt.getD i []).getD j 0) ∧ uz = []))) 0 0 := by
  refine ct_of rfl rfl ?_
  intro X C hT hin hro
  show WW X 2 E 0 [(0, .ref (E.2.2 (1000 + i))), (1, .int (nI j))] [] [] 0 0
  have hsl := sl_le i
  refine ww_iload_n C dJ1_charAt_3b067_0 1 rfl rfl ?_
  refine ww_aload_n C dJ1_charAt_3b067_1 0 rfl rfl ?_
  refine ww_lenS (i := i) (v := (nI (sLen.getD i 0))) C hsi rfl dJ1_charAt_3b067_2 ?_
  refine ww_cv (wr := []) (k' := 0) (n' := 0) C (run_S (As := [.int (nI j), .int (nI (sLen.getD i 0))]) (rest := []) C (j_chk X.2.1 E ro j (sLen.getD i 0) (by omega) (by omega)) ms_J0_checkIndex_df160 wl_J1_9 rfl rfl rfl rfl dJ1_charAt_3b067_3) (roK hro) [] [] rfl rfl rfl rfl (fun uz hw => ?_)
  have he_2 := hw
  clear hw
  subst he_2
  refine ww_eq (ws' := []) ?_ rfl rfl rfl
  refine ww_aload_n C dJ1_charAt_3b067_6 0 rfl rfl ?_
  refine ww_iload_n C dJ1_charAt_3b067_7 1 rfl rfl ?_
  refine ww_baldS (i := i) (v := ((sByt.getD i []).getD j 0)) C hsi (vp_in_nI (by omega) (by omega)) (ldn (f := fun q => (sByt.getD i []).getD q 0) (by omega) rfl) dJ1_charAt_3b067_8 ?_
  refine ww_sipush (v := 255) C dJ1_charAt_3b067_9 rfl ?_
  obtain ⟨x_3, ex_3⟩ : ∃ z : Int32, ((sByt.getD i []).getD j 0) &&& 255 = z := ⟨_, rfl⟩
  refine ww_iand (v := x_3) C dJ1_charAt_3b067_12 ex_3 ?_
  obtain ⟨x_4, ex_4⟩ : ∃ z : Int32, (x_3.toUInt32 % 65536).toInt32 = z := ⟨_, rfl⟩
  refine ww_i2c (v := x_4) C dJ1_charAt_3b067_13 ex_4 ?_
  refine ww_eq (st' := [.int ((sByt.getD i []).getD j 0)]) ?_ rfl (by rw [sb_c (y := x_4) hsi hj (by assumption) (by assumption)]) rfl
  exact ww_cret (u := []) C hT [] rfl rfl rfl rfl (sb_n hsi hj) dJ1_charAt_3b067_14 (⟨rfl, rfl⟩)
theorem dJ0_charAt_5068e_0 : decode cJ0_charAt_5068e 0 = .ok (.aload_n 0, 1) := by decide +kernel
theorem dJ0_charAt_5068e_1 : decode cJ0_charAt_5068e 1 = .ok (.invokevirtual 492, 3) := by decide +kernel
theorem wl_J0_492 : Cond.methodLink RJ0 492 yJ0_isLatin1_aae02 ∈ TB := tbm (tq3 (List.mem_of_getElem? (i := 56) (by decide +kernel))) (by decide +kernel)
theorem wc_J0_isLatin1_aae02 : Cond.code yJ0_isLatin1_aae02 cJ0_isLatin1_aae02 1 (some .boolean) ∈ TB := tbm (tq3 (List.mem_of_getElem? (i := 59) (rfl))) (by decide +kernel)
theorem wi_J0_isLatin1_aae02 : Cond.instanceMethod yJ0_isLatin1_aae02 ∈ TB := tbm (tq3 (List.mem_of_getElem? (i := 57) (by decide +kernel))) (by decide +kernel)
theorem ws_J0_isLatin1_aae02 : Cond.selects RJ0 yJ0_isLatin1_aae02 yJ0_isLatin1_aae02 ∈ TB := tbm (tq3 (List.mem_of_getElem? (i := 58) (by decide +kernel))) (by decide +kernel)
theorem mi_J0_isLatin1_aae02 : MI yJ0_isLatin1_aae02 cJ0_isLatin1_aae02 1 (some .boolean) 0 := ⟨wc_J0_isLatin1_aae02, wn_J0, ⟨by decide +kernel, by decide +kernel, by decide +kernel⟩, wi_J0_isLatin1_aae02, ws_J0_isLatin1_aae02⟩
theorem dJ0_charAt_5068e_4 : decode cJ0_charAt_5068e 4 = .ok (.ifCond .eq 12, 3) := by decide +kernel
theorem dJ0_charAt_5068e_7 : decode cJ0_charAt_5068e 7 = .ok (.aload_n 0, 1) := by decide +kernel
theorem dJ0_charAt_5068e_8 : decode cJ0_charAt_5068e 8 = .ok (.getfield 9, 3) := by decide +kernel
theorem dJ0_charAt_5068e_11 : decode cJ0_charAt_5068e 11 = .ok (.iload_n 1, 1) := by decide +kernel
theorem dJ0_charAt_5068e_12 : decode cJ0_charAt_5068e 12 = .ok (.invokestatic 495, 3) := by decide +kernel
theorem wl_J0_495 : Cond.methodLink RJ0 495 yJ1_charAt_3b067 ∈ TB := tbm (tq3 (List.mem_of_getElem? (i := 60) (by decide +kernel))) (by decide +kernel)
theorem wc_J1_charAt_3b067 : Cond.code yJ1_charAt_3b067 cJ1_charAt_3b067 2 (some .char) ∈ TB := tbm (tq3 (List.mem_of_getElem? (i := 62) (rfl))) (by decide +kernel)
theorem wn_J1 : Cond.initialized RJ1 ∈ TB := tbm (tq1 (List.mem_of_getElem? (i := 17) (by decide +kernel))) (by decide +kernel)
theorem wt_J1_charAt_3b067 : Cond.static yJ1_charAt_3b067 ∈ TB := tbm (tq3 (List.mem_of_getElem? (i := 61) (by decide +kernel))) (by decide +kernel)
theorem ms_J1_charAt_3b067 : MS yJ1_charAt_3b067 cJ1_charAt_3b067 2 (some .char) 2 := ⟨wc_J1_charAt_3b067, wn_J1, ⟨by decide +kernel, by decide +kernel, by decide +kernel⟩, wt_J1_charAt_3b067⟩
theorem dJ0_charAt_5068e_15 : decode cJ0_charAt_5068e 15 = .ok (.ireturn, 1) := by decide +kernel
set_option maxRecDepth 100000 in
set_option maxHeartbeats 4000000 in
theorem j_chr0 (l : Launch) (E : EV) (ro : va_W) (j : Nat) (i : Nat) (hsi : i < sLen.length) (hj : j < sLen.getD i 0) : CT l yJ0_charAt_5068e (Cond.code yJ0_charAt_5068e cJ0_charAt_5068e 2 (some .char) :: TB) ({ frames := 3, cells := 0, slots := 0, locals := 64 }) E ro [.ref (E.2.2 (sIdx.getD i 0)), .int (nI j)] [] (Qi E (fun (rz : Int32) uz => (rz = ((sByt.getD i []).getD j 0) ∧ uz = []))) 0 0 := by
  refine ct_of rfl rfl ?_
  intro X C hT hin hro
  show WW X 2 E 0 [(0, .ref (E.2.2 (sIdx.getD i 0))), (1, .int (nI j))] [] [] 0 0
  have hsl := sl_le i
  refine ww_aload_n C dJ0_charAt_5068e_0 0 rfl rfl ?_
  refine ww_ci (wr := []) (k' := 0) (n' := 0) C (run_VS (As := []) (rest := []) C i hsi (j_isLatin1 X.2.1 E ro i hsi) mi_J0_isLatin1_aae02 wl_J0_492 rfl rfl rfl rfl rfl dJ0_charAt_5068e_1) (roK hro) [] [] rfl rfl rfl rfl (fun r_1 uz hw => ?_)
  refine an1 hw ?_
  clear hw
  intro he_2 hw
  have he_3 := hw
  clear hw
  have he_2 := he_2.symm
  subst he_2
  subst he_3
  refine ww_eq (ws' := []) ?_ rfl rfl rfl
  refine ww_if_eq_f (tgt := 16) C dJ0_charAt_5068e_4 (by decide) (by decide) ?_
  refine ww_aload_n C dJ0_charAt_5068e_7 0 rfl rfl ?_
  refine ww_getVl (i := i) C hsi wf_J0_9 dJ0_charAt_5068e_8 ?_
  refine ww_iload_n C dJ0_charAt_5068e_11 1 rfl rfl ?_
  refine ww_ci (wr := []) (k' := 0) (n' := 0) C (run_S (As := [.ref (E.2.2 (1000 + i)), .int (nI j)]) (rest := []) C (j_chr1 X.2.1 E ro j i hsi (by omega)) ms_J1_charAt_3b067 wl_J0_495 rfl rfl rfl rfl dJ0_charAt_5068e_12) (roK hro) [] [] rfl rfl rfl rfl (fun r_4 uz hw => ?_)
  refine an1 hw ?_
  clear hw
  intro he_5 hw
  have he_6 := hw
  clear hw
  have he_5 := he_5.symm
  subst he_5
  subst he_6
  refine ww_eq (ws' := []) ?_ rfl rfl rfl
  exact ww_cret (u := []) C hT [] rfl rfl rfl rfl (sb_n hsi hj) dJ0_charAt_5068e_15 (⟨rfl, rfl⟩)
