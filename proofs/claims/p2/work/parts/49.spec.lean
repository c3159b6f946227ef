/-! ===== the text: bytes, tokens, names, what is read ===== -/
/-- a byte as a number; those that are no sign are all alike -/
def nz (x : Int32) : Int := if 0 ≤ x.toInt ∧ x.toInt ≤ 127 then x.toInt else 200
/-- the text, -4 behind its end -/
def cz (f : Nat → Int32) (t : Nat) : Nat → Int := fun k => if k < t then nz (f k) else -4
theorem nz_in {x : Int32} {lo hi : Int} (h0 : 0 ≤ lo) (h1 : hi ≤ 127) : (lo ≤ nz x ∧ nz x ≤ hi) ↔ (lo ≤ x.toInt ∧ x.toInt ≤ hi) := by
  unfold nz; split <;> omega
theorem nz_nn (x : Int32) : 0 ≤ nz x := by unfold nz; split <;> omega
theorem cz_0 {f : Nat → Int32} {t k : Nat} (h : t ≤ k) : cz f t k = -4 := by unfold cz; rw [if_neg (by omega)]
theorem cz_1 {f : Nat → Int32} {t k : Nat} (h : k < t) : cz f t k = nz (f k) := by unfold cz; rw [if_pos h]
theorem cz_in {f : Nat → Int32} {t k : Nat} {lo hi : Int} (h : k < t) (h0 : 0 ≤ lo) (h1 : hi ≤ 127) : (lo ≤ cz f t k ∧ cz f t k ≤ hi) ↔ (lo ≤ (f k).toInt ∧ (f k).toInt ≤ hi) := by
  rw [cz_1 h]; exact nz_in h0 h1
theorem cz_lt {f : Nat → Int32} {t k : Nat} (h : 0 ≤ cz f t k) : k < t := by
  apply Classical.byContradiction
  intro hk
  rw [cz_0 (by omega)] at h
  omega
theorem cz_nn {f : Nat → Int32} {t k : Nat} (h : k < t) : 0 ≤ cz f t k := by rw [cz_1 h]; exact nz_nn _
def rn (c : Nat → Int) (lo hi : Int) : Nat → Nat → Nat
  | 0, i => i
  | f + 1, i => if lo ≤ c i ∧ c i ≤ hi then rn c lo hi f (i + 1) else i
/-- behind the bytes from i on that lie between lo and hi -/
def bh (c : Nat → Int) (lo hi : Int) (i : Nat) : Nat := rn c lo hi 161 i
theorem rn_u {c : Nat → Int} {lo hi : Int} : ∀ (f i j : Nat), i ≤ j → j < i + f → (∀ k, i ≤ k → k < j → lo ≤ c k ∧ c k ≤ hi) → ¬ (lo ≤ c j ∧ c j ≤ hi) → rn c lo hi f i = j
  | 0, i, j, h1, h2, _, _ => absurd h2 (by omega)
  | f + 1, i, j, h1, h2, h3, h4 => by
    unfold rn
    by_cases q : i = j
    · subst q; rw [if_neg h4]
    · rw [if_pos (h3 i (Nat.le_refl _) (by omega))]
      exact rn_u f (i + 1) j (by omega) (by omega) (fun k a b => h3 k (by omega) b) h4
theorem bh_u {c : Nat → Int} {lo hi : Int} {i j : Nat} (h1 : i ≤ j) (h2 : j ≤ 160) (h3 : ∀ k, i ≤ k → k < j → lo ≤ c k ∧ c k ≤ hi) (h4 : ¬ (lo ≤ c j ∧ c j ≤ hi)) : bh c lo hi i = j := rn_u 161 i j h1 (by omega) h3 h4
theorem rn_in {c : Nat → Int} {lo hi : Int} : ∀ (f i k : Nat), i ≤ k → k < rn c lo hi f i → lo ≤ c k ∧ c k ≤ hi
  | 0, i, k, h1, h2 => by unfold rn at h2; omega
  | f + 1, i, k, h1, h2 => by
    unfold rn at h2
    by_cases q : lo ≤ c i ∧ c i ≤ hi
    · rw [if_pos q] at h2
      by_cases e : k = i
      · rw [e]; exact q
      · exact rn_in f (i + 1) k (by omega) h2
    · rw [if_neg q] at h2; omega
theorem bh_in {c : Nat → Int} {lo hi : Int} {i k : Nat} (h1 : i ≤ k) (h2 : k < bh c lo hi i) : lo ≤ c k ∧ c k ≤ hi := rn_in 161 i k h1 h2
/-- the token that is read from i on: where it begins, what it is (0 end, 1 name, 2 number, 3 none), its end -/
def sS (c : Nat → Int) (i : Nat) : Nat := bh c 32 32 i
def sK (c : Nat → Int) (i : Nat) : Nat := if c (sS c i) < 0 then 0 else if 97 ≤ c (sS c i) ∧ c (sS c i) ≤ 122 then 1 else if bh c 48 57 (sS c i) = sS c i + 1 then 2 else 3
def sE (c : Nat → Int) (i : Nat) : Nat := if c (sS c i) < 0 then sS c i else if 97 ≤ c (sS c i) ∧ c (sS c i) ≤ 122 then bh c 97 122 (sS c i) else bh c 48 57 (sS c i)
def TK (c : Nat → Int) (i s k e : Nat) : Prop := s = sS c i ∧ k = sK c i ∧ e = sE c i
def TX (c : Nat → Int) (s k e : Nat) : Prop := ∃ i, TK c i s k e
theorem tk_end {c : Nat → Int} {i s : Nat} (h1 : bh c 32 32 i = s) (h2 : c s < 0) : TK c i s 0 s := by
  have e : sS c i = s := h1
  refine ⟨e.symm, ?_, ?_⟩
  · unfold sK; rw [e, if_pos h2]
  · unfold sE; rw [e, if_pos h2]
theorem tk_name {c : Nat → Int} {i s e : Nat} (h1 : bh c 32 32 i = s) (h2 : 97 ≤ c s ∧ c s ≤ 122) (h3 : bh c 97 122 s = e) : TK c i s 1 e := by
  have e1 : sS c i = s := h1
  refine ⟨e1.symm, ?_, ?_⟩
  · unfold sK; rw [e1, if_neg (by omega), if_pos h2]
  · unfold sE; rw [e1, if_neg (by omega), if_pos h2, h3]
theorem tk_num {c : Nat → Int} {i s e : Nat} (h1 : bh c 32 32 i = s) (h2 : 0 ≤ c s) (h3 : ¬ (97 ≤ c s ∧ c s ≤ 122)) (h4 : bh c 48 57 s = e) (h5 : e = s + 1) : TK c i s 2 e := by
  have e1 : sS c i = s := h1
  refine ⟨e1.symm, ?_, ?_⟩
  · unfold sK; rw [e1, if_neg (by omega), if_neg h3, h4, if_pos h5]
  · unfold sE; rw [e1, if_neg (by omega), if_neg h3, h4]
theorem tk_no {c : Nat → Int} {i s e : Nat} (h1 : bh c 32 32 i = s) (h2 : 0 ≤ c s) (h3 : ¬ (97 ≤ c s ∧ c s ≤ 122)) (h4 : bh c 48 57 s = e) (h5 : e ≠ s + 1) : TK c i s 3 e := by
  have e1 : sS c i = s := h1
  refine ⟨e1.symm, ?_, ?_⟩
  · unfold sK; rw [e1, if_neg (by omega), if_neg h3, h4, if_neg h5]
  · unfold sE; rw [e1, if_neg (by omega), if_neg h3, h4]
/-- a name's bytes are letters -/
theorem TX.let {c : Nat → Int} {s k e : Nat} (h : TX c s k e) (hk : k = 1) : ∀ j, s ≤ j → j < e → 97 ≤ c j ∧ c j ≤ 122 := by
  obtain ⟨i, h1, h2, h3⟩ := h
  rw [hk] at h2
  unfold sK at h2
  by_cases q : c (sS c i) < 0
  · rw [if_pos q] at h2; cases h2
  · rw [if_neg q] at h2
    by_cases q2 : 97 ≤ c (sS c i) ∧ c (sS c i) ≤ 122
    · unfold sE at h3
      rw [if_neg q, if_pos q2] at h3
      intro j a b
      rw [h1] at a; rw [h3] at b
      exact bh_in a b
    · rw [if_neg q2] at h2
      split at h2 <;> cases h2
/-- a number's byte is a figure -/
theorem TX.fig {c : Nat → Int} {s k e : Nat} (h : TX c s k e) (hk : k = 2) : 48 ≤ c s ∧ c s ≤ 57 := by
  obtain ⟨i, h1, h2, h3⟩ := h
  rw [hk] at h2
  unfold sK at h2
  by_cases q : c (sS c i) < 0
  · rw [if_pos q] at h2; cases h2
  · rw [if_neg q] at h2
    by_cases q2 : 97 ≤ c (sS c i) ∧ c (sS c i) ≤ 122
    · rw [if_pos q2] at h2; cases h2
    · rw [if_neg q2] at h2
      by_cases q3 : bh c 48 57 (sS c i) = sS c i + 1
      · rw [h1]; exact bh_in (Nat.le_refl _) (by omega)
      · rw [if_neg q3] at h2; cases h2
/-- the names -/
def wds : List (List Int) := [[112], [113], [114], [115], [121, 101, 115], [110, 111, 116], [97, 110, 100], [111, 114], [107, 110, 111, 119], [119, 104, 101, 116, 104, 101, 114], [101, 118, 101, 114, 121], [99, 111, 109, 109, 111, 110], [116, 111, 103, 101, 116, 104, 101, 114], [97, 102, 116, 101, 114]]
def wdL (n : Nat) : Nat := (wds.getD n []).length
def wdB (n k : Nat) : Int := (wds.getD n []).getD k 0
/-- the token (s, k, e) is the name n -/
def IN (c : Nat → Int) (s k e n : Nat) : Prop := k = 1 ∧ e - s = wdL n ∧ ∀ j, j < wdL n → c (s + j) = wdB n j
theorem wd_ne : ∀ m, m < 14 → ∀ n, n < 14 → m ≠ n → wdL m = wdL n → ∃ j, j < wdL m ∧ wdB m j ≠ wdB n j := by
  have h : ∀ m, m < 14 → ∀ n, n < 14 → m ≠ n → wdL m = wdL n → ∃ j, j < 8 ∧ j < wdL m ∧ wdB m j ≠ wdB n j := by decide +kernel
  intro m hm n hn hne hl
  obtain ⟨j, _, h1, h2⟩ := h m hm n hn hne hl
  exact ⟨j, h1, h2⟩
theorem IN.inj {c : Nat → Int} {s k e m n : Nat} (h1 : IN c s k e m) (h2 : IN c s k e n) (hm : m < 14) (hn : n < 14) : m = n := by
  apply Classical.byContradiction
  intro hne
  obtain ⟨j, hj, hd⟩ := wd_ne m hm n hn hne (h1.2.1.symm.trans h2.2.1)
  exact hd ((h1.2.2 j hj).symm.trans (h2.2.2 j (by rw [← h2.2.1, h1.2.1]; exact hj)))
/-- which name the token is; 14: none -/
noncomputable def aT (c : Nat → Int) (s k e : Nat) : Nat := @dite _ (∃ n, n < 14 ∧ IN c s k e n) (Classical.propDecidable _) (fun h => Classical.choose h) (fun _ => 14)
theorem aT_of {c : Nat → Int} {s k e n : Nat} (h : IN c s k e n) (hn : n < 14) : aT c s k e = n := by
  unfold aT
  rw [dif_pos ⟨n, hn, h⟩]
  have h2 := Classical.choose_spec (⟨n, hn, h⟩ : ∃ n, n < 14 ∧ IN c s k e n)
  exact IN.inj h2.2 h h2.1 hn
theorem aT_no {c : Nat → Int} {s k e : Nat} (h : ∀ n, n < 14 → ¬ IN c s k e n) : aT c s k e = 14 := by
  unfold aT
  rw [dif_neg (fun ⟨n, h1, h2⟩ => h n h1 h2)]
theorem aT_le (c : Nat → Int) (s k e : Nat) : aT c s k e ≤ 14 ∧ (aT c s k e < 14 → IN c s k e (aT c s k e)) := by
  by_cases h : ∃ n, n < 14 ∧ IN c s k e n
  · obtain ⟨n, h1, h2⟩ := h
    rw [aT_of h2 h1]; exact ⟨by omega, fun _ => h2⟩
  · rw [aT_no (fun n h1 h2 => h ⟨n, h1, h2⟩)]; exact ⟨Nat.le_refl _, fun h => absurd h (by omega)⟩
theorem aT_nn {c : Nat → Int} {s k e : Nat} {n : Nat} (h : ¬ IN c s k e n) (hn : n < 14) : aT c s k e ≠ n := fun q => h (by rw [← q]; exact (aT_le c s k e).2 (by rw [q]; exact hn))
/-- the knowers of a group's name; 0: it is none -/
def gr (c : Nat → Int) : Nat → Nat → Nat → Nat
  | 0, _, a => a
  | f + 1, i, a => if 97 ≤ c i ∧ c i ≤ 100 ∧ a.testBit (c i - 97).toNat = false then gr c f (i + 1) (a ||| 2 ^ (c i - 97).toNat) else 0
def gT (c : Nat → Int) (s k e : Nat) : Nat := if k = 1 then gr c (e - s) s 0 else 0
theorem gr_lt (c : Nat → Int) : ∀ (f i a : Nat), a < 16 → gr c f i a < 16
  | 0, i, a, h => h
  | f + 1, i, a, h => by
    unfold gr
    by_cases q : 97 ≤ c i ∧ c i ≤ 100 ∧ a.testBit (c i - 97).toNat = false
    · rw [if_pos q]
      refine gr_lt c f (i + 1) _ ?_
      have hk : ∀ a, a < 16 → ∀ k, k < 4 → a ||| 2 ^ k < 16 := by decide +kernel
      exact hk a h _ (by omega)
    · rw [if_neg q]; omega
theorem gT_lt (c : Nat → Int) (s k e : Nat) : gT c s k e < 16 := by
  unfold gT; split
  · exact gr_lt c _ _ _ (by omega)
  · omega
/-- of know and whether: one knower alone -/
def gA (a g : Nat) : Nat := if a < 10 ∧ cb g.testBit 32 ≠ 1 then 0 else g
def wt (a : Nat) : Nat := if a ≤ 4 then 0 else if a = 6 ∨ a = 7 then 2 else 1
noncomputable def aF (c : Nat → Int) (p : Nat) : Nat := aT c (sS c p) (sK c p) (sE c p)
noncomputable def gF (c : Nat → Int) (p : Nat) : Nat := gT c (sS c p) (sK c p) (sE c p)
/-- one more name is read: where the fault is, or (where the next token is read from, tokens, how many sayings are wanting) -/
noncomputable def stp (c : Nat → Int) (p n o : Nat) : Nat ⊕ (Nat × Nat × Nat) :=
  if 13 ≤ aF c p ∨ 32 ≤ n then .inl (sS c p)
  else if sK c (sE c p) = 3 then .inl (sS c (sE c p))
  else if aF c p < 8 then .inr (sE c p, n + 1, o + wt (aF c p) - 1)
  else if gA (aF c p) (gF c (sE c p)) = 0 ∨ 32 ≤ n + 1 then .inl (sS c (sE c p))
  else if sK c (sE c (sE c p)) = 3 then .inl (sS c (sE c (sE c p)))
  else .inr (sE c (sE c p), n + 2, o)
noncomputable def itn (c : Nat → Int) : Nat ⊕ (Nat × Nat × Nat) → Nat ⊕ (Nat × Nat × Nat)
  | .inl q => .inl q
  | .inr S => if S.2.2 = 0 then .inr S else stp c S.1 S.2.1 S.2.2
noncomputable def it (c : Nat → Int) (p : Nat) : Nat → Nat ⊕ (Nat × Nat × Nat)
  | 0 => .inr (p, 0, 1)
  | k + 1 => itn c (it c p k)
theorem it_s {c : Nat → Int} {p k q n o : Nat} (h : it c p k = .inr (q, n, o)) (ho : o ≠ 0) : it c p (k + 1) = stp c q n o := by
  show itn c (it c p k) = _
  rw [h]
  exact if_neg ho
theorem it_inl {c : Nat → Int} {p k q : Nat} (h : it c p k = .inl q) : ∀ d, it c p (k + d) = .inl q
  | 0 => h
  | d + 1 => by
    show itn c (it c p (k + d)) = _
    rw [it_inl h d]; rfl
theorem it_fin {c : Nat → Int} {p k q n : Nat} (h : it c p k = .inr (q, n, 0)) : ∀ d, it c p (k + d) = .inr (q, n, 0)
  | 0 => h
  | d + 1 => by
    show itn c (it c p (k + d)) = _
    rw [it_fin h d]
    rfl
theorem it_bad {c : Nat → Int} {p k q n o l : Nat} (h : it c p k = .inr (q, n, o)) (ho : o ≠ 0) (hs : stp c q n o = .inl l) (hk : k ≤ 32) : it c p 33 = .inl l := by
  have h1 := it_inl ((it_s h ho).trans hs) (32 - k)
  rw [show k + 1 + (32 - k) = 33 by omega] at h1
  exact h1
theorem it_ok {c : Nat → Int} {p k q n : Nat} (h : it c p k = .inr (q, n, 0)) (hk : k ≤ 33) : it c p 33 = .inr (q, n, 0) := by
  have h1 := it_fin h (33 - k)
  rw [show k + (33 - k) = 33 by omega] at h1
  exact h1
/-- the name and the group that stand at place i -/
noncomputable def aI (c : Nat → Int) (p i : Nat) : Nat := match it c p i with
  | .inl _ => 14
  | .inr S => aF c S.1
noncomputable def gI (c : Nat → Int) (p i : Nat) : Nat := match it c p i with
  | .inl _ => 0
  | .inr S => if aF c S.1 < 8 then 0 else gA (aF c S.1) (gF c (sE c S.1))
theorem aI_at {c : Nat → Int} {p k q n o : Nat} (h : it c p k = .inr (q, n, o)) : aI c p k = aF c q := by unfold aI; rw [h]
theorem gI_at {c : Nat → Int} {p k q n o : Nat} (h : it c p k = .inr (q, n, o)) : gI c p k = if aF c q < 8 then 0 else gA (aF c q) (gF c (sE c q)) := by unfold gI; rw [h]
/-- K names are read -/
def RUN (c : Nat → Int) (p K : Nat) : Prop := ∀ i, i < K → ∃ q n o, it c p i = .inr (q, n, o) ∧ o ≠ 0
theorem RUN.nil {c : Nat → Int} {p : Nat} : RUN c p 0 := fun i h => absurd h (by omega)
theorem RUN.ext {c : Nat → Int} {p K q n o : Nat} (h : RUN c p K) (e : it c p K = .inr (q, n, o)) (ho : o ≠ 0) : RUN c p (K + 1) := fun i hi => by
  by_cases q : i = K
  · rw [q]; exact ⟨_, _, _, e, ho⟩
  · exact h i (by omega)
theorem RUN.uniq {c : Nat → Int} {p K L q n q' n' : Nat} (h1 : RUN c p K) (h2 : RUN c p L) (e1 : it c p K = .inr (q, n, 0)) (e2 : it c p L = .inr (q', n', 0)) : K = L := by
  rcases Nat.lt_trichotomy K L with h | h | h
  · obtain ⟨a, b, o, h3, h4⟩ := h2 K h
    rw [e1] at h3; cases h3; exact absurd rfl h4
  · exact h
  · obtain ⟨a, b, o, h3, h4⟩ := h1 L h
    rw [e2] at h3; cases h3; exact absurd rfl h4
/-- the afters: (where the next token is read from, how many, their events) -/
noncomputable def afC (c : Nat → Int) : Nat → Nat → Nat → Nat → Nat → Nat ⊕ (Nat × Nat × Nat × Nat)
  | 0, _, _, _, _ => .inl 0
  | f + 1, p, n, v, w =>
    if aF c p ≠ 13 then .inr (p, n, v, w)
    else if 2 ≤ n then .inl (sS c p)
    else if sK c (sE c p) ≠ 2 ∨ 51 < c (sS c (sE c p)) then .inl (sS c (sE c p))
    else if sK c (sE c (sE c p)) = 3 then .inl (sS c (sE c (sE c p)))
    else afC c f (sE c (sE c p)) (n + 1) (if n = 0 then (c (sS c (sE c p)) - 48).toNat else v) (if n = 0 then w else (c (sS c (sE c p)) - 48).toNat)
theorem af_no {c : Nat → Int} {f p n v w : Nat} (h : aF c p ≠ 13) : afC c (f + 1) p n v w = .inr (p, n, v, w) := by
  show (if aF c p ≠ 13 then _ else _) = _
  rw [if_pos h]
theorem af_full {c : Nat → Int} {f p n v w : Nat} (h : aF c p = 13) (hn : 2 ≤ n) : afC c (f + 1) p n v w = .inl (sS c p) := by
  show (if aF c p ≠ 13 then _ else _) = _
  rw [if_neg (fun q => q h), if_pos hn]
theorem af_1 {c : Nat → Int} {f p n v w : Nat} (h : aF c p = 13) (hn : n < 2) (h1 : sK c (sE c p) ≠ 2 ∨ 51 < c (sS c (sE c p))) : afC c (f + 1) p n v w = .inl (sS c (sE c p)) := by
  show (if aF c p ≠ 13 then _ else _) = _
  rw [if_neg (fun q => q h), if_neg (by omega), if_pos h1]
theorem af_2 {c : Nat → Int} {f p n v w : Nat} (h : aF c p = 13) (hn : n < 2) (h1 : sK c (sE c p) = 2) (h2 : c (sS c (sE c p)) ≤ 51) (h3 : sK c (sE c (sE c p)) = 3) : afC c (f + 1) p n v w = .inl (sS c (sE c (sE c p))) := by
  show (if aF c p ≠ 13 then _ else _) = _
  rw [if_neg (fun q => q h), if_neg (by omega), if_neg (by omega), if_pos h3]
theorem af_3 {c : Nat → Int} {f p n v w : Nat} (h : aF c p = 13) (hn : n < 2) (h1 : sK c (sE c p) = 2) (h2 : c (sS c (sE c p)) ≤ 51) (h3 : sK c (sE c (sE c p)) ≠ 3) : afC c (f + 1) p n v w = afC c f (sE c (sE c p)) (n + 1) (if n = 0 then (c (sS c (sE c p)) - 48).toNat else v) (if n = 0 then w else (c (sS c (sE c p)) - 48).toNat) := by
  show (if aF c p ≠ 13 then _ else _) = _
  rw [if_neg (fun q => q h), if_neg (by omega), if_neg (by omega), if_neg h3]
/-- how the text ends: its fault's place -/
def SBAD (c : Nat → Int) (l : Nat) : Prop := (sK c 0 = 3 ∧ l = sS c 0) ∨ (sK c 0 ≠ 3 ∧ afC c 3 0 0 0 0 = .inl l) ∨ ∃ p n v w, sK c 0 ≠ 3 ∧ afC c 3 0 0 0 0 = .inr (p, n, v, w) ∧ (it c p 33 = .inl l ∨ ∃ q m, it c p 33 = .inr (q, m, 0) ∧ sK c q ≠ 0 ∧ l = sS c q)
/-- or: afters n, their events v, w; K names from p on, m tokens -/
def SOK (c : Nat → Int) (p n v w K m : Nat) : Prop := sK c 0 ≠ 3 ∧ afC c 3 0 0 0 0 = .inr (p, n, v, w) ∧ K ≤ 33 ∧ RUN c p K ∧ ∃ q, it c p K = .inr (q, m, 0) ∧ sK c q = 0
theorem SBAD.uniq {c : Nat → Int} {l l' : Nat} (h1 : SBAD c l) (h2 : SBAD c l') : l = l' := by
  rcases h1 with ⟨a1, a2⟩ | ⟨a1, a2⟩ | ⟨p, n, v, w, a1, a2, a3⟩
  · rcases h2 with ⟨b1, b2⟩ | ⟨b1, b2⟩ | ⟨p', n', v', w', b1, b2, b3⟩
    · rw [a2, b2]
    · exact absurd a1 b1
    · exact absurd a1 b1
  · rcases h2 with ⟨b1, b2⟩ | ⟨b1, b2⟩ | ⟨p', n', v', w', b1, b2, b3⟩
    · exact absurd b1 a1
    · rw [a2] at b2; cases b2; rfl
    · rw [a2] at b2; cases b2
  · rcases h2 with ⟨b1, b2⟩ | ⟨b1, b2⟩ | ⟨p', n', v', w', b1, b2, b3⟩
    · exact absurd b1 a1
    · rw [a2] at b2; cases b2
    · rw [a2] at b2; cases b2
      rcases a3 with a3 | ⟨q, m, a3, a4, a5⟩
      · rcases b3 with b3 | ⟨q', m', b3, b4, b5⟩
        · rw [a3] at b3; cases b3; rfl
        · rw [a3] at b3; cases b3
      · rcases b3 with b3 | ⟨q', m', b3, b4, b5⟩
        · rw [a3] at b3; cases b3
        · rw [a3] at b3; cases b3; rw [a5, b5]
theorem SOK.not {c : Nat → Int} {p n v w K m l : Nat} (h1 : SOK c p n v w K m) (h2 : SBAD c l) : False := by
  obtain ⟨a1, a2, a3, a4, q, a5, a6⟩ := h1
  rcases h2 with ⟨b1, b2⟩ | ⟨b1, b2⟩ | ⟨p', n', v', w', b1, b2, b3⟩
  · exact a1 b1
  · rw [a2] at b2; cases b2
  · rw [a2] at b2; cases b2
    have e := it_ok a5 a3
    rcases b3 with b3 | ⟨q', m', b3, b4, b5⟩
    · rw [e] at b3; cases b3
    · rw [e] at b3; cases b3; exact b4 a6
theorem SOK.uniq {c : Nat → Int} {p n v w K m p' n' v' w' K' m' : Nat} (h1 : SOK c p n v w K m) (h2 : SOK c p' n' v' w' K' m') : p = p' ∧ n = n' ∧ v = v' ∧ w = w' ∧ K = K' ∧ m = m' := by
  obtain ⟨a1, a2, a3, a4, q, a5, a6⟩ := h1
  obtain ⟨b1, b2, b3, b4, q', b5, b6⟩ := h2
  rw [a2] at b2; cases b2
  have e := RUN.uniq a4 b4 a5 b5
  subst e
  rw [a5] at b5; cases b5
  exact ⟨rfl, rfl, rfl, rfl, rfl, rfl⟩
/-- what the names become in the class: op and argument -/
def opV (a : Nat) : Int32 := if a < 4 then 0 else if a = 4 then 1 else if a = 5 then 2 else if a = 6 then 3 else if a = 7 then 4 else if a = 9 then 5 else if a = 11 then 7 else if a = 12 then 8 else if a < 13 then 6 else -4
def fv (a : Nat) : Int32 := if a = 0 then 1 else if a = 1 then 2 else if a = 2 then 4 else if a = 3 then 8 else 0
def argV (a g : Nat) : Int32 := if a < 8 then fv a else nI g
theorem opV_in : ∀ a, a < 13 → 0 ≤ (opV a).toInt ∧ (opV a).toInt ≤ 8 := by decide +kernel
theorem opV_0 : ∀ a, a < 13 → ((opV a).toInt = 0 ↔ a < 4) := by decide +kernel
theorem opV_5 : ∀ a, a < 13 → ((opV a).toInt = 5 ↔ a = 9) := by decide +kernel
theorem opV_k : ∀ a, a < 13 → (5 ≤ (opV a).toInt ↔ 8 ≤ a) := by decide +kernel
theorem fv_0 : ∀ a, a < 15 → ((fv a).toInt = 0 ↔ 4 ≤ a) := by decide +kernel
