/-! what a text's run says of the groups -/
theorem gA_lt {a g : Nat} (h : gA a g ≠ 0) : gA a g = g ∧ (a < 10 → cb g.testBit 32 = 1) := by
  unfold gA at h ⊢
  by_cases q : a < 10 ∧ cb g.testBit 32 ≠ 1
  · rw [if_pos q] at h; exact absurd rfl h
  · rw [if_neg q]
    refine ⟨rfl, fun ha => ?_⟩
    apply Classical.byContradiction
    intro z
    exact q ⟨ha, z⟩
theorem run_g {c : Nat → Int} {p K q n : Nat} (h : RUN c p K) (he : it c p K = .inr (q, n, 0)) : ∀ i, i < K → 8 ≤ aI c p i → gI c p i ≠ 0 ∧ (aI c p i < 10 → cb (gI c p i).testBit 32 = 1) := fun i hi h8 => by
  obtain ⟨q1, n1, o1, e1, ho⟩ := h i hi
  have h1 := it_s e1 ho
  rw [aI_at e1] at h8 ⊢
  rw [gI_at e1, if_neg (by omega)]
  have h2 : gA (aF c q1) (gF c (sE c q1)) ≠ 0 := by
    intro z
    have h3 : ∃ l, stp c q1 n1 o1 = .inl l := by
      unfold stp
      by_cases a1 : 13 ≤ aF c q1 ∨ 32 ≤ n1
      · rw [if_pos a1]; exact ⟨_, rfl⟩
      · rw [if_neg a1]
        by_cases a2 : sK c (sE c q1) = 3
        · rw [if_pos a2]; exact ⟨_, rfl⟩
        · rw [if_neg a2, if_neg (by omega), if_pos (Or.inl z)]; exact ⟨_, rfl⟩
    obtain ⟨l, hl⟩ := h3
    rw [hl] at h1
    have h4 := it_inl h1 (K - (i + 1))
    rw [show i + 1 + (K - (i + 1)) = K by omega, he] at h4
    cases h4
  have h5 := gA_lt h2
  refine ⟨h2, fun h10 => ?_⟩
  rw [h5.1]; exact h5.2 h10
theorem whs_of {x : Int32} {a g : Nat} (e : x = nI g) (hg : 8 ≤ a → g ≠ 0 ∧ (a < 10 → cb g.testBit 32 = 1)) (ha : a < 13) (h16 : g < 16) (h8 : 8 ≤ (a : Int)) : ∃ g', x = nI g' ∧ g' < 16 ∧ g' ≠ 0 ∧ ((a : Int) = 9 → cb g'.testBit 32 = 1) :=
  ⟨g, e, h16, (hg (by omega)).1, fun h9 => (hg (by omega)).2 (by omega)⟩
/-! what is told, on both sides -/
def SLQ (S : SVal) (fm fa fw : Nat → Int32) (s : Nat) : Prop := S.1 = cN fm s ∧ S.1 ≤ 32 ∧ ∀ i, i < S.1 → S.2.1 i = rO fa s i ∧ S.2.2.1 i = rA fa fw s i
section SLQS
variable {S : SVal} {fm fa fw fm' fa' fw' : Nat → Int32} {s s' n n' : Nat}
theorem SLQ.cg (h : SLQ S fm fa fw s) (hm : cN fm' s' = cN fm s) (ha : ∀ i, i < 32 → fa' (32 * s' + i) = fa (32 * s + i)) (hw : ∀ i, i < 32 → fw' (32 * s' + i) = fw (32 * s + i)) : SLQ S fm' fa' fw' s' := by
  refine ⟨by rw [hm]; exact h.1, h.2.1, fun i hi => ?_⟩
  have h1 := h.2.2 i hi
  have h2 := h.2.1
  have e1 := ha i (by omega)
  have e2 := hw i (by omega)
  unfold rO rA cN at h1 ⊢
  rw [e1, e2]; exact h1
theorem WHs.cg (h : WHs n fa fw s) (hn : n' = n) (h32 : n ≤ 32) (ha : ∀ i, i < 32 → fa' (32 * s' + i) = fa (32 * s + i)) (hw : ∀ i, i < 32 → fw' (32 * s' + i) = fw (32 * s + i)) : WHs n' fa' fw' s' := by
  subst hn
  refine ⟨h.1, fun i hi h8 => ?_⟩
  rw [ha i (by omega)] at h8 ⊢
  rw [hw i (by omega)]
  exact h.2 i hi h8
theorem SLQ.rs {g : Nat → Int32} (h : SLQ S fm fa fw s) : SQ S (cN fm s, rO fa s, rA fa fw s, g, 0, 0, 0, 0) := ⟨h.1, h.2.2⟩
end SLQS
def TVQ (tT : Nat → Option SVal) (ft fm fa fw fo fn : Nat → Int32) : Prop := ∀ k, k < 8 → (tT k = none ∧ (ft k).toInt ≤ 0) ∨ ∃ S, tT k = some S ∧ 0 < (ft k).toInt ∧ SLQ S fm fa fw k ∧ sNa S = cN fn k ∧ sNa S ≤ 2 ∧ (∀ a, a < sNa S → cN S.2.2.2.1 a = cN fo (2 * k + a) ∧ cN S.2.2.2.1 a < 4) ∧ WHs (cN fm k) fa fw k
def IVQ (eT : Nat → Nat → Option SVal) (eb en : Nat → Nat → Int32) (fI fm fa fw fb fg : Nat → Int32) : Prop := ∀ e, e < 4 → ∀ c, c < 4 → ((eT e c = none ∧ fI (4 * e + c) = 0) ∨ ∃ S, eT e c = some S ∧ fI (4 * e + c) ≠ 0 ∧ SLQ S fm fa fw (8 + 4 * e + c) ∧ WHs (cN fm (8 + 4 * e + c)) fa fw (8 + 4 * e + c)) ∧ eb e c = fb (4 * e + c) ∧ en e c = fg (4 * e + c)
section TVQS
variable {tT : Nat → Option SVal} {ft fm fa fw fo fn fm' fa' fw' fI fb fg fI' fb' fg' : Nat → Int32} {eT eT' : Nat → Nat → Option SVal} {eb en eb' en' : Nat → Nat → Int32}
theorem aft_2q {S : SVal} (h : sNa S ≤ 2) (h4 : ∀ a, a < sNa S → cN S.2.2.2.1 a < 4) : ∀ e, e ∈ aftL S → e < 4 := by
  intro e he
  have hs : sNa S = S.2.2.2.2.2.2.2 := rfl
  unfold aftL at he
  by_cases q0 : S.2.2.2.2.2.2.2 = 0
  · rw [if_pos q0] at he; exact absurd he List.not_mem_nil
  · rw [if_neg q0] at he
    by_cases q1 : S.2.2.2.2.2.2.2 = 1
    · rw [if_pos q1] at he
      rw [List.mem_singleton.mp he]; exact h4 0 (by omega)
    · rw [if_neg q1] at he
      rcases List.mem_cons.mp he with z | z
      · rw [z]; exact h4 0 (by omega)
      · rw [List.mem_singleton.mp z]; exact h4 1 (by omega)
theorem aft_eq {S S' : SVal} (h : sNa S = sNa S') (h2 : sNa S ≤ 2) (hc : ∀ a, a < sNa S → cN S.2.2.2.1 a = cN S'.2.2.2.1 a) : aftL S = aftL S' := by
  have e1 : S.2.2.2.2.2.2.2 = S'.2.2.2.2.2.2.2 := h
  have e0 : sNa S = S.2.2.2.2.2.2.2 := rfl
  unfold aftL
  rw [← e1]
  by_cases q0 : S.2.2.2.2.2.2.2 = 0
  · rw [if_pos q0, if_pos q0]
  · by_cases q1 : S.2.2.2.2.2.2.2 = 1
    · rw [if_neg q0, if_neg q0, if_pos q1, if_pos q1, hc 0 (by omega)]
    · rw [if_neg q0, if_neg q0, if_neg q1, if_neg q1, hc 0 (by omega), hc 1 (by omega)]
theorem TVQ.tq (h : TVQ tT ft fm fa fw fo fn) : TQ tT (rTT ft fm fa fw fo fn) := fun k hk => by
  rcases h k hk with ⟨a, b⟩ | ⟨S, a1, a2, a3, a4, a5, a6, a7⟩
  · exact Or.inl ⟨a, rTT_n b⟩
  · exact Or.inr ⟨S, _, a1, rTT_s a2, ⟨a3.1, a3.2.2⟩, aft_eq (S' := rT fm fa fw fo fn k) a4 a5 (fun a ha => (a6 a ha).1), aft_2q a5 (fun a ha => (a6 a ha).2)⟩
theorem TVQ.wht (h : TVQ tT ft fm fa fw fo fn) : WHT ft fm fa fw := fun k hk h0 => by
  rcases h k hk with ⟨a, b⟩ | ⟨S, a1, a2, a3, a4, a5, a6, a7⟩
  · omega
  · exact a7
theorem TVQ.keep (h : TVQ tT ft fm fa fw fo fn) (hm : ∀ j, j < 8 → cN fm' j = cN fm j) (ha : ∀ j, j < 256 → fa' j = fa j) (hw : ∀ j, j < 256 → fw' j = fw j) : TVQ tT ft fm' fa' fw' fo fn := fun k hk => by
  rcases h k hk with ⟨a, b⟩ | ⟨S, a1, a2, a3, a4, a5, a6, a7⟩
  · exact Or.inl ⟨a, b⟩
  · have e1 : ∀ i, i < 32 → fa' (32 * k + i) = fa (32 * k + i) := fun i hi => ha _ (by omega)
    have e2 : ∀ i, i < 32 → fw' (32 * k + i) = fw (32 * k + i) := fun i hi => hw _ (by omega)
    exact Or.inr ⟨S, a1, a2, a3.cg (hm k hk) e1 e2, a4, a5, a6, a7.cg (hm k hk) (by have := a3.1; have := a3.2.1; omega) e1 e2⟩
theorem TVQ.kp {fo' fn' : Nat → Int32} (h : TVQ tT ft fm fa fw fo fn) (hm : KP 24 fm fm') (ha : KP 768 fa fa') (hw : KP 768 fw fw') (ho : KP 16 fo fo') (hn : KP 8 fn fn') : TVQ tT ft fm' fa' fw' fo' fn' := fun k hk => by
  rcases TVQ.keep h (fm' := fm') (fa' := fa') (fw' := fw') (fun j hj => KP.at hm (by omega)) (fun j hj => ha j (by omega)) (fun j hj => hw j (by omega)) k hk with ⟨a, b⟩ | ⟨S, a1, a2, a3, a4, a5, a6, a7⟩
  · exact Or.inl ⟨a, b⟩
  · exact Or.inr ⟨S, a1, a2, a3, by rw [KP.at hn hk]; exact a4, a5, fun a ha => ⟨by rw [KP.at ho (by omega)]; exact (a6 a ha).1, (a6 a ha).2⟩, a7⟩
theorem IVQ.kp (h : IVQ eT eb en fI fm fa fw fb fg) (hm : ∀ j, 8 ≤ j → j < 24 → cN fm' j = cN fm j) (ha : ∀ j, 256 ≤ j → j < 768 → fa' j = fa j) (hw : ∀ j, 256 ≤ j → j < 768 → fw' j = fw j) : IVQ eT eb en fI fm' fa' fw' fb fg := fun e he c hc => by
  refine ⟨?_, (h e he c hc).2⟩
  rcases (h e he c hc).1 with ⟨a, b⟩ | ⟨S, a1, a2, a3, a4⟩
  · exact Or.inl ⟨a, b⟩
  · have e1 : ∀ i, i < 32 → fa' (32 * (8 + 4 * e + c) + i) = fa (32 * (8 + 4 * e + c) + i) := fun i hi => ha _ (by omega) (by omega)
    have e2 : ∀ i, i < 32 → fw' (32 * (8 + 4 * e + c) + i) = fw (32 * (8 + 4 * e + c) + i) := fun i hi => hw _ (by omega) (by omega)
    exact Or.inr ⟨S, a1, a2, a3.cg (hm _ (by omega) (by omega)) e1 e2, a4.cg (hm _ (by omega) (by omega)) (by have := a3.1; have := a3.2.1; omega) e1 e2⟩
theorem IVQ.whi (h : IVQ eT eb en fI fm fa fw fb fg) : WHI fI fm fa fw := fun c hc h0 => by
  have e : 4 * (c / 4) + c % 4 = c := by omega
  rcases (h (c / 4) (by omega) (c % 4) (by omega)).1 with ⟨a, b⟩ | ⟨S, a1, a2, a3, a4⟩
  · rw [e] at b; exact absurd b h0
  · rw [show 8 + 4 * (c / 4) + c % 4 = 8 + c by omega] at a4; exact a4
theorem IVQ.esq {ec er : Nat → Nat} {ed : Nat → Nat → Int32} {fc fh fd : Nat → Int32} (h : IVQ eT eb en fI fm fa fw fb fg) (hv : EVQ ec er ed fc fh fd) : ESQ (ev6 ec er eT eb en ed) (rEv fc fh fI fm fa fw fb fg fd) := fun e he => by
  have h1 := hv e he
  refine ⟨h1.1, h1.2.1, fun c hc => ?_, fun c hc => (h e he c hc).2, fun q hq => h1.2.2 q hq⟩
  show OQ SQ (eT e c) (cOp fI fm fa fw (4 * e + c))
  rcases (h e he c hc).1 with ⟨a, b⟩ | ⟨S, a1, a2, a3, a4⟩
  · exact Or.inl ⟨a, by unfold cOp; rw [if_pos b]⟩
  · refine Or.inr ⟨S, _, a1, (by unfold cOp; rw [if_neg a2]), ?_⟩
    rw [show 8 + (4 * e + c) = 8 + 4 * e + c by omega]
    exact a3.rs
/-- an event begins anew: its four cases are empty -/
theorem IVQ.clr {k : Nat} (h : IVQ eT eb en fI fm fa fw fb fg) (hk : k ≤ 3) (a1 : ∀ i, i < 4 → i ≠ k → eT' i = eT i) (a2 : ∀ i, i < 4 → i ≠ k → eb' i = eb i) (a3 : ∀ i, i < 4 → i ≠ k → en' i = en i) (a4 : ∀ z, z < 4 → eb' k z = 0 ∧ en' k z = 0) (a5 : ∀ z, z < 4 → eT' k z = none) (b1 : Z4 k 4 fI fI') (b2 : Z4 k 4 fb fb') (b3 : Z4 k 4 fg fg') : IVQ eT' eb' en' fI' fm fa fw fb' fg' := fun e he c hc => by
  by_cases q : e = k
  · subst q
    exact ⟨Or.inl ⟨a5 c hc, b1.1 c hc⟩, by rw [(a4 c hc).1, b2.1 c hc], by rw [(a4 c hc).2, b3.1 c hc]⟩
  · have h1 := h e he c hc
    rw [a1 e he q, a2 e he q, a3 e he q, b1.2 _ (by omega), b2.2 _ (by omega), b3.2 _ (by omega)]
    exact h1
/-- a case is given another if -/
theorem SLQ.cpy {S : SVal} {s t : Nat} (h : SLQ S fm fa fw s) (hm : upd fm t (nI (cN fm s)) = fm') (ha : CPG 32 s t 32 fa fa') (hw : CPG 32 s t 32 fw fw') : SLQ S fm' fa' fw' t := h.cg (cN_s (by have h1 := h.1; have h2 := h.2.1; omega) hm) (fun i hi => ha.1 i hi) (fun i hi => hw.1 i hi)
theorem IVQ.giv {k i : Nat} {o : Option SVal} (h : IVQ eT eb en fI fm fa fw fb fg) (hk : k ≤ 3) (hi : i ≤ 3) (a1 : ∀ e, e < 4 → e ≠ k → eT' e = eT e) (a2 : ∀ c, c < 4 → eT' k c = if c = i then o else eT k c)
    (hI : ∀ c, c < 16 → c ≠ 4 * k + i → fI' c = fI c) (hm : ∀ j, j < 24 → j ≠ 8 + 4 * k + i → cN fm' j = cN fm j) (ha : ∀ j, j < 768 → (j < 32 * (8 + 4 * k + i) ∨ 32 * (8 + 4 * k + i) + 32 ≤ j) → fa' j = fa j) (hw : ∀ j, j < 768 → (j < 32 * (8 + 4 * k + i) ∨ 32 * (8 + 4 * k + i) + 32 ≤ j) → fw' j = fw j)
    (hn : (o = none ∧ fI' (4 * k + i) = 0) ∨ ∃ S, o = some S ∧ fI' (4 * k + i) ≠ 0 ∧ SLQ S fm' fa' fw' (8 + 4 * k + i) ∧ WHs (cN fm' (8 + 4 * k + i)) fa' fw' (8 + 4 * k + i))
    (hb : ∀ e, e < 4 → ∀ c, c < 4 → eb' e c = fb' (4 * e + c)) (hg : ∀ e, e < 4 → ∀ c, c < 4 → en' e c = fg' (4 * e + c)) : IVQ eT' eb' en' fI' fm' fa' fw' fb' fg' := fun e he c hc => by
  refine ⟨?_, hb e he c hc, hg e he c hc⟩
  by_cases q : e = k ∧ c = i
  · rw [q.1, q.2, a2 i (by omega), if_pos rfl]; exact hn
  · have e0 : eT' e c = eT e c := by
      by_cases z : e = k
      · rw [z, a2 c hc, if_neg (fun y => q ⟨z, y⟩)]
      · rw [a1 e he z]
    rw [e0, hI _ (by omega) (fun z => q ⟨by omega, by omega⟩)]
    rcases (h e he c hc).1 with ⟨a, b⟩ | ⟨S, a1, a2, a3, a4⟩
    · exact Or.inl ⟨a, b⟩
    · have hne : 8 + 4 * e + c ≠ 8 + 4 * k + i := fun z => q ⟨by omega, by omega⟩
      have e1 : ∀ x, x < 32 → fa' (32 * (8 + 4 * e + c) + x) = fa (32 * (8 + 4 * e + c) + x) := fun x hx => ha _ (by omega) (by omega)
      have e2 : ∀ x, x < 32 → fw' (32 * (8 + 4 * e + c) + x) = fw (32 * (8 + 4 * e + c) + x) := fun x hx => hw _ (by omega) (by omega)
      exact Or.inr ⟨S, a1, a2, a3.cg (hm _ (by omega) hne) e1 e2, a4.cg (hm _ (by omega) hne) (by have := a3.1; have := a3.2.1; omega) e1 e2⟩
theorem up_e {eb eb' : Nat → Nat → Int32} {fb fb' : Nat → Int32} {k i : Nat} {v : Int32} (h : ∀ e, e < 4 → ∀ c, c < 4 → eb e c = fb (4 * e + c)) (hk : k ≤ 3) (hi : i ≤ 3) (a1 : ∀ e, e < 4 → e ≠ k → eb' e = eb e) (a2 : upd (eb k) i v = eb' k) (b : upd fb (4 * k + i) v = fb') : ∀ e, e < 4 → ∀ c, c < 4 → eb' e c = fb' (4 * e + c) := fun e he c hc => by
  rw [← b]
  by_cases q : e = k
  · subst q
    rw [← a2]
    by_cases z : c = i
    · rw [z, pk_us, pk_us]
    · rw [pk_un z, pk_un (by omega)]; exact h e he c hc
  · rw [a1 e he q, pk_un (by omega)]; exact h e he c hc
theorem TVQ.at {s : Nat} (h : TVQ tT ft fm fa fw fo fn) (hs : s ≤ 7) (ho : (tT s).isSome = true) : ∃ S, tT s = some S ∧ SLQ S fm fa fw s ∧ WHs (cN fm s) fa fw s := by
  rcases h s (by omega) with ⟨a, b⟩ | ⟨S, a1, a2, a3, a4, a5, a6, a7⟩
  · rw [a] at ho; cases ho
  · exact ⟨S, a1, a3, a7⟩
/-- a saying is told -/
theorem TVQ.say {c : Nat → Int} {jk p n v w K m : Nat} {S : SVal} {ft' fo' fn' : Nat → Int32} (h : TVQ tT ft fm fa fw fo fn) (hj : jk ≤ 7) (hK : 1 ≤ K ∧ K ≤ 32) (hm0 : 0 < m ∧ m ≤ 32) (hn2 : n ≤ 2) (hR : ∀ i, i < K → 8 ≤ aI c p i → gI c p i ≠ 0 ∧ (aI c p i < 10 → cb (gI c p i).testBit 32 = 1)) (s1 : S.1 = K) (s2 : OPX c p K S.2.1 S.2.2.1) (s3 : sNa S = n) (s4 : 0 < n → S.2.2.2.1 0 = nI v) (s5 : 1 < n → S.2.2.2.1 1 = nI w) (s6 : AFI n S.2.2.2.1)
    (m1 : ∀ i, i < K → fa' (32 * jk + i) = nI (aI c p i)) (m2 : ∀ i, i < K → fw' (32 * jk + i) = nI (gI c p i)) (m4 : ∀ j, j < 768 → (j < 32 * jk ∨ 32 * jk + 32 ≤ j) → fa' j = fa j) (m5 : ∀ j, j < 768 → (j < 32 * jk ∨ 32 * jk + 32 ≤ j) → fw' j = fw j) (m6 : cN fm' jk = K ∧ ∀ j, j < 24 → j ≠ jk → cN fm' j = cN fm j)
    (m7 : upd ft jk (nI m) = ft') (m8 : fn' jk = nI n ∧ ∀ j, j < 8 → j ≠ jk → fn' j = fn j) (m9 : (0 < n → fo' (2 * jk) = nI v) ∧ (1 < n → fo' (2 * jk + 1) = nI w) ∧ ∀ j, j < 16 → j ≠ 2 * jk → j ≠ 2 * jk + 1 → fo' j = fo j) : TVQ (va_up tT jk (some S)) ft' fm' fa' fw' fo' fn' := fun k hk => by
  by_cases q : k = jk
  · subst q
    refine Or.inr ⟨S, vup_s, ?_, ⟨by rw [m6.1]; exact s1, by omega, fun i hi => ?_⟩, ?_, by omega, fun a ha => ?_, ?_⟩
    · rw [← m7, pk_us, nI_toInt (by omega)]; omega
    · have h1 := s2 i (by omega)
      have e1 := m1 i (by omega)
      have e2 := m2 i (by omega)
      refine ⟨?_, ?_⟩
      · rw [h1.1]; unfold rO; rw [cN_of e1 (by omega)]
      · rw [h1.2.1]; unfold rA; rw [cN_of e1 (by omega), cN_of e2 (by omega)]
    · rw [s3]; unfold cN; rw [m8.1, nI_clamp (by omega)]
    · rw [s3] at ha
      obtain ⟨j, hj4, ej⟩ := s6 a ha
      refine ⟨?_, by rw [cN_of ej (by omega)]; exact hj4⟩
      rcases (show a = 0 ∨ a = 1 by omega) with z | z
      · subst z; show cN S.2.2.2.1 0 = cN fo' (2 * k); unfold cN; rw [s4 (by omega), m9.1 (by omega)]
      · subst z; unfold cN; rw [s5 (by omega), m9.2.1 (by omega)]
    · rw [m6.1]
      refine ⟨hK.1, fun i hi h8 => ?_⟩
      have h1 := s2 i hi
      rw [m1 i hi, nI_toInt (by omega)] at h8 ⊢
      have hg := hR i hi
      exact whs_of (m2 i hi) hg h1.2.2.1 h1.2.2.2 h8
  · rw [vup_n q, show ft' k = ft k by rw [← m7, pk_un q]]
    rcases h k hk with ⟨a, b⟩ | ⟨T, a1, a2, a3, a4, a5, a6, a7⟩
    · exact Or.inl ⟨a, b⟩
    · have e1 : ∀ i, i < 32 → fa' (32 * k + i) = fa (32 * k + i) := fun i hi => m4 _ (by omega) (by omega)
      have e2 : ∀ i, i < 32 → fw' (32 * k + i) = fw (32 * k + i) := fun i hi => m5 _ (by omega) (by omega)
      have em := m6.2 k (by omega) q
      refine Or.inr ⟨T, a1, a2, a3.cg em e1 e2, ?_, a5, fun a ha => ⟨?_, (a6 a ha).2⟩, a7.cg em (by have := a3.1; have := a3.2.1; omega) e1 e2⟩
      · rw [a4]; unfold cN; rw [m8.2 k hk q]
      · rw [(a6 a ha).1]; unfold cN; rw [m9.2.2 _ (by omega) (by omega) (by omega)]
theorem vup_if {α : Type} {f g : Nat → α} {i : Nat} {o : α} (h : f = va_up g i o) : ∀ c, c < 4 → f c = if c = i then o else g c := fun c _ => by
  rw [h]
  by_cases q : c = i
  · rw [q, vup_s, if_pos rfl]
  · rw [vup_n q, if_neg q]
theorem whn_ {k i : Nat} {v2 v3 v4 : Int32} (hV : TVQ tT ft fm fa fw fo fn) (hI : IVQ eT eb en fI fm fa fw fb fg) (hk : k ≤ 3) (hi : i ≤ 3) (a7 : ∀ e, e < 4 → e ≠ k → eT' e = eT e) (a8 : ∀ e, e < 4 → e ≠ k → eb' e = eb e) (a9 : ∀ e, e < 4 → e ≠ k → en' e = en e)
    (aa : (v2 = -4 ∧ eT' k = va_up (eT k) i none) ∨ ∃ s : Nat, v2 = nI s ∧ s ≤ 7 ∧ (tT s).isSome = true ∧ eT' k = va_up (eT k) i (tT s)) (ab : upd (eb k) i v3 = eb' k) (ac : upd (en k) i v4 = en' k)
    (b7 : (v2 = -4 ∧ upd fI (4 * k + i) 0 = fI' ∧ fm' = fm ∧ fa' = fa ∧ fw' = fw) ∨ ∃ s : Nat, v2 = nI s ∧ s ≤ 7 ∧ upd fI (4 * k + i) 1 = fI' ∧ upd fm (8 + 4 * k + i) (nI (cN fm s)) = fm' ∧ CPG 32 s (8 + 4 * k + i) 32 fa fa' ∧ CPG 32 s (8 + 4 * k + i) 32 fw fw') (b8 : upd fb (4 * k + i) v3 = fb') (b9 : upd fg (4 * k + i) v4 = fg') : TVQ tT ft fm' fa' fw' fo fn ∧ IVQ eT' eb' en' fI' fm' fa' fw' fb' fg' := by
  have hb := up_e (fun e he c hc => (hI e he c hc).2.1) hk hi a8 ab b8
  have hg := up_e (fun e he c hc => (hI e he c hc).2.2) hk hi a9 ac b9
  have e4 : (-4 : Int32).toInt = -4 := rfl
  rcases aa with ⟨y1, y2⟩ | ⟨s, y1, y2, y3, y4⟩
  · rcases b7 with ⟨z1, z2, z3, z4, z5⟩ | ⟨s', z1, z2, z3, z4, z5, z6⟩
    · rw [z3, z4, z5]
      exact ⟨hV, IVQ.giv (o := none) hI hk hi a7 (vup_if y2) (fun c _ q => by rw [← z2, pk_un q]) (fun _ _ _ => rfl) (fun _ _ _ => rfl) (fun _ _ _ => rfl) (Or.inl ⟨rfl, by rw [← z2, pk_us]⟩) hb hg⟩
    · exfalso
      have h := congrArg Int32.toInt (y1.symm.trans z1)
      rw [nI_toInt (by omega)] at h; omega
  · rcases b7 with ⟨z1, z2, z3, z4, z5⟩ | ⟨s', z1, z2, z3, z4, z5, z6⟩
    · exfalso
      have h := congrArg Int32.toInt (z1.symm.trans y1)
      rw [nI_toInt (by omega)] at h; omega
    · have e := (nI_eq (by omega) (by omega)).mp (y1.symm.trans z1)
      subst e
      obtain ⟨S, S1, S2, S3⟩ := hV.at y2 y3
      have h32 : cN fm s ≤ 32 := by have h1 := S2.1; have h2 := S2.2.1; omega
      exact ⟨TVQ.keep hV (fun j hj => cN_n z4 (by omega)) (fun j hj => z5.2 j (Or.inl (by omega))) (fun j hj => z6.2 j (Or.inl (by omega))), IVQ.giv (o := tT s) hI hk hi a7 (vup_if y4) (fun c _ q => by rw [← z3, pk_un q]) (fun j _ q => cN_n z4 q) (fun j _ q => z5.2 j q) (fun j _ q => z6.2 j q) (Or.inr ⟨S, S1, (by rw [← z3, pk_us]; decide), SLQ.cpy S2 z4 z5 z6, S3.cg (cN_s (by omega) z4) h32 (fun x hx => z5.1 x hx) (fun x hx => z6.1 x hx)⟩) hb hg⟩
theorem wrd_ {k d : Nat} {v2 : Int32} (hV : TVQ tT ft fm fa fw fo fn) (hI : IVQ eT eb en fI fm fa fw fb fg) (hk : k ≤ 3) (hd : d ≤ 2) (a7 : ∀ e, e < 4 → e ≠ k → eT' e = eT e) (a8 : ∀ e, e < 4 → e ≠ k → eb' e = eb e) (a9 : ∀ e, e < 4 → e ≠ k → en' e = en e)
    (aa : ∃ s : Nat, v2 = nI s ∧ s ≤ 7 ∧ (tT s).isSome = true ∧ ∀ c, c < 4 → eT' k c = if c = (if d = 2 then 1 else 0) then tT s else none) (ab : ∀ c, c < 4 → eb' k c = 0 ∧ en' k c = 0)
    (b7 : ∃ (s : Nat) (h : Nat → Int32), v2 = nI s ∧ s ≤ 7 ∧ Z4 k 4 fI h ∧ upd h (4 * k + (if d = 2 then 1 else 0)) 1 = fI' ∧ upd fm (8 + 4 * k + (if d = 2 then 1 else 0)) (nI (cN fm s)) = fm' ∧ CPG 32 s (8 + 4 * k + (if d = 2 then 1 else 0)) 32 fa fa' ∧ CPG 32 s (8 + 4 * k + (if d = 2 then 1 else 0)) 32 fw fw') (b8 : Z4 k 4 fb fb') (b9 : Z4 k 4 fg fg') : TVQ tT ft fm' fa' fw' fo fn ∧ IVQ eT' eb' en' fI' fm' fa' fw' fb' fg' := by
  obtain ⟨i, ei⟩ : ∃ i : Nat, (if d = 2 then 1 else 0) = i := ⟨_, rfl⟩
  have hi : i ≤ 3 := by rw [← ei]; split <;> omega
  rw [ei] at b7
  rw [ei] at aa
  obtain ⟨s, y1, y2, y3, y4⟩ := aa
  obtain ⟨s', h, z1, z2, z0, z3, z4, z5, z6⟩ := b7
  have e := (nI_eq (by omega) (by omega)).mp (y1.symm.trans z1)
  subst e
  obtain ⟨S, S1, S2, S3⟩ := hV.at y2 y3
  have h32 : cN fm s ≤ 32 := by have h1 := S2.1; have h2 := S2.2.1; omega
  obtain ⟨eT1, f1, f2⟩ : ∃ eT1 : Nat → Nat → Option SVal, (∀ e, e < 4 → e ≠ k → eT1 e = eT e) ∧ ∀ c, eT1 k c = none := ⟨fun e => if e = k then fun _ => none else eT e, fun e _ q => if_neg q, fun c => by show (if k = k then fun _ => none else eT k) c = none; rw [if_pos rfl]⟩
  have hC := IVQ.clr hI hk f1 a8 a9 ab (fun z _ => f2 z) z0 b8 b9
  exact ⟨TVQ.keep hV (fun j hj => cN_n z4 (by omega)) (fun j hj => z5.2 j (Or.inl (by omega))) (fun j hj => z6.2 j (Or.inl (by omega))), IVQ.giv (o := tT s) hC hk hi (fun e he q => (a7 e he q).trans (f1 e he q).symm) (fun c hc => by rw [y4 c hc, f2]) (fun c _ q => by rw [← z3, pk_un q]) (fun j _ q => cN_n z4 q) (fun j _ q => z5.2 j q) (fun j _ q => z6.2 j q) (Or.inr ⟨S, S1, (by rw [← z3, pk_us]; decide), SLQ.cpy S2 z4 z5 z6, S3.cg (cN_s (by omega) z4) h32 (fun x hx => z5.1 x hx) (fun x hx => z6.1 x hx)⟩) (fun e he c hc => (hC e he c hc).2.1) (fun e he c hc => (hC e he c hc).2.2)⟩
end TVQS
/-- a read that gives cells speaks of a sheet that is there -/
theorem rdA_st {t la sz l n q : Nat} {cl : Nat → Int32} {f x : Int32} {A B : Prop} (h : x = rdA t la sz cl l f n) (hx : x = nI q) (hq : q ≤ 24) (h01 : (t = 0 ∧ A) ∨ (t = 1 ∧ B)) : t = 1 := by
  rcases h01 with ⟨z, _⟩ | ⟨z, _⟩
  · exfalso
    unfold rdA at h
    rw [← chk_0 z, if_neg (by decide)] at h
    have h1 := congrArg Int32.toInt (h.symm.trans hx)
    rw [nI_toInt (by omega)] at h1
    have e : (-11 : Int32).toInt = -11 := rfl
    omega
  · exact z
/-! what is kept, on both sides -/
def KEQ (qm kc : Nat) (KV PG : Nat → AM) : Prop := qm = kc ∧ ∀ j, j < kc → KV j = PG (6 + j) ∧ (KV j).2.1 < (KV j).1
section KEQS
variable {qm kc kc' qm' : Nat} {KV KV' PG PG' : Nat → AM} {m : AM} {x y v0 : Int32} {s : ASt}
theorem KEQ.kp6 (h : KEQ qm kc KV PG) (hk : kc ≤ 4) (h6 : KP6 PG PG') : KEQ qm kc KV PG' := ⟨h.1, fun j hj => ⟨by rw [h6 (6 + j) (by omega) (by omega)]; exact (h.2 j hj).1, (h.2 j hj).2⟩⟩
theorem KEQ.n (h : KEQ qm kc KV PG) : ∀ j, j < qm → (PG (6 + j)).2.1 < (PG (6 + j)).1 := fun j hj => by
  rw [h.1] at hj
  have h1 := h.2 j hj
  rw [← h1.1]; exact h1.2
theorem KEQ.keep (h : KEQ qm kc KV PG) (hk : kc ≤ 4) (hx : KPx m.1 kc kc' m KV KV' x) (hm : KPx m.1 qm qm' m (fun i => PG (6 + i)) (fun i => PG' (6 + i)) y) : x = y ∧ KEQ qm' kc' KV' PG' := by
  have e := h.1
  subst e
  rcases hx with ⟨a1, a2, a3, a4⟩ | ⟨a1, a2, a3, a4, a5⟩ | ⟨a1, a2, a3, a4, a5, a6⟩
  · rcases hm with ⟨b1, b2, b3, b4⟩ | ⟨b1, b2, b3, b4, b5⟩ | ⟨b1, b2, b3, b4, b5, b6⟩
    · refine ⟨by rw [a2, b2], by omega, fun j hj => ?_⟩
      have h1 := h.2 j (by omega)
      have h2 : PG' (6 + j) = PG (6 + j) := b4 j (by omega)
      rw [a4 j (by omega), h2]; exact h1
    · exact absurd a1 b1
    · exact absurd a1 b1
  · rcases hm with ⟨b1, b2, b3, b4⟩ | ⟨b1, b2, b3, b4, b5⟩ | ⟨b1, b2, b3, b4, b5, b6⟩
    · exact absurd b1 a1
    · refine ⟨by rw [a3, b3], by omega, fun j hj => ?_⟩
      have h1 := h.2 j (by omega)
      have h2 : PG' (6 + j) = PG (6 + j) := b5 j (by omega)
      rw [a5 j (by omega), h2]; exact h1
    · exfalso; omega
  · rcases hm with ⟨b1, b2, b3, b4⟩ | ⟨b1, b2, b3, b4, b5⟩ | ⟨b1, b2, b3, b4, b5, b6⟩
    · exact absurd b1 a1
    · exfalso; omega
    · refine ⟨by rw [a3, b3], by omega, fun j hj => ?_⟩
      have h2 : PG' (6 + j) = if j = qm then m else PG (6 + j) := b6 j (by omega)
      rw [a6 j (by omega), h2]
      by_cases q : j = qm
      · rw [if_pos q, if_pos q]; exact ⟨rfl, a5⟩
      · rw [if_neg q, if_neg q]; exact h.2 j (by omega)
theorem tN_lt {k : Nat} (h : ¬ (v0.toInt < 0 ∨ (k : Int) ≤ v0.toInt)) (hk : k ≤ 100) : tN v0 < k := by
  unfold tN
  have h1 := i_cl (x := v0) (N := k - 1) (by omega) (by omega) (by omega)
  have h2 := h1.2
  omega
theorem KEQ.stand (h : KEQ qm kc KV PG) (hk : kc ≤ 4) : opStand s kc KV v0 = opStand s qm (fun i => PG (6 + i)) v0 := by
  have e := h.1
  subst e
  unfold opStand
  by_cases q : v0.toInt < 0 ∨ (qm : Int) ≤ v0.toInt
  · rw [if_pos q, if_pos q]
  · rw [if_neg q, if_neg q, (h.2 _ (tN_lt q (by omega))).1]
theorem KEQ.same (h : KEQ qm kc KV PG) (hk : kc ≤ 4) : ansSame m kc KV v0 = ansSame m qm (fun i => PG (6 + i)) v0 := by
  have e := h.1
  subst e
  unfold ansSame
  by_cases q : v0.toInt < 0 ∨ (qm : Int) ≤ v0.toInt
  · rw [if_pos q, if_pos q]
  · rw [if_neg q, if_neg q, (h.2 _ (tN_lt q (by omega))).1]
end KEQS
theorem KP6.of {PG PG' : Nat → AM} (h : KPA 0 PG PG') : KP6 PG PG' := KP6.kpa h
theorem asM_kpu {ud : Nat} {PG PG' : Nat → AM} (hu : ud ≤ 8) (h : KPU PG PG') : asM ud PG' = asM ud PG := asM_cg hu (h 0 (by omega) (Or.inl (by omega))) (fun p a b => h p b (Or.inr a))
theorem dep_un {m : AM} {v0 v1 x y : Int32} (h1 : ansDep m v0 v1 x) (h2 : ansDep m v0 v1 y) : x = y := by
  rcases h1 with ⟨a, b⟩ | ⟨a, b⟩
  · rcases h2 with ⟨c, d⟩ | ⟨c, d⟩
    · rw [b, d]
    · exfalso; omega
  · rcases h2 with ⟨c, d⟩ | ⟨c, d⟩
    · exfalso; omega
    · exact DEPx.uniq b d
theorem aRd_cg {F G : Nat → Int32} : ∀ n : Nat, (∀ i, i < n → F i = G i) → aRd F n = aRd G n
  | 0, _ => rfl
  | n + 1, h => by
    show aAdd (aRd F n) (F n) = aAdd (aRd G n) (G n)
    rw [aRd_cg n (fun i hi => h i (by omega)), h n (by omega)]
theorem cnt_cg {n r ts es kc ac pe tl n' r' ts' es' kc' ac' pe' tl' : Nat} {sh sh' v0 : Int32} (h1 : n = n') (h2 : r = r') (h3 : ts = ts') (h4 : es = es') (h5 : kc = kc') (h6 : ac = ac') (h7 : pe = pe') (h8 : tl = tl') (h9 : sh = sh') : ansCnt n r ts es kc ac pe tl sh v0 = ansCnt n' r' ts' es' kc' ac' pe' tl' sh' v0 := by
  subst h1; subst h2; subst h3; subst h4; subst h5; subst h6; subst h7; subst h8; subst h9; rfl
/-! the start -/
theorem am_0z {f g f' g' : Nat → Int32} : am 0 0 f g = am 0 0 f' g' := by
  unfold am
  refine Prod.ext rfl (Prod.ext rfl (Prod.ext ?_ ?_))
  · funext w
    show (if w < 0 then f w else 0) = (if w < 0 then f' w else 0)
    rw [if_neg (Nat.not_lt_zero w), if_neg (Nat.not_lt_zero w)]
  · funext k w v
    show (decide (k < 4) && (decide (w < 0) && bt (g (k * 24 + w)) v)) = (decide (k < 4) && (decide (w < 0) && bt (g' (k * 24 + w)) v))
    rw [decide_eq_false (Nat.not_lt_zero w), Bool.false_and, Bool.false_and]
theorem asz_0 {f g ff fp : Nat → Int32} {pV : Nat → AM} : asX (am 0 0 f g) 0 0 pV = asM 0 (pgs (fun _ => 0) (fun _ => 0) ff fp) := by
  unfold asX asM
  have h0 : cN (fun _ => (0 : Int32)) 0 = 0 := rfl
  refine Prod.ext ?_ (Prod.ext rfl ?_)
  · show am 0 0 f g = am (cN (fun _ => 0) 0) (cN (fun _ => 0) 0) _ _
    rw [h0]; exact am_0z
  · funext j
    show (if j < 0 then pV ((0 + 7 - j) % 8) else am0) = (if j < 0 then pgs (fun _ => 0) (fun _ => 0) ff fp (10 + 0 - 1 - j) else am0)
    rw [if_neg (Nat.not_lt_zero j), if_neg (Nat.not_lt_zero j)]
theorem keq0 {KV PG : Nat → AM} : KEQ 0 0 KV PG := ⟨rfl, fun j hj => absurd hj (Nat.not_lt_zero _)⟩
theorem tvq0 {fm fa fw fo fn : Nat → Int32} : TVQ (fun _ => none) (fun _ => 0) fm fa fw fo fn := fun k _ => Or.inl ⟨rfl, Int.le_refl _⟩
theorem p4n {e c : Nat} : pick4 (fun _ => (none : Option SVal)) (fun _ => none) (fun _ => none) (fun _ => none) e c = none := by unfold pick4; split <;> rfl
theorem ivq0 {eT : Nat → Nat → Option SVal} {eb en : Nat → Nat → Int32} {fm fa fw : Nat → Int32} (h1 : ∀ e c, eT e c = none) (h2 : ∀ e c, eb e c = 0) (h3 : ∀ e c, en e c = 0) : IVQ eT eb en (fun _ => 0) fm fa fw (fun _ => 0) (fun _ => 0) := fun e he c hc => ⟨Or.inl ⟨h1 e c, rfl⟩, h2 e c, h3 e c⟩
