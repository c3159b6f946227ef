/-! turns -/
def bitK (k : Nat) : Int32 := (1 : Int32) <<< (nI k &&& 31)
def sgI (sg : Int32) (k : Nat) : Nat := ((sg >>> (nI (3 * k) &&& 31)) &&& 7).toNatClampNeg
theorem sgI_of {sg x : Int32} {k j : Nat} (e1 : sg >>> (nI (3 * k) &&& 31) = x) (e2 : x &&& 7 = nI j) (hj : j ≤ 7) : sgI sg k = j := by
  unfold sgI; rw [e1, e2]; exact nI_clamp (by omega)
def askd (T : Nat → Option SVal) (gr sg : Int32) (k : Nat) : Bool := bt gr k && (T (sgI sg k)).isSome
def aKn (m : AM) (ev : Nat → EVl) (T : Nat → Option SVal) (sg : Int32) (k : Nat) : Nat → Bool := vWh m (bitK k) (vWho m ev ((T (sgI sg k)).getD sv0))
/-- the worlds that stay, the first k knowers asked -/
def stS (m : AM) (ev : Nat → EVl) (T : Nat → Option SVal) (gr sg : Int32) : Nat → Nat → Bool
  | 0 => vAll m
  | k + 1 => fun w => stS m ev T gr sg k w && (!askd T gr sg k || (if aKn m ev T sg k m.2.1 = true then aKn m ev T sg k w else !aKn m ev T sg k w))
/-- who knew, of the first i -/
def knS (m : AM) (ev : Nat → EVl) (T : Nat → Option SVal) (gr sg : Int32) (i : Nat) : Nat → Bool := fun k => decide (k < i) && (askd T gr sg k && aKn m ev T sg k m.2.1)
theorem stS_lt {m : AM} {ev : Nat → EVl} {T : Nat → Option SVal} {gr sg : Int32} : ∀ k w, stS m ev T gr sg k w = true → w < m.1
  | 0, w, h => of_decide_eq_true h
  | k + 1, w, h => by
    have h2 : (stS m ev T gr sg k w && _) = true := h
    rw [Bool.and_eq_true] at h2
    exact stS_lt k w h2.1
def uns (m : AM) (k : Nat) (P : Nat → Bool) : Nat → Bool := fun w => ld m (bitK k) P 1 w && ld m (bitK k) (vNot m P) 1 w
theorem uns_bs {m : AM} {al g nb c x y u b1 b2 : Int32} {P : Nat → Bool} {k : Nat} (h : BS al (vAll m)) (hg : BS g P) (e1 : g ^^^ (-1 : Int32) = nb) (e2 : al &&& nb = c) (k1 : (1 : Int32) <<< (nI k &&& 31) = b1) (k2 : (1 : Int32) <<< (nI k &&& 31) = b2) (hx : BS x (ld m b1 (bt g) 1)) (hy : BS y (ld m b2 (bt c) 1)) (e : x &&& y = u) : BS u (uns m k P) := by
  subst k1; subst k2
  exact BS.and (ld_b hx hg) (ld_b hy (ev_b h hg e1 e2)) e
theorem uns_kn {m : AM} (hw : WFm m) {k w : Nat} {P : Nat → Bool} (hl : w < m.1) : vWh m (bitK k) P w = !uns m k P w := by
  rw [← vwh_c hw w, decide_eq_true hl, Bool.true_and]; rfl
section ASK
variable {m : AM} {ev : Nat → EVl} {T : Nat → Option SVal} {gr sg st kn u nu z : Int32} {k j : Nat} {S : SVal}
theorem as_0 (h : BS st (stS m ev T gr sg k)) (ha : askd T gr sg k = false) : BS st (stS m ev T gr sg (k + 1)) := h.cg (fun w _ => by
  show stS m ev T gr sg k w = (stS m ev T gr sg k w && (!askd T gr sg k || _))
  rw [ha, Bool.not_false, Bool.true_or, Bool.and_true])
theorem kn_0 (h : BS kn (knS m ev T gr sg k)) (ha : askd T gr sg k = false) : BS kn (knS m ev T gr sg (k + 1)) := h.cg (fun i _ => by
  unfold knS
  by_cases q : i = k
  · rw [q, ha, Bool.false_and, Bool.and_false, Bool.and_false]
  · rw [dec_cg (show i < k ↔ i < k + 1 by omega)])
theorem askd_0 (h : bt gr k = false) : askd T gr sg k = false := by unfold askd; rw [h, Bool.false_and]
theorem askd_n (hj : sgI sg k = j) (h : T j = none) : askd T gr sg k = false := by unfold askd; rw [hj, h]; exact Bool.and_false _
theorem askd_1 (hb : bt gr k = true) (hj : sgI sg k = j) (h : T j = some S) : askd T gr sg k = true := by unfold askd; rw [hb, hj, h]; rfl
theorem as_y (hw : WFm m) (hr : m.2.1 < m.1) (h : BS st (stS m ev T gr sg k)) (ha : askd T gr sg k = true) (hj : sgI sg k = j) (hu : BS u (uns m k (vWho m ev ((T j).getD sv0)))) (hb : bt u m.2.1 = false) (hr32 : m.2.1 < 32) (e1 : u ^^^ (-1 : Int32) = nu) (e : st &&& nu = z) : BS z (stS m ev T gr sg (k + 1)) := by
  have h1 := BS.and h (BS.not hu e1) e
  have hk : aKn m ev T sg k m.2.1 = true := by
    unfold aKn; rw [hj, uns_kn hw hr, ← hu _ hr32, hb]; rfl
  refine h1.cg (fun w _ => ?_)
  show (stS m ev T gr sg k w && !uns m k (vWho m ev ((T j).getD sv0)) w) = (stS m ev T gr sg k w && (!askd T gr sg k || (if aKn m ev T sg k m.2.1 = true then aKn m ev T sg k w else !aKn m ev T sg k w)))
  rw [ha, if_pos hk, Bool.not_true, Bool.false_or]
  by_cases q : stS m ev T gr sg k w = true
  · rw [q, Bool.true_and, Bool.true_and]
    unfold aKn; rw [hj, uns_kn hw (stS_lt k w q)]
  · rw [Bool.not_eq_true] at q; rw [q, Bool.false_and, Bool.false_and]
theorem as_n (hw : WFm m) (hr : m.2.1 < m.1) (h : BS st (stS m ev T gr sg k)) (ha : askd T gr sg k = true) (hj : sgI sg k = j) (hu : BS u (uns m k (vWho m ev ((T j).getD sv0)))) (hb : bt u m.2.1 = true) (hr32 : m.2.1 < 32) (e : st &&& u = z) : BS z (stS m ev T gr sg (k + 1)) := by
  have h1 := BS.and h hu e
  have hk : ¬ aKn m ev T sg k m.2.1 = true := by
    unfold aKn; rw [hj, uns_kn hw hr, ← hu _ hr32, hb]; decide
  refine h1.cg (fun w _ => ?_)
  show (stS m ev T gr sg k w && uns m k (vWho m ev ((T j).getD sv0)) w) = (stS m ev T gr sg k w && (!askd T gr sg k || (if aKn m ev T sg k m.2.1 = true then aKn m ev T sg k w else !aKn m ev T sg k w)))
  rw [ha, if_neg hk, Bool.not_true, Bool.false_or]
  by_cases q : stS m ev T gr sg k w = true
  · rw [q, Bool.true_and, Bool.true_and]
    unfold aKn; rw [hj, uns_kn hw (stS_lt k w q), Bool.not_not]
  · rw [Bool.not_eq_true] at q; rw [q, Bool.false_and, Bool.false_and]
theorem kn_y {b : Int32} (hw : WFm m) (hr : m.2.1 < m.1) (h : BS kn (knS m ev T gr sg k)) (hk4 : k ≤ 30) (ha : askd T gr sg k = true) (hj : sgI sg k = j) (hu : BS u (uns m k (vWho m ev ((T j).getD sv0)))) (hb : bt u m.2.1 = false) (hr32 : m.2.1 < 32) (e1 : (1 : Int32) <<< (nI k &&& 31) = b) (e : kn ||| b = z) : BS z (knS m ev T gr sg (k + 1)) := by
  have hk : aKn m ev T sg k m.2.1 = true := by
    unfold aKn; rw [hj, uns_kn hw hr, ← hu _ hr32, hb]; rfl
  intro i hi
  rw [← e, b_or, h i hi, ← e1, one_b hk4 i hi]
  unfold knS
  by_cases q : i = k
  · rw [q, ha, hk, decide_eq_true rfl, decide_eq_true (show k < k + 1 by omega), Bool.or_true]; rfl
  · rw [decide_eq_false q, Bool.or_false, dec_cg (show i < k ↔ i < k + 1 by omega)]
theorem kn_n (hw : WFm m) (hr : m.2.1 < m.1) (h : BS kn (knS m ev T gr sg k)) (hj : sgI sg k = j) (hu : BS u (uns m k (vWho m ev ((T j).getD sv0)))) (hb : bt u m.2.1 = true) (hr32 : m.2.1 < 32) (e : kn ||| (0 : Int32) = z) : BS z (knS m ev T gr sg (k + 1)) := by
  have hk : aKn m ev T sg k m.2.1 = false := by
    unfold aKn; rw [hj, uns_kn hw hr, ← hu _ hr32, hb]; rfl
  intro i hi
  rw [← e, b_or, h i hi, b_0, Bool.or_false]
  unfold knS
  by_cases q : i = k
  · rw [q, hk, Bool.and_false, Bool.and_false, Bool.and_false]
  · rw [dec_cg (show i < k ↔ i < k + 1 by omega)]
end ASK
/-! turns till one takes away no world -/
theorem nth_cg {P Q : Nat → Bool} : ∀ {n j : Nat}, (∀ i, i < n → P i = Q i) → nth P n j = nth Q n j
  | 0, j, _ => rfl
  | n + 1, j, h => by
    show (if P n = true ∧ cb P n = j then n else nth P n j) = (if Q n = true ∧ cb Q n = j then n else nth Q n j)
    rw [h n (by omega), cb_congr (f := P) (g := Q) (fun i hi => h i (by omega)), nth_cg (fun i hi => h i (by omega))]
theorem aCut_cg {m : AM} {P Q : Nat → Bool} (hr : m.2.1 < m.1) (h : ∀ i, i < m.1 → P i = Q i) : aCut m P = aCut m Q := by
  unfold aCut cmpS
  rw [cb_congr (f := P) (g := Q) h, cb_congr (f := P) (g := Q) (n := m.2.1) (fun i hi => h i (by omega))]
  refine congrArg _ (congrArg _ (Prod.ext ?_ ?_))
  · funext j
    show (if j < cb Q m.1 then m.2.2.1 (nth P m.1 j) else 0) = (if j < cb Q m.1 then m.2.2.1 (nth Q m.1 j) else 0)
    rw [nth_cg h]
  · funext k j i
    show (decide (k < 4) && (decide (j < cb Q m.1) && (decide (i < cb Q m.1) && m.2.2.2 k (nth P m.1 j) (nth P m.1 i)))) = (decide (k < 4) && (decide (j < cb Q m.1) && (decide (i < cb Q m.1) && m.2.2.2 k (nth Q m.1 j) (nth Q m.1 i))))
    rw [nth_cg (j := j) h, nth_cg (j := i) h]
theorem aCut_wf {m : AM} {P : Nat → Bool} : WFm (aCut m P) := cmp_wf
section GO
variable (m : AM) (ev : Nat → EVl) (T : Nat → Option SVal) (gr sg : Int32)
def goS : Nat → AM
  | 0 => m
  | i + 1 => aCut (goS i) (stS (goS i) ev T gr sg 4)
def restG (i : Nat) : Prop := ∀ v, v < 32 → stS (goS m ev T gr sg i) ev T gr sg 4 v = vAll (goS m ev T gr sg i) v
def fstS (k : Nat) : Nat → Int32
  | 0 => -4
  | i + 1 => if fstS k i = -4 ∧ knS (goS m ev T gr sg i) ev T gr sg 4 k = true then nI (i + 1) else fstS k i
def GOE (N : Nat) : Prop := (∀ i, i < N → ¬ restG m ev T gr sg i) ∧ restG m ev T gr sg N
end GO
theorem GOE.uniq {m : AM} {ev : Nat → EVl} {T : Nat → Option SVal} {gr sg : Int32} {N M : Nat} (h1 : GOE m ev T gr sg N) (h2 : GOE m ev T gr sg M) : N = M := by
  rcases Nat.lt_trichotomy N M with h | h | h
  · exact absurd h1.2 (h2.1 N h)
  · exact h
  · exact absurd h2.2 (h1.1 M h)
theorem goS_wf {m : AM} (hw : WFm m) {ev : Nat → EVl} {T : Nat → Option SVal} {gr sg : Int32} : ∀ i, WFm (goS m ev T gr sg i)
  | 0 => hw
  | i + 1 => aCut_wf
theorem go_cut {m : AM} {ev : Nat → EVl} {T : Nat → Option SVal} {gr sg st : Int32} {i n r n2 r2 : Nat} {f g f2 g2 : Nat → Int32} (h24 : n ≤ 24) (hr : r < n) (ha : am n r f g = goS m ev T gr sg i) (hs : BS st (stS (am n r f g) ev T gr sg 4)) (hc : am n2 r2 f2 g2 = aCut (am n r f g) (bt st)) : am n2 r2 f2 g2 = goS m ev T gr sg (i + 1) := by
  show _ = aCut (goS m ev T gr sg i) (stS (goS m ev T gr sg i) ev T gr sg 4)
  rw [hc, ← ha]
  exact aCut_cg hr (fun v hv => hs v (by have : v < n := hv; omega))
theorem go_rest {m : AM} {ev : Nat → EVl} {T : Nat → Option SVal} {gr sg st al : Int32} {i n r : Nat} {f g : Nat → Int32} (ha : am n r f g = goS m ev T gr sg i) (hs : BS st (stS (am n r f g) ev T gr sg 4)) (hl : BS al (vAll (am n r f g))) (e : st = al) : restG m ev T gr sg i := by
  unfold restG
  rw [← ha]
  intro v hv
  rw [← hs v hv, ← hl v hv, e]
theorem go_more {m : AM} {ev : Nat → EVl} {T : Nat → Option SVal} {gr sg st al : Int32} {i n r : Nat} {f g : Nat → Int32} (ha : am n r f g = goS m ev T gr sg i) (hs : BS st (stS (am n r f g) ev T gr sg 4)) (hl : BS al (vAll (am n r f g))) (e : ¬ st = al) : ¬ restG m ev T gr sg i := by
  unfold restG
  rw [← ha]
  intro h
  exact e (b_ext (fun v hv => (hs v hv).trans ((h v hv).trans (hl v hv).symm)))
theorem go_less {ev : Nat → EVl} {T : Nat → Option SVal} {gr sg st al : Int32} {k n r : Nat} {f g : Nat → Int32} (h24 : n ≤ 24) (hs : BS st (stS (am n r f g) ev T gr sg k)) (hl : BS al (vAll (am n r f g))) (e : ¬ st = al) : cb (bt st) n < n := by
  have h1 := cb_le (bt st) n
  apply Classical.byContradiction
  intro hno
  apply e
  apply b_ext
  intro v hv
  rw [hl v hv]
  show bt st v = decide (v < n)
  by_cases q : v < n
  · rw [decide_eq_true q]
    cases hb : bt st v with
    | true => rfl
    | false =>
      exfalso
      have h2 := cb_sub_lt (f := bt st) (g := fun _ => true) n (fun _ _ _ => rfl) ⟨v, q, hb, rfl⟩
      have h3 : ∀ n, cb (fun _ => true) n = n := by
        intro n
        induction n with
        | zero => rfl
        | succ n ih => rw [cb_t rfl, ih]
      rw [h3] at h2; omega
  · rw [decide_eq_false q]
    cases hb : bt st v with
    | false => rfl
    | true => exact absurd (stS_lt k v (by rw [← hs v hv]; exact hb)) q
theorem stS_real {m : AM} (hw : WFm m) (hr : m.2.1 < m.1) {ev : Nat → EVl} {T : Nat → Option SVal} {gr sg : Int32} : ∀ k, stS m ev T gr sg k m.2.1 = true
  | 0 => decide_eq_true hr
  | k + 1 => by
    show (stS m ev T gr sg k m.2.1 && (!askd T gr sg k || (if aKn m ev T sg k m.2.1 = true then aKn m ev T sg k m.2.1 else !aKn m ev T sg k m.2.1))) = true
    rw [stS_real hw hr k, Bool.true_and]
    by_cases q : aKn m ev T sg k m.2.1 = true
    · rw [if_pos q, q, Bool.or_true]
    · rw [if_neg q]; rw [Bool.not_eq_true] at q; rw [q, Bool.not_false, Bool.or_true]
theorem cut_st {n r n2 r2 : Nat} {f g f2 g2 : Nat → Int32} {st : Int32} {P : Nat → Bool} (hr : r < n) (h24 : n ≤ 24) (hc : am n2 r2 f2 g2 = aCut (am n r f g) (bt st)) (hs : BS st P) : am n2 r2 f2 g2 = aCut (am n r f g) P :=
  hc.trans (aCut_cg (m := am n r f g) hr (fun i hi => hs i (Nat.lt_of_lt_of_le (show i < n from hi) (Nat.le_trans h24 (by decide)))))
