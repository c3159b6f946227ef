section
/-! turns -/
def bitK (k : Nat) : Int32 := (1 : Int32) <<< (nI k &&& 31)
def sgI (sg : Int32) (k : Nat) : Nat := ((sg >>> (nI (3 * k) &&& 31)) &&& 7).toNatClampNeg
theorem sgI_of {sg x : Int32} {k j : Nat} (e1 : sg >>> (nI (3 * k) &&& 31) = x) (e2 : x &&& 7 = nI j) (hj : j ≤ 7) : sgI sg k = j := by
  unfold sgI; rw [e1, e2]; exact nI_clamp (by omega)
def askd (T : Nat → Option SVal) (gr sg : Int32) (k : Nat) : Bool := bt gr k && (T (sgI sg k)).isSome
def aKn (m : AM) (ev : Nat → EVl) (T : Nat → Option SVal) (sg : Int32) (k : Nat) : Nat → Bool := vWh m (bitK k) (vWho m ev ((T (sgI sg k)).getD sv0))
/-- the worlds that stay, the first k knowers asked -/
def stS (m : AM) (ev : Nat → EVl) (T : Nat → Option SVal) (gr sg : Int32) : Nat → Nat → Bool
  | 0 => vAll m
  | k + 1 => fun w => stS m ev T gr sg k w && (!askd T gr sg k || (if aKn m ev T sg k m.2.1 = true then aKn m ev T sg k w else !aKn m ev T sg k w))
/-- who knew, of the first i -/
def knS (m : AM) (ev : Nat → EVl) (T : Nat → Option SVal) (gr sg : Int32) (i : Nat) : Nat → Bool := fun k => decide (k < i) && (askd T gr sg k && aKn m ev T sg k m.2.1)
theorem stS_lt {m : AM} {ev : Nat → EVl} {T : Nat → Option SVal} {gr sg : Int32} : ∀ k w, stS m ev T gr sg k w = true → w < m.1
  | 0, w, h => of_decide_eq_true h
  | k + 1, w, h => by
    have h2 : (stS m ev T gr sg k w && _) = true := h
    rw [Bool.and_eq_true] at h2
    exact stS_lt k w h2.1
def uns (m : AM) (k : Nat) (P : Nat → Bool) : Nat → Bool := fun w => ld m (bitK k) P 1 w && ld m (bitK k) (vNot m P) 1 w
theorem uns_bs {m : AM} {al g nb c x y u b1 b2 : Int32} {P : Nat → Bool} {k : Nat} (h : BS al (vAll m)) (hg : BS g P) (e1 : g ^^^ (-1 : Int32) = nb) (e2 : al &&& nb = c) (k1 : (1 : Int32) <<< (nI k &&& 31) = b1) (k2 : (1 : Int32) <<< (nI k &&& 31) = b2) (hx : BS x (ld m b1 (bt g) 1)) (hy : BS y (ld m b2 (bt c) 1)) (e : x &&& y = u) : BS u (uns m k P) := by
  subst k1; subst k2
  exact BS.and (ld_b hx hg) (ld_b hy (ev_b h hg e1 e2)) e
theorem uns_kn {m : AM} (hw : WFm m) {k w : Nat} {P : Nat → Bool} (hl : w < m.1) : vWh m (bitK k) P w = !uns m k P w := by
  rw [← vwh_c hw w, decide_eq_true hl, Bool.true_and]; rfl
section ASK
variable {m : AM} {ev : Nat → EVl} {T : Nat → Option SVal} {gr sg st kn u nu z : Int32} {k j : Nat} {S : SVal}
theorem as_0 (h : BS st (stS m ev T gr sg k)) (ha : askd T gr sg k = false) : BS st (stS m ev T gr sg (k + 1)) := h.cg (fun w _ => by
  show stS m ev T gr sg k w = (stS m ev T gr sg k w && (!askd T gr sg k || _))
  rw [ha, Bool.not_false, Bool.true_or, Bool.and_true])
theorem kn_0 (h : BS kn (knS m ev T gr sg k)) (ha : askd T gr sg k = false) : BS kn (knS m ev T gr sg (k + 1)) := h.cg (fun i _ => by
  unfold knS
  by_cases q : i = k
  · rw [q, ha, Bool.false_and, Bool.and_false, Bool.and_false]
  · rw [dec_cg (show i < k ↔ i < k + 1 by omega)])
theorem askd_0 (h : bt gr k = false) : askd T gr sg k = false := by unfold askd; rw [h, Bool.false_and]
theorem askd_n (hj : sgI sg k = j) (h : T j = none) : askd T gr sg k = false := by unfold askd; rw [hj, h]; exact Bool.and_false _
theorem askd_1 (hb : bt gr k = true) (hj : sgI sg k = j) (h : T j = some S) : askd T gr sg k = true := by unfold askd; rw [hb, hj, h]; rfl
theorem as_y (hw : WFm m) (hr : m.2.1 < m.1) (h : BS st (stS m ev T gr sg k)) (ha : askd T gr sg k = true) (hj : sgI sg k = j) (hu : BS u (uns m k (vWho m ev ((T j).getD sv0)))) (hb : bt u m.2.1 = false) (hr32 : m.2.1 < 32) (e1 : u ^^^ (-1 : Int32) = nu) (e : st &&& nu = z) : BS z (stS m ev T gr sg (k + 1)) := by
  have h1 := BS.and h (BS.not hu e1) e
  have hk : aKn m ev T sg k m.2.1 = true := by
    unfold aKn; rw [hj, uns_kn hw hr, ← hu _ hr32, hb]; rfl
  refine h1.cg (fun w _ => ?_)
  show (stS m ev T gr sg k w && !uns m k (vWho m ev ((T j).getD sv0)) w) = (stS m ev T gr sg k w && (!askd T gr sg k || (if aKn m ev T sg k m.2.1 = true then aKn m ev T sg k w else !aKn m ev T sg k w)))
  rw [ha, if_pos hk, Bool.not_true, Bool.false_or]
  by_cases q : stS m ev T gr sg k w = true
  · rw [q, Bool.true_and, Bool.true_and]
    unfold aKn; rw [hj, uns_kn hw (stS_lt k w q)]
  · rw [Bool.not_eq_true] at q; rw [q, Bool.false_and, Bool.false_and]
theorem as_n (hw : WFm m) (hr : m.2.1 < m.1) (h : BS st (stS m ev T gr sg k)) (ha : askd T gr sg k = true) (hj : sgI sg k = j) (hu : BS u (uns m k (vWho m ev ((T j).getD sv0)))) (hb : bt u m.2.1 = true) (hr32 : m.2.1 < 32) (e : st &&& u = z) : BS z (stS m ev T gr sg (k + 1)) := by
  have h1 := BS.and h hu e
  have hk : ¬ aKn m ev T sg k m.2.1 = true := by
    unfold aKn; rw [hj, uns_kn hw hr, ← hu _ hr32, hb]; decide
  refine h1.cg (fun w _ => ?_)
  show (stS m ev T gr sg k w && uns m k (vWho m ev ((T j).getD sv0)) w) = (stS m ev T gr sg k w && (!askd T gr sg k || (if aKn m ev T sg k m.2.1 = true then aKn m ev T sg k w else !aKn m ev T sg k w)))
  rw [ha, if_neg hk, Bool.not_true, Bool.false_or]
  by_cases q : stS m ev T gr sg k w = true
  · rw [q, Bool.true_and, Bool.true_and]
    unfold aKn; rw [hj, uns_kn hw (stS_lt k w q), Bool.not_not]
  · rw [Bool.not_eq_true] at q; rw [q, Bool.false_and, Bool.false_and]
theorem kn_y {b : Int32} (hw : WFm m) (hr : m.2.1 < m.1) (h : BS kn (knS m ev T gr sg k)) (hk4 : k ≤ 30) (ha : askd T gr sg k = true) (hj : sgI sg k = j) (hu : BS u (uns m k (vWho m ev ((T j).getD sv0)))) (hb : bt u m.2.1 = false) (hr32 : m.2.1 < 32) (e1 : (1 : Int32) <<< (nI k &&& 31) = b) (e : kn ||| b = z) : BS z (knS m ev T gr sg (k + 1)) := by
  have hk : aKn m ev T sg k m.2.1 = true := by
    unfold aKn; rw [hj, uns_kn hw hr, ← hu _ hr32, hb]; rfl
  intro i hi
  rw [← e, b_or, h i hi, ← e1, one_b hk4 i hi]
  unfold knS
  by_cases q : i = k
  · rw [q, ha, hk, decide_eq_true rfl, decide_eq_true (show k < k + 1 by omega), Bool.or_true]; rfl
  · rw [decide_eq_false q, Bool.or_false, dec_cg (show i < k ↔ i < k + 1 by omega)]
theorem kn_n (hw : WFm m) (hr : m.2.1 < m.1) (h : BS kn (knS m ev T gr sg k)) (hj : sgI sg k = j) (hu : BS u (uns m k (vWho m ev ((T j).getD sv0)))) (hb : bt u m.2.1 = true) (hr32 : m.2.1 < 32) (e : kn ||| (0 : Int32) = z) : BS z (knS m ev T gr sg (k + 1)) := by
  have hk : aKn m ev T sg k m.2.1 = false := by
    unfold aKn; rw [hj, uns_kn hw hr, ← hu _ hr32, hb]; rfl
  intro i hi
  rw [← e, b_or, h i hi, b_0, Bool.or_false]
  unfold knS
  by_cases q : i = k
  · rw [q, hk, Bool.and_false, Bool.and_false, Bool.and_false]
  · rw [dec_cg (show i < k ↔ i < k + 1 by omega)]
end ASK
/-! turns till one takes away no world -/
theorem nth_cg {P Q : Nat → Bool} : ∀ {n j : Nat}, (∀ i, i < n → P i = Q i) → nth P n j = nth Q n j
  | 0, j, _ => rfl
  | n + 1, j, h => by
    show (if P n = true ∧ cb P n = j then n else nth P n j) = (if Q n = true ∧ cb Q n = j then n else nth Q n j)
    rw [h n (by omega), cb_congr (f := P) (g := Q) (fun i hi => h i (by omega)), nth_cg (fun i hi => h i (by omega))]
theorem aCut_cg {m : AM} {P Q : Nat → Bool} (hr : m.2.1 < m.1) (h : ∀ i, i < m.1 → P i = Q i) : aCut m P = aCut m Q := by
  unfold aCut cmpS
  rw [cb_congr (f := P) (g := Q) h, cb_congr (f := P) (g := Q) (n := m.2.1) (fun i hi => h i (by omega))]
  refine congrArg _ (congrArg _ (Prod.ext ?_ ?_))
  · funext j
    show (if j < cb Q m.1 then m.2.2.1 (nth P m.1 j) else 0) = (if j < cb Q m.1 then m.2.2.1 (nth Q m.1 j) else 0)
    rw [nth_cg h]
  · funext k j i
    show (decide (k < 4) && (decide (j < cb Q m.1) && (decide (i < cb Q m.1) && m.2.2.2 k (nth P m.1 j) (nth P m.1 i)))) = (decide (k < 4) && (decide (j < cb Q m.1) && (decide (i < cb Q m.1) && m.2.2.2 k (nth Q m.1 j) (nth Q m.1 i))))
    rw [nth_cg (j := j) h, nth_cg (j := i) h]
theorem aCut_wf {m : AM} {P : Nat → Bool} : WFm (aCut m P) := cmp_wf
section GO
variable (m : AM) (ev : Nat → EVl) (T : Nat → Option SVal) (gr sg : Int32)
def goS : Nat → AM
  | 0 => m
  | i + 1 => aCut (goS i) (stS (goS i) ev T gr sg 4)
def restG (i : Nat) : Prop := ∀ v, v < 32 → stS (goS m ev T gr sg i) ev T gr sg 4 v = vAll (goS m ev T gr sg i) v
def fstS (k : Nat) : Nat → Int32
  | 0 => -4
  | i + 1 => if fstS k i = -4 ∧ knS (goS m ev T gr sg i) ev T gr sg 4 k = true then nI (i + 1) else fstS k i
def GOE (N : Nat) : Prop := (∀ i, i < N → ¬ restG m ev T gr sg i) ∧ restG m ev T gr sg N
end GO
theorem GOE.uniq {m : AM} {ev : Nat → EVl} {T : Nat → Option SVal} {gr sg : Int32} {N M : Nat} (h1 : GOE m ev T gr sg N) (h2 : GOE m ev T gr sg M) : N = M := by
  rcases Nat.lt_trichotomy N M with h | h | h
  · exact absurd h1.2 (h2.1 N h)
  · exact h
  · exact absurd h2.2 (h1.1 M h)
theorem goS_wf {m : AM} (hw : WFm m) {ev : Nat → EVl} {T : Nat → Option SVal} {gr sg : Int32} : ∀ i, WFm (goS m ev T gr sg i)
  | 0 => hw
  | i + 1 => aCut_wf
theorem go_cut {m : AM} {ev : Nat → EVl} {T : Nat → Option SVal} {gr sg st : Int32} {i n r n2 r2 : Nat} {f g f2 g2 : Nat → Int32} (h24 : n ≤ 24) (hr : r < n) (ha : am n r f g = goS m ev T gr sg i) (hs : BS st (stS (am n r f g) ev T gr sg 4)) (hc : am n2 r2 f2 g2 = aCut (am n r f g) (bt st)) : am n2 r2 f2 g2 = goS m ev T gr sg (i + 1) := by
  show _ = aCut (goS m ev T gr sg i) (stS (goS m ev T gr sg i) ev T gr sg 4)
  rw [hc, ← ha]
  exact aCut_cg hr (fun v hv => hs v (by have : v < n := hv; omega))
theorem go_rest {m : AM} {ev : Nat → EVl} {T : Nat → Option SVal} {gr sg st al : Int32} {i n r : Nat} {f g : Nat → Int32} (ha : am n r f g = goS m ev T gr sg i) (hs : BS st (stS (am n r f g) ev T gr sg 4)) (hl : BS al (vAll (am n r f g))) (e : st = al) : restG m ev T gr sg i := by
  unfold restG
  rw [← ha]
  intro v hv
  rw [← hs v hv, ← hl v hv, e]
theorem go_more {m : AM} {ev : Nat → EVl} {T : Nat → Option SVal} {gr sg st al : Int32} {i n r : Nat} {f g : Nat → Int32} (ha : am n r f g = goS m ev T gr sg i) (hs : BS st (stS (am n r f g) ev T gr sg 4)) (hl : BS al (vAll (am n r f g))) (e : ¬ st = al) : ¬ restG m ev T gr sg i := by
  unfold restG
  rw [← ha]
  intro h
  exact e (b_ext (fun v hv => (hs v hv).trans ((h v hv).trans (hl v hv).symm)))
theorem go_less {ev : Nat → EVl} {T : Nat → Option SVal} {gr sg st al : Int32} {k n r : Nat} {f g : Nat → Int32} (h24 : n ≤ 24) (hs : BS st (stS (am n r f g) ev T gr sg k)) (hl : BS al (vAll (am n r f g))) (e : ¬ st = al) : cb (bt st) n < n := by
  have h1 := cb_le (bt st) n
  apply Classical.byContradiction
  intro hno
  apply e
  apply b_ext
  intro v hv
  rw [hl v hv]
  show bt st v = decide (v < n)
  by_cases q : v < n
  · rw [decide_eq_true q]
    cases hb : bt st v with
    | true => rfl
    | false =>
      exfalso
      have h2 := cb_sub_lt (f := bt st) (g := fun _ => true) n (fun _ _ _ => rfl) ⟨v, q, hb, rfl⟩
      have h3 : ∀ n, cb (fun _ => true) n = n := by
        intro n
        induction n with
        | zero => rfl
        | succ n ih => rw [cb_t rfl, ih]
      rw [h3] at h2; omega
  · rw [decide_eq_false q]
    cases hb : bt st v with
    | false => rfl
    | true => exact absurd (stS_lt k v (by rw [← hs v hv]; exact hb)) q
theorem stS_real {m : AM} (hw : WFm m) (hr : m.2.1 < m.1) {ev : Nat → EVl} {T : Nat → Option SVal} {gr sg : Int32} : ∀ k, stS m ev T gr sg k m.2.1 = true
  | 0 => decide_eq_true hr
  | k + 1 => by
    show (stS m ev T gr sg k m.2.1 && (!askd T gr sg k || (if aKn m ev T sg k m.2.1 = true then aKn m ev T sg k m.2.1 else !aKn m ev T sg k m.2.1))) = true
    rw [stS_real hw hr k, Bool.true_and]
    by_cases q : aKn m ev T sg k m.2.1 = true
    · rw [if_pos q, q, Bool.or_true]
    · rw [if_neg q]; rw [Bool.not_eq_true] at q; rw [q, Bool.not_false, Bool.or_true]
theorem cut_st {n r n2 r2 : Nat} {f g f2 g2 : Nat → Int32} {st : Int32} {P : Nat → Bool} (hr : r < n) (h24 : n ≤ 24) (hc : am n2 r2 f2 g2 = aCut (am n r f g) (bt st)) (hs : BS st P) : am n2 r2 f2 g2 = aCut (am n r f g) P :=
  hc.trans (aCut_cg (m := am n r f g) hr (fun i hi => hs i (Nat.lt_of_lt_of_le (show i < n from hi) (Nat.le_trans h24 (by decide)))))
end
section
theorem dX7_ask_0 : decode cX7_ask 0 = .ok (.aload_n 0, 1) := dl_42 (by decide +kernel)
theorem dX7_ask_1 : decode cX7_ask 1 = .ok (.aload_n 1, 1) := dl_43 (by decide +kernel)
theorem dX7_ask_2 : decode cX7_ask 2 = .ok (.invokevirtual 22, 3) := dl_182 (by decide +kernel)
theorem wl_X7_22 : Cond.methodLink RX7 22 yX4_all ∈ TB := tbm (tq4 (List.mem_of_getElem? (i := 196) (by decide +kernel))) (by decide +kernel)
theorem dX7_ask_5 : decode cX7_ask 5 = .ok (.putfield 26, 3) := dl_181 (by decide +kernel)
theorem uw_X7 : ∀ w ∈ u_ws RX7 TX7 5, w ∈ TB := uw_of [276, 278, 280, 282, 284] (by decide +kernel) (by decide +kernel)
theorem wf_X7_26 : Cond.fieldLink RX7 26 RX7 "stay" "I" ∈ TB := tbm (tq2 (List.mem_of_getElem? (i := 32) (by decide +kernel))) (by decide +kernel)
theorem fp_X7_26 : FP RX7 26 7 3 .int false := ⟨RX7, TX7, 5, tyX7, uw_X7, wf_X7_26, rfl, by decide, rfl, tyX7_ok, nmX7, rfl, by decide +kernel⟩
theorem dX7_ask_8 : decode cX7_ask 8 = .ok (.aload_n 0, 1) := dl_42 (by decide +kernel)
theorem dX7_ask_9 : decode cX7_ask 9 = .ok (.iconst 0, 1) := dl_3 (by decide +kernel)
theorem dX7_ask_10 : decode cX7_ask 10 = .ok (.putfield 30, 3) := dl_181 (by decide +kernel)
theorem wf_X7_30 : Cond.fieldLink RX7 30 RX7 "knew" "I" ∈ TB := tbm (tq2 (List.mem_of_getElem? (i := 34) (by decide +kernel))) (by decide +kernel)
theorem fp_X7_30 : FP RX7 30 7 4 .int false := ⟨RX7, TX7, 5, tyX7, uw_X7, wf_X7_30, rfl, by decide, rfl, tyX7_ok, nmX7, rfl, by decide +kernel⟩
theorem dX7_ask_13 : decode cX7_ask 13 = .ok (.iconst 0, 1) := dl_3 (by decide +kernel)
theorem dX7_ask_14 : decode cX7_ask 14 = .ok (.istore 5, 2) := dl_54 (by decide +kernel)
theorem dX7_ask_16 : decode cX7_ask 16 = .ok (.iload 5, 2) := dl_21 (by decide +kernel)
theorem dX7_ask_18 : decode cX7_ask 18 = .ok (.iconst 4, 1) := dl_7 (by decide +kernel)
theorem dX7_ask_19 : decode cX7_ask 19 = .ok (.if_icmp .ge 153, 3) := dl_162 (by decide +kernel)
theorem dX7_ask_172 : decode cX7_ask 172 = .ok (.return_, 1) := dl_177 (by decide +kernel)
theorem dX7_ask_22 : decode cX7_ask 22 = .ok (.aload_n 2, 1) := dl_44 (by decide +kernel)
theorem dX7_ask_23 : decode cX7_ask 23 = .ok (.getfield 33, 3) := dl_180 (by decide +kernel)
theorem wf_X7_33 : Cond.fieldLink RX7 33 RX2 "told" "[LWhoKnows$Saying;" ∈ TB := tbm (tq1 (List.mem_of_getElem? (i := 213) (by decide +kernel))) (by decide +kernel)
theorem fg_X7_33 : FG RX7 33 2 0 := ⟨RX2, TX2, 4, uw_X2, wf_X7_33, rfl, by decide, rfl⟩
theorem dX7_ask_26 : decode cX7_ask 26 = .ok (.iload 4, 2) := dl_21 (by decide +kernel)
theorem dX7_ask_28 : decode cX7_ask 28 = .ok (.iconst 3, 1) := dl_6 (by decide +kernel)
theorem dX7_ask_29 : decode cX7_ask 29 = .ok (.iload 5, 2) := dl_21 (by decide +kernel)
theorem dX7_ask_31 : decode cX7_ask 31 = .ok (.imul, 1) := dl_104 (by decide +kernel)
theorem dX7_ask_32 : decode cX7_ask 32 = .ok (.ishr, 1) := dl_122 (by decide +kernel)
theorem dX7_ask_33 : decode cX7_ask 33 = .ok (.bipush 7, 2) := dl_16 (by decide +kernel)
theorem dX7_ask_35 : decode cX7_ask 35 = .ok (.iand, 1) := dl_126 (by decide +kernel)
theorem dX7_ask_36 : decode cX7_ask 36 = .ok (.aaload, 1) := dl_50 (by decide +kernel)
theorem dX7_ask_37 : decode cX7_ask 37 = .ok (.astore 6, 2) := dl_58 (by decide +kernel)
theorem dX7_ask_39 : decode cX7_ask 39 = .ok (.iload_n 3, 1) := dl_29 (by decide +kernel)
theorem dX7_ask_40 : decode cX7_ask 40 = .ok (.iload 5, 2) := dl_21 (by decide +kernel)
theorem dX7_ask_42 : decode cX7_ask 42 = .ok (.invokestatic 39, 3) := dl_184 (by decide +kernel)
theorem dX7_ask_45 : decode cX7_ask 45 = .ok (.ifCond .eq 121, 3) := dl_153 (by decide +kernel)
theorem dX7_ask_48 : decode cX7_ask 48 = .ok (.aload 6, 2) := dl_25 (by decide +kernel)
theorem dX7_ask_50 : decode cX7_ask 50 = .ok (.ifnull 116, 3) := dl_198 (by decide +kernel)
theorem dX7_ask_166 : decode cX7_ask 166 = .ok (.iinc 5 1, 3) := dl_132 (by decide +kernel)
theorem dX7_ask_169 : decode cX7_ask 169 = .ok (.goto (-153), 3) := dl_167 (by decide +kernel)
theorem dX7_ask_53 : decode cX7_ask 53 = .ok (.aload_n 2, 1) := dl_44 (by decide +kernel)
theorem dX7_ask_54 : decode cX7_ask 54 = .ok (.aload_n 1, 1) := dl_43 (by decide +kernel)
theorem dX7_ask_55 : decode cX7_ask 55 = .ok (.aload 6, 2) := dl_25 (by decide +kernel)
theorem dX7_ask_57 : decode cX7_ask 57 = .ok (.invokevirtual 43, 3) := dl_182 (by decide +kernel)
theorem wl_X7_43 : Cond.methodLink RX7 43 yX2_whole ∈ TB := tbm (tq4 (List.mem_of_getElem? (i := 198) (by decide +kernel))) (by decide +kernel)
theorem wc_X2_whole : Cond.code yX2_whole cX2_whole 8 (some .int) ∈ TB := tbm (tq3 (List.mem_of_getElem? (i := 214) (rfl))) (by decide +kernel)
theorem wi_X2_whole : Cond.instanceMethod yX2_whole ∈ TB := tbm (tq3 (List.mem_of_getElem? (i := 212) (by decide +kernel))) (by decide +kernel)
theorem ws_X2_whole : Cond.selects RX2 yX2_whole yX2_whole ∈ TB := tbm (tq3 (List.mem_of_getElem? (i := 213) (by decide +kernel))) (by decide +kernel)
theorem mi_X2_whole : MI yX2_whole cX2_whole 8 (some .int) 2 := ⟨wc_X2_whole, wn_X2, ⟨by decide +kernel, by decide +kernel, by decide +kernel⟩, wi_X2_whole, ws_X2_whole⟩
theorem dX7_ask_60 : decode cX7_ask 60 = .ok (.istore 7, 2) := dl_54 (by decide +kernel)
theorem dX7_ask_62 : decode cX7_ask 62 = .ok (.aload_n 1, 1) := dl_43 (by decide +kernel)
theorem dX7_ask_63 : decode cX7_ask 63 = .ok (.iconst 1, 1) := dl_4 (by decide +kernel)
theorem dX7_ask_64 : decode cX7_ask 64 = .ok (.iload 5, 2) := dl_21 (by decide +kernel)
theorem dX7_ask_66 : decode cX7_ask 66 = .ok (.ishl, 1) := dl_120 (by decide +kernel)
theorem dX7_ask_67 : decode cX7_ask 67 = .ok (.iload 7, 2) := dl_21 (by decide +kernel)
theorem dX7_ask_69 : decode cX7_ask 69 = .ok (.iconst 1, 1) := dl_4 (by decide +kernel)
theorem dX7_ask_70 : decode cX7_ask 70 = .ok (.invokevirtual 47, 3) := dl_182 (by decide +kernel)
theorem wl_X7_47 : Cond.methodLink RX7 47 yX4_leadingTo ∈ TB := tbm (tq4 (List.mem_of_getElem? (i := 199) (by decide +kernel))) (by decide +kernel)
theorem dX7_ask_73 : decode cX7_ask 73 = .ok (.istore 8, 2) := dl_54 (by decide +kernel)
theorem dX7_ask_75 : decode cX7_ask 75 = .ok (.aload_n 1, 1) := dl_43 (by decide +kernel)
theorem dX7_ask_76 : decode cX7_ask 76 = .ok (.iconst 1, 1) := dl_4 (by decide +kernel)
theorem dX7_ask_77 : decode cX7_ask 77 = .ok (.iload 5, 2) := dl_21 (by decide +kernel)
theorem dX7_ask_79 : decode cX7_ask 79 = .ok (.ishl, 1) := dl_120 (by decide +kernel)
theorem dX7_ask_80 : decode cX7_ask 80 = .ok (.aload_n 1, 1) := dl_43 (by decide +kernel)
theorem dX7_ask_81 : decode cX7_ask 81 = .ok (.invokevirtual 22, 3) := dl_182 (by decide +kernel)
theorem dX7_ask_84 : decode cX7_ask 84 = .ok (.iload 7, 2) := dl_21 (by decide +kernel)
theorem dX7_ask_86 : decode cX7_ask 86 = .ok (.iconst (-1), 1) := dl_2 (by decide +kernel)
theorem dX7_ask_87 : decode cX7_ask 87 = .ok (.ixor, 1) := dl_130 (by decide +kernel)
theorem dX7_ask_88 : decode cX7_ask 88 = .ok (.iand, 1) := dl_126 (by decide +kernel)
theorem dX7_ask_89 : decode cX7_ask 89 = .ok (.iconst 1, 1) := dl_4 (by decide +kernel)
theorem dX7_ask_90 : decode cX7_ask 90 = .ok (.invokevirtual 47, 3) := dl_182 (by decide +kernel)
theorem dX7_ask_93 : decode cX7_ask 93 = .ok (.istore 9, 2) := dl_54 (by decide +kernel)
theorem dX7_ask_95 : decode cX7_ask 95 = .ok (.iload 8, 2) := dl_21 (by decide +kernel)
theorem dX7_ask_97 : decode cX7_ask 97 = .ok (.iload 9, 2) := dl_21 (by decide +kernel)
theorem dX7_ask_99 : decode cX7_ask 99 = .ok (.iand, 1) := dl_126 (by decide +kernel)
theorem dX7_ask_100 : decode cX7_ask 100 = .ok (.istore 10, 2) := dl_54 (by decide +kernel)
theorem dX7_ask_102 : decode cX7_ask 102 = .ok (.iload 10, 2) := dl_21 (by decide +kernel)
theorem dX7_ask_104 : decode cX7_ask 104 = .ok (.aload_n 1, 1) := dl_43 (by decide +kernel)
theorem dX7_ask_105 : decode cX7_ask 105 = .ok (.getfield 51, 3) := dl_180 (by decide +kernel)
theorem wf_X7_51 : Cond.fieldLink RX7 51 RX4 "realOne" "I" ∈ TB := tbm (tq1 (List.mem_of_getElem? (i := 39) (by decide +kernel))) (by decide +kernel)
theorem fg_X7_51 : FG RX7 51 4 1 := ⟨RX4, TX4, 4, uw_X4, wf_X7_51, rfl, by decide, rfl⟩
theorem dX7_ask_108 : decode cX7_ask 108 = .ok (.invokestatic 39, 3) := dl_184 (by decide +kernel)
theorem dX7_ask_111 : decode cX7_ask 111 = .ok (.ifCond .ne 7, 3) := dl_154 (by decide +kernel)
theorem dX7_ask_118 : decode cX7_ask 118 = .ok (.iconst 0, 1) := dl_3 (by decide +kernel)
theorem dX7_ask_119 : decode cX7_ask 119 = .ok (.istore 11, 2) := dl_54 (by decide +kernel)
theorem dX7_ask_121 : decode cX7_ask 121 = .ok (.aload_n 0, 1) := dl_42 (by decide +kernel)
theorem dX7_ask_122 : decode cX7_ask 122 = .ok (.dup, 1) := dl_89 (by decide +kernel)
theorem dX7_ask_123 : decode cX7_ask 123 = .ok (.getfield 26, 3) := dl_180 (by decide +kernel)
theorem fg_X7_26 : FG RX7 26 7 3 := ⟨RX7, TX7, 5, uw_X7, wf_X7_26, rfl, by decide, rfl⟩
theorem dX7_ask_126 : decode cX7_ask 126 = .ok (.iload 11, 2) := dl_21 (by decide +kernel)
theorem dX7_ask_128 : decode cX7_ask 128 = .ok (.ifCond .eq 10, 3) := dl_153 (by decide +kernel)
theorem dX7_ask_138 : decode cX7_ask 138 = .ok (.iload 10, 2) := dl_21 (by decide +kernel)
theorem dX7_ask_140 : decode cX7_ask 140 = .ok (.iand, 1) := dl_126 (by decide +kernel)
theorem dX7_ask_141 : decode cX7_ask 141 = .ok (.putfield 26, 3) := dl_181 (by decide +kernel)
theorem dX7_ask_144 : decode cX7_ask 144 = .ok (.aload_n 0, 1) := dl_42 (by decide +kernel)
theorem dX7_ask_145 : decode cX7_ask 145 = .ok (.dup, 1) := dl_89 (by decide +kernel)
theorem dX7_ask_146 : decode cX7_ask 146 = .ok (.getfield 30, 3) := dl_180 (by decide +kernel)
theorem fg_X7_30 : FG RX7 30 7 4 := ⟨RX7, TX7, 5, uw_X7, wf_X7_30, rfl, by decide, rfl⟩
theorem dX7_ask_149 : decode cX7_ask 149 = .ok (.iload 11, 2) := dl_21 (by decide +kernel)
theorem dX7_ask_151 : decode cX7_ask 151 = .ok (.ifCond .eq 10, 3) := dl_153 (by decide +kernel)
theorem dX7_ask_161 : decode cX7_ask 161 = .ok (.iconst 0, 1) := dl_3 (by decide +kernel)
theorem dX7_ask_162 : decode cX7_ask 162 = .ok (.ior, 1) := dl_128 (by decide +kernel)
theorem dX7_ask_163 : decode cX7_ask 163 = .ok (.putfield 30, 3) := dl_181 (by decide +kernel)
theorem dX7_ask_114 : decode cX7_ask 114 = .ok (.iconst 1, 1) := dl_4 (by decide +kernel)
theorem dX7_ask_115 : decode cX7_ask 115 = .ok (.goto 4, 3) := dl_167 (by decide +kernel)
theorem dX7_ask_131 : decode cX7_ask 131 = .ok (.iload 10, 2) := dl_21 (by decide +kernel)
theorem dX7_ask_133 : decode cX7_ask 133 = .ok (.iconst (-1), 1) := dl_2 (by decide +kernel)
theorem dX7_ask_134 : decode cX7_ask 134 = .ok (.ixor, 1) := dl_130 (by decide +kernel)
theorem dX7_ask_135 : decode cX7_ask 135 = .ok (.goto 5, 3) := dl_167 (by decide +kernel)
theorem dX7_ask_154 : decode cX7_ask 154 = .ok (.iconst 1, 1) := dl_4 (by decide +kernel)
theorem dX7_ask_155 : decode cX7_ask 155 = .ok (.iload 5, 2) := dl_21 (by decide +kernel)
theorem dX7_ask_157 : decode cX7_ask 157 = .ok (.ishl, 1) := dl_120 (by decide +kernel)
theorem dX7_ask_158 : decode cX7_ask 158 = .ok (.goto 4, 3) := dl_167 (by decide +kernel)
set_option maxRecDepth 100000 in
set_option maxHeartbeats 4000000 in
theorem r_ask (l : Launch) (E : EV) (ro : va_W) (rd : Nat) (h : Nat) (qj : Nat) (gr : Int32) (sg : Int32) (rt : Nat) (rf : Nat) (go0 : Int32) (st0 : Int32) (kn0 : Int32) (jt : Nat) (je : Nat) (ju : Nat) (ja : Nat) (ft : Nat → Int32) (fa : Nat → Option Nat) (la0 : Nat) (la1 : Nat) (la0m : Nat) (la0p : Int32) (la0w : Int32) (la0c : Nat) (la0f : Nat) (la0q : Nat) (la0fc : Nat → Int32) (la0ff : Nat → Int32) (la0fq : Nat → Int32) (la0n : Nat) (la0r : Nat) (la0x : Nat) (la0y : Nat) (la0gx : Nat → Int32) (la0gy : Nat → Int32) (la1m : Nat) (la1p : Int32) (la1w : Int32) (la1c : Nat) (la1f : Nat) (la1q : Nat) (la1fc : Nat → Int32) (la1ff : Nat → Int32) (la1fq : Nat → Int32) (la1n : Nat) (la1r : Nat) (la1x : Nat) (la1y : Nat) (la1gx : Nat → Int32) (la1gy : Nat → Int32) (fto : Nat → Option Nat) (n : Nat) (r : Nat) (a : Nat) (b : Nat) (f : Nat → Int32) (gg : Nat → Int32) (vc : Nat → Nat) (vr : Nat → Nat) (vi : Nat → Nat → Option SVal) (vs : Nat → Nat → Int32) (vn : Nat → Nat → Int32) (vp : Nat → Nat → Int32) (tT : Nat → Option SVal) (k_fa_0 : fa 0 = some la0) (k_fa_1 : fa 1 = some la1) (hn : n ≤ 24) (hrn : r < n) (hla0n : la0n ≤ 24) (hla0r : la0r < la0n ∨ la0r = 0) (hla1n : la1n ≤ 24) (hla1r : la1r < la1n ∨ la1r = 0) (hEV : EVA E ro je vc vr vi vs vn vp) (hto : SYT E ro 8 fto tT) (hwfm : WFm (am n r f gg)) : CT l yX7_ask (Cond.code yX7_ask cX7_ask 12 none :: TB) ({ frames := 5, cells := 0, slots := 0, locals := 135 }) E ro [.ref rd, .ref h, .ref qj, .int gr, .int sg] [(rd, .inr (7, [.ref rt, .ref rf, .int go0, .int st0, .int kn0])), (qj, .inr (2, [.ref jt, .ref je, .ref ju, .ref ja])), (ju, .inl (E.2.1 1, 32, .inl ft)), (ja, .inl (E.2.1 5, 2, .inr (.inr (.inr (.inr fa))))), (la0, .inr (3, [.ref la0m, .int la0p, .int la0w, .ref la0c, .ref la0f, .ref la0q])), (la0c, .inl (E.2.1 1, 24, .inl la0fc)), (la0f, .inl (E.2.1 1, 24, .inl la0ff)), (la0q, .inl (E.2.1 1, 4, .inl la0fq)), (la0m, .inr (4, [.int (nI la0n), .int (nI la0r), .ref la0x, .ref la0y])), (la0x, .inl (E.2.1 1, 24, .inl la0gx)), (la0y, .inl (E.2.1 1, 96, .inl la0gy)), (la1, .inr (3, [.ref la1m, .int la1p, .int la1w, .ref la1c, .ref la1f, .ref la1q])), (la1c, .inl (E.2.1 1, 24, .inl la1fc)), (la1f, .inl (E.2.1 1, 24, .inl la1ff)), (la1q, .inl (E.2.1 1, 4, .inl la1fq)), (la1m, .inr (4, [.int (nI la1n), .int (nI la1r), .ref la1x, .ref la1y])), (la1x, .inl (E.2.1 1, 24, .inl la1gx)), (la1y, .inl (E.2.1 1, 96, .inl la1gy)), (jt, .inl (E.2.1 7, 8, .inr (.inr (.inr (.inr fto))))), (h, .inr (4, [.int (nI n), .int (nI r), .ref a, .ref b])), (a, .inl (E.2.1 1, 24, .inl f)), (b, .inl (E.2.1 1, 96, .inl gg))] (Qv E (fun uz => (∃ (st2 : Int32) (kn2 : Int32) (ft2 : Nat → Int32) (la0zp : Int32) (la0zw : Int32) (la0zn : Nat) (la0zr : Nat) (la0zfc : Nat → Int32) (la0zff : Nat → Int32) (la0zfq : Nat → Int32) (la0zgx : Nat → Int32) (la0zgy : Nat → Int32) (la1zp : Int32) (la1zw : Int32) (la1zn : Nat) (la1zr : Nat) (la1zfc : Nat → Int32) (la1zff : Nat → Int32) (la1zfq : Nat → Int32) (la1zgx : Nat → Int32) (la1zgy : Nat → Int32), uz = [(rd, .inr (7, [.ref rt, .ref rf, .int go0, .int st2, .int kn2])), (qj, .inr (2, [.ref jt, .ref je, .ref ju, .ref ja])), (ju, .inl (E.2.1 1, 32, .inl ft2)), (ja, .inl (E.2.1 5, 2, .inr (.inr (.inr (.inr fa))))), (la0, .inr (3, [.ref la0m, .int la0zp, .int la0zw, .ref la0c, .ref la0f, .ref la0q])), (la0c, .inl (E.2.1 1, 24, .inl la0zfc)), (la0f, .inl (E.2.1 1, 24, .inl la0zff)), (la0q, .inl (E.2.1 1, 4, .inl la0zfq)), (la0m, .inr (4, [.int (nI la0zn), .int (nI la0zr), .ref la0x, .ref la0y])), (la0x, .inl (E.2.1 1, 24, .inl la0zgx)), (la0y, .inl (E.2.1 1, 96, .inl la0zgy)), (la1, .inr (3, [.ref la1m, .int la1zp, .int la1zw, .ref la1c, .ref la1f, .ref la1q])), (la1c, .inl (E.2.1 1, 24, .inl la1zfc)), (la1f, .inl (E.2.1 1, 24, .inl la1zff)), (la1q, .inl (E.2.1 1, 4, .inl la1zfq)), (la1m, .inr (4, [.int (nI la1zn), .int (nI la1zr), .ref la1x, .ref la1y])), (la1x, .inl (E.2.1 1, 24, .inl la1zgx)), (la1y, .inl (E.2.1 1, 96, .inl la1zgy)), (jt, .inl (E.2.1 7, 8, .inr (.inr (.inr (.inr fto))))), (h, .inr (4, [.int (nI n), .int (nI r), .ref a, .ref b])), (a, .inl (E.2.1 1, 24, .inl f)), (b, .inl (E.2.1 1, 96, .inl gg))] ∧ (r < n → bt st2 r = true) ∧ (BS st2 (stS (am n r f gg) (ev6 vc vr vi vs vn vp) tT gr sg 4)) ∧ (BS kn2 (knS (am n r f gg) (ev6 vc vr vi vs vn vp) tT gr sg 4)) ∧ (la0zn ≤ 24) ∧ (la0zr < la0zn ∨ la0zr = 0) ∧ (la1zn ≤ 24) ∧ (la1zr < la1zn ∨ la1zr = 0)))) 0 0 := by
  refine ct_of rfl rfl ?_
  intro X C hT hin hro
  show WW X 12 E 0 [(0, .ref rd), (1, .ref h), (2, .ref qj), (3, .int gr), (4, .int sg)] [] [(rd, .inr (7, [.ref rt, .ref rf, .int go0, .int st0, .int kn0])), (qj, .inr (2, [.ref jt, .ref je, .ref ju, .ref ja])), (ju, .inl (E.2.1 1, 32, .inl ft)), (ja, .inl (E.2.1 5, 2, .inr (.inr (.inr (.inr fa))))), (la0, .inr (3, [.ref la0m, .int la0p, .int la0w, .ref la0c, .ref la0f, .ref la0q])), (la0c, .inl (E.2.1 1, 24, .inl la0fc)), (la0f, .inl (E.2.1 1, 24, .inl la0ff)), (la0q, .inl (E.2.1 1, 4, .inl la0fq)), (la0m, .inr (4, [.int (nI la0n), .int (nI la0r), .ref la0x, .ref la0y])), (la0x, .inl (E.2.1 1, 24, .inl la0gx)), (la0y, .inl (E.2.1 1, 96, .inl la0gy)), (la1, .inr (3, [.ref la1m, .int la1p, .int la1w, .ref la1c, .ref la1f, .ref la1q])), (la1c, .inl (E.2.1 1, 24, .inl la1fc)), (la1f, .inl (E.2.1 1, 24, .inl la1ff)), (la1q, .inl (E.2.1 1, 4, .inl la1fq)), (la1m, .inr (4, [.int (nI la1n), .int (nI la1r), .ref la1x, .ref la1y])), (la1x, .inl (E.2.1 1, 24, .inl la1gx)), (la1y, .inl (E.2.1 1, 96, .inl la1gy)), (jt, .inl (E.2.1 7, 8, .inr (.inr (.inr (.inr fto))))), (h, .inr (4, [.int (nI n), .int (nI r), .ref a, .ref b])), (a, .inl (E.2.1 1, 24, .inl f)), (b, .inl (E.2.1 1, 96, .inl gg))] 0 0
  obtain ⟨jei_, fe_, hje_, hall_⟩ := id hEV
  have hr : r < n ∨ r = 0 := Or.inl hrn
  refine ww_aload_n C dX7_ask_0 0 rfl rfl ?_
  refine ww_aload_n C dX7_ask_1 1 rfl rfl ?_
  refine ww_ci (wr := [(rd, .inr (7, [.ref rt, .ref rf, .int go0, .int st0, .int kn0])), (qj, .inr (2, [.ref jt, .ref je, .ref ju, .ref ja])), (ju, .inl (E.2.1 1, 32, .inl ft)), (ja, .inl (E.2.1 5, 2, .inr (.inr (.inr (.inr fa))))), (la0, .inr (3, [.ref la0m, .int la0p, .int la0w, .ref la0c, .ref la0f, .ref la0q])), (la0c, .inl (E.2.1 1, 24, .inl la0fc)), (la0f, .inl (E.2.1 1, 24, .inl la0ff)), (la0q, .inl (E.2.1 1, 4, .inl la0fq)), (la0m, .inr (4, [.int (nI la0n), .int (nI la0r), .ref la0x, .ref la0y])), (la0x, .inl (E.2.1 1, 24, .inl la0gx)), (la0y, .inl (E.2.1 1, 96, .inl la0gy)), (la1, .inr (3, [.ref la1m, .int la1p, .int la1w, .ref la1c, .ref la1f, .ref la1q])), (la1c, .inl (E.2.1 1, 24, .inl la1fc)), (la1f, .inl (E.2.1 1, 24, .inl la1ff)), (la1q, .inl (E.2.1 1, 4, .inl la1fq)), (la1m, .inr (4, [.int (nI la1n), .int (nI la1r), .ref la1x, .ref la1y])), (la1x, .inl (E.2.1 1, 24, .inl la1gx)), (la1y, .inl (E.2.1 1, 96, .inl la1gy)), (jt, .inl (E.2.1 7, 8, .inr (.inr (.inr (.inr fto))))), (a, .inl (E.2.1 1, 24, .inl f)), (b, .inl (E.2.1 1, 96, .inl gg))]) (k' := 0) (n' := 0) C (run_V (As := []) (rest := [.ref rd]) C (m_all X.2.1 E ro h n r a b (by omega)) mi_X4_all wl_X7_22 rfl 0 4 rfl rfl rfl rfl rfl dX7_ask_2) (roK hro) [19] [0, 1, 2, 3, 4, 5, 6, 7, 8, 9, 10, 11, 12, 13, 14, 15, 16, 17, 18, 20, 21] rfl (gqk (by eq_refl)) (plk (by decide +kernel)) rfl (fun r_1 uz hw => ?_)
  refine an1 hw ?_
  clear hw
  intro he_3 hw
  have h_2 := hw
  clear hw
  subst he_3
  refine ww_eq (ws' := [(rd, .inr (7, [.ref rt, .ref rf, .int go0, .int st0, .int kn0])), (qj, .inr (2, [.ref jt, .ref je, .ref ju, .ref ja])), (ju, .inl (E.2.1 1, 32, .inl ft)), (ja, .inl (E.2.1 5, 2, .inr (.inr (.inr (.inr fa))))), (la0, .inr (3, [.ref la0m, .int la0p, .int la0w, .ref la0c, .ref la0f, .ref la0q])), (la0c, .inl (E.2.1 1, 24, .inl la0fc)), (la0f, .inl (E.2.1 1, 24, .inl la0ff)), (la0q, .inl (E.2.1 1, 4, .inl la0fq)), (la0m, .inr (4, [.int (nI la0n), .int (nI la0r), .ref la0x, .ref la0y])), (la0x, .inl (E.2.1 1, 24, .inl la0gx)), (la0y, .inl (E.2.1 1, 96, .inl la0gy)), (la1, .inr (3, [.ref la1m, .int la1p, .int la1w, .ref la1c, .ref la1f, .ref la1q])), (la1c, .inl (E.2.1 1, 24, .inl la1fc)), (la1f, .inl (E.2.1 1, 24, .inl la1ff)), (la1q, .inl (E.2.1 1, 4, .inl la1fq)), (la1m, .inr (4, [.int (nI la1n), .int (nI la1r), .ref la1x, .ref la1y])), (la1x, .inl (E.2.1 1, 24, .inl la1gx)), (la1y, .inl (E.2.1 1, 96, .inl la1gy)), (jt, .inl (E.2.1 7, 8, .inr (.inr (.inr (.inr fto))))), (a, .inl (E.2.1 1, 24, .inl f)), (b, .inl (E.2.1 1, 96, .inl gg)), (h, .inr (4, [.int (nI n), .int (nI r), .ref a, .ref b]))]) ?_ rfl rfl rfl
  refine ww_put (ws' := [(rd, .inr (7, [.ref rt, .ref rf, .int go0, .int r_1, .int kn0])), (qj, .inr (2, [.ref jt, .ref je, .ref ju, .ref ja])), (ju, .inl (E.2.1 1, 32, .inl ft)), (ja, .inl (E.2.1 5, 2, .inr (.inr (.inr (.inr fa))))), (la0, .inr (3, [.ref la0m, .int la0p, .int la0w, .ref la0c, .ref la0f, .ref la0q])), (la0c, .inl (E.2.1 1, 24, .inl la0fc)), (la0f, .inl (E.2.1 1, 24, .inl la0ff)), (la0q, .inl (E.2.1 1, 4, .inl la0fq)), (la0m, .inr (4, [.int (nI la0n), .int (nI la0r), .ref la0x, .ref la0y])), (la0x, .inl (E.2.1 1, 24, .inl la0gx)), (la0y, .inl (E.2.1 1, 96, .inl la0gy)), (la1, .inr (3, [.ref la1m, .int la1p, .int la1w, .ref la1c, .ref la1f, .ref la1q])), (la1c, .inl (E.2.1 1, 24, .inl la1fc)), (la1f, .inl (E.2.1 1, 24, .inl la1ff)), (la1q, .inl (E.2.1 1, 4, .inl la1fq)), (la1m, .inr (4, [.int (nI la1n), .int (nI la1r), .ref la1x, .ref la1y])), (la1x, .inl (E.2.1 1, 24, .inl la1gx)), (la1y, .inl (E.2.1 1, 96, .inl la1gy)), (jt, .inl (E.2.1 7, 8, .inr (.inr (.inr (.inr fto))))), (a, .inl (E.2.1 1, 24, .inl f)), (b, .inl (E.2.1 1, 96, .inl gg)), (h, .inr (4, [.int (nI n), .int (nI r), .ref a, .ref b]))]) C fp_X7_26 0 rfl rfl rfl rfl rfl dX7_ask_5 ?_
  refine ww_aload_n C dX7_ask_8 0 rfl rfl ?_
  refine ww_iconst (v := 0) C dX7_ask_9 rfl ?_
  refine ww_put (ws' := [(rd, .inr (7, [.ref rt, .ref rf, .int go0, .int r_1, .int 0])), (qj, .inr (2, [.ref jt, .ref je, .ref ju, .ref ja])), (ju, .inl (E.2.1 1, 32, .inl ft)), (ja, .inl (E.2.1 5, 2, .inr (.inr (.inr (.inr fa))))), (la0, .inr (3, [.ref la0m, .int la0p, .int la0w, .ref la0c, .ref la0f, .ref la0q])), (la0c, .inl (E.2.1 1, 24, .inl la0fc)), (la0f, .inl (E.2.1 1, 24, .inl la0ff)), (la0q, .inl (E.2.1 1, 4, .inl la0fq)), (la0m, .inr (4, [.int (nI la0n), .int (nI la0r), .ref la0x, .ref la0y])), (la0x, .inl (E.2.1 1, 24, .inl la0gx)), (la0y, .inl (E.2.1 1, 96, .inl la0gy)), (la1, .inr (3, [.ref la1m, .int la1p, .int la1w, .ref la1c, .ref la1f, .ref la1q])), (la1c, .inl (E.2.1 1, 24, .inl la1fc)), (la1f, .inl (E.2.1 1, 24, .inl la1ff)), (la1q, .inl (E.2.1 1, 4, .inl la1fq)), (la1m, .inr (4, [.int (nI la1n), .int (nI la1r), .ref la1x, .ref la1y])), (la1x, .inl (E.2.1 1, 24, .inl la1gx)), (la1y, .inl (E.2.1 1, 96, .inl la1gy)), (jt, .inl (E.2.1 7, 8, .inr (.inr (.inr (.inr fto))))), (a, .inl (E.2.1 1, 24, .inl f)), (b, .inl (E.2.1 1, 96, .inl gg)), (h, .inr (4, [.int (nI n), .int (nI r), .ref a, .ref b]))]) C fp_X7_30 0 rfl rfl rfl rfl rfl dX7_ask_10 ?_
  refine ww_iconst (v := 0) C dX7_ask_13 rfl ?_
  refine ww_istore (lv' := [(5, .int 0), (0, .ref rd), (1, .ref h), (2, .ref qj), (3, .int gr), (4, .int sg)]) C dX7_ask_14 rfl rfl ?_
  have loop_16 : ∀ (fu : Nat) (k1 : Nat) (st1 : Int32) (kn1 : Int32) (ftq : Nat → Int32) (la0qp : Int32) (la0qw : Int32) (la0qn : Nat) (la0qr : Nat) (la0qfc : Nat → Int32) (la0qff : Nat → Int32) (la0qfq : Nat → Int32) (la0qgx : Nat → Int32) (la0qgy : Nat → Int32) (la1qp : Int32) (la1qw : Int32) (la1qn : Nat) (la1qr : Nat) (la1qfc : Nat → Int32) (la1qff : Nat → Int32) (la1qfq : Nat → Int32) (la1qgx : Nat → Int32) (la1qgy : Nat → Int32), (k1 ≤ 4) → (BS st1 (stS (am n r f gg) (ev6 vc vr vi vs vn vp) tT gr sg k1)) → (BS kn1 (knS (am n r f gg) (ev6 vc vr vi vs vn vp) tT gr sg k1)) → (la0qn ≤ 24) → (la0qr < la0qn ∨ la0qr = 0) → (la1qn ≤ 24) → (la1qr < la1qn ∨ la1qr = 0) → 4 - k1 < fu → WW X 12 E 16 [(5, .int (nI k1)), (0, .ref rd), (1, .ref h), (2, .ref qj), (3, .int gr), (4, .int sg)] [] [(rd, .inr (7, [.ref rt, .ref rf, .int go0, .int st1, .int kn1])), (qj, .inr (2, [.ref jt, .ref je, .ref ju, .ref ja])), (ju, .inl (E.2.1 1, 32, .inl ftq)), (ja, .inl (E.2.1 5, 2, .inr (.inr (.inr (.inr fa))))), (la0, .inr (3, [.ref la0m, .int la0qp, .int la0qw, .ref la0c, .ref la0f, .ref la0q])), (la0c, .inl (E.2.1 1, 24, .inl la0qfc)), (la0f, .inl (E.2.1 1, 24, .inl la0qff)), (la0q, .inl (E.2.1 1, 4, .inl la0qfq)), (la0m, .inr (4, [.int (nI la0qn), .int (nI la0qr), .ref la0x, .ref la0y])), (la0x, .inl (E.2.1 1, 24, .inl la0qgx)), (la0y, .inl (E.2.1 1, 96, .inl la0qgy)), (la1, .inr (3, [.ref la1m, .int la1qp, .int la1qw, .ref la1c, .ref la1f, .ref la1q])), (la1c, .inl (E.2.1 1, 24, .inl la1qfc)), (la1f, .inl (E.2.1 1, 24, .inl la1qff)), (la1q, .inl (E.2.1 1, 4, .inl la1qfq)), (la1m, .inr (4, [.int (nI la1qn), .int (nI la1qr), .ref la1x, .ref la1y])), (la1x, .inl (E.2.1 1, 24, .inl la1qgx)), (la1y, .inl (E.2.1 1, 96, .inl la1qgy)), (jt, .inl (E.2.1 7, 8, .inr (.inr (.inr (.inr fto))))), (a, .inl (E.2.1 1, 24, .inl f)), (b, .inl (E.2.1 1, 96, .inl gg)), (h, .inr (4, [.int (nI n), .int (nI r), .ref a, .ref b]))] 0 0 := by
    intro fu
    induction fu with
    | zero => intro k1 st1 kn1 ftq la0qp la0qw la0qn la0qr la0qfc la0qff la0qfq la0qgx la0qgy la1qp la1qw la1qn la1qr la1qfc la1qff la1qfq la1qgx la1qgy hk1 hst hkn hla0qn_ hla0qr_ hla1qn_ hla1qr_ hmeas; exact absurd hmeas (Nat.not_lt_zero _)
    | succ fu ih_16 =>
      intro k1 st1 kn1 ftq la0qp la0qw la0qn la0qr la0qfc la0qff la0qfq la0qgx la0qgy la1qp la1qw la1qn la1qr la1qfc la1qff la1qfq la1qgx la1qgy hk1 hst hkn hla0qn_ hla0qr_ hla1qn_ hla1qr_ hmeas
      refine ww_iload C dX7_ask_16 0 rfl ?_
      refine ww_iconst (v := 4) C dX7_ask_18 rfl ?_
      refine ww_icmp_ge (tgt := 172) C dX7_ask_19 (by decide) (fun c_4 => ?_) (fun c_4 => ?_)
      · have zc_4 : ((k1 : Nat) : Int) ≥ 4 := i_le rfl (nI_toInt (n := k1) (by omega)) c_4
        exact ww_vret (u := [(rd, .inr (7, [.ref rt, .ref rf, .int go0, .int st1, .int kn1])), (qj, .inr (2, [.ref jt, .ref je, .ref ju, .ref ja])), (ju, .inl (E.2.1 1, 32, .inl ftq)), (ja, .inl (E.2.1 5, 2, .inr (.inr (.inr (.inr fa))))), (la0, .inr (3, [.ref la0m, .int la0qp, .int la0qw, .ref la0c, .ref la0f, .ref la0q])), (la0c, .inl (E.2.1 1, 24, .inl la0qfc)), (la0f, .inl (E.2.1 1, 24, .inl la0qff)), (la0q, .inl (E.2.1 1, 4, .inl la0qfq)), (la0m, .inr (4, [.int (nI la0qn), .int (nI la0qr), .ref la0x, .ref la0y])), (la0x, .inl (E.2.1 1, 24, .inl la0qgx)), (la0y, .inl (E.2.1 1, 96, .inl la0qgy)), (la1, .inr (3, [.ref la1m, .int la1qp, .int la1qw, .ref la1c, .ref la1f, .ref la1q])), (la1c, .inl (E.2.1 1, 24, .inl la1qfc)), (la1f, .inl (E.2.1 1, 24, .inl la1qff)), (la1q, .inl (E.2.1 1, 4, .inl la1qfq)), (la1m, .inr (4, [.int (nI la1qn), .int (nI la1qr), .ref la1x, .ref la1y])), (la1x, .inl (E.2.1 1, 24, .inl la1qgx)), (la1y, .inl (E.2.1 1, 96, .inl la1qgy)), (jt, .inl (E.2.1 7, 8, .inr (.inr (.inr (.inr fto))))), (h, .inr (4, [.int (nI n), .int (nI r), .ref a, .ref b])), (a, .inl (E.2.1 1, 24, .inl f)), (b, .inl (E.2.1 1, 96, .inl gg))]) C hT [0, 1, 2, 3, 4, 5, 6, 7, 8, 9, 10, 11, 12, 13, 14, 15, 16, 17, 18, 21, 19, 20] (gqk (by eq_refl)) (ndk (by decide +kernel)) rfl rfl dX7_ask_172 (⟨st1, kn1, ftq, la0qp, la0qw, la0qn, la0qr, la0qfc, la0qff, la0qfq, la0qgx, la0qgy, la1qp, la1qw, la1qn, la1qr, la1qfc, la1qff, la1qfq, la1qgx, la1qgy, rfl, (fun _ => by have h8 := (by have h9 : k1 = 4 := (by omega); rw [h9] at hst; exact hst); rw [h8 r (by omega)]; exact stS_real hwfm hrn 4), (by have h9 : k1 = 4 := (by omega); rw [h9] at hst; exact hst), (by have h9 : k1 = 4 := (by omega); rw [h9] at hkn; exact hkn), (by first | assumption | omega | decide), (by first | assumption | omega | decide), (by first | assumption | omega | decide), (by first | assumption | omega | decide)⟩)
      · have zc_4 : ((k1 : Nat) : Int) < 4 := i_nle rfl (nI_toInt (n := k1) (by omega)) c_4
        refine ww_aload_n C dX7_ask_22 3 rfl rfl ?_
        refine ww_get C fg_X7_33 1 rfl rfl dX7_ask_23 ?_
        refine ww_iload C dX7_ask_26 5 rfl ?_
        refine ww_iconst (v := 3) C dX7_ask_28 rfl ?_
        refine ww_iload C dX7_ask_29 0 rfl ?_
        refine ww_imul (v := (nI (3 * k1))) C dX7_ask_31 (pk_mul 3 k1) ?_
        obtain ⟨x_5, ex_5⟩ : ∃ z : Int32, sg >>> ((nI (3 * k1)) &&& 31) = z := ⟨_, rfl⟩
        refine ww_ishr (v := x_5) C dX7_ask_32 ex_5 ?_
        refine ww_bipush (v := 7) C dX7_ask_33 rfl ?_
        obtain ⟨j_6, hj_6, ej_6⟩ := pk_andE x_5 (m := 7) 3 rfl
        refine ww_iand (v := (nI j_6)) C dX7_ask_35 ej_6 ?_
        rcases hq_7 : fto j_6 with _ | a_8
        · refine ww_ald (v := none) (t0 := 7) C 18 rfl rfl (vp_in_nI (by omega) (by omega)) (ldn (by omega) hq_7) dX7_ask_36 ?_
          refine ww_eq (st' := [.null]) ?_ rfl rfl rfl
          refine ww_astoreN (lv' := [(6, .null), (5, .int (nI k1)), (0, .ref rd), (1, .ref h), (2, .ref qj), (3, .int gr), (4, .int sg)]) C dX7_ask_37 rfl rfl ?_
          refine ww_iload_n C dX7_ask_39 5 rfl rfl ?_
          refine ww_iload C dX7_ask_40 1 rfl ?_
          refine ww_ci (wr := [(rd, .inr (7, [.ref rt, .ref rf, .int go0, .int st1, .int kn1])), (qj, .inr (2, [.ref jt, .ref je, .ref ju, .ref ja])), (ju, .inl (E.2.1 1, 32, .inl ftq)), (ja, .inl (E.2.1 5, 2, .inr (.inr (.inr (.inr fa))))), (la0, .inr (3, [.ref la0m, .int la0qp, .int la0qw, .ref la0c, .ref la0f, .ref la0q])), (la0c, .inl (E.2.1 1, 24, .inl la0qfc)), (la0f, .inl (E.2.1 1, 24, .inl la0qff)), (la0q, .inl (E.2.1 1, 4, .inl la0qfq)), (la0m, .inr (4, [.int (nI la0qn), .int (nI la0qr), .ref la0x, .ref la0y])), (la0x, .inl (E.2.1 1, 24, .inl la0qgx)), (la0y, .inl (E.2.1 1, 96, .inl la0qgy)), (la1, .inr (3, [.ref la1m, .int la1qp, .int la1qw, .ref la1c, .ref la1f, .ref la1q])), (la1c, .inl (E.2.1 1, 24, .inl la1qfc)), (la1f, .inl (E.2.1 1, 24, .inl la1qff)), (la1q, .inl (E.2.1 1, 4, .inl la1qfq)), (la1m, .inr (4, [.int (nI la1qn), .int (nI la1qr), .ref la1x, .ref la1y])), (la1x, .inl (E.2.1 1, 24, .inl la1qgx)), (la1y, .inl (E.2.1 1, 96, .inl la1qgy)), (jt, .inl (E.2.1 7, 8, .inr (.inr (.inr (.inr fto))))), (a, .inl (E.2.1 1, 24, .inl f)), (b, .inl (E.2.1 1, 96, .inl gg)), (h, .inr (4, [.int (nI n), .int (nI r), .ref a, .ref b]))]) (k' := 0) (n' := 0) C (run_SN (As := [.int gr, .int (nI k1)]) (rest := []) C (c_hasN X.2.1 E ro gr k1 (by omega)) ms_X11_has (List.mem_of_getElem? (i := 19) rfl) rfl rfl rfl rfl dX7_ask_42) (roK hro) [] [0, 1, 2, 3, 4, 5, 6, 7, 8, 9, 10, 11, 12, 13, 14, 15, 16, 17, 18, 19, 20, 21] rfl (gqk (by eq_refl)) (plk (by decide +kernel)) rfl (fun r_9 uz hw => ?_)
          rcases hw with hw | hw
          · refine an2 hw ?_
            clear hw
            intro he_11 he_12 hw
            have h_10 := hw
            clear hw
            have he_11 := he_11.symm
            subst he_11
            subst he_12
            refine ww_eq (ws' := [(rd, .inr (7, [.ref rt, .ref rf, .int go0, .int st1, .int kn1])), (qj, .inr (2, [.ref jt, .ref je, .ref ju, .ref ja])), (ju, .inl (E.2.1 1, 32, .inl ftq)), (ja, .inl (E.2.1 5, 2, .inr (.inr (.inr (.inr fa))))), (la0, .inr (3, [.ref la0m, .int la0qp, .int la0qw, .ref la0c, .ref la0f, .ref la0q])), (la0c, .inl (E.2.1 1, 24, .inl la0qfc)), (la0f, .inl (E.2.1 1, 24, .inl la0qff)), (la0q, .inl (E.2.1 1, 4, .inl la0qfq)), (la0m, .inr (4, [.int (nI la0qn), .int (nI la0qr), .ref la0x, .ref la0y])), (la0x, .inl (E.2.1 1, 24, .inl la0qgx)), (la0y, .inl (E.2.1 1, 96, .inl la0qgy)), (la1, .inr (3, [.ref la1m, .int la1qp, .int la1qw, .ref la1c, .ref la1f, .ref la1q])), (la1c, .inl (E.2.1 1, 24, .inl la1qfc)), (la1f, .inl (E.2.1 1, 24, .inl la1qff)), (la1q, .inl (E.2.1 1, 4, .inl la1qfq)), (la1m, .inr (4, [.int (nI la1qn), .int (nI la1qr), .ref la1x, .ref la1y])), (la1x, .inl (E.2.1 1, 24, .inl la1qgx)), (la1y, .inl (E.2.1 1, 96, .inl la1qgy)), (jt, .inl (E.2.1 7, 8, .inr (.inr (.inr (.inr fto))))), (a, .inl (E.2.1 1, 24, .inl f)), (b, .inl (E.2.1 1, 96, .inl gg)), (h, .inr (4, [.int (nI n), .int (nI r), .ref a, .ref b]))]) ?_ rfl rfl rfl
            refine ww_if_eq_f (tgt := 166) C dX7_ask_45 (by decide) (by decide) ?_
            refine ww_aloadN C dX7_ask_48 0 rfl ?_
            refine ww_ifnullN (tgt := 166) C dX7_ask_50 (by decide) ?_
            refine ww_iinc (j := 1) (v := (nI (k1 + 1))) (lv' := [(5, .int (nI (k1 + 1))), (6, .null), (0, .ref rd), (1, .ref h), (2, .ref qj), (3, .int gr), (4, .int sg)]) C dX7_ask_166 rfl (nI_add k1 1) rfl rfl ?_
            refine ww_goto (tgt := 16) C dX7_ask_169 (by decide) ?_
            exact ww_lv [0, 2, 3, 4, 5, 6] rfl (ww_sub [0, 1, 2, 3, 4, 5, 6, 7, 8, 9, 10, 11, 12, 13, 14, 15, 16, 17, 18, 19, 20, 21] (ndk (by decide +kernel)) (gqk (by eq_refl)) (ih_16 (k1 + 1) st1 kn1 ftq la0qp la0qw la0qn la0qr la0qfc la0qff la0qfq la0qgx la0qgy la1qp la1qw la1qn la1qr la1qfc la1qff la1qfq la1qgx la1qgy (by omega) (as_0 hst (askd_n (sgI_of ex_5 ej_6 (by omega)) (SYT.no hto (by omega) hq_7))) (kn_0 hkn (askd_n (sgI_of ex_5 ej_6 (by omega)) (SYT.no hto (by omega) hq_7))) (by omega) (by omega) (by omega) (by omega) (by omega)))
          · refine an2 hw ?_
            clear hw
            intro he_14 he_15 hw
            have h_13 := hw
            clear hw
            have he_14 := he_14.symm
            subst he_14
            subst he_15
            refine ww_eq (ws' := [(rd, .inr (7, [.ref rt, .ref rf, .int go0, .int st1, .int kn1])), (qj, .inr (2, [.ref jt, .ref je, .ref ju, .ref ja])), (ju, .inl (E.2.1 1, 32, .inl ftq)), (ja, .inl (E.2.1 5, 2, .inr (.inr (.inr (.inr fa))))), (la0, .inr (3, [.ref la0m, .int la0qp, .int la0qw, .ref la0c, .ref la0f, .ref la0q])), (la0c, .inl (E.2.1 1, 24, .inl la0qfc)), (la0f, .inl (E.2.1 1, 24, .inl la0qff)), (la0q, .inl (E.2.1 1, 4, .inl la0qfq)), (la0m, .inr (4, [.int (nI la0qn), .int (nI la0qr), .ref la0x, .ref la0y])), (la0x, .inl (E.2.1 1, 24, .inl la0qgx)), (la0y, .inl (E.2.1 1, 96, .inl la0qgy)), (la1, .inr (3, [.ref la1m, .int la1qp, .int la1qw, .ref la1c, .ref la1f, .ref la1q])), (la1c, .inl (E.2.1 1, 24, .inl la1qfc)), (la1f, .inl (E.2.1 1, 24, .inl la1qff)), (la1q, .inl (E.2.1 1, 4, .inl la1qfq)), (la1m, .inr (4, [.int (nI la1qn), .int (nI la1qr), .ref la1x, .ref la1y])), (la1x, .inl (E.2.1 1, 24, .inl la1qgx)), (la1y, .inl (E.2.1 1, 96, .inl la1qgy)), (jt, .inl (E.2.1 7, 8, .inr (.inr (.inr (.inr fto))))), (a, .inl (E.2.1 1, 24, .inl f)), (b, .inl (E.2.1 1, 96, .inl gg)), (h, .inr (4, [.int (nI n), .int (nI r), .ref a, .ref b]))]) ?_ rfl rfl rfl
            refine ww_if_eq_t (tgt := 166) C dX7_ask_45 (by decide) (rfl) ?_
            refine ww_iinc (j := 1) (v := (nI (k1 + 1))) (lv' := [(5, .int (nI (k1 + 1))), (6, .null), (0, .ref rd), (1, .ref h), (2, .ref qj), (3, .int gr), (4, .int sg)]) C dX7_ask_166 rfl (nI_add k1 1) rfl rfl ?_
            refine ww_goto (tgt := 16) C dX7_ask_169 (by decide) ?_
            exact ww_lv [0, 2, 3, 4, 5, 6] rfl (ww_sub [0, 1, 2, 3, 4, 5, 6, 7, 8, 9, 10, 11, 12, 13, 14, 15, 16, 17, 18, 19, 20, 21] (ndk (by decide +kernel)) (gqk (by eq_refl)) (ih_16 (k1 + 1) st1 kn1 ftq la0qp la0qw la0qn la0qr la0qfc la0qff la0qfq la0qgx la0qgy la1qp la1qw la1qn la1qr la1qfc la1qff la1qfq la1qgx la1qgy (by omega) (as_0 hst (askd_0 h_13)) (kn_0 hkn (askd_0 h_13)) (by omega) (by omega) (by omega) (by omega) (by omega)))
        · refine ww_ald (v := (some a_8)) (t0 := 7) C 18 rfl rfl (vp_in_nI (by omega) (by omega)) (ldn (by omega) hq_7) dX7_ask_36 ?_
          refine ww_eq (st' := [.ref a_8]) ?_ rfl rfl rfl
          refine ww_astore (lv' := [(6, .ref a_8), (5, .int (nI k1)), (0, .ref rd), (1, .ref h), (2, .ref qj), (3, .int gr), (4, .int sg)]) C dX7_ask_37 rfl rfl ?_
          refine ww_iload_n C dX7_ask_39 5 rfl rfl ?_
          refine ww_iload C dX7_ask_40 1 rfl ?_
          refine ww_ci (wr := [(rd, .inr (7, [.ref rt, .ref rf, .int go0, .int st1, .int kn1])), (qj, .inr (2, [.ref jt, .ref je, .ref ju, .ref ja])), (ju, .inl (E.2.1 1, 32, .inl ftq)), (ja, .inl (E.2.1 5, 2, .inr (.inr (.inr (.inr fa))))), (la0, .inr (3, [.ref la0m, .int la0qp, .int la0qw, .ref la0c, .ref la0f, .ref la0q])), (la0c, .inl (E.2.1 1, 24, .inl la0qfc)), (la0f, .inl (E.2.1 1, 24, .inl la0qff)), (la0q, .inl (E.2.1 1, 4, .inl la0qfq)), (la0m, .inr (4, [.int (nI la0qn), .int (nI la0qr), .ref la0x, .ref la0y])), (la0x, .inl (E.2.1 1, 24, .inl la0qgx)), (la0y, .inl (E.2.1 1, 96, .inl la0qgy)), (la1, .inr (3, [.ref la1m, .int la1qp, .int la1qw, .ref la1c, .ref la1f, .ref la1q])), (la1c, .inl (E.2.1 1, 24, .inl la1qfc)), (la1f, .inl (E.2.1 1, 24, .inl la1qff)), (la1q, .inl (E.2.1 1, 4, .inl la1qfq)), (la1m, .inr (4, [.int (nI la1qn), .int (nI la1qr), .ref la1x, .ref la1y])), (la1x, .inl (E.2.1 1, 24, .inl la1qgx)), (la1y, .inl (E.2.1 1, 96, .inl la1qgy)), (jt, .inl (E.2.1 7, 8, .inr (.inr (.inr (.inr fto))))), (a, .inl (E.2.1 1, 24, .inl f)), (b, .inl (E.2.1 1, 96, .inl gg)), (h, .inr (4, [.int (nI n), .int (nI r), .ref a, .ref b]))]) (k' := 0) (n' := 0) C (run_SN (As := [.int gr, .int (nI k1)]) (rest := []) C (c_hasN X.2.1 E ro gr k1 (by omega)) ms_X11_has (List.mem_of_getElem? (i := 19) rfl) rfl rfl rfl rfl dX7_ask_42) (roK hro) [] [0, 1, 2, 3, 4, 5, 6, 7, 8, 9, 10, 11, 12, 13, 14, 15, 16, 17, 18, 19, 20, 21] rfl (gqk (by eq_refl)) (plk (by decide +kernel)) rfl (fun r_16 uz hw => ?_)
          rcases hw with hw | hw
          · refine an2 hw ?_
            clear hw
            intro he_18 he_19 hw
            have h_17 := hw
            clear hw
            have he_18 := he_18.symm
            subst he_18
            subst he_19
            refine ww_eq (ws' := [(rd, .inr (7, [.ref rt, .ref rf, .int go0, .int st1, .int kn1])), (qj, .inr (2, [.ref jt, .ref je, .ref ju, .ref ja])), (ju, .inl (E.2.1 1, 32, .inl ftq)), (ja, .inl (E.2.1 5, 2, .inr (.inr (.inr (.inr fa))))), (la0, .inr (3, [.ref la0m, .int la0qp, .int la0qw, .ref la0c, .ref la0f, .ref la0q])), (la0c, .inl (E.2.1 1, 24, .inl la0qfc)), (la0f, .inl (E.2.1 1, 24, .inl la0qff)), (la0q, .inl (E.2.1 1, 4, .inl la0qfq)), (la0m, .inr (4, [.int (nI la0qn), .int (nI la0qr), .ref la0x, .ref la0y])), (la0x, .inl (E.2.1 1, 24, .inl la0qgx)), (la0y, .inl (E.2.1 1, 96, .inl la0qgy)), (la1, .inr (3, [.ref la1m, .int la1qp, .int la1qw, .ref la1c, .ref la1f, .ref la1q])), (la1c, .inl (E.2.1 1, 24, .inl la1qfc)), (la1f, .inl (E.2.1 1, 24, .inl la1qff)), (la1q, .inl (E.2.1 1, 4, .inl la1qfq)), (la1m, .inr (4, [.int (nI la1qn), .int (nI la1qr), .ref la1x, .ref la1y])), (la1x, .inl (E.2.1 1, 24, .inl la1qgx)), (la1y, .inl (E.2.1 1, 96, .inl la1qgy)), (jt, .inl (E.2.1 7, 8, .inr (.inr (.inr (.inr fto))))), (a, .inl (E.2.1 1, 24, .inl f)), (b, .inl (E.2.1 1, 96, .inl gg)), (h, .inr (4, [.int (nI n), .int (nI r), .ref a, .ref b]))]) ?_ rfl rfl rfl
            refine ww_if_eq_f (tgt := 166) C dX7_ask_45 (by decide) (by decide) ?_
            refine ww_aload C dX7_ask_48 0 rfl ?_
            refine ww_ifnull C dX7_ask_50 ?_
            refine ww_aload_n C dX7_ask_53 4 rfl rfl ?_
            refine ww_aload_n C dX7_ask_54 3 rfl rfl ?_
            refine ww_aload C dX7_ask_55 0 rfl ?_
            refine ww_ci (wr := [(rd, .inr (7, [.ref rt, .ref rf, .int go0, .int st1, .int kn1])), (jt, .inl (E.2.1 7, 8, .inr (.inr (.inr (.inr fto)))))]) (k' := 0) (n' := 0) C (run_V (As := [.ref h, .ref a_8]) (rest := []) C (j_whole X.2.1 E ro qj h a_8 jt je ju ja ftq fa la0 la1 la0m la0qp la0qw la0c la0f la0q la0qfc la0qff la0qfq la0qn la0qr la0x la0y la0qgx la0qgy la1m la1qp la1qw la1c la1f la1q la1qfc la1qff la1qfq la1qn la1qr la1x la1y la1qgx la1qgy n r a b f gg vc vr vi vs vn vp ((tT j_6).getD sv0) k_fa_0 k_fa_1 (by omega) (by omega) (by omega) (by omega) (by omega) (by omega) hEV (SYT.v hto (by omega) hq_7) hwfm) mi_X2_whole wl_X7_43 rfl 0 2 rfl rfl rfl rfl rfl dX7_ask_57) (roK hro) [1, 2, 3, 4, 5, 6, 7, 8, 9, 10, 11, 12, 13, 14, 15, 16, 17, 21, 19, 20] [0, 18] (gqk (by eq_refl)) rfl (plk (by decide +kernel)) rfl (fun r_23 uz hw => ?_)
            refine ex8 hw ?_
            clear hw
            intro ft2_24 la0zp_25 la0zw_26 la0zn_27 la0zr_28 la0zfc_29 la0zff_30 la0zfq_31 hw
            refine ex8 hw ?_
            clear hw
            intro la0zgx_32 la0zgy_33 la1zp_34 la1zw_35 la1zn_36 la1zr_37 la1zfc_38 la1zff_39 hw
            refine ex3 hw ?_
            clear hw
            intro la1zfq_40 la1zgx_41 la1zgy_42 hw
            refine an5 hw ?_
            clear hw
            intro he_48 h_43 h_44 h_45 h_46 hw
            have h_47 := hw
            clear hw
            subst he_48
            refine ww_eq (ws' := [(rd, .inr (7, [.ref rt, .ref rf, .int go0, .int st1, .int kn1])), (jt, .inl (E.2.1 7, 8, .inr (.inr (.inr (.inr fto))))), (qj, .inr (2, [.ref jt, .ref je, .ref ju, .ref ja])), (ju, .inl (E.2.1 1, 32, .inl ft2_24)), (ja, .inl (E.2.1 5, 2, .inr (.inr (.inr (.inr fa))))), (la0, .inr (3, [.ref la0m, .int la0zp_25, .int la0zw_26, .ref la0c, .ref la0f, .ref la0q])), (la0c, .inl (E.2.1 1, 24, .inl la0zfc_29)), (la0f, .inl (E.2.1 1, 24, .inl la0zff_30)), (la0q, .inl (E.2.1 1, 4, .inl la0zfq_31)), (la0m, .inr (4, [.int (nI la0zn_27), .int (nI la0zr_28), .ref la0x, .ref la0y])), (la0x, .inl (E.2.1 1, 24, .inl la0zgx_32)), (la0y, .inl (E.2.1 1, 96, .inl la0zgy_33)), (la1, .inr (3, [.ref la1m, .int la1zp_34, .int la1zw_35, .ref la1c, .ref la1f, .ref la1q])), (la1c, .inl (E.2.1 1, 24, .inl la1zfc_38)), (la1f, .inl (E.2.1 1, 24, .inl la1zff_39)), (la1q, .inl (E.2.1 1, 4, .inl la1zfq_40)), (la1m, .inr (4, [.int (nI la1zn_36), .int (nI la1zr_37), .ref la1x, .ref la1y])), (la1x, .inl (E.2.1 1, 24, .inl la1zgx_41)), (la1y, .inl (E.2.1 1, 96, .inl la1zgy_42)), (h, .inr (4, [.int (nI n), .int (nI r), .ref a, .ref b])), (a, .inl (E.2.1 1, 24, .inl f)), (b, .inl (E.2.1 1, 96, .inl gg))]) ?_ rfl rfl rfl
            refine ww_istore (lv' := [(7, .int r_23), (6, .ref a_8), (5, .int (nI k1)), (0, .ref rd), (1, .ref h), (2, .ref qj), (3, .int gr), (4, .int sg)]) C dX7_ask_60 rfl rfl ?_
            refine ww_aload_n C dX7_ask_62 4 rfl rfl ?_
            refine ww_iconst (v := 1) C dX7_ask_63 rfl ?_
            refine ww_iload C dX7_ask_64 2 rfl ?_
            obtain ⟨x_49, ex_49⟩ : ∃ z : Int32, (1 : Int32) <<< ((nI k1) &&& 31) = z := ⟨_, rfl⟩
            refine ww_ishl (v := x_49) C dX7_ask_66 ex_49 ?_
            refine ww_iload C dX7_ask_67 0 rfl ?_
            refine ww_iconst (v := 1) C dX7_ask_69 rfl ?_
            refine ww_ci (wr := [(rd, .inr (7, [.ref rt, .ref rf, .int go0, .int st1, .int kn1])), (jt, .inl (E.2.1 7, 8, .inr (.inr (.inr (.inr fto))))), (qj, .inr (2, [.ref jt, .ref je, .ref ju, .ref ja])), (ju, .inl (E.2.1 1, 32, .inl ft2_24)), (ja, .inl (E.2.1 5, 2, .inr (.inr (.inr (.inr fa))))), (la0, .inr (3, [.ref la0m, .int la0zp_25, .int la0zw_26, .ref la0c, .ref la0f, .ref la0q])), (la0c, .inl (E.2.1 1, 24, .inl la0zfc_29)), (la0f, .inl (E.2.1 1, 24, .inl la0zff_30)), (la0q, .inl (E.2.1 1, 4, .inl la0zfq_31)), (la0m, .inr (4, [.int (nI la0zn_27), .int (nI la0zr_28), .ref la0x, .ref la0y])), (la0x, .inl (E.2.1 1, 24, .inl la0zgx_32)), (la0y, .inl (E.2.1 1, 96, .inl la0zgy_33)), (la1, .inr (3, [.ref la1m, .int la1zp_34, .int la1zw_35, .ref la1c, .ref la1f, .ref la1q])), (la1c, .inl (E.2.1 1, 24, .inl la1zfc_38)), (la1f, .inl (E.2.1 1, 24, .inl la1zff_39)), (la1q, .inl (E.2.1 1, 4, .inl la1zfq_40)), (la1m, .inr (4, [.int (nI la1zn_36), .int (nI la1zr_37), .ref la1x, .ref la1y])), (la1x, .inl (E.2.1 1, 24, .inl la1zgx_41)), (la1y, .inl (E.2.1 1, 96, .inl la1zgy_42))]) (k' := 0) (n' := 0) C (run_V (As := [.int x_49, .int r_23, .int 1]) (rest := []) C (m_leadingTo X.2.1 E ro h x_49 r_23 1 n r a b f gg (by omega) (by omega) (by omega)) mi_X4_leadingTo wl_X7_47 rfl 0 4 rfl rfl rfl rfl rfl dX7_ask_70) (roK hro) [19, 20, 21] [0, 1, 2, 3, 4, 5, 6, 7, 8, 9, 10, 11, 12, 13, 14, 15, 16, 17, 18] rfl (gqk (by eq_refl)) (plk (by decide +kernel)) rfl (fun r_50 uz hw => ?_)
            refine an1 hw ?_
            clear hw
            intro he_52 hw
            have h_51 := hw
            clear hw
            subst he_52
            refine ww_eq (ws' := [(rd, .inr (7, [.ref rt, .ref rf, .int go0, .int st1, .int kn1])), (jt, .inl (E.2.1 7, 8, .inr (.inr (.inr (.inr fto))))), (qj, .inr (2, [.ref jt, .ref je, .ref ju, .ref ja])), (ju, .inl (E.2.1 1, 32, .inl ft2_24)), (ja, .inl (E.2.1 5, 2, .inr (.inr (.inr (.inr fa))))), (la0, .inr (3, [.ref la0m, .int la0zp_25, .int la0zw_26, .ref la0c, .ref la0f, .ref la0q])), (la0c, .inl (E.2.1 1, 24, .inl la0zfc_29)), (la0f, .inl (E.2.1 1, 24, .inl la0zff_30)), (la0q, .inl (E.2.1 1, 4, .inl la0zfq_31)), (la0m, .inr (4, [.int (nI la0zn_27), .int (nI la0zr_28), .ref la0x, .ref la0y])), (la0x, .inl (E.2.1 1, 24, .inl la0zgx_32)), (la0y, .inl (E.2.1 1, 96, .inl la0zgy_33)), (la1, .inr (3, [.ref la1m, .int la1zp_34, .int la1zw_35, .ref la1c, .ref la1f, .ref la1q])), (la1c, .inl (E.2.1 1, 24, .inl la1zfc_38)), (la1f, .inl (E.2.1 1, 24, .inl la1zff_39)), (la1q, .inl (E.2.1 1, 4, .inl la1zfq_40)), (la1m, .inr (4, [.int (nI la1zn_36), .int (nI la1zr_37), .ref la1x, .ref la1y])), (la1x, .inl (E.2.1 1, 24, .inl la1zgx_41)), (la1y, .inl (E.2.1 1, 96, .inl la1zgy_42)), (h, .inr (4, [.int (nI n), .int (nI r), .ref a, .ref b])), (a, .inl (E.2.1 1, 24, .inl f)), (b, .inl (E.2.1 1, 96, .inl gg))]) ?_ rfl rfl rfl
            refine ww_istore (lv' := [(8, .int r_50), (7, .int r_23), (6, .ref a_8), (5, .int (nI k1)), (0, .ref rd), (1, .ref h), (2, .ref qj), (3, .int gr), (4, .int sg)]) C dX7_ask_73 rfl rfl ?_
            refine ww_aload_n C dX7_ask_75 5 rfl rfl ?_
            refine ww_iconst (v := 1) C dX7_ask_76 rfl ?_
            refine ww_iload C dX7_ask_77 3 rfl ?_
            obtain ⟨x_53, ex_53⟩ : ∃ z : Int32, (1 : Int32) <<< ((nI k1) &&& 31) = z := ⟨_, rfl⟩
            refine ww_ishl (v := x_53) C dX7_ask_79 ex_53 ?_
            refine ww_aload_n C dX7_ask_80 5 rfl rfl ?_
            refine ww_ci (wr := [(rd, .inr (7, [.ref rt, .ref rf, .int go0, .int st1, .int kn1])), (jt, .inl (E.2.1 7, 8, .inr (.inr (.inr (.inr fto))))), (qj, .inr (2, [.ref jt, .ref je, .ref ju, .ref ja])), (ju, .inl (E.2.1 1, 32, .inl ft2_24)), (ja, .inl (E.2.1 5, 2, .inr (.inr (.inr (.inr fa))))), (la0, .inr (3, [.ref la0m, .int la0zp_25, .int la0zw_26, .ref la0c, .ref la0f, .ref la0q])), (la0c, .inl (E.2.1 1, 24, .inl la0zfc_29)), (la0f, .inl (E.2.1 1, 24, .inl la0zff_30)), (la0q, .inl (E.2.1 1, 4, .inl la0zfq_31)), (la0m, .inr (4, [.int (nI la0zn_27), .int (nI la0zr_28), .ref la0x, .ref la0y])), (la0x, .inl (E.2.1 1, 24, .inl la0zgx_32)), (la0y, .inl (E.2.1 1, 96, .inl la0zgy_33)), (la1, .inr (3, [.ref la1m, .int la1zp_34, .int la1zw_35, .ref la1c, .ref la1f, .ref la1q])), (la1c, .inl (E.2.1 1, 24, .inl la1zfc_38)), (la1f, .inl (E.2.1 1, 24, .inl la1zff_39)), (la1q, .inl (E.2.1 1, 4, .inl la1zfq_40)), (la1m, .inr (4, [.int (nI la1zn_36), .int (nI la1zr_37), .ref la1x, .ref la1y])), (la1x, .inl (E.2.1 1, 24, .inl la1zgx_41)), (la1y, .inl (E.2.1 1, 96, .inl la1zgy_42)), (a, .inl (E.2.1 1, 24, .inl f)), (b, .inl (E.2.1 1, 96, .inl gg))]) (k' := 0) (n' := 0) C (run_V (As := []) (rest := [.int x_53, .ref h]) C (m_all X.2.1 E ro h n r a b (by omega)) mi_X4_all wl_X7_22 rfl 0 4 rfl rfl rfl rfl rfl dX7_ask_81) (roK hro) [19] [0, 1, 2, 3, 4, 5, 6, 7, 8, 9, 10, 11, 12, 13, 14, 15, 16, 17, 18, 20, 21] rfl (gqk (by eq_refl)) (plk (by decide +kernel)) rfl (fun r_54 uz hw => ?_)
            refine an1 hw ?_
            clear hw
            intro he_56 hw
            have h_55 := hw
            clear hw
            subst he_56
            refine ww_eq (ws' := [(rd, .inr (7, [.ref rt, .ref rf, .int go0, .int st1, .int kn1])), (jt, .inl (E.2.1 7, 8, .inr (.inr (.inr (.inr fto))))), (qj, .inr (2, [.ref jt, .ref je, .ref ju, .ref ja])), (ju, .inl (E.2.1 1, 32, .inl ft2_24)), (ja, .inl (E.2.1 5, 2, .inr (.inr (.inr (.inr fa))))), (la0, .inr (3, [.ref la0m, .int la0zp_25, .int la0zw_26, .ref la0c, .ref la0f, .ref la0q])), (la0c, .inl (E.2.1 1, 24, .inl la0zfc_29)), (la0f, .inl (E.2.1 1, 24, .inl la0zff_30)), (la0q, .inl (E.2.1 1, 4, .inl la0zfq_31)), (la0m, .inr (4, [.int (nI la0zn_27), .int (nI la0zr_28), .ref la0x, .ref la0y])), (la0x, .inl (E.2.1 1, 24, .inl la0zgx_32)), (la0y, .inl (E.2.1 1, 96, .inl la0zgy_33)), (la1, .inr (3, [.ref la1m, .int la1zp_34, .int la1zw_35, .ref la1c, .ref la1f, .ref la1q])), (la1c, .inl (E.2.1 1, 24, .inl la1zfc_38)), (la1f, .inl (E.2.1 1, 24, .inl la1zff_39)), (la1q, .inl (E.2.1 1, 4, .inl la1zfq_40)), (la1m, .inr (4, [.int (nI la1zn_36), .int (nI la1zr_37), .ref la1x, .ref la1y])), (la1x, .inl (E.2.1 1, 24, .inl la1zgx_41)), (la1y, .inl (E.2.1 1, 96, .inl la1zgy_42)), (a, .inl (E.2.1 1, 24, .inl f)), (b, .inl (E.2.1 1, 96, .inl gg)), (h, .inr (4, [.int (nI n), .int (nI r), .ref a, .ref b]))]) ?_ rfl rfl rfl
            refine ww_iload C dX7_ask_84 1 rfl ?_
            refine ww_iconst (v := (-1)) C dX7_ask_86 rfl ?_
            obtain ⟨x_57, ex_57⟩ : ∃ z : Int32, r_23 ^^^ ((-1) : Int32) = z := ⟨_, rfl⟩
            refine ww_ixor (v := x_57) C dX7_ask_87 ex_57 ?_
            obtain ⟨x_58, ex_58⟩ : ∃ z : Int32, r_54 &&& x_57 = z := ⟨_, rfl⟩
            refine ww_iand (v := x_58) C dX7_ask_88 ex_58 ?_
            refine ww_iconst (v := 1) C dX7_ask_89 rfl ?_
            refine ww_ci (wr := [(rd, .inr (7, [.ref rt, .ref rf, .int go0, .int st1, .int kn1])), (jt, .inl (E.2.1 7, 8, .inr (.inr (.inr (.inr fto))))), (qj, .inr (2, [.ref jt, .ref je, .ref ju, .ref ja])), (ju, .inl (E.2.1 1, 32, .inl ft2_24)), (ja, .inl (E.2.1 5, 2, .inr (.inr (.inr (.inr fa))))), (la0, .inr (3, [.ref la0m, .int la0zp_25, .int la0zw_26, .ref la0c, .ref la0f, .ref la0q])), (la0c, .inl (E.2.1 1, 24, .inl la0zfc_29)), (la0f, .inl (E.2.1 1, 24, .inl la0zff_30)), (la0q, .inl (E.2.1 1, 4, .inl la0zfq_31)), (la0m, .inr (4, [.int (nI la0zn_27), .int (nI la0zr_28), .ref la0x, .ref la0y])), (la0x, .inl (E.2.1 1, 24, .inl la0zgx_32)), (la0y, .inl (E.2.1 1, 96, .inl la0zgy_33)), (la1, .inr (3, [.ref la1m, .int la1zp_34, .int la1zw_35, .ref la1c, .ref la1f, .ref la1q])), (la1c, .inl (E.2.1 1, 24, .inl la1zfc_38)), (la1f, .inl (E.2.1 1, 24, .inl la1zff_39)), (la1q, .inl (E.2.1 1, 4, .inl la1zfq_40)), (la1m, .inr (4, [.int (nI la1zn_36), .int (nI la1zr_37), .ref la1x, .ref la1y])), (la1x, .inl (E.2.1 1, 24, .inl la1zgx_41)), (la1y, .inl (E.2.1 1, 96, .inl la1zgy_42))]) (k' := 0) (n' := 0) C (run_V (As := [.int x_53, .int x_58, .int 1]) (rest := []) C (m_leadingTo X.2.1 E ro h x_53 x_58 1 n r a b f gg (by omega) (by omega) (by omega)) mi_X4_leadingTo wl_X7_47 rfl 0 4 rfl rfl rfl rfl rfl dX7_ask_90) (roK hro) [21, 19, 20] [0, 1, 2, 3, 4, 5, 6, 7, 8, 9, 10, 11, 12, 13, 14, 15, 16, 17, 18] rfl (gqk (by eq_refl)) (plk (by decide +kernel)) rfl (fun r_59 uz hw => ?_)
            refine an1 hw ?_
            clear hw
            intro he_61 hw
            have h_60 := hw
            clear hw
            subst he_61
            refine ww_eq (ws' := [(rd, .inr (7, [.ref rt, .ref rf, .int go0, .int st1, .int kn1])), (jt, .inl (E.2.1 7, 8, .inr (.inr (.inr (.inr fto))))), (qj, .inr (2, [.ref jt, .ref je, .ref ju, .ref ja])), (ju, .inl (E.2.1 1, 32, .inl ft2_24)), (ja, .inl (E.2.1 5, 2, .inr (.inr (.inr (.inr fa))))), (la0, .inr (3, [.ref la0m, .int la0zp_25, .int la0zw_26, .ref la0c, .ref la0f, .ref la0q])), (la0c, .inl (E.2.1 1, 24, .inl la0zfc_29)), (la0f, .inl (E.2.1 1, 24, .inl la0zff_30)), (la0q, .inl (E.2.1 1, 4, .inl la0zfq_31)), (la0m, .inr (4, [.int (nI la0zn_27), .int (nI la0zr_28), .ref la0x, .ref la0y])), (la0x, .inl (E.2.1 1, 24, .inl la0zgx_32)), (la0y, .inl (E.2.1 1, 96, .inl la0zgy_33)), (la1, .inr (3, [.ref la1m, .int la1zp_34, .int la1zw_35, .ref la1c, .ref la1f, .ref la1q])), (la1c, .inl (E.2.1 1, 24, .inl la1zfc_38)), (la1f, .inl (E.2.1 1, 24, .inl la1zff_39)), (la1q, .inl (E.2.1 1, 4, .inl la1zfq_40)), (la1m, .inr (4, [.int (nI la1zn_36), .int (nI la1zr_37), .ref la1x, .ref la1y])), (la1x, .inl (E.2.1 1, 24, .inl la1zgx_41)), (la1y, .inl (E.2.1 1, 96, .inl la1zgy_42)), (h, .inr (4, [.int (nI n), .int (nI r), .ref a, .ref b])), (a, .inl (E.2.1 1, 24, .inl f)), (b, .inl (E.2.1 1, 96, .inl gg))]) ?_ rfl rfl rfl
            refine ww_istore (lv' := [(9, .int r_59), (8, .int r_50), (7, .int r_23), (6, .ref a_8), (5, .int (nI k1)), (0, .ref rd), (1, .ref h), (2, .ref qj), (3, .int gr), (4, .int sg)]) C dX7_ask_93 rfl rfl ?_
            refine ww_iload C dX7_ask_95 1 rfl ?_
            refine ww_iload C dX7_ask_97 0 rfl ?_
            obtain ⟨x_62, ex_62⟩ : ∃ z : Int32, r_50 &&& r_59 = z := ⟨_, rfl⟩
            refine ww_iand (v := x_62) C dX7_ask_99 ex_62 ?_
            refine ww_istore (lv' := [(10, .int x_62), (9, .int r_59), (8, .int r_50), (7, .int r_23), (6, .ref a_8), (5, .int (nI k1)), (0, .ref rd), (1, .ref h), (2, .ref qj), (3, .int gr), (4, .int sg)]) C dX7_ask_100 rfl rfl ?_
            refine ww_iload C dX7_ask_102 0 rfl ?_
            refine ww_aload_n C dX7_ask_104 7 rfl rfl ?_
            refine ww_get C fg_X7_51 19 rfl rfl dX7_ask_105 ?_
            refine ww_ci (wr := [(rd, .inr (7, [.ref rt, .ref rf, .int go0, .int st1, .int kn1])), (jt, .inl (E.2.1 7, 8, .inr (.inr (.inr (.inr fto))))), (qj, .inr (2, [.ref jt, .ref je, .ref ju, .ref ja])), (ju, .inl (E.2.1 1, 32, .inl ft2_24)), (ja, .inl (E.2.1 5, 2, .inr (.inr (.inr (.inr fa))))), (la0, .inr (3, [.ref la0m, .int la0zp_25, .int la0zw_26, .ref la0c, .ref la0f, .ref la0q])), (la0c, .inl (E.2.1 1, 24, .inl la0zfc_29)), (la0f, .inl (E.2.1 1, 24, .inl la0zff_30)), (la0q, .inl (E.2.1 1, 4, .inl la0zfq_31)), (la0m, .inr (4, [.int (nI la0zn_27), .int (nI la0zr_28), .ref la0x, .ref la0y])), (la0x, .inl (E.2.1 1, 24, .inl la0zgx_32)), (la0y, .inl (E.2.1 1, 96, .inl la0zgy_33)), (la1, .inr (3, [.ref la1m, .int la1zp_34, .int la1zw_35, .ref la1c, .ref la1f, .ref la1q])), (la1c, .inl (E.2.1 1, 24, .inl la1zfc_38)), (la1f, .inl (E.2.1 1, 24, .inl la1zff_39)), (la1q, .inl (E.2.1 1, 4, .inl la1zfq_40)), (la1m, .inr (4, [.int (nI la1zn_36), .int (nI la1zr_37), .ref la1x, .ref la1y])), (la1x, .inl (E.2.1 1, 24, .inl la1zgx_41)), (la1y, .inl (E.2.1 1, 96, .inl la1zgy_42)), (h, .inr (4, [.int (nI n), .int (nI r), .ref a, .ref b])), (a, .inl (E.2.1 1, 24, .inl f)), (b, .inl (E.2.1 1, 96, .inl gg))]) (k' := 0) (n' := 0) C (run_SN (As := [.int x_62, .int (nI r)]) (rest := []) C (c_hasN X.2.1 E ro x_62 r (by omega)) ms_X11_has (List.mem_of_getElem? (i := 19) rfl) rfl rfl rfl rfl dX7_ask_108) (roK hro) [] [0, 1, 2, 3, 4, 5, 6, 7, 8, 9, 10, 11, 12, 13, 14, 15, 16, 17, 18, 19, 20, 21] rfl (gqk (by eq_refl)) (plk (by decide +kernel)) rfl (fun r_63 uz hw => ?_)
            rcases hw with hw | hw
            · refine an2 hw ?_
              clear hw
              intro he_65 he_66 hw
              have h_64 := hw
              clear hw
              have he_65 := he_65.symm
              subst he_65
              subst he_66
              refine ww_eq (ws' := [(rd, .inr (7, [.ref rt, .ref rf, .int go0, .int st1, .int kn1])), (jt, .inl (E.2.1 7, 8, .inr (.inr (.inr (.inr fto))))), (qj, .inr (2, [.ref jt, .ref je, .ref ju, .ref ja])), (ju, .inl (E.2.1 1, 32, .inl ft2_24)), (ja, .inl (E.2.1 5, 2, .inr (.inr (.inr (.inr fa))))), (la0, .inr (3, [.ref la0m, .int la0zp_25, .int la0zw_26, .ref la0c, .ref la0f, .ref la0q])), (la0c, .inl (E.2.1 1, 24, .inl la0zfc_29)), (la0f, .inl (E.2.1 1, 24, .inl la0zff_30)), (la0q, .inl (E.2.1 1, 4, .inl la0zfq_31)), (la0m, .inr (4, [.int (nI la0zn_27), .int (nI la0zr_28), .ref la0x, .ref la0y])), (la0x, .inl (E.2.1 1, 24, .inl la0zgx_32)), (la0y, .inl (E.2.1 1, 96, .inl la0zgy_33)), (la1, .inr (3, [.ref la1m, .int la1zp_34, .int la1zw_35, .ref la1c, .ref la1f, .ref la1q])), (la1c, .inl (E.2.1 1, 24, .inl la1zfc_38)), (la1f, .inl (E.2.1 1, 24, .inl la1zff_39)), (la1q, .inl (E.2.1 1, 4, .inl la1zfq_40)), (la1m, .inr (4, [.int (nI la1zn_36), .int (nI la1zr_37), .ref la1x, .ref la1y])), (la1x, .inl (E.2.1 1, 24, .inl la1zgx_41)), (la1y, .inl (E.2.1 1, 96, .inl la1zgy_42)), (h, .inr (4, [.int (nI n), .int (nI r), .ref a, .ref b])), (a, .inl (E.2.1 1, 24, .inl f)), (b, .inl (E.2.1 1, 96, .inl gg))]) ?_ rfl rfl rfl
              refine ww_if_ne_t (tgt := 118) C dX7_ask_111 (by decide) (by decide) ?_
              refine ww_iconst (v := 0) C dX7_ask_118 rfl ?_
              refine ww_istore (lv' := [(11, .int 0), (10, .int x_62), (9, .int r_59), (8, .int r_50), (7, .int r_23), (6, .ref a_8), (5, .int (nI k1)), (0, .ref rd), (1, .ref h), (2, .ref qj), (3, .int gr), (4, .int sg)]) C dX7_ask_119 rfl rfl ?_
              refine ww_aload_n C dX7_ask_121 7 rfl rfl ?_
              refine ww_dup C dX7_ask_122 rfl ?_
              refine ww_get C fg_X7_26 0 rfl rfl dX7_ask_123 ?_
              refine ww_iload C dX7_ask_126 0 rfl ?_
              refine ww_if_eq_t (tgt := 138) C dX7_ask_128 (by decide) (rfl) ?_
              refine ww_iload C dX7_ask_138 1 rfl ?_
              obtain ⟨x_70, ex_70⟩ : ∃ z : Int32, st1 &&& x_62 = z := ⟨_, rfl⟩
              refine ww_iand (v := x_70) C dX7_ask_140 ex_70 ?_
              refine ww_put (ws' := [(rd, .inr (7, [.ref rt, .ref rf, .int go0, .int x_70, .int kn1])), (jt, .inl (E.2.1 7, 8, .inr (.inr (.inr (.inr fto))))), (qj, .inr (2, [.ref jt, .ref je, .ref ju, .ref ja])), (ju, .inl (E.2.1 1, 32, .inl ft2_24)), (ja, .inl (E.2.1 5, 2, .inr (.inr (.inr (.inr fa))))), (la0, .inr (3, [.ref la0m, .int la0zp_25, .int la0zw_26, .ref la0c, .ref la0f, .ref la0q])), (la0c, .inl (E.2.1 1, 24, .inl la0zfc_29)), (la0f, .inl (E.2.1 1, 24, .inl la0zff_30)), (la0q, .inl (E.2.1 1, 4, .inl la0zfq_31)), (la0m, .inr (4, [.int (nI la0zn_27), .int (nI la0zr_28), .ref la0x, .ref la0y])), (la0x, .inl (E.2.1 1, 24, .inl la0zgx_32)), (la0y, .inl (E.2.1 1, 96, .inl la0zgy_33)), (la1, .inr (3, [.ref la1m, .int la1zp_34, .int la1zw_35, .ref la1c, .ref la1f, .ref la1q])), (la1c, .inl (E.2.1 1, 24, .inl la1zfc_38)), (la1f, .inl (E.2.1 1, 24, .inl la1zff_39)), (la1q, .inl (E.2.1 1, 4, .inl la1zfq_40)), (la1m, .inr (4, [.int (nI la1zn_36), .int (nI la1zr_37), .ref la1x, .ref la1y])), (la1x, .inl (E.2.1 1, 24, .inl la1zgx_41)), (la1y, .inl (E.2.1 1, 96, .inl la1zgy_42)), (h, .inr (4, [.int (nI n), .int (nI r), .ref a, .ref b])), (a, .inl (E.2.1 1, 24, .inl f)), (b, .inl (E.2.1 1, 96, .inl gg))]) C fp_X7_26 0 rfl rfl rfl rfl rfl dX7_ask_141 ?_
              refine ww_aload_n C dX7_ask_144 7 rfl rfl ?_
              refine ww_dup C dX7_ask_145 rfl ?_
              refine ww_get C fg_X7_30 0 rfl rfl dX7_ask_146 ?_
              refine ww_iload C dX7_ask_149 0 rfl ?_
              refine ww_if_eq_t (tgt := 161) C dX7_ask_151 (by decide) (rfl) ?_
              refine ww_iconst (v := 0) C dX7_ask_161 rfl ?_
              obtain ⟨x_71, ex_71⟩ : ∃ z : Int32, kn1 ||| (0 : Int32) = z := ⟨_, rfl⟩
              refine ww_ior (v := x_71) C dX7_ask_162 ex_71 ?_
              refine ww_put (ws' := [(rd, .inr (7, [.ref rt, .ref rf, .int go0, .int x_70, .int x_71])), (jt, .inl (E.2.1 7, 8, .inr (.inr (.inr (.inr fto))))), (qj, .inr (2, [.ref jt, .ref je, .ref ju, .ref ja])), (ju, .inl (E.2.1 1, 32, .inl ft2_24)), (ja, .inl (E.2.1 5, 2, .inr (.inr (.inr (.inr fa))))), (la0, .inr (3, [.ref la0m, .int la0zp_25, .int la0zw_26, .ref la0c, .ref la0f, .ref la0q])), (la0c, .inl (E.2.1 1, 24, .inl la0zfc_29)), (la0f, .inl (E.2.1 1, 24, .inl la0zff_30)), (la0q, .inl (E.2.1 1, 4, .inl la0zfq_31)), (la0m, .inr (4, [.int (nI la0zn_27), .int (nI la0zr_28), .ref la0x, .ref la0y])), (la0x, .inl (E.2.1 1, 24, .inl la0zgx_32)), (la0y, .inl (E.2.1 1, 96, .inl la0zgy_33)), (la1, .inr (3, [.ref la1m, .int la1zp_34, .int la1zw_35, .ref la1c, .ref la1f, .ref la1q])), (la1c, .inl (E.2.1 1, 24, .inl la1zfc_38)), (la1f, .inl (E.2.1 1, 24, .inl la1zff_39)), (la1q, .inl (E.2.1 1, 4, .inl la1zfq_40)), (la1m, .inr (4, [.int (nI la1zn_36), .int (nI la1zr_37), .ref la1x, .ref la1y])), (la1x, .inl (E.2.1 1, 24, .inl la1zgx_41)), (la1y, .inl (E.2.1 1, 96, .inl la1zgy_42)), (h, .inr (4, [.int (nI n), .int (nI r), .ref a, .ref b])), (a, .inl (E.2.1 1, 24, .inl f)), (b, .inl (E.2.1 1, 96, .inl gg))]) C fp_X7_30 0 rfl rfl rfl rfl rfl dX7_ask_163 ?_
              refine ww_iinc (j := 6) (v := (nI (k1 + 1))) (lv' := [(5, .int (nI (k1 + 1))), (11, .int 0), (10, .int x_62), (9, .int r_59), (8, .int r_50), (7, .int r_23), (6, .ref a_8), (0, .ref rd), (1, .ref h), (2, .ref qj), (3, .int gr), (4, .int sg)]) C dX7_ask_166 rfl (nI_add k1 1) rfl rfl ?_
              refine ww_goto (tgt := 16) C dX7_ask_169 (by decide) ?_
              exact ww_lv [0, 7, 8, 9, 10, 11] rfl (ww_sub [0, 2, 3, 4, 5, 6, 7, 8, 9, 10, 11, 12, 13, 14, 15, 16, 17, 18, 1, 20, 21, 19] (ndk (by decide +kernel)) (gqk (by eq_refl)) (ih_16 (k1 + 1) x_70 x_71 ft2_24 la0zp_25 la0zw_26 la0zn_27 la0zr_28 la0zfc_29 la0zff_30 la0zfq_31 la0zgx_32 la0zgy_33 la1zp_34 la1zw_35 la1zn_36 la1zr_37 la1zfc_38 la1zff_39 la1zfq_40 la1zgx_41 la1zgy_42 (by omega) (as_n hwfm (show r < n from hrn) hst (askd_1 h_17 (sgI_of ex_5 ej_6 (by omega)) (SYT.vs hto (by omega) hq_7)) (sgI_of ex_5 ej_6 (by omega)) (uns_bs (all_bs (r := r) (f := f) (g := gg) h_55) h_47 ex_57 ex_58 ex_49 ex_53 h_51 h_60 ex_62) h_64 (show r < 32 by omega) ex_70) (kn_n hwfm (show r < n from hrn) hkn (sgI_of ex_5 ej_6 (by omega)) (uns_bs (all_bs (r := r) (f := f) (g := gg) h_55) h_47 ex_57 ex_58 ex_49 ex_53 h_51 h_60 ex_62) h_64 (show r < 32 by omega) ex_71) (by omega) (by omega) (by omega) (by omega) (by omega)))
            · refine an2 hw ?_
              clear hw
              intro he_68 he_69 hw
              have h_67 := hw
              clear hw
              have he_68 := he_68.symm
              subst he_68
              subst he_69
              refine ww_eq (ws' := [(rd, .inr (7, [.ref rt, .ref rf, .int go0, .int st1, .int kn1])), (jt, .inl (E.2.1 7, 8, .inr (.inr (.inr (.inr fto))))), (qj, .inr (2, [.ref jt, .ref je, .ref ju, .ref ja])), (ju, .inl (E.2.1 1, 32, .inl ft2_24)), (ja, .inl (E.2.1 5, 2, .inr (.inr (.inr (.inr fa))))), (la0, .inr (3, [.ref la0m, .int la0zp_25, .int la0zw_26, .ref la0c, .ref la0f, .ref la0q])), (la0c, .inl (E.2.1 1, 24, .inl la0zfc_29)), (la0f, .inl (E.2.1 1, 24, .inl la0zff_30)), (la0q, .inl (E.2.1 1, 4, .inl la0zfq_31)), (la0m, .inr (4, [.int (nI la0zn_27), .int (nI la0zr_28), .ref la0x, .ref la0y])), (la0x, .inl (E.2.1 1, 24, .inl la0zgx_32)), (la0y, .inl (E.2.1 1, 96, .inl la0zgy_33)), (la1, .inr (3, [.ref la1m, .int la1zp_34, .int la1zw_35, .ref la1c, .ref la1f, .ref la1q])), (la1c, .inl (E.2.1 1, 24, .inl la1zfc_38)), (la1f, .inl (E.2.1 1, 24, .inl la1zff_39)), (la1q, .inl (E.2.1 1, 4, .inl la1zfq_40)), (la1m, .inr (4, [.int (nI la1zn_36), .int (nI la1zr_37), .ref la1x, .ref la1y])), (la1x, .inl (E.2.1 1, 24, .inl la1zgx_41)), (la1y, .inl (E.2.1 1, 96, .inl la1zgy_42)), (h, .inr (4, [.int (nI n), .int (nI r), .ref a, .ref b])), (a, .inl (E.2.1 1, 24, .inl f)), (b, .inl (E.2.1 1, 96, .inl gg))]) ?_ rfl rfl rfl
              refine ww_if_ne_f (tgt := 118) C dX7_ask_111 (by decide) (rfl) ?_
              refine ww_iconst (v := 1) C dX7_ask_114 rfl ?_
              refine ww_goto (tgt := 119) C dX7_ask_115 (by decide) ?_
              refine ww_istore (lv' := [(11, .int 1), (10, .int x_62), (9, .int r_59), (8, .int r_50), (7, .int r_23), (6, .ref a_8), (5, .int (nI k1)), (0, .ref rd), (1, .ref h), (2, .ref qj), (3, .int gr), (4, .int sg)]) C dX7_ask_119 rfl rfl ?_
              refine ww_aload_n C dX7_ask_121 7 rfl rfl ?_
              refine ww_dup C dX7_ask_122 rfl ?_
              refine ww_get C fg_X7_26 0 rfl rfl dX7_ask_123 ?_
              refine ww_iload C dX7_ask_126 0 rfl ?_
              refine ww_if_eq_f (tgt := 138) C dX7_ask_128 (by decide) (by decide) ?_
              refine ww_iload C dX7_ask_131 1 rfl ?_
              refine ww_iconst (v := (-1)) C dX7_ask_133 rfl ?_
              obtain ⟨x_72, ex_72⟩ : ∃ z : Int32, x_62 ^^^ ((-1) : Int32) = z := ⟨_, rfl⟩
              refine ww_ixor (v := x_72) C dX7_ask_134 ex_72 ?_
              refine ww_goto (tgt := 140) C dX7_ask_135 (by decide) ?_
              obtain ⟨x_73, ex_73⟩ : ∃ z : Int32, st1 &&& x_72 = z := ⟨_, rfl⟩
              refine ww_iand (v := x_73) C dX7_ask_140 ex_73 ?_
              refine ww_put (ws' := [(rd, .inr (7, [.ref rt, .ref rf, .int go0, .int x_73, .int kn1])), (jt, .inl (E.2.1 7, 8, .inr (.inr (.inr (.inr fto))))), (qj, .inr (2, [.ref jt, .ref je, .ref ju, .ref ja])), (ju, .inl (E.2.1 1, 32, .inl ft2_24)), (ja, .inl (E.2.1 5, 2, .inr (.inr (.inr (.inr fa))))), (la0, .inr (3, [.ref la0m, .int la0zp_25, .int la0zw_26, .ref la0c, .ref la0f, .ref la0q])), (la0c, .inl (E.2.1 1, 24, .inl la0zfc_29)), (la0f, .inl (E.2.1 1, 24, .inl la0zff_30)), (la0q, .inl (E.2.1 1, 4, .inl la0zfq_31)), (la0m, .inr (4, [.int (nI la0zn_27), .int (nI la0zr_28), .ref la0x, .ref la0y])), (la0x, .inl (E.2.1 1, 24, .inl la0zgx_32)), (la0y, .inl (E.2.1 1, 96, .inl la0zgy_33)), (la1, .inr (3, [.ref la1m, .int la1zp_34, .int la1zw_35, .ref la1c, .ref la1f, .ref la1q])), (la1c, .inl (E.2.1 1, 24, .inl la1zfc_38)), (la1f, .inl (E.2.1 1, 24, .inl la1zff_39)), (la1q, .inl (E.2.1 1, 4, .inl la1zfq_40)), (la1m, .inr (4, [.int (nI la1zn_36), .int (nI la1zr_37), .ref la1x, .ref la1y])), (la1x, .inl (E.2.1 1, 24, .inl la1zgx_41)), (la1y, .inl (E.2.1 1, 96, .inl la1zgy_42)), (h, .inr (4, [.int (nI n), .int (nI r), .ref a, .ref b])), (a, .inl (E.2.1 1, 24, .inl f)), (b, .inl (E.2.1 1, 96, .inl gg))]) C fp_X7_26 0 rfl rfl rfl rfl rfl dX7_ask_141 ?_
              refine ww_aload_n C dX7_ask_144 7 rfl rfl ?_
              refine ww_dup C dX7_ask_145 rfl ?_
              refine ww_get C fg_X7_30 0 rfl rfl dX7_ask_146 ?_
              refine ww_iload C dX7_ask_149 0 rfl ?_
              refine ww_if_eq_f (tgt := 161) C dX7_ask_151 (by decide) (by decide) ?_
              refine ww_iconst (v := 1) C dX7_ask_154 rfl ?_
              refine ww_iload C dX7_ask_155 6 rfl ?_
              obtain ⟨x_74, ex_74⟩ : ∃ z : Int32, (1 : Int32) <<< ((nI k1) &&& 31) = z := ⟨_, rfl⟩
              refine ww_ishl (v := x_74) C dX7_ask_157 ex_74 ?_
              refine ww_goto (tgt := 162) C dX7_ask_158 (by decide) ?_
              obtain ⟨x_75, ex_75⟩ : ∃ z : Int32, kn1 ||| x_74 = z := ⟨_, rfl⟩
              refine ww_ior (v := x_75) C dX7_ask_162 ex_75 ?_
              refine ww_put (ws' := [(rd, .inr (7, [.ref rt, .ref rf, .int go0, .int x_73, .int x_75])), (jt, .inl (E.2.1 7, 8, .inr (.inr (.inr (.inr fto))))), (qj, .inr (2, [.ref jt, .ref je, .ref ju, .ref ja])), (ju, .inl (E.2.1 1, 32, .inl ft2_24)), (ja, .inl (E.2.1 5, 2, .inr (.inr (.inr (.inr fa))))), (la0, .inr (3, [.ref la0m, .int la0zp_25, .int la0zw_26, .ref la0c, .ref la0f, .ref la0q])), (la0c, .inl (E.2.1 1, 24, .inl la0zfc_29)), (la0f, .inl (E.2.1 1, 24, .inl la0zff_30)), (la0q, .inl (E.2.1 1, 4, .inl la0zfq_31)), (la0m, .inr (4, [.int (nI la0zn_27), .int (nI la0zr_28), .ref la0x, .ref la0y])), (la0x, .inl (E.2.1 1, 24, .inl la0zgx_32)), (la0y, .inl (E.2.1 1, 96, .inl la0zgy_33)), (la1, .inr (3, [.ref la1m, .int la1zp_34, .int la1zw_35, .ref la1c, .ref la1f, .ref la1q])), (la1c, .inl (E.2.1 1, 24, .inl la1zfc_38)), (la1f, .inl (E.2.1 1, 24, .inl la1zff_39)), (la1q, .inl (E.2.1 1, 4, .inl la1zfq_40)), (la1m, .inr (4, [.int (nI la1zn_36), .int (nI la1zr_37), .ref la1x, .ref la1y])), (la1x, .inl (E.2.1 1, 24, .inl la1zgx_41)), (la1y, .inl (E.2.1 1, 96, .inl la1zgy_42)), (h, .inr (4, [.int (nI n), .int (nI r), .ref a, .ref b])), (a, .inl (E.2.1 1, 24, .inl f)), (b, .inl (E.2.1 1, 96, .inl gg))]) C fp_X7_30 0 rfl rfl rfl rfl rfl dX7_ask_163 ?_
              refine ww_iinc (j := 6) (v := (nI (k1 + 1))) (lv' := [(5, .int (nI (k1 + 1))), (11, .int 1), (10, .int x_62), (9, .int r_59), (8, .int r_50), (7, .int r_23), (6, .ref a_8), (0, .ref rd), (1, .ref h), (2, .ref qj), (3, .int gr), (4, .int sg)]) C dX7_ask_166 rfl (nI_add k1 1) rfl rfl ?_
              refine ww_goto (tgt := 16) C dX7_ask_169 (by decide) ?_
              exact ww_lv [0, 7, 8, 9, 10, 11] rfl (ww_sub [0, 2, 3, 4, 5, 6, 7, 8, 9, 10, 11, 12, 13, 14, 15, 16, 17, 18, 1, 20, 21, 19] (ndk (by decide +kernel)) (gqk (by eq_refl)) (ih_16 (k1 + 1) x_73 x_75 ft2_24 la0zp_25 la0zw_26 la0zn_27 la0zr_28 la0zfc_29 la0zff_30 la0zfq_31 la0zgx_32 la0zgy_33 la1zp_34 la1zw_35 la1zn_36 la1zr_37 la1zfc_38 la1zff_39 la1zfq_40 la1zgx_41 la1zgy_42 (by omega) (as_y hwfm (show r < n from hrn) hst (askd_1 h_17 (sgI_of ex_5 ej_6 (by omega)) (SYT.vs hto (by omega) hq_7)) (sgI_of ex_5 ej_6 (by omega)) (uns_bs (all_bs (r := r) (f := f) (g := gg) h_55) h_47 ex_57 ex_58 ex_49 ex_53 h_51 h_60 ex_62) h_67 (show r < 32 by omega) ex_72 ex_73) (kn_y hwfm (show r < n from hrn) hkn (by omega) (askd_1 h_17 (sgI_of ex_5 ej_6 (by omega)) (SYT.vs hto (by omega) hq_7)) (sgI_of ex_5 ej_6 (by omega)) (uns_bs (all_bs (r := r) (f := f) (g := gg) h_55) h_47 ex_57 ex_58 ex_49 ex_53 h_51 h_60 ex_62) h_67 (show r < 32 by omega) ex_74 ex_75) (by omega) (by omega) (by omega) (by omega) (by omega)))
          · refine an2 hw ?_
            clear hw
            intro he_21 he_22 hw
            have h_20 := hw
            clear hw
            have he_21 := he_21.symm
            subst he_21
            subst he_22
            refine ww_eq (ws' := [(rd, .inr (7, [.ref rt, .ref rf, .int go0, .int st1, .int kn1])), (qj, .inr (2, [.ref jt, .ref je, .ref ju, .ref ja])), (ju, .inl (E.2.1 1, 32, .inl ftq)), (ja, .inl (E.2.1 5, 2, .inr (.inr (.inr (.inr fa))))), (la0, .inr (3, [.ref la0m, .int la0qp, .int la0qw, .ref la0c, .ref la0f, .ref la0q])), (la0c, .inl (E.2.1 1, 24, .inl la0qfc)), (la0f, .inl (E.2.1 1, 24, .inl la0qff)), (la0q, .inl (E.2.1 1, 4, .inl la0qfq)), (la0m, .inr (4, [.int (nI la0qn), .int (nI la0qr), .ref la0x, .ref la0y])), (la0x, .inl (E.2.1 1, 24, .inl la0qgx)), (la0y, .inl (E.2.1 1, 96, .inl la0qgy)), (la1, .inr (3, [.ref la1m, .int la1qp, .int la1qw, .ref la1c, .ref la1f, .ref la1q])), (la1c, .inl (E.2.1 1, 24, .inl la1qfc)), (la1f, .inl (E.2.1 1, 24, .inl la1qff)), (la1q, .inl (E.2.1 1, 4, .inl la1qfq)), (la1m, .inr (4, [.int (nI la1qn), .int (nI la1qr), .ref la1x, .ref la1y])), (la1x, .inl (E.2.1 1, 24, .inl la1qgx)), (la1y, .inl (E.2.1 1, 96, .inl la1qgy)), (jt, .inl (E.2.1 7, 8, .inr (.inr (.inr (.inr fto))))), (a, .inl (E.2.1 1, 24, .inl f)), (b, .inl (E.2.1 1, 96, .inl gg)), (h, .inr (4, [.int (nI n), .int (nI r), .ref a, .ref b]))]) ?_ rfl rfl rfl
            refine ww_if_eq_t (tgt := 166) C dX7_ask_45 (by decide) (rfl) ?_
            refine ww_iinc (j := 1) (v := (nI (k1 + 1))) (lv' := [(5, .int (nI (k1 + 1))), (6, .ref a_8), (0, .ref rd), (1, .ref h), (2, .ref qj), (3, .int gr), (4, .int sg)]) C dX7_ask_166 rfl (nI_add k1 1) rfl rfl ?_
            refine ww_goto (tgt := 16) C dX7_ask_169 (by decide) ?_
            exact ww_lv [0, 2, 3, 4, 5, 6] rfl (ww_sub [0, 1, 2, 3, 4, 5, 6, 7, 8, 9, 10, 11, 12, 13, 14, 15, 16, 17, 18, 19, 20, 21] (ndk (by decide +kernel)) (gqk (by eq_refl)) (ih_16 (k1 + 1) st1 kn1 ftq la0qp la0qw la0qn la0qr la0qfc la0qff la0qfq la0qgx la0qgy la1qp la1qw la1qn la1qr la1qfc la1qff la1qfq la1qgx la1qgy (by omega) (as_0 hst (askd_0 h_20)) (kn_0 hkn (askd_0 h_20)) (by omega) (by omega) (by omega) (by omega) (by omega)))
  exact ww_lv [0, 1, 2, 3, 4, 5] rfl (ww_sub [0, 1, 2, 3, 4, 5, 6, 7, 8, 9, 10, 11, 12, 13, 14, 15, 16, 17, 18, 19, 20, 21] (ndk (by decide +kernel)) (gqk (by eq_refl)) (loop_16 _ 0 r_1 0 ft la0p la0w la0n la0r la0fc la0ff la0fq la0gx la0gy la1p la1w la1n la1r la1fc la1ff la1fq la1gx la1gy (by omega) (all_bs (r := r) (f := f) (g := gg) h_2) (BS.z.cg (fun i _ => by unfold knS; rw [decide_eq_false (Nat.not_lt_zero i), Bool.false_and])) (by omega) (by omega) (by omega) (by omega) (Nat.lt_succ_self _)))
end
section
theorem go_cnt {c n2 n g : Nat} (h8 : c < n) (h7 : n2 = c) (h6 : n + g ≤ 24) : n2 + (g + 1) ≤ 24 := by omega
theorem go_n24 {n n2 : Nat} {st : Int32} (h : n ≤ 24) (e : n2 = cb (bt st) n) : n2 ≤ 24 := by have h1 := cb_le (bt st) n; omega
theorem go_f4 {f A B : Nat → Int32} {k2 : Nat} (h : ∀ k, k < 4 → f k = if k < k2 then A k else B k) (hk : k2 = 4) : ∀ k, k < 4 → f k = A k := fun k hk4 => by
  have h1 := h k hk4
  rw [if_pos (by omega)] at h1; exact h1
theorem go_in {n r n2 r2 : Nat} {st : Int32} (hr : r < n) (e1 : n2 = cb (bt st) n) (e2 : r2 = cb (bt st) r) (h : bt st r = true) : r2 < n2 := by
  rw [e1, e2]; exact cb_lt hr h
section FS
variable {m : AM} {ev : Nat → EVl} {T : Nat → Option SVal} {gr sg : Int32} {g k : Nat} {f f' : Nat → Int32} {x : Int32}
theorem fs_y {v : Int32} (h : ∀ k', k' < 4 → f k' = if k' < k then fstS m ev T gr sg k' (g + 1) else fstS m ev T gr sg k' g) (hk : k < 4) (ex : f k = x) (h4 : x = -4) (hkn : knS (goS m ev T gr sg g) ev T gr sg 4 k = true) (hv : v = nI (g + 1)) (e : upd f k v = f') : ∀ k', k' < 4 → f' k' = if k' < k + 1 then fstS m ev T gr sg k' (g + 1) else fstS m ev T gr sg k' g := by
  intro k' hk'
  rw [← e]
  by_cases q : k' = k
  · have h1 := h k hk
    rw [if_neg (Nat.lt_irrefl k), ex, h4] at h1
    rw [q, pk_us, if_pos (by omega), hv]
    show _ = if fstS m ev T gr sg k g = -4 ∧ knS (goS m ev T gr sg g) ev T gr sg 4 k = true then nI (g + 1) else fstS m ev T gr sg k g
    rw [if_pos ⟨h1.symm, hkn⟩]
  · rw [pk_un q, h k' hk']
    by_cases z : k' < k
    · rw [if_pos z, if_pos (by omega)]
    · rw [if_neg z, if_neg (by omega)]
theorem fs_0 (h : ∀ k', k' < 4 → f k' = if k' < k then fstS m ev T gr sg k' (g + 1) else fstS m ev T gr sg k' g) (hk : k < 4) (hno : ¬ (fstS m ev T gr sg k g = -4 ∧ knS (goS m ev T gr sg g) ev T gr sg 4 k = true)) : ∀ k', k' < 4 → f k' = if k' < k + 1 then fstS m ev T gr sg k' (g + 1) else fstS m ev T gr sg k' g := by
  intro k' hk'
  rw [h k' hk']
  by_cases q : k' = k
  · rw [q, if_neg (Nat.lt_irrefl k), if_pos (by omega)]
    show _ = if fstS m ev T gr sg k g = -4 ∧ knS (goS m ev T gr sg g) ev T gr sg 4 k = true then nI (g + 1) else fstS m ev T gr sg k g
    rw [if_neg hno]
  · by_cases z : k' < k
    · rw [if_pos z, if_pos (by omega)]
    · rw [if_neg z, if_neg (by omega)]
theorem fs_n (h : ∀ k', k' < 4 → f k' = if k' < k then fstS m ev T gr sg k' (g + 1) else fstS m ev T gr sg k' g) (hk : k < 4) (hkn : knS (goS m ev T gr sg g) ev T gr sg 4 k = false) : ∀ k', k' < 4 → f k' = if k' < k + 1 then fstS m ev T gr sg k' (g + 1) else fstS m ev T gr sg k' g := fs_0 h hk (fun q => by rw [hkn] at q; cases q.2)
theorem fs_o (h : ∀ k', k' < 4 → f k' = if k' < k then fstS m ev T gr sg k' (g + 1) else fstS m ev T gr sg k' g) (hk : k < 4) (ex : f k = x) (h4 : ¬ x = -4) : ∀ k', k' < 4 → f k' = if k' < k + 1 then fstS m ev T gr sg k' (g + 1) else fstS m ev T gr sg k' g := fs_0 h hk (fun q => h4 (by
  have h1 := h k hk
  rw [if_neg (Nat.lt_irrefl k), ex] at h1
  rw [h1]; exact q.1))
end FS
theorem dX7_go_0 : decode cX7_go 0 = .ok (.aload_n 0, 1) := dl_42 (by decide +kernel)
theorem dX7_go_1 : decode cX7_go 1 = .ok (.getfield 12, 3) := dl_180 (by decide +kernel)
theorem wf_X7_12 : Cond.fieldLink RX7 12 RX7 "trial" "LWhoKnows$Model;" ∈ TB := tbm (tq2 (List.mem_of_getElem? (i := 26) (by decide +kernel))) (by decide +kernel)
theorem fg_X7_12 : FG RX7 12 7 0 := ⟨RX7, TX7, 5, uw_X7, wf_X7_12, rfl, by decide, rfl⟩
theorem dX7_go_4 : decode cX7_go 4 = .ok (.aload_n 1, 1) := dl_43 (by decide +kernel)
theorem dX7_go_5 : decode cX7_go 5 = .ok (.invokevirtual 54, 3) := dl_182 (by decide +kernel)
theorem wl_X7_54 : Cond.methodLink RX7 54 yX4_become ∈ TB := tbm (tq4 (List.mem_of_getElem? (i := 215) (by decide +kernel))) (by decide +kernel)
theorem wc_X4_become : Cond.code yX4_become cX4_become 2 none ∈ TB := tbm (tq2 (List.mem_of_getElem? (i := 156) (rfl))) (by decide +kernel)
theorem wi_X4_become : Cond.instanceMethod yX4_become ∈ TB := tbm (tq2 (List.mem_of_getElem? (i := 154) (by decide +kernel))) (by decide +kernel)
theorem ws_X4_become : Cond.selects RX4 yX4_become yX4_become ∈ TB := tbm (tq2 (List.mem_of_getElem? (i := 155) (by decide +kernel))) (by decide +kernel)
theorem mi_X4_become : MI yX4_become cX4_become 2 none 1 := ⟨wc_X4_become, wn_X4, ⟨by decide +kernel, by decide +kernel, by decide +kernel⟩, wi_X4_become, ws_X4_become⟩
theorem dX7_go_8 : decode cX7_go 8 = .ok (.iconst 0, 1) := dl_3 (by decide +kernel)
theorem dX7_go_9 : decode cX7_go 9 = .ok (.istore 5, 2) := dl_54 (by decide +kernel)
theorem dX7_go_11 : decode cX7_go 11 = .ok (.iload 5, 2) := dl_21 (by decide +kernel)
theorem dX7_go_13 : decode cX7_go 13 = .ok (.iconst 4, 1) := dl_7 (by decide +kernel)
theorem dX7_go_14 : decode cX7_go 14 = .ok (.if_icmp .ge 18, 3) := dl_162 (by decide +kernel)
theorem dX7_go_32 : decode cX7_go 32 = .ok (.iconst 1, 1) := dl_4 (by decide +kernel)
theorem dX7_go_33 : decode cX7_go 33 = .ok (.istore 5, 2) := dl_54 (by decide +kernel)
theorem dX7_go_35 : decode cX7_go 35 = .ok (.aload_n 0, 1) := dl_42 (by decide +kernel)
theorem dX7_go_36 : decode cX7_go 36 = .ok (.iconst 0, 1) := dl_3 (by decide +kernel)
theorem dX7_go_37 : decode cX7_go 37 = .ok (.putfield 58, 3) := dl_181 (by decide +kernel)
theorem wf_X7_58 : Cond.fieldLink RX7 58 RX7 "gone" "I" ∈ TB := tbm (tq2 (List.mem_of_getElem? (i := 30) (by decide +kernel))) (by decide +kernel)
theorem fp_X7_58 : FP RX7 58 7 2 .int false := ⟨RX7, TX7, 5, tyX7, uw_X7, wf_X7_58, rfl, by decide, rfl, tyX7_ok, nmX7, rfl, by decide +kernel⟩
theorem dX7_go_40 : decode cX7_go 40 = .ok (.aload_n 0, 1) := dl_42 (by decide +kernel)
theorem dX7_go_41 : decode cX7_go 41 = .ok (.getfield 58, 3) := dl_180 (by decide +kernel)
theorem fg_X7_58 : FG RX7 58 7 2 := ⟨RX7, TX7, 5, uw_X7, wf_X7_58, rfl, by decide, rfl⟩
theorem dX7_go_44 : decode cX7_go 44 = .ok (.bipush 24, 2) := dl_16 (by decide +kernel)
theorem dX7_go_46 : decode cX7_go 46 = .ok (.if_icmp .gt 117, 3) := dl_163 (by decide +kernel)
theorem dX7_go_163 : decode cX7_go 163 = .ok (.return_, 1) := dl_177 (by decide +kernel)
theorem dX7_go_49 : decode cX7_go 49 = .ok (.iload 5, 2) := dl_21 (by decide +kernel)
theorem dX7_go_51 : decode cX7_go 51 = .ok (.ifCond .eq 112, 3) := dl_153 (by decide +kernel)
theorem dX7_go_54 : decode cX7_go 54 = .ok (.aload_n 0, 1) := dl_42 (by decide +kernel)
theorem dX7_go_55 : decode cX7_go 55 = .ok (.aload_n 0, 1) := dl_42 (by decide +kernel)
theorem dX7_go_56 : decode cX7_go 56 = .ok (.getfield 12, 3) := dl_180 (by decide +kernel)
theorem dX7_go_59 : decode cX7_go 59 = .ok (.aload_n 2, 1) := dl_44 (by decide +kernel)
theorem dX7_go_60 : decode cX7_go 60 = .ok (.iload_n 3, 1) := dl_29 (by decide +kernel)
theorem dX7_go_61 : decode cX7_go 61 = .ok (.iload 4, 2) := dl_21 (by decide +kernel)
theorem dX7_go_63 : decode cX7_go 63 = .ok (.invokevirtual 61, 3) := dl_182 (by decide +kernel)
theorem wl_X7_61 : Cond.methodLink RX7 61 yX7_ask ∈ TB := tbm (tq4 (List.mem_of_getElem? (i := 216) (by decide +kernel))) (by decide +kernel)
theorem wc_X7_ask : Cond.code yX7_ask cX7_ask 12 none ∈ TB := tbm (tq4 (List.mem_of_getElem? (i := 195) (rfl))) (by decide +kernel)
theorem wn_X7 : Cond.initialized RX7 ∈ TB := tbm (tq1 (List.mem_of_getElem? (i := 9) (by decide +kernel))) (by decide +kernel)
theorem wi_X7_ask : Cond.instanceMethod yX7_ask ∈ TB := tbm (tq4 (List.mem_of_getElem? (i := 193) (by decide +kernel))) (by decide +kernel)
theorem ws_X7_ask : Cond.selects RX7 yX7_ask yX7_ask ∈ TB := tbm (tq4 (List.mem_of_getElem? (i := 194) (by decide +kernel))) (by decide +kernel)
theorem mi_X7_ask : MI yX7_ask cX7_ask 12 none 4 := ⟨wc_X7_ask, wn_X7, ⟨by decide +kernel, by decide +kernel, by decide +kernel⟩, wi_X7_ask, ws_X7_ask⟩
theorem dX7_go_66 : decode cX7_go 66 = .ok (.iconst 0, 1) := dl_3 (by decide +kernel)
theorem dX7_go_67 : decode cX7_go 67 = .ok (.istore 6, 2) := dl_54 (by decide +kernel)
theorem dX7_go_69 : decode cX7_go 69 = .ok (.iload 6, 2) := dl_21 (by decide +kernel)
theorem dX7_go_71 : decode cX7_go 71 = .ok (.iconst 4, 1) := dl_7 (by decide +kernel)
theorem dX7_go_72 : decode cX7_go 72 = .ok (.if_icmp .ge 46, 3) := dl_162 (by decide +kernel)
theorem dX7_go_118 : decode cX7_go 118 = .ok (.aload_n 0, 1) := dl_42 (by decide +kernel)
theorem dX7_go_119 : decode cX7_go 119 = .ok (.getfield 26, 3) := dl_180 (by decide +kernel)
theorem dX7_go_122 : decode cX7_go 122 = .ok (.aload_n 0, 1) := dl_42 (by decide +kernel)
theorem dX7_go_123 : decode cX7_go 123 = .ok (.getfield 12, 3) := dl_180 (by decide +kernel)
theorem dX7_go_126 : decode cX7_go 126 = .ok (.invokevirtual 22, 3) := dl_182 (by decide +kernel)
theorem dX7_go_129 : decode cX7_go 129 = .ok (.if_icmp .eq 7, 3) := dl_159 (by decide +kernel)
theorem dX7_go_136 : decode cX7_go 136 = .ok (.iconst 0, 1) := dl_3 (by decide +kernel)
theorem dX7_go_137 : decode cX7_go 137 = .ok (.istore 5, 2) := dl_54 (by decide +kernel)
theorem dX7_go_139 : decode cX7_go 139 = .ok (.aload_n 0, 1) := dl_42 (by decide +kernel)
theorem dX7_go_140 : decode cX7_go 140 = .ok (.getfield 12, 3) := dl_180 (by decide +kernel)
theorem dX7_go_143 : decode cX7_go 143 = .ok (.aload_n 0, 1) := dl_42 (by decide +kernel)
theorem dX7_go_144 : decode cX7_go 144 = .ok (.getfield 26, 3) := dl_180 (by decide +kernel)
theorem dX7_go_147 : decode cX7_go 147 = .ok (.invokevirtual 65, 3) := dl_182 (by decide +kernel)
theorem wl_X7_65 : Cond.methodLink RX7 65 yX4_cut ∈ TB := tbm (tq4 (List.mem_of_getElem? (i := 217) (by decide +kernel))) (by decide +kernel)
theorem wc_X4_cut : Cond.code yX4_cut cX4_cut 5 none ∈ TB := tbm (tq4 (List.mem_of_getElem? (i := 203) (rfl))) (by decide +kernel)
theorem wi_X4_cut : Cond.instanceMethod yX4_cut ∈ TB := tbm (tq4 (List.mem_of_getElem? (i := 201) (by decide +kernel))) (by decide +kernel)
theorem ws_X4_cut : Cond.selects RX4 yX4_cut yX4_cut ∈ TB := tbm (tq4 (List.mem_of_getElem? (i := 202) (by decide +kernel))) (by decide +kernel)
theorem mi_X4_cut : MI yX4_cut cX4_cut 5 none 1 := ⟨wc_X4_cut, wn_X4, ⟨by decide +kernel, by decide +kernel, by decide +kernel⟩, wi_X4_cut, ws_X4_cut⟩
theorem dX7_go_150 : decode cX7_go 150 = .ok (.aload_n 0, 1) := dl_42 (by decide +kernel)
theorem dX7_go_151 : decode cX7_go 151 = .ok (.dup, 1) := dl_89 (by decide +kernel)
theorem dX7_go_152 : decode cX7_go 152 = .ok (.getfield 58, 3) := dl_180 (by decide +kernel)
theorem dX7_go_155 : decode cX7_go 155 = .ok (.iconst 1, 1) := dl_4 (by decide +kernel)
theorem dX7_go_156 : decode cX7_go 156 = .ok (.iadd, 1) := dl_96 (by decide +kernel)
theorem dX7_go_157 : decode cX7_go 157 = .ok (.putfield 58, 3) := dl_181 (by decide +kernel)
theorem dX7_go_160 : decode cX7_go 160 = .ok (.goto (-120), 3) := dl_167 (by decide +kernel)
theorem dX7_go_132 : decode cX7_go 132 = .ok (.iconst 1, 1) := dl_4 (by decide +kernel)
theorem dX7_go_133 : decode cX7_go 133 = .ok (.goto 4, 3) := dl_167 (by decide +kernel)
theorem dX7_go_75 : decode cX7_go 75 = .ok (.aload_n 0, 1) := dl_42 (by decide +kernel)
theorem dX7_go_76 : decode cX7_go 76 = .ok (.getfield 18, 3) := dl_180 (by decide +kernel)
theorem wf_X7_18 : Cond.fieldLink RX7 18 RX7 "first" "[I" ∈ TB := tbm (tq2 (List.mem_of_getElem? (i := 28) (by decide +kernel))) (by decide +kernel)
theorem fg_X7_18 : FG RX7 18 7 1 := ⟨RX7, TX7, 5, uw_X7, wf_X7_18, rfl, by decide, rfl⟩
theorem dX7_go_79 : decode cX7_go 79 = .ok (.iload 6, 2) := dl_21 (by decide +kernel)
theorem dX7_go_81 : decode cX7_go 81 = .ok (.iaload, 1) := dl_46 (by decide +kernel)
theorem dX7_go_82 : decode cX7_go 82 = .ok (.bipush (-4), 2) := dl_16 (by decide +kernel)
theorem dX7_go_84 : decode cX7_go 84 = .ok (.if_icmp .ne 28, 3) := dl_160 (by decide +kernel)
theorem dX7_go_112 : decode cX7_go 112 = .ok (.iinc 6 1, 3) := dl_132 (by decide +kernel)
theorem dX7_go_115 : decode cX7_go 115 = .ok (.goto (-46), 3) := dl_167 (by decide +kernel)
theorem dX7_go_87 : decode cX7_go 87 = .ok (.aload_n 0, 1) := dl_42 (by decide +kernel)
theorem dX7_go_88 : decode cX7_go 88 = .ok (.getfield 30, 3) := dl_180 (by decide +kernel)
theorem dX7_go_91 : decode cX7_go 91 = .ok (.iload 6, 2) := dl_21 (by decide +kernel)
theorem dX7_go_93 : decode cX7_go 93 = .ok (.invokestatic 39, 3) := dl_184 (by decide +kernel)
theorem dX7_go_96 : decode cX7_go 96 = .ok (.ifCond .eq 16, 3) := dl_153 (by decide +kernel)
theorem dX7_go_99 : decode cX7_go 99 = .ok (.aload_n 0, 1) := dl_42 (by decide +kernel)
theorem dX7_go_100 : decode cX7_go 100 = .ok (.getfield 18, 3) := dl_180 (by decide +kernel)
theorem dX7_go_103 : decode cX7_go 103 = .ok (.iload 6, 2) := dl_21 (by decide +kernel)
theorem dX7_go_105 : decode cX7_go 105 = .ok (.aload_n 0, 1) := dl_42 (by decide +kernel)
theorem dX7_go_106 : decode cX7_go 106 = .ok (.getfield 58, 3) := dl_180 (by decide +kernel)
theorem dX7_go_109 : decode cX7_go 109 = .ok (.iconst 1, 1) := dl_4 (by decide +kernel)
theorem dX7_go_110 : decode cX7_go 110 = .ok (.iadd, 1) := dl_96 (by decide +kernel)
theorem dX7_go_111 : decode cX7_go 111 = .ok (.iastore, 1) := dl_79 (by decide +kernel)
theorem dX7_go_17 : decode cX7_go 17 = .ok (.aload_n 0, 1) := dl_42 (by decide +kernel)
theorem dX7_go_18 : decode cX7_go 18 = .ok (.getfield 18, 3) := dl_180 (by decide +kernel)
theorem dX7_go_21 : decode cX7_go 21 = .ok (.iload 5, 2) := dl_21 (by decide +kernel)
theorem dX7_go_23 : decode cX7_go 23 = .ok (.bipush (-4), 2) := dl_16 (by decide +kernel)
theorem dX7_go_25 : decode cX7_go 25 = .ok (.iastore, 1) := dl_79 (by decide +kernel)
theorem dX7_go_26 : decode cX7_go 26 = .ok (.iinc 5 1, 3) := dl_132 (by decide +kernel)
theorem dX7_go_29 : decode cX7_go 29 = .ok (.goto (-18), 3) := dl_167 (by decide +kernel)
set_option maxRecDepth 100000 in
set_option maxHeartbeats 4000000 in
theorem r_go (l : Launch) (E : EV) (ro : va_W) (rd : Nat) (h : Nat) (qj : Nat) (gr : Int32) (sg : Int32) (rt : Nat) (rf : Nat) (go0 : Int32) (st0 : Int32) (kn0 : Int32) (frf : Nat → Int32) (tn : Nat) (tr : Nat) (rx : Nat) (ry : Nat) (tf : Nat → Int32) (tg : Nat → Int32) (jt : Nat) (je : Nat) (ju : Nat) (ja : Nat) (ft : Nat → Int32) (fa : Nat → Option Nat) (la0 : Nat) (la1 : Nat) (la0m : Nat) (la0p : Int32) (la0w : Int32) (la0c : Nat) (la0f : Nat) (la0q : Nat) (la0fc : Nat → Int32) (la0ff : Nat → Int32) (la0fq : Nat → Int32) (la0n : Nat) (la0r : Nat) (la0x : Nat) (la0y : Nat) (la0gx : Nat → Int32) (la0gy : Nat → Int32) (la1m : Nat) (la1p : Int32) (la1w : Int32) (la1c : Nat) (la1f : Nat) (la1q : Nat) (la1fc : Nat → Int32) (la1ff : Nat → Int32) (la1fq : Nat → Int32) (la1n : Nat) (la1r : Nat) (la1x : Nat) (la1y : Nat) (la1gx : Nat → Int32) (la1gy : Nat → Int32) (fto : Nat → Option Nat) (n : Nat) (r : Nat) (a : Nat) (b : Nat) (f : Nat → Int32) (gg : Nat → Int32) (vc : Nat → Nat) (vr : Nat → Nat) (vi : Nat → Nat → Option SVal) (vs : Nat → Nat → Int32) (vn : Nat → Nat → Int32) (vp : Nat → Nat → Int32) (tT : Nat → Option SVal) (k_fa_0 : fa 0 = some la0) (k_fa_1 : fa 1 = some la1) (hn : n ≤ 24) (hrn : r < n) (hla0n : la0n ≤ 24) (hla0r : la0r < la0n ∨ la0r = 0) (hla1n : la1n ≤ 24) (hla1r : la1r < la1n ∨ la1r = 0) (hEV : EVA E ro je vc vr vi vs vn vp) (hto : SYT E ro 8 fto tT) (hwfm : WFm (am n r f gg)) : CT l yX7_go (Cond.code yX7_go cX7_go 7 none :: TB) ({ frames := 6, cells := 0, slots := 0, locals := 166 }) E ro [.ref rd, .ref h, .ref qj, .int gr, .int sg] [(rd, .inr (7, [.ref rt, .ref rf, .int go0, .int st0, .int kn0])), (rf, .inl (E.2.1 1, 4, .inl frf)), (rt, .inr (4, [.int (nI tn), .int (nI tr), .ref rx, .ref ry])), (rx, .inl (E.2.1 1, 24, .inl tf)), (ry, .inl (E.2.1 1, 96, .inl tg)), (qj, .inr (2, [.ref jt, .ref je, .ref ju, .ref ja])), (ju, .inl (E.2.1 1, 32, .inl ft)), (ja, .inl (E.2.1 5, 2, .inr (.inr (.inr (.inr fa))))), (la0, .inr (3, [.ref la0m, .int la0p, .int la0w, .ref la0c, .ref la0f, .ref la0q])), (la0c, .inl (E.2.1 1, 24, .inl la0fc)), (la0f, .inl (E.2.1 1, 24, .inl la0ff)), (la0q, .inl (E.2.1 1, 4, .inl la0fq)), (la0m, .inr (4, [.int (nI la0n), .int (nI la0r), .ref la0x, .ref la0y])), (la0x, .inl (E.2.1 1, 24, .inl la0gx)), (la0y, .inl (E.2.1 1, 96, .inl la0gy)), (la1, .inr (3, [.ref la1m, .int la1p, .int la1w, .ref la1c, .ref la1f, .ref la1q])), (la1c, .inl (E.2.1 1, 24, .inl la1fc)), (la1f, .inl (E.2.1 1, 24, .inl la1ff)), (la1q, .inl (E.2.1 1, 4, .inl la1fq)), (la1m, .inr (4, [.int (nI la1n), .int (nI la1r), .ref la1x, .ref la1y])), (la1x, .inl (E.2.1 1, 24, .inl la1gx)), (la1y, .inl (E.2.1 1, 96, .inl la1gy)), (jt, .inl (E.2.1 7, 8, .inr (.inr (.inr (.inr fto))))), (h, .inr (4, [.int (nI n), .int (nI r), .ref a, .ref b])), (a, .inl (E.2.1 1, 24, .inl f)), (b, .inl (E.2.1 1, 96, .inl gg))] (Qv E (fun uz => (∃ (NN : Nat) (stz : Int32) (knz : Int32) (tnz : Nat) (trz : Nat) (frfz : Nat → Int32) (tfz : Nat → Int32) (tgz : Nat → Int32) (ft2 : Nat → Int32) (la0zp : Int32) (la0zw : Int32) (la0zn : Nat) (la0zr : Nat) (la0zfc : Nat → Int32) (la0zff : Nat → Int32) (la0zfq : Nat → Int32) (la0zgx : Nat → Int32) (la0zgy : Nat → Int32) (la1zp : Int32) (la1zw : Int32) (la1zn : Nat) (la1zr : Nat) (la1zfc : Nat → Int32) (la1zff : Nat → Int32) (la1zfq : Nat → Int32) (la1zgx : Nat → Int32) (la1zgy : Nat → Int32), uz = [(rd, .inr (7, [.ref rt, .ref rf, .int (nI (NN + 1)), .int stz, .int knz])), (rf, .inl (E.2.1 1, 4, .inl frfz)), (rt, .inr (4, [.int (nI tnz), .int (nI trz), .ref rx, .ref ry])), (rx, .inl (E.2.1 1, 24, .inl tfz)), (ry, .inl (E.2.1 1, 96, .inl tgz)), (qj, .inr (2, [.ref jt, .ref je, .ref ju, .ref ja])), (ju, .inl (E.2.1 1, 32, .inl ft2)), (ja, .inl (E.2.1 5, 2, .inr (.inr (.inr (.inr fa))))), (la0, .inr (3, [.ref la0m, .int la0zp, .int la0zw, .ref la0c, .ref la0f, .ref la0q])), (la0c, .inl (E.2.1 1, 24, .inl la0zfc)), (la0f, .inl (E.2.1 1, 24, .inl la0zff)), (la0q, .inl (E.2.1 1, 4, .inl la0zfq)), (la0m, .inr (4, [.int (nI la0zn), .int (nI la0zr), .ref la0x, .ref la0y])), (la0x, .inl (E.2.1 1, 24, .inl la0zgx)), (la0y, .inl (E.2.1 1, 96, .inl la0zgy)), (la1, .inr (3, [.ref la1m, .int la1zp, .int la1zw, .ref la1c, .ref la1f, .ref la1q])), (la1c, .inl (E.2.1 1, 24, .inl la1zfc)), (la1f, .inl (E.2.1 1, 24, .inl la1zff)), (la1q, .inl (E.2.1 1, 4, .inl la1zfq)), (la1m, .inr (4, [.int (nI la1zn), .int (nI la1zr), .ref la1x, .ref la1y])), (la1x, .inl (E.2.1 1, 24, .inl la1zgx)), (la1y, .inl (E.2.1 1, 96, .inl la1zgy)), (jt, .inl (E.2.1 7, 8, .inr (.inr (.inr (.inr fto))))), (h, .inr (4, [.int (nI n), .int (nI r), .ref a, .ref b])), (a, .inl (E.2.1 1, 24, .inl f)), (b, .inl (E.2.1 1, 96, .inl gg))] ∧ (tnz ≤ 24) ∧ (trz < tnz) ∧ (GOE (am n r f gg) (ev6 vc vr vi vs vn vp) tT gr sg NN) ∧ (am tnz trz tfz tgz = goS (am n r f gg) (ev6 vc vr vi vs vn vp) tT gr sg (NN + 1)) ∧ (∀ k, k < 4 → frfz k = fstS (am n r f gg) (ev6 vc vr vi vs vn vp) tT gr sg k (NN + 1)) ∧ (BS knz (knS (goS (am n r f gg) (ev6 vc vr vi vs vn vp) tT gr sg NN) (ev6 vc vr vi vs vn vp) tT gr sg 4)) ∧ (NN ≤ 24) ∧ (la0zn ≤ 24) ∧ (la0zr < la0zn ∨ la0zr = 0) ∧ (la1zn ≤ 24) ∧ (la1zr < la1zn ∨ la1zr = 0)))) 0 0 := by
  refine ct_of rfl rfl ?_
  intro X C hT hin hro
  show WW X 7 E 0 [(0, .ref rd), (1, .ref h), (2, .ref qj), (3, .int gr), (4, .int sg)] [] [(rd, .inr (7, [.ref rt, .ref rf, .int go0, .int st0, .int kn0])), (rf, .inl (E.2.1 1, 4, .inl frf)), (rt, .inr (4, [.int (nI tn), .int (nI tr), .ref rx, .ref ry])), (rx, .inl (E.2.1 1, 24, .inl tf)), (ry, .inl (E.2.1 1, 96, .inl tg)), (qj, .inr (2, [.ref jt, .ref je, .ref ju, .ref ja])), (ju, .inl (E.2.1 1, 32, .inl ft)), (ja, .inl (E.2.1 5, 2, .inr (.inr (.inr (.inr fa))))), (la0, .inr (3, [.ref la0m, .int la0p, .int la0w, .ref la0c, .ref la0f, .ref la0q])), (la0c, .inl (E.2.1 1, 24, .inl la0fc)), (la0f, .inl (E.2.1 1, 24, .inl la0ff)), (la0q, .inl (E.2.1 1, 4, .inl la0fq)), (la0m, .inr (4, [.int (nI la0n), .int (nI la0r), .ref la0x, .ref la0y])), (la0x, .inl (E.2.1 1, 24, .inl la0gx)), (la0y, .inl (E.2.1 1, 96, .inl la0gy)), (la1, .inr (3, [.ref la1m, .int la1p, .int la1w, .ref la1c, .ref la1f, .ref la1q])), (la1c, .inl (E.2.1 1, 24, .inl la1fc)), (la1f, .inl (E.2.1 1, 24, .inl la1ff)), (la1q, .inl (E.2.1 1, 4, .inl la1fq)), (la1m, .inr (4, [.int (nI la1n), .int (nI la1r), .ref la1x, .ref la1y])), (la1x, .inl (E.2.1 1, 24, .inl la1gx)), (la1y, .inl (E.2.1 1, 96, .inl la1gy)), (jt, .inl (E.2.1 7, 8, .inr (.inr (.inr (.inr fto))))), (h, .inr (4, [.int (nI n), .int (nI r), .ref a, .ref b])), (a, .inl (E.2.1 1, 24, .inl f)), (b, .inl (E.2.1 1, 96, .inl gg))] 0 0
  obtain ⟨jei_, fe_, hje_, hall_⟩ := id hEV
  have hr : r < n ∨ r = 0 := Or.inl hrn
  refine ww_aload_n C dX7_go_0 0 rfl rfl ?_
  refine ww_get C fg_X7_12 0 rfl rfl dX7_go_1 ?_
  refine ww_aload_n C dX7_go_4 1 rfl rfl ?_
  refine ww_cv (wr := [(rd, .inr (7, [.ref rt, .ref rf, .int go0, .int st0, .int kn0])), (rf, .inl (E.2.1 1, 4, .inl frf)), (qj, .inr (2, [.ref jt, .ref je, .ref ju, .ref ja])), (ju, .inl (E.2.1 1, 32, .inl ft)), (ja, .inl (E.2.1 5, 2, .inr (.inr (.inr (.inr fa))))), (la0, .inr (3, [.ref la0m, .int la0p, .int la0w, .ref la0c, .ref la0f, .ref la0q])), (la0c, .inl (E.2.1 1, 24, .inl la0fc)), (la0f, .inl (E.2.1 1, 24, .inl la0ff)), (la0q, .inl (E.2.1 1, 4, .inl la0fq)), (la0m, .inr (4, [.int (nI la0n), .int (nI la0r), .ref la0x, .ref la0y])), (la0x, .inl (E.2.1 1, 24, .inl la0gx)), (la0y, .inl (E.2.1 1, 96, .inl la0gy)), (la1, .inr (3, [.ref la1m, .int la1p, .int la1w, .ref la1c, .ref la1f, .ref la1q])), (la1c, .inl (E.2.1 1, 24, .inl la1fc)), (la1f, .inl (E.2.1 1, 24, .inl la1ff)), (la1q, .inl (E.2.1 1, 4, .inl la1fq)), (la1m, .inr (4, [.int (nI la1n), .int (nI la1r), .ref la1x, .ref la1y])), (la1x, .inl (E.2.1 1, 24, .inl la1gx)), (la1y, .inl (E.2.1 1, 96, .inl la1gy)), (jt, .inl (E.2.1 7, 8, .inr (.inr (.inr (.inr fto)))))]) (k' := 0) (n' := 0) C (run_V (As := [.ref h]) (rest := []) C (m_become X.2.1 E ro rt h tn tr rx ry tf tg n r a b f gg (by omega)) mi_X4_become wl_X7_54 rfl 0 4 rfl rfl rfl rfl rfl dX7_go_5) (roK hro) [2, 3, 4, 23, 24, 25] [0, 1, 5, 6, 7, 8, 9, 10, 11, 12, 13, 14, 15, 16, 17, 18, 19, 20, 21, 22] rfl (gqk (by eq_refl)) (plk (by decide +kernel)) rfl (fun uz hw => ?_)
  refine ex2 hw ?_
  clear hw
  intro f3_2 g3_3 hw
  refine an1 hw ?_
  clear hw
  intro he_5 hw
  have h_4 := hw
  clear hw
  subst he_5
  refine ww_eq (ws' := [(rd, .inr (7, [.ref rt, .ref rf, .int go0, .int st0, .int kn0])), (rf, .inl (E.2.1 1, 4, .inl frf)), (qj, .inr (2, [.ref jt, .ref je, .ref ju, .ref ja])), (ju, .inl (E.2.1 1, 32, .inl ft)), (ja, .inl (E.2.1 5, 2, .inr (.inr (.inr (.inr fa))))), (la0, .inr (3, [.ref la0m, .int la0p, .int la0w, .ref la0c, .ref la0f, .ref la0q])), (la0c, .inl (E.2.1 1, 24, .inl la0fc)), (la0f, .inl (E.2.1 1, 24, .inl la0ff)), (la0q, .inl (E.2.1 1, 4, .inl la0fq)), (la0m, .inr (4, [.int (nI la0n), .int (nI la0r), .ref la0x, .ref la0y])), (la0x, .inl (E.2.1 1, 24, .inl la0gx)), (la0y, .inl (E.2.1 1, 96, .inl la0gy)), (la1, .inr (3, [.ref la1m, .int la1p, .int la1w, .ref la1c, .ref la1f, .ref la1q])), (la1c, .inl (E.2.1 1, 24, .inl la1fc)), (la1f, .inl (E.2.1 1, 24, .inl la1ff)), (la1q, .inl (E.2.1 1, 4, .inl la1fq)), (la1m, .inr (4, [.int (nI la1n), .int (nI la1r), .ref la1x, .ref la1y])), (la1x, .inl (E.2.1 1, 24, .inl la1gx)), (la1y, .inl (E.2.1 1, 96, .inl la1gy)), (jt, .inl (E.2.1 7, 8, .inr (.inr (.inr (.inr fto))))), (rt, .inr (4, [.int (nI n), .int (nI r), .ref rx, .ref ry])), (rx, .inl (E.2.1 1, 24, .inl f3_2)), (ry, .inl (E.2.1 1, 96, .inl g3_3)), (h, .inr (4, [.int (nI n), .int (nI r), .ref a, .ref b])), (a, .inl (E.2.1 1, 24, .inl f)), (b, .inl (E.2.1 1, 96, .inl gg))]) ?_ rfl rfl rfl
  refine ww_iconst (v := 0) C dX7_go_8 rfl ?_
  refine ww_istore (lv' := [(5, .int 0), (0, .ref rd), (1, .ref h), (2, .ref qj), (3, .int gr), (4, .int sg)]) C dX7_go_9 rfl rfl ?_
  have loop_11 : ∀ (fu : Nat) (k0 : Nat) (frf0 : Nat → Int32), (k0 ≤ 4) → (∀ k, k < k0 → frf0 k = -4) → 4 - k0 < fu → WW X 7 E 11 [(5, .int (nI k0)), (0, .ref rd), (1, .ref h), (2, .ref qj), (3, .int gr), (4, .int sg)] [] [(rd, .inr (7, [.ref rt, .ref rf, .int go0, .int st0, .int kn0])), (rf, .inl (E.2.1 1, 4, .inl frf0)), (qj, .inr (2, [.ref jt, .ref je, .ref ju, .ref ja])), (ju, .inl (E.2.1 1, 32, .inl ft)), (ja, .inl (E.2.1 5, 2, .inr (.inr (.inr (.inr fa))))), (la0, .inr (3, [.ref la0m, .int la0p, .int la0w, .ref la0c, .ref la0f, .ref la0q])), (la0c, .inl (E.2.1 1, 24, .inl la0fc)), (la0f, .inl (E.2.1 1, 24, .inl la0ff)), (la0q, .inl (E.2.1 1, 4, .inl la0fq)), (la0m, .inr (4, [.int (nI la0n), .int (nI la0r), .ref la0x, .ref la0y])), (la0x, .inl (E.2.1 1, 24, .inl la0gx)), (la0y, .inl (E.2.1 1, 96, .inl la0gy)), (la1, .inr (3, [.ref la1m, .int la1p, .int la1w, .ref la1c, .ref la1f, .ref la1q])), (la1c, .inl (E.2.1 1, 24, .inl la1fc)), (la1f, .inl (E.2.1 1, 24, .inl la1ff)), (la1q, .inl (E.2.1 1, 4, .inl la1fq)), (la1m, .inr (4, [.int (nI la1n), .int (nI la1r), .ref la1x, .ref la1y])), (la1x, .inl (E.2.1 1, 24, .inl la1gx)), (la1y, .inl (E.2.1 1, 96, .inl la1gy)), (jt, .inl (E.2.1 7, 8, .inr (.inr (.inr (.inr fto))))), (rt, .inr (4, [.int (nI n), .int (nI r), .ref rx, .ref ry])), (rx, .inl (E.2.1 1, 24, .inl f3_2)), (ry, .inl (E.2.1 1, 96, .inl g3_3)), (h, .inr (4, [.int (nI n), .int (nI r), .ref a, .ref b])), (a, .inl (E.2.1 1, 24, .inl f)), (b, .inl (E.2.1 1, 96, .inl gg))] 0 0 := by
    intro fu
    induction fu with
    | zero => intro k0 frf0 hk0 hf0 hmeas; exact absurd hmeas (Nat.not_lt_zero _)
    | succ fu ih_11 =>
      intro k0 frf0 hk0 hf0 hmeas
      refine ww_iload C dX7_go_11 0 rfl ?_
      refine ww_iconst (v := 4) C dX7_go_13 rfl ?_
      refine ww_icmp_ge (tgt := 32) C dX7_go_14 (by decide) (fun c_6 => ?_) (fun c_6 => ?_)
      · have zc_6 : ((k0 : Nat) : Int) ≥ 4 := i_le rfl (nI_toInt (n := k0) (by omega)) c_6
        refine ww_iconst (v := 1) C dX7_go_32 rfl ?_
        refine ww_istore (lv' := [(5, .int 1), (0, .ref rd), (1, .ref h), (2, .ref qj), (3, .int gr), (4, .int sg)]) C dX7_go_33 rfl rfl ?_
        refine ww_aload_n C dX7_go_35 1 rfl rfl ?_
        refine ww_iconst (v := 0) C dX7_go_36 rfl ?_
        refine ww_put (ws' := [(rd, .inr (7, [.ref rt, .ref rf, .int 0, .int st0, .int kn0])), (rf, .inl (E.2.1 1, 4, .inl frf0)), (qj, .inr (2, [.ref jt, .ref je, .ref ju, .ref ja])), (ju, .inl (E.2.1 1, 32, .inl ft)), (ja, .inl (E.2.1 5, 2, .inr (.inr (.inr (.inr fa))))), (la0, .inr (3, [.ref la0m, .int la0p, .int la0w, .ref la0c, .ref la0f, .ref la0q])), (la0c, .inl (E.2.1 1, 24, .inl la0fc)), (la0f, .inl (E.2.1 1, 24, .inl la0ff)), (la0q, .inl (E.2.1 1, 4, .inl la0fq)), (la0m, .inr (4, [.int (nI la0n), .int (nI la0r), .ref la0x, .ref la0y])), (la0x, .inl (E.2.1 1, 24, .inl la0gx)), (la0y, .inl (E.2.1 1, 96, .inl la0gy)), (la1, .inr (3, [.ref la1m, .int la1p, .int la1w, .ref la1c, .ref la1f, .ref la1q])), (la1c, .inl (E.2.1 1, 24, .inl la1fc)), (la1f, .inl (E.2.1 1, 24, .inl la1ff)), (la1q, .inl (E.2.1 1, 4, .inl la1fq)), (la1m, .inr (4, [.int (nI la1n), .int (nI la1r), .ref la1x, .ref la1y])), (la1x, .inl (E.2.1 1, 24, .inl la1gx)), (la1y, .inl (E.2.1 1, 96, .inl la1gy)), (jt, .inl (E.2.1 7, 8, .inr (.inr (.inr (.inr fto))))), (rt, .inr (4, [.int (nI n), .int (nI r), .ref rx, .ref ry])), (rx, .inl (E.2.1 1, 24, .inl f3_2)), (ry, .inl (E.2.1 1, 96, .inl g3_3)), (h, .inr (4, [.int (nI n), .int (nI r), .ref a, .ref b])), (a, .inl (E.2.1 1, 24, .inl f)), (b, .inl (E.2.1 1, 96, .inl gg))]) C fp_X7_58 0 rfl rfl rfl rfl rfl dX7_go_37 ?_
        have loop_40 : ∀ (fu : Nat) (g1 : Nat) (mo : Nat) (st1 : Int32) (kn1 : Int32) (frf1 : Nat → Int32) (tn1 : Nat) (tr1 : Nat) (tf1 : Nat → Int32) (tg1 : Nat → Int32) (ftg : Nat → Int32) (la0gp : Int32) (la0gw : Int32) (la0gn : Nat) (la0gr : Nat) (la0gfc : Nat → Int32) (la0gff : Nat → Int32) (la0gfq : Nat → Int32) (la0ggx : Nat → Int32) (la0ggy : Nat → Int32) (la1gp : Int32) (la1gw : Int32) (la1gn : Nat) (la1gr : Nat) (la1gfc : Nat → Int32) (la1gff : Nat → Int32) (la1gfq : Nat → Int32) (la1ggx : Nat → Int32) (la1ggy : Nat → Int32), (g1 ≤ 24) → (mo ≤ 1) → (tn1 ≤ 24) → (tr1 < tn1) → ((am tn1 tr1 tf1 tg1) = goS (am n r f gg) (ev6 vc vr vi vs vn vp) tT gr sg g1) → (mo = 1 → (∀ i, i < g1 → ¬ restG (am n r f gg) (ev6 vc vr vi vs vn vp) tT gr sg i) ∧ tn1 + g1 ≤ 24) → (mo = 0 → 1 ≤ g1 ∧ GOE (am n r f gg) (ev6 vc vr vi vs vn vp) tT gr sg (g1 - 1)) → (∀ k, k < 4 → frf1 k = fstS (am n r f gg) (ev6 vc vr vi vs vn vp) tT gr sg k g1) → (1 ≤ g1 → BS kn1 (knS (goS (am n r f gg) (ev6 vc vr vi vs vn vp) tT gr sg (g1 - 1)) (ev6 vc vr vi vs vn vp) tT gr sg 4)) → (la0gn ≤ 24) → (la0gr < la0gn ∨ la0gr = 0) → (la1gn ≤ 24) → (la1gr < la1gn ∨ la1gr = 0) → 25 - g1 < fu → WW X 7 E 40 [(5, .int (nI mo)), (0, .ref rd), (1, .ref h), (2, .ref qj), (3, .int gr), (4, .int sg)] [] [(rd, .inr (7, [.ref rt, .ref rf, .int (nI g1), .int st1, .int kn1])), (rf, .inl (E.2.1 1, 4, .inl frf1)), (qj, .inr (2, [.ref jt, .ref je, .ref ju, .ref ja])), (ju, .inl (E.2.1 1, 32, .inl ftg)), (ja, .inl (E.2.1 5, 2, .inr (.inr (.inr (.inr fa))))), (la0, .inr (3, [.ref la0m, .int la0gp, .int la0gw, .ref la0c, .ref la0f, .ref la0q])), (la0c, .inl (E.2.1 1, 24, .inl la0gfc)), (la0f, .inl (E.2.1 1, 24, .inl la0gff)), (la0q, .inl (E.2.1 1, 4, .inl la0gfq)), (la0m, .inr (4, [.int (nI la0gn), .int (nI la0gr), .ref la0x, .ref la0y])), (la0x, .inl (E.2.1 1, 24, .inl la0ggx)), (la0y, .inl (E.2.1 1, 96, .inl la0ggy)), (la1, .inr (3, [.ref la1m, .int la1gp, .int la1gw, .ref la1c, .ref la1f, .ref la1q])), (la1c, .inl (E.2.1 1, 24, .inl la1gfc)), (la1f, .inl (E.2.1 1, 24, .inl la1gff)), (la1q, .inl (E.2.1 1, 4, .inl la1gfq)), (la1m, .inr (4, [.int (nI la1gn), .int (nI la1gr), .ref la1x, .ref la1y])), (la1x, .inl (E.2.1 1, 24, .inl la1ggx)), (la1y, .inl (E.2.1 1, 96, .inl la1ggy)), (jt, .inl (E.2.1 7, 8, .inr (.inr (.inr (.inr fto))))), (rt, .inr (4, [.int (nI tn1), .int (nI tr1), .ref rx, .ref ry])), (rx, .inl (E.2.1 1, 24, .inl tf1)), (ry, .inl (E.2.1 1, 96, .inl tg1)), (h, .inr (4, [.int (nI n), .int (nI r), .ref a, .ref b])), (a, .inl (E.2.1 1, 24, .inl f)), (b, .inl (E.2.1 1, 96, .inl gg))] 0 0 := by
          intro fu
          induction fu with
          | zero => intro g1 mo st1 kn1 frf1 tn1 tr1 tf1 tg1 ftg la0gp la0gw la0gn la0gr la0gfc la0gff la0gfq la0ggx la0ggy la1gp la1gw la1gn la1gr la1gfc la1gff la1gfq la1ggx la1ggy hg1 hmo htn1 htr1 ham hm1 hm0 hfs hkg hla0gn_ hla0gr_ hla1gn_ hla1gr_ hmeas; exact absurd hmeas (Nat.not_lt_zero _)
          | succ fu ih_40 =>
            intro g1 mo st1 kn1 frf1 tn1 tr1 tf1 tg1 ftg la0gp la0gw la0gn la0gr la0gfc la0gff la0gfq la0ggx la0ggy la1gp la1gw la1gn la1gr la1gfc la1gff la1gfq la1ggx la1ggy hg1 hmo htn1 htr1 ham hm1 hm0 hfs hkg hla0gn_ hla0gr_ hla1gn_ hla1gr_ hmeas
            refine ww_aload_n C dX7_go_40 1 rfl rfl ?_
            refine ww_get C fg_X7_58 0 rfl rfl dX7_go_41 ?_
            refine ww_bipush (v := 24) C dX7_go_44 rfl ?_
            refine ww_icmp_gt (tgt := 163) C dX7_go_46 (by decide) (fun c_7 => ?_) (fun c_7 => ?_)
            · have zc_7 : ((g1 : Nat) : Int) > 24 := i_lt rfl (nI_toInt (n := g1) (by omega)) c_7
              have hgm := (hm0 (by omega)).1
              refine ww_eq (ws' := [(rd, .inr (7, [.ref rt, .ref rf, .int (nI (g1 - 1 + 1)), .int st1, .int kn1])), (rf, .inl (E.2.1 1, 4, .inl frf1)), (qj, .inr (2, [.ref jt, .ref je, .ref ju, .ref ja])), (ju, .inl (E.2.1 1, 32, .inl ftg)), (ja, .inl (E.2.1 5, 2, .inr (.inr (.inr (.inr fa))))), (la0, .inr (3, [.ref la0m, .int la0gp, .int la0gw, .ref la0c, .ref la0f, .ref la0q])), (la0c, .inl (E.2.1 1, 24, .inl la0gfc)), (la0f, .inl (E.2.1 1, 24, .inl la0gff)), (la0q, .inl (E.2.1 1, 4, .inl la0gfq)), (la0m, .inr (4, [.int (nI la0gn), .int (nI la0gr), .ref la0x, .ref la0y])), (la0x, .inl (E.2.1 1, 24, .inl la0ggx)), (la0y, .inl (E.2.1 1, 96, .inl la0ggy)), (la1, .inr (3, [.ref la1m, .int la1gp, .int la1gw, .ref la1c, .ref la1f, .ref la1q])), (la1c, .inl (E.2.1 1, 24, .inl la1gfc)), (la1f, .inl (E.2.1 1, 24, .inl la1gff)), (la1q, .inl (E.2.1 1, 4, .inl la1gfq)), (la1m, .inr (4, [.int (nI la1gn), .int (nI la1gr), .ref la1x, .ref la1y])), (la1x, .inl (E.2.1 1, 24, .inl la1ggx)), (la1y, .inl (E.2.1 1, 96, .inl la1ggy)), (jt, .inl (E.2.1 7, 8, .inr (.inr (.inr (.inr fto))))), (rt, .inr (4, [.int (nI tn1), .int (nI tr1), .ref rx, .ref ry])), (rx, .inl (E.2.1 1, 24, .inl tf1)), (ry, .inl (E.2.1 1, 96, .inl tg1)), (h, .inr (4, [.int (nI n), .int (nI r), .ref a, .ref b])), (a, .inl (E.2.1 1, 24, .inl f)), (b, .inl (E.2.1 1, 96, .inl gg))]) ?_ rfl rfl (by rw [show g1 - 1 + 1 = g1 by omega])
              exact ww_vret (u := [(rd, .inr (7, [.ref rt, .ref rf, .int (nI (g1 - 1 + 1)), .int st1, .int kn1])), (rf, .inl (E.2.1 1, 4, .inl frf1)), (rt, .inr (4, [.int (nI tn1), .int (nI tr1), .ref rx, .ref ry])), (rx, .inl (E.2.1 1, 24, .inl tf1)), (ry, .inl (E.2.1 1, 96, .inl tg1)), (qj, .inr (2, [.ref jt, .ref je, .ref ju, .ref ja])), (ju, .inl (E.2.1 1, 32, .inl ftg)), (ja, .inl (E.2.1 5, 2, .inr (.inr (.inr (.inr fa))))), (la0, .inr (3, [.ref la0m, .int la0gp, .int la0gw, .ref la0c, .ref la0f, .ref la0q])), (la0c, .inl (E.2.1 1, 24, .inl la0gfc)), (la0f, .inl (E.2.1 1, 24, .inl la0gff)), (la0q, .inl (E.2.1 1, 4, .inl la0gfq)), (la0m, .inr (4, [.int (nI la0gn), .int (nI la0gr), .ref la0x, .ref la0y])), (la0x, .inl (E.2.1 1, 24, .inl la0ggx)), (la0y, .inl (E.2.1 1, 96, .inl la0ggy)), (la1, .inr (3, [.ref la1m, .int la1gp, .int la1gw, .ref la1c, .ref la1f, .ref la1q])), (la1c, .inl (E.2.1 1, 24, .inl la1gfc)), (la1f, .inl (E.2.1 1, 24, .inl la1gff)), (la1q, .inl (E.2.1 1, 4, .inl la1gfq)), (la1m, .inr (4, [.int (nI la1gn), .int (nI la1gr), .ref la1x, .ref la1y])), (la1x, .inl (E.2.1 1, 24, .inl la1ggx)), (la1y, .inl (E.2.1 1, 96, .inl la1ggy)), (jt, .inl (E.2.1 7, 8, .inr (.inr (.inr (.inr fto))))), (h, .inr (4, [.int (nI n), .int (nI r), .ref a, .ref b])), (a, .inl (E.2.1 1, 24, .inl f)), (b, .inl (E.2.1 1, 96, .inl gg))]) C hT [0, 1, 20, 21, 22, 2, 3, 4, 5, 6, 7, 8, 9, 10, 11, 12, 13, 14, 15, 16, 17, 18, 19, 23, 24, 25] (gqk (by eq_refl)) (ndk (by decide +kernel)) rfl rfl dX7_go_163 (⟨(g1 - 1), st1, kn1, tn1, tr1, frf1, tf1, tg1, ftg, la0gp, la0gw, la0gn, la0gr, la0gfc, la0gff, la0gfq, la0ggx, la0ggy, la1gp, la1gw, la1gn, la1gr, la1gfc, la1gff, la1gfq, la1ggx, la1ggy, rfl, (by first | assumption | omega | decide), (by first | assumption | omega | decide), (hm0 (by omega)).2, (by rw [show g1 - 1 + 1 = g1 by have h9 := (hm0 (by omega)).1; omega]; exact ham), (by rw [show g1 - 1 + 1 = g1 by have h9 := (hm0 (by omega)).1; omega]; exact hfs), (hkg (hm0 (by omega)).1), (by omega), (by first | assumption | omega | decide), (by first | assumption | omega | decide), (by first | assumption | omega | decide), (by first | assumption | omega | decide)⟩)
            · have zc_7 : ((g1 : Nat) : Int) ≤ 24 := i_nlt rfl (nI_toInt (n := g1) (by omega)) c_7
              refine ww_iload C dX7_go_49 0 rfl ?_
              refine ww_if_eq (tgt := 163) C dX7_go_51 (by decide) (fun c_8 => ?_) (fun c_8 => ?_)
              · have zc_8 : ((mo : Nat) : Int) = 0 := i_eq (nI_toInt (n := mo) (by omega)) rfl c_8
                have hgm := (hm0 (by omega)).1
                refine ww_eq (ws' := [(rd, .inr (7, [.ref rt, .ref rf, .int (nI (g1 - 1 + 1)), .int st1, .int kn1])), (rf, .inl (E.2.1 1, 4, .inl frf1)), (qj, .inr (2, [.ref jt, .ref je, .ref ju, .ref ja])), (ju, .inl (E.2.1 1, 32, .inl ftg)), (ja, .inl (E.2.1 5, 2, .inr (.inr (.inr (.inr fa))))), (la0, .inr (3, [.ref la0m, .int la0gp, .int la0gw, .ref la0c, .ref la0f, .ref la0q])), (la0c, .inl (E.2.1 1, 24, .inl la0gfc)), (la0f, .inl (E.2.1 1, 24, .inl la0gff)), (la0q, .inl (E.2.1 1, 4, .inl la0gfq)), (la0m, .inr (4, [.int (nI la0gn), .int (nI la0gr), .ref la0x, .ref la0y])), (la0x, .inl (E.2.1 1, 24, .inl la0ggx)), (la0y, .inl (E.2.1 1, 96, .inl la0ggy)), (la1, .inr (3, [.ref la1m, .int la1gp, .int la1gw, .ref la1c, .ref la1f, .ref la1q])), (la1c, .inl (E.2.1 1, 24, .inl la1gfc)), (la1f, .inl (E.2.1 1, 24, .inl la1gff)), (la1q, .inl (E.2.1 1, 4, .inl la1gfq)), (la1m, .inr (4, [.int (nI la1gn), .int (nI la1gr), .ref la1x, .ref la1y])), (la1x, .inl (E.2.1 1, 24, .inl la1ggx)), (la1y, .inl (E.2.1 1, 96, .inl la1ggy)), (jt, .inl (E.2.1 7, 8, .inr (.inr (.inr (.inr fto))))), (rt, .inr (4, [.int (nI tn1), .int (nI tr1), .ref rx, .ref ry])), (rx, .inl (E.2.1 1, 24, .inl tf1)), (ry, .inl (E.2.1 1, 96, .inl tg1)), (h, .inr (4, [.int (nI n), .int (nI r), .ref a, .ref b])), (a, .inl (E.2.1 1, 24, .inl f)), (b, .inl (E.2.1 1, 96, .inl gg))]) ?_ rfl rfl (by rw [show g1 - 1 + 1 = g1 by omega])
                exact ww_vret (u := [(rd, .inr (7, [.ref rt, .ref rf, .int (nI (g1 - 1 + 1)), .int st1, .int kn1])), (rf, .inl (E.2.1 1, 4, .inl frf1)), (rt, .inr (4, [.int (nI tn1), .int (nI tr1), .ref rx, .ref ry])), (rx, .inl (E.2.1 1, 24, .inl tf1)), (ry, .inl (E.2.1 1, 96, .inl tg1)), (qj, .inr (2, [.ref jt, .ref je, .ref ju, .ref ja])), (ju, .inl (E.2.1 1, 32, .inl ftg)), (ja, .inl (E.2.1 5, 2, .inr (.inr (.inr (.inr fa))))), (la0, .inr (3, [.ref la0m, .int la0gp, .int la0gw, .ref la0c, .ref la0f, .ref la0q])), (la0c, .inl (E.2.1 1, 24, .inl la0gfc)), (la0f, .inl (E.2.1 1, 24, .inl la0gff)), (la0q, .inl (E.2.1 1, 4, .inl la0gfq)), (la0m, .inr (4, [.int (nI la0gn), .int (nI la0gr), .ref la0x, .ref la0y])), (la0x, .inl (E.2.1 1, 24, .inl la0ggx)), (la0y, .inl (E.2.1 1, 96, .inl la0ggy)), (la1, .inr (3, [.ref la1m, .int la1gp, .int la1gw, .ref la1c, .ref la1f, .ref la1q])), (la1c, .inl (E.2.1 1, 24, .inl la1gfc)), (la1f, .inl (E.2.1 1, 24, .inl la1gff)), (la1q, .inl (E.2.1 1, 4, .inl la1gfq)), (la1m, .inr (4, [.int (nI la1gn), .int (nI la1gr), .ref la1x, .ref la1y])), (la1x, .inl (E.2.1 1, 24, .inl la1ggx)), (la1y, .inl (E.2.1 1, 96, .inl la1ggy)), (jt, .inl (E.2.1 7, 8, .inr (.inr (.inr (.inr fto))))), (h, .inr (4, [.int (nI n), .int (nI r), .ref a, .ref b])), (a, .inl (E.2.1 1, 24, .inl f)), (b, .inl (E.2.1 1, 96, .inl gg))]) C hT [0, 1, 20, 21, 22, 2, 3, 4, 5, 6, 7, 8, 9, 10, 11, 12, 13, 14, 15, 16, 17, 18, 19, 23, 24, 25] (gqk (by eq_refl)) (ndk (by decide +kernel)) rfl rfl dX7_go_163 (⟨(g1 - 1), st1, kn1, tn1, tr1, frf1, tf1, tg1, ftg, la0gp, la0gw, la0gn, la0gr, la0gfc, la0gff, la0gfq, la0ggx, la0ggy, la1gp, la1gw, la1gn, la1gr, la1gfc, la1gff, la1gfq, la1ggx, la1ggy, rfl, (by first | assumption | omega | decide), (by first | assumption | omega | decide), (hm0 (by omega)).2, (by rw [show g1 - 1 + 1 = g1 by have h9 := (hm0 (by omega)).1; omega]; exact ham), (by rw [show g1 - 1 + 1 = g1 by have h9 := (hm0 (by omega)).1; omega]; exact hfs), (hkg (hm0 (by omega)).1), (by omega), (by first | assumption | omega | decide), (by first | assumption | omega | decide), (by first | assumption | omega | decide), (by first | assumption | omega | decide)⟩)
              · have zc_8 : ((mo : Nat) : Int) ≠ 0 := i_ne (nI_toInt (n := mo) (by omega)) rfl c_8
                refine ww_aload_n C dX7_go_54 1 rfl rfl ?_
                refine ww_aload_n C dX7_go_55 1 rfl rfl ?_
                refine ww_get C fg_X7_12 0 rfl rfl dX7_go_56 ?_
                refine ww_aload_n C dX7_go_59 3 rfl rfl ?_
                refine ww_iload_n C dX7_go_60 4 rfl rfl ?_
                refine ww_iload C dX7_go_61 5 rfl ?_
                refine ww_cv (wr := [(rf, .inl (E.2.1 1, 4, .inl frf1)), (h, .inr (4, [.int (nI n), .int (nI r), .ref a, .ref b])), (a, .inl (E.2.1 1, 24, .inl f)), (b, .inl (E.2.1 1, 96, .inl gg))]) (k' := 0) (n' := 0) C (run_V (As := [.ref rt, .ref qj, .int gr, .int sg]) (rest := []) C (r_ask X.2.1 E ro rd rt qj gr sg rt rf (nI g1) st1 kn1 jt je ju ja ftg fa la0 la1 la0m la0gp la0gw la0c la0f la0q la0gfc la0gff la0gfq la0gn la0gr la0x la0y la0ggx la0ggy la1m la1gp la1gw la1c la1f la1q la1gfc la1gff la1gfq la1gn la1gr la1x la1y la1ggx la1ggy fto tn1 tr1 rx ry tf1 tg1 vc vr vi vs vn vp tT k_fa_0 k_fa_1 (by omega) (by omega) (by omega) (by omega) (by omega) (by omega) hEV hto (by rw [ham]; exact goS_wf hwfm g1)) mi_X7_ask wl_X7_61 rfl 0 7 rfl rfl rfl rfl rfl dX7_go_63) (roK hro) [0, 2, 3, 4, 5, 6, 7, 8, 9, 10, 11, 12, 13, 14, 15, 16, 17, 18, 19, 20, 21, 22] [1, 23, 24, 25] (gqk (by eq_refl)) rfl (plk (by decide +kernel)) rfl (fun uz hw => ?_)
                refine ex8 hw ?_
                clear hw
                intro st2_10 kn2_11 ft2_12 la0zp_13 la0zw_14 la0zn_15 la0zr_16 la0zfc_17 hw
                refine ex8 hw ?_
                clear hw
                intro la0zff_18 la0zfq_19 la0zgx_20 la0zgy_21 la1zp_22 la1zw_23 la1zn_24 la1zr_25 hw
                refine ex5 hw ?_
                clear hw
                intro la1zfc_26 la1zff_27 la1zfq_28 la1zgx_29 la1zgy_30 hw
                refine an7 hw ?_
                clear hw
                intro he_38 h_31 h_32 h_33 h_34 h_35 h_36 hw
                have h_37 := hw
                clear hw
                subst he_38
                refine ww_eq (ws' := [(rf, .inl (E.2.1 1, 4, .inl frf1)), (h, .inr (4, [.int (nI n), .int (nI r), .ref a, .ref b])), (a, .inl (E.2.1 1, 24, .inl f)), (b, .inl (E.2.1 1, 96, .inl gg)), (rd, .inr (7, [.ref rt, .ref rf, .int (nI g1), .int st2_10, .int kn2_11])), (qj, .inr (2, [.ref jt, .ref je, .ref ju, .ref ja])), (ju, .inl (E.2.1 1, 32, .inl ft2_12)), (ja, .inl (E.2.1 5, 2, .inr (.inr (.inr (.inr fa))))), (la0, .inr (3, [.ref la0m, .int la0zp_13, .int la0zw_14, .ref la0c, .ref la0f, .ref la0q])), (la0c, .inl (E.2.1 1, 24, .inl la0zfc_17)), (la0f, .inl (E.2.1 1, 24, .inl la0zff_18)), (la0q, .inl (E.2.1 1, 4, .inl la0zfq_19)), (la0m, .inr (4, [.int (nI la0zn_15), .int (nI la0zr_16), .ref la0x, .ref la0y])), (la0x, .inl (E.2.1 1, 24, .inl la0zgx_20)), (la0y, .inl (E.2.1 1, 96, .inl la0zgy_21)), (la1, .inr (3, [.ref la1m, .int la1zp_22, .int la1zw_23, .ref la1c, .ref la1f, .ref la1q])), (la1c, .inl (E.2.1 1, 24, .inl la1zfc_26)), (la1f, .inl (E.2.1 1, 24, .inl la1zff_27)), (la1q, .inl (E.2.1 1, 4, .inl la1zfq_28)), (la1m, .inr (4, [.int (nI la1zn_24), .int (nI la1zr_25), .ref la1x, .ref la1y])), (la1x, .inl (E.2.1 1, 24, .inl la1zgx_29)), (la1y, .inl (E.2.1 1, 96, .inl la1zgy_30)), (jt, .inl (E.2.1 7, 8, .inr (.inr (.inr (.inr fto))))), (rt, .inr (4, [.int (nI tn1), .int (nI tr1), .ref rx, .ref ry])), (rx, .inl (E.2.1 1, 24, .inl tf1)), (ry, .inl (E.2.1 1, 96, .inl tg1))]) ?_ rfl rfl rfl
                refine ww_iconst (v := 0) C dX7_go_66 rfl ?_
                refine ww_istore (lv' := [(6, .int 0), (5, .int (nI mo)), (0, .ref rd), (1, .ref h), (2, .ref qj), (3, .int gr), (4, .int sg)]) C dX7_go_67 rfl rfl ?_
                have loop_69 : ∀ (fu : Nat) (k2 : Nat) (frf2 : Nat → Int32), (k2 ≤ 4) → (∀ k, k < 4 → frf2 k = if k < k2 then fstS (am n r f gg) (ev6 vc vr vi vs vn vp) tT gr sg k (g1 + 1) else fstS (am n r f gg) (ev6 vc vr vi vs vn vp) tT gr sg k g1) → 4 - k2 < fu → WW X 7 E 69 [(6, .int (nI k2)), (5, .int (nI mo)), (0, .ref rd), (1, .ref h), (2, .ref qj), (3, .int gr), (4, .int sg)] [] [(rf, .inl (E.2.1 1, 4, .inl frf2)), (h, .inr (4, [.int (nI n), .int (nI r), .ref a, .ref b])), (a, .inl (E.2.1 1, 24, .inl f)), (b, .inl (E.2.1 1, 96, .inl gg)), (rd, .inr (7, [.ref rt, .ref rf, .int (nI g1), .int st2_10, .int kn2_11])), (qj, .inr (2, [.ref jt, .ref je, .ref ju, .ref ja])), (ju, .inl (E.2.1 1, 32, .inl ft2_12)), (ja, .inl (E.2.1 5, 2, .inr (.inr (.inr (.inr fa))))), (la0, .inr (3, [.ref la0m, .int la0zp_13, .int la0zw_14, .ref la0c, .ref la0f, .ref la0q])), (la0c, .inl (E.2.1 1, 24, .inl la0zfc_17)), (la0f, .inl (E.2.1 1, 24, .inl la0zff_18)), (la0q, .inl (E.2.1 1, 4, .inl la0zfq_19)), (la0m, .inr (4, [.int (nI la0zn_15), .int (nI la0zr_16), .ref la0x, .ref la0y])), (la0x, .inl (E.2.1 1, 24, .inl la0zgx_20)), (la0y, .inl (E.2.1 1, 96, .inl la0zgy_21)), (la1, .inr (3, [.ref la1m, .int la1zp_22, .int la1zw_23, .ref la1c, .ref la1f, .ref la1q])), (la1c, .inl (E.2.1 1, 24, .inl la1zfc_26)), (la1f, .inl (E.2.1 1, 24, .inl la1zff_27)), (la1q, .inl (E.2.1 1, 4, .inl la1zfq_28)), (la1m, .inr (4, [.int (nI la1zn_24), .int (nI la1zr_25), .ref la1x, .ref la1y])), (la1x, .inl (E.2.1 1, 24, .inl la1zgx_29)), (la1y, .inl (E.2.1 1, 96, .inl la1zgy_30)), (jt, .inl (E.2.1 7, 8, .inr (.inr (.inr (.inr fto))))), (rt, .inr (4, [.int (nI tn1), .int (nI tr1), .ref rx, .ref ry])), (rx, .inl (E.2.1 1, 24, .inl tf1)), (ry, .inl (E.2.1 1, 96, .inl tg1))] 0 0 := by
                  intro fu
                  induction fu with
                  | zero => intro k2 frf2 hk2 hf2 hmeas; exact absurd hmeas (Nat.not_lt_zero _)
                  | succ fu ih_69 =>
                    intro k2 frf2 hk2 hf2 hmeas
                    refine ww_iload C dX7_go_69 0 rfl ?_
                    refine ww_iconst (v := 4) C dX7_go_71 rfl ?_
                    refine ww_icmp_ge (tgt := 118) C dX7_go_72 (by decide) (fun c_39 => ?_) (fun c_39 => ?_)
                    · have zc_39 : ((k2 : Nat) : Int) ≥ 4 := i_le rfl (nI_toInt (n := k2) (by omega)) c_39
                      refine ww_aload_n C dX7_go_118 2 rfl rfl ?_
                      refine ww_get C fg_X7_26 4 rfl rfl dX7_go_119 ?_
                      refine ww_aload_n C dX7_go_122 2 rfl rfl ?_
                      refine ww_get C fg_X7_12 4 rfl rfl dX7_go_123 ?_
                      refine ww_ci (wr := [(rf, .inl (E.2.1 1, 4, .inl frf2)), (h, .inr (4, [.int (nI n), .int (nI r), .ref a, .ref b])), (a, .inl (E.2.1 1, 24, .inl f)), (b, .inl (E.2.1 1, 96, .inl gg)), (rd, .inr (7, [.ref rt, .ref rf, .int (nI g1), .int st2_10, .int kn2_11])), (qj, .inr (2, [.ref jt, .ref je, .ref ju, .ref ja])), (ju, .inl (E.2.1 1, 32, .inl ft2_12)), (ja, .inl (E.2.1 5, 2, .inr (.inr (.inr (.inr fa))))), (la0, .inr (3, [.ref la0m, .int la0zp_13, .int la0zw_14, .ref la0c, .ref la0f, .ref la0q])), (la0c, .inl (E.2.1 1, 24, .inl la0zfc_17)), (la0f, .inl (E.2.1 1, 24, .inl la0zff_18)), (la0q, .inl (E.2.1 1, 4, .inl la0zfq_19)), (la0m, .inr (4, [.int (nI la0zn_15), .int (nI la0zr_16), .ref la0x, .ref la0y])), (la0x, .inl (E.2.1 1, 24, .inl la0zgx_20)), (la0y, .inl (E.2.1 1, 96, .inl la0zgy_21)), (la1, .inr (3, [.ref la1m, .int la1zp_22, .int la1zw_23, .ref la1c, .ref la1f, .ref la1q])), (la1c, .inl (E.2.1 1, 24, .inl la1zfc_26)), (la1f, .inl (E.2.1 1, 24, .inl la1zff_27)), (la1q, .inl (E.2.1 1, 4, .inl la1zfq_28)), (la1m, .inr (4, [.int (nI la1zn_24), .int (nI la1zr_25), .ref la1x, .ref la1y])), (la1x, .inl (E.2.1 1, 24, .inl la1zgx_29)), (la1y, .inl (E.2.1 1, 96, .inl la1zgy_30)), (jt, .inl (E.2.1 7, 8, .inr (.inr (.inr (.inr fto))))), (rx, .inl (E.2.1 1, 24, .inl tf1)), (ry, .inl (E.2.1 1, 96, .inl tg1))]) (k' := 0) (n' := 0) C (run_V (As := []) (rest := [.int st2_10]) C (m_all X.2.1 E ro rt tn1 tr1 rx ry (by omega)) mi_X4_all wl_X7_22 rfl 0 4 rfl rfl rfl rfl rfl dX7_go_126) (roK hro) [23] [0, 1, 2, 3, 4, 5, 6, 7, 8, 9, 10, 11, 12, 13, 14, 15, 16, 17, 18, 19, 20, 21, 22, 24, 25] rfl (gqk (by eq_refl)) (plk (by decide +kernel)) rfl (fun r_40 uz hw => ?_)
                      refine an1 hw ?_
                      clear hw
                      intro he_42 hw
                      have h_41 := hw
                      clear hw
                      subst he_42
                      refine ww_eq (ws' := [(rf, .inl (E.2.1 1, 4, .inl frf2)), (h, .inr (4, [.int (nI n), .int (nI r), .ref a, .ref b])), (a, .inl (E.2.1 1, 24, .inl f)), (b, .inl (E.2.1 1, 96, .inl gg)), (rd, .inr (7, [.ref rt, .ref rf, .int (nI g1), .int st2_10, .int kn2_11])), (qj, .inr (2, [.ref jt, .ref je, .ref ju, .ref ja])), (ju, .inl (E.2.1 1, 32, .inl ft2_12)), (ja, .inl (E.2.1 5, 2, .inr (.inr (.inr (.inr fa))))), (la0, .inr (3, [.ref la0m, .int la0zp_13, .int la0zw_14, .ref la0c, .ref la0f, .ref la0q])), (la0c, .inl (E.2.1 1, 24, .inl la0zfc_17)), (la0f, .inl (E.2.1 1, 24, .inl la0zff_18)), (la0q, .inl (E.2.1 1, 4, .inl la0zfq_19)), (la0m, .inr (4, [.int (nI la0zn_15), .int (nI la0zr_16), .ref la0x, .ref la0y])), (la0x, .inl (E.2.1 1, 24, .inl la0zgx_20)), (la0y, .inl (E.2.1 1, 96, .inl la0zgy_21)), (la1, .inr (3, [.ref la1m, .int la1zp_22, .int la1zw_23, .ref la1c, .ref la1f, .ref la1q])), (la1c, .inl (E.2.1 1, 24, .inl la1zfc_26)), (la1f, .inl (E.2.1 1, 24, .inl la1zff_27)), (la1q, .inl (E.2.1 1, 4, .inl la1zfq_28)), (la1m, .inr (4, [.int (nI la1zn_24), .int (nI la1zr_25), .ref la1x, .ref la1y])), (la1x, .inl (E.2.1 1, 24, .inl la1zgx_29)), (la1y, .inl (E.2.1 1, 96, .inl la1zgy_30)), (jt, .inl (E.2.1 7, 8, .inr (.inr (.inr (.inr fto))))), (rx, .inl (E.2.1 1, 24, .inl tf1)), (ry, .inl (E.2.1 1, 96, .inl tg1)), (rt, .inr (4, [.int (nI tn1), .int (nI tr1), .ref rx, .ref ry]))]) ?_ rfl rfl rfl
                      refine ww_icmp_eq (tgt := 136) C dX7_go_129 (by decide) (fun c_43 => ?_) (fun c_43 => ?_)
                      · have zc_43 : st2_10.toInt = r_40.toInt := i_eq rfl rfl c_43
                        refine ww_iconst (v := 0) C dX7_go_136 rfl ?_
                        refine ww_istore (lv' := [(5, .int 0), (6, .int (nI k2)), (0, .ref rd), (1, .ref h), (2, .ref qj), (3, .int gr), (4, .int sg)]) C dX7_go_137 rfl rfl ?_
                        refine ww_aload_n C dX7_go_139 2 rfl rfl ?_
                        refine ww_get C fg_X7_12 4 rfl rfl dX7_go_140 ?_
                        refine ww_aload_n C dX7_go_143 2 rfl rfl ?_
                        refine ww_get C fg_X7_26 4 rfl rfl dX7_go_144 ?_
                        refine ww_cv (wr := [(rf, .inl (E.2.1 1, 4, .inl frf2)), (h, .inr (4, [.int (nI n), .int (nI r), .ref a, .ref b])), (a, .inl (E.2.1 1, 24, .inl f)), (b, .inl (E.2.1 1, 96, .inl gg)), (rd, .inr (7, [.ref rt, .ref rf, .int (nI g1), .int st2_10, .int kn2_11])), (qj, .inr (2, [.ref jt, .ref je, .ref ju, .ref ja])), (ju, .inl (E.2.1 1, 32, .inl ft2_12)), (ja, .inl (E.2.1 5, 2, .inr (.inr (.inr (.inr fa))))), (la0, .inr (3, [.ref la0m, .int la0zp_13, .int la0zw_14, .ref la0c, .ref la0f, .ref la0q])), (la0c, .inl (E.2.1 1, 24, .inl la0zfc_17)), (la0f, .inl (E.2.1 1, 24, .inl la0zff_18)), (la0q, .inl (E.2.1 1, 4, .inl la0zfq_19)), (la0m, .inr (4, [.int (nI la0zn_15), .int (nI la0zr_16), .ref la0x, .ref la0y])), (la0x, .inl (E.2.1 1, 24, .inl la0zgx_20)), (la0y, .inl (E.2.1 1, 96, .inl la0zgy_21)), (la1, .inr (3, [.ref la1m, .int la1zp_22, .int la1zw_23, .ref la1c, .ref la1f, .ref la1q])), (la1c, .inl (E.2.1 1, 24, .inl la1zfc_26)), (la1f, .inl (E.2.1 1, 24, .inl la1zff_27)), (la1q, .inl (E.2.1 1, 4, .inl la1zfq_28)), (la1m, .inr (4, [.int (nI la1zn_24), .int (nI la1zr_25), .ref la1x, .ref la1y])), (la1x, .inl (E.2.1 1, 24, .inl la1zgx_29)), (la1y, .inl (E.2.1 1, 96, .inl la1zgy_30)), (jt, .inl (E.2.1 7, 8, .inr (.inr (.inr (.inr fto)))))]) (k' := 0) (n' := 0) C (run_V (As := [.int st2_10]) (rest := []) C (m_cut X.2.1 E ro rt st2_10 tn1 tr1 rx ry tf1 tg1 (by omega) (by omega) (by rw [ham]; exact goS_wf hwfm g1)) mi_X4_cut wl_X7_65 rfl 0 4 rfl rfl rfl rfl rfl dX7_go_147) (roK hro) [25, 23, 24] [0, 1, 2, 3, 4, 5, 6, 7, 8, 9, 10, 11, 12, 13, 14, 15, 16, 17, 18, 19, 20, 21, 22] rfl (gqk (by eq_refl)) (plk (by decide +kernel)) rfl (fun uz hw => ?_)
                        refine ex4 hw ?_
                        clear hw
                        intro n2_45 r2_46 f2_47 g2_48 hw
                        refine an3 hw ?_
                        clear hw
                        intro he_52 h_49 h_50 hw
                        have h_51 := hw
                        clear hw
                        subst he_52
                        refine ww_eq (ws' := [(rf, .inl (E.2.1 1, 4, .inl frf2)), (h, .inr (4, [.int (nI n), .int (nI r), .ref a, .ref b])), (a, .inl (E.2.1 1, 24, .inl f)), (b, .inl (E.2.1 1, 96, .inl gg)), (rd, .inr (7, [.ref rt, .ref rf, .int (nI g1), .int st2_10, .int kn2_11])), (qj, .inr (2, [.ref jt, .ref je, .ref ju, .ref ja])), (ju, .inl (E.2.1 1, 32, .inl ft2_12)), (ja, .inl (E.2.1 5, 2, .inr (.inr (.inr (.inr fa))))), (la0, .inr (3, [.ref la0m, .int la0zp_13, .int la0zw_14, .ref la0c, .ref la0f, .ref la0q])), (la0c, .inl (E.2.1 1, 24, .inl la0zfc_17)), (la0f, .inl (E.2.1 1, 24, .inl la0zff_18)), (la0q, .inl (E.2.1 1, 4, .inl la0zfq_19)), (la0m, .inr (4, [.int (nI la0zn_15), .int (nI la0zr_16), .ref la0x, .ref la0y])), (la0x, .inl (E.2.1 1, 24, .inl la0zgx_20)), (la0y, .inl (E.2.1 1, 96, .inl la0zgy_21)), (la1, .inr (3, [.ref la1m, .int la1zp_22, .int la1zw_23, .ref la1c, .ref la1f, .ref la1q])), (la1c, .inl (E.2.1 1, 24, .inl la1zfc_26)), (la1f, .inl (E.2.1 1, 24, .inl la1zff_27)), (la1q, .inl (E.2.1 1, 4, .inl la1zfq_28)), (la1m, .inr (4, [.int (nI la1zn_24), .int (nI la1zr_25), .ref la1x, .ref la1y])), (la1x, .inl (E.2.1 1, 24, .inl la1zgx_29)), (la1y, .inl (E.2.1 1, 96, .inl la1zgy_30)), (jt, .inl (E.2.1 7, 8, .inr (.inr (.inr (.inr fto))))), (rt, .inr (4, [.int (nI n2_45), .int (nI r2_46), .ref rx, .ref ry])), (rx, .inl (E.2.1 1, 24, .inl f2_47)), (ry, .inl (E.2.1 1, 96, .inl g2_48))]) ?_ rfl rfl rfl
                        refine ww_aload_n C dX7_go_150 2 rfl rfl ?_
                        refine ww_dup C dX7_go_151 rfl ?_
                        refine ww_get C fg_X7_58 4 rfl rfl dX7_go_152 ?_
                        refine ww_iconst (v := 1) C dX7_go_155 rfl ?_
                        refine ww_iadd (v := (nI (g1 + 1))) C dX7_go_156 (nI_add g1 1) ?_
                        refine ww_put (ws' := [(rf, .inl (E.2.1 1, 4, .inl frf2)), (h, .inr (4, [.int (nI n), .int (nI r), .ref a, .ref b])), (a, .inl (E.2.1 1, 24, .inl f)), (b, .inl (E.2.1 1, 96, .inl gg)), (rd, .inr (7, [.ref rt, .ref rf, .int (nI (g1 + 1)), .int st2_10, .int kn2_11])), (qj, .inr (2, [.ref jt, .ref je, .ref ju, .ref ja])), (ju, .inl (E.2.1 1, 32, .inl ft2_12)), (ja, .inl (E.2.1 5, 2, .inr (.inr (.inr (.inr fa))))), (la0, .inr (3, [.ref la0m, .int la0zp_13, .int la0zw_14, .ref la0c, .ref la0f, .ref la0q])), (la0c, .inl (E.2.1 1, 24, .inl la0zfc_17)), (la0f, .inl (E.2.1 1, 24, .inl la0zff_18)), (la0q, .inl (E.2.1 1, 4, .inl la0zfq_19)), (la0m, .inr (4, [.int (nI la0zn_15), .int (nI la0zr_16), .ref la0x, .ref la0y])), (la0x, .inl (E.2.1 1, 24, .inl la0zgx_20)), (la0y, .inl (E.2.1 1, 96, .inl la0zgy_21)), (la1, .inr (3, [.ref la1m, .int la1zp_22, .int la1zw_23, .ref la1c, .ref la1f, .ref la1q])), (la1c, .inl (E.2.1 1, 24, .inl la1zfc_26)), (la1f, .inl (E.2.1 1, 24, .inl la1zff_27)), (la1q, .inl (E.2.1 1, 4, .inl la1zfq_28)), (la1m, .inr (4, [.int (nI la1zn_24), .int (nI la1zr_25), .ref la1x, .ref la1y])), (la1x, .inl (E.2.1 1, 24, .inl la1zgx_29)), (la1y, .inl (E.2.1 1, 96, .inl la1zgy_30)), (jt, .inl (E.2.1 7, 8, .inr (.inr (.inr (.inr fto))))), (rt, .inr (4, [.int (nI n2_45), .int (nI r2_46), .ref rx, .ref ry])), (rx, .inl (E.2.1 1, 24, .inl f2_47)), (ry, .inl (E.2.1 1, 96, .inl g2_48))]) C fp_X7_58 4 rfl rfl rfl rfl rfl dX7_go_157 ?_
                        refine ww_goto (tgt := 40) C dX7_go_160 (by decide) ?_
                        exact ww_lv [0, 2, 3, 4, 5, 6] rfl (ww_sub [4, 0, 5, 6, 7, 8, 9, 10, 11, 12, 13, 14, 15, 16, 17, 18, 19, 20, 21, 22, 23, 24, 25, 1, 2, 3] (ndk (by decide +kernel)) (gqk (by eq_refl)) (ih_40 (g1 + 1) 0 st2_10 kn2_11 frf2 n2_45 r2_46 f2_47 g2_48 ft2_12 la0zp_13 la0zw_14 la0zn_15 la0zr_16 la0zfc_17 la0zff_18 la0zfq_19 la0zgx_20 la0zgy_21 la1zp_22 la1zw_23 la1zn_24 la1zr_25 la1zfc_26 la1zff_27 la1zfq_28 la1zgx_29 la1zgy_30 (by have h9 := (hm1 (by omega)).2; omega) (by omega) (go_n24 htn1 h_49) (go_in htr1 h_49 h_50 (h_31 htr1)) (go_cut htn1 htr1 ham h_32 h_51) (fun h9 => absurd h9 (by decide)) (fun _ => ⟨by omega, by rw [show g1 + 1 - 1 = g1 by omega]; exact ⟨(hm1 (by omega)).1, go_rest ham h_32 (all_bs (r := tr1) (f := tf1) (g := tg1) h_41) (Int32.toInt_inj.mp zc_43)⟩⟩) (go_f4 hf2 (by omega)) (fun _ => by rw [show g1 + 1 - 1 = g1 by omega, ← ham]; exact h_33) (by omega) (by omega) (by omega) (by omega) (by omega)))
                      · have zc_43 : st2_10.toInt ≠ r_40.toInt := i_ne rfl rfl c_43
                        refine ww_iconst (v := 1) C dX7_go_132 rfl ?_
                        refine ww_goto (tgt := 137) C dX7_go_133 (by decide) ?_
                        refine ww_istore (lv' := [(5, .int 1), (6, .int (nI k2)), (0, .ref rd), (1, .ref h), (2, .ref qj), (3, .int gr), (4, .int sg)]) C dX7_go_137 rfl rfl ?_
                        refine ww_aload_n C dX7_go_139 2 rfl rfl ?_
                        refine ww_get C fg_X7_12 4 rfl rfl dX7_go_140 ?_
                        refine ww_aload_n C dX7_go_143 2 rfl rfl ?_
                        refine ww_get C fg_X7_26 4 rfl rfl dX7_go_144 ?_
                        refine ww_cv (wr := [(rf, .inl (E.2.1 1, 4, .inl frf2)), (h, .inr (4, [.int (nI n), .int (nI r), .ref a, .ref b])), (a, .inl (E.2.1 1, 24, .inl f)), (b, .inl (E.2.1 1, 96, .inl gg)), (rd, .inr (7, [.ref rt, .ref rf, .int (nI g1), .int st2_10, .int kn2_11])), (qj, .inr (2, [.ref jt, .ref je, .ref ju, .ref ja])), (ju, .inl (E.2.1 1, 32, .inl ft2_12)), (ja, .inl (E.2.1 5, 2, .inr (.inr (.inr (.inr fa))))), (la0, .inr (3, [.ref la0m, .int la0zp_13, .int la0zw_14, .ref la0c, .ref la0f, .ref la0q])), (la0c, .inl (E.2.1 1, 24, .inl la0zfc_17)), (la0f, .inl (E.2.1 1, 24, .inl la0zff_18)), (la0q, .inl (E.2.1 1, 4, .inl la0zfq_19)), (la0m, .inr (4, [.int (nI la0zn_15), .int (nI la0zr_16), .ref la0x, .ref la0y])), (la0x, .inl (E.2.1 1, 24, .inl la0zgx_20)), (la0y, .inl (E.2.1 1, 96, .inl la0zgy_21)), (la1, .inr (3, [.ref la1m, .int la1zp_22, .int la1zw_23, .ref la1c, .ref la1f, .ref la1q])), (la1c, .inl (E.2.1 1, 24, .inl la1zfc_26)), (la1f, .inl (E.2.1 1, 24, .inl la1zff_27)), (la1q, .inl (E.2.1 1, 4, .inl la1zfq_28)), (la1m, .inr (4, [.int (nI la1zn_24), .int (nI la1zr_25), .ref la1x, .ref la1y])), (la1x, .inl (E.2.1 1, 24, .inl la1zgx_29)), (la1y, .inl (E.2.1 1, 96, .inl la1zgy_30)), (jt, .inl (E.2.1 7, 8, .inr (.inr (.inr (.inr fto)))))]) (k' := 0) (n' := 0) C (run_V (As := [.int st2_10]) (rest := []) C (m_cut X.2.1 E ro rt st2_10 tn1 tr1 rx ry tf1 tg1 (by omega) (by omega) (by rw [ham]; exact goS_wf hwfm g1)) mi_X4_cut wl_X7_65 rfl 0 4 rfl rfl rfl rfl rfl dX7_go_147) (roK hro) [25, 23, 24] [0, 1, 2, 3, 4, 5, 6, 7, 8, 9, 10, 11, 12, 13, 14, 15, 16, 17, 18, 19, 20, 21, 22] rfl (gqk (by eq_refl)) (plk (by decide +kernel)) rfl (fun uz hw => ?_)
                        refine ex4 hw ?_
                        clear hw
                        intro n2_54 r2_55 f2_56 g2_57 hw
                        refine an3 hw ?_
                        clear hw
                        intro he_61 h_58 h_59 hw
                        have h_60 := hw
                        clear hw
                        subst he_61
                        refine ww_eq (ws' := [(rf, .inl (E.2.1 1, 4, .inl frf2)), (h, .inr (4, [.int (nI n), .int (nI r), .ref a, .ref b])), (a, .inl (E.2.1 1, 24, .inl f)), (b, .inl (E.2.1 1, 96, .inl gg)), (rd, .inr (7, [.ref rt, .ref rf, .int (nI g1), .int st2_10, .int kn2_11])), (qj, .inr (2, [.ref jt, .ref je, .ref ju, .ref ja])), (ju, .inl (E.2.1 1, 32, .inl ft2_12)), (ja, .inl (E.2.1 5, 2, .inr (.inr (.inr (.inr fa))))), (la0, .inr (3, [.ref la0m, .int la0zp_13, .int la0zw_14, .ref la0c, .ref la0f, .ref la0q])), (la0c, .inl (E.2.1 1, 24, .inl la0zfc_17)), (la0f, .inl (E.2.1 1, 24, .inl la0zff_18)), (la0q, .inl (E.2.1 1, 4, .inl la0zfq_19)), (la0m, .inr (4, [.int (nI la0zn_15), .int (nI la0zr_16), .ref la0x, .ref la0y])), (la0x, .inl (E.2.1 1, 24, .inl la0zgx_20)), (la0y, .inl (E.2.1 1, 96, .inl la0zgy_21)), (la1, .inr (3, [.ref la1m, .int la1zp_22, .int la1zw_23, .ref la1c, .ref la1f, .ref la1q])), (la1c, .inl (E.2.1 1, 24, .inl la1zfc_26)), (la1f, .inl (E.2.1 1, 24, .inl la1zff_27)), (la1q, .inl (E.2.1 1, 4, .inl la1zfq_28)), (la1m, .inr (4, [.int (nI la1zn_24), .int (nI la1zr_25), .ref la1x, .ref la1y])), (la1x, .inl (E.2.1 1, 24, .inl la1zgx_29)), (la1y, .inl (E.2.1 1, 96, .inl la1zgy_30)), (jt, .inl (E.2.1 7, 8, .inr (.inr (.inr (.inr fto))))), (rt, .inr (4, [.int (nI n2_54), .int (nI r2_55), .ref rx, .ref ry])), (rx, .inl (E.2.1 1, 24, .inl f2_56)), (ry, .inl (E.2.1 1, 96, .inl g2_57))]) ?_ rfl rfl rfl
                        refine ww_aload_n C dX7_go_150 2 rfl rfl ?_
                        refine ww_dup C dX7_go_151 rfl ?_
                        refine ww_get C fg_X7_58 4 rfl rfl dX7_go_152 ?_
                        refine ww_iconst (v := 1) C dX7_go_155 rfl ?_
                        refine ww_iadd (v := (nI (g1 + 1))) C dX7_go_156 (nI_add g1 1) ?_
                        refine ww_put (ws' := [(rf, .inl (E.2.1 1, 4, .inl frf2)), (h, .inr (4, [.int (nI n), .int (nI r), .ref a, .ref b])), (a, .inl (E.2.1 1, 24, .inl f)), (b, .inl (E.2.1 1, 96, .inl gg)), (rd, .inr (7, [.ref rt, .ref rf, .int (nI (g1 + 1)), .int st2_10, .int kn2_11])), (qj, .inr (2, [.ref jt, .ref je, .ref ju, .ref ja])), (ju, .inl (E.2.1 1, 32, .inl ft2_12)), (ja, .inl (E.2.1 5, 2, .inr (.inr (.inr (.inr fa))))), (la0, .inr (3, [.ref la0m, .int la0zp_13, .int la0zw_14, .ref la0c, .ref la0f, .ref la0q])), (la0c, .inl (E.2.1 1, 24, .inl la0zfc_17)), (la0f, .inl (E.2.1 1, 24, .inl la0zff_18)), (la0q, .inl (E.2.1 1, 4, .inl la0zfq_19)), (la0m, .inr (4, [.int (nI la0zn_15), .int (nI la0zr_16), .ref la0x, .ref la0y])), (la0x, .inl (E.2.1 1, 24, .inl la0zgx_20)), (la0y, .inl (E.2.1 1, 96, .inl la0zgy_21)), (la1, .inr (3, [.ref la1m, .int la1zp_22, .int la1zw_23, .ref la1c, .ref la1f, .ref la1q])), (la1c, .inl (E.2.1 1, 24, .inl la1zfc_26)), (la1f, .inl (E.2.1 1, 24, .inl la1zff_27)), (la1q, .inl (E.2.1 1, 4, .inl la1zfq_28)), (la1m, .inr (4, [.int (nI la1zn_24), .int (nI la1zr_25), .ref la1x, .ref la1y])), (la1x, .inl (E.2.1 1, 24, .inl la1zgx_29)), (la1y, .inl (E.2.1 1, 96, .inl la1zgy_30)), (jt, .inl (E.2.1 7, 8, .inr (.inr (.inr (.inr fto))))), (rt, .inr (4, [.int (nI n2_54), .int (nI r2_55), .ref rx, .ref ry])), (rx, .inl (E.2.1 1, 24, .inl f2_56)), (ry, .inl (E.2.1 1, 96, .inl g2_57))]) C fp_X7_58 4 rfl rfl rfl rfl rfl dX7_go_157 ?_
                        refine ww_goto (tgt := 40) C dX7_go_160 (by decide) ?_
                        exact ww_lv [0, 2, 3, 4, 5, 6] rfl (ww_sub [4, 0, 5, 6, 7, 8, 9, 10, 11, 12, 13, 14, 15, 16, 17, 18, 19, 20, 21, 22, 23, 24, 25, 1, 2, 3] (ndk (by decide +kernel)) (gqk (by eq_refl)) (ih_40 (g1 + 1) 1 st2_10 kn2_11 frf2 n2_54 r2_55 f2_56 g2_57 ft2_12 la0zp_13 la0zw_14 la0zn_15 la0zr_16 la0zfc_17 la0zff_18 la0zfq_19 la0zgx_20 la0zgy_21 la1zp_22 la1zw_23 la1zn_24 la1zr_25 la1zfc_26 la1zff_27 la1zfq_28 la1zgx_29 la1zgy_30 (by have h9 := (hm1 (by omega)).2; omega) (by omega) (go_n24 htn1 h_58) (go_in htr1 h_58 h_59 (h_31 htr1)) (go_cut htn1 htr1 ham h_32 h_60) (fun _ => ⟨fun i hi => if hk : i = g1 then (by rw [hk]; exact go_more ham h_32 (all_bs (r := tr1) (f := tf1) (g := tg1) h_41) (fun h9 => zc_43 (congrArg Int32.toInt h9))) else (hm1 (by omega)).1 i (by omega), go_cnt (go_less htn1 h_32 (all_bs (r := tr1) (f := tf1) (g := tg1) h_41) (fun h9 => zc_43 (congrArg Int32.toInt h9))) h_58 (hm1 (by omega)).2⟩) (fun h9 => absurd h9 (by decide)) (go_f4 hf2 (by omega)) (fun _ => by rw [show g1 + 1 - 1 = g1 by omega, ← ham]; exact h_33) (by omega) (by omega) (by omega) (by omega) (by omega)))
                    · have zc_39 : ((k2 : Nat) : Int) < 4 := i_nle rfl (nI_toInt (n := k2) (by omega)) c_39
                      refine ww_aload_n C dX7_go_75 2 rfl rfl ?_
                      refine ww_get C fg_X7_18 4 rfl rfl dX7_go_76 ?_
                      refine ww_iload C dX7_go_79 0 rfl ?_
                      obtain ⟨x_62, ex_62⟩ : ∃ z : Int32, frf2 k2 = z := ⟨_, rfl⟩
                      refine ww_iald (v := x_62) C 0 rfl (vp_in_nI (by omega) (by omega)) (ldn (by omega) ex_62) dX7_go_81 ?_
                      refine ww_bipush (v := (-4)) C dX7_go_82 rfl ?_
                      refine ww_icmp_ne (tgt := 112) C dX7_go_84 (by decide) (fun c_63 => ?_) (fun c_63 => ?_)
                      · have zc_63 : x_62.toInt ≠ (-4) := i_ne rfl rfl c_63
                        refine ww_iinc (j := 0) (v := (nI (k2 + 1))) (lv' := [(6, .int (nI (k2 + 1))), (5, .int (nI mo)), (0, .ref rd), (1, .ref h), (2, .ref qj), (3, .int gr), (4, .int sg)]) C dX7_go_112 rfl (nI_add k2 1) rfl rfl ?_
                        refine ww_goto (tgt := 69) C dX7_go_115 (by decide) ?_
                        exact ww_lv [0, 1, 2, 3, 4, 5, 6] rfl (ww_sub [0, 1, 2, 3, 4, 5, 6, 7, 8, 9, 10, 11, 12, 13, 14, 15, 16, 17, 18, 19, 20, 21, 22, 23, 24, 25] (ndk (by decide +kernel)) (gqk (by eq_refl)) (ih_69 (k2 + 1) frf2 (by omega) (fs_o hf2 (by omega) ex_62 (fun h9 => zc_63 (congrArg Int32.toInt h9))) (by omega)))
                      · have zc_63 : x_62.toInt = (-4) := i_eq rfl rfl c_63
                        refine ww_aload_n C dX7_go_87 2 rfl rfl ?_
                        refine ww_get C fg_X7_30 4 rfl rfl dX7_go_88 ?_
                        refine ww_iload C dX7_go_91 0 rfl ?_
                        refine ww_ci (wr := [(rf, .inl (E.2.1 1, 4, .inl frf2)), (h, .inr (4, [.int (nI n), .int (nI r), .ref a, .ref b])), (a, .inl (E.2.1 1, 24, .inl f)), (b, .inl (E.2.1 1, 96, .inl gg)), (rd, .inr (7, [.ref rt, .ref rf, .int (nI g1), .int st2_10, .int kn2_11])), (qj, .inr (2, [.ref jt, .ref je, .ref ju, .ref ja])), (ju, .inl (E.2.1 1, 32, .inl ft2_12)), (ja, .inl (E.2.1 5, 2, .inr (.inr (.inr (.inr fa))))), (la0, .inr (3, [.ref la0m, .int la0zp_13, .int la0zw_14, .ref la0c, .ref la0f, .ref la0q])), (la0c, .inl (E.2.1 1, 24, .inl la0zfc_17)), (la0f, .inl (E.2.1 1, 24, .inl la0zff_18)), (la0q, .inl (E.2.1 1, 4, .inl la0zfq_19)), (la0m, .inr (4, [.int (nI la0zn_15), .int (nI la0zr_16), .ref la0x, .ref la0y])), (la0x, .inl (E.2.1 1, 24, .inl la0zgx_20)), (la0y, .inl (E.2.1 1, 96, .inl la0zgy_21)), (la1, .inr (3, [.ref la1m, .int la1zp_22, .int la1zw_23, .ref la1c, .ref la1f, .ref la1q])), (la1c, .inl (E.2.1 1, 24, .inl la1zfc_26)), (la1f, .inl (E.2.1 1, 24, .inl la1zff_27)), (la1q, .inl (E.2.1 1, 4, .inl la1zfq_28)), (la1m, .inr (4, [.int (nI la1zn_24), .int (nI la1zr_25), .ref la1x, .ref la1y])), (la1x, .inl (E.2.1 1, 24, .inl la1zgx_29)), (la1y, .inl (E.2.1 1, 96, .inl la1zgy_30)), (jt, .inl (E.2.1 7, 8, .inr (.inr (.inr (.inr fto))))), (rt, .inr (4, [.int (nI tn1), .int (nI tr1), .ref rx, .ref ry])), (rx, .inl (E.2.1 1, 24, .inl tf1)), (ry, .inl (E.2.1 1, 96, .inl tg1))]) (k' := 0) (n' := 0) C (run_SN (As := [.int kn2_11, .int (nI k2)]) (rest := []) C (c_hasN X.2.1 E ro kn2_11 k2 (by omega)) ms_X11_has (List.mem_of_getElem? (i := 19) rfl) rfl rfl rfl rfl dX7_go_93) (roK hro) [] [0, 1, 2, 3, 4, 5, 6, 7, 8, 9, 10, 11, 12, 13, 14, 15, 16, 17, 18, 19, 20, 21, 22, 23, 24, 25] rfl (gqk (by eq_refl)) (plk (by decide +kernel)) rfl (fun r_64 uz hw => ?_)
                        rcases hw with hw | hw
                        · refine an2 hw ?_
                          clear hw
                          intro he_66 he_67 hw
                          have h_65 := hw
                          clear hw
                          have he_66 := he_66.symm
                          subst he_66
                          subst he_67
                          refine ww_eq (ws' := [(rf, .inl (E.2.1 1, 4, .inl frf2)), (h, .inr (4, [.int (nI n), .int (nI r), .ref a, .ref b])), (a, .inl (E.2.1 1, 24, .inl f)), (b, .inl (E.2.1 1, 96, .inl gg)), (rd, .inr (7, [.ref rt, .ref rf, .int (nI g1), .int st2_10, .int kn2_11])), (qj, .inr (2, [.ref jt, .ref je, .ref ju, .ref ja])), (ju, .inl (E.2.1 1, 32, .inl ft2_12)), (ja, .inl (E.2.1 5, 2, .inr (.inr (.inr (.inr fa))))), (la0, .inr (3, [.ref la0m, .int la0zp_13, .int la0zw_14, .ref la0c, .ref la0f, .ref la0q])), (la0c, .inl (E.2.1 1, 24, .inl la0zfc_17)), (la0f, .inl (E.2.1 1, 24, .inl la0zff_18)), (la0q, .inl (E.2.1 1, 4, .inl la0zfq_19)), (la0m, .inr (4, [.int (nI la0zn_15), .int (nI la0zr_16), .ref la0x, .ref la0y])), (la0x, .inl (E.2.1 1, 24, .inl la0zgx_20)), (la0y, .inl (E.2.1 1, 96, .inl la0zgy_21)), (la1, .inr (3, [.ref la1m, .int la1zp_22, .int la1zw_23, .ref la1c, .ref la1f, .ref la1q])), (la1c, .inl (E.2.1 1, 24, .inl la1zfc_26)), (la1f, .inl (E.2.1 1, 24, .inl la1zff_27)), (la1q, .inl (E.2.1 1, 4, .inl la1zfq_28)), (la1m, .inr (4, [.int (nI la1zn_24), .int (nI la1zr_25), .ref la1x, .ref la1y])), (la1x, .inl (E.2.1 1, 24, .inl la1zgx_29)), (la1y, .inl (E.2.1 1, 96, .inl la1zgy_30)), (jt, .inl (E.2.1 7, 8, .inr (.inr (.inr (.inr fto))))), (rt, .inr (4, [.int (nI tn1), .int (nI tr1), .ref rx, .ref ry])), (rx, .inl (E.2.1 1, 24, .inl tf1)), (ry, .inl (E.2.1 1, 96, .inl tg1))]) ?_ rfl rfl rfl
                          refine ww_if_eq_f (tgt := 112) C dX7_go_96 (by decide) (by decide) ?_
                          refine ww_aload_n C dX7_go_99 2 rfl rfl ?_
                          refine ww_get C fg_X7_18 4 rfl rfl dX7_go_100 ?_
                          refine ww_iload C dX7_go_103 0 rfl ?_
                          refine ww_aload_n C dX7_go_105 2 rfl rfl ?_
                          refine ww_get C fg_X7_58 4 rfl rfl dX7_go_106 ?_
                          refine ww_iconst (v := 1) C dX7_go_109 rfl ?_
                          refine ww_iadd (v := (nI (g1 + 1))) C dX7_go_110 (nI_add g1 1) ?_
                          obtain ⟨f_71, ef_71⟩ : ∃ z : Nat → Int32, upd frf2 k2 (nI (g1 + 1)) = z := ⟨_, rfl⟩
                          refine ww_iast (ws' := [(rf, .inl (E.2.1 1, 4, .inl f_71)), (h, .inr (4, [.int (nI n), .int (nI r), .ref a, .ref b])), (a, .inl (E.2.1 1, 24, .inl f)), (b, .inl (E.2.1 1, 96, .inl gg)), (rd, .inr (7, [.ref rt, .ref rf, .int (nI g1), .int st2_10, .int kn2_11])), (qj, .inr (2, [.ref jt, .ref je, .ref ju, .ref ja])), (ju, .inl (E.2.1 1, 32, .inl ft2_12)), (ja, .inl (E.2.1 5, 2, .inr (.inr (.inr (.inr fa))))), (la0, .inr (3, [.ref la0m, .int la0zp_13, .int la0zw_14, .ref la0c, .ref la0f, .ref la0q])), (la0c, .inl (E.2.1 1, 24, .inl la0zfc_17)), (la0f, .inl (E.2.1 1, 24, .inl la0zff_18)), (la0q, .inl (E.2.1 1, 4, .inl la0zfq_19)), (la0m, .inr (4, [.int (nI la0zn_15), .int (nI la0zr_16), .ref la0x, .ref la0y])), (la0x, .inl (E.2.1 1, 24, .inl la0zgx_20)), (la0y, .inl (E.2.1 1, 96, .inl la0zgy_21)), (la1, .inr (3, [.ref la1m, .int la1zp_22, .int la1zw_23, .ref la1c, .ref la1f, .ref la1q])), (la1c, .inl (E.2.1 1, 24, .inl la1zfc_26)), (la1f, .inl (E.2.1 1, 24, .inl la1zff_27)), (la1q, .inl (E.2.1 1, 4, .inl la1zfq_28)), (la1m, .inr (4, [.int (nI la1zn_24), .int (nI la1zr_25), .ref la1x, .ref la1y])), (la1x, .inl (E.2.1 1, 24, .inl la1zgx_29)), (la1y, .inl (E.2.1 1, 96, .inl la1zgy_30)), (jt, .inl (E.2.1 7, 8, .inr (.inr (.inr (.inr fto))))), (rt, .inr (4, [.int (nI tn1), .int (nI tr1), .ref rx, .ref ry])), (rx, .inl (E.2.1 1, 24, .inl tf1)), (ry, .inl (E.2.1 1, 96, .inl tg1))]) C 0 rfl (vp_in_nI (by omega) (by omega)) (ldn2 (by omega) ef_71) rfl dX7_go_111 ?_
                          refine ww_iinc (j := 0) (v := (nI (k2 + 1))) (lv' := [(6, .int (nI (k2 + 1))), (5, .int (nI mo)), (0, .ref rd), (1, .ref h), (2, .ref qj), (3, .int gr), (4, .int sg)]) C dX7_go_112 rfl (nI_add k2 1) rfl rfl ?_
                          refine ww_goto (tgt := 69) C dX7_go_115 (by decide) ?_
                          exact ww_lv [0, 1, 2, 3, 4, 5, 6] rfl (ww_sub [0, 1, 2, 3, 4, 5, 6, 7, 8, 9, 10, 11, 12, 13, 14, 15, 16, 17, 18, 19, 20, 21, 22, 23, 24, 25] (ndk (by decide +kernel)) (gqk (by eq_refl)) (ih_69 (k2 + 1) f_71 (by omega) (fs_y hf2 (by omega) ex_62 (Int32.toInt_inj.mp zc_63) (BS.t (show BS _ (knS (goS (am n r f gg) (ev6 vc vr vi vs vn vp) tT gr sg g1) (ev6 vc vr vi vs vn vp) tT gr sg 4) from ham ▸ h_33) (by omega) h_65) rfl ef_71) (by omega)))
                        · refine an2 hw ?_
                          clear hw
                          intro he_69 he_70 hw
                          have h_68 := hw
                          clear hw
                          have he_69 := he_69.symm
                          subst he_69
                          subst he_70
                          refine ww_eq (ws' := [(rf, .inl (E.2.1 1, 4, .inl frf2)), (h, .inr (4, [.int (nI n), .int (nI r), .ref a, .ref b])), (a, .inl (E.2.1 1, 24, .inl f)), (b, .inl (E.2.1 1, 96, .inl gg)), (rd, .inr (7, [.ref rt, .ref rf, .int (nI g1), .int st2_10, .int kn2_11])), (qj, .inr (2, [.ref jt, .ref je, .ref ju, .ref ja])), (ju, .inl (E.2.1 1, 32, .inl ft2_12)), (ja, .inl (E.2.1 5, 2, .inr (.inr (.inr (.inr fa))))), (la0, .inr (3, [.ref la0m, .int la0zp_13, .int la0zw_14, .ref la0c, .ref la0f, .ref la0q])), (la0c, .inl (E.2.1 1, 24, .inl la0zfc_17)), (la0f, .inl (E.2.1 1, 24, .inl la0zff_18)), (la0q, .inl (E.2.1 1, 4, .inl la0zfq_19)), (la0m, .inr (4, [.int (nI la0zn_15), .int (nI la0zr_16), .ref la0x, .ref la0y])), (la0x, .inl (E.2.1 1, 24, .inl la0zgx_20)), (la0y, .inl (E.2.1 1, 96, .inl la0zgy_21)), (la1, .inr (3, [.ref la1m, .int la1zp_22, .int la1zw_23, .ref la1c, .ref la1f, .ref la1q])), (la1c, .inl (E.2.1 1, 24, .inl la1zfc_26)), (la1f, .inl (E.2.1 1, 24, .inl la1zff_27)), (la1q, .inl (E.2.1 1, 4, .inl la1zfq_28)), (la1m, .inr (4, [.int (nI la1zn_24), .int (nI la1zr_25), .ref la1x, .ref la1y])), (la1x, .inl (E.2.1 1, 24, .inl la1zgx_29)), (la1y, .inl (E.2.1 1, 96, .inl la1zgy_30)), (jt, .inl (E.2.1 7, 8, .inr (.inr (.inr (.inr fto))))), (rt, .inr (4, [.int (nI tn1), .int (nI tr1), .ref rx, .ref ry])), (rx, .inl (E.2.1 1, 24, .inl tf1)), (ry, .inl (E.2.1 1, 96, .inl tg1))]) ?_ rfl rfl rfl
                          refine ww_if_eq_t (tgt := 112) C dX7_go_96 (by decide) (rfl) ?_
                          refine ww_iinc (j := 0) (v := (nI (k2 + 1))) (lv' := [(6, .int (nI (k2 + 1))), (5, .int (nI mo)), (0, .ref rd), (1, .ref h), (2, .ref qj), (3, .int gr), (4, .int sg)]) C dX7_go_112 rfl (nI_add k2 1) rfl rfl ?_
                          refine ww_goto (tgt := 69) C dX7_go_115 (by decide) ?_
                          exact ww_lv [0, 1, 2, 3, 4, 5, 6] rfl (ww_sub [0, 1, 2, 3, 4, 5, 6, 7, 8, 9, 10, 11, 12, 13, 14, 15, 16, 17, 18, 19, 20, 21, 22, 23, 24, 25] (ndk (by decide +kernel)) (gqk (by eq_refl)) (ih_69 (k2 + 1) frf2 (by omega) (fs_n hf2 (by omega) (BS.f (show BS _ (knS (goS (am n r f gg) (ev6 vc vr vi vs vn vp) tT gr sg g1) (ev6 vc vr vi vs vn vp) tT gr sg 4) from ham ▸ h_33) (by omega) h_68)) (by omega)))
                exact ww_lv [0, 1, 2, 3, 4, 5, 6] rfl (ww_sub [0, 1, 2, 3, 4, 5, 6, 7, 8, 9, 10, 11, 12, 13, 14, 15, 16, 17, 18, 19, 20, 21, 22, 23, 24, 25] (ndk (by decide +kernel)) (gqk (by eq_refl)) (loop_69 _ 0 frf1 (by omega) (fun k hk => by rw [if_neg (by omega)]; exact hfs k hk) (Nat.lt_succ_self _)))
        exact ww_lv [0, 1, 2, 3, 4, 5] rfl (ww_sub [0, 1, 2, 3, 4, 5, 6, 7, 8, 9, 10, 11, 12, 13, 14, 15, 16, 17, 18, 19, 20, 21, 22, 23, 24, 25] (ndk (by decide +kernel)) (gqk (by eq_refl)) (loop_40 _ 0 1 st0 kn0 frf0 n r f3_2 g3_3 ft la0p la0w la0n la0r la0fc la0ff la0fq la0gx la0gy la1p la1w la1n la1r la1fc la1ff la1fq la1gx la1gy (by omega) (by omega) (by omega) hrn h_4 (fun _ => ⟨fun i hi => absurd hi (Nat.not_lt_zero _), by omega⟩) (fun h9 => absurd h9 (by decide)) (fun k hk => hf0 k (by omega)) (fun h9 => absurd h9 (by decide)) (by omega) (by omega) (by omega) (by omega) (Nat.lt_succ_self _)))
      · have zc_6 : ((k0 : Nat) : Int) < 4 := i_nle rfl (nI_toInt (n := k0) (by omega)) c_6
        refine ww_aload_n C dX7_go_17 1 rfl rfl ?_
        refine ww_get C fg_X7_18 0 rfl rfl dX7_go_18 ?_
        refine ww_iload C dX7_go_21 0 rfl ?_
        refine ww_bipush (v := (-4)) C dX7_go_23 rfl ?_
        obtain ⟨f_72, ef_72⟩ : ∃ z : Nat → Int32, upd frf0 k0 (-4) = z := ⟨_, rfl⟩
        refine ww_iast (ws' := [(rd, .inr (7, [.ref rt, .ref rf, .int go0, .int st0, .int kn0])), (rf, .inl (E.2.1 1, 4, .inl f_72)), (qj, .inr (2, [.ref jt, .ref je, .ref ju, .ref ja])), (ju, .inl (E.2.1 1, 32, .inl ft)), (ja, .inl (E.2.1 5, 2, .inr (.inr (.inr (.inr fa))))), (la0, .inr (3, [.ref la0m, .int la0p, .int la0w, .ref la0c, .ref la0f, .ref la0q])), (la0c, .inl (E.2.1 1, 24, .inl la0fc)), (la0f, .inl (E.2.1 1, 24, .inl la0ff)), (la0q, .inl (E.2.1 1, 4, .inl la0fq)), (la0m, .inr (4, [.int (nI la0n), .int (nI la0r), .ref la0x, .ref la0y])), (la0x, .inl (E.2.1 1, 24, .inl la0gx)), (la0y, .inl (E.2.1 1, 96, .inl la0gy)), (la1, .inr (3, [.ref la1m, .int la1p, .int la1w, .ref la1c, .ref la1f, .ref la1q])), (la1c, .inl (E.2.1 1, 24, .inl la1fc)), (la1f, .inl (E.2.1 1, 24, .inl la1ff)), (la1q, .inl (E.2.1 1, 4, .inl la1fq)), (la1m, .inr (4, [.int (nI la1n), .int (nI la1r), .ref la1x, .ref la1y])), (la1x, .inl (E.2.1 1, 24, .inl la1gx)), (la1y, .inl (E.2.1 1, 96, .inl la1gy)), (jt, .inl (E.2.1 7, 8, .inr (.inr (.inr (.inr fto))))), (rt, .inr (4, [.int (nI n), .int (nI r), .ref rx, .ref ry])), (rx, .inl (E.2.1 1, 24, .inl f3_2)), (ry, .inl (E.2.1 1, 96, .inl g3_3)), (h, .inr (4, [.int (nI n), .int (nI r), .ref a, .ref b])), (a, .inl (E.2.1 1, 24, .inl f)), (b, .inl (E.2.1 1, 96, .inl gg))]) C 1 rfl (vp_in_nI (by omega) (by omega)) (ldn2 (by omega) ef_72) rfl dX7_go_25 ?_
        refine ww_iinc (j := 0) (v := (nI (k0 + 1))) (lv' := [(5, .int (nI (k0 + 1))), (0, .ref rd), (1, .ref h), (2, .ref qj), (3, .int gr), (4, .int sg)]) C dX7_go_26 rfl (nI_add k0 1) rfl rfl ?_
        refine ww_goto (tgt := 11) C dX7_go_29 (by decide) ?_
        exact ww_lv [0, 1, 2, 3, 4, 5] rfl (ww_sub [0, 1, 2, 3, 4, 5, 6, 7, 8, 9, 10, 11, 12, 13, 14, 15, 16, 17, 18, 19, 20, 21, 22, 23, 24, 25] (ndk (by decide +kernel)) (gqk (by eq_refl)) (ih_11 (k0 + 1) f_72 (by omega) (fun k hk => by rw [← ef_72]; by_cases q : k = k0; rw [q, pk_us]; rw [pk_un q]; exact hf0 k (by omega)) (by omega)))
  exact ww_lv [0, 1, 2, 3, 4, 5] rfl (ww_sub [0, 1, 2, 3, 4, 5, 6, 7, 8, 9, 10, 11, 12, 13, 14, 15, 16, 17, 18, 19, 20, 21, 22, 23, 24, 25] (ndk (by decide +kernel)) (gqk (by eq_refl)) (loop_11 _ 0 frf (by omega) (fun k h => absurd h (Nat.not_lt_zero _)) (Nat.lt_succ_self _)))
end
section
/-! ===== the text: bytes, tokens, names, what is read ===== -/
/-- a byte as a number; those that are no sign are all alike -/
def nz (x : Int32) : Int := if 0 ≤ x.toInt ∧ x.toInt ≤ 127 then x.toInt else 200
/-- the text, -4 behind its end -/
def cz (f : Nat → Int32) (t : Nat) : Nat → Int := fun k => if k < t then nz (f k) else -4
theorem nz_in {x : Int32} {lo hi : Int} (h0 : 0 ≤ lo) (h1 : hi ≤ 127) : (lo ≤ nz x ∧ nz x ≤ hi) ↔ (lo ≤ x.toInt ∧ x.toInt ≤ hi) := by
  unfold nz; split <;> omega
theorem nz_nn (x : Int32) : 0 ≤ nz x := by unfold nz; split <;> omega
theorem cz_0 {f : Nat → Int32} {t k : Nat} (h : t ≤ k) : cz f t k = -4 := by unfold cz; rw [if_neg (by omega)]
theorem cz_1 {f : Nat → Int32} {t k : Nat} (h : k < t) : cz f t k = nz (f k) := by unfold cz; rw [if_pos h]
theorem cz_in {f : Nat → Int32} {t k : Nat} {lo hi : Int} (h : k < t) (h0 : 0 ≤ lo) (h1 : hi ≤ 127) : (lo ≤ cz f t k ∧ cz f t k ≤ hi) ↔ (lo ≤ (f k).toInt ∧ (f k).toInt ≤ hi) := by
  rw [cz_1 h]; exact nz_in h0 h1
theorem cz_lt {f : Nat → Int32} {t k : Nat} (h : 0 ≤ cz f t k) : k < t := by
  apply Classical.byContradiction
  intro hk
  rw [cz_0 (by omega)] at h
  omega
theorem cz_nn {f : Nat → Int32} {t k : Nat} (h : k < t) : 0 ≤ cz f t k := by rw [cz_1 h]; exact nz_nn _
def rn (c : Nat → Int) (lo hi : Int) : Nat → Nat → Nat
  | 0, i => i
  | f + 1, i => if lo ≤ c i ∧ c i ≤ hi then rn c lo hi f (i + 1) else i
/-- behind the bytes from i on that lie between lo and hi -/
def bh (c : Nat → Int) (lo hi : Int) (i : Nat) : Nat := rn c lo hi 161 i
theorem rn_u {c : Nat → Int} {lo hi : Int} : ∀ (f i j : Nat), i ≤ j → j < i + f → (∀ k, i ≤ k → k < j → lo ≤ c k ∧ c k ≤ hi) → ¬ (lo ≤ c j ∧ c j ≤ hi) → rn c lo hi f i = j
  | 0, i, j, h1, h2, _, _ => absurd h2 (by omega)
  | f + 1, i, j, h1, h2, h3, h4 => by
    unfold rn
    by_cases q : i = j
    · subst q; rw [if_neg h4]
    · rw [if_pos (h3 i (Nat.le_refl _) (by omega))]
      exact rn_u f (i + 1) j (by omega) (by omega) (fun k a b => h3 k (by omega) b) h4
theorem bh_u {c : Nat → Int} {lo hi : Int} {i j : Nat} (h1 : i ≤ j) (h2 : j ≤ 160) (h3 : ∀ k, i ≤ k → k < j → lo ≤ c k ∧ c k ≤ hi) (h4 : ¬ (lo ≤ c j ∧ c j ≤ hi)) : bh c lo hi i = j := rn_u 161 i j h1 (by omega) h3 h4
theorem rn_in {c : Nat → Int} {lo hi : Int} : ∀ (f i k : Nat), i ≤ k → k < rn c lo hi f i → lo ≤ c k ∧ c k ≤ hi
  | 0, i, k, h1, h2 => by unfold rn at h2; omega
  | f + 1, i, k, h1, h2 => by
    unfold rn at h2
    by_cases q : lo ≤ c i ∧ c i ≤ hi
    · rw [if_pos q] at h2
      by_cases e : k = i
      · rw [e]; exact q
      · exact rn_in f (i + 1) k (by omega) h2
    · rw [if_neg q] at h2; omega
theorem bh_in {c : Nat → Int} {lo hi : Int} {i k : Nat} (h1 : i ≤ k) (h2 : k < bh c lo hi i) : lo ≤ c k ∧ c k ≤ hi := rn_in 161 i k h1 h2
/-- the token that is read from i on: where it begins, what it is (0 end, 1 name, 2 number, 3 none), its end -/
def sS (c : Nat → Int) (i : Nat) : Nat := bh c 32 32 i
def sK (c : Nat → Int) (i : Nat) : Nat := if c (sS c i) < 0 then 0 else if 97 ≤ c (sS c i) ∧ c (sS c i) ≤ 122 then 1 else if bh c 48 57 (sS c i) = sS c i + 1 then 2 else 3
def sE (c : Nat → Int) (i : Nat) : Nat := if c (sS c i) < 0 then sS c i else if 97 ≤ c (sS c i) ∧ c (sS c i) ≤ 122 then bh c 97 122 (sS c i) else bh c 48 57 (sS c i)
def TK (c : Nat → Int) (i s k e : Nat) : Prop := s = sS c i ∧ k = sK c i ∧ e = sE c i
def TX (c : Nat → Int) (s k e : Nat) : Prop := ∃ i, TK c i s k e
theorem tk_end {c : Nat → Int} {i s : Nat} (h1 : bh c 32 32 i = s) (h2 : c s < 0) : TK c i s 0 s := by
  have e : sS c i = s := h1
  refine ⟨e.symm, ?_, ?_⟩
  · unfold sK; rw [e, if_pos h2]
  · unfold sE; rw [e, if_pos h2]
theorem tk_name {c : Nat → Int} {i s e : Nat} (h1 : bh c 32 32 i = s) (h2 : 97 ≤ c s ∧ c s ≤ 122) (h3 : bh c 97 122 s = e) : TK c i s 1 e := by
  have e1 : sS c i = s := h1
  refine ⟨e1.symm, ?_, ?_⟩
  · unfold sK; rw [e1, if_neg (by omega), if_pos h2]
  · unfold sE; rw [e1, if_neg (by omega), if_pos h2, h3]
theorem tk_num {c : Nat → Int} {i s e : Nat} (h1 : bh c 32 32 i = s) (h2 : 0 ≤ c s) (h3 : ¬ (97 ≤ c s ∧ c s ≤ 122)) (h4 : bh c 48 57 s = e) (h5 : e = s + 1) : TK c i s 2 e := by
  have e1 : sS c i = s := h1
  refine ⟨e1.symm, ?_, ?_⟩
  · unfold sK; rw [e1, if_neg (by omega), if_neg h3, h4, if_pos h5]
  · unfold sE; rw [e1, if_neg (by omega), if_neg h3, h4]
theorem tk_no {c : Nat → Int} {i s e : Nat} (h1 : bh c 32 32 i = s) (h2 : 0 ≤ c s) (h3 : ¬ (97 ≤ c s ∧ c s ≤ 122)) (h4 : bh c 48 57 s = e) (h5 : e ≠ s + 1) : TK c i s 3 e := by
  have e1 : sS c i = s := h1
  refine ⟨e1.symm, ?_, ?_⟩
  · unfold sK; rw [e1, if_neg (by omega), if_neg h3, h4, if_neg h5]
  · unfold sE; rw [e1, if_neg (by omega), if_neg h3, h4]
/-- a name's bytes are letters -/
theorem TX.let {c : Nat → Int} {s k e : Nat} (h : TX c s k e) (hk : k = 1) : ∀ j, s ≤ j → j < e → 97 ≤ c j ∧ c j ≤ 122 := by
  obtain ⟨i, h1, h2, h3⟩ := h
  rw [hk] at h2
  unfold sK at h2
  by_cases q : c (sS c i) < 0
  · rw [if_pos q] at h2; cases h2
  · rw [if_neg q] at h2
    by_cases q2 : 97 ≤ c (sS c i) ∧ c (sS c i) ≤ 122
    · unfold sE at h3
      rw [if_neg q, if_pos q2] at h3
      intro j a b
      rw [h1] at a; rw [h3] at b
      exact bh_in a b
    · rw [if_neg q2] at h2
      split at h2 <;> cases h2
/-- a number's byte is a figure -/
theorem TX.fig {c : Nat → Int} {s k e : Nat} (h : TX c s k e) (hk : k = 2) : 48 ≤ c s ∧ c s ≤ 57 := by
  obtain ⟨i, h1, h2, h3⟩ := h
  rw [hk] at h2
  unfold sK at h2
  by_cases q : c (sS c i) < 0
  · rw [if_pos q] at h2; cases h2
  · rw [if_neg q] at h2
    by_cases q2 : 97 ≤ c (sS c i) ∧ c (sS c i) ≤ 122
    · rw [if_pos q2] at h2; cases h2
    · rw [if_neg q2] at h2
      by_cases q3 : bh c 48 57 (sS c i) = sS c i + 1
      · rw [h1]; exact bh_in (Nat.le_refl _) (by omega)
      · rw [if_neg q3] at h2; cases h2
/-- the names -/
def wds : List (List Int) := [[112], [113], [114], [115], [121, 101, 115], [110, 111, 116], [97, 110, 100], [111, 114], [107, 110, 111, 119], [119, 104, 101, 116, 104, 101, 114], [101, 118, 101, 114, 121], [99, 111, 109, 109, 111, 110], [116, 111, 103, 101, 116, 104, 101, 114], [97, 102, 116, 101, 114]]
def wdL (n : Nat) : Nat := (wds.getD n []).length
def wdB (n k : Nat) : Int := (wds.getD n []).getD k 0
/-- the token (s, k, e) is the name n -/
def IN (c : Nat → Int) (s k e n : Nat) : Prop := k = 1 ∧ e - s = wdL n ∧ ∀ j, j < wdL n → c (s + j) = wdB n j
theorem wd_ne : ∀ m, m < 14 → ∀ n, n < 14 → m ≠ n → wdL m = wdL n → ∃ j, j < wdL m ∧ wdB m j ≠ wdB n j := by
  have h : ∀ m, m < 14 → ∀ n, n < 14 → m ≠ n → wdL m = wdL n → ∃ j, j < 8 ∧ j < wdL m ∧ wdB m j ≠ wdB n j := by decide +kernel
  intro m hm n hn hne hl
  obtain ⟨j, _, h1, h2⟩ := h m hm n hn hne hl
  exact ⟨j, h1, h2⟩
theorem IN.inj {c : Nat → Int} {s k e m n : Nat} (h1 : IN c s k e m) (h2 : IN c s k e n) (hm : m < 14) (hn : n < 14) : m = n := by
  apply Classical.byContradiction
  intro hne
  obtain ⟨j, hj, hd⟩ := wd_ne m hm n hn hne (h1.2.1.symm.trans h2.2.1)
  exact hd ((h1.2.2 j hj).symm.trans (h2.2.2 j (by rw [← h2.2.1, h1.2.1]; exact hj)))
/-- which name the token is; 14: none -/
noncomputable def aT (c : Nat → Int) (s k e : Nat) : Nat := @dite _ (∃ n, n < 14 ∧ IN c s k e n) (Classical.propDecidable _) (fun h => Classical.choose h) (fun _ => 14)
theorem aT_of {c : Nat → Int} {s k e n : Nat} (h : IN c s k e n) (hn : n < 14) : aT c s k e = n := by
  unfold aT
  rw [dif_pos ⟨n, hn, h⟩]
  have h2 := Classical.choose_spec (⟨n, hn, h⟩ : ∃ n, n < 14 ∧ IN c s k e n)
  exact IN.inj h2.2 h h2.1 hn
theorem aT_no {c : Nat → Int} {s k e : Nat} (h : ∀ n, n < 14 → ¬ IN c s k e n) : aT c s k e = 14 := by
  unfold aT
  rw [dif_neg (fun ⟨n, h1, h2⟩ => h n h1 h2)]
theorem aT_le (c : Nat → Int) (s k e : Nat) : aT c s k e ≤ 14 ∧ (aT c s k e < 14 → IN c s k e (aT c s k e)) := by
  by_cases h : ∃ n, n < 14 ∧ IN c s k e n
  · obtain ⟨n, h1, h2⟩ := h
    rw [aT_of h2 h1]; exact ⟨by omega, fun _ => h2⟩
  · rw [aT_no (fun n h1 h2 => h ⟨n, h1, h2⟩)]; exact ⟨Nat.le_refl _, fun h => absurd h (by omega)⟩
theorem aT_nn {c : Nat → Int} {s k e : Nat} {n : Nat} (h : ¬ IN c s k e n) (hn : n < 14) : aT c s k e ≠ n := fun q => h (by rw [← q]; exact (aT_le c s k e).2 (by rw [q]; exact hn))
/-- the knowers of a group's name; 0: it is none -/
def gr (c : Nat → Int) : Nat → Nat → Nat → Nat
  | 0, _, a => a
  | f + 1, i, a => if 97 ≤ c i ∧ c i ≤ 100 ∧ a.testBit (c i - 97).toNat = false then gr c f (i + 1) (a ||| 2 ^ (c i - 97).toNat) else 0
def gT (c : Nat → Int) (s k e : Nat) : Nat := if k = 1 then gr c (e - s) s 0 else 0
theorem gr_lt (c : Nat → Int) : ∀ (f i a : Nat), a < 16 → gr c f i a < 16
  | 0, i, a, h => h
  | f + 1, i, a, h => by
    unfold gr
    by_cases q : 97 ≤ c i ∧ c i ≤ 100 ∧ a.testBit (c i - 97).toNat = false
    · rw [if_pos q]
      refine gr_lt c f (i + 1) _ ?_
      have hk : ∀ a, a < 16 → ∀ k, k < 4 → a ||| 2 ^ k < 16 := by decide +kernel
      exact hk a h _ (by omega)
    · rw [if_neg q]; omega
theorem gT_lt (c : Nat → Int) (s k e : Nat) : gT c s k e < 16 := by
  unfold gT; split
  · exact gr_lt c _ _ _ (by omega)
  · omega
/-- of know and whether: one knower alone -/
def gA (a g : Nat) : Nat := if a < 10 ∧ cb g.testBit 32 ≠ 1 then 0 else g
def wt (a : Nat) : Nat := if a ≤ 4 then 0 else if a = 6 ∨ a = 7 then 2 else 1
noncomputable def aF (c : Nat → Int) (p : Nat) : Nat := aT c (sS c p) (sK c p) (sE c p)
noncomputable def gF (c : Nat → Int) (p : Nat) : Nat := gT c (sS c p) (sK c p) (sE c p)
/-- one more name is read: where the fault is, or (where the next token is read from, tokens, how many sayings are wanting) -/
noncomputable def stp (c : Nat → Int) (p n o : Nat) : Nat ⊕ (Nat × Nat × Nat) :=
  if 13 ≤ aF c p ∨ 32 ≤ n then .inl (sS c p)
  else if sK c (sE c p) = 3 then .inl (sS c (sE c p))
  else if aF c p < 8 then .inr (sE c p, n + 1, o + wt (aF c p) - 1)
  else if gA (aF c p) (gF c (sE c p)) = 0 ∨ 32 ≤ n + 1 then .inl (sS c (sE c p))
  else if sK c (sE c (sE c p)) = 3 then .inl (sS c (sE c (sE c p)))
  else .inr (sE c (sE c p), n + 2, o)
noncomputable def itn (c : Nat → Int) : Nat ⊕ (Nat × Nat × Nat) → Nat ⊕ (Nat × Nat × Nat)
  | .inl q => .inl q
  | .inr S => if S.2.2 = 0 then .inr S else stp c S.1 S.2.1 S.2.2
noncomputable def it (c : Nat → Int) (p : Nat) : Nat → Nat ⊕ (Nat × Nat × Nat)
  | 0 => .inr (p, 0, 1)
  | k + 1 => itn c (it c p k)
theorem it_s {c : Nat → Int} {p k q n o : Nat} (h : it c p k = .inr (q, n, o)) (ho : o ≠ 0) : it c p (k + 1) = stp c q n o := by
  show itn c (it c p k) = _
  rw [h]
  exact if_neg ho
theorem it_inl {c : Nat → Int} {p k q : Nat} (h : it c p k = .inl q) : ∀ d, it c p (k + d) = .inl q
  | 0 => h
  | d + 1 => by
    show itn c (it c p (k + d)) = _
    rw [it_inl h d]; rfl
theorem it_fin {c : Nat → Int} {p k q n : Nat} (h : it c p k = .inr (q, n, 0)) : ∀ d, it c p (k + d) = .inr (q, n, 0)
  | 0 => h
  | d + 1 => by
    show itn c (it c p (k + d)) = _
    rw [it_fin h d]
    rfl
theorem it_bad {c : Nat → Int} {p k q n o l : Nat} (h : it c p k = .inr (q, n, o)) (ho : o ≠ 0) (hs : stp c q n o = .inl l) (hk : k ≤ 32) : it c p 33 = .inl l := by
  have h1 := it_inl ((it_s h ho).trans hs) (32 - k)
  rw [show k + 1 + (32 - k) = 33 by omega] at h1
  exact h1
theorem it_ok {c : Nat → Int} {p k q n : Nat} (h : it c p k = .inr (q, n, 0)) (hk : k ≤ 33) : it c p 33 = .inr (q, n, 0) := by
  have h1 := it_fin h (33 - k)
  rw [show k + (33 - k) = 33 by omega] at h1
  exact h1
/-- the name and the group that stand at place i -/
noncomputable def aI (c : Nat → Int) (p i : Nat) : Nat := match it c p i with
  | .inl _ => 14
  | .inr S => aF c S.1
noncomputable def gI (c : Nat → Int) (p i : Nat) : Nat := match it c p i with
  | .inl _ => 0
  | .inr S => if aF c S.1 < 8 then 0 else gA (aF c S.1) (gF c (sE c S.1))
theorem aI_at {c : Nat → Int} {p k q n o : Nat} (h : it c p k = .inr (q, n, o)) : aI c p k = aF c q := by unfold aI; rw [h]
theorem gI_at {c : Nat → Int} {p k q n o : Nat} (h : it c p k = .inr (q, n, o)) : gI c p k = if aF c q < 8 then 0 else gA (aF c q) (gF c (sE c q)) := by unfold gI; rw [h]
/-- K names are read -/
def RUN (c : Nat → Int) (p K : Nat) : Prop := ∀ i, i < K → ∃ q n o, it c p i = .inr (q, n, o) ∧ o ≠ 0
theorem RUN.nil {c : Nat → Int} {p : Nat} : RUN c p 0 := fun i h => absurd h (by omega)
theorem RUN.ext {c : Nat → Int} {p K q n o : Nat} (h : RUN c p K) (e : it c p K = .inr (q, n, o)) (ho : o ≠ 0) : RUN c p (K + 1) := fun i hi => by
  by_cases q : i = K
  · rw [q]; exact ⟨_, _, _, e, ho⟩
  · exact h i (by omega)
theorem RUN.uniq {c : Nat → Int} {p K L q n q' n' : Nat} (h1 : RUN c p K) (h2 : RUN c p L) (e1 : it c p K = .inr (q, n, 0)) (e2 : it c p L = .inr (q', n', 0)) : K = L := by
  rcases Nat.lt_trichotomy K L with h | h | h
  · obtain ⟨a, b, o, h3, h4⟩ := h2 K h
    rw [e1] at h3; cases h3; exact absurd rfl h4
  · exact h
  · obtain ⟨a, b, o, h3, h4⟩ := h1 L h
    rw [e2] at h3; cases h3; exact absurd rfl h4
/-- the afters: (where the next token is read from, how many, their events) -/
noncomputable def afC (c : Nat → Int) : Nat → Nat → Nat → Nat → Nat → Nat ⊕ (Nat × Nat × Nat × Nat)
  | 0, _, _, _, _ => .inl 0
  | f + 1, p, n, v, w =>
    if aF c p ≠ 13 then .inr (p, n, v, w)
    else if 2 ≤ n then .inl (sS c p)
    else if sK c (sE c p) ≠ 2 ∨ 51 < c (sS c (sE c p)) then .inl (sS c (sE c p))
    else if sK c (sE c (sE c p)) = 3 then .inl (sS c (sE c (sE c p)))
    else afC c f (sE c (sE c p)) (n + 1) (if n = 0 then (c (sS c (sE c p)) - 48).toNat else v) (if n = 0 then w else (c (sS c (sE c p)) - 48).toNat)
theorem af_no {c : Nat → Int} {f p n v w : Nat} (h : aF c p ≠ 13) : afC c (f + 1) p n v w = .inr (p, n, v, w) := by
  show (if aF c p ≠ 13 then _ else _) = _
  rw [if_pos h]
theorem af_full {c : Nat → Int} {f p n v w : Nat} (h : aF c p = 13) (hn : 2 ≤ n) : afC c (f + 1) p n v w = .inl (sS c p) := by
  show (if aF c p ≠ 13 then _ else _) = _
  rw [if_neg (fun q => q h), if_pos hn]
theorem af_1 {c : Nat → Int} {f p n v w : Nat} (h : aF c p = 13) (hn : n < 2) (h1 : sK c (sE c p) ≠ 2 ∨ 51 < c (sS c (sE c p))) : afC c (f + 1) p n v w = .inl (sS c (sE c p)) := by
  show (if aF c p ≠ 13 then _ else _) = _
  rw [if_neg (fun q => q h), if_neg (by omega), if_pos h1]
theorem af_2 {c : Nat → Int} {f p n v w : Nat} (h : aF c p = 13) (hn : n < 2) (h1 : sK c (sE c p) = 2) (h2 : c (sS c (sE c p)) ≤ 51) (h3 : sK c (sE c (sE c p)) = 3) : afC c (f + 1) p n v w = .inl (sS c (sE c (sE c p))) := by
  show (if aF c p ≠ 13 then _ else _) = _
  rw [if_neg (fun q => q h), if_neg (by omega), if_neg (by omega), if_pos h3]
theorem af_3 {c : Nat → Int} {f p n v w : Nat} (h : aF c p = 13) (hn : n < 2) (h1 : sK c (sE c p) = 2) (h2 : c (sS c (sE c p)) ≤ 51) (h3 : sK c (sE c (sE c p)) ≠ 3) : afC c (f + 1) p n v w = afC c f (sE c (sE c p)) (n + 1) (if n = 0 then (c (sS c (sE c p)) - 48).toNat else v) (if n = 0 then w else (c (sS c (sE c p)) - 48).toNat) := by
  show (if aF c p ≠ 13 then _ else _) = _
  rw [if_neg (fun q => q h), if_neg (by omega), if_neg (by omega), if_neg h3]
/-- how the text ends: its fault's place -/
def SBAD (c : Nat → Int) (l : Nat) : Prop := (sK c 0 = 3 ∧ l = sS c 0) ∨ (sK c 0 ≠ 3 ∧ afC c 3 0 0 0 0 = .inl l) ∨ ∃ p n v w, sK c 0 ≠ 3 ∧ afC c 3 0 0 0 0 = .inr (p, n, v, w) ∧ (it c p 33 = .inl l ∨ ∃ q m, it c p 33 = .inr (q, m, 0) ∧ sK c q ≠ 0 ∧ l = sS c q)
/-- or: afters n, their events v, w; K names from p on, m tokens -/
def SOK (c : Nat → Int) (p n v w K m : Nat) : Prop := sK c 0 ≠ 3 ∧ afC c 3 0 0 0 0 = .inr (p, n, v, w) ∧ K ≤ 33 ∧ RUN c p K ∧ ∃ q, it c p K = .inr (q, m, 0) ∧ sK c q = 0
theorem SBAD.uniq {c : Nat → Int} {l l' : Nat} (h1 : SBAD c l) (h2 : SBAD c l') : l = l' := by
  rcases h1 with ⟨a1, a2⟩ | ⟨a1, a2⟩ | ⟨p, n, v, w, a1, a2, a3⟩
  · rcases h2 with ⟨b1, b2⟩ | ⟨b1, b2⟩ | ⟨p', n', v', w', b1, b2, b3⟩
    · rw [a2, b2]
    · exact absurd a1 b1
    · exact absurd a1 b1
  · rcases h2 with ⟨b1, b2⟩ | ⟨b1, b2⟩ | ⟨p', n', v', w', b1, b2, b3⟩
    · exact absurd b1 a1
    · rw [a2] at b2; cases b2; rfl
    · rw [a2] at b2; cases b2
  · rcases h2 with ⟨b1, b2⟩ | ⟨b1, b2⟩ | ⟨p', n', v', w', b1, b2, b3⟩
    · exact absurd b1 a1
    · rw [a2] at b2; cases b2
    · rw [a2] at b2; cases b2
      rcases a3 with a3 | ⟨q, m, a3, a4, a5⟩
      · rcases b3 with b3 | ⟨q', m', b3, b4, b5⟩
        · rw [a3] at b3; cases b3; rfl
        · rw [a3] at b3; cases b3
      · rcases b3 with b3 | ⟨q', m', b3, b4, b5⟩
        · rw [a3] at b3; cases b3
        · rw [a3] at b3; cases b3; rw [a5, b5]
theorem SOK.not {c : Nat → Int} {p n v w K m l : Nat} (h1 : SOK c p n v w K m) (h2 : SBAD c l) : False := by
  obtain ⟨a1, a2, a3, a4, q, a5, a6⟩ := h1
  rcases h2 with ⟨b1, b2⟩ | ⟨b1, b2⟩ | ⟨p', n', v', w', b1, b2, b3⟩
  · exact a1 b1
  · rw [a2] at b2; cases b2
  · rw [a2] at b2; cases b2
    have e := it_ok a5 a3
    rcases b3 with b3 | ⟨q', m', b3, b4, b5⟩
    · rw [e] at b3; cases b3
    · rw [e] at b3; cases b3; exact b4 a6
theorem SOK.uniq {c : Nat → Int} {p n v w K m p' n' v' w' K' m' : Nat} (h1 : SOK c p n v w K m) (h2 : SOK c p' n' v' w' K' m') : p = p' ∧ n = n' ∧ v = v' ∧ w = w' ∧ K = K' ∧ m = m' := by
  obtain ⟨a1, a2, a3, a4, q, a5, a6⟩ := h1
  obtain ⟨b1, b2, b3, b4, q', b5, b6⟩ := h2
  rw [a2] at b2; cases b2
  have e := RUN.uniq a4 b4 a5 b5
  subst e
  rw [a5] at b5; cases b5
  exact ⟨rfl, rfl, rfl, rfl, rfl, rfl⟩
/-- what the names become in the class: op and argument -/
def opV (a : Nat) : Int32 := if a < 4 then 0 else if a = 4 then 1 else if a = 5 then 2 else if a = 6 then 3 else if a = 7 then 4 else if a = 9 then 5 else if a = 11 then 7 else if a = 12 then 8 else if a < 13 then 6 else -4
def fv (a : Nat) : Int32 := if a = 0 then 1 else if a = 1 then 2 else if a = 2 then 4 else if a = 3 then 8 else 0
def argV (a g : Nat) : Int32 := if a < 8 then fv a else nI g
theorem opV_in : ∀ a, a < 13 → 0 ≤ (opV a).toInt ∧ (opV a).toInt ≤ 8 := by decide +kernel
theorem opV_0 : ∀ a, a < 13 → ((opV a).toInt = 0 ↔ a < 4) := by decide +kernel
theorem opV_5 : ∀ a, a < 13 → ((opV a).toInt = 5 ↔ a = 9) := by decide +kernel
theorem opV_k : ∀ a, a < 13 → (5 ≤ (opV a).toInt ↔ 8 ≤ a) := by decide +kernel
theorem fv_0 : ∀ a, a < 15 → ((fv a).toInt = 0 ↔ 4 ≤ a) := by decide +kernel
end
section
/-! strings, tape, parser: what is asked of them -/
theorem sl_le (i : Nat) : sLen.getD i 0 ≤ 8 := by
  by_cases h : i < 14
  · have key : ∀ i, i < 14 → sLen.getD i 0 ≤ 8 := by decide +kernel
    exact key i h
  · have e : sLen.getD i 0 = 0 := by rw [List.getD_eq_getElem?_getD, List.getElem?_eq_none (show sLen.length ≤ i by show 14 ≤ i; omega)]; rfl
    rw [e]; omega
theorem nI_nn {n : Nat} (h : n < 2 ^ 31) : ¬ nI n < 0 := by
  rw [Int32.lt_iff_toInt_lt, nI_toInt h]
  have e : (0 : Int32).toInt = 0 := rfl
  omega
theorem ble4 {n : Nat} (h : n ≤ 1000) : Nat.ble (n * componentBytes .int) 536870912 = true := Nat.ble_eq_true_of_le (by show n * 4 ≤ 536870912; omega)
theorem cnN_le {rm : Room} {k n s s' k' n' : Nat} (h : s' ≤ s) (hk : cnN rm k n s k' n' = true) : cnN rm k n s' k' n' = true := by
  simp only [cnN, Bool.and_eq_true] at *
  have h1 := Nat.le_of_ble_eq_true hk.2.1
  exact ⟨hk.1, Nat.ble_eq_true_of_le (by omega), hk.2.2⟩
theorem shr_0 (x : Int32) : x >>> ((0 : Int32) &&& 31) = x := by
  have e : ((0 : Int32) &&& 31) = 0 := by decide
  rw [e]; simp
theorem sb_c {i j : Nat} (hi : i < sLen.length) (hj : j < sLen.getD i 0) {x y : Int32} (ex : (sByt.getD i []).getD j 0 &&& 255 = x) (ey : (x.toUInt32 % 65536).toInt32 = y) : y = (sByt.getD i []).getD j 0 := by
  have key : ∀ i, i < 14 → ∀ j, j < 8 → (((sByt.getD i []).getD j 0 &&& 255).toUInt32 % 65536).toInt32 = (sByt.getD i []).getD j 0 := by decide +kernel
  subst ey; subst ex
  exact key i hi j (Nat.lt_of_lt_of_le hj (sl_le i))
theorem sb_n {i j : Nat} (hi : i < sLen.length) (hj : j < sLen.getD i 0) : narrow .char (.int ((sByt.getD i []).getD j 0)) = .int ((sByt.getD i []).getD j 0) := by
  have key : ∀ i, i < 14 → ∀ j, j < 8 → narrow .char (.int ((sByt.getD i []).getD j 0)) = .int ((sByt.getD i []).getD j 0) := by decide +kernel
  exact key i hi j (Nat.lt_of_lt_of_le hj (sl_le i))
/-- bytes from fr on up to j lie between lo and hi -/
def RGX (fb : Nat → Int32) (fr j : Nat) (lo hi : Int) : Prop := ∀ i, fr ≤ i → i < j → lo ≤ (fb i).toInt ∧ (fb i).toInt ≤ hi
theorem RGX.nil {fb : Nat → Int32} {fr : Nat} {lo hi : Int} : RGX fb fr fr lo hi := fun i h1 h2 => absurd h1 (by omega)
theorem RGX.ext {fb : Nat → Int32} {fr j : Nat} {lo hi : Int} {x : Int32} (h : RGX fb fr j lo hi) (e : fb j = x) (h1 : lo ≤ x.toInt) (h2 : x.toInt ≤ hi) : RGX fb fr (j + 1) lo hi := by
  intro i a b
  by_cases q : i = j
  · rw [q, e]; exact ⟨h1, h2⟩
  · exact h i a (by omega)
theorem RGX.at {fb : Nat → Int32} {fr j i : Nat} {lo hi : Int} (h : RGX fb fr j lo hi) (h1 : fr ≤ i) (h2 : i < j) : lo ≤ (fb i).toInt ∧ (fb i).toInt ≤ hi := h i h1 h2
theorem bh_c {fb : Nat → Int32} {tl fr j : Nat} {zl zh : Int} (hr : RGX fb fr j zl zh) (h1 : fr ≤ j) (h2 : j ≤ tl) (ht : tl ≤ 160) (hl : 0 ≤ zl) (hh : zh ≤ 127) (hs : j < tl → (fb j).toInt < zl ∨ zh < (fb j).toInt) : bh (cz fb tl) zl zh fr = j := by
  apply bh_u h1 (by omega)
  · intro k a b
    exact (cz_in (by omega) hl hh).mpr (hr k a b)
  · intro h
    by_cases q : j < tl
    · have h3 := (cz_in q hl hh).mp h
      have h4 := hs q
      omega
    · rw [cz_0 (by omega)] at h; omega
theorem nz_eq {x : Int32} {lo hi : Int} (h0 : 0 ≤ lo) (h1 : hi ≤ 127) (h : lo ≤ nz x ∧ nz x ≤ hi) : nz x = x.toInt := by
  unfold nz at *
  split at h
  · rw [if_pos (by assumption)]
  · omega
theorem TX.fg {fb : Nat → Int32} {tl s k e : Nat} (h : TX (cz fb tl) s k e) (hk : k = 2) : s < tl ∧ 48 ≤ (fb s).toInt ∧ (fb s).toInt ≤ 57 ∧ cz fb tl s = (fb s).toInt := by
  have h1 := h.fig hk
  have h2 : s < tl := cz_lt (f := fb) (by omega)
  have h3 := (cz_in h2 (by decide) (by decide)).mp h1
  refine ⟨h2, h3.1, h3.2, ?_⟩
  rw [cz_1 h2] at *
  exact nz_eq (lo := 48) (hi := 57) (by decide) (by decide) h1
/-- where the token is a number, its byte is a figure -/
def FG2 (tk : Nat) (fb : Nat → Int32) (ts : Nat) : Prop := tk = 2 → 48 ≤ (fb ts).toInt ∧ (fb ts).toInt ≤ 57
def fgv (tk : Nat) (fb : Nat → Int32) (ts : Nat) : Int32 := if tk = 2 then fb ts - 48 else 0
theorem fgv_1 {tk ts : Nat} {fb : Nat → Int32} {x v : Int32} (h : tk = 2) (e1 : fb ts = x) (e2 : x - 48 = v) : v = fgv tk fb ts := by
  subst e2; subst e1; unfold fgv; rw [if_pos h]
theorem fgv_0 {tk ts : Nat} {fb : Nat → Int32} (h : tk ≠ 2) : (0 : Int32) = fgv tk fb ts := by unfold fgv; rw [if_neg h]
theorem fgv_r {tk ts : Nat} {fb : Nat → Int32} (h : FG2 tk fb ts) : 0 ≤ (fgv tk fb ts).toInt ∧ (fgv tk fb ts).toInt ≤ 9 := by
  unfold fgv
  by_cases q : tk = 2
  · rw [if_pos q]
    have h1 := h q
    have e := i_sub (x := fb ts) (y := 48) rfl rfl (by have e48 : (48 : Int32).toInt = 48 := rfl; omega) (by have e48 : (48 : Int32).toInt = 48 := rfl; omega)
    have e48 : (48 : Int32).toInt = 48 := rfl
    rw [e]; omega
  · rw [if_neg q]; decide
theorem TX.fg2 {fb : Nat → Int32} {tl s k e : Nat} (h : TX (cz fb tl) s k e) : FG2 k fb s := fun hk => ⟨(h.fg hk).2.1, (h.fg hk).2.2.1⟩
theorem fgv_z {fb : Nat → Int32} {tl s k e : Nat} (h : TX (cz fb tl) s k e) (hk : k = 2) : (fgv k fb s).toInt = cz fb tl s - 48 := by
  obtain ⟨h1, h2, h3, h4⟩ := h.fg hk
  unfold fgv
  rw [if_pos hk, h4]
  have e48 : (48 : Int32).toInt = 48 := rfl
  have e := i_sub (x := fb s) (y := 48) rfl rfl (by omega) (by omega)
  rw [e]; omega
theorem fgv_n {fb : Nat → Int32} {tl s k e : Nat} (h : TX (cz fb tl) s k e) (hk : k = 2) : fgv k fb s = nI (cz fb tl s - 48).toNat := by
  have h1 := fgv_z h hk
  have h2 := h.fig hk
  apply Int32.toInt_inj.mp
  rw [h1, nI_toInt (by omega)]
  omega
theorem aF_in {c : Nat → Int} {p s k e n : Nat} (h : TK c p s k e) (hi : IN c s k e n) (hn : n < 14) : aF c p = n := by
  obtain ⟨h1, h2, h3⟩ := h
  unfold aF; rw [← h1, ← h2, ← h3]; exact aT_of hi hn
theorem aF_eq {c : Nat → Int} {p s k e : Nat} (h : TK c p s k e) : aF c p = aT c s k e := by
  obtain ⟨h1, h2, h3⟩ := h
  unfold aF; rw [← h1, ← h2, ← h3]
theorem gF_eq {c : Nat → Int} {p s k e : Nat} (h : TK c p s k e) : gF c p = gT c s k e := by
  obtain ⟨h1, h2, h3⟩ := h
  unfold gF; rw [← h1, ← h2, ← h3]
theorem aF_ni {c : Nat → Int} {p s k e n : Nat} (h : TK c p s k e) (hi : ¬ IN c s k e n) (hn : n < 14) : aF c p ≠ n := by
  rw [aF_eq h]; exact aT_nn hi hn
/-! the afters, step by step, from the tokens as they were read -/
theorem ag_stop {c : Nat → Int} {f p n v w s k e : Nat} (h0 : TK c p s k e) (hi : ¬ IN c s k e 13) : afC c (f + 1) p n v w = .inr (p, n, v, w) := af_no (aF_ni h0 hi (by omega))
theorem ag_b1 {c : Nat → Int} {f p n v w s k e : Nat} (h0 : TK c p s k e) (hi : IN c s k e 13) (hn : 2 ≤ n) : afC c (f + 1) p n v w = .inl s := by
  rw [af_full (aF_in h0 hi (by omega)) hn, h0.1]
theorem ag_b2 {c : Nat → Int} {f p n v w s k e s1 k1 e1 : Nat} (h0 : TK c p s k e) (hi : IN c s k e 13) (hn : n < 2) (h1 : TK c e s1 k1 e1) (hk : k1 ≠ 2 ∨ 51 < c s1) : afC c (f + 1) p n v w = .inl s1 := by
  obtain ⟨a1, a2, a3⟩ := id h0
  obtain ⟨b1, b2, b3⟩ := h1
  rw [a3] at b1 b2
  rw [af_1 (aF_in h0 hi (by omega)) hn (by rw [← b1, ← b2]; exact hk), b1]
theorem ag_b3 {c : Nat → Int} {f p n v w s k e s1 k1 e1 : Nat} (h0 : TK c p s k e) (hi : IN c s k e 13) (hn : n < 2) (h1 : TK c e s1 k1 e1) (hk : k1 = 2) (hc : c s1 ≤ 51) (h2 : sK c e1 = 3) : afC c (f + 1) p n v w = .inl (sS c e1) := by
  obtain ⟨a1, a2, a3⟩ := id h0
  obtain ⟨b1, b2, b3⟩ := h1
  rw [a3] at b1 b2 b3
  rw [af_2 (aF_in h0 hi (by omega)) hn (by rw [← b2]; exact hk) (by rw [← b1]; exact hc) (by rw [← b3]; exact h2), b3]
theorem ag_go {c : Nat → Int} {f p n v w s k e s1 k1 e1 s2 k2 e2 : Nat} (h0 : TK c p s k e) (hi : IN c s k e 13) (hn : n < 2) (h1 : TK c e s1 k1 e1) (hk : k1 = 2) (hc : c s1 ≤ 51) (h2 : TK c e1 s2 k2 e2) (hk2 : k2 ≠ 3) : afC c (f + 1) p n v w = afC c f e1 (n + 1) (if n = 0 then (c s1 - 48).toNat else v) (if n = 0 then w else (c s1 - 48).toNat) := by
  obtain ⟨a1, a2, a3⟩ := id h0
  obtain ⟨b1, b2, b3⟩ := h1
  obtain ⟨d1, d2, d3⟩ := h2
  rw [a3] at b1 b2 b3
  rw [af_3 (aF_in h0 hi (by omega)) hn (by rw [← b2]; exact hk) (by rw [← b1]; exact hc) (by rw [← b3, ← d2]; exact hk2), b3, b1]
/-- the events of a saying's afters -/
def AFI (n : Nat) (af : Nat → Int32) : Prop := ∀ k, k < n → ∃ j : Nat, j < 4 ∧ af k = nI j
theorem AFI.nil {af : Nat → Int32} : AFI 0 af := fun k h => absurd h (by omega)
theorem AFI.ext {n : Nat} {af g : Nat → Int32} {x : Int32} (h : AFI n af) (e : upd af n x = g) (h0 : 0 ≤ x.toInt) (h1 : x.toInt < 4) : AFI (n + 1) g := by
  intro k hk
  rw [← e]
  by_cases q : k = n
  · rw [q, pk_us]
    obtain ⟨j, e1, e2⟩ := nI_ex (x := x) (n := 3) h0 (by omega)
    exact ⟨j, by omega, e1⟩
  · rw [pk_un q]; exact h k (by omega)
theorem AFI.cpy {n : Nat} {af g h : Nat → Int32} (hA : AFI n af) (e : va_cpy af g 0 0 n = h) : AFI n h := by
  intro k hk
  rw [← e]
  have e2 : va_cpy af g 0 0 n k = af k := by unfold va_cpy; rw [if_pos (by omega)]; congr 1; omega
  rw [e2]; exact hA k hk
/-- nodes read so far -/
def OPV (n : Nat) (o : Nat → Int32) : Prop := (∀ i, i < n → 0 ≤ (o i).toInt ∧ (o i).toInt ≤ 8) ∧ ∀ i, i < n → 1 ≤ opn o i
theorem OPV.nil {o : Nat → Int32} : OPV 0 o := ⟨fun i h => absurd h (by omega), fun i h => absurd h (by omega)⟩
theorem opn_congr {o p : Nat → Int32} : ∀ n : Nat, (∀ i, i < n → p i = o i) → opn p n = opn o n
  | 0, _ => rfl
  | n + 1, h => by rw [opn_s, opn_s, opn_congr n (fun i hi => h i (by omega)), h n (by omega)]
theorem OPV.ext {n : Nat} {o p : Nat → Int32} {x : Int32} (h : OPV n o) (e : upd o n x = p) (h0 : 0 ≤ x.toInt) (h8 : x.toInt ≤ 8) (ho : 1 ≤ opn o n) : OPV (n + 1) p ∧ opn p (n + 1) = opn o n + uN x - 1 := by
  have hp : ∀ i, i < n → p i = o i := fun i hi => by rw [← e]; exact pk_un (by omega)
  have hn : p n = x := by rw [← e]; exact pk_us
  have hc : ∀ i, i ≤ n → opn p i = opn o i := fun i hi => opn_congr i (fun j hj => hp j (by omega))
  refine ⟨⟨fun i hi => ?_, fun i hi => ?_⟩, ?_⟩
  · by_cases q : i = n
    · rw [q, hn]; exact ⟨h0, h8⟩
    · rw [hp i (by omega)]; exact h.1 i (by omega)
  · rw [hc i (by omega)]
    by_cases q : i = n
    · rw [q]; exact ho
    · exact h.2 i (by omega)
  · rw [opn_s, hc n (by omega), hn]
theorem OPV.wf {n : Nat} {o : Nat → Int32} (h : OPV n o) (h1 : 1 ≤ n) (h2 : n ≤ 32) (h3 : opn o n = 0) : WFs n o := ⟨h1, h2, h.1, h.2, h3⟩
theorem WFs.cpy {n : Nat} {o g h : Nat → Int32} (w : WFs n o) (e : va_cpy o g 0 0 n = h) : WFs n h := by
  have hp : ∀ i, i < n → h i = o i := fun i hi => by
    rw [← e]; unfold va_cpy; rw [if_pos (by omega)]; congr 1; omega
  have hc : ∀ i, i ≤ n → opn h i = opn o i := fun i hi => opn_congr i (fun j hj => hp j (by omega))
  refine ⟨w.1, w.2.1, fun i hi => ?_, fun i hi => ?_, ?_⟩
  · rw [hp i hi]; exact w.2.2.1 i hi
  · rw [hc i (by omega)]; exact w.2.2.2.1 i hi
  · rw [hc n (by omega)]; exact w.2.2.2.2
theorem uN_a0 {x : Int32} (h : x.toInt = 0 ∨ x.toInt = 1) : uN x = 0 := by unfold uN; rw [if_pos h]
theorem uN_a2 {x : Int32} (h : x.toInt = 3 ∨ x.toInt = 4) : uN x = 2 := by unfold uN; rw [if_neg (by omega), if_pos h]
theorem uN_a1 {x : Int32} (h : x.toInt ≠ 0 ∧ x.toInt ≠ 1 ∧ x.toInt ≠ 3 ∧ x.toInt ≠ 4) : uN x = 1 := by unfold uN; rw [if_neg (by omega), if_neg (by omega)]
/-! eight bytes -/
def bexp (v : Int64) (i : Nat) : Int32 := vp_nar .byte ((((v.toUInt64 >>> ((nI (56 - 8 * i)).toInt64.toUInt64 &&& Int64.toUInt64 63)).toInt64).toInt32).toInt8.toInt32)
def BYW (fb g : Nat → Int32) (tl i : Nat) (v : Int64) : Prop := (∀ k, k < tl → g k = fb k) ∧ ∀ j, j < i → g (tl + j) = bexp v j
theorem BYW.nil {fb : Nat → Int32} {tl : Nat} {v : Int64} : BYW fb fb tl 0 v := ⟨fun _ _ => rfl, fun j h => absurd h (by omega)⟩
theorem BYW.ext {fb g g' : Nat → Int32} {tl i : Nat} {v l : Int64} {x y : Int32} (h : BYW fb g tl i v) (e1 : (v.toUInt64 >>> ((nI (56 - 8 * i)).toInt64.toUInt64 &&& Int64.toUInt64 63)).toInt64 = l) (e2 : l.toInt32 = x) (e3 : x.toInt8.toInt32 = y) (e : upd g (tl + i) (vp_nar .byte y) = g') : BYW fb g' tl (i + 1) v := by
  subst e1; subst e2; subst e3
  refine ⟨fun k hk => ?_, fun j hj => ?_⟩
  · rw [← e, pk_un (by omega)]; exact h.1 k hk
  · by_cases q : j = i
    · rw [q, ← e, pk_us]; rfl
    · rw [← e, pk_un (by omega)]; exact h.2 j (by omega)
/-! names and groups, as the class finds them -/
def sgL : List Nat := [13, 0, 1, 2, 3, 4, 5, 6, 7, 8, 10, 9, 11, 12]
theorem str_w : ∀ i, i < 14 → sLen.getD i 0 = wdL (sgL.getD i 0) ∧ sgL.getD i 0 < 14 ∧ ∀ j, j < 8 → j < sLen.getD i 0 → ((sByt.getD i []).getD j 0).toInt = wdB (sgL.getD i 0) j ∧ 97 ≤ ((sByt.getD i []).getD j 0).toInt ∧ ((sByt.getD i []).getD j 0).toInt ≤ 122 := by decide +kernel
theorem in_ext {fb : Nat → Int32} {tl ts i i1 : Nat} {x : Int32} (hi : i < sLen.length) (hm : ∀ j, j < i1 → cz fb tl (ts + j) = wdB (sgL.getD i 0) j) (hj : i1 < sLen.getD i 0) (hl : ts + i1 < tl) (e : fb (ts + i1) = x) (hz : x.toInt = ((sByt.getD i []).getD i1 0).toInt) : ∀ j, j < i1 + 1 → cz fb tl (ts + j) = wdB (sgL.getD i 0) j := by
  intro j hj1
  by_cases q : j = i1
  · have h1 := (str_w i hi).2.2 i1 (Nat.lt_of_lt_of_le hj (sl_le i)) hj
    rw [q, cz_1 hl, e, ← h1.1, ← hz]
    unfold nz
    rw [if_pos (by omega)]
  · exact hm j (by omega)
theorem in_no {fb : Nat → Int32} {tl ts tk ta i i1 : Nat} {x : Int32} (hi : i < sLen.length) (hj : i1 < sLen.getD i 0) (hl : ts + i1 < tl) (e : fb (ts + i1) = x) (hz : x.toInt ≠ ((sByt.getD i []).getD i1 0).toInt) : ¬ IN (cz fb tl) ts tk ta (sgL.getD i 0) := by
  intro h
  have h1 := (str_w i hi).2.2 i1 (Nat.lt_of_lt_of_le hj (sl_le i)) hj
  have h2 := h.2.2 i1 (by rw [← (str_w i hi).1]; exact hj)
  rw [cz_1 hl, e, ← h1.1] at h2
  have h3 := nz_eq (x := x) (lo := 97) (hi := 122) (by decide) (by decide) (by omega)
  omega
theorem letk {x : Int32} (h0 : 97 ≤ x.toInt) (h1 : x.toInt ≤ 122) : ∃ j : Nat, x - 97 = nI j ∧ j ≤ 25 ∧ (j : Int) = x.toInt - 97 := by
  have e97 : (97 : Int32).toInt = 97 := rfl
  have e := i_sub (x := x) (y := 97) rfl rfl (by omega) (by omega)
  obtain ⟨j, e1, e2⟩ := nI_ex (x := x - 97) (n := 25) (by omega) (by omega)
  refine ⟨j, e1, e2, ?_⟩
  rw [e1, nI_toInt (by omega)] at e
  omega
theorem or4 : ∀ a, a < 16 → ∀ k, k < 4 → nI a ||| nI (2 ^ k) = nI (a ||| 2 ^ k) := by decide +kernel
theorem or4l : ∀ a, a < 16 → ∀ k, k < 4 → a ||| 2 ^ k < 16 := by decide +kernel
theorem gr_go {c : Nat → Int} {e i a j : Nat} (hi : i < e) (hc : 97 ≤ c i ∧ c i ≤ 100) (hj : (j : Int) = c i - 97) (hb : a.testBit j = false) : gr c (e - i) i a = gr c (e - (i + 1)) (i + 1) (a ||| 2 ^ j) := by
  have h1 : (c i - 97).toNat = j := by omega
  rw [show e - i = e - (i + 1) + 1 by omega]
  show (if 97 ≤ c i ∧ c i ≤ 100 ∧ a.testBit (c i - 97).toNat = false then gr c (e - (i + 1)) (i + 1) (a ||| 2 ^ (c i - 97).toNat) else 0) = _
  rw [h1, if_pos ⟨hc.1, hc.2, hb⟩]
theorem gr_bad {c : Nat → Int} {e i a j : Nat} (hi : i < e) (hj : (j : Int) = c i - 97) (h : 4 ≤ j ∨ a.testBit j = true) : gr c (e - i) i a = 0 := by
  have h1 : (c i - 97).toNat = j := by omega
  rw [show e - i = e - (i + 1) + 1 by omega]
  show (if 97 ≤ c i ∧ c i ≤ 100 ∧ a.testBit (c i - 97).toNat = false then gr c (e - (i + 1)) (i + 1) (a ||| 2 ^ (c i - 97).toNat) else 0) = _
  rw [h1, if_neg]
  rintro ⟨q1, q2, q3⟩
  rcases h with h | h
  · omega
  · rw [q3] at h; cases h
theorem gr_end {c : Nat → Int} {e i a : Nat} (h : e ≤ i) : gr c (e - i) i a = a := by rw [show e - i = 0 by omega]; rfl
theorem gT_1 {c : Nat → Int} {s k e : Nat} (h : k = 1) : gT c s k e = gr c (e - s) s 0 := by unfold gT; rw [if_pos h]
theorem gT_0 {c : Nat → Int} {s k e : Nat} (h : k ≠ 1) : gT c s k e = 0 := by unfold gT; rw [if_neg h]
theorem tb_f {a k : Nat} (ha : a < 16) (h : bt (nI a) k = false) : a.testBit k = false := by rw [← bt_nI (by omega)]; exact h
theorem tb_t {a k : Nat} (ha : a < 16) (h : bt (nI a) k = true) : a.testBit k = true := by rw [← bt_nI (by omega)]; exact h
theorem TX.cl {fb : Nat → Int32} {tl s k e j : Nat} {x : Int32} (h : TX (cz fb tl) s k e) (hk : k = 1) (h1 : s ≤ j) (h2 : j < e) (ex : fb j = x) : 97 ≤ x.toInt ∧ x.toInt ≤ 122 ∧ cz fb tl j = x.toInt := by
  have h3 := h.let hk j h1 h2
  have h4 : j < tl := cz_lt (f := fb) (by omega)
  have h5 := (cz_in h4 (by decide) (by decide)).mp h3
  rw [cz_1 h4] at *
  rw [ex] at *
  exact ⟨h5.1, h5.2, nz_eq (lo := 97) (hi := 122) (by decide) (by decide) h3⟩
def gO (g : Nat) : Nat := if cb g.testBit 32 ≠ 1 then 0 else g
theorem gO_0 {g : Nat} (hg : g < 16) (h : (bcf (nI g)).toInt ≠ 1) : gO g = 0 := by
  unfold gO
  rw [bcf_nI (by omega), nI_toInt (by have := cb_le g.testBit 32; omega)] at h
  rw [if_pos (by omega)]
theorem gO_1 {g : Nat} (hg : g < 16) (h : (bcf (nI g)).toInt = 1) : gO g = g := by
  unfold gO
  rw [bcf_nI (by omega), nI_toInt (by have := cb_le g.testBit 32; omega)] at h
  rw [if_neg (by omega)]
theorem gO_lt {g : Nat} (hg : g < 16) : gO g < 16 := by unfold gO; split <;> omega
theorem gA_1 {a g : Nat} (h : a < 10) : gA a g = gO g := by
  unfold gA gO
  by_cases q : cb g.testBit 32 ≠ 1
  · rw [if_pos ⟨h, q⟩, if_pos q]
  · rw [if_neg (fun p => q p.2), if_neg q]
theorem gA_0 {a g : Nat} (h : 10 ≤ a) : gA a g = g := by
  unfold gA
  rw [if_neg (fun p => by omega)]
theorem fv_no {a : Nat} (h0 : a ≠ 0) (h1 : a ≠ 1) (h2 : a ≠ 2) (h3 : a ≠ 3) : (0 : Int32) = fv a := by
  unfold fv; rw [if_neg h0, if_neg h1, if_neg h2, if_neg h3]
theorem argV_0 {a g : Nat} (h : 4 ≤ a) (h8 : a < 8) : (0 : Int32) = argV a g := by
  unfold argV; rw [if_pos h8]; exact fv_no (by omega) (by omega) (by omega) (by omega)
theorem argV_f {a g : Nat} (h : a < 4) : fv a = argV a g := by unfold argV; rw [if_pos (by omega)]
theorem argV_g {a g : Nat} (h : 8 ≤ a) : nI g = argV a g := by unfold argV; rw [if_neg (by omega)]
theorem wt_u : ∀ a, a < 13 → uN (opV a) = (wt a : Int) := by decide +kernel
/-! the saying, step by step, from the tokens as they were read -/
section STEPS
variable {c : Nat → Int} {p n o o' s k e s1 k1 e1 s2 k2 e2 : Nat}
theorem sg_a (h0 : TK c p s k e) (ha : aT c s k e < 8) (hn : n < 32) (h1 : TK c e s1 k1 e1) (hk : k1 ≠ 3) (ho : o' + 1 = o + wt (aT c s k e)) : stp c p n o = .inr (e, n + 1, o') := by
  have ea := aF_eq h0
  obtain ⟨a1, a2, a3⟩ := h0
  obtain ⟨b1, b2, b3⟩ := h1
  unfold stp
  rw [ea, ← a3, if_neg (by omega), if_neg (by omega), if_pos ha]
  have : o + wt (aT c s k e) - 1 = o' := by omega
  rw [this]
theorem sg_b (h0 : TK c p s k e) (ha : 8 ≤ aT c s k e) (ha2 : aT c s k e < 13) (hn : n < 32) (h1 : TK c e s1 k1 e1) (hk : k1 ≠ 3) (hg : gA (aT c s k e) (gT c s1 k1 e1) ≠ 0) (hn2 : n + 1 < 32) (h2 : TK c e1 s2 k2 e2) (hk2 : k2 ≠ 3) : stp c p n o = .inr (e1, n + 2, o) := by
  have ea := aF_eq h0
  have eg := gF_eq h1
  obtain ⟨a1, a2, a3⟩ := h0
  obtain ⟨b1, b2, b3⟩ := h1
  obtain ⟨d1, d2, d3⟩ := h2
  unfold stp
  rw [ea, ← a3, if_neg (by omega), if_neg (by omega), if_neg (by omega), eg, if_neg (by omega), ← b3, if_neg (by omega)]
theorem sg_f1 (h0 : TK c p s k e) (h : 13 ≤ aT c s k e ∨ 32 ≤ n) : stp c p n o = .inl s := by
  have ea := aF_eq h0
  unfold stp
  rw [ea, if_pos h, h0.1]
theorem sg_f2 (h0 : TK c p s k e) (ha : aT c s k e < 13) (hn : n < 32) (h1 : sK c e = 3) : stp c p n o = .inl (sS c e) := by
  have ea := aF_eq h0
  obtain ⟨a1, a2, a3⟩ := h0
  unfold stp
  rw [ea, ← a3, if_neg (by omega), if_pos h1]
theorem sg_f3 (h0 : TK c p s k e) (ha : 8 ≤ aT c s k e) (ha2 : aT c s k e < 13) (hn : n < 32) (h1 : TK c e s1 k1 e1) (hk : k1 ≠ 3) (hg : gA (aT c s k e) (gT c s1 k1 e1) = 0 ∨ 32 ≤ n + 1) : stp c p n o = .inl s1 := by
  have ea := aF_eq h0
  have eg := gF_eq h1
  obtain ⟨a1, a2, a3⟩ := h0
  obtain ⟨b1, b2, b3⟩ := h1
  unfold stp
  rw [ea, ← a3, if_neg (by omega), if_neg (by omega), if_neg (by omega), eg, if_pos hg, b1]
theorem sg_f4 (h0 : TK c p s k e) (ha : 8 ≤ aT c s k e) (ha2 : aT c s k e < 13) (hn : n < 32) (h1 : TK c e s1 k1 e1) (hk : k1 ≠ 3) (hg : gA (aT c s k e) (gT c s1 k1 e1) ≠ 0) (hn2 : n + 1 < 32) (h2 : sK c e1 = 3) : stp c p n o = .inl (sS c e1) := by
  have ea := aF_eq h0
  have eg := gF_eq h1
  obtain ⟨a1, a2, a3⟩ := h0
  obtain ⟨b1, b2, b3⟩ := h1
  unfold stp
  rw [ea, ← a3, if_neg (by omega), if_neg (by omega), if_neg (by omega), eg, if_neg (by omega), ← b3, if_pos h2]
end STEPS
/-- the names read so far, in the class's rows -/
def OPX (c : Nat → Int) (p n : Nat) (fo fa : Nat → Int32) : Prop := ∀ i, i < n → fo i = opV (aI c p i) ∧ fa i = argV (aI c p i) (gI c p i) ∧ aI c p i < 13 ∧ gI c p i < 16
theorem OPX.nil {c : Nat → Int} {p : Nat} {fo fa : Nat → Int32} : OPX c p 0 fo fa := fun i h => absurd h (by omega)
theorem OPX.ext {c : Nat → Int} {p n a g : Nat} {fo fa fo' fa' : Nat → Int32} {x y : Int32} (h : OPX c p n fo fa) (e1 : upd fo n x = fo') (e2 : upd fa n y = fa') (ha : aI c p n = a) (hg : gI c p n = g) (hx : x = opV a) (hy : y = argV a g) (ha2 : a < 13) (hg2 : g < 16) : OPX c p (n + 1) fo' fa' := by
  intro i hi
  by_cases q : i = n
  · rw [q, ← e1, ← e2, pk_us, pk_us, ha, hg]; exact ⟨hx, hy, ha2, hg2⟩
  · rw [← e1, ← e2, pk_un q, pk_un q]; exact h i (by omega)
theorem gI_a {c : Nat → Int} {p i q n o s k e : Nat} (h : it c p i = .inr (q, n, o)) (h0 : TK c q s k e) (ha : aT c s k e < 8) : gI c p i = 0 := by
  rw [gI_at h, aF_eq h0, if_pos ha]
theorem gI_b {c : Nat → Int} {p i q n o s k e s1 k1 e1 : Nat} (h : it c p i = .inr (q, n, o)) (h0 : TK c q s k e) (ha : 8 ≤ aT c s k e) (h1 : TK c e s1 k1 e1) : gI c p i = gA (aT c s k e) (gT c s1 k1 e1) := by
  have e3 := h0.2.2
  have eg := gF_eq h1
  rw [e3] at eg
  rw [gI_at h, aF_eq h0, if_neg (by omega), eg, e3]
theorem aI_t {c : Nat → Int} {p i q n o s k e : Nat} (h : it c p i = .inr (q, n, o)) (h0 : TK c q s k e) : aI c p i = aT c s k e := by
  rw [aI_at h, aF_eq h0]
theorem dJ0_coder_7d493_0 : decode cJ0_coder_7d493 0 = .ok (.getstatic 38, 3) := dl_178 (by decide +kernel)
theorem wf_J0_38 : Cond.fieldLink RJ0 38 RJ0 "COMPACT_STRINGS" "Z" ∈ TB := tbm (tq3 (List.mem_of_getElem? (i := 50) (by decide +kernel))) (by decide +kernel)
theorem dJ0_coder_7d493_3 : decode cJ0_coder_7d493 3 = .ok (.ifCond .eq 10, 3) := dl_153 (by decide +kernel)
theorem dJ0_coder_7d493_6 : decode cJ0_coder_7d493 6 = .ok (.aload_n 0, 1) := dl_42 (by decide +kernel)
theorem dJ0_coder_7d493_7 : decode cJ0_coder_7d493 7 = .ok (.getfield 15, 3) := dl_180 (by decide +kernel)
theorem wf_J0_15 : Cond.fieldLink RJ0 15 RJ0 "coder" "B" ∈ TB := tbm (tq7 (List.mem_of_getElem? (i := 99) (by decide +kernel))) (by decide +kernel)
theorem dJ0_coder_7d493_10 : decode cJ0_coder_7d493 10 = .ok (.goto 4, 3) := dl_167 (by decide +kernel)
theorem dJ0_coder_7d493_14 : decode cJ0_coder_7d493 14 = .ok (.ireturn, 1) := dl_172 (by decide +kernel)
set_option maxRecDepth 100000 in
set_option maxHeartbeats 4000000 in
theorem j_coder (l : Launch) (E : EV) (ro : va_W) (i : Nat) (hsi : i < sLen.length) : CT l yJ0_coder_7d493 (Cond.code yJ0_coder_7d493 cJ0_coder_7d493 1 (some .byte) :: TB) ({ frames := 0, cells := 0, slots := 0, locals := 0 }) E ro [.ref (E.2.2 (sIdx.getD i 0))] [] (Qi E (fun (rz : Int32) uz => (rz = 0 ∧ uz = []))) 0 0 := by
  refine ct_of rfl rfl ?_
  intro X C hT hin hro
  show WW X 1 E 0 [(0, .ref (E.2.2 (sIdx.getD i 0)))] [] [] 0 0
  refine ww_getCS C wf_J0_38 dJ0_coder_7d493_0 ?_
  refine ww_if_eq_f (tgt := 13) C dJ0_coder_7d493_3 (by decide) (by decide) ?_
  refine ww_aload_n C dJ0_coder_7d493_6 0 rfl rfl ?_
  refine ww_getCd (i := i) C hsi wf_J0_15 dJ0_coder_7d493_7 ?_
  refine ww_goto (tgt := 14) C dJ0_coder_7d493_10 (by decide) ?_
  exact ww_bret (u := []) C hT [] rfl rfl rfl rfl rfl dJ0_coder_7d493_14 (⟨rfl, rfl⟩)
theorem dJ0_length_8abf5_0 : decode cJ0_length_8abf5 0 = .ok (.aload_n 0, 1) := dl_42 (by decide +kernel)
theorem dJ0_length_8abf5_1 : decode cJ0_length_8abf5 1 = .ok (.getfield 9, 3) := dl_180 (by decide +kernel)
theorem wf_J0_9 : Cond.fieldLink RJ0 9 RJ0 "value" "[B" ∈ TB := tbm (tq7 (List.mem_of_getElem? (i := 98) (by decide +kernel))) (by decide +kernel)
theorem dJ0_length_8abf5_4 : decode cJ0_length_8abf5 4 = .ok (.arraylength, 1) := dl_190 (by decide +kernel)
theorem dJ0_length_8abf5_5 : decode cJ0_length_8abf5 5 = .ok (.aload_n 0, 1) := dl_42 (by decide +kernel)
theorem dJ0_length_8abf5_6 : decode cJ0_length_8abf5 6 = .ok (.invokevirtual 335, 3) := dl_182 (by decide +kernel)
theorem wl_J0_335 : Cond.methodLink RJ0 335 yJ0_coder_7d493 ∈ TB := tbm (tq3 (List.mem_of_getElem? (i := 46) (by decide +kernel))) (by decide +kernel)
theorem wc_J0_coder_7d493 : Cond.code yJ0_coder_7d493 cJ0_coder_7d493 1 (some .byte) ∈ TB := tbm (tq3 (List.mem_of_getElem? (i := 49) (rfl))) (by decide +kernel)
theorem wn_J0 : Cond.initialized RJ0 ∈ TB := tbm (tq1 (List.mem_of_getElem? (i := 16) (by decide +kernel))) (by decide +kernel)
theorem wi_J0_coder_7d493 : Cond.instanceMethod yJ0_coder_7d493 ∈ TB := tbm (tq3 (List.mem_of_getElem? (i := 47) (by decide +kernel))) (by decide +kernel)
theorem ws_J0_coder_7d493 : Cond.selects RJ0 yJ0_coder_7d493 yJ0_coder_7d493 ∈ TB := tbm (tq3 (List.mem_of_getElem? (i := 48) (by decide +kernel))) (by decide +kernel)
theorem mi_J0_coder_7d493 : MI yJ0_coder_7d493 cJ0_coder_7d493 1 (some .byte) 0 := ⟨wc_J0_coder_7d493, wn_J0, ⟨by decide +kernel, by decide +kernel, by decide +kernel⟩, wi_J0_coder_7d493, ws_J0_coder_7d493⟩
theorem dJ0_length_8abf5_9 : decode cJ0_length_8abf5 9 = .ok (.ishr, 1) := dl_122 (by decide +kernel)
theorem dJ0_length_8abf5_10 : decode cJ0_length_8abf5 10 = .ok (.ireturn, 1) := dl_172 (by decide +kernel)
set_option maxRecDepth 100000 in
set_option maxHeartbeats 4000000 in
theorem j_length (l : Launch) (E : EV) (ro : va_W) (i : Nat) (hsi : i < sLen.length) : CT l yJ0_length_8abf5 (Cond.code yJ0_length_8abf5 cJ0_length_8abf5 1 (some .int) :: TB) ({ frames := 1, cells := 0, slots := 0, locals := 20 }) E ro [.ref (E.2.2 (sIdx.getD i 0))] [] (Qi E (fun (rz : Int32) uz => (rz = (nI (sLen.getD i 0)) ∧ uz = []))) 0 0 := by
  refine ct_of rfl rfl ?_
  intro X C hT hin hro
  show WW X 1 E 0 [(0, .ref (E.2.2 (sIdx.getD i 0)))] [] [] 0 0
  refine ww_aload_n C dJ0_length_8abf5_0 0 rfl rfl ?_
  refine ww_getVl (i := i) C hsi wf_J0_9 dJ0_length_8abf5_1 ?_
  refine ww_lenS (i := i) (v := (nI (sLen.getD i 0))) C hsi rfl dJ0_length_8abf5_4 ?_
  refine ww_aload_n C dJ0_length_8abf5_5 0 rfl rfl ?_
  refine ww_ci (wr := []) (k' := 0) (n' := 0) C (run_VS (As := []) (rest := [.int (nI (sLen.getD i 0))]) C i hsi (j_coder X.2.1 E ro i hsi) mi_J0_coder_7d493 wl_J0_335 rfl rfl rfl rfl rfl dJ0_length_8abf5_6) (roK hro) [] [] rfl rfl rfl rfl (fun r_1 uz hw => ?_)
  refine an1 hw ?_
  clear hw
  intro he_2 hw
  have he_3 := hw
  clear hw
  have he_2 := he_2.symm
  subst he_2
  subst he_3
  refine ww_eq (ws' := []) ?_ rfl rfl rfl
  refine ww_ishr (v := (nI (sLen.getD i 0))) C dJ0_length_8abf5_9 (shr_0 _) ?_
  exact ww_iret (u := []) C hT [] rfl rfl rfl rfl dJ0_length_8abf5_10 (⟨rfl, rfl⟩)
theorem dJ0_isLatin1_aae02_0 : decode cJ0_isLatin1_aae02 0 = .ok (.getstatic 38, 3) := dl_178 (by decide +kernel)
theorem dJ0_isLatin1_aae02_3 : decode cJ0_isLatin1_aae02 3 = .ok (.ifCond .eq 14, 3) := dl_153 (by decide +kernel)
theorem dJ0_isLatin1_aae02_6 : decode cJ0_isLatin1_aae02 6 = .ok (.aload_n 0, 1) := dl_42 (by decide +kernel)
theorem dJ0_isLatin1_aae02_7 : decode cJ0_isLatin1_aae02 7 = .ok (.getfield 15, 3) := dl_180 (by decide +kernel)
theorem dJ0_isLatin1_aae02_10 : decode cJ0_isLatin1_aae02 10 = .ok (.ifCond .ne 7, 3) := dl_154 (by decide +kernel)
theorem dJ0_isLatin1_aae02_13 : decode cJ0_isLatin1_aae02 13 = .ok (.iconst 1, 1) := dl_4 (by decide +kernel)
theorem dJ0_isLatin1_aae02_14 : decode cJ0_isLatin1_aae02 14 = .ok (.goto 4, 3) := dl_167 (by decide +kernel)
theorem dJ0_isLatin1_aae02_18 : decode cJ0_isLatin1_aae02 18 = .ok (.ireturn, 1) := dl_172 (by decide +kernel)
set_option maxRecDepth 100000 in
set_option maxHeartbeats 4000000 in
theorem j_isLatin1 (l : Launch) (E : EV) (ro : va_W) (i : Nat) (hsi : i < sLen.length) : CT l yJ0_isLatin1_aae02 (Cond.code yJ0_isLatin1_aae02 cJ0_isLatin1_aae02 1 (some .boolean) :: TB) ({ frames := 0, cells := 0, slots := 0, locals := 0 }) E ro [.ref (E.2.2 (sIdx.getD i 0))] [] (Qi E (fun (rz : Int32) uz => (rz = 1 ∧ uz = []))) 0 0 := by
  refine ct_of rfl rfl ?_
  intro X C hT hin hro
  show WW X 1 E 0 [(0, .ref (E.2.2 (sIdx.getD i 0)))] [] [] 0 0
  refine ww_getCS C wf_J0_38 dJ0_isLatin1_aae02_0 ?_
  refine ww_if_eq_f (tgt := 17) C dJ0_isLatin1_aae02_3 (by decide) (by decide) ?_
  refine ww_aload_n C dJ0_isLatin1_aae02_6 0 rfl rfl ?_
  refine ww_getCd (i := i) C hsi wf_J0_15 dJ0_isLatin1_aae02_7 ?_
  refine ww_if_ne_f (tgt := 17) C dJ0_isLatin1_aae02_10 (by decide) (rfl) ?_
  refine ww_iconst (v := 1) C dJ0_isLatin1_aae02_13 rfl ?_
  refine ww_goto (tgt := 18) C dJ0_isLatin1_aae02_14 (by decide) ?_
  exact ww_zret (u := []) C hT [] rfl rfl rfl rfl rfl dJ0_isLatin1_aae02_18 (⟨rfl, rfl⟩)
theorem dJ3_checkIndex_8e157_0 : decode cJ3_checkIndex_8e157 0 = .ok (.iload_n 0, 1) := dl_26 (by decide +kernel)
theorem dJ3_checkIndex_8e157_1 : decode cJ3_checkIndex_8e157 1 = .ok (.ifCond .lt 8, 3) := dl_155 (by decide +kernel)
theorem dJ3_checkIndex_8e157_4 : decode cJ3_checkIndex_8e157 4 = .ok (.iload_n 0, 1) := dl_26 (by decide +kernel)
theorem dJ3_checkIndex_8e157_5 : decode cJ3_checkIndex_8e157 5 = .ok (.iload_n 1, 1) := dl_27 (by decide +kernel)
theorem dJ3_checkIndex_8e157_6 : decode cJ3_checkIndex_8e157 6 = .ok (.if_icmp .lt 10, 3) := dl_161 (by decide +kernel)
theorem dJ3_checkIndex_8e157_16 : decode cJ3_checkIndex_8e157 16 = .ok (.iload_n 0, 1) := dl_26 (by decide +kernel)
theorem dJ3_checkIndex_8e157_17 : decode cJ3_checkIndex_8e157 17 = .ok (.ireturn, 1) := dl_172 (by decide +kernel)
set_option maxRecDepth 100000 in
set_option maxHeartbeats 4000000 in
theorem j_chk3N (l : Launch) (E : EV) (ro : va_W) (j : Nat) (m : Nat) (hj : j < m) (hm : m ≤ 1000) : CT l yJ3_checkIndex_8e157 (Cond.code yJ3_checkIndex_8e157 cJ3_checkIndex_8e157 3 (some .int) :: TB) ({ frames := 0, cells := 0, slots := 0, locals := 0 }) E ro [.int (nI j), .int (nI m), .null] [] (Qi E (fun (rz : Int32) uz => (rz = (nI j) ∧ uz = []))) 0 0 := by
  refine ct_of rfl rfl ?_
  intro X C hT hin hro
  show WW X 3 E 0 [(0, .int (nI j)), (1, .int (nI m)), (2, .null)] [] [] 0 0
  refine ww_iload_n C dJ3_checkIndex_8e157_0 0 rfl rfl ?_
  refine ww_if_lt (tgt := 9) C dJ3_checkIndex_8e157_1 (by decide) (fun c_1 => ?_) (fun c_1 => ?_)
  · have zc_1 : ((j : Nat) : Int) < 0 := i_lt (nI_toInt (n := j) (by omega)) rfl c_1
    omega
  · have zc_1 : ((j : Nat) : Int) ≥ 0 := i_nlt (nI_toInt (n := j) (by omega)) rfl c_1
    refine ww_iload_n C dJ3_checkIndex_8e157_4 0 rfl rfl ?_
    refine ww_iload_n C dJ3_checkIndex_8e157_5 1 rfl rfl ?_
    refine ww_icmp_lt (tgt := 16) C dJ3_checkIndex_8e157_6 (by decide) (fun c_2 => ?_) (fun c_2 => ?_)
    · have zc_2 : ((j : Nat) : Int) < ((m : Nat) : Int) := i_lt (nI_toInt (n := j) (by omega)) (nI_toInt (n := m) (by omega)) c_2
      refine ww_iload_n C dJ3_checkIndex_8e157_16 0 rfl rfl ?_
      exact ww_iret (u := []) C hT [] rfl rfl rfl rfl dJ3_checkIndex_8e157_17 (⟨rfl, rfl⟩)
    · have zc_2 : ((j : Nat) : Int) ≥ ((m : Nat) : Int) := i_nlt (nI_toInt (n := j) (by omega)) (nI_toInt (n := m) (by omega)) c_2
      omega
set_option maxRecDepth 100000 in
set_option maxHeartbeats 4000000 in
theorem j_chk3R (l : Launch) (E : EV) (ro : va_W) (j : Nat) (m : Nat) (fm : Nat) (hj : j < m) (hm : m ≤ 1000) : CT l yJ3_checkIndex_8e157 (Cond.code yJ3_checkIndex_8e157 cJ3_checkIndex_8e157 3 (some .int) :: TB) ({ frames := 0, cells := 0, slots := 0, locals := 0 }) E ro [.int (nI j), .int (nI m), .ref fm] [] (Qi E (fun (rz : Int32) uz => (rz = (nI j) ∧ uz = []))) 0 0 := by
  refine ct_of rfl rfl ?_
  intro X C hT hin hro
  show WW X 3 E 0 [(0, .int (nI j)), (1, .int (nI m)), (2, .ref fm)] [] [] 0 0
  refine ww_iload_n C dJ3_checkIndex_8e157_0 0 rfl rfl ?_
  refine ww_if_lt (tgt := 9) C dJ3_checkIndex_8e157_1 (by decide) (fun c_1 => ?_) (fun c_1 => ?_)
  · have zc_1 : ((j : Nat) : Int) < 0 := i_lt (nI_toInt (n := j) (by omega)) rfl c_1
    omega
  · have zc_1 : ((j : Nat) : Int) ≥ 0 := i_nlt (nI_toInt (n := j) (by omega)) rfl c_1
    refine ww_iload_n C dJ3_checkIndex_8e157_4 0 rfl rfl ?_
    refine ww_iload_n C dJ3_checkIndex_8e157_5 1 rfl rfl ?_
    refine ww_icmp_lt (tgt := 16) C dJ3_checkIndex_8e157_6 (by decide) (fun c_2 => ?_) (fun c_2 => ?_)
    · have zc_2 : ((j : Nat) : Int) < ((m : Nat) : Int) := i_lt (nI_toInt (n := j) (by omega)) (nI_toInt (n := m) (by omega)) c_2
      refine ww_iload_n C dJ3_checkIndex_8e157_16 0 rfl rfl ?_
      exact ww_iret (u := []) C hT [] rfl rfl rfl rfl dJ3_checkIndex_8e157_17 (⟨rfl, rfl⟩)
    · have zc_2 : ((j : Nat) : Int) ≥ ((m : Nat) : Int) := i_nlt (nI_toInt (n := j) (by omega)) (nI_toInt (n := m) (by omega)) c_2
      omega
theorem dJ0_checkIndex_df160_0 : decode cJ0_checkIndex_df160 0 = .ok (.iload_n 0, 1) := dl_26 (by decide +kernel)
theorem dJ0_checkIndex_df160_1 : decode cJ0_checkIndex_df160 1 = .ok (.iload_n 1, 1) := dl_27 (by decide +kernel)
theorem dJ0_checkIndex_df160_2 : decode cJ0_checkIndex_df160 2 = .ok (.getstatic 1053, 3) := dl_178 (by decide +kernel)
theorem wf_J0_1053 : Cond.fieldLink RJ0 1053 RJ3 "SIOOBE_FORMATTER" "Ljava/util/function/BiFunction;" ∈ TB := tbm (tq3 (List.mem_of_getElem? (i := 66) (by decide +kernel))) (by decide +kernel)
theorem dJ0_checkIndex_df160_5 : decode cJ0_checkIndex_df160 5 = .ok (.invokestatic 1059, 3) := dl_184 (by decide +kernel)
theorem wl_J0_1059 : Cond.methodLink RJ0 1059 yJ3_checkIndex_8e157 ∈ TB := tbm (tq3 (List.mem_of_getElem? (i := 68) (by decide +kernel))) (by decide +kernel)
theorem wc_J3_checkIndex_8e157 : Cond.code yJ3_checkIndex_8e157 cJ3_checkIndex_8e157 3 (some .int) ∈ TB := tbm (tq3 (List.mem_of_getElem? (i := 70) (rfl))) (by decide +kernel)
theorem wn_J3 : Cond.initialized RJ3 ∈ TB := tbm (tq1 (List.mem_of_getElem? (i := 18) (by decide +kernel))) (by decide +kernel)
theorem wt_J3_checkIndex_8e157 : Cond.static yJ3_checkIndex_8e157 ∈ TB := tbm (tq3 (List.mem_of_getElem? (i := 69) (by decide +kernel))) (by decide +kernel)
theorem ms_J3_checkIndex_8e157 : MS yJ3_checkIndex_8e157 cJ3_checkIndex_8e157 3 (some .int) 3 := ⟨wc_J3_checkIndex_8e157, wn_J3, ⟨by decide +kernel, by decide +kernel, by decide +kernel⟩, wt_J3_checkIndex_8e157⟩
theorem dJ0_checkIndex_df160_8 : decode cJ0_checkIndex_df160 8 = .ok (.pop, 1) := dl_87 (by decide +kernel)
theorem dJ0_checkIndex_df160_9 : decode cJ0_checkIndex_df160 9 = .ok (.return_, 1) := dl_177 (by decide +kernel)
set_option maxRecDepth 100000 in
set_option maxHeartbeats 4000000 in
theorem j_chk (l : Launch) (E : EV) (ro : va_W) (j : Nat) (m : Nat) (hj : j < m) (hm : m ≤ 1000) : CT l yJ0_checkIndex_df160 (Cond.code yJ0_checkIndex_df160 cJ0_checkIndex_df160 2 none :: TB) ({ frames := 1, cells := 0, slots := 0, locals := 22 }) E ro [.int (nI j), .int (nI m)] [] (Qv E (fun uz => (uz = []))) 0 0 := by
  refine ct_of rfl rfl ?_
  intro X C hT hin hro
  show WW X 2 E 0 [(0, .int (nI j)), (1, .int (nI m))] [] [] 0 0
  refine ww_iload_n C dJ0_checkIndex_df160_0 0 rfl rfl ?_
  refine ww_iload_n C dJ0_checkIndex_df160_1 1 rfl rfl ?_
  refine ww_getSF C wf_J0_1053 dJ0_checkIndex_df160_2 ?_ (fun t_1 => ?_)
  · refine ww_ci (wr := []) (k' := 0) (n' := 0) C (run_S (As := [.int (nI j), .int (nI m), .null]) (rest := []) C (j_chk3N X.2.1 E ro j m (by omega) (by omega)) ms_J3_checkIndex_8e157 wl_J0_1059 rfl rfl rfl rfl dJ0_checkIndex_df160_5) (roK hro) [] [] rfl rfl rfl rfl (fun r_2 uz hw => ?_)
    refine an1 hw ?_
    clear hw
    intro he_3 hw
    have he_4 := hw
    clear hw
    have he_3 := he_3.symm
    subst he_3
    subst he_4
    refine ww_eq (ws' := []) ?_ rfl rfl rfl
    refine ww_pop C dJ0_checkIndex_df160_8 rfl ?_
    exact ww_vret (u := []) C hT [] rfl rfl rfl rfl dJ0_checkIndex_df160_9 (rfl)
  · refine ww_ci (wr := []) (k' := 0) (n' := 0) C (run_S (As := [.int (nI j), .int (nI m), .ref t_1]) (rest := []) C (j_chk3R X.2.1 E ro j m t_1 (by omega) (by omega)) ms_J3_checkIndex_8e157 wl_J0_1059 rfl rfl rfl rfl dJ0_checkIndex_df160_5) (roK hro) [] [] rfl rfl rfl rfl (fun r_5 uz hw => ?_)
    refine an1 hw ?_
    clear hw
    intro he_6 hw
    have he_7 := hw
    clear hw
    have he_6 := he_6.symm
    subst he_6
    subst he_7
    refine ww_eq (ws' := []) ?_ rfl rfl rfl
    refine ww_pop C dJ0_checkIndex_df160_8 rfl ?_
    exact ww_vret (u := []) C hT [] rfl rfl rfl rfl dJ0_checkIndex_df160_9 (rfl)
theorem dJ1_charAt_3b067_0 : decode cJ1_charAt_3b067 0 = .ok (.iload_n 1, 1) := dl_27 (by decide +kernel)
theorem dJ1_charAt_3b067_1 : decode cJ1_charAt_3b067 1 = .ok (.aload_n 0, 1) := dl_42 (by decide +kernel)
theorem dJ1_charAt_3b067_2 : decode cJ1_charAt_3b067 2 = .ok (.arraylength, 1) := dl_190 (by decide +kernel)
theorem dJ1_charAt_3b067_3 : decode cJ1_charAt_3b067 3 = .ok (.invokestatic 9, 3) := dl_184 (by decide +kernel)
theorem wl_J1_9 : Cond.methodLink RJ1 9 yJ0_checkIndex_df160 ∈ TB := tbm (tq3 (List.mem_of_getElem? (i := 63) (by decide +kernel))) (by decide +kernel)
theorem wc_J0_checkIndex_df160 : Cond.code yJ0_checkIndex_df160 cJ0_checkIndex_df160 2 none ∈ TB := tbm (tq3 (List.mem_of_getElem? (i := 65) (rfl))) (by decide +kernel)
theorem wt_J0_checkIndex_df160 : Cond.static yJ0_checkIndex_df160 ∈ TB := tbm (tq3 (List.mem_of_getElem? (i := 64) (by decide +kernel))) (by decide +kernel)
theorem ms_J0_checkIndex_df160 : MS yJ0_checkIndex_df160 cJ0_checkIndex_df160 2 none 2 := ⟨wc_J0_checkIndex_df160, wn_J0, ⟨by decide +kernel, by decide +kernel, by decide +kernel⟩, wt_J0_checkIndex_df160⟩
theorem dJ1_charAt_3b067_6 : decode cJ1_charAt_3b067 6 = .ok (.aload_n 0, 1) := dl_42 (by decide +kernel)
theorem dJ1_charAt_3b067_7 : decode cJ1_charAt_3b067 7 = .ok (.iload_n 1, 1) := dl_27 (by decide +kernel)
theorem dJ1_charAt_3b067_8 : decode cJ1_charAt_3b067 8 = .ok (.baload, 1) := dl_51 (by decide +kernel)
theorem dJ1_charAt_3b067_9 : decode cJ1_charAt_3b067 9 = .ok (.sipush 255, 3) := dl_17 (by decide +kernel)
theorem dJ1_charAt_3b067_12 : decode cJ1_charAt_3b067 12 = .ok (.iand, 1) := dl_126 (by decide +kernel)
theorem dJ1_charAt_3b067_13 : decode cJ1_charAt_3b067 13 = .ok (.i2c, 1) := by decide +kernel
theorem dJ1_charAt_3b067_14 : decode cJ1_charAt_3b067 14 = .ok (.ireturn, 1) := dl_172 (by decide +kernel)
set_option maxRecDepth 100000 in
set_option maxHeartbeats 4000000 in
theorem j_chr1 (l : Launch) (E : EV) (ro : va_W) (j : Nat) (i : Nat) (hsi : i < sLen.length) (hj : j < sLen.getD i 0) : CT l yJ1_charAt_3b067 (Cond.code yJ1_charAt_3b067 cJ1_charAt_3b067 2 (some .char) :: TB) ({ frames := 2, cells := 0, slots := 0, locals := 43 }) E ro [.ref (E.2.2 (1000 + i)), .int (nI j)] [] (Qi E (fun (rz : Int32) uz => (rz = ((sByt.getD i []).getD j 0) ∧ uz = []))) 0 0 := by
  refine ct_of rfl rfl ?_
  intro X C hT hin hro
  show WW X 2 E 0 [(0, .ref (E.2.2 (1000 + i))), (1, .int (nI j))] [] [] 0 0
  have hsl := sl_le i
  refine ww_iload_n C dJ1_charAt_3b067_0 1 rfl rfl ?_
  refine ww_aload_n C dJ1_charAt_3b067_1 0 rfl rfl ?_
  refine ww_lenS (i := i) (v := (nI (sLen.getD i 0))) C hsi rfl dJ1_charAt_3b067_2 ?_
  refine ww_cv (wr := []) (k' := 0) (n' := 0) C (run_S (As := [.int (nI j), .int (nI (sLen.getD i 0))]) (rest := []) C (j_chk X.2.1 E ro j (sLen.getD i 0) (by omega) (by omega)) ms_J0_checkIndex_df160 wl_J1_9 rfl rfl rfl rfl dJ1_charAt_3b067_3) (roK hro) [] [] rfl rfl rfl rfl (fun uz hw => ?_)
  have he_2 := hw
  clear hw
  subst he_2
  refine ww_eq (ws' := []) ?_ rfl rfl rfl
  refine ww_aload_n C dJ1_charAt_3b067_6 0 rfl rfl ?_
  refine ww_iload_n C dJ1_charAt_3b067_7 1 rfl rfl ?_
  refine ww_baldS (i := i) (v := ((sByt.getD i []).getD j 0)) C hsi (vp_in_nI (by omega) (by omega)) (ldn (f := fun q => (sByt.getD i []).getD q 0) (by omega) rfl) dJ1_charAt_3b067_8 ?_
  refine ww_sipush (v := 255) C dJ1_charAt_3b067_9 rfl ?_
  obtain ⟨x_3, ex_3⟩ : ∃ z : Int32, ((sByt.getD i []).getD j 0) &&& 255 = z := ⟨_, rfl⟩
  refine ww_iand (v := x_3) C dJ1_charAt_3b067_12 ex_3 ?_
  obtain ⟨x_4, ex_4⟩ : ∃ z : Int32, (x_3.toUInt32 % 65536).toInt32 = z := ⟨_, rfl⟩
  refine ww_i2c (v := x_4) C dJ1_charAt_3b067_13 ex_4 ?_
  refine ww_eq (st' := [.int ((sByt.getD i []).getD j 0)]) ?_ rfl (by rw [sb_c (y := x_4) hsi hj (by assumption) (by assumption)]) rfl
  exact ww_cret (u := []) C hT [] rfl rfl rfl rfl (sb_n hsi hj) dJ1_charAt_3b067_14 (⟨rfl, rfl⟩)
theorem dJ0_charAt_5068e_0 : decode cJ0_charAt_5068e 0 = .ok (.aload_n 0, 1) := dl_42 (by decide +kernel)
theorem dJ0_charAt_5068e_1 : decode cJ0_charAt_5068e 1 = .ok (.invokevirtual 492, 3) := dl_182 (by decide +kernel)
theorem wl_J0_492 : Cond.methodLink RJ0 492 yJ0_isLatin1_aae02 ∈ TB := tbm (tq3 (List.mem_of_getElem? (i := 56) (by decide +kernel))) (by decide +kernel)
theorem wc_J0_isLatin1_aae02 : Cond.code yJ0_isLatin1_aae02 cJ0_isLatin1_aae02 1 (some .boolean) ∈ TB := tbm (tq3 (List.mem_of_getElem? (i := 59) (rfl))) (by decide +kernel)
theorem wi_J0_isLatin1_aae02 : Cond.instanceMethod yJ0_isLatin1_aae02 ∈ TB := tbm (tq3 (List.mem_of_getElem? (i := 57) (by decide +kernel))) (by decide +kernel)
theorem ws_J0_isLatin1_aae02 : Cond.selects RJ0 yJ0_isLatin1_aae02 yJ0_isLatin1_aae02 ∈ TB := tbm (tq3 (List.mem_of_getElem? (i := 58) (by decide +kernel))) (by decide +kernel)
theorem mi_J0_isLatin1_aae02 : MI yJ0_isLatin1_aae02 cJ0_isLatin1_aae02 1 (some .boolean) 0 := ⟨wc_J0_isLatin1_aae02, wn_J0, ⟨by decide +kernel, by decide +kernel, by decide +kernel⟩, wi_J0_isLatin1_aae02, ws_J0_isLatin1_aae02⟩
theorem dJ0_charAt_5068e_4 : decode cJ0_charAt_5068e 4 = .ok (.ifCond .eq 12, 3) := dl_153 (by decide +kernel)
theorem dJ0_charAt_5068e_7 : decode cJ0_charAt_5068e 7 = .ok (.aload_n 0, 1) := dl_42 (by decide +kernel)
theorem dJ0_charAt_5068e_8 : decode cJ0_charAt_5068e 8 = .ok (.getfield 9, 3) := dl_180 (by decide +kernel)
theorem dJ0_charAt_5068e_11 : decode cJ0_charAt_5068e 11 = .ok (.iload_n 1, 1) := dl_27 (by decide +kernel)
theorem dJ0_charAt_5068e_12 : decode cJ0_charAt_5068e 12 = .ok (.invokestatic 495, 3) := dl_184 (by decide +kernel)
theorem wl_J0_495 : Cond.methodLink RJ0 495 yJ1_charAt_3b067 ∈ TB := tbm (tq3 (List.mem_of_getElem? (i := 60) (by decide +kernel))) (by decide +kernel)
theorem wc_J1_charAt_3b067 : Cond.code yJ1_charAt_3b067 cJ1_charAt_3b067 2 (some .char) ∈ TB := tbm (tq3 (List.mem_of_getElem? (i := 62) (rfl))) (by decide +kernel)
theorem wn_J1 : Cond.initialized RJ1 ∈ TB := tbm (tq1 (List.mem_of_getElem? (i := 17) (by decide +kernel))) (by decide +kernel)
theorem wt_J1_charAt_3b067 : Cond.static yJ1_charAt_3b067 ∈ TB := tbm (tq3 (List.mem_of_getElem? (i := 61) (by decide +kernel))) (by decide +kernel)
theorem ms_J1_charAt_3b067 : MS yJ1_charAt_3b067 cJ1_charAt_3b067 2 (some .char) 2 := ⟨wc_J1_charAt_3b067, wn_J1, ⟨by decide +kernel, by decide +kernel, by decide +kernel⟩, wt_J1_charAt_3b067⟩
theorem dJ0_charAt_5068e_15 : decode cJ0_charAt_5068e 15 = .ok (.ireturn, 1) := dl_172 (by decide +kernel)
set_option maxRecDepth 100000 in
set_option maxHeartbeats 4000000 in
theorem j_chr0 (l : Launch) (E : EV) (ro : va_W) (j : Nat) (i : Nat) (hsi : i < sLen.length) (hj : j < sLen.getD i 0) : CT l yJ0_charAt_5068e (Cond.code yJ0_charAt_5068e cJ0_charAt_5068e 2 (some .char) :: TB) ({ frames := 3, cells := 0, slots := 0, locals := 64 }) E ro [.ref (E.2.2 (sIdx.getD i 0)), .int (nI j)] [] (Qi E (fun (rz : Int32) uz => (rz = ((sByt.getD i []).getD j 0) ∧ uz = []))) 0 0 := by
  refine ct_of rfl rfl ?_
  intro X C hT hin hro
  show WW X 2 E 0 [(0, .ref (E.2.2 (sIdx.getD i 0))), (1, .int (nI j))] [] [] 0 0
  have hsl := sl_le i
  refine ww_aload_n C dJ0_charAt_5068e_0 0 rfl rfl ?_
  refine ww_ci (wr := []) (k' := 0) (n' := 0) C (run_VS (As := []) (rest := []) C i hsi (j_isLatin1 X.2.1 E ro i hsi) mi_J0_isLatin1_aae02 wl_J0_492 rfl rfl rfl rfl rfl dJ0_charAt_5068e_1) (roK hro) [] [] rfl rfl rfl rfl (fun r_1 uz hw => ?_)
  refine an1 hw ?_
  clear hw
  intro he_2 hw
  have he_3 := hw
  clear hw
  have he_2 := he_2.symm
  subst he_2
  subst he_3
  refine ww_eq (ws' := []) ?_ rfl rfl rfl
  refine ww_if_eq_f (tgt := 16) C dJ0_charAt_5068e_4 (by decide) (by decide) ?_
  refine ww_aload_n C dJ0_charAt_5068e_7 0 rfl rfl ?_
  refine ww_getVl (i := i) C hsi wf_J0_9 dJ0_charAt_5068e_8 ?_
  refine ww_iload_n C dJ0_charAt_5068e_11 1 rfl rfl ?_
  refine ww_ci (wr := []) (k' := 0) (n' := 0) C (run_S (As := [.ref (E.2.2 (1000 + i)), .int (nI j)]) (rest := []) C (j_chr1 X.2.1 E ro j i hsi (by omega)) ms_J1_charAt_3b067 wl_J0_495 rfl rfl rfl rfl dJ0_charAt_5068e_12) (roK hro) [] [] rfl rfl rfl rfl (fun r_4 uz hw => ?_)
  refine an1 hw ?_
  clear hw
  intro he_5 hw
  have he_6 := hw
  clear hw
  have he_5 := he_5.symm
  subst he_5
  subst he_6
  refine ww_eq (ws' := []) ?_ rfl rfl rfl
  exact ww_cret (u := []) C hT [] rfl rfl rfl rfl (sb_n hsi hj) dJ0_charAt_5068e_15 (⟨rfl, rfl⟩)
end
