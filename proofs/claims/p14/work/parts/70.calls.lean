section
/-- the secrets of a person, and what a call makes of them -/
def sc (kn : Int32) (i : Nat) : Int32 := kn >>> (nI (4 * i) &&& 31) &&& 15
def cl (kn : Int32) (i j : Nat) : Int32 := kn ||| (sc kn i ||| sc kn j) <<< (nI (4 * i) &&& 31) ||| (sc kn i ||| sc kn j) <<< (nI (4 * j) &&& 31)
theorem dX11_secretsOf_0 : decode cX11_secretsOf 0 = .ok (.iload_n 0, 1) := dl_26 (by decide +kernel)
theorem dX11_secretsOf_1 : decode cX11_secretsOf 1 = .ok (.iconst 4, 1) := dl_7 (by decide +kernel)
theorem dX11_secretsOf_2 : decode cX11_secretsOf 2 = .ok (.iload_n 1, 1) := dl_27 (by decide +kernel)
theorem dX11_secretsOf_3 : decode cX11_secretsOf 3 = .ok (.imul, 1) := dl_104 (by decide +kernel)
theorem dX11_secretsOf_4 : decode cX11_secretsOf 4 = .ok (.ishr, 1) := dl_122 (by decide +kernel)
theorem dX11_secretsOf_5 : decode cX11_secretsOf 5 = .ok (.bipush 15, 2) := dl_16 (by decide +kernel)
theorem dX11_secretsOf_7 : decode cX11_secretsOf 7 = .ok (.iand, 1) := dl_126 (by decide +kernel)
theorem dX11_secretsOf_8 : decode cX11_secretsOf 8 = .ok (.ireturn, 1) := dl_172 (by decide +kernel)
set_option maxRecDepth 100000 in
set_option maxHeartbeats 4000000 in
theorem c_secretsOf (l : Launch) (E : EV) (ro : va_W) (kn : Int32) (i : Nat)  : CT l yX11_secretsOf (Cond.code yX11_secretsOf cX11_secretsOf 2 (some .int) :: TB) ({ frames := 0, cells := 0, slots := 0, locals := 0 }) E ro [.int kn, .int (nI i)] [] (Qi E (fun (rz : Int32) uz => (rz = (sc kn i) ∧ uz = []))) 0 0 := by
  refine ct_of rfl rfl ?_
  intro X C hT hin hro
  show WW X 2 E 0 [(0, .int kn), (1, .int (nI i))] [] [] 0 0
  refine ww_iload_n C dX11_secretsOf_0 0 rfl rfl ?_
  refine ww_iconst (v := 4) C dX11_secretsOf_1 rfl ?_
  refine ww_iload_n C dX11_secretsOf_2 1 rfl rfl ?_
  refine ww_imul (v := (nI (4 * i))) C dX11_secretsOf_3 (pk_mul 4 i) ?_
  obtain ⟨x_1, ex_1⟩ : ∃ z : Int32, kn >>> ((nI (4 * i)) &&& 31) = z := ⟨_, rfl⟩
  refine ww_ishr (v := x_1) C dX11_secretsOf_4 ex_1 ?_
  refine ww_bipush (v := 15) C dX11_secretsOf_5 rfl ?_
  obtain ⟨x_2, ex_2⟩ : ∃ z : Int32, x_1 &&& (15 : Int32) = z := ⟨_, rfl⟩
  refine ww_iand (v := x_2) C dX11_secretsOf_7 ex_2 ?_
  exact ww_iret (u := []) C hT [] rfl rfl rfl rfl dX11_secretsOf_8 (⟨(by subst_vars; rfl), rfl⟩)
theorem dX11_called_0 : decode cX11_called 0 = .ok (.iload_n 0, 1) := dl_26 (by decide +kernel)
theorem dX11_called_1 : decode cX11_called 1 = .ok (.iload_n 1, 1) := dl_27 (by decide +kernel)
theorem dX11_called_2 : decode cX11_called 2 = .ok (.invokestatic 308, 3) := dl_184 (by decide +kernel)
theorem wl_X11_308 : Cond.methodLink RX11 308 yX11_secretsOf ∈ TB := tbm (tq5 (List.mem_of_getElem? (i := 9) (by decide +kernel))) (by decide +kernel)
theorem wc_X11_secretsOf : Cond.code yX11_secretsOf cX11_secretsOf 2 (some .int) ∈ TB := tbm (tq5 (List.mem_of_getElem? (i := 11) (rfl))) (by decide +kernel)
theorem wt_X11_secretsOf : Cond.static yX11_secretsOf ∈ TB := tbm (tq5 (List.mem_of_getElem? (i := 10) (by decide +kernel))) (by decide +kernel)
theorem ms_X11_secretsOf : MS yX11_secretsOf cX11_secretsOf 2 (some .int) 2 := ⟨wc_X11_secretsOf, wn_X11, ⟨by decide +kernel, by decide +kernel, by decide +kernel⟩, wt_X11_secretsOf⟩
theorem dX11_called_5 : decode cX11_called 5 = .ok (.iload_n 0, 1) := dl_26 (by decide +kernel)
theorem dX11_called_6 : decode cX11_called 6 = .ok (.iload_n 2, 1) := dl_28 (by decide +kernel)
theorem dX11_called_7 : decode cX11_called 7 = .ok (.invokestatic 308, 3) := dl_184 (by decide +kernel)
theorem dX11_called_10 : decode cX11_called 10 = .ok (.ior, 1) := dl_128 (by decide +kernel)
theorem dX11_called_11 : decode cX11_called 11 = .ok (.istore_n 3, 1) := dl_62 (by decide +kernel)
theorem dX11_called_12 : decode cX11_called 12 = .ok (.iload_n 0, 1) := dl_26 (by decide +kernel)
theorem dX11_called_13 : decode cX11_called 13 = .ok (.iload_n 3, 1) := dl_29 (by decide +kernel)
theorem dX11_called_14 : decode cX11_called 14 = .ok (.iconst 4, 1) := dl_7 (by decide +kernel)
theorem dX11_called_15 : decode cX11_called 15 = .ok (.iload_n 1, 1) := dl_27 (by decide +kernel)
theorem dX11_called_16 : decode cX11_called 16 = .ok (.imul, 1) := dl_104 (by decide +kernel)
theorem dX11_called_17 : decode cX11_called 17 = .ok (.ishl, 1) := dl_120 (by decide +kernel)
theorem dX11_called_18 : decode cX11_called 18 = .ok (.ior, 1) := dl_128 (by decide +kernel)
theorem dX11_called_19 : decode cX11_called 19 = .ok (.iload_n 3, 1) := dl_29 (by decide +kernel)
theorem dX11_called_20 : decode cX11_called 20 = .ok (.iconst 4, 1) := dl_7 (by decide +kernel)
theorem dX11_called_21 : decode cX11_called 21 = .ok (.iload_n 2, 1) := dl_28 (by decide +kernel)
theorem dX11_called_22 : decode cX11_called 22 = .ok (.imul, 1) := dl_104 (by decide +kernel)
theorem dX11_called_23 : decode cX11_called 23 = .ok (.ishl, 1) := dl_120 (by decide +kernel)
theorem dX11_called_24 : decode cX11_called 24 = .ok (.ior, 1) := dl_128 (by decide +kernel)
theorem dX11_called_25 : decode cX11_called 25 = .ok (.ireturn, 1) := dl_172 (by decide +kernel)
set_option maxRecDepth 100000 in
set_option maxHeartbeats 4000000 in
theorem c_called (l : Launch) (E : EV) (ro : va_W) (kn : Int32) (i : Nat) (j : Nat)  : CT l yX11_called (Cond.code yX11_called cX11_called 4 (some .int) :: TB) ({ frames := 1, cells := 0, slots := 0, locals := 21 }) E ro [.int kn, .int (nI i), .int (nI j)] [] (Qi E (fun (rz : Int32) uz => (rz = (cl kn i j) ∧ uz = []))) 0 0 := by
  refine ct_of rfl rfl ?_
  intro X C hT hin hro
  show WW X 4 E 0 [(0, .int kn), (1, .int (nI i)), (2, .int (nI j))] [] [] 0 0
  refine ww_iload_n C dX11_called_0 0 rfl rfl ?_
  refine ww_iload_n C dX11_called_1 1 rfl rfl ?_
  refine ww_ci (wr := []) (k' := 0) (n' := 0) C (run_S (As := [.int kn, .int (nI i)]) (rest := []) C (c_secretsOf X.2.1 E ro kn i) ms_X11_secretsOf wl_X11_308 rfl rfl rfl rfl dX11_called_2) (roK hro) [] [] rfl rfl rfl rfl (fun r_1 uz hw => ?_)
  refine an1 hw ?_
  clear hw
  intro he_2 hw
  have he_3 := hw
  clear hw
  have he_2 := he_2.symm
  subst he_2
  subst he_3
  refine ww_eq (ws' := []) ?_ rfl rfl rfl
  refine ww_iload_n C dX11_called_5 0 rfl rfl ?_
  refine ww_iload_n C dX11_called_6 2 rfl rfl ?_
  refine ww_ci (wr := []) (k' := 0) (n' := 0) C (run_S (As := [.int kn, .int (nI j)]) (rest := [.int (sc kn i)]) C (c_secretsOf X.2.1 E ro kn j) ms_X11_secretsOf wl_X11_308 rfl rfl rfl rfl dX11_called_7) (roK hro) [] [] rfl rfl rfl rfl (fun r_4 uz hw => ?_)
  refine an1 hw ?_
  clear hw
  intro he_5 hw
  have he_6 := hw
  clear hw
  have he_5 := he_5.symm
  subst he_5
  subst he_6
  refine ww_eq (ws' := []) ?_ rfl rfl rfl
  obtain ⟨x_7, ex_7⟩ : ∃ z : Int32, (sc kn i) ||| (sc kn j) = z := ⟨_, rfl⟩
  refine ww_ior (v := x_7) C dX11_called_10 ex_7 ?_
  refine ww_istore_n (lv' := [(3, .int x_7), (0, .int kn), (1, .int (nI i)), (2, .int (nI j))]) C dX11_called_11 rfl rfl rfl ?_
  refine ww_iload_n C dX11_called_12 1 rfl rfl ?_
  refine ww_iload_n C dX11_called_13 0 rfl rfl ?_
  refine ww_iconst (v := 4) C dX11_called_14 rfl ?_
  refine ww_iload_n C dX11_called_15 2 rfl rfl ?_
  refine ww_imul (v := (nI (4 * i))) C dX11_called_16 (pk_mul 4 i) ?_
  obtain ⟨x_8, ex_8⟩ : ∃ z : Int32, x_7 <<< ((nI (4 * i)) &&& 31) = z := ⟨_, rfl⟩
  refine ww_ishl (v := x_8) C dX11_called_17 ex_8 ?_
  obtain ⟨x_9, ex_9⟩ : ∃ z : Int32, kn ||| x_8 = z := ⟨_, rfl⟩
  refine ww_ior (v := x_9) C dX11_called_18 ex_9 ?_
  refine ww_iload_n C dX11_called_19 0 rfl rfl ?_
  refine ww_iconst (v := 4) C dX11_called_20 rfl ?_
  refine ww_iload_n C dX11_called_21 3 rfl rfl ?_
  refine ww_imul (v := (nI (4 * j))) C dX11_called_22 (pk_mul 4 j) ?_
  obtain ⟨x_10, ex_10⟩ : ∃ z : Int32, x_7 <<< ((nI (4 * j)) &&& 31) = z := ⟨_, rfl⟩
  refine ww_ishl (v := x_10) C dX11_called_23 ex_10 ?_
  obtain ⟨x_11, ex_11⟩ : ∃ z : Int32, x_9 ||| x_10 = z := ⟨_, rfl⟩
  refine ww_ior (v := x_11) C dX11_called_24 ex_11 ?_
  exact ww_iret (u := []) C hT [] rfl rfl rfl rfl dX11_called_25 (⟨(by subst_vars; rfl), rfl⟩)
/-! secrets: bits -/
theorem b_15 : ∀ i, i < 32 → bt 15 i = decide (i < 4) := by decide +kernel
theorem sc_b {kn : Int32} {i b : Nat} (hi : i < 4) (hb : b < 32) : bt (sc kn i) b = (decide (b < 4) && bt kn (4 * i + b)) := by
  unfold sc
  rw [b_and, b_sshr (4 * i) (by omega) kn hb, b_15 b hb]
  by_cases h : b < 4
  · rw [if_pos (by omega), decide_eq_true h, Bool.and_true, Bool.true_and]
  · rw [decide_eq_false h, Bool.and_false, Bool.false_and]
theorem cl_b {kn : Int32} {i j b : Nat} (hi : i < 4) (hj : j < 4) (hb : b < 32) : bt (cl kn i j) b = (bt kn b || (decide (4 * i ≤ b) && bt (sc kn i ||| sc kn j) (b - 4 * i)) || (decide (4 * j ≤ b) && bt (sc kn i ||| sc kn j) (b - 4 * j))) := by
  unfold cl
  rw [b_or, b_or, b_shl (4 * i) (by omega) _ hb, b_shl (4 * j) (by omega) _ hb]
theorem y_b {kn : Int32} {i j c : Nat} (hi : i < 4) (hj : j < 4) (hc : c < 32) : bt (sc kn i ||| sc kn j) c = (decide (c < 4) && (bt kn (4 * i + c) || bt kn (4 * j + c))) := by
  rw [b_or, sc_b hi hc, sc_b hj hc, Bool.and_or_distrib_left]
theorem sh_b {kn : Int32} {i j k m b : Nat} (hi : i < 4) (hj : j < 4) (hk : k < 4) (hm : m < 4) (hb : b < 4) : (decide (4 * k ≤ 4 * m + b) && bt (sc kn i ||| sc kn j) (4 * m + b - 4 * k)) = (decide (m = k) && (bt kn (4 * i + b) || bt kn (4 * j + b))) := by
  by_cases h : m = k
  · subst h
    rw [decide_eq_true (show 4 * m ≤ 4 * m + b by omega), show 4 * m + b - 4 * m = b by omega, y_b hi hj (by omega), decide_eq_true hb, decide_eq_true rfl, Bool.true_and]
  · rw [decide_eq_false h, Bool.false_and]
    by_cases h2 : 4 * k ≤ 4 * m + b
    · rw [y_b hi hj (by omega), decide_eq_false (show ¬ 4 * m + b - 4 * k < 4 by omega), Bool.false_and, Bool.and_false]
    · rw [decide_eq_false h2, Bool.false_and]
theorem sc_cl {kn : Int32} {i j m : Nat} (hi : i < 4) (hj : j < 4) (hm : m < 4) : sc (cl kn i j) m = if m = i ∨ m = j then sc kn i ||| sc kn j else sc kn m := by
  apply b_ext
  intro b hb
  rw [sc_b hm hb]
  by_cases h4 : b < 4
  · rw [decide_eq_true h4, Bool.true_and, cl_b hi hj (by omega), sh_b hi hj hi hm h4, sh_b hi hj hj hm h4]
    by_cases hmi : m = i
    · subst hmi
      rw [if_pos (Or.inl rfl), y_b hm hj hb, decide_eq_true h4, decide_eq_true rfl, Bool.true_and]
      cases bt kn (4 * m + b) <;> cases bt kn (4 * j + b) <;> cases decide (m = j) <;> rfl
    · rw [decide_eq_false hmi, Bool.false_and, Bool.or_false]
      by_cases hmj : m = j
      · subst hmj
        rw [if_pos (Or.inr rfl), y_b hi hm hb, decide_eq_true h4, decide_eq_true rfl, Bool.true_and]
        cases bt kn (4 * m + b) <;> cases bt kn (4 * i + b) <;> rfl
      · rw [decide_eq_false hmj, Bool.false_and, Bool.or_false, if_neg (by omega), sc_b hm hb, decide_eq_true h4, Bool.true_and]
  · rw [decide_eq_false h4, Bool.false_and]
    split
    · rw [y_b hi hj hb, decide_eq_false h4, Bool.false_and]
    · rw [sc_b hm hb, decide_eq_false h4, Bool.false_and]
/-! calls: how few tell all to all -/
/-- the rows behind a call -/
def cpC (R : Nat → Int32) (i j : Nat) : Nat → Int32 := fun m => if m = i ∨ m = j then R i ||| R j else R m
def cpA (n : Nat) (R : Nat → Int32) : Prop := ∀ i, i < n → R i = nI (2 ^ n - 1)
/-- the pairs in their order -/
def cpI (p : Nat) : Nat := if p < 3 then 0 else if p < 5 then 1 else 2
def cpJ (p : Nat) : Nat := if p < 3 then p + 1 else if p < 5 then p - 1 else 3
theorem cp_lt : ∀ p, p < 6 → cpI p < cpJ p ∧ cpJ p < 4 := by decide
theorem cp_pair : ∀ i, i < 4 → ∀ j, j < 4 → i < j → ∃ p, p < 6 ∧ cpI p = i ∧ cpJ p = j := by decide
theorem cp_lex : ∀ p, p < 6 → ∀ q, q < 6 → q < p → cpI q < cpI p ∨ (cpI q = cpI p ∧ cpJ q < cpJ p) := by decide
/-- so many calls, no fewer and no more, can tell all to all -/
def cpE (n : Nat) : Nat → (Nat → Int32) → Prop
  | 0, R => cpA n R
  | c + 1, R => ∃ p, p < 6 ∧ cpJ p < n ∧ cpE n c (cpC R (cpI p) (cpJ p))
theorem cpC_cg {n i j : Nat} {R R' : Nat → Int32} (h : ∀ m, m < n → R m = R' m) (hi : i < n) (hj : j < n) : ∀ m, m < n → cpC R i j m = cpC R' i j m := fun m hm => by
  show (if m = i ∨ m = j then R i ||| R j else R m) = (if m = i ∨ m = j then R' i ||| R' j else R' m)
  rw [h i hi, h j hj, h m hm]
theorem cpE_cg {n : Nat} : ∀ (c : Nat) {R R' : Nat → Int32}, (∀ m, m < n → R m = R' m) → cpE n c R → cpE n c R'
  | 0, _, _, h, hA => fun i hi => by rw [← h i hi]; exact hA i hi
  | c + 1, _, _, h, ⟨p, hp, hj, hE⟩ => ⟨p, hp, hj, cpE_cg c (cpC_cg h (by have := cp_lt p hp; omega) hj) hE⟩
theorem cpA_call {n i j : Nat} {R : Nat → Int32} (h : cpA n R) (hi : i < n) (hj : j < n) : cpA n (cpC R i j) := fun m hm => by
  show (if m = i ∨ m = j then R i ||| R j else R m) = nI (2 ^ n - 1)
  by_cases q : m = i ∨ m = j
  · rw [if_pos q, h i hi, h j hj]
    apply b_ext
    intro b hb
    rw [b_or]; cases bt (nI (2 ^ n - 1)) b <;> rfl
  · rw [if_neg q]; exact h m hm
theorem cpE_pad {n : Nat} (hn : 2 ≤ n) : ∀ (c : Nat) {R : Nat → Int32}, cpA n R → cpE n c R
  | 0, _, h => h
  | c + 1, _, h => ⟨0, by decide, by show 1 < n; omega, cpE_pad hn c (cpA_call h (by show 0 < n; omega) (by show 1 < n; omega))⟩
theorem cpE_mono {n : Nat} (hn : 2 ≤ n) : ∀ (c : Nat) {R : Nat → Int32}, cpE n c R → cpE n (c + 1) R
  | 0, _, h => cpE_pad hn 1 h
  | c + 1, _, ⟨p, hp, hj, hE⟩ => ⟨p, hp, hj, cpE_mono hn c hE⟩
/-- at most so many calls -/
theorem cpE_or {n c : Nat} (hn : 2 ≤ n) {R : Nat → Int32} : cpE n (c + 1) R ↔ cpA n R ∨ ∃ p, p < 6 ∧ cpJ p < n ∧ cpE n c (cpC R (cpI p) (cpJ p)) :=
  ⟨Or.inr, fun h => h.elim (cpE_pad hn (c + 1)) id⟩
/-- each knows his own, and nothing that nobody has -/
def cpK (n : Nat) (R : Nat → Int32) : Prop := ∀ i, i < n → bt (R i) i = true ∧ ∀ b, b < 32 → bt (R i) b = true → b < n
theorem cp_ones : ∀ n, n ≤ 4 → ∀ b, b < 32 → bt (nI (2 ^ n - 1)) b = decide (b < n) := by decide +kernel
theorem cp_full {n : Nat} {x : Int32} (hn : n ≤ 4) (h1 : ∀ b, b < n → bt x b = true) (h2 : ∀ b, b < 32 → bt x b = true → b < n) : x = nI (2 ^ n - 1) := by
  apply b_ext
  intro b hb
  rw [cp_ones n hn b hb]
  by_cases q : b < n
  · rw [h1 b q, decide_eq_true q]
  · rw [decide_eq_false q]
    cases z : bt x b with
    | false => rfl
    | true => exact absurd (h2 b hb z) q
theorem cpK_call {n i j : Nat} {R : Nat → Int32} (h : cpK n R) (hi : i < n) (hj : j < n) : cpK n (cpC R i j) := fun m hm => by
  have e : cpC R i j m = if m = i ∨ m = j then R i ||| R j else R m := rfl
  rw [e]
  by_cases q : m = i ∨ m = j
  · rw [if_pos q]
    refine ⟨?_, fun b hb hbt => ?_⟩
    · rw [b_or]
      rcases q with z | z
      · rw [z, (h i hi).1, Bool.true_or]
      · rw [z, (h j hj).1, Bool.or_true]
    · rw [b_or, Bool.or_eq_true] at hbt
      exact hbt.elim ((h i hi).2 b hb) ((h j hj).2 b hb)
  · rw [if_neg q]; exact h m hm
/-- four calls are enough -/
theorem cpE_4 {n : Nat} {R : Nat → Int32} (h2 : 2 ≤ n) (h4 : n ≤ 4) (h : cpK n R) : cpE n 4 R := by
  rcases (show n = 2 ∨ n = 3 ∨ n = 4 by omega) with rfl | rfl | rfl
  · refine ⟨0, by decide, by decide, cpE_pad (by decide) 3 (fun m hm => cp_full (by decide) (fun b hb => ?_) ((cpK_call h (i := 0) (j := 1) (by decide) (by decide) m hm).2))⟩
    have e : cpC R (cpI 0) (cpJ 0) m = R 0 ||| R 1 := if_pos (show m = 0 ∨ m = 1 by omega)
    rw [e, b_or]
    rcases (show b = 0 ∨ b = 1 by omega) with rfl | rfl
    · rw [(h 0 (by decide)).1, Bool.true_or]
    · rw [(h 1 (by decide)).1, Bool.or_true]
  · refine ⟨0, by decide, by decide, 1, by decide, by decide, 0, by decide, by decide, cpE_pad (by decide) 1 (fun m hm => ?_)⟩
    have hk := cpK_call (cpK_call (cpK_call h (i := 0) (j := 1) (by decide) (by decide)) (i := 0) (j := 2) (by decide) (by decide)) (i := 0) (j := 1) (by decide) (by decide)
    refine cp_full (by decide) (fun b hb => ?_) (hk m hm).2
    show bt (cpC (cpC (cpC R 0 1) 0 2) 0 1 m) b = true
    have h0 := (h 0 (by decide)).1
    have h1 := (h 1 (by decide)).1
    have h2 := (h 2 (by decide)).1
    rcases (show m = 0 ∨ m = 1 ∨ m = 2 by omega) with rfl | rfl | rfl <;> rcases (show b = 0 ∨ b = 1 ∨ b = 2 by omega) with rfl | rfl | rfl <;> simp [cpC, b_or, h0, h1, h2]
  · refine ⟨0, by decide, by decide, 5, by decide, by decide, 1, by decide, by decide, 4, by decide, by decide, fun m hm => ?_⟩
    have hk := cpK_call (cpK_call (cpK_call (cpK_call h (i := 0) (j := 1) (by decide) (by decide)) (i := 2) (j := 3) (by decide) (by decide)) (i := 0) (j := 2) (by decide) (by decide)) (i := 1) (j := 3) (by decide) (by decide)
    refine cp_full (by decide) (fun b hb => ?_) (hk m hm).2
    show bt (cpC (cpC (cpC (cpC R 0 1) 2 3) 0 2) 1 3 m) b = true
    have h0 := (h 0 (by decide)).1
    have h1 := (h 1 (by decide)).1
    have h2 := (h 2 (by decide)).1
    have h3 := (h 3 (by decide)).1
    rcases (show m = 0 ∨ m = 1 ∨ m = 2 ∨ m = 3 by omega) with rfl | rfl | rfl | rfl <;> rcases (show b = 0 ∨ b = 1 ∨ b = 2 ∨ b = 3 by omega) with rfl | rfl | rfl | rfl <;> simp [cpC, b_or, h0, h1, h2, h3]

theorem cpA_cg {n : Nat} {R R' : Nat → Int32} (h : ∀ m, m < n → R m = R' m) (hA : cpA n R) : cpA n R' := fun i hi => by rw [← h i hi]; exact hA i hi
/-- at most so many calls tell all to all -/
def cpL (n : Nat) : Nat → (Nat → Int32) → Prop
  | 0, R => cpA n R
  | c + 1, R => cpA n R ∨ ∃ i j, i < j ∧ j < n ∧ cpL n c (cpC R i j)
theorem cpL_cg {n : Nat} : ∀ (c : Nat) {R R' : Nat → Int32}, (∀ m, m < n → R m = R' m) → cpL n c R → cpL n c R'
  | 0, _, _, h, hA => cpA_cg h hA
  | c + 1, _, _, h, hE => hE.elim (fun hA => Or.inl (cpA_cg h hA)) (fun ⟨i, j, h1, h2, h3⟩ => Or.inr ⟨i, j, h1, h2, cpL_cg c (cpC_cg h (by omega) h2) h3⟩)
theorem cpL_E {n : Nat} (h2 : 2 ≤ n) (h4 : n ≤ 4) : ∀ (c : Nat) (R : Nat → Int32), cpL n c R ↔ cpE n c R
  | 0, _ => Iff.rfl
  | c + 1, R => by
    rw [cpE_or h2]
    constructor
    · rintro (h | ⟨i, j, h1, hj, h3⟩)
      · exact Or.inl h
      · obtain ⟨p, hp, e1, e2⟩ := cp_pair i (by omega) j (by omega) h1
        exact Or.inr ⟨p, hp, by omega, by rw [e1, e2]; exact (cpL_E h2 h4 c _).mp h3⟩
    · rintro (h | ⟨p, hp, hj, h3⟩)
      · exact Or.inl h
      · exact Or.inr ⟨cpI p, cpJ p, (cp_lt p hp).1, hj, (cpL_E h2 h4 c _).mpr h3⟩
theorem cpL_cl {n c i j : Nat} {kn : Int32} (hn : n ≤ 4) (hi : i < n) (hj : j < n) : cpL n c (sc (cl kn i j)) ↔ cpL n c (cpC (sc kn) i j) :=
  have e : ∀ m, m < n → sc (cl kn i j) m = cpC (sc kn) i j m := fun m hm => sc_cl (by omega) (by omega) (by omega)
  ⟨cpL_cg c e, cpL_cg c (fun m hm => (e m hm).symm)⟩
/-- the first pair after whose call it holds -/
def PBx (n : Nat) (P : (Nat → Int32) → Prop) (R : Nat → Int32) (i j : Nat) : Prop := ∀ a b, a < b → b < n → (a < i ∨ (a = i ∧ b < j)) → ¬ P (cpC R a b)
def FCx (n : Nat) (P : (Nat → Int32) → Prop) (R : Nat → Int32) (rz : Int32) : Prop := (∃ i j, i < j ∧ j < n ∧ P (cpC R i j) ∧ PBx n P R i j ∧ rz = nI (10 * i + j)) ∨ (PBx n P R n 0 ∧ rz = -4)
section PBS
variable {n i j c : Nat} {P : (Nat → Int32) → Prop} {R : Nat → Int32} {r kn x y : Int32}
theorem PBx.nil : PBx n P R 0 0 := fun a b _ _ h => absurd h (by omega)
theorem PBx.in (h : PBx n P R i 0) : PBx n P R i (i + 1) := fun a b h1 h2 h3 => h a b h1 h2 (by omega)
theorem PBx.ext (h : PBx n P R i j) (hn : ¬ P (cpC R i j)) : PBx n P R i (j + 1) := fun a b h1 h2 h3 => by
  by_cases q : a = i ∧ b = j
  · rw [q.1, q.2]; exact hn
  · exact h a b h1 h2 (by omega)
theorem PBx.up (h : PBx n P R i j) (hj : n ≤ j) : PBx n P R (i + 1) 0 := fun a b h1 h2 h3 => h a b h1 h2 (by omega)
theorem PBx.fin (h : PBx n P R i 0) (hi : n ≤ i) : PBx n P R n 0 := fun a b h1 h2 h3 => h a b h1 h2 (by omega)
theorem FCx.yes (hn : n ≤ 4) (h : FCx n (cpL n c) R r) (hr : r.toInt ≠ -4) : cpL n (c + 1) R := by
  rcases h with ⟨i, j, h1, h2, h3, h4, h5⟩ | ⟨h1, h2⟩
  · exact Or.inr ⟨i, j, h1, h2, h3⟩
  · rw [h2] at hr; exact absurd rfl hr
theorem FCx.nay (hn : n ≤ 4) (h : FCx n (cpL n c) R r) (hr : r.toInt = -4) (hA : ¬ cpA n R) : ¬ cpL n (c + 1) R := by
  rcases h with ⟨i, j, h1, h2, h3, h4, h5⟩ | ⟨h1, h2⟩
  · rw [h5, nI_toInt (by omega)] at hr; omega
  · rintro (q | ⟨i, j, q1, q2, q3⟩)
    · exact hA q
    · exact h1 i j q1 q2 (Or.inl (by omega)) q3
theorem FCx.cg {Q : (Nat → Int32) → Prop} (h : FCx n P R r) (hq : ∀ S, P S ↔ Q S) : FCx n Q R r := by
  have hb : ∀ i j, PBx n P R i j → PBx n Q R i j := fun i j hb a b h1 h2 h3 hz => hb a b h1 h2 h3 ((hq _).mpr hz)
  rcases h with ⟨i, j, h1, h2, h3, h4, h5⟩ | ⟨h1, h2⟩
  · exact Or.inl ⟨i, j, h1, h2, (hq _).mp h3, hb _ _ h4, h5⟩
  · exact Or.inr ⟨hb _ _ h1, h2⟩
theorem FCx.uniq {s : Int32} (h : FCx n P R r) (h' : FCx n P R s) : r = s := by
  rcases h with ⟨i, j, h1, h2, h3, h4, h5⟩ | ⟨h1, h2⟩
  · rcases h' with ⟨a, b, k1, k2, k3, k4, k5⟩ | ⟨k1, k2⟩
    · have q1 : ¬ (a < i ∨ (a = i ∧ b < j)) := fun z => h4 a b k1 k2 z k3
      have q2 : ¬ (i < a ∨ (i = a ∧ j < b)) := fun z => k4 i j h1 h2 z h3
      have e1 : a = i := by omega
      have e2 : b = j := by omega
      rw [h5, k5, e1, e2]
    · exact absurd h3 (k1 i j h1 h2 (Or.inl (by omega)))
  · rcases h' with ⟨a, b, k1, k2, k3, k4, k5⟩ | ⟨k1, k2⟩
    · exact absurd k3 (h1 a b k1 k2 (Or.inl (by omega)))
    · rw [h2, k2]
theorem ak_1 (hn : n ≤ 4) (ex : (1 : Int32) <<< (nI n &&& 31) = x) (ey : x - 1 = y) : y = nI (2 ^ n - 1) := by
  rw [← ey, ← ex]
  have key : ∀ n, n ≤ 4 → ((1 : Int32) <<< (nI n &&& 31)) - 1 = nI (2 ^ n - 1) := by decide +kernel
  exact key n hn
theorem ak_s (h : ∀ m, m < i → sc kn m = nI (2 ^ n - 1)) (hn : n ≤ 4) (ex : (1 : Int32) <<< (nI n &&& 31) = x) (ey : x - 1 = y) (hz : (sc kn i).toInt = y.toInt) : ∀ m, m < i + 1 → sc kn m = nI (2 ^ n - 1) := fun m hm => by
  by_cases q : m = i
  · rw [q, Int32.toInt_inj.mp hz]; exact ak_1 hn ex ey
  · exact h m (by omega)
theorem ak_n (hi : i < n) (hn : n ≤ 4) (ex : (1 : Int32) <<< (nI n &&& 31) = x) (ey : x - 1 = y) (hz : (sc kn i).toInt ≠ y.toInt) : ¬ cpA n (sc kn) := fun h => hz (by rw [h i hi, ak_1 hn ex ey])
end PBS
/-- the answer: so many calls, or the first of them -/
def FWx (n : Nat) (P : Nat → (Nat → Int32) → Prop) (R : Nat → Int32) (v rz : Int32) : Prop :=
  ((v.toInt < 0 ∨ 1 < v.toInt) ∧ rz = -1) ∨ (0 ≤ v.toInt ∧ v.toInt ≤ 1 ∧ n = 0 ∧ rz = -2) ∨ (0 ≤ v.toInt ∧ v.toInt ≤ 1 ∧ n ≠ 0 ∧ ∃ c : Nat, c ≤ 4 ∧ (∀ d, d < c → ¬ P d R) ∧ (c < 4 → P c R) ∧ ((v.toInt = 0 ∧ rz = nI c) ∨ (v.toInt = 1 ∧ c = 0 ∧ rz = -4) ∨ (v.toInt = 1 ∧ ∃ d, c = d + 1 ∧ FCx n (P d) R rz)))
theorem cpD_s {i : Nat} {P : Nat → (Nat → Int32) → Prop} {R : Nat → Int32} (h : ∀ d, d < i → ¬ P d R) (hn : ¬ P i R) : ∀ d, d < i + 1 → ¬ P d R := fun d hd => by
  by_cases q : d = i
  · rw [q]; exact hn
  · exact h d (by omega)
theorem dX11_allKnowAll_0 : decode cX11_allKnowAll 0 = .ok (.iconst 0, 1) := dl_3 (by decide +kernel)
theorem dX11_allKnowAll_1 : decode cX11_allKnowAll 1 = .ok (.istore_n 2, 1) := dl_61 (by decide +kernel)
theorem dX11_allKnowAll_2 : decode cX11_allKnowAll 2 = .ok (.iload_n 2, 1) := dl_28 (by decide +kernel)
theorem dX11_allKnowAll_3 : decode cX11_allKnowAll 3 = .ok (.iload_n 1, 1) := dl_27 (by decide +kernel)
theorem dX11_allKnowAll_4 : decode cX11_allKnowAll 4 = .ok (.if_icmp .ge 24, 3) := dl_162 (by decide +kernel)
theorem dX11_allKnowAll_28 : decode cX11_allKnowAll 28 = .ok (.iconst 1, 1) := dl_4 (by decide +kernel)
theorem dX11_allKnowAll_29 : decode cX11_allKnowAll 29 = .ok (.ireturn, 1) := dl_172 (by decide +kernel)
theorem dX11_allKnowAll_7 : decode cX11_allKnowAll 7 = .ok (.iload_n 0, 1) := dl_26 (by decide +kernel)
theorem dX11_allKnowAll_8 : decode cX11_allKnowAll 8 = .ok (.iload_n 2, 1) := dl_28 (by decide +kernel)
theorem dX11_allKnowAll_9 : decode cX11_allKnowAll 9 = .ok (.invokestatic 308, 3) := dl_184 (by decide +kernel)
theorem dX11_allKnowAll_12 : decode cX11_allKnowAll 12 = .ok (.iconst 1, 1) := dl_4 (by decide +kernel)
theorem dX11_allKnowAll_13 : decode cX11_allKnowAll 13 = .ok (.iload_n 1, 1) := dl_27 (by decide +kernel)
theorem dX11_allKnowAll_14 : decode cX11_allKnowAll 14 = .ok (.ishl, 1) := dl_120 (by decide +kernel)
theorem dX11_allKnowAll_15 : decode cX11_allKnowAll 15 = .ok (.iconst 1, 1) := dl_4 (by decide +kernel)
theorem dX11_allKnowAll_16 : decode cX11_allKnowAll 16 = .ok (.isub, 1) := dl_100 (by decide +kernel)
theorem dX11_allKnowAll_17 : decode cX11_allKnowAll 17 = .ok (.if_icmp .eq 5, 3) := dl_159 (by decide +kernel)
theorem dX11_allKnowAll_22 : decode cX11_allKnowAll 22 = .ok (.iinc 2 1, 3) := dl_132 (by decide +kernel)
theorem dX11_allKnowAll_25 : decode cX11_allKnowAll 25 = .ok (.goto (-23), 3) := dl_167 (by decide +kernel)
theorem dX11_allKnowAll_20 : decode cX11_allKnowAll 20 = .ok (.iconst 0, 1) := dl_3 (by decide +kernel)
theorem dX11_allKnowAll_21 : decode cX11_allKnowAll 21 = .ok (.ireturn, 1) := dl_172 (by decide +kernel)
set_option maxRecDepth 100000 in
set_option maxHeartbeats 4000000 in
theorem c_allKnowAll (l : Launch) (E : EV) (ro : va_W) (kn : Int32) (n : Nat) (hn : n ≤ 4) : CT l yX11_allKnowAll (Cond.code yX11_allKnowAll cX11_allKnowAll 3 (some .boolean) :: TB) ({ frames := 1, cells := 0, slots := 0, locals := 21 }) E ro [.int kn, .int (nI n)] [] (Qi E (fun (rz : Int32) uz => (rz = 1 ∧ uz = [] ∧ (cpA n (sc kn))) ∨ (rz = 0 ∧ uz = [] ∧ (¬ cpA n (sc kn))))) 0 0 := by
  refine ct_of rfl rfl ?_
  intro X C hT hin hro
  show WW X 3 E 0 [(0, .int kn), (1, .int (nI n))] [] [] 0 0
  refine ww_iconst (v := 0) C dX11_allKnowAll_0 rfl ?_
  refine ww_istore_n (lv' := [(2, .int 0), (0, .int kn), (1, .int (nI n))]) C dX11_allKnowAll_1 rfl rfl rfl ?_
  have loop_2 : ∀ (fu : Nat) (i1 : Nat), (i1 ≤ n) → (∀ m, m < i1 → sc kn m = nI (2 ^ n - 1)) → n - i1 < fu → WW X 3 E 2 [(2, .int (nI i1)), (0, .int kn), (1, .int (nI n))] [] [] 0 0 := by
    intro fu
    induction fu with
    | zero => intro i1 hi1 hak hmeas; exact absurd hmeas (Nat.not_lt_zero _)
    | succ fu ih_2 =>
      intro i1 hi1 hak hmeas
      refine ww_iload_n C dX11_allKnowAll_2 0 rfl rfl ?_
      refine ww_iload_n C dX11_allKnowAll_3 2 rfl rfl ?_
      refine ww_icmp_ge (tgt := 28) C dX11_allKnowAll_4 (by decide) (fun c_1 => ?_) (fun c_1 => ?_)
      · have zc_1 : ((i1 : Nat) : Int) ≥ ((n : Nat) : Int) := i_le (nI_toInt (n := n) (by omega)) (nI_toInt (n := i1) (by omega)) c_1
        refine ww_iconst (v := 1) C dX11_allKnowAll_28 rfl ?_
        exact ww_zret (u := []) C hT [] rfl rfl rfl rfl rfl dX11_allKnowAll_29 (Or.inl ⟨rfl, rfl, (fun m h => hak m (by omega))⟩)
      · have zc_1 : ((i1 : Nat) : Int) < ((n : Nat) : Int) := i_nle (nI_toInt (n := n) (by omega)) (nI_toInt (n := i1) (by omega)) c_1
        refine ww_iload_n C dX11_allKnowAll_7 1 rfl rfl ?_
        refine ww_iload_n C dX11_allKnowAll_8 0 rfl rfl ?_
        refine ww_ci (wr := []) (k' := 0) (n' := 0) C (run_S (As := [.int kn, .int (nI i1)]) (rest := []) C (c_secretsOf X.2.1 E ro kn i1) ms_X11_secretsOf wl_X11_308 rfl rfl rfl rfl dX11_allKnowAll_9) (roK hro) [] [] rfl rfl rfl rfl (fun r_2 uz hw => ?_)
        refine an1 hw ?_
        clear hw
        intro he_3 hw
        have he_4 := hw
        clear hw
        have he_3 := he_3.symm
        subst he_3
        subst he_4
        refine ww_eq (ws' := []) ?_ rfl rfl rfl
        refine ww_iconst (v := 1) C dX11_allKnowAll_12 rfl ?_
        refine ww_iload_n C dX11_allKnowAll_13 2 rfl rfl ?_
        obtain ⟨x_5, ex_5⟩ : ∃ z : Int32, (1 : Int32) <<< ((nI n) &&& 31) = z := ⟨_, rfl⟩
        refine ww_ishl (v := x_5) C dX11_allKnowAll_14 ex_5 ?_
        refine ww_iconst (v := 1) C dX11_allKnowAll_15 rfl ?_
        obtain ⟨x_6, ex_6⟩ : ∃ z : Int32, x_5 - (1 : Int32) = z := ⟨_, rfl⟩
        refine ww_isub (v := x_6) C dX11_allKnowAll_16 ex_6 ?_
        refine ww_icmp_eq (tgt := 22) C dX11_allKnowAll_17 (by decide) (fun c_7 => ?_) (fun c_7 => ?_)
        · have zc_7 : (sc kn i1).toInt = x_6.toInt := i_eq rfl rfl c_7
          refine ww_iinc (j := 0) (v := (nI (i1 + 1))) (lv' := [(2, .int (nI (i1 + 1))), (0, .int kn), (1, .int (nI n))]) C dX11_allKnowAll_22 rfl (nI_add i1 1) rfl rfl ?_
          refine ww_goto (tgt := 2) C dX11_allKnowAll_25 (by decide) ?_
          exact ww_lv [0, 1, 2] rfl (ww_sub [] rfl rfl (ih_2 (i1 + 1) (by omega) (ak_s hak hn ex_5 ex_6 (by assumption)) (by omega)))
        · have zc_7 : (sc kn i1).toInt ≠ x_6.toInt := i_ne rfl rfl c_7
          refine ww_iconst (v := 0) C dX11_allKnowAll_20 rfl ?_
          exact ww_zret (u := []) C hT [] rfl rfl rfl rfl rfl dX11_allKnowAll_21 (Or.inr ⟨rfl, rfl, (ak_n (i := i1) (by omega) hn ex_5 ex_6 (by assumption))⟩)
  exact ww_lv [0, 1, 2] rfl (ww_sub [] rfl rfl (loop_2 _ 0 (by omega) (fun m h => absurd h (Nat.not_lt_zero _)) (Nat.lt_succ_self _)))
theorem dX11_canEnd_0 : decode cX11_canEnd 0 = .ok (.iload_n 0, 1) := dl_26 (by decide +kernel)
theorem dX11_canEnd_1 : decode cX11_canEnd 1 = .ok (.iload_n 1, 1) := dl_27 (by decide +kernel)
theorem dX11_canEnd_2 : decode cX11_canEnd 2 = .ok (.invokestatic 311, 3) := dl_184 (by decide +kernel)
theorem wl_X11_311 : Cond.methodLink RX11 311 yX11_allKnowAll ∈ TB := tbm (tq5 (List.mem_of_getElem? (i := 24) (by decide +kernel))) (by decide +kernel)
theorem wc_X11_allKnowAll : Cond.code yX11_allKnowAll cX11_allKnowAll 3 (some .boolean) ∈ TB := tbm (tq5 (List.mem_of_getElem? (i := 26) (rfl))) (by decide +kernel)
theorem wt_X11_allKnowAll : Cond.static yX11_allKnowAll ∈ TB := tbm (tq5 (List.mem_of_getElem? (i := 25) (by decide +kernel))) (by decide +kernel)
theorem ms_X11_allKnowAll : MS yX11_allKnowAll cX11_allKnowAll 3 (some .boolean) 2 := ⟨wc_X11_allKnowAll, wn_X11, ⟨by decide +kernel, by decide +kernel, by decide +kernel⟩, wt_X11_allKnowAll⟩
theorem dX11_canEnd_5 : decode cX11_canEnd 5 = .ok (.ifCond .ne 18, 3) := dl_154 (by decide +kernel)
theorem dX11_canEnd_23 : decode cX11_canEnd 23 = .ok (.iconst 1, 1) := dl_4 (by decide +kernel)
theorem dX11_canEnd_24 : decode cX11_canEnd 24 = .ok (.goto 4, 3) := dl_167 (by decide +kernel)
theorem dX11_canEnd_28 : decode cX11_canEnd 28 = .ok (.ireturn, 1) := dl_172 (by decide +kernel)
theorem dX11_canEnd_8 : decode cX11_canEnd 8 = .ok (.iload_n 2, 1) := dl_28 (by decide +kernel)
theorem dX11_canEnd_9 : decode cX11_canEnd 9 = .ok (.ifCond .le 18, 3) := dl_158 (by decide +kernel)
theorem dX11_canEnd_27 : decode cX11_canEnd 27 = .ok (.iconst 0, 1) := dl_3 (by decide +kernel)
set_option maxRecDepth 100000 in
set_option maxHeartbeats 4000000 in
theorem c_canEnd0 (l : Launch) (E : EV) (ro : va_W) (kn : Int32) (n : Nat) (hn : n ≤ 4) : CT l yX11_canEnd (Cond.code yX11_canEnd cX11_canEnd 3 (some .boolean) :: TB) ({ frames := 2, cells := 0, slots := 0, locals := 43 }) E ro [.int kn, .int (nI n), .int 0] [] (Qi E (fun (rz : Int32) uz => (rz = 1 ∧ uz = [] ∧ (cpL n 0 (sc kn))) ∨ (rz = 0 ∧ uz = [] ∧ (¬ cpL n 0 (sc kn))))) 0 0 := by
  refine ct_of rfl rfl ?_
  intro X C hT hin hro
  show WW X 3 E 0 [(0, .int kn), (1, .int (nI n)), (2, .int 0)] [] [] 0 0
  refine ww_iload_n C dX11_canEnd_0 0 rfl rfl ?_
  refine ww_iload_n C dX11_canEnd_1 1 rfl rfl ?_
  refine ww_ci (wr := []) (k' := 0) (n' := 0) C (run_S (As := [.int kn, .int (nI n)]) (rest := []) C (c_allKnowAll X.2.1 E ro kn n (by omega)) ms_X11_allKnowAll wl_X11_311 rfl rfl rfl rfl dX11_canEnd_2) (roK hro) [] [] rfl rfl rfl rfl (fun r_1 uz hw => ?_)
  rcases hw with hw | hw
  · refine an2 hw ?_
    clear hw
    intro he_3 he_4 hw
    have h_2 := hw
    clear hw
    have he_3 := he_3.symm
    subst he_3
    subst he_4
    refine ww_eq (ws' := []) ?_ rfl rfl rfl
    refine ww_if_ne_t (tgt := 23) C dX11_canEnd_5 (by decide) (by decide) ?_
    refine ww_iconst (v := 1) C dX11_canEnd_23 rfl ?_
    refine ww_goto (tgt := 28) C dX11_canEnd_24 (by decide) ?_
    exact ww_zret (u := []) C hT [] rfl rfl rfl rfl rfl dX11_canEnd_28 (Or.inl ⟨rfl, rfl, h_2⟩)
  · refine an2 hw ?_
    clear hw
    intro he_6 he_7 hw
    have h_5 := hw
    clear hw
    have he_6 := he_6.symm
    subst he_6
    subst he_7
    refine ww_eq (ws' := []) ?_ rfl rfl rfl
    refine ww_if_ne_f (tgt := 23) C dX11_canEnd_5 (by decide) (rfl) ?_
    refine ww_iload_n C dX11_canEnd_8 2 rfl rfl ?_
    refine ww_if_le_t (tgt := 27) C dX11_canEnd_9 (by decide) (by decide) ?_
    refine ww_iconst (v := 0) C dX11_canEnd_27 rfl ?_
    exact ww_zret (u := []) C hT [] rfl rfl rfl rfl rfl dX11_canEnd_28 (Or.inr ⟨rfl, rfl, h_5⟩)
theorem dX11_firstCall_0 : decode cX11_firstCall 0 = .ok (.iconst 0, 1) := dl_3 (by decide +kernel)
theorem dX11_firstCall_1 : decode cX11_firstCall 1 = .ok (.istore_n 3, 1) := dl_62 (by decide +kernel)
theorem dX11_firstCall_2 : decode cX11_firstCall 2 = .ok (.iload_n 3, 1) := dl_29 (by decide +kernel)
theorem dX11_firstCall_3 : decode cX11_firstCall 3 = .ok (.iload_n 1, 1) := dl_27 (by decide +kernel)
theorem dX11_firstCall_4 : decode cX11_firstCall 4 = .ok (.if_icmp .ge 51, 3) := dl_162 (by decide +kernel)
theorem dX11_firstCall_55 : decode cX11_firstCall 55 = .ok (.bipush (-4), 2) := dl_16 (by decide +kernel)
theorem dX11_firstCall_57 : decode cX11_firstCall 57 = .ok (.ireturn, 1) := dl_172 (by decide +kernel)
theorem dX11_firstCall_7 : decode cX11_firstCall 7 = .ok (.iload_n 3, 1) := dl_29 (by decide +kernel)
theorem dX11_firstCall_8 : decode cX11_firstCall 8 = .ok (.iconst 1, 1) := dl_4 (by decide +kernel)
theorem dX11_firstCall_9 : decode cX11_firstCall 9 = .ok (.iadd, 1) := dl_96 (by decide +kernel)
theorem dX11_firstCall_10 : decode cX11_firstCall 10 = .ok (.istore 4, 2) := dl_54 (by decide +kernel)
theorem dX11_firstCall_12 : decode cX11_firstCall 12 = .ok (.iload 4, 2) := dl_21 (by decide +kernel)
theorem dX11_firstCall_14 : decode cX11_firstCall 14 = .ok (.iload_n 1, 1) := dl_27 (by decide +kernel)
theorem dX11_firstCall_15 : decode cX11_firstCall 15 = .ok (.if_icmp .ge 34, 3) := dl_162 (by decide +kernel)
theorem dX11_firstCall_49 : decode cX11_firstCall 49 = .ok (.iinc 3 1, 3) := dl_132 (by decide +kernel)
theorem dX11_firstCall_52 : decode cX11_firstCall 52 = .ok (.goto (-50), 3) := dl_167 (by decide +kernel)
theorem dX11_firstCall_18 : decode cX11_firstCall 18 = .ok (.iload_n 0, 1) := dl_26 (by decide +kernel)
theorem dX11_firstCall_19 : decode cX11_firstCall 19 = .ok (.iload_n 3, 1) := dl_29 (by decide +kernel)
theorem dX11_firstCall_20 : decode cX11_firstCall 20 = .ok (.iload 4, 2) := dl_21 (by decide +kernel)
theorem dX11_firstCall_22 : decode cX11_firstCall 22 = .ok (.invokestatic 318, 3) := dl_184 (by decide +kernel)
theorem wl_X11_318 : Cond.methodLink RX11 318 yX11_called ∈ TB := tbm (tq5 (List.mem_of_getElem? (i := 6) (by decide +kernel))) (by decide +kernel)
theorem wc_X11_called : Cond.code yX11_called cX11_called 4 (some .int) ∈ TB := tbm (tq5 (List.mem_of_getElem? (i := 8) (rfl))) (by decide +kernel)
theorem wt_X11_called : Cond.static yX11_called ∈ TB := tbm (tq5 (List.mem_of_getElem? (i := 7) (by decide +kernel))) (by decide +kernel)
theorem ms_X11_called : MS yX11_called cX11_called 4 (some .int) 3 := ⟨wc_X11_called, wn_X11, ⟨by decide +kernel, by decide +kernel, by decide +kernel⟩, wt_X11_called⟩
theorem dX11_firstCall_25 : decode cX11_firstCall 25 = .ok (.iload_n 1, 1) := dl_27 (by decide +kernel)
theorem dX11_firstCall_26 : decode cX11_firstCall 26 = .ok (.iload_n 2, 1) := dl_28 (by decide +kernel)
theorem dX11_firstCall_27 : decode cX11_firstCall 27 = .ok (.iconst 1, 1) := dl_4 (by decide +kernel)
theorem dX11_firstCall_28 : decode cX11_firstCall 28 = .ok (.isub, 1) := dl_100 (by decide +kernel)
theorem dX11_firstCall_29 : decode cX11_firstCall 29 = .ok (.invokestatic 321, 3) := dl_184 (by decide +kernel)
theorem wl_X11_321 : Cond.methodLink RX11 321 yX11_canEnd ∈ TB := tbm (tq5 (List.mem_of_getElem? (i := 21) (by decide +kernel))) (by decide +kernel)
theorem wc_X11_canEnd : Cond.code yX11_canEnd cX11_canEnd 3 (some .boolean) ∈ TB := tbm (tq5 (List.mem_of_getElem? (i := 23) (rfl))) (by decide +kernel)
theorem wt_X11_canEnd : Cond.static yX11_canEnd ∈ TB := tbm (tq5 (List.mem_of_getElem? (i := 22) (by decide +kernel))) (by decide +kernel)
theorem ms_X11_canEnd : MS yX11_canEnd cX11_canEnd 3 (some .boolean) 3 := ⟨wc_X11_canEnd, wn_X11, ⟨by decide +kernel, by decide +kernel, by decide +kernel⟩, wt_X11_canEnd⟩
theorem dX11_firstCall_32 : decode cX11_firstCall 32 = .ok (.ifCond .eq 11, 3) := dl_153 (by decide +kernel)
theorem dX11_firstCall_35 : decode cX11_firstCall 35 = .ok (.bipush 10, 2) := dl_16 (by decide +kernel)
theorem dX11_firstCall_37 : decode cX11_firstCall 37 = .ok (.iload_n 3, 1) := dl_29 (by decide +kernel)
theorem dX11_firstCall_38 : decode cX11_firstCall 38 = .ok (.imul, 1) := dl_104 (by decide +kernel)
theorem dX11_firstCall_39 : decode cX11_firstCall 39 = .ok (.iload 4, 2) := dl_21 (by decide +kernel)
theorem dX11_firstCall_41 : decode cX11_firstCall 41 = .ok (.iadd, 1) := dl_96 (by decide +kernel)
theorem dX11_firstCall_42 : decode cX11_firstCall 42 = .ok (.ireturn, 1) := dl_172 (by decide +kernel)
theorem dX11_firstCall_43 : decode cX11_firstCall 43 = .ok (.iinc 4 1, 3) := dl_132 (by decide +kernel)
theorem dX11_firstCall_46 : decode cX11_firstCall 46 = .ok (.goto (-34), 3) := dl_167 (by decide +kernel)
set_option maxRecDepth 100000 in
set_option maxHeartbeats 4000000 in
theorem c_firstCall1 (l : Launch) (E : EV) (ro : va_W) (kn : Int32) (n : Nat) (hn : n ≤ 4) : CT l yX11_firstCall (Cond.code yX11_firstCall cX11_firstCall 5 (some .int) :: TB) ({ frames := 3, cells := 0, slots := 0, locals := 65 }) E ro [.int kn, .int (nI n), .int 1] [] (Qi E (fun (rz : Int32) uz => (uz = [] ∧ (FCx n (cpL n 0) (sc kn) rz)))) 0 0 := by
  refine ct_of rfl rfl ?_
  intro X C hT hin hro
  show WW X 5 E 0 [(0, .int kn), (1, .int (nI n)), (2, .int 1)] [] [] 0 0
  refine ww_iconst (v := 0) C dX11_firstCall_0 rfl ?_
  refine ww_istore_n (lv' := [(3, .int 0), (0, .int kn), (1, .int (nI n)), (2, .int 1)]) C dX11_firstCall_1 rfl rfl rfl ?_
  have loop_2 : ∀ (fu : Nat) (i1 : Nat), (i1 ≤ n) → (PBx n (cpL n 0) (sc kn) i1 0) → n - i1 < fu → WW X 5 E 2 [(3, .int (nI i1)), (0, .int kn), (1, .int (nI n)), (2, .int 1)] [] [] 0 0 := by
    intro fu
    induction fu with
    | zero => intro i1 hi1 hp1 hmeas; exact absurd hmeas (Nat.not_lt_zero _)
    | succ fu ih_2 =>
      intro i1 hi1 hp1 hmeas
      refine ww_iload_n C dX11_firstCall_2 0 rfl rfl ?_
      refine ww_iload_n C dX11_firstCall_3 2 rfl rfl ?_
      refine ww_icmp_ge (tgt := 55) C dX11_firstCall_4 (by decide) (fun c_1 => ?_) (fun c_1 => ?_)
      · have zc_1 : ((i1 : Nat) : Int) ≥ ((n : Nat) : Int) := i_le (nI_toInt (n := n) (by omega)) (nI_toInt (n := i1) (by omega)) c_1
        refine ww_bipush (v := (-4)) C dX11_firstCall_55 rfl ?_
        exact ww_iret (u := []) C hT [] rfl rfl rfl rfl dX11_firstCall_57 (⟨rfl, (Or.inr ⟨PBx.fin hp1 (by omega), rfl⟩)⟩)
      · have zc_1 : ((i1 : Nat) : Int) < ((n : Nat) : Int) := i_nle (nI_toInt (n := n) (by omega)) (nI_toInt (n := i1) (by omega)) c_1
        refine ww_iload_n C dX11_firstCall_7 0 rfl rfl ?_
        refine ww_iconst (v := 1) C dX11_firstCall_8 rfl ?_
        refine ww_iadd (v := (nI (i1 + 1))) C dX11_firstCall_9 (nI_add i1 1) ?_
        refine ww_istore (lv' := [(4, .int (nI (i1 + 1))), (3, .int (nI i1)), (0, .int kn), (1, .int (nI n)), (2, .int 1)]) C dX11_firstCall_10 rfl rfl ?_
        have loop_12 : ∀ (fu : Nat) (i2 : Nat), (i2 ≤ n) → (i1 < i2) → (PBx n (cpL n 0) (sc kn) i1 i2) → n - i2 < fu → WW X 5 E 12 [(4, .int (nI i2)), (3, .int (nI i1)), (0, .int kn), (1, .int (nI n)), (2, .int 1)] [] [] 0 0 := by
          intro fu
          induction fu with
          | zero => intro i2 hi2 hlt hp2 hmeas; exact absurd hmeas (Nat.not_lt_zero _)
          | succ fu ih_12 =>
            intro i2 hi2 hlt hp2 hmeas
            refine ww_iload C dX11_firstCall_12 0 rfl ?_
            refine ww_iload_n C dX11_firstCall_14 3 rfl rfl ?_
            refine ww_icmp_ge (tgt := 49) C dX11_firstCall_15 (by decide) (fun c_2 => ?_) (fun c_2 => ?_)
            · have zc_2 : ((i2 : Nat) : Int) ≥ ((n : Nat) : Int) := i_le (nI_toInt (n := n) (by omega)) (nI_toInt (n := i2) (by omega)) c_2
              refine ww_iinc (j := 1) (v := (nI (i1 + 1))) (lv' := [(3, .int (nI (i1 + 1))), (4, .int (nI i2)), (0, .int kn), (1, .int (nI n)), (2, .int 1)]) C dX11_firstCall_49 rfl (nI_add i1 1) rfl rfl ?_
              refine ww_goto (tgt := 2) C dX11_firstCall_52 (by decide) ?_
              exact ww_lv [0, 2, 3, 4] rfl (ww_sub [] rfl rfl (ih_2 (i1 + 1) (by omega) (PBx.up hp2 (by omega)) (by omega)))
            · have zc_2 : ((i2 : Nat) : Int) < ((n : Nat) : Int) := i_nle (nI_toInt (n := n) (by omega)) (nI_toInt (n := i2) (by omega)) c_2
              refine ww_iload_n C dX11_firstCall_18 2 rfl rfl ?_
              refine ww_iload_n C dX11_firstCall_19 1 rfl rfl ?_
              refine ww_iload C dX11_firstCall_20 0 rfl ?_
              refine ww_ci (wr := []) (k' := 0) (n' := 0) C (run_S (As := [.int kn, .int (nI i1), .int (nI i2)]) (rest := []) C (c_called X.2.1 E ro kn i1 i2) ms_X11_called wl_X11_318 rfl rfl rfl rfl dX11_firstCall_22) (roK hro) [] [] rfl rfl rfl rfl (fun r_3 uz hw => ?_)
              refine an1 hw ?_
              clear hw
              intro he_4 hw
              have he_5 := hw
              clear hw
              have he_4 := he_4.symm
              subst he_4
              subst he_5
              refine ww_eq (ws' := []) ?_ rfl rfl rfl
              refine ww_iload_n C dX11_firstCall_25 3 rfl rfl ?_
              refine ww_iload_n C dX11_firstCall_26 4 rfl rfl ?_
              refine ww_iconst (v := 1) C dX11_firstCall_27 rfl ?_
              refine ww_isub (v := 0) C dX11_firstCall_28 (by decide) ?_
              refine ww_ci (wr := []) (k' := 0) (n' := 0) C (run_S (As := [.int (cl kn i1 i2), .int (nI n), .int 0]) (rest := []) C (c_canEnd0 X.2.1 E ro (cl kn i1 i2) n (by omega)) ms_X11_canEnd wl_X11_321 rfl rfl rfl rfl dX11_firstCall_29) (roK hro) [] [] rfl rfl rfl rfl (fun r_6 uz hw => ?_)
              rcases hw with hw | hw
              · refine an2 hw ?_
                clear hw
                intro he_8 he_9 hw
                have h_7 := hw
                clear hw
                have he_8 := he_8.symm
                subst he_8
                subst he_9
                refine ww_eq (ws' := []) ?_ rfl rfl rfl
                refine ww_if_eq_f (tgt := 43) C dX11_firstCall_32 (by decide) (by decide) ?_
                refine ww_bipush (v := 10) C dX11_firstCall_35 rfl ?_
                refine ww_iload_n C dX11_firstCall_37 1 rfl rfl ?_
                refine ww_imul (v := (nI (10 * i1))) C dX11_firstCall_38 (pk_mul 10 i1) ?_
                refine ww_iload C dX11_firstCall_39 0 rfl ?_
                refine ww_iadd (v := (nI ((10 * i1) + i2))) C dX11_firstCall_41 (nI_add (10 * i1) i2) ?_
                exact ww_iret (u := []) C hT [] rfl rfl rfl rfl dX11_firstCall_42 (⟨rfl, (Or.inl ⟨i1, i2, hlt, by omega, (cpL_cl hn (by omega) (by omega)).mp h_7, hp2, rfl⟩)⟩)
              · refine an2 hw ?_
                clear hw
                intro he_11 he_12 hw
                have h_10 := hw
                clear hw
                have he_11 := he_11.symm
                subst he_11
                subst he_12
                refine ww_eq (ws' := []) ?_ rfl rfl rfl
                refine ww_if_eq_t (tgt := 43) C dX11_firstCall_32 (by decide) (rfl) ?_
                refine ww_iinc (j := 0) (v := (nI (i2 + 1))) (lv' := [(4, .int (nI (i2 + 1))), (3, .int (nI i1)), (0, .int kn), (1, .int (nI n)), (2, .int 1)]) C dX11_firstCall_43 rfl (nI_add i2 1) rfl rfl ?_
                refine ww_goto (tgt := 12) C dX11_firstCall_46 (by decide) ?_
                exact ww_lv [0, 1, 2, 3, 4] rfl (ww_sub [] rfl rfl (ih_12 (i2 + 1) (by omega) (by omega) (PBx.ext hp2 (fun z => h_10 ((cpL_cl hn (by omega) (by omega)).mpr z))) (by omega)))
        exact ww_lv [0, 1, 2, 3, 4] rfl (ww_sub [] rfl rfl (loop_12 _ (i1 + 1) (by omega) (by omega) (PBx.in hp1) (Nat.lt_succ_self _)))
  exact ww_lv [0, 1, 2, 3] rfl (ww_sub [] rfl rfl (loop_2 _ 0 (by omega) PBx.nil (Nat.lt_succ_self _)))
theorem dX11_canEnd_12 : decode cX11_canEnd 12 = .ok (.iload_n 0, 1) := dl_26 (by decide +kernel)
theorem dX11_canEnd_13 : decode cX11_canEnd 13 = .ok (.iload_n 1, 1) := dl_27 (by decide +kernel)
theorem dX11_canEnd_14 : decode cX11_canEnd 14 = .ok (.iload_n 2, 1) := dl_28 (by decide +kernel)
theorem dX11_canEnd_15 : decode cX11_canEnd 15 = .ok (.invokestatic 314, 3) := dl_184 (by decide +kernel)
theorem wl_X11_314 : Cond.methodLink RX11 314 yX11_firstCall ∈ TB := tbm (tq5 (List.mem_of_getElem? (i := 27) (by decide +kernel))) (by decide +kernel)
theorem wc_X11_firstCall : Cond.code yX11_firstCall cX11_firstCall 5 (some .int) ∈ TB := tbm (tq5 (List.mem_of_getElem? (i := 29) (rfl))) (by decide +kernel)
theorem wt_X11_firstCall : Cond.static yX11_firstCall ∈ TB := tbm (tq5 (List.mem_of_getElem? (i := 28) (by decide +kernel))) (by decide +kernel)
theorem ms_X11_firstCall : MS yX11_firstCall cX11_firstCall 5 (some .int) 3 := ⟨wc_X11_firstCall, wn_X11, ⟨by decide +kernel, by decide +kernel, by decide +kernel⟩, wt_X11_firstCall⟩
theorem dX11_canEnd_18 : decode cX11_canEnd 18 = .ok (.bipush (-4), 2) := dl_16 (by decide +kernel)
theorem dX11_canEnd_20 : decode cX11_canEnd 20 = .ok (.if_icmp .eq 7, 3) := dl_159 (by decide +kernel)
set_option maxRecDepth 100000 in
set_option maxHeartbeats 4000000 in
theorem c_canEnd1 (l : Launch) (E : EV) (ro : va_W) (kn : Int32) (n : Nat) (hn : n ≤ 4) : CT l yX11_canEnd (Cond.code yX11_canEnd cX11_canEnd 3 (some .boolean) :: TB) ({ frames := 4, cells := 0, slots := 0, locals := 89 }) E ro [.int kn, .int (nI n), .int 1] [] (Qi E (fun (rz : Int32) uz => (rz = 1 ∧ uz = [] ∧ (cpL n 1 (sc kn))) ∨ (rz = 0 ∧ uz = [] ∧ (¬ cpL n 1 (sc kn))))) 0 0 := by
  refine ct_of rfl rfl ?_
  intro X C hT hin hro
  show WW X 3 E 0 [(0, .int kn), (1, .int (nI n)), (2, .int 1)] [] [] 0 0
  refine ww_iload_n C dX11_canEnd_0 0 rfl rfl ?_
  refine ww_iload_n C dX11_canEnd_1 1 rfl rfl ?_
  refine ww_ci (wr := []) (k' := 0) (n' := 0) C (run_S (As := [.int kn, .int (nI n)]) (rest := []) C (c_allKnowAll X.2.1 E ro kn n (by omega)) ms_X11_allKnowAll wl_X11_311 rfl rfl rfl rfl dX11_canEnd_2) (roK hro) [] [] rfl rfl rfl rfl (fun r_1 uz hw => ?_)
  rcases hw with hw | hw
  · refine an2 hw ?_
    clear hw
    intro he_3 he_4 hw
    have h_2 := hw
    clear hw
    have he_3 := he_3.symm
    subst he_3
    subst he_4
    refine ww_eq (ws' := []) ?_ rfl rfl rfl
    refine ww_if_ne_t (tgt := 23) C dX11_canEnd_5 (by decide) (by decide) ?_
    refine ww_iconst (v := 1) C dX11_canEnd_23 rfl ?_
    refine ww_goto (tgt := 28) C dX11_canEnd_24 (by decide) ?_
    exact ww_zret (u := []) C hT [] rfl rfl rfl rfl rfl dX11_canEnd_28 (Or.inl ⟨rfl, rfl, (Or.inl h_2)⟩)
  · refine an2 hw ?_
    clear hw
    intro he_6 he_7 hw
    have h_5 := hw
    clear hw
    have he_6 := he_6.symm
    subst he_6
    subst he_7
    refine ww_eq (ws' := []) ?_ rfl rfl rfl
    refine ww_if_ne_f (tgt := 23) C dX11_canEnd_5 (by decide) (rfl) ?_
    refine ww_iload_n C dX11_canEnd_8 2 rfl rfl ?_
    refine ww_if_le_f (tgt := 27) C dX11_canEnd_9 (by decide) (by decide) ?_
    refine ww_iload_n C dX11_canEnd_12 0 rfl rfl ?_
    refine ww_iload_n C dX11_canEnd_13 1 rfl rfl ?_
    refine ww_iload_n C dX11_canEnd_14 2 rfl rfl ?_
    refine ww_ci (wr := []) (k' := 0) (n' := 0) C (run_S (As := [.int kn, .int (nI n), .int 1]) (rest := []) C (c_firstCall1 X.2.1 E ro kn n (by omega)) ms_X11_firstCall wl_X11_314 rfl rfl rfl rfl dX11_canEnd_15) (roK hro) [] [] rfl rfl rfl rfl (fun r_8 uz hw => ?_)
    refine an1 hw ?_
    clear hw
    intro he_10 hw
    have h_9 := hw
    clear hw
    subst he_10
    refine ww_eq (ws' := []) ?_ rfl rfl rfl
    refine ww_bipush (v := (-4)) C dX11_canEnd_18 rfl ?_
    refine ww_icmp_eq (tgt := 27) C dX11_canEnd_20 (by decide) (fun c_11 => ?_) (fun c_11 => ?_)
    · have zc_11 : r_8.toInt = (-4) := i_eq rfl rfl c_11
      refine ww_iconst (v := 0) C dX11_canEnd_27 rfl ?_
      exact ww_zret (u := []) C hT [] rfl rfl rfl rfl rfl dX11_canEnd_28 (Or.inr ⟨rfl, rfl, (FCx.nay hn h_9 (by assumption) h_5)⟩)
    · have zc_11 : r_8.toInt ≠ (-4) := i_ne rfl rfl c_11
      refine ww_iconst (v := 1) C dX11_canEnd_23 rfl ?_
      refine ww_goto (tgt := 28) C dX11_canEnd_24 (by decide) ?_
      exact ww_zret (u := []) C hT [] rfl rfl rfl rfl rfl dX11_canEnd_28 (Or.inl ⟨rfl, rfl, (FCx.yes hn h_9 (by assumption))⟩)
set_option maxRecDepth 100000 in
set_option maxHeartbeats 4000000 in
theorem c_firstCall2 (l : Launch) (E : EV) (ro : va_W) (kn : Int32) (n : Nat) (hn : n ≤ 4) : CT l yX11_firstCall (Cond.code yX11_firstCall cX11_firstCall 5 (some .int) :: TB) ({ frames := 5, cells := 0, slots := 0, locals := 111 }) E ro [.int kn, .int (nI n), .int 2] [] (Qi E (fun (rz : Int32) uz => (uz = [] ∧ (FCx n (cpL n 1) (sc kn) rz)))) 0 0 := by
  refine ct_of rfl rfl ?_
  intro X C hT hin hro
  show WW X 5 E 0 [(0, .int kn), (1, .int (nI n)), (2, .int 2)] [] [] 0 0
  refine ww_iconst (v := 0) C dX11_firstCall_0 rfl ?_
  refine ww_istore_n (lv' := [(3, .int 0), (0, .int kn), (1, .int (nI n)), (2, .int 2)]) C dX11_firstCall_1 rfl rfl rfl ?_
  have loop_2 : ∀ (fu : Nat) (i1 : Nat), (i1 ≤ n) → (PBx n (cpL n 1) (sc kn) i1 0) → n - i1 < fu → WW X 5 E 2 [(3, .int (nI i1)), (0, .int kn), (1, .int (nI n)), (2, .int 2)] [] [] 0 0 := by
    intro fu
    induction fu with
    | zero => intro i1 hi1 hp1 hmeas; exact absurd hmeas (Nat.not_lt_zero _)
    | succ fu ih_2 =>
      intro i1 hi1 hp1 hmeas
      refine ww_iload_n C dX11_firstCall_2 0 rfl rfl ?_
      refine ww_iload_n C dX11_firstCall_3 2 rfl rfl ?_
      refine ww_icmp_ge (tgt := 55) C dX11_firstCall_4 (by decide) (fun c_1 => ?_) (fun c_1 => ?_)
      · have zc_1 : ((i1 : Nat) : Int) ≥ ((n : Nat) : Int) := i_le (nI_toInt (n := n) (by omega)) (nI_toInt (n := i1) (by omega)) c_1
        refine ww_bipush (v := (-4)) C dX11_firstCall_55 rfl ?_
        exact ww_iret (u := []) C hT [] rfl rfl rfl rfl dX11_firstCall_57 (⟨rfl, (Or.inr ⟨PBx.fin hp1 (by omega), rfl⟩)⟩)
      · have zc_1 : ((i1 : Nat) : Int) < ((n : Nat) : Int) := i_nle (nI_toInt (n := n) (by omega)) (nI_toInt (n := i1) (by omega)) c_1
        refine ww_iload_n C dX11_firstCall_7 0 rfl rfl ?_
        refine ww_iconst (v := 1) C dX11_firstCall_8 rfl ?_
        refine ww_iadd (v := (nI (i1 + 1))) C dX11_firstCall_9 (nI_add i1 1) ?_
        refine ww_istore (lv' := [(4, .int (nI (i1 + 1))), (3, .int (nI i1)), (0, .int kn), (1, .int (nI n)), (2, .int 2)]) C dX11_firstCall_10 rfl rfl ?_
        have loop_12 : ∀ (fu : Nat) (i2 : Nat), (i2 ≤ n) → (i1 < i2) → (PBx n (cpL n 1) (sc kn) i1 i2) → n - i2 < fu → WW X 5 E 12 [(4, .int (nI i2)), (3, .int (nI i1)), (0, .int kn), (1, .int (nI n)), (2, .int 2)] [] [] 0 0 := by
          intro fu
          induction fu with
          | zero => intro i2 hi2 hlt hp2 hmeas; exact absurd hmeas (Nat.not_lt_zero _)
          | succ fu ih_12 =>
            intro i2 hi2 hlt hp2 hmeas
            refine ww_iload C dX11_firstCall_12 0 rfl ?_
            refine ww_iload_n C dX11_firstCall_14 3 rfl rfl ?_
            refine ww_icmp_ge (tgt := 49) C dX11_firstCall_15 (by decide) (fun c_2 => ?_) (fun c_2 => ?_)
            · have zc_2 : ((i2 : Nat) : Int) ≥ ((n : Nat) : Int) := i_le (nI_toInt (n := n) (by omega)) (nI_toInt (n := i2) (by omega)) c_2
              refine ww_iinc (j := 1) (v := (nI (i1 + 1))) (lv' := [(3, .int (nI (i1 + 1))), (4, .int (nI i2)), (0, .int kn), (1, .int (nI n)), (2, .int 2)]) C dX11_firstCall_49 rfl (nI_add i1 1) rfl rfl ?_
              refine ww_goto (tgt := 2) C dX11_firstCall_52 (by decide) ?_
              exact ww_lv [0, 2, 3, 4] rfl (ww_sub [] rfl rfl (ih_2 (i1 + 1) (by omega) (PBx.up hp2 (by omega)) (by omega)))
            · have zc_2 : ((i2 : Nat) : Int) < ((n : Nat) : Int) := i_nle (nI_toInt (n := n) (by omega)) (nI_toInt (n := i2) (by omega)) c_2
              refine ww_iload_n C dX11_firstCall_18 2 rfl rfl ?_
              refine ww_iload_n C dX11_firstCall_19 1 rfl rfl ?_
              refine ww_iload C dX11_firstCall_20 0 rfl ?_
              refine ww_ci (wr := []) (k' := 0) (n' := 0) C (run_S (As := [.int kn, .int (nI i1), .int (nI i2)]) (rest := []) C (c_called X.2.1 E ro kn i1 i2) ms_X11_called wl_X11_318 rfl rfl rfl rfl dX11_firstCall_22) (roK hro) [] [] rfl rfl rfl rfl (fun r_3 uz hw => ?_)
              refine an1 hw ?_
              clear hw
              intro he_4 hw
              have he_5 := hw
              clear hw
              have he_4 := he_4.symm
              subst he_4
              subst he_5
              refine ww_eq (ws' := []) ?_ rfl rfl rfl
              refine ww_iload_n C dX11_firstCall_25 3 rfl rfl ?_
              refine ww_iload_n C dX11_firstCall_26 4 rfl rfl ?_
              refine ww_iconst (v := 1) C dX11_firstCall_27 rfl ?_
              refine ww_isub (v := 1) C dX11_firstCall_28 (by decide) ?_
              refine ww_ci (wr := []) (k' := 0) (n' := 0) C (run_S (As := [.int (cl kn i1 i2), .int (nI n), .int 1]) (rest := []) C (c_canEnd1 X.2.1 E ro (cl kn i1 i2) n (by omega)) ms_X11_canEnd wl_X11_321 rfl rfl rfl rfl dX11_firstCall_29) (roK hro) [] [] rfl rfl rfl rfl (fun r_6 uz hw => ?_)
              rcases hw with hw | hw
              · refine an2 hw ?_
                clear hw
                intro he_8 he_9 hw
                have h_7 := hw
                clear hw
                have he_8 := he_8.symm
                subst he_8
                subst he_9
                refine ww_eq (ws' := []) ?_ rfl rfl rfl
                refine ww_if_eq_f (tgt := 43) C dX11_firstCall_32 (by decide) (by decide) ?_
                refine ww_bipush (v := 10) C dX11_firstCall_35 rfl ?_
                refine ww_iload_n C dX11_firstCall_37 1 rfl rfl ?_
                refine ww_imul (v := (nI (10 * i1))) C dX11_firstCall_38 (pk_mul 10 i1) ?_
                refine ww_iload C dX11_firstCall_39 0 rfl ?_
                refine ww_iadd (v := (nI ((10 * i1) + i2))) C dX11_firstCall_41 (nI_add (10 * i1) i2) ?_
                exact ww_iret (u := []) C hT [] rfl rfl rfl rfl dX11_firstCall_42 (⟨rfl, (Or.inl ⟨i1, i2, hlt, by omega, (cpL_cl hn (by omega) (by omega)).mp h_7, hp2, rfl⟩)⟩)
              · refine an2 hw ?_
                clear hw
                intro he_11 he_12 hw
                have h_10 := hw
                clear hw
                have he_11 := he_11.symm
                subst he_11
                subst he_12
                refine ww_eq (ws' := []) ?_ rfl rfl rfl
                refine ww_if_eq_t (tgt := 43) C dX11_firstCall_32 (by decide) (rfl) ?_
                refine ww_iinc (j := 0) (v := (nI (i2 + 1))) (lv' := [(4, .int (nI (i2 + 1))), (3, .int (nI i1)), (0, .int kn), (1, .int (nI n)), (2, .int 2)]) C dX11_firstCall_43 rfl (nI_add i2 1) rfl rfl ?_
                refine ww_goto (tgt := 12) C dX11_firstCall_46 (by decide) ?_
                exact ww_lv [0, 1, 2, 3, 4] rfl (ww_sub [] rfl rfl (ih_12 (i2 + 1) (by omega) (by omega) (PBx.ext hp2 (fun z => h_10 ((cpL_cl hn (by omega) (by omega)).mpr z))) (by omega)))
        exact ww_lv [0, 1, 2, 3, 4] rfl (ww_sub [] rfl rfl (loop_12 _ (i1 + 1) (by omega) (by omega) (PBx.in hp1) (Nat.lt_succ_self _)))
  exact ww_lv [0, 1, 2, 3] rfl (ww_sub [] rfl rfl (loop_2 _ 0 (by omega) PBx.nil (Nat.lt_succ_self _)))
set_option maxRecDepth 100000 in
set_option maxHeartbeats 4000000 in
theorem c_canEnd2 (l : Launch) (E : EV) (ro : va_W) (kn : Int32) (n : Nat) (hn : n ≤ 4) : CT l yX11_canEnd (Cond.code yX11_canEnd cX11_canEnd 3 (some .boolean) :: TB) ({ frames := 6, cells := 0, slots := 0, locals := 135 }) E ro [.int kn, .int (nI n), .int 2] [] (Qi E (fun (rz : Int32) uz => (rz = 1 ∧ uz = [] ∧ (cpL n 2 (sc kn))) ∨ (rz = 0 ∧ uz = [] ∧ (¬ cpL n 2 (sc kn))))) 0 0 := by
  refine ct_of rfl rfl ?_
  intro X C hT hin hro
  show WW X 3 E 0 [(0, .int kn), (1, .int (nI n)), (2, .int 2)] [] [] 0 0
  refine ww_iload_n C dX11_canEnd_0 0 rfl rfl ?_
  refine ww_iload_n C dX11_canEnd_1 1 rfl rfl ?_
  refine ww_ci (wr := []) (k' := 0) (n' := 0) C (run_S (As := [.int kn, .int (nI n)]) (rest := []) C (c_allKnowAll X.2.1 E ro kn n (by omega)) ms_X11_allKnowAll wl_X11_311 rfl rfl rfl rfl dX11_canEnd_2) (roK hro) [] [] rfl rfl rfl rfl (fun r_1 uz hw => ?_)
  rcases hw with hw | hw
  · refine an2 hw ?_
    clear hw
    intro he_3 he_4 hw
    have h_2 := hw
    clear hw
    have he_3 := he_3.symm
    subst he_3
    subst he_4
    refine ww_eq (ws' := []) ?_ rfl rfl rfl
    refine ww_if_ne_t (tgt := 23) C dX11_canEnd_5 (by decide) (by decide) ?_
    refine ww_iconst (v := 1) C dX11_canEnd_23 rfl ?_
    refine ww_goto (tgt := 28) C dX11_canEnd_24 (by decide) ?_
    exact ww_zret (u := []) C hT [] rfl rfl rfl rfl rfl dX11_canEnd_28 (Or.inl ⟨rfl, rfl, (Or.inl h_2)⟩)
  · refine an2 hw ?_
    clear hw
    intro he_6 he_7 hw
    have h_5 := hw
    clear hw
    have he_6 := he_6.symm
    subst he_6
    subst he_7
    refine ww_eq (ws' := []) ?_ rfl rfl rfl
    refine ww_if_ne_f (tgt := 23) C dX11_canEnd_5 (by decide) (rfl) ?_
    refine ww_iload_n C dX11_canEnd_8 2 rfl rfl ?_
    refine ww_if_le_f (tgt := 27) C dX11_canEnd_9 (by decide) (by decide) ?_
    refine ww_iload_n C dX11_canEnd_12 0 rfl rfl ?_
    refine ww_iload_n C dX11_canEnd_13 1 rfl rfl ?_
    refine ww_iload_n C dX11_canEnd_14 2 rfl rfl ?_
    refine ww_ci (wr := []) (k' := 0) (n' := 0) C (run_S (As := [.int kn, .int (nI n), .int 2]) (rest := []) C (c_firstCall2 X.2.1 E ro kn n (by omega)) ms_X11_firstCall wl_X11_314 rfl rfl rfl rfl dX11_canEnd_15) (roK hro) [] [] rfl rfl rfl rfl (fun r_8 uz hw => ?_)
    refine an1 hw ?_
    clear hw
    intro he_10 hw
    have h_9 := hw
    clear hw
    subst he_10
    refine ww_eq (ws' := []) ?_ rfl rfl rfl
    refine ww_bipush (v := (-4)) C dX11_canEnd_18 rfl ?_
    refine ww_icmp_eq (tgt := 27) C dX11_canEnd_20 (by decide) (fun c_11 => ?_) (fun c_11 => ?_)
    · have zc_11 : r_8.toInt = (-4) := i_eq rfl rfl c_11
      refine ww_iconst (v := 0) C dX11_canEnd_27 rfl ?_
      exact ww_zret (u := []) C hT [] rfl rfl rfl rfl rfl dX11_canEnd_28 (Or.inr ⟨rfl, rfl, (FCx.nay hn h_9 (by assumption) h_5)⟩)
    · have zc_11 : r_8.toInt ≠ (-4) := i_ne rfl rfl c_11
      refine ww_iconst (v := 1) C dX11_canEnd_23 rfl ?_
      refine ww_goto (tgt := 28) C dX11_canEnd_24 (by decide) ?_
      exact ww_zret (u := []) C hT [] rfl rfl rfl rfl rfl dX11_canEnd_28 (Or.inl ⟨rfl, rfl, (FCx.yes hn h_9 (by assumption))⟩)
set_option maxRecDepth 100000 in
set_option maxHeartbeats 4000000 in
theorem c_firstCall3 (l : Launch) (E : EV) (ro : va_W) (kn : Int32) (n : Nat) (hn : n ≤ 4) : CT l yX11_firstCall (Cond.code yX11_firstCall cX11_firstCall 5 (some .int) :: TB) ({ frames := 7, cells := 0, slots := 0, locals := 157 }) E ro [.int kn, .int (nI n), .int 3] [] (Qi E (fun (rz : Int32) uz => (uz = [] ∧ (FCx n (cpL n 2) (sc kn) rz)))) 0 0 := by
  refine ct_of rfl rfl ?_
  intro X C hT hin hro
  show WW X 5 E 0 [(0, .int kn), (1, .int (nI n)), (2, .int 3)] [] [] 0 0
  refine ww_iconst (v := 0) C dX11_firstCall_0 rfl ?_
  refine ww_istore_n (lv' := [(3, .int 0), (0, .int kn), (1, .int (nI n)), (2, .int 3)]) C dX11_firstCall_1 rfl rfl rfl ?_
  have loop_2 : ∀ (fu : Nat) (i1 : Nat), (i1 ≤ n) → (PBx n (cpL n 2) (sc kn) i1 0) → n - i1 < fu → WW X 5 E 2 [(3, .int (nI i1)), (0, .int kn), (1, .int (nI n)), (2, .int 3)] [] [] 0 0 := by
    intro fu
    induction fu with
    | zero => intro i1 hi1 hp1 hmeas; exact absurd hmeas (Nat.not_lt_zero _)
    | succ fu ih_2 =>
      intro i1 hi1 hp1 hmeas
      refine ww_iload_n C dX11_firstCall_2 0 rfl rfl ?_
      refine ww_iload_n C dX11_firstCall_3 2 rfl rfl ?_
      refine ww_icmp_ge (tgt := 55) C dX11_firstCall_4 (by decide) (fun c_1 => ?_) (fun c_1 => ?_)
      · have zc_1 : ((i1 : Nat) : Int) ≥ ((n : Nat) : Int) := i_le (nI_toInt (n := n) (by omega)) (nI_toInt (n := i1) (by omega)) c_1
        refine ww_bipush (v := (-4)) C dX11_firstCall_55 rfl ?_
        exact ww_iret (u := []) C hT [] rfl rfl rfl rfl dX11_firstCall_57 (⟨rfl, (Or.inr ⟨PBx.fin hp1 (by omega), rfl⟩)⟩)
      · have zc_1 : ((i1 : Nat) : Int) < ((n : Nat) : Int) := i_nle (nI_toInt (n := n) (by omega)) (nI_toInt (n := i1) (by omega)) c_1
        refine ww_iload_n C dX11_firstCall_7 0 rfl rfl ?_
        refine ww_iconst (v := 1) C dX11_firstCall_8 rfl ?_
        refine ww_iadd (v := (nI (i1 + 1))) C dX11_firstCall_9 (nI_add i1 1) ?_
        refine ww_istore (lv' := [(4, .int (nI (i1 + 1))), (3, .int (nI i1)), (0, .int kn), (1, .int (nI n)), (2, .int 3)]) C dX11_firstCall_10 rfl rfl ?_
        have loop_12 : ∀ (fu : Nat) (i2 : Nat), (i2 ≤ n) → (i1 < i2) → (PBx n (cpL n 2) (sc kn) i1 i2) → n - i2 < fu → WW X 5 E 12 [(4, .int (nI i2)), (3, .int (nI i1)), (0, .int kn), (1, .int (nI n)), (2, .int 3)] [] [] 0 0 := by
          intro fu
          induction fu with
          | zero => intro i2 hi2 hlt hp2 hmeas; exact absurd hmeas (Nat.not_lt_zero _)
          | succ fu ih_12 =>
            intro i2 hi2 hlt hp2 hmeas
            refine ww_iload C dX11_firstCall_12 0 rfl ?_
            refine ww_iload_n C dX11_firstCall_14 3 rfl rfl ?_
            refine ww_icmp_ge (tgt := 49) C dX11_firstCall_15 (by decide) (fun c_2 => ?_) (fun c_2 => ?_)
            · have zc_2 : ((i2 : Nat) : Int) ≥ ((n : Nat) : Int) := i_le (nI_toInt (n := n) (by omega)) (nI_toInt (n := i2) (by omega)) c_2
              refine ww_iinc (j := 1) (v := (nI (i1 + 1))) (lv' := [(3, .int (nI (i1 + 1))), (4, .int (nI i2)), (0, .int kn), (1, .int (nI n)), (2, .int 3)]) C dX11_firstCall_49 rfl (nI_add i1 1) rfl rfl ?_
              refine ww_goto (tgt := 2) C dX11_firstCall_52 (by decide) ?_
              exact ww_lv [0, 2, 3, 4] rfl (ww_sub [] rfl rfl (ih_2 (i1 + 1) (by omega) (PBx.up hp2 (by omega)) (by omega)))
            · have zc_2 : ((i2 : Nat) : Int) < ((n : Nat) : Int) := i_nle (nI_toInt (n := n) (by omega)) (nI_toInt (n := i2) (by omega)) c_2
              refine ww_iload_n C dX11_firstCall_18 2 rfl rfl ?_
              refine ww_iload_n C dX11_firstCall_19 1 rfl rfl ?_
              refine ww_iload C dX11_firstCall_20 0 rfl ?_
              refine ww_ci (wr := []) (k' := 0) (n' := 0) C (run_S (As := [.int kn, .int (nI i1), .int (nI i2)]) (rest := []) C (c_called X.2.1 E ro kn i1 i2) ms_X11_called wl_X11_318 rfl rfl rfl rfl dX11_firstCall_22) (roK hro) [] [] rfl rfl rfl rfl (fun r_3 uz hw => ?_)
              refine an1 hw ?_
              clear hw
              intro he_4 hw
              have he_5 := hw
              clear hw
              have he_4 := he_4.symm
              subst he_4
              subst he_5
              refine ww_eq (ws' := []) ?_ rfl rfl rfl
              refine ww_iload_n C dX11_firstCall_25 3 rfl rfl ?_
              refine ww_iload_n C dX11_firstCall_26 4 rfl rfl ?_
              refine ww_iconst (v := 1) C dX11_firstCall_27 rfl ?_
              refine ww_isub (v := 2) C dX11_firstCall_28 (by decide) ?_
              refine ww_ci (wr := []) (k' := 0) (n' := 0) C (run_S (As := [.int (cl kn i1 i2), .int (nI n), .int 2]) (rest := []) C (c_canEnd2 X.2.1 E ro (cl kn i1 i2) n (by omega)) ms_X11_canEnd wl_X11_321 rfl rfl rfl rfl dX11_firstCall_29) (roK hro) [] [] rfl rfl rfl rfl (fun r_6 uz hw => ?_)
              rcases hw with hw | hw
              · refine an2 hw ?_
                clear hw
                intro he_8 he_9 hw
                have h_7 := hw
                clear hw
                have he_8 := he_8.symm
                subst he_8
                subst he_9
                refine ww_eq (ws' := []) ?_ rfl rfl rfl
                refine ww_if_eq_f (tgt := 43) C dX11_firstCall_32 (by decide) (by decide) ?_
                refine ww_bipush (v := 10) C dX11_firstCall_35 rfl ?_
                refine ww_iload_n C dX11_firstCall_37 1 rfl rfl ?_
                refine ww_imul (v := (nI (10 * i1))) C dX11_firstCall_38 (pk_mul 10 i1) ?_
                refine ww_iload C dX11_firstCall_39 0 rfl ?_
                refine ww_iadd (v := (nI ((10 * i1) + i2))) C dX11_firstCall_41 (nI_add (10 * i1) i2) ?_
                exact ww_iret (u := []) C hT [] rfl rfl rfl rfl dX11_firstCall_42 (⟨rfl, (Or.inl ⟨i1, i2, hlt, by omega, (cpL_cl hn (by omega) (by omega)).mp h_7, hp2, rfl⟩)⟩)
              · refine an2 hw ?_
                clear hw
                intro he_11 he_12 hw
                have h_10 := hw
                clear hw
                have he_11 := he_11.symm
                subst he_11
                subst he_12
                refine ww_eq (ws' := []) ?_ rfl rfl rfl
                refine ww_if_eq_t (tgt := 43) C dX11_firstCall_32 (by decide) (rfl) ?_
                refine ww_iinc (j := 0) (v := (nI (i2 + 1))) (lv' := [(4, .int (nI (i2 + 1))), (3, .int (nI i1)), (0, .int kn), (1, .int (nI n)), (2, .int 3)]) C dX11_firstCall_43 rfl (nI_add i2 1) rfl rfl ?_
                refine ww_goto (tgt := 12) C dX11_firstCall_46 (by decide) ?_
                exact ww_lv [0, 1, 2, 3, 4] rfl (ww_sub [] rfl rfl (ih_12 (i2 + 1) (by omega) (by omega) (PBx.ext hp2 (fun z => h_10 ((cpL_cl hn (by omega) (by omega)).mpr z))) (by omega)))
        exact ww_lv [0, 1, 2, 3, 4] rfl (ww_sub [] rfl rfl (loop_12 _ (i1 + 1) (by omega) (by omega) (PBx.in hp1) (Nat.lt_succ_self _)))
  exact ww_lv [0, 1, 2, 3] rfl (ww_sub [] rfl rfl (loop_2 _ 0 (by omega) PBx.nil (Nat.lt_succ_self _)))
set_option maxRecDepth 100000 in
set_option maxHeartbeats 4000000 in
theorem c_canEnd3 (l : Launch) (E : EV) (ro : va_W) (kn : Int32) (n : Nat) (hn : n ≤ 4) : CT l yX11_canEnd (Cond.code yX11_canEnd cX11_canEnd 3 (some .boolean) :: TB) ({ frames := 8, cells := 0, slots := 0, locals := 181 }) E ro [.int kn, .int (nI n), .int 3] [] (Qi E (fun (rz : Int32) uz => (rz = 1 ∧ uz = [] ∧ (cpL n 3 (sc kn))) ∨ (rz = 0 ∧ uz = [] ∧ (¬ cpL n 3 (sc kn))))) 0 0 := by
  refine ct_of rfl rfl ?_
  intro X C hT hin hro
  show WW X 3 E 0 [(0, .int kn), (1, .int (nI n)), (2, .int 3)] [] [] 0 0
  refine ww_iload_n C dX11_canEnd_0 0 rfl rfl ?_
  refine ww_iload_n C dX11_canEnd_1 1 rfl rfl ?_
  refine ww_ci (wr := []) (k' := 0) (n' := 0) C (run_S (As := [.int kn, .int (nI n)]) (rest := []) C (c_allKnowAll X.2.1 E ro kn n (by omega)) ms_X11_allKnowAll wl_X11_311 rfl rfl rfl rfl dX11_canEnd_2) (roK hro) [] [] rfl rfl rfl rfl (fun r_1 uz hw => ?_)
  rcases hw with hw | hw
  · refine an2 hw ?_
    clear hw
    intro he_3 he_4 hw
    have h_2 := hw
    clear hw
    have he_3 := he_3.symm
    subst he_3
    subst he_4
    refine ww_eq (ws' := []) ?_ rfl rfl rfl
    refine ww_if_ne_t (tgt := 23) C dX11_canEnd_5 (by decide) (by decide) ?_
    refine ww_iconst (v := 1) C dX11_canEnd_23 rfl ?_
    refine ww_goto (tgt := 28) C dX11_canEnd_24 (by decide) ?_
    exact ww_zret (u := []) C hT [] rfl rfl rfl rfl rfl dX11_canEnd_28 (Or.inl ⟨rfl, rfl, (Or.inl h_2)⟩)
  · refine an2 hw ?_
    clear hw
    intro he_6 he_7 hw
    have h_5 := hw
    clear hw
    have he_6 := he_6.symm
    subst he_6
    subst he_7
    refine ww_eq (ws' := []) ?_ rfl rfl rfl
    refine ww_if_ne_f (tgt := 23) C dX11_canEnd_5 (by decide) (rfl) ?_
    refine ww_iload_n C dX11_canEnd_8 2 rfl rfl ?_
    refine ww_if_le_f (tgt := 27) C dX11_canEnd_9 (by decide) (by decide) ?_
    refine ww_iload_n C dX11_canEnd_12 0 rfl rfl ?_
    refine ww_iload_n C dX11_canEnd_13 1 rfl rfl ?_
    refine ww_iload_n C dX11_canEnd_14 2 rfl rfl ?_
    refine ww_ci (wr := []) (k' := 0) (n' := 0) C (run_S (As := [.int kn, .int (nI n), .int 3]) (rest := []) C (c_firstCall3 X.2.1 E ro kn n (by omega)) ms_X11_firstCall wl_X11_314 rfl rfl rfl rfl dX11_canEnd_15) (roK hro) [] [] rfl rfl rfl rfl (fun r_8 uz hw => ?_)
    refine an1 hw ?_
    clear hw
    intro he_10 hw
    have h_9 := hw
    clear hw
    subst he_10
    refine ww_eq (ws' := []) ?_ rfl rfl rfl
    refine ww_bipush (v := (-4)) C dX11_canEnd_18 rfl ?_
    refine ww_icmp_eq (tgt := 27) C dX11_canEnd_20 (by decide) (fun c_11 => ?_) (fun c_11 => ?_)
    · have zc_11 : r_8.toInt = (-4) := i_eq rfl rfl c_11
      refine ww_iconst (v := 0) C dX11_canEnd_27 rfl ?_
      exact ww_zret (u := []) C hT [] rfl rfl rfl rfl rfl dX11_canEnd_28 (Or.inr ⟨rfl, rfl, (FCx.nay hn h_9 (by assumption) h_5)⟩)
    · have zc_11 : r_8.toInt ≠ (-4) := i_ne rfl rfl c_11
      refine ww_iconst (v := 1) C dX11_canEnd_23 rfl ?_
      refine ww_goto (tgt := 28) C dX11_canEnd_24 (by decide) ?_
      exact ww_zret (u := []) C hT [] rfl rfl rfl rfl rfl dX11_canEnd_28 (Or.inl ⟨rfl, rfl, (FCx.yes hn h_9 (by assumption))⟩)
set_option maxRecDepth 100000 in
set_option maxHeartbeats 4000000 in
theorem c_firstCall4 (l : Launch) (E : EV) (ro : va_W) (kn : Int32) (n : Nat) (hn : n ≤ 4) : CT l yX11_firstCall (Cond.code yX11_firstCall cX11_firstCall 5 (some .int) :: TB) ({ frames := 9, cells := 0, slots := 0, locals := 203 }) E ro [.int kn, .int (nI n), .int 4] [] (Qi E (fun (rz : Int32) uz => (uz = [] ∧ (FCx n (cpL n 3) (sc kn) rz)))) 0 0 := by
  refine ct_of rfl rfl ?_
  intro X C hT hin hro
  show WW X 5 E 0 [(0, .int kn), (1, .int (nI n)), (2, .int 4)] [] [] 0 0
  refine ww_iconst (v := 0) C dX11_firstCall_0 rfl ?_
  refine ww_istore_n (lv' := [(3, .int 0), (0, .int kn), (1, .int (nI n)), (2, .int 4)]) C dX11_firstCall_1 rfl rfl rfl ?_
  have loop_2 : ∀ (fu : Nat) (i1 : Nat), (i1 ≤ n) → (PBx n (cpL n 3) (sc kn) i1 0) → n - i1 < fu → WW X 5 E 2 [(3, .int (nI i1)), (0, .int kn), (1, .int (nI n)), (2, .int 4)] [] [] 0 0 := by
    intro fu
    induction fu with
    | zero => intro i1 hi1 hp1 hmeas; exact absurd hmeas (Nat.not_lt_zero _)
    | succ fu ih_2 =>
      intro i1 hi1 hp1 hmeas
      refine ww_iload_n C dX11_firstCall_2 0 rfl rfl ?_
      refine ww_iload_n C dX11_firstCall_3 2 rfl rfl ?_
      refine ww_icmp_ge (tgt := 55) C dX11_firstCall_4 (by decide) (fun c_1 => ?_) (fun c_1 => ?_)
      · have zc_1 : ((i1 : Nat) : Int) ≥ ((n : Nat) : Int) := i_le (nI_toInt (n := n) (by omega)) (nI_toInt (n := i1) (by omega)) c_1
        refine ww_bipush (v := (-4)) C dX11_firstCall_55 rfl ?_
        exact ww_iret (u := []) C hT [] rfl rfl rfl rfl dX11_firstCall_57 (⟨rfl, (Or.inr ⟨PBx.fin hp1 (by omega), rfl⟩)⟩)
      · have zc_1 : ((i1 : Nat) : Int) < ((n : Nat) : Int) := i_nle (nI_toInt (n := n) (by omega)) (nI_toInt (n := i1) (by omega)) c_1
        refine ww_iload_n C dX11_firstCall_7 0 rfl rfl ?_
        refine ww_iconst (v := 1) C dX11_firstCall_8 rfl ?_
        refine ww_iadd (v := (nI (i1 + 1))) C dX11_firstCall_9 (nI_add i1 1) ?_
        refine ww_istore (lv' := [(4, .int (nI (i1 + 1))), (3, .int (nI i1)), (0, .int kn), (1, .int (nI n)), (2, .int 4)]) C dX11_firstCall_10 rfl rfl ?_
        have loop_12 : ∀ (fu : Nat) (i2 : Nat), (i2 ≤ n) → (i1 < i2) → (PBx n (cpL n 3) (sc kn) i1 i2) → n - i2 < fu → WW X 5 E 12 [(4, .int (nI i2)), (3, .int (nI i1)), (0, .int kn), (1, .int (nI n)), (2, .int 4)] [] [] 0 0 := by
          intro fu
          induction fu with
          | zero => intro i2 hi2 hlt hp2 hmeas; exact absurd hmeas (Nat.not_lt_zero _)
          | succ fu ih_12 =>
            intro i2 hi2 hlt hp2 hmeas
            refine ww_iload C dX11_firstCall_12 0 rfl ?_
            refine ww_iload_n C dX11_firstCall_14 3 rfl rfl ?_
            refine ww_icmp_ge (tgt := 49) C dX11_firstCall_15 (by decide) (fun c_2 => ?_) (fun c_2 => ?_)
            · have zc_2 : ((i2 : Nat) : Int) ≥ ((n : Nat) : Int) := i_le (nI_toInt (n := n) (by omega)) (nI_toInt (n := i2) (by omega)) c_2
              refine ww_iinc (j := 1) (v := (nI (i1 + 1))) (lv' := [(3, .int (nI (i1 + 1))), (4, .int (nI i2)), (0, .int kn), (1, .int (nI n)), (2, .int 4)]) C dX11_firstCall_49 rfl (nI_add i1 1) rfl rfl ?_
              refine ww_goto (tgt := 2) C dX11_firstCall_52 (by decide) ?_
              exact ww_lv [0, 2, 3, 4] rfl (ww_sub [] rfl rfl (ih_2 (i1 + 1) (by omega) (PBx.up hp2 (by omega)) (by omega)))
            · have zc_2 : ((i2 : Nat) : Int) < ((n : Nat) : Int) := i_nle (nI_toInt (n := n) (by omega)) (nI_toInt (n := i2) (by omega)) c_2
              refine ww_iload_n C dX11_firstCall_18 2 rfl rfl ?_
              refine ww_iload_n C dX11_firstCall_19 1 rfl rfl ?_
              refine ww_iload C dX11_firstCall_20 0 rfl ?_
              refine ww_ci (wr := []) (k' := 0) (n' := 0) C (run_S (As := [.int kn, .int (nI i1), .int (nI i2)]) (rest := []) C (c_called X.2.1 E ro kn i1 i2) ms_X11_called wl_X11_318 rfl rfl rfl rfl dX11_firstCall_22) (roK hro) [] [] rfl rfl rfl rfl (fun r_3 uz hw => ?_)
              refine an1 hw ?_
              clear hw
              intro he_4 hw
              have he_5 := hw
              clear hw
              have he_4 := he_4.symm
              subst he_4
              subst he_5
              refine ww_eq (ws' := []) ?_ rfl rfl rfl
              refine ww_iload_n C dX11_firstCall_25 3 rfl rfl ?_
              refine ww_iload_n C dX11_firstCall_26 4 rfl rfl ?_
              refine ww_iconst (v := 1) C dX11_firstCall_27 rfl ?_
              refine ww_isub (v := 3) C dX11_firstCall_28 (by decide) ?_
              refine ww_ci (wr := []) (k' := 0) (n' := 0) C (run_S (As := [.int (cl kn i1 i2), .int (nI n), .int 3]) (rest := []) C (c_canEnd3 X.2.1 E ro (cl kn i1 i2) n (by omega)) ms_X11_canEnd wl_X11_321 rfl rfl rfl rfl dX11_firstCall_29) (roK hro) [] [] rfl rfl rfl rfl (fun r_6 uz hw => ?_)
              rcases hw with hw | hw
              · refine an2 hw ?_
                clear hw
                intro he_8 he_9 hw
                have h_7 := hw
                clear hw
                have he_8 := he_8.symm
                subst he_8
                subst he_9
                refine ww_eq (ws' := []) ?_ rfl rfl rfl
                refine ww_if_eq_f (tgt := 43) C dX11_firstCall_32 (by decide) (by decide) ?_
                refine ww_bipush (v := 10) C dX11_firstCall_35 rfl ?_
                refine ww_iload_n C dX11_firstCall_37 1 rfl rfl ?_
                refine ww_imul (v := (nI (10 * i1))) C dX11_firstCall_38 (pk_mul 10 i1) ?_
                refine ww_iload C dX11_firstCall_39 0 rfl ?_
                refine ww_iadd (v := (nI ((10 * i1) + i2))) C dX11_firstCall_41 (nI_add (10 * i1) i2) ?_
                exact ww_iret (u := []) C hT [] rfl rfl rfl rfl dX11_firstCall_42 (⟨rfl, (Or.inl ⟨i1, i2, hlt, by omega, (cpL_cl hn (by omega) (by omega)).mp h_7, hp2, rfl⟩)⟩)
              · refine an2 hw ?_
                clear hw
                intro he_11 he_12 hw
                have h_10 := hw
                clear hw
                have he_11 := he_11.symm
                subst he_11
                subst he_12
                refine ww_eq (ws' := []) ?_ rfl rfl rfl
                refine ww_if_eq_t (tgt := 43) C dX11_firstCall_32 (by decide) (rfl) ?_
                refine ww_iinc (j := 0) (v := (nI (i2 + 1))) (lv' := [(4, .int (nI (i2 + 1))), (3, .int (nI i1)), (0, .int kn), (1, .int (nI n)), (2, .int 4)]) C dX11_firstCall_43 rfl (nI_add i2 1) rfl rfl ?_
                refine ww_goto (tgt := 12) C dX11_firstCall_46 (by decide) ?_
                exact ww_lv [0, 1, 2, 3, 4] rfl (ww_sub [] rfl rfl (ih_12 (i2 + 1) (by omega) (by omega) (PBx.ext hp2 (fun z => h_10 ((cpL_cl hn (by omega) (by omega)).mpr z))) (by omega)))
        exact ww_lv [0, 1, 2, 3, 4] rfl (ww_sub [] rfl rfl (loop_12 _ (i1 + 1) (by omega) (by omega) (PBx.in hp1) (Nat.lt_succ_self _)))
  exact ww_lv [0, 1, 2, 3] rfl (ww_sub [] rfl rfl (loop_2 _ 0 (by omega) PBx.nil (Nat.lt_succ_self _)))
set_option maxRecDepth 100000 in
set_option maxHeartbeats 4000000 in
theorem c_canEnd4 (l : Launch) (E : EV) (ro : va_W) (kn : Int32) (n : Nat) (hn : n ≤ 4) : CT l yX11_canEnd (Cond.code yX11_canEnd cX11_canEnd 3 (some .boolean) :: TB) ({ frames := 10, cells := 0, slots := 0, locals := 227 }) E ro [.int kn, .int (nI n), .int 4] [] (Qi E (fun (rz : Int32) uz => (rz = 1 ∧ uz = [] ∧ (cpL n 4 (sc kn))) ∨ (rz = 0 ∧ uz = [] ∧ (¬ cpL n 4 (sc kn))))) 0 0 := by
  refine ct_of rfl rfl ?_
  intro X C hT hin hro
  show WW X 3 E 0 [(0, .int kn), (1, .int (nI n)), (2, .int 4)] [] [] 0 0
  refine ww_iload_n C dX11_canEnd_0 0 rfl rfl ?_
  refine ww_iload_n C dX11_canEnd_1 1 rfl rfl ?_
  refine ww_ci (wr := []) (k' := 0) (n' := 0) C (run_S (As := [.int kn, .int (nI n)]) (rest := []) C (c_allKnowAll X.2.1 E ro kn n (by omega)) ms_X11_allKnowAll wl_X11_311 rfl rfl rfl rfl dX11_canEnd_2) (roK hro) [] [] rfl rfl rfl rfl (fun r_1 uz hw => ?_)
  rcases hw with hw | hw
  · refine an2 hw ?_
    clear hw
    intro he_3 he_4 hw
    have h_2 := hw
    clear hw
    have he_3 := he_3.symm
    subst he_3
    subst he_4
    refine ww_eq (ws' := []) ?_ rfl rfl rfl
    refine ww_if_ne_t (tgt := 23) C dX11_canEnd_5 (by decide) (by decide) ?_
    refine ww_iconst (v := 1) C dX11_canEnd_23 rfl ?_
    refine ww_goto (tgt := 28) C dX11_canEnd_24 (by decide) ?_
    exact ww_zret (u := []) C hT [] rfl rfl rfl rfl rfl dX11_canEnd_28 (Or.inl ⟨rfl, rfl, (Or.inl h_2)⟩)
  · refine an2 hw ?_
    clear hw
    intro he_6 he_7 hw
    have h_5 := hw
    clear hw
    have he_6 := he_6.symm
    subst he_6
    subst he_7
    refine ww_eq (ws' := []) ?_ rfl rfl rfl
    refine ww_if_ne_f (tgt := 23) C dX11_canEnd_5 (by decide) (rfl) ?_
    refine ww_iload_n C dX11_canEnd_8 2 rfl rfl ?_
    refine ww_if_le_f (tgt := 27) C dX11_canEnd_9 (by decide) (by decide) ?_
    refine ww_iload_n C dX11_canEnd_12 0 rfl rfl ?_
    refine ww_iload_n C dX11_canEnd_13 1 rfl rfl ?_
    refine ww_iload_n C dX11_canEnd_14 2 rfl rfl ?_
    refine ww_ci (wr := []) (k' := 0) (n' := 0) C (run_S (As := [.int kn, .int (nI n), .int 4]) (rest := []) C (c_firstCall4 X.2.1 E ro kn n (by omega)) ms_X11_firstCall wl_X11_314 rfl rfl rfl rfl dX11_canEnd_15) (roK hro) [] [] rfl rfl rfl rfl (fun r_8 uz hw => ?_)
    refine an1 hw ?_
    clear hw
    intro he_10 hw
    have h_9 := hw
    clear hw
    subst he_10
    refine ww_eq (ws' := []) ?_ rfl rfl rfl
    refine ww_bipush (v := (-4)) C dX11_canEnd_18 rfl ?_
    refine ww_icmp_eq (tgt := 27) C dX11_canEnd_20 (by decide) (fun c_11 => ?_) (fun c_11 => ?_)
    · have zc_11 : r_8.toInt = (-4) := i_eq rfl rfl c_11
      refine ww_iconst (v := 0) C dX11_canEnd_27 rfl ?_
      exact ww_zret (u := []) C hT [] rfl rfl rfl rfl rfl dX11_canEnd_28 (Or.inr ⟨rfl, rfl, (FCx.nay hn h_9 (by assumption) h_5)⟩)
    · have zc_11 : r_8.toInt ≠ (-4) := i_ne rfl rfl c_11
      refine ww_iconst (v := 1) C dX11_canEnd_23 rfl ?_
      refine ww_goto (tgt := 28) C dX11_canEnd_24 (by decide) ?_
      exact ww_zret (u := []) C hT [] rfl rfl rfl rfl rfl dX11_canEnd_28 (Or.inl ⟨rfl, rfl, (FCx.yes hn h_9 (by assumption))⟩)
theorem dX11_isPerson_0 : decode cX11_isPerson 0 = .ok (.iload_n 1, 1) := dl_27 (by decide +kernel)
theorem dX11_isPerson_1 : decode cX11_isPerson 1 = .ok (.iconst 0, 1) := dl_3 (by decide +kernel)
theorem dX11_isPerson_2 : decode cX11_isPerson 2 = .ok (.aload_n 0, 1) := dl_42 (by decide +kernel)
theorem dX11_isPerson_3 : decode cX11_isPerson 3 = .ok (.getfield 106, 3) := dl_180 (by decide +kernel)
theorem wf_X11_106 : Cond.fieldLink RX11 106 RX11 "persons" "I" ∈ TB := tbm (tq2 (List.mem_of_getElem? (i := 108) (by decide +kernel))) (by decide +kernel)
theorem fg_X11_106 : FG RX11 106 11 12 := ⟨RX11, TX11, 15, uw_X11, wf_X11_106, rfl, by decide, rfl⟩
theorem dX11_isPerson_6 : decode cX11_isPerson 6 = .ok (.iconst 1, 1) := dl_4 (by decide +kernel)
theorem dX11_isPerson_7 : decode cX11_isPerson 7 = .ok (.isub, 1) := dl_100 (by decide +kernel)
theorem dX11_isPerson_8 : decode cX11_isPerson 8 = .ok (.invokestatic 76, 3) := dl_184 (by decide +kernel)
theorem dX11_isPerson_11 : decode cX11_isPerson 11 = .ok (.ireturn, 1) := dl_172 (by decide +kernel)
set_option maxRecDepth 100000 in
set_option maxHeartbeats 4000000 in
theorem x_isPerson (l : Launch) (E : EV) (ro : va_W) (hx : Nat) (k : Int32) (h : Nat) (qp : Nat) (ac : Nat) (np : Nat) (qs : Nat) (qj : Nat) (ly : Nat) (qh : Nat) (kk : Nat) (kc : Nat) (rd : Nat) (pg : Nat) (pe : Nat) (kn : Int32) (ss : Nat) (hpe : pe ≤ 4) : CT l yX11_isPerson (Cond.code yX11_isPerson cX11_isPerson 2 (some .boolean) :: TB) ({ frames := 1, cells := 0, slots := 0, locals := 22 }) E ro [.ref hx, .int k] [(hx, .inr (11, [.ref h, .ref qp, .int (nI ac), .int (nI np), .ref qs, .ref qj, .ref ly, .ref qh, .ref kk, .int (nI kc), .ref rd, .ref pg, .int (nI pe), .int kn, .ref ss]))] (Qi E (fun (rz : Int32) uz => (rz = 1 ∧ uz = [(hx, .inr (11, [.ref h, .ref qp, .int (nI ac), .int (nI np), .ref qs, .ref qj, .ref ly, .ref qh, .ref kk, .int (nI kc), .ref rd, .ref pg, .int (nI pe), .int kn, .ref ss]))] ∧ (0 ≤ k.toInt) ∧ (k.toInt < pe)) ∨ (rz = 0 ∧ uz = [(hx, .inr (11, [.ref h, .ref qp, .int (nI ac), .int (nI np), .ref qs, .ref qj, .ref ly, .ref qh, .ref kk, .int (nI kc), .ref rd, .ref pg, .int (nI pe), .int kn, .ref ss]))] ∧ (k.toInt < 0 ∨ (pe : Int) ≤ k.toInt)))) 0 0 := by
  refine ct_of rfl rfl ?_
  intro X C hT hin hro
  show WW X 2 E 0 [(0, .ref hx), (1, .int k)] [] [(hx, .inr (11, [.ref h, .ref qp, .int (nI ac), .int (nI np), .ref qs, .ref qj, .ref ly, .ref qh, .ref kk, .int (nI kc), .ref rd, .ref pg, .int (nI pe), .int kn, .ref ss]))] 0 0
  refine ww_iload_n C dX11_isPerson_0 1 rfl rfl ?_
  refine ww_iconst (v := 0) C dX11_isPerson_1 rfl ?_
  refine ww_aload_n C dX11_isPerson_2 0 rfl rfl ?_
  refine ww_get C fg_X11_106 0 rfl rfl dX11_isPerson_3 ?_
  refine ww_iconst (v := 1) C dX11_isPerson_6 rfl ?_
  obtain ⟨x_1, ex_1⟩ : ∃ z : Int32, (nI pe) - (1 : Int32) = z := ⟨_, rfl⟩
  have zx_1 : x_1.toInt = ((pe : Nat) : Int) - 1 := by rw [← ex_1]; exact i_sub (nI_toInt (n := pe) (by omega)) rfl (by omega) (by omega)
  refine ww_isub (v := x_1) C dX11_isPerson_7 ex_1 ?_
  refine ww_ci (wr := [(hx, .inr (11, [.ref h, .ref qp, .int (nI ac), .int (nI np), .ref qs, .ref qj, .ref ly, .ref qh, .ref kk, .int (nI kc), .ref rd, .ref pg, .int (nI pe), .int kn, .ref ss]))]) (k' := 0) (n' := 0) C (run_S (As := [.int k, .int 0, .int x_1]) (rest := []) C (c_within X.2.1 E ro k 0 x_1 k.toInt 0 (((pe : Nat) : Int) - 1) rfl rfl zx_1) ms_X11_within wl_X11_76 rfl rfl rfl rfl dX11_isPerson_8) (roK hro) [] [0] rfl rfl rfl rfl (fun r_2 uz hw => ?_)
  rcases hw with hw | hw
  · refine an3 hw ?_
    clear hw
    intro he_5 he_6 h_3 hw
    have h_4 := hw
    clear hw
    have he_5 := he_5.symm
    subst he_5
    subst he_6
    refine ww_eq (ws' := [(hx, .inr (11, [.ref h, .ref qp, .int (nI ac), .int (nI np), .ref qs, .ref qj, .ref ly, .ref qh, .ref kk, .int (nI kc), .ref rd, .ref pg, .int (nI pe), .int kn, .ref ss]))]) ?_ rfl rfl rfl
    exact ww_zret (u := [(hx, .inr (11, [.ref h, .ref qp, .int (nI ac), .int (nI np), .ref qs, .ref qj, .ref ly, .ref qh, .ref kk, .int (nI kc), .ref rd, .ref pg, .int (nI pe), .int kn, .ref ss]))]) C hT [0] rfl rfl rfl rfl rfl dX11_isPerson_11 (Or.inl ⟨rfl, rfl, (by first | assumption | omega | decide), (by first | assumption | omega | decide)⟩)
  · refine an2 hw ?_
    clear hw
    intro he_8 he_9 hw
    have h_7 := hw
    clear hw
    have he_8 := he_8.symm
    subst he_8
    subst he_9
    refine ww_eq (ws' := [(hx, .inr (11, [.ref h, .ref qp, .int (nI ac), .int (nI np), .ref qs, .ref qj, .ref ly, .ref qh, .ref kk, .int (nI kc), .ref rd, .ref pg, .int (nI pe), .int kn, .ref ss]))]) ?_ rfl rfl rfl
    exact ww_zret (u := [(hx, .inr (11, [.ref h, .ref qp, .int (nI ac), .int (nI np), .ref qs, .ref qj, .ref ly, .ref qh, .ref kk, .int (nI kc), .ref rd, .ref pg, .int (nI pe), .int kn, .ref ss]))]) C hT [0] rfl rfl rfl rfl rfl dX11_isPerson_11 (Or.inr ⟨rfl, rfl, (by first | assumption | omega | decide)⟩)
theorem dX11_people_0 : decode cX11_people 0 = .ok (.iload_n 1, 1) := dl_27 (by decide +kernel)
theorem dX11_people_1 : decode cX11_people 1 = .ok (.iconst 2, 1) := dl_5 (by decide +kernel)
theorem dX11_people_2 : decode cX11_people 2 = .ok (.iconst 4, 1) := dl_7 (by decide +kernel)
theorem dX11_people_3 : decode cX11_people 3 = .ok (.invokestatic 76, 3) := dl_184 (by decide +kernel)
theorem dX11_people_6 : decode cX11_people 6 = .ok (.ifCond .ne 5, 3) := dl_154 (by decide +kernel)
theorem dX11_people_11 : decode cX11_people 11 = .ok (.aload_n 0, 1) := dl_42 (by decide +kernel)
theorem dX11_people_12 : decode cX11_people 12 = .ok (.iload_n 1, 1) := dl_27 (by decide +kernel)
theorem dX11_people_13 : decode cX11_people 13 = .ok (.putfield 106, 3) := dl_181 (by decide +kernel)
theorem fp_X11_106 : FP RX11 106 11 12 .int false := ⟨RX11, TX11, 15, tyX11, uw_X11, wf_X11_106, rfl, by decide, rfl, tyX11_ok, nmX11, rfl, by decide +kernel⟩
theorem dX11_people_16 : decode cX11_people 16 = .ok (.aload_n 0, 1) := dl_42 (by decide +kernel)
theorem dX11_people_17 : decode cX11_people 17 = .ok (.iconst 0, 1) := dl_3 (by decide +kernel)
theorem dX11_people_18 : decode cX11_people 18 = .ok (.putfield 324, 3) := dl_181 (by decide +kernel)
theorem wf_X11_324 : Cond.fieldLink RX11 324 RX11 "known" "I" ∈ TB := tbm (tq2 (List.mem_of_getElem? (i := 109) (by decide +kernel))) (by decide +kernel)
theorem fp_X11_324 : FP RX11 324 11 13 .int false := ⟨RX11, TX11, 15, tyX11, uw_X11, wf_X11_324, rfl, by decide, rfl, tyX11_ok, nmX11, rfl, by decide +kernel⟩
theorem dX11_people_21 : decode cX11_people 21 = .ok (.iconst 0, 1) := dl_3 (by decide +kernel)
theorem dX11_people_22 : decode cX11_people 22 = .ok (.istore_n 2, 1) := dl_61 (by decide +kernel)
theorem dX11_people_23 : decode cX11_people 23 = .ok (.iload_n 2, 1) := dl_28 (by decide +kernel)
theorem dX11_people_24 : decode cX11_people 24 = .ok (.iload_n 1, 1) := dl_27 (by decide +kernel)
theorem dX11_people_25 : decode cX11_people 25 = .ok (.if_icmp .ge 25, 3) := dl_162 (by decide +kernel)
theorem dX11_people_28 : decode cX11_people 28 = .ok (.aload_n 0, 1) := dl_42 (by decide +kernel)
theorem dX11_people_29 : decode cX11_people 29 = .ok (.dup, 1) := dl_89 (by decide +kernel)
theorem dX11_people_30 : decode cX11_people 30 = .ok (.getfield 324, 3) := dl_180 (by decide +kernel)
theorem fg_X11_324 : FG RX11 324 11 13 := ⟨RX11, TX11, 15, uw_X11, wf_X11_324, rfl, by decide, rfl⟩
theorem dX11_people_33 : decode cX11_people 33 = .ok (.iconst 1, 1) := dl_4 (by decide +kernel)
theorem dX11_people_34 : decode cX11_people 34 = .ok (.iload_n 2, 1) := dl_28 (by decide +kernel)
theorem dX11_people_35 : decode cX11_people 35 = .ok (.ishl, 1) := dl_120 (by decide +kernel)
theorem dX11_people_36 : decode cX11_people 36 = .ok (.iconst 4, 1) := dl_7 (by decide +kernel)
theorem dX11_people_37 : decode cX11_people 37 = .ok (.iload_n 2, 1) := dl_28 (by decide +kernel)
theorem dX11_people_38 : decode cX11_people 38 = .ok (.imul, 1) := dl_104 (by decide +kernel)
theorem dX11_people_39 : decode cX11_people 39 = .ok (.ishl, 1) := dl_120 (by decide +kernel)
theorem dX11_people_40 : decode cX11_people 40 = .ok (.ior, 1) := dl_128 (by decide +kernel)
theorem dX11_people_41 : decode cX11_people 41 = .ok (.putfield 324, 3) := dl_181 (by decide +kernel)
theorem dX11_people_44 : decode cX11_people 44 = .ok (.iinc 2 1, 3) := dl_132 (by decide +kernel)
theorem dX11_people_47 : decode cX11_people 47 = .ok (.goto (-24), 3) := dl_167 (by decide +kernel)
theorem dX11_people_50 : decode cX11_people 50 = .ok (.iload_n 1, 1) := dl_27 (by decide +kernel)
theorem dX11_people_51 : decode cX11_people 51 = .ok (.ireturn, 1) := dl_172 (by decide +kernel)
theorem dX11_people_9 : decode cX11_people 9 = .ok (.iconst (-1), 1) := dl_2 (by decide +kernel)
theorem dX11_people_10 : decode cX11_people 10 = .ok (.ireturn, 1) := dl_172 (by decide +kernel)
set_option maxRecDepth 100000 in
set_option maxHeartbeats 4000000 in
theorem x_people (l : Launch) (E : EV) (ro : va_W) (hx : Nat) (v0 : Int32) (h : Nat) (qp : Nat) (ac : Nat) (np : Nat) (qs : Nat) (qj : Nat) (ly : Nat) (qh : Nat) (kk : Nat) (kc : Nat) (rd : Nat) (pg : Nat) (pe : Nat) (kn : Int32) (ss : Nat) (hpe : pe ≤ 4) : CT l yX11_people (Cond.code yX11_people cX11_people 3 (some .int) :: TB) ({ frames := 1, cells := 0, slots := 0, locals := 22 }) E ro [.ref hx, .int v0] [(hx, .inr (11, [.ref h, .ref qp, .int (nI ac), .int (nI np), .ref qs, .ref qj, .ref ly, .ref qh, .ref kk, .int (nI kc), .ref rd, .ref pg, .int (nI pe), .int kn, .ref ss]))] (Qi E (fun (rz : Int32) uz => (rz = (-1) ∧ uz = [(hx, .inr (11, [.ref h, .ref qp, .int (nI ac), .int (nI np), .ref qs, .ref qj, .ref ly, .ref qh, .ref kk, .int (nI kc), .ref rd, .ref pg, .int (nI pe), .int kn, .ref ss]))] ∧ (v0.toInt < 2 ∨ 4 < v0.toInt)) ∨ (rz = 2 ∧ uz = [(hx, .inr (11, [.ref h, .ref qp, .int (nI ac), .int (nI np), .ref qs, .ref qj, .ref ly, .ref qh, .ref kk, .int (nI kc), .ref rd, .ref pg, .int 2, .int 33, .ref ss]))] ∧ (v0.toInt = 2)) ∨ (rz = 3 ∧ uz = [(hx, .inr (11, [.ref h, .ref qp, .int (nI ac), .int (nI np), .ref qs, .ref qj, .ref ly, .ref qh, .ref kk, .int (nI kc), .ref rd, .ref pg, .int 3, .int 1057, .ref ss]))] ∧ (v0.toInt = 3)) ∨ (rz = 4 ∧ uz = [(hx, .inr (11, [.ref h, .ref qp, .int (nI ac), .int (nI np), .ref qs, .ref qj, .ref ly, .ref qh, .ref kk, .int (nI kc), .ref rd, .ref pg, .int 4, .int 33825, .ref ss]))] ∧ (v0.toInt = 4)))) 0 0 := by
  refine ct_of rfl rfl ?_
  intro X C hT hin hro
  show WW X 3 E 0 [(0, .ref hx), (1, .int v0)] [] [(hx, .inr (11, [.ref h, .ref qp, .int (nI ac), .int (nI np), .ref qs, .ref qj, .ref ly, .ref qh, .ref kk, .int (nI kc), .ref rd, .ref pg, .int (nI pe), .int kn, .ref ss]))] 0 0
  refine ww_iload_n C dX11_people_0 1 rfl rfl ?_
  refine ww_iconst (v := 2) C dX11_people_1 rfl ?_
  refine ww_iconst (v := 4) C dX11_people_2 rfl ?_
  refine ww_ci (wr := [(hx, .inr (11, [.ref h, .ref qp, .int (nI ac), .int (nI np), .ref qs, .ref qj, .ref ly, .ref qh, .ref kk, .int (nI kc), .ref rd, .ref pg, .int (nI pe), .int kn, .ref ss]))]) (k' := 0) (n' := 0) C (run_S (As := [.int v0, .int 2, .int 4]) (rest := []) C (c_within X.2.1 E ro v0 2 4 v0.toInt 2 4 rfl rfl rfl) ms_X11_within wl_X11_76 rfl rfl rfl rfl dX11_people_3) (roK hro) [] [0] rfl rfl rfl rfl (fun r_1 uz hw => ?_)
  rcases hw with hw | hw
  · refine an3 hw ?_
    clear hw
    intro he_4 he_5 h_2 hw
    have h_3 := hw
    clear hw
    have he_4 := he_4.symm
    subst he_4
    subst he_5
    refine ww_eq (ws' := [(hx, .inr (11, [.ref h, .ref qp, .int (nI ac), .int (nI np), .ref qs, .ref qj, .ref ly, .ref qh, .ref kk, .int (nI kc), .ref rd, .ref pg, .int (nI pe), .int kn, .ref ss]))]) ?_ rfl rfl rfl
    refine ww_if_ne_t (tgt := 11) C dX11_people_6 (by decide) (by decide) ?_
    rcases sp_2_4 (x := v0) (by omega) (by omega) with rfl | rfl | rfl
    · refine ww_aload_n C dX11_people_11 0 rfl rfl ?_
      refine ww_iload_n C dX11_people_12 1 rfl rfl ?_
      refine ww_put (ws' := [(hx, .inr (11, [.ref h, .ref qp, .int (nI ac), .int (nI np), .ref qs, .ref qj, .ref ly, .ref qh, .ref kk, .int (nI kc), .ref rd, .ref pg, .int 2, .int kn, .ref ss]))]) C fp_X11_106 0 rfl rfl rfl rfl rfl dX11_people_13 ?_
      refine ww_aload_n C dX11_people_16 0 rfl rfl ?_
      refine ww_iconst (v := 0) C dX11_people_17 rfl ?_
      refine ww_put (ws' := [(hx, .inr (11, [.ref h, .ref qp, .int (nI ac), .int (nI np), .ref qs, .ref qj, .ref ly, .ref qh, .ref kk, .int (nI kc), .ref rd, .ref pg, .int 2, .int 0, .ref ss]))]) C fp_X11_324 0 rfl rfl rfl rfl rfl dX11_people_18 ?_
      refine ww_iconst (v := 0) C dX11_people_21 rfl ?_
      refine ww_istore_n (lv' := [(2, .int 0), (0, .ref hx), (1, .int 2)]) C dX11_people_22 rfl rfl rfl ?_
      refine ww_iload_n C dX11_people_23 0 rfl rfl ?_
      refine ww_iload_n C dX11_people_24 2 rfl rfl ?_
      refine ww_icmp_ge_f (tgt := 50) C dX11_people_25 (by decide) (by decide) ?_
      refine ww_aload_n C dX11_people_28 1 rfl rfl ?_
      refine ww_dup C dX11_people_29 rfl ?_
      refine ww_get C fg_X11_324 0 rfl rfl dX11_people_30 ?_
      refine ww_iconst (v := 1) C dX11_people_33 rfl ?_
      refine ww_iload_n C dX11_people_34 0 rfl rfl ?_
      refine ww_ishl (v := 1) C dX11_people_35 (by decide) ?_
      refine ww_iconst (v := 4) C dX11_people_36 rfl ?_
      refine ww_iload_n C dX11_people_37 0 rfl rfl ?_
      refine ww_imul (v := 0) C dX11_people_38 (by decide) ?_
      refine ww_ishl (v := 1) C dX11_people_39 (by decide) ?_
      refine ww_ior (v := 1) C dX11_people_40 (by decide) ?_
      refine ww_put (ws' := [(hx, .inr (11, [.ref h, .ref qp, .int (nI ac), .int (nI np), .ref qs, .ref qj, .ref ly, .ref qh, .ref kk, .int (nI kc), .ref rd, .ref pg, .int 2, .int 1, .ref ss]))]) C fp_X11_324 0 rfl rfl rfl rfl rfl dX11_people_41 ?_
      refine ww_iinc (j := 0) (v := 1) (lv' := [(2, .int 1), (0, .ref hx), (1, .int 2)]) C dX11_people_44 rfl rfl rfl rfl ?_
      refine ww_goto (tgt := 23) C dX11_people_47 (by decide) ?_
      refine ww_iload_n C dX11_people_23 0 rfl rfl ?_
      refine ww_iload_n C dX11_people_24 2 rfl rfl ?_
      refine ww_icmp_ge_f (tgt := 50) C dX11_people_25 (by decide) (by decide) ?_
      refine ww_aload_n C dX11_people_28 1 rfl rfl ?_
      refine ww_dup C dX11_people_29 rfl ?_
      refine ww_get C fg_X11_324 0 rfl rfl dX11_people_30 ?_
      refine ww_iconst (v := 1) C dX11_people_33 rfl ?_
      refine ww_iload_n C dX11_people_34 0 rfl rfl ?_
      refine ww_ishl (v := 2) C dX11_people_35 (by decide) ?_
      refine ww_iconst (v := 4) C dX11_people_36 rfl ?_
      refine ww_iload_n C dX11_people_37 0 rfl rfl ?_
      refine ww_imul (v := 4) C dX11_people_38 (by decide) ?_
      refine ww_ishl (v := 32) C dX11_people_39 (by decide) ?_
      refine ww_ior (v := 33) C dX11_people_40 (by decide) ?_
      refine ww_put (ws' := [(hx, .inr (11, [.ref h, .ref qp, .int (nI ac), .int (nI np), .ref qs, .ref qj, .ref ly, .ref qh, .ref kk, .int (nI kc), .ref rd, .ref pg, .int 2, .int 33, .ref ss]))]) C fp_X11_324 0 rfl rfl rfl rfl rfl dX11_people_41 ?_
      refine ww_iinc (j := 0) (v := 2) (lv' := [(2, .int 2), (0, .ref hx), (1, .int 2)]) C dX11_people_44 rfl rfl rfl rfl ?_
      refine ww_goto (tgt := 23) C dX11_people_47 (by decide) ?_
      refine ww_iload_n C dX11_people_23 0 rfl rfl ?_
      refine ww_iload_n C dX11_people_24 2 rfl rfl ?_
      refine ww_icmp_ge_t (tgt := 50) C dX11_people_25 (by decide) (by decide) ?_
      refine ww_iload_n C dX11_people_50 2 rfl rfl ?_
      exact ww_iret (u := [(hx, .inr (11, [.ref h, .ref qp, .int (nI ac), .int (nI np), .ref qs, .ref qj, .ref ly, .ref qh, .ref kk, .int (nI kc), .ref rd, .ref pg, .int 2, .int 33, .ref ss]))]) C hT [0] rfl rfl rfl rfl dX11_people_51 (Or.inr (Or.inl ⟨rfl, rfl, (by first | assumption | omega | decide)⟩))
    · refine ww_aload_n C dX11_people_11 0 rfl rfl ?_
      refine ww_iload_n C dX11_people_12 1 rfl rfl ?_
      refine ww_put (ws' := [(hx, .inr (11, [.ref h, .ref qp, .int (nI ac), .int (nI np), .ref qs, .ref qj, .ref ly, .ref qh, .ref kk, .int (nI kc), .ref rd, .ref pg, .int 3, .int kn, .ref ss]))]) C fp_X11_106 0 rfl rfl rfl rfl rfl dX11_people_13 ?_
      refine ww_aload_n C dX11_people_16 0 rfl rfl ?_
      refine ww_iconst (v := 0) C dX11_people_17 rfl ?_
      refine ww_put (ws' := [(hx, .inr (11, [.ref h, .ref qp, .int (nI ac), .int (nI np), .ref qs, .ref qj, .ref ly, .ref qh, .ref kk, .int (nI kc), .ref rd, .ref pg, .int 3, .int 0, .ref ss]))]) C fp_X11_324 0 rfl rfl rfl rfl rfl dX11_people_18 ?_
      refine ww_iconst (v := 0) C dX11_people_21 rfl ?_
      refine ww_istore_n (lv' := [(2, .int 0), (0, .ref hx), (1, .int 3)]) C dX11_people_22 rfl rfl rfl ?_
      refine ww_iload_n C dX11_people_23 0 rfl rfl ?_
      refine ww_iload_n C dX11_people_24 2 rfl rfl ?_
      refine ww_icmp_ge_f (tgt := 50) C dX11_people_25 (by decide) (by decide) ?_
      refine ww_aload_n C dX11_people_28 1 rfl rfl ?_
      refine ww_dup C dX11_people_29 rfl ?_
      refine ww_get C fg_X11_324 0 rfl rfl dX11_people_30 ?_
      refine ww_iconst (v := 1) C dX11_people_33 rfl ?_
      refine ww_iload_n C dX11_people_34 0 rfl rfl ?_
      refine ww_ishl (v := 1) C dX11_people_35 (by decide) ?_
      refine ww_iconst (v := 4) C dX11_people_36 rfl ?_
      refine ww_iload_n C dX11_people_37 0 rfl rfl ?_
      refine ww_imul (v := 0) C dX11_people_38 (by decide) ?_
      refine ww_ishl (v := 1) C dX11_people_39 (by decide) ?_
      refine ww_ior (v := 1) C dX11_people_40 (by decide) ?_
      refine ww_put (ws' := [(hx, .inr (11, [.ref h, .ref qp, .int (nI ac), .int (nI np), .ref qs, .ref qj, .ref ly, .ref qh, .ref kk, .int (nI kc), .ref rd, .ref pg, .int 3, .int 1, .ref ss]))]) C fp_X11_324 0 rfl rfl rfl rfl rfl dX11_people_41 ?_
      refine ww_iinc (j := 0) (v := 1) (lv' := [(2, .int 1), (0, .ref hx), (1, .int 3)]) C dX11_people_44 rfl rfl rfl rfl ?_
      refine ww_goto (tgt := 23) C dX11_people_47 (by decide) ?_
      refine ww_iload_n C dX11_people_23 0 rfl rfl ?_
      refine ww_iload_n C dX11_people_24 2 rfl rfl ?_
      refine ww_icmp_ge_f (tgt := 50) C dX11_people_25 (by decide) (by decide) ?_
      refine ww_aload_n C dX11_people_28 1 rfl rfl ?_
      refine ww_dup C dX11_people_29 rfl ?_
      refine ww_get C fg_X11_324 0 rfl rfl dX11_people_30 ?_
      refine ww_iconst (v := 1) C dX11_people_33 rfl ?_
      refine ww_iload_n C dX11_people_34 0 rfl rfl ?_
      refine ww_ishl (v := 2) C dX11_people_35 (by decide) ?_
      refine ww_iconst (v := 4) C dX11_people_36 rfl ?_
      refine ww_iload_n C dX11_people_37 0 rfl rfl ?_
      refine ww_imul (v := 4) C dX11_people_38 (by decide) ?_
      refine ww_ishl (v := 32) C dX11_people_39 (by decide) ?_
      refine ww_ior (v := 33) C dX11_people_40 (by decide) ?_
      refine ww_put (ws' := [(hx, .inr (11, [.ref h, .ref qp, .int (nI ac), .int (nI np), .ref qs, .ref qj, .ref ly, .ref qh, .ref kk, .int (nI kc), .ref rd, .ref pg, .int 3, .int 33, .ref ss]))]) C fp_X11_324 0 rfl rfl rfl rfl rfl dX11_people_41 ?_
      refine ww_iinc (j := 0) (v := 2) (lv' := [(2, .int 2), (0, .ref hx), (1, .int 3)]) C dX11_people_44 rfl rfl rfl rfl ?_
      refine ww_goto (tgt := 23) C dX11_people_47 (by decide) ?_
      refine ww_iload_n C dX11_people_23 0 rfl rfl ?_
      refine ww_iload_n C dX11_people_24 2 rfl rfl ?_
      refine ww_icmp_ge_f (tgt := 50) C dX11_people_25 (by decide) (by decide) ?_
      refine ww_aload_n C dX11_people_28 1 rfl rfl ?_
      refine ww_dup C dX11_people_29 rfl ?_
      refine ww_get C fg_X11_324 0 rfl rfl dX11_people_30 ?_
      refine ww_iconst (v := 1) C dX11_people_33 rfl ?_
      refine ww_iload_n C dX11_people_34 0 rfl rfl ?_
      refine ww_ishl (v := 4) C dX11_people_35 (by decide) ?_
      refine ww_iconst (v := 4) C dX11_people_36 rfl ?_
      refine ww_iload_n C dX11_people_37 0 rfl rfl ?_
      refine ww_imul (v := 8) C dX11_people_38 (by decide) ?_
      refine ww_ishl (v := 1024) C dX11_people_39 (by decide) ?_
      refine ww_ior (v := 1057) C dX11_people_40 (by decide) ?_
      refine ww_put (ws' := [(hx, .inr (11, [.ref h, .ref qp, .int (nI ac), .int (nI np), .ref qs, .ref qj, .ref ly, .ref qh, .ref kk, .int (nI kc), .ref rd, .ref pg, .int 3, .int 1057, .ref ss]))]) C fp_X11_324 0 rfl rfl rfl rfl rfl dX11_people_41 ?_
      refine ww_iinc (j := 0) (v := 3) (lv' := [(2, .int 3), (0, .ref hx), (1, .int 3)]) C dX11_people_44 rfl rfl rfl rfl ?_
      refine ww_goto (tgt := 23) C dX11_people_47 (by decide) ?_
      refine ww_iload_n C dX11_people_23 0 rfl rfl ?_
      refine ww_iload_n C dX11_people_24 2 rfl rfl ?_
      refine ww_icmp_ge_t (tgt := 50) C dX11_people_25 (by decide) (by decide) ?_
      refine ww_iload_n C dX11_people_50 2 rfl rfl ?_
      exact ww_iret (u := [(hx, .inr (11, [.ref h, .ref qp, .int (nI ac), .int (nI np), .ref qs, .ref qj, .ref ly, .ref qh, .ref kk, .int (nI kc), .ref rd, .ref pg, .int 3, .int 1057, .ref ss]))]) C hT [0] rfl rfl rfl rfl dX11_people_51 (Or.inr (Or.inr (Or.inl ⟨rfl, rfl, (by first | assumption | omega | decide)⟩)))
    · refine ww_aload_n C dX11_people_11 0 rfl rfl ?_
      refine ww_iload_n C dX11_people_12 1 rfl rfl ?_
      refine ww_put (ws' := [(hx, .inr (11, [.ref h, .ref qp, .int (nI ac), .int (nI np), .ref qs, .ref qj, .ref ly, .ref qh, .ref kk, .int (nI kc), .ref rd, .ref pg, .int 4, .int kn, .ref ss]))]) C fp_X11_106 0 rfl rfl rfl rfl rfl dX11_people_13 ?_
      refine ww_aload_n C dX11_people_16 0 rfl rfl ?_
      refine ww_iconst (v := 0) C dX11_people_17 rfl ?_
      refine ww_put (ws' := [(hx, .inr (11, [.ref h, .ref qp, .int (nI ac), .int (nI np), .ref qs, .ref qj, .ref ly, .ref qh, .ref kk, .int (nI kc), .ref rd, .ref pg, .int 4, .int 0, .ref ss]))]) C fp_X11_324 0 rfl rfl rfl rfl rfl dX11_people_18 ?_
      refine ww_iconst (v := 0) C dX11_people_21 rfl ?_
      refine ww_istore_n (lv' := [(2, .int 0), (0, .ref hx), (1, .int 4)]) C dX11_people_22 rfl rfl rfl ?_
      refine ww_iload_n C dX11_people_23 0 rfl rfl ?_
      refine ww_iload_n C dX11_people_24 2 rfl rfl ?_
      refine ww_icmp_ge_f (tgt := 50) C dX11_people_25 (by decide) (by decide) ?_
      refine ww_aload_n C dX11_people_28 1 rfl rfl ?_
      refine ww_dup C dX11_people_29 rfl ?_
      refine ww_get C fg_X11_324 0 rfl rfl dX11_people_30 ?_
      refine ww_iconst (v := 1) C dX11_people_33 rfl ?_
      refine ww_iload_n C dX11_people_34 0 rfl rfl ?_
      refine ww_ishl (v := 1) C dX11_people_35 (by decide) ?_
      refine ww_iconst (v := 4) C dX11_people_36 rfl ?_
      refine ww_iload_n C dX11_people_37 0 rfl rfl ?_
      refine ww_imul (v := 0) C dX11_people_38 (by decide) ?_
      refine ww_ishl (v := 1) C dX11_people_39 (by decide) ?_
      refine ww_ior (v := 1) C dX11_people_40 (by decide) ?_
      refine ww_put (ws' := [(hx, .inr (11, [.ref h, .ref qp, .int (nI ac), .int (nI np), .ref qs, .ref qj, .ref ly, .ref qh, .ref kk, .int (nI kc), .ref rd, .ref pg, .int 4, .int 1, .ref ss]))]) C fp_X11_324 0 rfl rfl rfl rfl rfl dX11_people_41 ?_
      refine ww_iinc (j := 0) (v := 1) (lv' := [(2, .int 1), (0, .ref hx), (1, .int 4)]) C dX11_people_44 rfl rfl rfl rfl ?_
      refine ww_goto (tgt := 23) C dX11_people_47 (by decide) ?_
      refine ww_iload_n C dX11_people_23 0 rfl rfl ?_
      refine ww_iload_n C dX11_people_24 2 rfl rfl ?_
      refine ww_icmp_ge_f (tgt := 50) C dX11_people_25 (by decide) (by decide) ?_
      refine ww_aload_n C dX11_people_28 1 rfl rfl ?_
      refine ww_dup C dX11_people_29 rfl ?_
      refine ww_get C fg_X11_324 0 rfl rfl dX11_people_30 ?_
      refine ww_iconst (v := 1) C dX11_people_33 rfl ?_
      refine ww_iload_n C dX11_people_34 0 rfl rfl ?_
      refine ww_ishl (v := 2) C dX11_people_35 (by decide) ?_
      refine ww_iconst (v := 4) C dX11_people_36 rfl ?_
      refine ww_iload_n C dX11_people_37 0 rfl rfl ?_
      refine ww_imul (v := 4) C dX11_people_38 (by decide) ?_
      refine ww_ishl (v := 32) C dX11_people_39 (by decide) ?_
      refine ww_ior (v := 33) C dX11_people_40 (by decide) ?_
      refine ww_put (ws' := [(hx, .inr (11, [.ref h, .ref qp, .int (nI ac), .int (nI np), .ref qs, .ref qj, .ref ly, .ref qh, .ref kk, .int (nI kc), .ref rd, .ref pg, .int 4, .int 33, .ref ss]))]) C fp_X11_324 0 rfl rfl rfl rfl rfl dX11_people_41 ?_
      refine ww_iinc (j := 0) (v := 2) (lv' := [(2, .int 2), (0, .ref hx), (1, .int 4)]) C dX11_people_44 rfl rfl rfl rfl ?_
      refine ww_goto (tgt := 23) C dX11_people_47 (by decide) ?_
      refine ww_iload_n C dX11_people_23 0 rfl rfl ?_
      refine ww_iload_n C dX11_people_24 2 rfl rfl ?_
      refine ww_icmp_ge_f (tgt := 50) C dX11_people_25 (by decide) (by decide) ?_
      refine ww_aload_n C dX11_people_28 1 rfl rfl ?_
      refine ww_dup C dX11_people_29 rfl ?_
      refine ww_get C fg_X11_324 0 rfl rfl dX11_people_30 ?_
      refine ww_iconst (v := 1) C dX11_people_33 rfl ?_
      refine ww_iload_n C dX11_people_34 0 rfl rfl ?_
      refine ww_ishl (v := 4) C dX11_people_35 (by decide) ?_
      refine ww_iconst (v := 4) C dX11_people_36 rfl ?_
      refine ww_iload_n C dX11_people_37 0 rfl rfl ?_
      refine ww_imul (v := 8) C dX11_people_38 (by decide) ?_
      refine ww_ishl (v := 1024) C dX11_people_39 (by decide) ?_
      refine ww_ior (v := 1057) C dX11_people_40 (by decide) ?_
      refine ww_put (ws' := [(hx, .inr (11, [.ref h, .ref qp, .int (nI ac), .int (nI np), .ref qs, .ref qj, .ref ly, .ref qh, .ref kk, .int (nI kc), .ref rd, .ref pg, .int 4, .int 1057, .ref ss]))]) C fp_X11_324 0 rfl rfl rfl rfl rfl dX11_people_41 ?_
      refine ww_iinc (j := 0) (v := 3) (lv' := [(2, .int 3), (0, .ref hx), (1, .int 4)]) C dX11_people_44 rfl rfl rfl rfl ?_
      refine ww_goto (tgt := 23) C dX11_people_47 (by decide) ?_
      refine ww_iload_n C dX11_people_23 0 rfl rfl ?_
      refine ww_iload_n C dX11_people_24 2 rfl rfl ?_
      refine ww_icmp_ge_f (tgt := 50) C dX11_people_25 (by decide) (by decide) ?_
      refine ww_aload_n C dX11_people_28 1 rfl rfl ?_
      refine ww_dup C dX11_people_29 rfl ?_
      refine ww_get C fg_X11_324 0 rfl rfl dX11_people_30 ?_
      refine ww_iconst (v := 1) C dX11_people_33 rfl ?_
      refine ww_iload_n C dX11_people_34 0 rfl rfl ?_
      refine ww_ishl (v := 8) C dX11_people_35 (by decide) ?_
      refine ww_iconst (v := 4) C dX11_people_36 rfl ?_
      refine ww_iload_n C dX11_people_37 0 rfl rfl ?_
      refine ww_imul (v := 12) C dX11_people_38 (by decide) ?_
      refine ww_ishl (v := 32768) C dX11_people_39 (by decide) ?_
      refine ww_ior (v := 33825) C dX11_people_40 (by decide) ?_
      refine ww_put (ws' := [(hx, .inr (11, [.ref h, .ref qp, .int (nI ac), .int (nI np), .ref qs, .ref qj, .ref ly, .ref qh, .ref kk, .int (nI kc), .ref rd, .ref pg, .int 4, .int 33825, .ref ss]))]) C fp_X11_324 0 rfl rfl rfl rfl rfl dX11_people_41 ?_
      refine ww_iinc (j := 0) (v := 4) (lv' := [(2, .int 4), (0, .ref hx), (1, .int 4)]) C dX11_people_44 rfl rfl rfl rfl ?_
      refine ww_goto (tgt := 23) C dX11_people_47 (by decide) ?_
      refine ww_iload_n C dX11_people_23 0 rfl rfl ?_
      refine ww_iload_n C dX11_people_24 2 rfl rfl ?_
      refine ww_icmp_ge_t (tgt := 50) C dX11_people_25 (by decide) (by decide) ?_
      refine ww_iload_n C dX11_people_50 2 rfl rfl ?_
      exact ww_iret (u := [(hx, .inr (11, [.ref h, .ref qp, .int (nI ac), .int (nI np), .ref qs, .ref qj, .ref ly, .ref qh, .ref kk, .int (nI kc), .ref rd, .ref pg, .int 4, .int 33825, .ref ss]))]) C hT [0] rfl rfl rfl rfl dX11_people_51 (Or.inr (Or.inr (Or.inr ⟨rfl, rfl, (by first | assumption | omega | decide)⟩)))
  · refine an2 hw ?_
    clear hw
    intro he_7 he_8 hw
    have h_6 := hw
    clear hw
    have he_7 := he_7.symm
    subst he_7
    subst he_8
    refine ww_eq (ws' := [(hx, .inr (11, [.ref h, .ref qp, .int (nI ac), .int (nI np), .ref qs, .ref qj, .ref ly, .ref qh, .ref kk, .int (nI kc), .ref rd, .ref pg, .int (nI pe), .int kn, .ref ss]))]) ?_ rfl rfl rfl
    refine ww_if_ne_f (tgt := 11) C dX11_people_6 (by decide) (rfl) ?_
    refine ww_iconst (v := (-1)) C dX11_people_9 rfl ?_
    exact ww_iret (u := [(hx, .inr (11, [.ref h, .ref qp, .int (nI ac), .int (nI np), .ref qs, .ref qj, .ref ly, .ref qh, .ref kk, .int (nI kc), .ref rd, .ref pg, .int (nI pe), .int kn, .ref ss]))]) C hT [0] rfl rfl rfl rfl dX11_people_10 (Or.inl ⟨rfl, rfl, (by first | assumption | omega | decide)⟩)
theorem dX11_call_0 : decode cX11_call 0 = .ok (.aload_n 0, 1) := dl_42 (by decide +kernel)
theorem dX11_call_1 : decode cX11_call 1 = .ok (.iload_n 1, 1) := dl_27 (by decide +kernel)
theorem dX11_call_2 : decode cX11_call 2 = .ok (.invokevirtual 327, 3) := dl_182 (by decide +kernel)
theorem wl_X11_327 : Cond.methodLink RX11 327 yX11_isPerson ∈ TB := tbm (tq5 (List.mem_of_getElem? (i := 2) (by decide +kernel))) (by decide +kernel)
theorem wc_X11_isPerson : Cond.code yX11_isPerson cX11_isPerson 2 (some .boolean) ∈ TB := tbm (tq5 (List.mem_of_getElem? (i := 5) (rfl))) (by decide +kernel)
theorem wi_X11_isPerson : Cond.instanceMethod yX11_isPerson ∈ TB := tbm (tq5 (List.mem_of_getElem? (i := 4) (by decide +kernel))) (by decide +kernel)
theorem ws_X11_isPerson : Cond.selects RX11 yX11_isPerson yX11_isPerson ∈ TB := tbm (tq0 (List.mem_of_getElem? (i := 33) (by decide +kernel))) (by decide +kernel)
theorem mi_X11_isPerson : MI yX11_isPerson cX11_isPerson 2 (some .boolean) 1 := ⟨wc_X11_isPerson, wn_X11, ⟨by decide +kernel, by decide +kernel, by decide +kernel⟩, wi_X11_isPerson, ws_X11_isPerson⟩
theorem dX11_call_5 : decode cX11_call 5 = .ok (.ifCond .eq 16, 3) := dl_153 (by decide +kernel)
theorem dX11_call_8 : decode cX11_call 8 = .ok (.aload_n 0, 1) := dl_42 (by decide +kernel)
theorem dX11_call_9 : decode cX11_call 9 = .ok (.iload_n 2, 1) := dl_28 (by decide +kernel)
theorem dX11_call_10 : decode cX11_call 10 = .ok (.invokevirtual 327, 3) := dl_182 (by decide +kernel)
theorem dX11_call_13 : decode cX11_call 13 = .ok (.ifCond .eq 8, 3) := dl_153 (by decide +kernel)
theorem dX11_call_16 : decode cX11_call 16 = .ok (.iload_n 1, 1) := dl_27 (by decide +kernel)
theorem dX11_call_17 : decode cX11_call 17 = .ok (.iload_n 2, 1) := dl_28 (by decide +kernel)
theorem dX11_call_18 : decode cX11_call 18 = .ok (.if_icmp .ne 5, 3) := dl_160 (by decide +kernel)
theorem dX11_call_23 : decode cX11_call 23 = .ok (.aload_n 0, 1) := dl_42 (by decide +kernel)
theorem dX11_call_24 : decode cX11_call 24 = .ok (.aload_n 0, 1) := dl_42 (by decide +kernel)
theorem dX11_call_25 : decode cX11_call 25 = .ok (.getfield 324, 3) := dl_180 (by decide +kernel)
theorem dX11_call_28 : decode cX11_call 28 = .ok (.iload_n 1, 1) := dl_27 (by decide +kernel)
theorem dX11_call_29 : decode cX11_call 29 = .ok (.iload_n 2, 1) := dl_28 (by decide +kernel)
theorem dX11_call_30 : decode cX11_call 30 = .ok (.invokestatic 318, 3) := dl_184 (by decide +kernel)
theorem dX11_call_33 : decode cX11_call 33 = .ok (.putfield 324, 3) := dl_181 (by decide +kernel)
theorem dX11_call_36 : decode cX11_call 36 = .ok (.aload_n 0, 1) := dl_42 (by decide +kernel)
theorem dX11_call_37 : decode cX11_call 37 = .ok (.getfield 324, 3) := dl_180 (by decide +kernel)
theorem dX11_call_40 : decode cX11_call 40 = .ok (.iload_n 1, 1) := dl_27 (by decide +kernel)
theorem dX11_call_41 : decode cX11_call 41 = .ok (.invokestatic 308, 3) := dl_184 (by decide +kernel)
theorem dX11_call_44 : decode cX11_call 44 = .ok (.invokestatic 330, 3) := dl_184 (by decide +kernel)
theorem wl_X11_330 : Cond.methodLink RX11 330 yJ6_bitCount_0f7a4 ∈ TB := tbm (tq5 (List.mem_of_getElem? (i := 12) (by decide +kernel))) (by decide +kernel)
theorem dX11_call_47 : decode cX11_call 47 = .ok (.ireturn, 1) := dl_172 (by decide +kernel)
theorem dX11_call_21 : decode cX11_call 21 = .ok (.iconst (-1), 1) := dl_2 (by decide +kernel)
theorem dX11_call_22 : decode cX11_call 22 = .ok (.ireturn, 1) := dl_172 (by decide +kernel)
set_option maxRecDepth 100000 in
set_option maxHeartbeats 4000000 in
theorem x_call (l : Launch) (E : EV) (ro : va_W) (hx : Nat) (v0 : Int32) (v1 : Int32) (h : Nat) (qp : Nat) (ac : Nat) (np : Nat) (qs : Nat) (qj : Nat) (ly : Nat) (qh : Nat) (kk : Nat) (kc : Nat) (rd : Nat) (pg : Nat) (pe : Nat) (kn : Int32) (ss : Nat) (hpe : pe ≤ 4) : CT l yX11_call (Cond.code yX11_call cX11_call 3 (some .int) :: TB) ({ frames := 2, cells := 0, slots := 0, locals := 44 }) E ro [.ref hx, .int v0, .int v1] [(hx, .inr (11, [.ref h, .ref qp, .int (nI ac), .int (nI np), .ref qs, .ref qj, .ref ly, .ref qh, .ref kk, .int (nI kc), .ref rd, .ref pg, .int (nI pe), .int kn, .ref ss]))] (Qi E (fun (rz : Int32) uz => (rz = (-1) ∧ uz = [(hx, .inr (11, [.ref h, .ref qp, .int (nI ac), .int (nI np), .ref qs, .ref qj, .ref ly, .ref qh, .ref kk, .int (nI kc), .ref rd, .ref pg, .int (nI pe), .int kn, .ref ss]))] ∧ (v0.toInt < 0 ∨ (pe : Int) ≤ v0.toInt ∨ v1.toInt < 0 ∨ (pe : Int) ≤ v1.toInt ∨ v0.toInt = v1.toInt)) ∨ (∃ (i_ : Nat) (j_ : Nat), rz = (bcf (sc (cl kn i_ j_) i_)) ∧ uz = [(hx, .inr (11, [.ref h, .ref qp, .int (nI ac), .int (nI np), .ref qs, .ref qj, .ref ly, .ref qh, .ref kk, .int (nI kc), .ref rd, .ref pg, .int (nI pe), .int (cl kn i_ j_), .ref ss]))] ∧ (v0 = nI i_) ∧ (v1 = nI j_) ∧ (i_ < pe) ∧ (j_ < pe) ∧ (i_ ≠ j_)))) 0 0 := by
  refine ct_of rfl rfl ?_
  intro X C hT hin hro
  show WW X 3 E 0 [(0, .ref hx), (1, .int v0), (2, .int v1)] [] [(hx, .inr (11, [.ref h, .ref qp, .int (nI ac), .int (nI np), .ref qs, .ref qj, .ref ly, .ref qh, .ref kk, .int (nI kc), .ref rd, .ref pg, .int (nI pe), .int kn, .ref ss]))] 0 0
  refine ww_aload_n C dX11_call_0 0 rfl rfl ?_
  refine ww_iload_n C dX11_call_1 1 rfl rfl ?_
  refine ww_ci (wr := []) (k' := 0) (n' := 0) C (run_V (As := [.int v0]) (rest := []) C (x_isPerson X.2.1 E ro hx v0 h qp ac np qs qj ly qh kk kc rd pg pe kn ss (by omega)) mi_X11_isPerson wl_X11_327 rfl 0 11 rfl rfl rfl rfl rfl dX11_call_2) (roK hro) [0] [] rfl rfl rfl rfl (fun r_1 uz hw => ?_)
  rcases hw with hw | hw
  · refine an3 hw ?_
    clear hw
    intro he_4 he_5 h_2 hw
    have h_3 := hw
    clear hw
    have he_4 := he_4.symm
    subst he_4
    subst he_5
    refine ww_eq (ws' := [(hx, .inr (11, [.ref h, .ref qp, .int (nI ac), .int (nI np), .ref qs, .ref qj, .ref ly, .ref qh, .ref kk, .int (nI kc), .ref rd, .ref pg, .int (nI pe), .int kn, .ref ss]))]) ?_ rfl rfl rfl
    refine ww_if_eq_f (tgt := 21) C dX11_call_5 (by decide) (by decide) ?_
    refine ww_aload_n C dX11_call_8 0 rfl rfl ?_
    refine ww_iload_n C dX11_call_9 2 rfl rfl ?_
    refine ww_ci (wr := []) (k' := 0) (n' := 0) C (run_V (As := [.int v1]) (rest := []) C (x_isPerson X.2.1 E ro hx v1 h qp ac np qs qj ly qh kk kc rd pg pe kn ss (by omega)) mi_X11_isPerson wl_X11_327 rfl 0 11 rfl rfl rfl rfl rfl dX11_call_10) (roK hro) [0] [] rfl rfl rfl rfl (fun r_9 uz hw => ?_)
    rcases hw with hw | hw
    · refine an3 hw ?_
      clear hw
      intro he_12 he_13 h_10 hw
      have h_11 := hw
      clear hw
      have he_12 := he_12.symm
      subst he_12
      subst he_13
      refine ww_eq (ws' := [(hx, .inr (11, [.ref h, .ref qp, .int (nI ac), .int (nI np), .ref qs, .ref qj, .ref ly, .ref qh, .ref kk, .int (nI kc), .ref rd, .ref pg, .int (nI pe), .int kn, .ref ss]))]) ?_ rfl rfl rfl
      refine ww_if_eq_f (tgt := 21) C dX11_call_13 (by decide) (by decide) ?_
      refine ww_iload_n C dX11_call_16 1 rfl rfl ?_
      refine ww_iload_n C dX11_call_17 2 rfl rfl ?_
      refine ww_icmp_ne (tgt := 23) C dX11_call_18 (by decide) (fun c_17 => ?_) (fun c_17 => ?_)
      · have zc_17 : v0.toInt ≠ v1.toInt := i_ne rfl rfl c_17
        obtain ⟨j_18, hj_18, rfl⟩ := i_nat (x := v0) (N := 3) (by omega) (by omega)
        have hzj_18 := nI_toInt (n := j_18) (by omega)
        obtain ⟨j_19, hj_19, rfl⟩ := i_nat (x := v1) (N := 3) (by omega) (by omega)
        have hzj_19 := nI_toInt (n := j_19) (by omega)
        refine ww_aload_n C dX11_call_23 0 rfl rfl ?_
        refine ww_aload_n C dX11_call_24 0 rfl rfl ?_
        refine ww_get C fg_X11_324 0 rfl rfl dX11_call_25 ?_
        refine ww_iload_n C dX11_call_28 1 rfl rfl ?_
        refine ww_iload_n C dX11_call_29 2 rfl rfl ?_
        refine ww_ci (wr := [(hx, .inr (11, [.ref h, .ref qp, .int (nI ac), .int (nI np), .ref qs, .ref qj, .ref ly, .ref qh, .ref kk, .int (nI kc), .ref rd, .ref pg, .int (nI pe), .int kn, .ref ss]))]) (k' := 0) (n' := 0) C (run_S (As := [.int kn, .int (nI j_18), .int (nI j_19)]) (rest := [.ref hx]) C (c_called X.2.1 E ro kn j_18 j_19) ms_X11_called wl_X11_318 rfl rfl rfl rfl dX11_call_30) (roK hro) [] [0] rfl rfl rfl rfl (fun r_20 uz hw => ?_)
        refine an1 hw ?_
        clear hw
        intro he_21 hw
        have he_22 := hw
        clear hw
        have he_21 := he_21.symm
        subst he_21
        subst he_22
        refine ww_eq (ws' := [(hx, .inr (11, [.ref h, .ref qp, .int (nI ac), .int (nI np), .ref qs, .ref qj, .ref ly, .ref qh, .ref kk, .int (nI kc), .ref rd, .ref pg, .int (nI pe), .int kn, .ref ss]))]) ?_ rfl rfl rfl
        refine ww_put (ws' := [(hx, .inr (11, [.ref h, .ref qp, .int (nI ac), .int (nI np), .ref qs, .ref qj, .ref ly, .ref qh, .ref kk, .int (nI kc), .ref rd, .ref pg, .int (nI pe), .int (cl kn j_18 j_19), .ref ss]))]) C fp_X11_324 0 rfl rfl rfl rfl rfl dX11_call_33 ?_
        refine ww_aload_n C dX11_call_36 0 rfl rfl ?_
        refine ww_get C fg_X11_324 0 rfl rfl dX11_call_37 ?_
        refine ww_iload_n C dX11_call_40 1 rfl rfl ?_
        refine ww_ci (wr := [(hx, .inr (11, [.ref h, .ref qp, .int (nI ac), .int (nI np), .ref qs, .ref qj, .ref ly, .ref qh, .ref kk, .int (nI kc), .ref rd, .ref pg, .int (nI pe), .int (cl kn j_18 j_19), .ref ss]))]) (k' := 0) (n' := 0) C (run_S (As := [.int (cl kn j_18 j_19), .int (nI j_18)]) (rest := []) C (c_secretsOf X.2.1 E ro (cl kn j_18 j_19) j_18) ms_X11_secretsOf wl_X11_308 rfl rfl rfl rfl dX11_call_41) (roK hro) [] [0] rfl rfl rfl rfl (fun r_23 uz hw => ?_)
        refine an1 hw ?_
        clear hw
        intro he_24 hw
        have he_25 := hw
        clear hw
        have he_24 := he_24.symm
        subst he_24
        subst he_25
        refine ww_eq (ws' := [(hx, .inr (11, [.ref h, .ref qp, .int (nI ac), .int (nI np), .ref qs, .ref qj, .ref ly, .ref qh, .ref kk, .int (nI kc), .ref rd, .ref pg, .int (nI pe), .int (cl kn j_18 j_19), .ref ss]))]) ?_ rfl rfl rfl
        refine ww_ci (wr := [(hx, .inr (11, [.ref h, .ref qp, .int (nI ac), .int (nI np), .ref qs, .ref qj, .ref ly, .ref qh, .ref kk, .int (nI kc), .ref rd, .ref pg, .int (nI pe), .int (cl kn j_18 j_19), .ref ss]))]) (k' := 0) (n' := 0) C (run_S (As := [.int (sc (cl kn j_18 j_19) j_18)]) (rest := []) C (c_bitCount X.2.1 E ro (sc (cl kn j_18 j_19) j_18)) ms_J6_bitCount_0f7a4 wl_X11_330 rfl rfl rfl rfl dX11_call_44) (roK hro) [] [0] rfl rfl rfl rfl (fun r_26 uz hw => ?_)
        refine an1 hw ?_
        clear hw
        intro he_27 hw
        have he_28 := hw
        clear hw
        have he_27 := he_27.symm
        subst he_27
        subst he_28
        refine ww_eq (ws' := [(hx, .inr (11, [.ref h, .ref qp, .int (nI ac), .int (nI np), .ref qs, .ref qj, .ref ly, .ref qh, .ref kk, .int (nI kc), .ref rd, .ref pg, .int (nI pe), .int (cl kn j_18 j_19), .ref ss]))]) ?_ rfl rfl rfl
        exact ww_iret (u := [(hx, .inr (11, [.ref h, .ref qp, .int (nI ac), .int (nI np), .ref qs, .ref qj, .ref ly, .ref qh, .ref kk, .int (nI kc), .ref rd, .ref pg, .int (nI pe), .int (cl kn j_18 j_19), .ref ss]))]) C hT [0] rfl rfl rfl rfl dX11_call_47 (Or.inr ⟨_, _, rfl, rfl, rfl, rfl, (by omega), (by omega), (by omega)⟩)
      · have zc_17 : v0.toInt = v1.toInt := i_eq rfl rfl c_17
        refine ww_iconst (v := (-1)) C dX11_call_21 rfl ?_
        exact ww_iret (u := [(hx, .inr (11, [.ref h, .ref qp, .int (nI ac), .int (nI np), .ref qs, .ref qj, .ref ly, .ref qh, .ref kk, .int (nI kc), .ref rd, .ref pg, .int (nI pe), .int kn, .ref ss]))]) C hT [0] rfl rfl rfl rfl dX11_call_22 (Or.inl ⟨rfl, rfl, (by first | assumption | omega | decide)⟩)
    · refine an2 hw ?_
      clear hw
      intro he_15 he_16 hw
      have h_14 := hw
      clear hw
      have he_15 := he_15.symm
      subst he_15
      subst he_16
      refine ww_eq (ws' := [(hx, .inr (11, [.ref h, .ref qp, .int (nI ac), .int (nI np), .ref qs, .ref qj, .ref ly, .ref qh, .ref kk, .int (nI kc), .ref rd, .ref pg, .int (nI pe), .int kn, .ref ss]))]) ?_ rfl rfl rfl
      refine ww_if_eq_t (tgt := 21) C dX11_call_13 (by decide) (rfl) ?_
      refine ww_iconst (v := (-1)) C dX11_call_21 rfl ?_
      exact ww_iret (u := [(hx, .inr (11, [.ref h, .ref qp, .int (nI ac), .int (nI np), .ref qs, .ref qj, .ref ly, .ref qh, .ref kk, .int (nI kc), .ref rd, .ref pg, .int (nI pe), .int kn, .ref ss]))]) C hT [0] rfl rfl rfl rfl dX11_call_22 (Or.inl ⟨rfl, rfl, (by first | assumption | omega | decide)⟩)
  · refine an2 hw ?_
    clear hw
    intro he_7 he_8 hw
    have h_6 := hw
    clear hw
    have he_7 := he_7.symm
    subst he_7
    subst he_8
    refine ww_eq (ws' := [(hx, .inr (11, [.ref h, .ref qp, .int (nI ac), .int (nI np), .ref qs, .ref qj, .ref ly, .ref qh, .ref kk, .int (nI kc), .ref rd, .ref pg, .int (nI pe), .int kn, .ref ss]))]) ?_ rfl rfl rfl
    refine ww_if_eq_t (tgt := 21) C dX11_call_5 (by decide) (rfl) ?_
    refine ww_iconst (v := (-1)) C dX11_call_21 rfl ?_
    exact ww_iret (u := [(hx, .inr (11, [.ref h, .ref qp, .int (nI ac), .int (nI np), .ref qs, .ref qj, .ref ly, .ref qh, .ref kk, .int (nI kc), .ref rd, .ref pg, .int (nI pe), .int kn, .ref ss]))]) C hT [0] rfl rfl rfl rfl dX11_call_22 (Or.inl ⟨rfl, rfl, (by first | assumption | omega | decide)⟩)
theorem dX11_secrets_0 : decode cX11_secrets 0 = .ok (.aload_n 0, 1) := dl_42 (by decide +kernel)
theorem dX11_secrets_1 : decode cX11_secrets 1 = .ok (.iload_n 1, 1) := dl_27 (by decide +kernel)
theorem dX11_secrets_2 : decode cX11_secrets 2 = .ok (.invokevirtual 327, 3) := dl_182 (by decide +kernel)
theorem dX11_secrets_5 : decode cX11_secrets 5 = .ok (.ifCond .eq 14, 3) := dl_153 (by decide +kernel)
theorem dX11_secrets_8 : decode cX11_secrets 8 = .ok (.aload_n 0, 1) := dl_42 (by decide +kernel)
theorem dX11_secrets_9 : decode cX11_secrets 9 = .ok (.getfield 324, 3) := dl_180 (by decide +kernel)
theorem dX11_secrets_12 : decode cX11_secrets 12 = .ok (.iload_n 1, 1) := dl_27 (by decide +kernel)
theorem dX11_secrets_13 : decode cX11_secrets 13 = .ok (.invokestatic 308, 3) := dl_184 (by decide +kernel)
theorem dX11_secrets_16 : decode cX11_secrets 16 = .ok (.goto 4, 3) := dl_167 (by decide +kernel)
theorem dX11_secrets_20 : decode cX11_secrets 20 = .ok (.ireturn, 1) := dl_172 (by decide +kernel)
theorem dX11_secrets_19 : decode cX11_secrets 19 = .ok (.iconst (-1), 1) := dl_2 (by decide +kernel)
set_option maxRecDepth 100000 in
set_option maxHeartbeats 4000000 in
theorem x_secrets (l : Launch) (E : EV) (ro : va_W) (hx : Nat) (v0 : Int32) (h : Nat) (qp : Nat) (ac : Nat) (np : Nat) (qs : Nat) (qj : Nat) (ly : Nat) (qh : Nat) (kk : Nat) (kc : Nat) (rd : Nat) (pg : Nat) (pe : Nat) (kn : Int32) (ss : Nat) (hpe : pe ≤ 4) : CT l yX11_secrets (Cond.code yX11_secrets cX11_secrets 2 (some .int) :: TB) ({ frames := 2, cells := 0, slots := 0, locals := 43 }) E ro [.ref hx, .int v0] [(hx, .inr (11, [.ref h, .ref qp, .int (nI ac), .int (nI np), .ref qs, .ref qj, .ref ly, .ref qh, .ref kk, .int (nI kc), .ref rd, .ref pg, .int (nI pe), .int kn, .ref ss]))] (Qi E (fun (rz : Int32) uz => (rz = (-1) ∧ uz = [(hx, .inr (11, [.ref h, .ref qp, .int (nI ac), .int (nI np), .ref qs, .ref qj, .ref ly, .ref qh, .ref kk, .int (nI kc), .ref rd, .ref pg, .int (nI pe), .int kn, .ref ss]))] ∧ (v0.toInt < 0 ∨ (pe : Int) ≤ v0.toInt)) ∨ (∃ (i_ : Nat), rz = (sc kn i_) ∧ uz = [(hx, .inr (11, [.ref h, .ref qp, .int (nI ac), .int (nI np), .ref qs, .ref qj, .ref ly, .ref qh, .ref kk, .int (nI kc), .ref rd, .ref pg, .int (nI pe), .int kn, .ref ss]))] ∧ (v0 = nI i_) ∧ (i_ < pe)))) 0 0 := by
  refine ct_of rfl rfl ?_
  intro X C hT hin hro
  show WW X 2 E 0 [(0, .ref hx), (1, .int v0)] [] [(hx, .inr (11, [.ref h, .ref qp, .int (nI ac), .int (nI np), .ref qs, .ref qj, .ref ly, .ref qh, .ref kk, .int (nI kc), .ref rd, .ref pg, .int (nI pe), .int kn, .ref ss]))] 0 0
  refine ww_aload_n C dX11_secrets_0 0 rfl rfl ?_
  refine ww_iload_n C dX11_secrets_1 1 rfl rfl ?_
  refine ww_ci (wr := []) (k' := 0) (n' := 0) C (run_V (As := [.int v0]) (rest := []) C (x_isPerson X.2.1 E ro hx v0 h qp ac np qs qj ly qh kk kc rd pg pe kn ss (by omega)) mi_X11_isPerson wl_X11_327 rfl 0 11 rfl rfl rfl rfl rfl dX11_secrets_2) (roK hro) [0] [] rfl rfl rfl rfl (fun r_1 uz hw => ?_)
  rcases hw with hw | hw
  · refine an3 hw ?_
    clear hw
    intro he_4 he_5 h_2 hw
    have h_3 := hw
    clear hw
    have he_4 := he_4.symm
    subst he_4
    subst he_5
    refine ww_eq (ws' := [(hx, .inr (11, [.ref h, .ref qp, .int (nI ac), .int (nI np), .ref qs, .ref qj, .ref ly, .ref qh, .ref kk, .int (nI kc), .ref rd, .ref pg, .int (nI pe), .int kn, .ref ss]))]) ?_ rfl rfl rfl
    refine ww_if_eq_f (tgt := 19) C dX11_secrets_5 (by decide) (by decide) ?_
    obtain ⟨j_9, hj_9, rfl⟩ := i_nat (x := v0) (N := 3) (by omega) (by omega)
    have hzj_9 := nI_toInt (n := j_9) (by omega)
    refine ww_aload_n C dX11_secrets_8 0 rfl rfl ?_
    refine ww_get C fg_X11_324 0 rfl rfl dX11_secrets_9 ?_
    refine ww_iload_n C dX11_secrets_12 1 rfl rfl ?_
    refine ww_ci (wr := [(hx, .inr (11, [.ref h, .ref qp, .int (nI ac), .int (nI np), .ref qs, .ref qj, .ref ly, .ref qh, .ref kk, .int (nI kc), .ref rd, .ref pg, .int (nI pe), .int kn, .ref ss]))]) (k' := 0) (n' := 0) C (run_S (As := [.int kn, .int (nI j_9)]) (rest := []) C (c_secretsOf X.2.1 E ro kn j_9) ms_X11_secretsOf wl_X11_308 rfl rfl rfl rfl dX11_secrets_13) (roK hro) [] [0] rfl rfl rfl rfl (fun r_10 uz hw => ?_)
    refine an1 hw ?_
    clear hw
    intro he_11 hw
    have he_12 := hw
    clear hw
    have he_11 := he_11.symm
    subst he_11
    subst he_12
    refine ww_eq (ws' := [(hx, .inr (11, [.ref h, .ref qp, .int (nI ac), .int (nI np), .ref qs, .ref qj, .ref ly, .ref qh, .ref kk, .int (nI kc), .ref rd, .ref pg, .int (nI pe), .int kn, .ref ss]))]) ?_ rfl rfl rfl
    refine ww_goto (tgt := 20) C dX11_secrets_16 (by decide) ?_
    exact ww_iret (u := [(hx, .inr (11, [.ref h, .ref qp, .int (nI ac), .int (nI np), .ref qs, .ref qj, .ref ly, .ref qh, .ref kk, .int (nI kc), .ref rd, .ref pg, .int (nI pe), .int kn, .ref ss]))]) C hT [0] rfl rfl rfl rfl dX11_secrets_20 (Or.inr ⟨_, rfl, rfl, rfl, (by omega)⟩)
  · refine an2 hw ?_
    clear hw
    intro he_7 he_8 hw
    have h_6 := hw
    clear hw
    have he_7 := he_7.symm
    subst he_7
    subst he_8
    refine ww_eq (ws' := [(hx, .inr (11, [.ref h, .ref qp, .int (nI ac), .int (nI np), .ref qs, .ref qj, .ref ly, .ref qh, .ref kk, .int (nI kc), .ref rd, .ref pg, .int (nI pe), .int kn, .ref ss]))]) ?_ rfl rfl rfl
    refine ww_if_eq_t (tgt := 19) C dX11_secrets_5 (by decide) (rfl) ?_
    refine ww_iconst (v := (-1)) C dX11_secrets_19 rfl ?_
    exact ww_iret (u := [(hx, .inr (11, [.ref h, .ref qp, .int (nI ac), .int (nI np), .ref qs, .ref qj, .ref ly, .ref qh, .ref kk, .int (nI kc), .ref rd, .ref pg, .int (nI pe), .int kn, .ref ss]))]) C hT [0] rfl rfl rfl rfl dX11_secrets_20 (Or.inl ⟨rfl, rfl, (by first | assumption | omega | decide)⟩)
theorem dX11_fewest_0 : decode cX11_fewest 0 = .ok (.iload_n 1, 1) := dl_27 (by decide +kernel)
theorem dX11_fewest_1 : decode cX11_fewest 1 = .ok (.iconst 0, 1) := dl_3 (by decide +kernel)
theorem dX11_fewest_2 : decode cX11_fewest 2 = .ok (.iconst 1, 1) := dl_4 (by decide +kernel)
theorem dX11_fewest_3 : decode cX11_fewest 3 = .ok (.invokestatic 76, 3) := dl_184 (by decide +kernel)
theorem dX11_fewest_6 : decode cX11_fewest 6 = .ok (.ifCond .ne 5, 3) := dl_154 (by decide +kernel)
theorem dX11_fewest_11 : decode cX11_fewest 11 = .ok (.aload_n 0, 1) := dl_42 (by decide +kernel)
theorem dX11_fewest_12 : decode cX11_fewest 12 = .ok (.getfield 106, 3) := dl_180 (by decide +kernel)
theorem dX11_fewest_15 : decode cX11_fewest 15 = .ok (.ifCond .ne 6, 3) := dl_154 (by decide +kernel)
theorem dX11_fewest_21 : decode cX11_fewest 21 = .ok (.iconst 0, 1) := dl_3 (by decide +kernel)
theorem dX11_fewest_22 : decode cX11_fewest 22 = .ok (.istore_n 2, 1) := dl_61 (by decide +kernel)
theorem dX11_fewest_23 : decode cX11_fewest 23 = .ok (.iload_n 2, 1) := dl_28 (by decide +kernel)
theorem dX11_fewest_24 : decode cX11_fewest 24 = .ok (.iconst 4, 1) := dl_7 (by decide +kernel)
theorem dX11_fewest_25 : decode cX11_fewest 25 = .ok (.if_icmp .ge 24, 3) := dl_162 (by decide +kernel)
theorem dX11_fewest_49 : decode cX11_fewest 49 = .ok (.iload_n 1, 1) := dl_27 (by decide +kernel)
theorem dX11_fewest_50 : decode cX11_fewest 50 = .ok (.ifCond .ne 5, 3) := dl_154 (by decide +kernel)
theorem dX11_fewest_55 : decode cX11_fewest 55 = .ok (.iload_n 2, 1) := dl_28 (by decide +kernel)
theorem dX11_fewest_56 : decode cX11_fewest 56 = .ok (.ifCond .ne 8, 3) := dl_154 (by decide +kernel)
theorem dX11_fewest_59 : decode cX11_fewest 59 = .ok (.bipush (-4), 2) := dl_16 (by decide +kernel)
theorem dX11_fewest_61 : decode cX11_fewest 61 = .ok (.goto 15, 3) := dl_167 (by decide +kernel)
theorem dX11_fewest_76 : decode cX11_fewest 76 = .ok (.ireturn, 1) := dl_172 (by decide +kernel)
theorem dX11_fewest_64 : decode cX11_fewest 64 = .ok (.aload_n 0, 1) := dl_42 (by decide +kernel)
theorem dX11_fewest_65 : decode cX11_fewest 65 = .ok (.getfield 324, 3) := dl_180 (by decide +kernel)
theorem dX11_fewest_68 : decode cX11_fewest 68 = .ok (.aload_n 0, 1) := dl_42 (by decide +kernel)
theorem dX11_fewest_69 : decode cX11_fewest 69 = .ok (.getfield 106, 3) := dl_180 (by decide +kernel)
theorem dX11_fewest_72 : decode cX11_fewest 72 = .ok (.iload_n 2, 1) := dl_28 (by decide +kernel)
theorem dX11_fewest_73 : decode cX11_fewest 73 = .ok (.invokestatic 314, 3) := dl_184 (by decide +kernel)
theorem dX11_fewest_53 : decode cX11_fewest 53 = .ok (.iload_n 2, 1) := dl_28 (by decide +kernel)
theorem dX11_fewest_54 : decode cX11_fewest 54 = .ok (.ireturn, 1) := dl_172 (by decide +kernel)
theorem dX11_fewest_28 : decode cX11_fewest 28 = .ok (.aload_n 0, 1) := dl_42 (by decide +kernel)
theorem dX11_fewest_29 : decode cX11_fewest 29 = .ok (.getfield 324, 3) := dl_180 (by decide +kernel)
theorem dX11_fewest_32 : decode cX11_fewest 32 = .ok (.aload_n 0, 1) := dl_42 (by decide +kernel)
theorem dX11_fewest_33 : decode cX11_fewest 33 = .ok (.getfield 106, 3) := dl_180 (by decide +kernel)
theorem dX11_fewest_36 : decode cX11_fewest 36 = .ok (.iload_n 2, 1) := dl_28 (by decide +kernel)
theorem dX11_fewest_37 : decode cX11_fewest 37 = .ok (.invokestatic 321, 3) := dl_184 (by decide +kernel)
theorem dX11_fewest_40 : decode cX11_fewest 40 = .ok (.ifCond .ne 9, 3) := dl_154 (by decide +kernel)
theorem dX11_fewest_43 : decode cX11_fewest 43 = .ok (.iinc 2 1, 3) := dl_132 (by decide +kernel)
theorem dX11_fewest_46 : decode cX11_fewest 46 = .ok (.goto (-23), 3) := dl_167 (by decide +kernel)
theorem dX11_fewest_18 : decode cX11_fewest 18 = .ok (.bipush (-2), 2) := dl_16 (by decide +kernel)
theorem dX11_fewest_20 : decode cX11_fewest 20 = .ok (.ireturn, 1) := dl_172 (by decide +kernel)
theorem dX11_fewest_9 : decode cX11_fewest 9 = .ok (.iconst (-1), 1) := dl_2 (by decide +kernel)
theorem dX11_fewest_10 : decode cX11_fewest 10 = .ok (.ireturn, 1) := dl_172 (by decide +kernel)
set_option maxRecDepth 100000 in
set_option maxHeartbeats 4000000 in
theorem x_fewest (l : Launch) (E : EV) (ro : va_W) (hx : Nat) (v0 : Int32) (h : Nat) (qp : Nat) (ac : Nat) (np : Nat) (qs : Nat) (qj : Nat) (ly : Nat) (qh : Nat) (kk : Nat) (kc : Nat) (rd : Nat) (pg : Nat) (pe : Nat) (kn : Int32) (ss : Nat) (hpe : pe ≤ 4) : CT l yX11_fewest (Cond.code yX11_fewest cX11_fewest 3 (some .int) :: TB) ({ frames := 10, cells := 0, slots := 0, locals := 227 }) E ro [.ref hx, .int v0] [(hx, .inr (11, [.ref h, .ref qp, .int (nI ac), .int (nI np), .ref qs, .ref qj, .ref ly, .ref qh, .ref kk, .int (nI kc), .ref rd, .ref pg, .int (nI pe), .int kn, .ref ss]))] (Qi E (fun (rz : Int32) uz => (uz = [(hx, .inr (11, [.ref h, .ref qp, .int (nI ac), .int (nI np), .ref qs, .ref qj, .ref ly, .ref qh, .ref kk, .int (nI kc), .ref rd, .ref pg, .int (nI pe), .int kn, .ref ss]))] ∧ (FWx pe (cpL pe) (sc kn) v0 rz)))) 0 0 := by
  refine ct_of rfl rfl ?_
  intro X C hT hin hro
  show WW X 3 E 0 [(0, .ref hx), (1, .int v0)] [] [(hx, .inr (11, [.ref h, .ref qp, .int (nI ac), .int (nI np), .ref qs, .ref qj, .ref ly, .ref qh, .ref kk, .int (nI kc), .ref rd, .ref pg, .int (nI pe), .int kn, .ref ss]))] 0 0
  refine ww_iload_n C dX11_fewest_0 1 rfl rfl ?_
  refine ww_iconst (v := 0) C dX11_fewest_1 rfl ?_
  refine ww_iconst (v := 1) C dX11_fewest_2 rfl ?_
  refine ww_ci (wr := [(hx, .inr (11, [.ref h, .ref qp, .int (nI ac), .int (nI np), .ref qs, .ref qj, .ref ly, .ref qh, .ref kk, .int (nI kc), .ref rd, .ref pg, .int (nI pe), .int kn, .ref ss]))]) (k' := 0) (n' := 0) C (run_S (As := [.int v0, .int 0, .int 1]) (rest := []) C (c_within X.2.1 E ro v0 0 1 v0.toInt 0 1 rfl rfl rfl) ms_X11_within wl_X11_76 rfl rfl rfl rfl dX11_fewest_3) (roK hro) [] [0] rfl rfl rfl rfl (fun r_1 uz hw => ?_)
  rcases hw with hw | hw
  · refine an3 hw ?_
    clear hw
    intro he_4 he_5 h_2 hw
    have h_3 := hw
    clear hw
    have he_4 := he_4.symm
    subst he_4
    subst he_5
    refine ww_eq (ws' := [(hx, .inr (11, [.ref h, .ref qp, .int (nI ac), .int (nI np), .ref qs, .ref qj, .ref ly, .ref qh, .ref kk, .int (nI kc), .ref rd, .ref pg, .int (nI pe), .int kn, .ref ss]))]) ?_ rfl rfl rfl
    refine ww_if_ne_t (tgt := 11) C dX11_fewest_6 (by decide) (by decide) ?_
    refine ww_aload_n C dX11_fewest_11 0 rfl rfl ?_
    refine ww_get C fg_X11_106 0 rfl rfl dX11_fewest_12 ?_
    refine ww_if_ne (tgt := 21) C dX11_fewest_15 (by decide) (fun c_9 => ?_) (fun c_9 => ?_)
    · have zc_9 : ((pe : Nat) : Int) ≠ 0 := i_ne (nI_toInt (n := pe) (by omega)) rfl c_9
      refine ww_iconst (v := 0) C dX11_fewest_21 rfl ?_
      refine ww_istore_n (lv' := [(2, .int 0), (0, .ref hx), (1, .int v0)]) C dX11_fewest_22 rfl rfl rfl ?_
      have loop_23 : ∀ (fu : Nat) (i1 : Nat), (i1 ≤ 4) → (∀ d, d < i1 → ¬ cpL pe d (sc kn)) → 4 - i1 < fu → WW X 3 E 23 [(2, .int (nI i1)), (0, .ref hx), (1, .int v0)] [] [(hx, .inr (11, [.ref h, .ref qp, .int (nI ac), .int (nI np), .ref qs, .ref qj, .ref ly, .ref qh, .ref kk, .int (nI kc), .ref rd, .ref pg, .int (nI pe), .int kn, .ref ss]))] 0 0 := by
        intro fu
        induction fu with
        | zero => intro i1 hi1 hd1 hmeas; exact absurd hmeas (Nat.not_lt_zero _)
        | succ fu ih_23 =>
          intro i1 hi1 hd1 hmeas
          refine ww_iload_n C dX11_fewest_23 0 rfl rfl ?_
          refine ww_iconst (v := 4) C dX11_fewest_24 rfl ?_
          refine ww_icmp_ge (tgt := 49) C dX11_fewest_25 (by decide) (fun c_10 => ?_) (fun c_10 => ?_)
          · have zc_10 : ((i1 : Nat) : Int) ≥ 4 := i_le rfl (nI_toInt (n := i1) (by omega)) c_10
            refine ww_iload_n C dX11_fewest_49 2 rfl rfl ?_
            refine ww_if_ne (tgt := 55) C dX11_fewest_50 (by decide) (fun c_11 => ?_) (fun c_11 => ?_)
            · have zc_11 : v0.toInt ≠ 0 := i_ne rfl rfl c_11
              rcases (show i1 = 0 ∨ i1 = 1 ∨ i1 = 2 ∨ i1 = 3 ∨ i1 = 4 by omega) with rfl | rfl | rfl | rfl | rfl
              · refine ww_iload_n C dX11_fewest_55 0 rfl rfl ?_
                refine ww_if_ne_f (tgt := 64) C dX11_fewest_56 (by decide) (rfl) ?_
                refine ww_bipush (v := (-4)) C dX11_fewest_59 rfl ?_
                refine ww_goto (tgt := 76) C dX11_fewest_61 (by decide) ?_
                exact ww_iret (u := [(hx, .inr (11, [.ref h, .ref qp, .int (nI ac), .int (nI np), .ref qs, .ref qj, .ref ly, .ref qh, .ref kk, .int (nI kc), .ref rd, .ref pg, .int (nI pe), .int kn, .ref ss]))]) C hT [0] rfl rfl rfl rfl dX11_fewest_76 (⟨rfl, (Or.inr (Or.inr ⟨by omega, by omega, by omega, 0, by omega, hd1, (fun h9 => absurd h9 (by omega)), (Or.inr (Or.inl ⟨by omega, rfl, rfl⟩))⟩))⟩)
              · refine ww_iload_n C dX11_fewest_55 0 rfl rfl ?_
                refine ww_if_ne_t (tgt := 64) C dX11_fewest_56 (by decide) (by decide) ?_
                refine ww_aload_n C dX11_fewest_64 1 rfl rfl ?_
                refine ww_get C fg_X11_324 0 rfl rfl dX11_fewest_65 ?_
                refine ww_aload_n C dX11_fewest_68 1 rfl rfl ?_
                refine ww_get C fg_X11_106 0 rfl rfl dX11_fewest_69 ?_
                refine ww_iload_n C dX11_fewest_72 0 rfl rfl ?_
                refine ww_ci (wr := [(hx, .inr (11, [.ref h, .ref qp, .int (nI ac), .int (nI np), .ref qs, .ref qj, .ref ly, .ref qh, .ref kk, .int (nI kc), .ref rd, .ref pg, .int (nI pe), .int kn, .ref ss]))]) (k' := 0) (n' := 0) C (run_S (As := [.int kn, .int (nI pe), .int 1]) (rest := []) C (c_firstCall1 X.2.1 E ro kn pe (by omega)) ms_X11_firstCall wl_X11_314 rfl rfl rfl rfl dX11_fewest_73) (roK hro) [] [0] rfl rfl rfl rfl (fun r_12 uz hw => ?_)
                refine an1 hw ?_
                clear hw
                intro he_14 hw
                have h_13 := hw
                clear hw
                subst he_14
                refine ww_eq (ws' := [(hx, .inr (11, [.ref h, .ref qp, .int (nI ac), .int (nI np), .ref qs, .ref qj, .ref ly, .ref qh, .ref kk, .int (nI kc), .ref rd, .ref pg, .int (nI pe), .int kn, .ref ss]))]) ?_ rfl rfl rfl
                exact ww_iret (u := [(hx, .inr (11, [.ref h, .ref qp, .int (nI ac), .int (nI np), .ref qs, .ref qj, .ref ly, .ref qh, .ref kk, .int (nI kc), .ref rd, .ref pg, .int (nI pe), .int kn, .ref ss]))]) C hT [0] rfl rfl rfl rfl dX11_fewest_76 (⟨rfl, (Or.inr (Or.inr ⟨by omega, by omega, by omega, 1, by omega, hd1, (fun h9 => absurd h9 (by omega)), (Or.inr (Or.inr ⟨by omega, 0, rfl, h_13⟩))⟩))⟩)
              · refine ww_iload_n C dX11_fewest_55 0 rfl rfl ?_
                refine ww_if_ne_t (tgt := 64) C dX11_fewest_56 (by decide) (by decide) ?_
                refine ww_aload_n C dX11_fewest_64 1 rfl rfl ?_
                refine ww_get C fg_X11_324 0 rfl rfl dX11_fewest_65 ?_
                refine ww_aload_n C dX11_fewest_68 1 rfl rfl ?_
                refine ww_get C fg_X11_106 0 rfl rfl dX11_fewest_69 ?_
                refine ww_iload_n C dX11_fewest_72 0 rfl rfl ?_
                refine ww_ci (wr := [(hx, .inr (11, [.ref h, .ref qp, .int (nI ac), .int (nI np), .ref qs, .ref qj, .ref ly, .ref qh, .ref kk, .int (nI kc), .ref rd, .ref pg, .int (nI pe), .int kn, .ref ss]))]) (k' := 0) (n' := 0) C (run_S (As := [.int kn, .int (nI pe), .int 2]) (rest := []) C (c_firstCall2 X.2.1 E ro kn pe (by omega)) ms_X11_firstCall wl_X11_314 rfl rfl rfl rfl dX11_fewest_73) (roK hro) [] [0] rfl rfl rfl rfl (fun r_15 uz hw => ?_)
                refine an1 hw ?_
                clear hw
                intro he_17 hw
                have h_16 := hw
                clear hw
                subst he_17
                refine ww_eq (ws' := [(hx, .inr (11, [.ref h, .ref qp, .int (nI ac), .int (nI np), .ref qs, .ref qj, .ref ly, .ref qh, .ref kk, .int (nI kc), .ref rd, .ref pg, .int (nI pe), .int kn, .ref ss]))]) ?_ rfl rfl rfl
                exact ww_iret (u := [(hx, .inr (11, [.ref h, .ref qp, .int (nI ac), .int (nI np), .ref qs, .ref qj, .ref ly, .ref qh, .ref kk, .int (nI kc), .ref rd, .ref pg, .int (nI pe), .int kn, .ref ss]))]) C hT [0] rfl rfl rfl rfl dX11_fewest_76 (⟨rfl, (Or.inr (Or.inr ⟨by omega, by omega, by omega, 2, by omega, hd1, (fun h9 => absurd h9 (by omega)), (Or.inr (Or.inr ⟨by omega, 1, rfl, h_16⟩))⟩))⟩)
              · refine ww_iload_n C dX11_fewest_55 0 rfl rfl ?_
                refine ww_if_ne_t (tgt := 64) C dX11_fewest_56 (by decide) (by decide) ?_
                refine ww_aload_n C dX11_fewest_64 1 rfl rfl ?_
                refine ww_get C fg_X11_324 0 rfl rfl dX11_fewest_65 ?_
                refine ww_aload_n C dX11_fewest_68 1 rfl rfl ?_
                refine ww_get C fg_X11_106 0 rfl rfl dX11_fewest_69 ?_
                refine ww_iload_n C dX11_fewest_72 0 rfl rfl ?_
                refine ww_ci (wr := [(hx, .inr (11, [.ref h, .ref qp, .int (nI ac), .int (nI np), .ref qs, .ref qj, .ref ly, .ref qh, .ref kk, .int (nI kc), .ref rd, .ref pg, .int (nI pe), .int kn, .ref ss]))]) (k' := 0) (n' := 0) C (run_S (As := [.int kn, .int (nI pe), .int 3]) (rest := []) C (c_firstCall3 X.2.1 E ro kn pe (by omega)) ms_X11_firstCall wl_X11_314 rfl rfl rfl rfl dX11_fewest_73) (roK hro) [] [0] rfl rfl rfl rfl (fun r_18 uz hw => ?_)
                refine an1 hw ?_
                clear hw
                intro he_20 hw
                have h_19 := hw
                clear hw
                subst he_20
                refine ww_eq (ws' := [(hx, .inr (11, [.ref h, .ref qp, .int (nI ac), .int (nI np), .ref qs, .ref qj, .ref ly, .ref qh, .ref kk, .int (nI kc), .ref rd, .ref pg, .int (nI pe), .int kn, .ref ss]))]) ?_ rfl rfl rfl
                exact ww_iret (u := [(hx, .inr (11, [.ref h, .ref qp, .int (nI ac), .int (nI np), .ref qs, .ref qj, .ref ly, .ref qh, .ref kk, .int (nI kc), .ref rd, .ref pg, .int (nI pe), .int kn, .ref ss]))]) C hT [0] rfl rfl rfl rfl dX11_fewest_76 (⟨rfl, (Or.inr (Or.inr ⟨by omega, by omega, by omega, 3, by omega, hd1, (fun h9 => absurd h9 (by omega)), (Or.inr (Or.inr ⟨by omega, 2, rfl, h_19⟩))⟩))⟩)
              · refine ww_iload_n C dX11_fewest_55 0 rfl rfl ?_
                refine ww_if_ne_t (tgt := 64) C dX11_fewest_56 (by decide) (by decide) ?_
                refine ww_aload_n C dX11_fewest_64 1 rfl rfl ?_
                refine ww_get C fg_X11_324 0 rfl rfl dX11_fewest_65 ?_
                refine ww_aload_n C dX11_fewest_68 1 rfl rfl ?_
                refine ww_get C fg_X11_106 0 rfl rfl dX11_fewest_69 ?_
                refine ww_iload_n C dX11_fewest_72 0 rfl rfl ?_
                refine ww_ci (wr := [(hx, .inr (11, [.ref h, .ref qp, .int (nI ac), .int (nI np), .ref qs, .ref qj, .ref ly, .ref qh, .ref kk, .int (nI kc), .ref rd, .ref pg, .int (nI pe), .int kn, .ref ss]))]) (k' := 0) (n' := 0) C (run_S (As := [.int kn, .int (nI pe), .int 4]) (rest := []) C (c_firstCall4 X.2.1 E ro kn pe (by omega)) ms_X11_firstCall wl_X11_314 rfl rfl rfl rfl dX11_fewest_73) (roK hro) [] [0] rfl rfl rfl rfl (fun r_21 uz hw => ?_)
                refine an1 hw ?_
                clear hw
                intro he_23 hw
                have h_22 := hw
                clear hw
                subst he_23
                refine ww_eq (ws' := [(hx, .inr (11, [.ref h, .ref qp, .int (nI ac), .int (nI np), .ref qs, .ref qj, .ref ly, .ref qh, .ref kk, .int (nI kc), .ref rd, .ref pg, .int (nI pe), .int kn, .ref ss]))]) ?_ rfl rfl rfl
                exact ww_iret (u := [(hx, .inr (11, [.ref h, .ref qp, .int (nI ac), .int (nI np), .ref qs, .ref qj, .ref ly, .ref qh, .ref kk, .int (nI kc), .ref rd, .ref pg, .int (nI pe), .int kn, .ref ss]))]) C hT [0] rfl rfl rfl rfl dX11_fewest_76 (⟨rfl, (Or.inr (Or.inr ⟨by omega, by omega, by omega, 4, by omega, hd1, (fun h9 => absurd h9 (by omega)), (Or.inr (Or.inr ⟨by omega, 3, rfl, h_22⟩))⟩))⟩)
            · have zc_11 : v0.toInt = 0 := i_eq rfl rfl c_11
              refine ww_iload_n C dX11_fewest_53 0 rfl rfl ?_
              exact ww_iret (u := [(hx, .inr (11, [.ref h, .ref qp, .int (nI ac), .int (nI np), .ref qs, .ref qj, .ref ly, .ref qh, .ref kk, .int (nI kc), .ref rd, .ref pg, .int (nI pe), .int kn, .ref ss]))]) C hT [0] rfl rfl rfl rfl dX11_fewest_54 (⟨rfl, (Or.inr (Or.inr ⟨by omega, by omega, by omega, i1, by omega, hd1, (fun h9 => absurd h9 (by omega)), (Or.inl ⟨by omega, rfl⟩)⟩))⟩)
          · have zc_10 : ((i1 : Nat) : Int) < 4 := i_nle rfl (nI_toInt (n := i1) (by omega)) c_10
            rcases (show i1 = 0 ∨ i1 = 1 ∨ i1 = 2 ∨ i1 = 3 by omega) with rfl | rfl | rfl | rfl
            · refine ww_aload_n C dX11_fewest_28 1 rfl rfl ?_
              refine ww_get C fg_X11_324 0 rfl rfl dX11_fewest_29 ?_
              refine ww_aload_n C dX11_fewest_32 1 rfl rfl ?_
              refine ww_get C fg_X11_106 0 rfl rfl dX11_fewest_33 ?_
              refine ww_iload_n C dX11_fewest_36 0 rfl rfl ?_
              refine ww_ci (wr := [(hx, .inr (11, [.ref h, .ref qp, .int (nI ac), .int (nI np), .ref qs, .ref qj, .ref ly, .ref qh, .ref kk, .int (nI kc), .ref rd, .ref pg, .int (nI pe), .int kn, .ref ss]))]) (k' := 0) (n' := 0) C (run_S (As := [.int kn, .int (nI pe), .int 0]) (rest := []) C (c_canEnd0 X.2.1 E ro kn pe (by omega)) ms_X11_canEnd wl_X11_321 rfl rfl rfl rfl dX11_fewest_37) (roK hro) [] [0] rfl rfl rfl rfl (fun r_24 uz hw => ?_)
              rcases hw with hw | hw
              · refine an2 hw ?_
                clear hw
                intro he_26 he_27 hw
                have h_25 := hw
                clear hw
                have he_26 := he_26.symm
                subst he_26
                subst he_27
                refine ww_eq (ws' := [(hx, .inr (11, [.ref h, .ref qp, .int (nI ac), .int (nI np), .ref qs, .ref qj, .ref ly, .ref qh, .ref kk, .int (nI kc), .ref rd, .ref pg, .int (nI pe), .int kn, .ref ss]))]) ?_ rfl rfl rfl
                refine ww_if_ne_t (tgt := 49) C dX11_fewest_40 (by decide) (by decide) ?_
                refine ww_iload_n C dX11_fewest_49 2 rfl rfl ?_
                refine ww_if_ne (tgt := 55) C dX11_fewest_50 (by decide) (fun c_31 => ?_) (fun c_31 => ?_)
                · have zc_31 : v0.toInt ≠ 0 := i_ne rfl rfl c_31
                  refine ww_iload_n C dX11_fewest_55 0 rfl rfl ?_
                  refine ww_if_ne_f (tgt := 64) C dX11_fewest_56 (by decide) (rfl) ?_
                  refine ww_bipush (v := (-4)) C dX11_fewest_59 rfl ?_
                  refine ww_goto (tgt := 76) C dX11_fewest_61 (by decide) ?_
                  exact ww_iret (u := [(hx, .inr (11, [.ref h, .ref qp, .int (nI ac), .int (nI np), .ref qs, .ref qj, .ref ly, .ref qh, .ref kk, .int (nI kc), .ref rd, .ref pg, .int (nI pe), .int kn, .ref ss]))]) C hT [0] rfl rfl rfl rfl dX11_fewest_76 (⟨rfl, (Or.inr (Or.inr ⟨by omega, by omega, by omega, 0, by omega, hd1, (fun _ => h_25), (Or.inr (Or.inl ⟨by omega, rfl, rfl⟩))⟩))⟩)
                · have zc_31 : v0.toInt = 0 := i_eq rfl rfl c_31
                  refine ww_iload_n C dX11_fewest_53 0 rfl rfl ?_
                  exact ww_iret (u := [(hx, .inr (11, [.ref h, .ref qp, .int (nI ac), .int (nI np), .ref qs, .ref qj, .ref ly, .ref qh, .ref kk, .int (nI kc), .ref rd, .ref pg, .int (nI pe), .int kn, .ref ss]))]) C hT [0] rfl rfl rfl rfl dX11_fewest_54 (⟨rfl, (Or.inr (Or.inr ⟨by omega, by omega, by omega, 0, by omega, hd1, (fun _ => h_25), (Or.inl ⟨by omega, rfl⟩)⟩))⟩)
              · refine an2 hw ?_
                clear hw
                intro he_29 he_30 hw
                have h_28 := hw
                clear hw
                have he_29 := he_29.symm
                subst he_29
                subst he_30
                refine ww_eq (ws' := [(hx, .inr (11, [.ref h, .ref qp, .int (nI ac), .int (nI np), .ref qs, .ref qj, .ref ly, .ref qh, .ref kk, .int (nI kc), .ref rd, .ref pg, .int (nI pe), .int kn, .ref ss]))]) ?_ rfl rfl rfl
                refine ww_if_ne_f (tgt := 49) C dX11_fewest_40 (by decide) (rfl) ?_
                refine ww_iinc (j := 0) (v := 1) (lv' := [(2, .int 1), (0, .ref hx), (1, .int v0)]) C dX11_fewest_43 rfl rfl rfl rfl ?_
                refine ww_goto (tgt := 23) C dX11_fewest_46 (by decide) ?_
                exact ww_lv [0, 1, 2] rfl (ww_sub [0] rfl rfl (ih_23 1 (by omega) (cpD_s (P := cpL pe) hd1 h_28) (by omega)))
            · refine ww_aload_n C dX11_fewest_28 1 rfl rfl ?_
              refine ww_get C fg_X11_324 0 rfl rfl dX11_fewest_29 ?_
              refine ww_aload_n C dX11_fewest_32 1 rfl rfl ?_
              refine ww_get C fg_X11_106 0 rfl rfl dX11_fewest_33 ?_
              refine ww_iload_n C dX11_fewest_36 0 rfl rfl ?_
              refine ww_ci (wr := [(hx, .inr (11, [.ref h, .ref qp, .int (nI ac), .int (nI np), .ref qs, .ref qj, .ref ly, .ref qh, .ref kk, .int (nI kc), .ref rd, .ref pg, .int (nI pe), .int kn, .ref ss]))]) (k' := 0) (n' := 0) C (run_S (As := [.int kn, .int (nI pe), .int 1]) (rest := []) C (c_canEnd1 X.2.1 E ro kn pe (by omega)) ms_X11_canEnd wl_X11_321 rfl rfl rfl rfl dX11_fewest_37) (roK hro) [] [0] rfl rfl rfl rfl (fun r_32 uz hw => ?_)
              rcases hw with hw | hw
              · refine an2 hw ?_
                clear hw
                intro he_34 he_35 hw
                have h_33 := hw
                clear hw
                have he_34 := he_34.symm
                subst he_34
                subst he_35
                refine ww_eq (ws' := [(hx, .inr (11, [.ref h, .ref qp, .int (nI ac), .int (nI np), .ref qs, .ref qj, .ref ly, .ref qh, .ref kk, .int (nI kc), .ref rd, .ref pg, .int (nI pe), .int kn, .ref ss]))]) ?_ rfl rfl rfl
                refine ww_if_ne_t (tgt := 49) C dX11_fewest_40 (by decide) (by decide) ?_
                refine ww_iload_n C dX11_fewest_49 2 rfl rfl ?_
                refine ww_if_ne (tgt := 55) C dX11_fewest_50 (by decide) (fun c_39 => ?_) (fun c_39 => ?_)
                · have zc_39 : v0.toInt ≠ 0 := i_ne rfl rfl c_39
                  refine ww_iload_n C dX11_fewest_55 0 rfl rfl ?_
                  refine ww_if_ne_t (tgt := 64) C dX11_fewest_56 (by decide) (by decide) ?_
                  refine ww_aload_n C dX11_fewest_64 1 rfl rfl ?_
                  refine ww_get C fg_X11_324 0 rfl rfl dX11_fewest_65 ?_
                  refine ww_aload_n C dX11_fewest_68 1 rfl rfl ?_
                  refine ww_get C fg_X11_106 0 rfl rfl dX11_fewest_69 ?_
                  refine ww_iload_n C dX11_fewest_72 0 rfl rfl ?_
                  refine ww_ci (wr := [(hx, .inr (11, [.ref h, .ref qp, .int (nI ac), .int (nI np), .ref qs, .ref qj, .ref ly, .ref qh, .ref kk, .int (nI kc), .ref rd, .ref pg, .int (nI pe), .int kn, .ref ss]))]) (k' := 0) (n' := 0) C (run_S (As := [.int kn, .int (nI pe), .int 1]) (rest := []) C (c_firstCall1 X.2.1 E ro kn pe (by omega)) ms_X11_firstCall wl_X11_314 rfl rfl rfl rfl dX11_fewest_73) (roK hro) [] [0] rfl rfl rfl rfl (fun r_40 uz hw => ?_)
                  refine an1 hw ?_
                  clear hw
                  intro he_42 hw
                  have h_41 := hw
                  clear hw
                  subst he_42
                  refine ww_eq (ws' := [(hx, .inr (11, [.ref h, .ref qp, .int (nI ac), .int (nI np), .ref qs, .ref qj, .ref ly, .ref qh, .ref kk, .int (nI kc), .ref rd, .ref pg, .int (nI pe), .int kn, .ref ss]))]) ?_ rfl rfl rfl
                  exact ww_iret (u := [(hx, .inr (11, [.ref h, .ref qp, .int (nI ac), .int (nI np), .ref qs, .ref qj, .ref ly, .ref qh, .ref kk, .int (nI kc), .ref rd, .ref pg, .int (nI pe), .int kn, .ref ss]))]) C hT [0] rfl rfl rfl rfl dX11_fewest_76 (⟨rfl, (Or.inr (Or.inr ⟨by omega, by omega, by omega, 1, by omega, hd1, (fun _ => h_33), (Or.inr (Or.inr ⟨by omega, 0, rfl, h_41⟩))⟩))⟩)
                · have zc_39 : v0.toInt = 0 := i_eq rfl rfl c_39
                  refine ww_iload_n C dX11_fewest_53 0 rfl rfl ?_
                  exact ww_iret (u := [(hx, .inr (11, [.ref h, .ref qp, .int (nI ac), .int (nI np), .ref qs, .ref qj, .ref ly, .ref qh, .ref kk, .int (nI kc), .ref rd, .ref pg, .int (nI pe), .int kn, .ref ss]))]) C hT [0] rfl rfl rfl rfl dX11_fewest_54 (⟨rfl, (Or.inr (Or.inr ⟨by omega, by omega, by omega, 1, by omega, hd1, (fun _ => h_33), (Or.inl ⟨by omega, rfl⟩)⟩))⟩)
              · refine an2 hw ?_
                clear hw
                intro he_37 he_38 hw
                have h_36 := hw
                clear hw
                have he_37 := he_37.symm
                subst he_37
                subst he_38
                refine ww_eq (ws' := [(hx, .inr (11, [.ref h, .ref qp, .int (nI ac), .int (nI np), .ref qs, .ref qj, .ref ly, .ref qh, .ref kk, .int (nI kc), .ref rd, .ref pg, .int (nI pe), .int kn, .ref ss]))]) ?_ rfl rfl rfl
                refine ww_if_ne_f (tgt := 49) C dX11_fewest_40 (by decide) (rfl) ?_
                refine ww_iinc (j := 0) (v := 2) (lv' := [(2, .int 2), (0, .ref hx), (1, .int v0)]) C dX11_fewest_43 rfl rfl rfl rfl ?_
                refine ww_goto (tgt := 23) C dX11_fewest_46 (by decide) ?_
                exact ww_lv [0, 1, 2] rfl (ww_sub [0] rfl rfl (ih_23 2 (by omega) (cpD_s (P := cpL pe) hd1 h_36) (by omega)))
            · refine ww_aload_n C dX11_fewest_28 1 rfl rfl ?_
              refine ww_get C fg_X11_324 0 rfl rfl dX11_fewest_29 ?_
              refine ww_aload_n C dX11_fewest_32 1 rfl rfl ?_
              refine ww_get C fg_X11_106 0 rfl rfl dX11_fewest_33 ?_
              refine ww_iload_n C dX11_fewest_36 0 rfl rfl ?_
              refine ww_ci (wr := [(hx, .inr (11, [.ref h, .ref qp, .int (nI ac), .int (nI np), .ref qs, .ref qj, .ref ly, .ref qh, .ref kk, .int (nI kc), .ref rd, .ref pg, .int (nI pe), .int kn, .ref ss]))]) (k' := 0) (n' := 0) C (run_S (As := [.int kn, .int (nI pe), .int 2]) (rest := []) C (c_canEnd2 X.2.1 E ro kn pe (by omega)) ms_X11_canEnd wl_X11_321 rfl rfl rfl rfl dX11_fewest_37) (roK hro) [] [0] rfl rfl rfl rfl (fun r_43 uz hw => ?_)
              rcases hw with hw | hw
              · refine an2 hw ?_
                clear hw
                intro he_45 he_46 hw
                have h_44 := hw
                clear hw
                have he_45 := he_45.symm
                subst he_45
                subst he_46
                refine ww_eq (ws' := [(hx, .inr (11, [.ref h, .ref qp, .int (nI ac), .int (nI np), .ref qs, .ref qj, .ref ly, .ref qh, .ref kk, .int (nI kc), .ref rd, .ref pg, .int (nI pe), .int kn, .ref ss]))]) ?_ rfl rfl rfl
                refine ww_if_ne_t (tgt := 49) C dX11_fewest_40 (by decide) (by decide) ?_
                refine ww_iload_n C dX11_fewest_49 2 rfl rfl ?_
                refine ww_if_ne (tgt := 55) C dX11_fewest_50 (by decide) (fun c_50 => ?_) (fun c_50 => ?_)
                · have zc_50 : v0.toInt ≠ 0 := i_ne rfl rfl c_50
                  refine ww_iload_n C dX11_fewest_55 0 rfl rfl ?_
                  refine ww_if_ne_t (tgt := 64) C dX11_fewest_56 (by decide) (by decide) ?_
                  refine ww_aload_n C dX11_fewest_64 1 rfl rfl ?_
                  refine ww_get C fg_X11_324 0 rfl rfl dX11_fewest_65 ?_
                  refine ww_aload_n C dX11_fewest_68 1 rfl rfl ?_
                  refine ww_get C fg_X11_106 0 rfl rfl dX11_fewest_69 ?_
                  refine ww_iload_n C dX11_fewest_72 0 rfl rfl ?_
                  refine ww_ci (wr := [(hx, .inr (11, [.ref h, .ref qp, .int (nI ac), .int (nI np), .ref qs, .ref qj, .ref ly, .ref qh, .ref kk, .int (nI kc), .ref rd, .ref pg, .int (nI pe), .int kn, .ref ss]))]) (k' := 0) (n' := 0) C (run_S (As := [.int kn, .int (nI pe), .int 2]) (rest := []) C (c_firstCall2 X.2.1 E ro kn pe (by omega)) ms_X11_firstCall wl_X11_314 rfl rfl rfl rfl dX11_fewest_73) (roK hro) [] [0] rfl rfl rfl rfl (fun r_51 uz hw => ?_)
                  refine an1 hw ?_
                  clear hw
                  intro he_53 hw
                  have h_52 := hw
                  clear hw
                  subst he_53
                  refine ww_eq (ws' := [(hx, .inr (11, [.ref h, .ref qp, .int (nI ac), .int (nI np), .ref qs, .ref qj, .ref ly, .ref qh, .ref kk, .int (nI kc), .ref rd, .ref pg, .int (nI pe), .int kn, .ref ss]))]) ?_ rfl rfl rfl
                  exact ww_iret (u := [(hx, .inr (11, [.ref h, .ref qp, .int (nI ac), .int (nI np), .ref qs, .ref qj, .ref ly, .ref qh, .ref kk, .int (nI kc), .ref rd, .ref pg, .int (nI pe), .int kn, .ref ss]))]) C hT [0] rfl rfl rfl rfl dX11_fewest_76 (⟨rfl, (Or.inr (Or.inr ⟨by omega, by omega, by omega, 2, by omega, hd1, (fun _ => h_44), (Or.inr (Or.inr ⟨by omega, 1, rfl, h_52⟩))⟩))⟩)
                · have zc_50 : v0.toInt = 0 := i_eq rfl rfl c_50
                  refine ww_iload_n C dX11_fewest_53 0 rfl rfl ?_
                  exact ww_iret (u := [(hx, .inr (11, [.ref h, .ref qp, .int (nI ac), .int (nI np), .ref qs, .ref qj, .ref ly, .ref qh, .ref kk, .int (nI kc), .ref rd, .ref pg, .int (nI pe), .int kn, .ref ss]))]) C hT [0] rfl rfl rfl rfl dX11_fewest_54 (⟨rfl, (Or.inr (Or.inr ⟨by omega, by omega, by omega, 2, by omega, hd1, (fun _ => h_44), (Or.inl ⟨by omega, rfl⟩)⟩))⟩)
              · refine an2 hw ?_
                clear hw
                intro he_48 he_49 hw
                have h_47 := hw
                clear hw
                have he_48 := he_48.symm
                subst he_48
                subst he_49
                refine ww_eq (ws' := [(hx, .inr (11, [.ref h, .ref qp, .int (nI ac), .int (nI np), .ref qs, .ref qj, .ref ly, .ref qh, .ref kk, .int (nI kc), .ref rd, .ref pg, .int (nI pe), .int kn, .ref ss]))]) ?_ rfl rfl rfl
                refine ww_if_ne_f (tgt := 49) C dX11_fewest_40 (by decide) (rfl) ?_
                refine ww_iinc (j := 0) (v := 3) (lv' := [(2, .int 3), (0, .ref hx), (1, .int v0)]) C dX11_fewest_43 rfl rfl rfl rfl ?_
                refine ww_goto (tgt := 23) C dX11_fewest_46 (by decide) ?_
                exact ww_lv [0, 1, 2] rfl (ww_sub [0] rfl rfl (ih_23 3 (by omega) (cpD_s (P := cpL pe) hd1 h_47) (by omega)))
            · refine ww_aload_n C dX11_fewest_28 1 rfl rfl ?_
              refine ww_get C fg_X11_324 0 rfl rfl dX11_fewest_29 ?_
              refine ww_aload_n C dX11_fewest_32 1 rfl rfl ?_
              refine ww_get C fg_X11_106 0 rfl rfl dX11_fewest_33 ?_
              refine ww_iload_n C dX11_fewest_36 0 rfl rfl ?_
              refine ww_ci (wr := [(hx, .inr (11, [.ref h, .ref qp, .int (nI ac), .int (nI np), .ref qs, .ref qj, .ref ly, .ref qh, .ref kk, .int (nI kc), .ref rd, .ref pg, .int (nI pe), .int kn, .ref ss]))]) (k' := 0) (n' := 0) C (run_S (As := [.int kn, .int (nI pe), .int 3]) (rest := []) C (c_canEnd3 X.2.1 E ro kn pe (by omega)) ms_X11_canEnd wl_X11_321 rfl rfl rfl rfl dX11_fewest_37) (roK hro) [] [0] rfl rfl rfl rfl (fun r_54 uz hw => ?_)
              rcases hw with hw | hw
              · refine an2 hw ?_
                clear hw
                intro he_56 he_57 hw
                have h_55 := hw
                clear hw
                have he_56 := he_56.symm
                subst he_56
                subst he_57
                refine ww_eq (ws' := [(hx, .inr (11, [.ref h, .ref qp, .int (nI ac), .int (nI np), .ref qs, .ref qj, .ref ly, .ref qh, .ref kk, .int (nI kc), .ref rd, .ref pg, .int (nI pe), .int kn, .ref ss]))]) ?_ rfl rfl rfl
                refine ww_if_ne_t (tgt := 49) C dX11_fewest_40 (by decide) (by decide) ?_
                refine ww_iload_n C dX11_fewest_49 2 rfl rfl ?_
                refine ww_if_ne (tgt := 55) C dX11_fewest_50 (by decide) (fun c_61 => ?_) (fun c_61 => ?_)
                · have zc_61 : v0.toInt ≠ 0 := i_ne rfl rfl c_61
                  refine ww_iload_n C dX11_fewest_55 0 rfl rfl ?_
                  refine ww_if_ne_t (tgt := 64) C dX11_fewest_56 (by decide) (by decide) ?_
                  refine ww_aload_n C dX11_fewest_64 1 rfl rfl ?_
                  refine ww_get C fg_X11_324 0 rfl rfl dX11_fewest_65 ?_
                  refine ww_aload_n C dX11_fewest_68 1 rfl rfl ?_
                  refine ww_get C fg_X11_106 0 rfl rfl dX11_fewest_69 ?_
                  refine ww_iload_n C dX11_fewest_72 0 rfl rfl ?_
                  refine ww_ci (wr := [(hx, .inr (11, [.ref h, .ref qp, .int (nI ac), .int (nI np), .ref qs, .ref qj, .ref ly, .ref qh, .ref kk, .int (nI kc), .ref rd, .ref pg, .int (nI pe), .int kn, .ref ss]))]) (k' := 0) (n' := 0) C (run_S (As := [.int kn, .int (nI pe), .int 3]) (rest := []) C (c_firstCall3 X.2.1 E ro kn pe (by omega)) ms_X11_firstCall wl_X11_314 rfl rfl rfl rfl dX11_fewest_73) (roK hro) [] [0] rfl rfl rfl rfl (fun r_62 uz hw => ?_)
                  refine an1 hw ?_
                  clear hw
                  intro he_64 hw
                  have h_63 := hw
                  clear hw
                  subst he_64
                  refine ww_eq (ws' := [(hx, .inr (11, [.ref h, .ref qp, .int (nI ac), .int (nI np), .ref qs, .ref qj, .ref ly, .ref qh, .ref kk, .int (nI kc), .ref rd, .ref pg, .int (nI pe), .int kn, .ref ss]))]) ?_ rfl rfl rfl
                  exact ww_iret (u := [(hx, .inr (11, [.ref h, .ref qp, .int (nI ac), .int (nI np), .ref qs, .ref qj, .ref ly, .ref qh, .ref kk, .int (nI kc), .ref rd, .ref pg, .int (nI pe), .int kn, .ref ss]))]) C hT [0] rfl rfl rfl rfl dX11_fewest_76 (⟨rfl, (Or.inr (Or.inr ⟨by omega, by omega, by omega, 3, by omega, hd1, (fun _ => h_55), (Or.inr (Or.inr ⟨by omega, 2, rfl, h_63⟩))⟩))⟩)
                · have zc_61 : v0.toInt = 0 := i_eq rfl rfl c_61
                  refine ww_iload_n C dX11_fewest_53 0 rfl rfl ?_
                  exact ww_iret (u := [(hx, .inr (11, [.ref h, .ref qp, .int (nI ac), .int (nI np), .ref qs, .ref qj, .ref ly, .ref qh, .ref kk, .int (nI kc), .ref rd, .ref pg, .int (nI pe), .int kn, .ref ss]))]) C hT [0] rfl rfl rfl rfl dX11_fewest_54 (⟨rfl, (Or.inr (Or.inr ⟨by omega, by omega, by omega, 3, by omega, hd1, (fun _ => h_55), (Or.inl ⟨by omega, rfl⟩)⟩))⟩)
              · refine an2 hw ?_
                clear hw
                intro he_59 he_60 hw
                have h_58 := hw
                clear hw
                have he_59 := he_59.symm
                subst he_59
                subst he_60
                refine ww_eq (ws' := [(hx, .inr (11, [.ref h, .ref qp, .int (nI ac), .int (nI np), .ref qs, .ref qj, .ref ly, .ref qh, .ref kk, .int (nI kc), .ref rd, .ref pg, .int (nI pe), .int kn, .ref ss]))]) ?_ rfl rfl rfl
                refine ww_if_ne_f (tgt := 49) C dX11_fewest_40 (by decide) (rfl) ?_
                refine ww_iinc (j := 0) (v := 4) (lv' := [(2, .int 4), (0, .ref hx), (1, .int v0)]) C dX11_fewest_43 rfl rfl rfl rfl ?_
                refine ww_goto (tgt := 23) C dX11_fewest_46 (by decide) ?_
                exact ww_lv [0, 1, 2] rfl (ww_sub [0] rfl rfl (ih_23 4 (by omega) (cpD_s (P := cpL pe) hd1 h_58) (by omega)))
      exact ww_lv [0, 1, 2] rfl (ww_sub [0] rfl rfl (loop_23 _ 0 (by omega) (fun d h => absurd h (Nat.not_lt_zero _)) (Nat.lt_succ_self _)))
    · have zc_9 : ((pe : Nat) : Int) = 0 := i_eq (nI_toInt (n := pe) (by omega)) rfl c_9
      refine ww_bipush (v := (-2)) C dX11_fewest_18 rfl ?_
      exact ww_iret (u := [(hx, .inr (11, [.ref h, .ref qp, .int (nI ac), .int (nI np), .ref qs, .ref qj, .ref ly, .ref qh, .ref kk, .int (nI kc), .ref rd, .ref pg, .int (nI pe), .int kn, .ref ss]))]) C hT [0] rfl rfl rfl rfl dX11_fewest_20 (⟨rfl, (Or.inr (Or.inl ⟨by omega, by omega, by omega, rfl⟩))⟩)
  · refine an2 hw ?_
    clear hw
    intro he_7 he_8 hw
    have h_6 := hw
    clear hw
    have he_7 := he_7.symm
    subst he_7
    subst he_8
    refine ww_eq (ws' := [(hx, .inr (11, [.ref h, .ref qp, .int (nI ac), .int (nI np), .ref qs, .ref qj, .ref ly, .ref qh, .ref kk, .int (nI kc), .ref rd, .ref pg, .int (nI pe), .int kn, .ref ss]))]) ?_ rfl rfl rfl
    refine ww_if_ne_f (tgt := 11) C dX11_fewest_6 (by decide) (rfl) ?_
    refine ww_iconst (v := (-1)) C dX11_fewest_9 rfl ?_
    exact ww_iret (u := [(hx, .inr (11, [.ref h, .ref qp, .int (nI ac), .int (nI np), .ref qs, .ref qj, .ref ly, .ref qh, .ref kk, .int (nI kc), .ref rd, .ref pg, .int (nI pe), .int kn, .ref ss]))]) C hT [0] rfl rfl rfl rfl dX11_fewest_10 (⟨rfl, (Or.inl ⟨by omega, rfl⟩)⟩)
end
section
theorem dX11_sheet_0 : decode cX11_sheet 0 = .ok (.iload_n 1, 1) := dl_27 (by decide +kernel)
theorem dX11_sheet_1 : decode cX11_sheet 1 = .ok (.iconst 0, 1) := dl_3 (by decide +kernel)
theorem dX11_sheet_2 : decode cX11_sheet 2 = .ok (.iconst 3, 1) := dl_6 (by decide +kernel)
theorem dX11_sheet_3 : decode cX11_sheet 3 = .ok (.invokestatic 76, 3) := dl_184 (by decide +kernel)
theorem dX11_sheet_6 : decode cX11_sheet 6 = .ok (.ifCond .eq 18, 3) := dl_153 (by decide +kernel)
theorem dX11_sheet_9 : decode cX11_sheet 9 = .ok (.iload_n 2, 1) := dl_28 (by decide +kernel)
theorem dX11_sheet_10 : decode cX11_sheet 10 = .ok (.iconst 0, 1) := dl_3 (by decide +kernel)
theorem dX11_sheet_11 : decode cX11_sheet 11 = .ok (.iconst 2, 1) := dl_5 (by decide +kernel)
theorem dX11_sheet_12 : decode cX11_sheet 12 = .ok (.invokestatic 76, 3) := dl_184 (by decide +kernel)
theorem dX11_sheet_15 : decode cX11_sheet 15 = .ok (.ifCond .eq 9, 3) := dl_153 (by decide +kernel)
theorem dX11_sheet_18 : decode cX11_sheet 18 = .ok (.iload_n 3, 1) := dl_29 (by decide +kernel)
theorem dX11_sheet_19 : decode cX11_sheet 19 = .ok (.bipush 48, 2) := dl_16 (by decide +kernel)
theorem dX11_sheet_21 : decode cX11_sheet 21 = .ok (.if_icmp .le 5, 3) := dl_164 (by decide +kernel)
theorem dX11_sheet_26 : decode cX11_sheet 26 = .ok (.iload_n 3, 1) := dl_29 (by decide +kernel)
theorem dX11_sheet_27 : decode cX11_sheet 27 = .ok (.ifCond .ge 6, 3) := dl_156 (by decide +kernel)
theorem dX11_sheet_33 : decode cX11_sheet 33 = .ok (.aload_n 0, 1) := dl_42 (by decide +kernel)
theorem dX11_sheet_34 : decode cX11_sheet 34 = .ok (.getfield 71, 3) := dl_180 (by decide +kernel)
theorem wf_X11_71 : Cond.fieldLink RX11 71 RX11 "sheets" "[LWhoKnows$Sheet;" ∈ TB := tbm (tq2 (List.mem_of_getElem? (i := 110) (by decide +kernel))) (by decide +kernel)
theorem fg_X11_71 : FG RX11 71 11 14 := ⟨RX11, TX11, 15, uw_X11, wf_X11_71, rfl, by decide, rfl⟩
theorem dX11_sheet_37 : decode cX11_sheet 37 = .ok (.iload_n 1, 1) := dl_27 (by decide +kernel)
theorem dX11_sheet_38 : decode cX11_sheet 38 = .ok (.aaload, 1) := dl_50 (by decide +kernel)
theorem dX11_sheet_39 : decode cX11_sheet 39 = .ok (.iload_n 2, 1) := dl_28 (by decide +kernel)
theorem dX11_sheet_40 : decode cX11_sheet 40 = .ok (.iload_n 3, 1) := dl_29 (by decide +kernel)
theorem dX11_sheet_41 : decode cX11_sheet 41 = .ok (.invokevirtual 335, 3) := dl_182 (by decide +kernel)
theorem wl_X11_335 : Cond.methodLink RX11 335 yX9_begin ∈ TB := tbm (tq5 (List.mem_of_getElem? (i := 34) (by decide +kernel))) (by decide +kernel)
theorem wc_X9_begin : Cond.code yX9_begin cX9_begin 4 none ∈ TB := tbm (tq5 (List.mem_of_getElem? (i := 37) (rfl))) (by decide +kernel)
theorem wn_X9 : Cond.initialized RX9 ∈ TB := tbm (tq1 (List.mem_of_getElem? (i := 11) (by decide +kernel))) (by decide +kernel)
theorem wi_X9_begin : Cond.instanceMethod yX9_begin ∈ TB := tbm (tq5 (List.mem_of_getElem? (i := 35) (by decide +kernel))) (by decide +kernel)
theorem ws_X9_begin : Cond.selects RX9 yX9_begin yX9_begin ∈ TB := tbm (tq5 (List.mem_of_getElem? (i := 36) (by decide +kernel))) (by decide +kernel)
theorem mi_X9_begin : MI yX9_begin cX9_begin 4 none 2 := ⟨wc_X9_begin, wn_X9, ⟨by decide +kernel, by decide +kernel, by decide +kernel⟩, wi_X9_begin, ws_X9_begin⟩
theorem dX11_sheet_44 : decode cX11_sheet 44 = .ok (.iconst 1, 1) := dl_4 (by decide +kernel)
theorem dX11_sheet_45 : decode cX11_sheet 45 = .ok (.ireturn, 1) := dl_172 (by decide +kernel)
theorem dX11_sheet_30 : decode cX11_sheet 30 = .ok (.bipush (-14), 2) := dl_16 (by decide +kernel)
theorem dX11_sheet_32 : decode cX11_sheet 32 = .ok (.ireturn, 1) := dl_172 (by decide +kernel)
theorem dX11_sheet_24 : decode cX11_sheet 24 = .ok (.iconst (-1), 1) := dl_2 (by decide +kernel)
theorem dX11_sheet_25 : decode cX11_sheet 25 = .ok (.ireturn, 1) := dl_172 (by decide +kernel)
set_option maxRecDepth 100000 in
set_option maxHeartbeats 4000000 in
theorem x_sheet (l : Launch) (E : EV) (ro : va_W) (hx : Nat) (v0 : Int32) (v1 : Int32) (v2 : Int32) (h : Nat) (qp : Nat) (ac : Nat) (np : Nat) (qs : Nat) (qj : Nat) (ly : Nat) (qh : Nat) (kk : Nat) (kc : Nat) (rd : Nat) (pg : Nat) (pe : Nat) (kn : Int32) (ss : Nat) (fss : Nat → Option Nat) (s0 : Nat) (s1 : Nat) (s2 : Nat) (s3 : Nat) (s0t : Nat) (s0n : Nat) (s0l : Nat) (s0c : Nat) (s0f : Nat → Int32) (s1t : Nat) (s1n : Nat) (s1l : Nat) (s1c : Nat) (s1f : Nat → Int32) (s2t : Nat) (s2n : Nat) (s2l : Nat) (s2c : Nat) (s2f : Nat → Int32) (s3t : Nat) (s3n : Nat) (s3l : Nat) (s3c : Nat) (s3f : Nat → Int32) (k_fss_0 : fss 0 = some s0) (k_fss_1 : fss 1 = some s1) (k_fss_2 : fss 2 = some s2) (k_fss_3 : fss 3 = some s3) (hs0t : s0t ≤ 1) (hs0n : s0n ≤ 48) (hs0l : s0l ≤ 2) (hs1t : s1t ≤ 1) (hs1n : s1n ≤ 48) (hs1l : s1l ≤ 2) (hs2t : s2t ≤ 1) (hs2n : s2n ≤ 48) (hs2l : s2l ≤ 2) (hs3t : s3t ≤ 1) (hs3n : s3n ≤ 48) (hs3l : s3l ≤ 2) : CT l yX11_sheet (Cond.code yX11_sheet cX11_sheet 4 (some .int) :: TB) ({ frames := 1, cells := 0, slots := 0, locals := 23 }) E ro [.ref hx, .int v0, .int v1, .int v2] [(hx, .inr (11, [.ref h, .ref qp, .int (nI ac), .int (nI np), .ref qs, .ref qj, .ref ly, .ref qh, .ref kk, .int (nI kc), .ref rd, .ref pg, .int (nI pe), .int kn, .ref ss])), (ss, .inl (E.2.1 8, 4, .inr (.inr (.inr (.inr fss))))), (s0, .inr (9, [.int (nI s0t), .int (nI s0n), .int (nI s0l), .ref s0c])), (s0c, .inl (E.2.1 1, 48, .inl s0f)), (s1, .inr (9, [.int (nI s1t), .int (nI s1n), .int (nI s1l), .ref s1c])), (s1c, .inl (E.2.1 1, 48, .inl s1f)), (s2, .inr (9, [.int (nI s2t), .int (nI s2n), .int (nI s2l), .ref s2c])), (s2c, .inl (E.2.1 1, 48, .inl s2f)), (s3, .inr (9, [.int (nI s3t), .int (nI s3n), .int (nI s3l), .ref s3c])), (s3c, .inl (E.2.1 1, 48, .inl s3f))] (Qi E (fun (rz : Int32) uz => (rz = (-1) ∧ uz = [(hx, .inr (11, [.ref h, .ref qp, .int (nI ac), .int (nI np), .ref qs, .ref qj, .ref ly, .ref qh, .ref kk, .int (nI kc), .ref rd, .ref pg, .int (nI pe), .int kn, .ref ss])), (ss, .inl (E.2.1 8, 4, .inr (.inr (.inr (.inr fss))))), (s0, .inr (9, [.int (nI s0t), .int (nI s0n), .int (nI s0l), .ref s0c])), (s0c, .inl (E.2.1 1, 48, .inl s0f)), (s1, .inr (9, [.int (nI s1t), .int (nI s1n), .int (nI s1l), .ref s1c])), (s1c, .inl (E.2.1 1, 48, .inl s1f)), (s2, .inr (9, [.int (nI s2t), .int (nI s2n), .int (nI s2l), .ref s2c])), (s2c, .inl (E.2.1 1, 48, .inl s2f)), (s3, .inr (9, [.int (nI s3t), .int (nI s3n), .int (nI s3l), .ref s3c])), (s3c, .inl (E.2.1 1, 48, .inl s3f))] ∧ (v0.toInt < 0 ∨ 3 < v0.toInt ∨ v1.toInt < 0 ∨ 2 < v1.toInt ∨ 48 < v2.toInt)) ∨ (rz = (-14) ∧ uz = [(hx, .inr (11, [.ref h, .ref qp, .int (nI ac), .int (nI np), .ref qs, .ref qj, .ref ly, .ref qh, .ref kk, .int (nI kc), .ref rd, .ref pg, .int (nI pe), .int kn, .ref ss])), (ss, .inl (E.2.1 8, 4, .inr (.inr (.inr (.inr fss))))), (s0, .inr (9, [.int (nI s0t), .int (nI s0n), .int (nI s0l), .ref s0c])), (s0c, .inl (E.2.1 1, 48, .inl s0f)), (s1, .inr (9, [.int (nI s1t), .int (nI s1n), .int (nI s1l), .ref s1c])), (s1c, .inl (E.2.1 1, 48, .inl s1f)), (s2, .inr (9, [.int (nI s2t), .int (nI s2n), .int (nI s2l), .ref s2c])), (s2c, .inl (E.2.1 1, 48, .inl s2f)), (s3, .inr (9, [.int (nI s3t), .int (nI s3n), .int (nI s3l), .ref s3c])), (s3c, .inl (E.2.1 1, 48, .inl s3f))] ∧ (0 ≤ v0.toInt) ∧ (v0.toInt ≤ 3) ∧ (0 ≤ v1.toInt) ∧ (v1.toInt ≤ 2) ∧ (v2.toInt < 0)) ∨ (∃ (k_ : Nat) (l_ : Nat) (n_ : Nat) (s0tz : Nat) (s0nz : Nat) (s0lz : Nat) (s1tz : Nat) (s1nz : Nat) (s1lz : Nat) (s2tz : Nat) (s2nz : Nat) (s2lz : Nat) (s3tz : Nat) (s3nz : Nat) (s3lz : Nat) (s0fz : Nat → Int32) (s1fz : Nat → Int32) (s2fz : Nat → Int32) (s3fz : Nat → Int32), rz = 1 ∧ uz = [(hx, .inr (11, [.ref h, .ref qp, .int (nI ac), .int (nI np), .ref qs, .ref qj, .ref ly, .ref qh, .ref kk, .int (nI kc), .ref rd, .ref pg, .int (nI pe), .int kn, .ref ss])), (ss, .inl (E.2.1 8, 4, .inr (.inr (.inr (.inr fss))))), (s0, .inr (9, [.int (nI s0tz), .int (nI s0nz), .int (nI s0lz), .ref s0c])), (s0c, .inl (E.2.1 1, 48, .inl s0fz)), (s1, .inr (9, [.int (nI s1tz), .int (nI s1nz), .int (nI s1lz), .ref s1c])), (s1c, .inl (E.2.1 1, 48, .inl s1fz)), (s2, .inr (9, [.int (nI s2tz), .int (nI s2nz), .int (nI s2lz), .ref s2c])), (s2c, .inl (E.2.1 1, 48, .inl s2fz)), (s3, .inr (9, [.int (nI s3tz), .int (nI s3nz), .int (nI s3lz), .ref s3c])), (s3c, .inl (E.2.1 1, 48, .inl s3fz))] ∧ (v0 = nI k_) ∧ (v1 = nI l_) ∧ (v2 = nI n_) ∧ (k_ ≤ 3) ∧ (l_ ≤ 2) ∧ (n_ ≤ 48) ∧ (∀ i, i < 4 → pick4 s0tz s1tz s2tz s3tz i = if i = k_ then 1 else pick4 s0t s1t s2t s3t i) ∧ (∀ i, i < 4 → pick4 s0nz s1nz s2nz s3nz i = if i = k_ then n_ else pick4 s0n s1n s2n s3n i) ∧ (∀ i, i < 4 → pick4 s0lz s1lz s2lz s3lz i = if i = k_ then l_ else pick4 s0l s1l s2l s3l i) ∧ (∀ i, i < 4 → i ≠ k_ → pick4 s0fz s1fz s2fz s3fz i = pick4 s0f s1f s2f s3f i) ∧ (Z0x n_ (pick4 s0fz s1fz s2fz s3fz k_))))) 0 0 := by
  refine ct_of rfl rfl ?_
  intro X C hT hin hro
  show WW X 4 E 0 [(0, .ref hx), (1, .int v0), (2, .int v1), (3, .int v2)] [] [(hx, .inr (11, [.ref h, .ref qp, .int (nI ac), .int (nI np), .ref qs, .ref qj, .ref ly, .ref qh, .ref kk, .int (nI kc), .ref rd, .ref pg, .int (nI pe), .int kn, .ref ss])), (ss, .inl (E.2.1 8, 4, .inr (.inr (.inr (.inr fss))))), (s0, .inr (9, [.int (nI s0t), .int (nI s0n), .int (nI s0l), .ref s0c])), (s0c, .inl (E.2.1 1, 48, .inl s0f)), (s1, .inr (9, [.int (nI s1t), .int (nI s1n), .int (nI s1l), .ref s1c])), (s1c, .inl (E.2.1 1, 48, .inl s1f)), (s2, .inr (9, [.int (nI s2t), .int (nI s2n), .int (nI s2l), .ref s2c])), (s2c, .inl (E.2.1 1, 48, .inl s2f)), (s3, .inr (9, [.int (nI s3t), .int (nI s3n), .int (nI s3l), .ref s3c])), (s3c, .inl (E.2.1 1, 48, .inl s3f))] 0 0
  refine ww_iload_n C dX11_sheet_0 1 rfl rfl ?_
  refine ww_iconst (v := 0) C dX11_sheet_1 rfl ?_
  refine ww_iconst (v := 3) C dX11_sheet_2 rfl ?_
  refine ww_ci (wr := [(hx, .inr (11, [.ref h, .ref qp, .int (nI ac), .int (nI np), .ref qs, .ref qj, .ref ly, .ref qh, .ref kk, .int (nI kc), .ref rd, .ref pg, .int (nI pe), .int kn, .ref ss])), (ss, .inl (E.2.1 8, 4, .inr (.inr (.inr (.inr fss))))), (s0, .inr (9, [.int (nI s0t), .int (nI s0n), .int (nI s0l), .ref s0c])), (s0c, .inl (E.2.1 1, 48, .inl s0f)), (s1, .inr (9, [.int (nI s1t), .int (nI s1n), .int (nI s1l), .ref s1c])), (s1c, .inl (E.2.1 1, 48, .inl s1f)), (s2, .inr (9, [.int (nI s2t), .int (nI s2n), .int (nI s2l), .ref s2c])), (s2c, .inl (E.2.1 1, 48, .inl s2f)), (s3, .inr (9, [.int (nI s3t), .int (nI s3n), .int (nI s3l), .ref s3c])), (s3c, .inl (E.2.1 1, 48, .inl s3f))]) (k' := 0) (n' := 0) C (run_S (As := [.int v0, .int 0, .int 3]) (rest := []) C (c_within X.2.1 E ro v0 0 3 v0.toInt 0 3 rfl rfl rfl) ms_X11_within wl_X11_76 rfl rfl rfl rfl dX11_sheet_3) (roK hro) [] [0, 1, 2, 3, 4, 5, 6, 7, 8, 9] rfl (gqk (by eq_refl)) (plk (by decide +kernel)) rfl (fun r_1 uz hw => ?_)
  rcases hw with hw | hw
  · refine an3 hw ?_
    clear hw
    intro he_4 he_5 h_2 hw
    have h_3 := hw
    clear hw
    have he_4 := he_4.symm
    subst he_4
    subst he_5
    refine ww_eq (ws' := [(hx, .inr (11, [.ref h, .ref qp, .int (nI ac), .int (nI np), .ref qs, .ref qj, .ref ly, .ref qh, .ref kk, .int (nI kc), .ref rd, .ref pg, .int (nI pe), .int kn, .ref ss])), (ss, .inl (E.2.1 8, 4, .inr (.inr (.inr (.inr fss))))), (s0, .inr (9, [.int (nI s0t), .int (nI s0n), .int (nI s0l), .ref s0c])), (s0c, .inl (E.2.1 1, 48, .inl s0f)), (s1, .inr (9, [.int (nI s1t), .int (nI s1n), .int (nI s1l), .ref s1c])), (s1c, .inl (E.2.1 1, 48, .inl s1f)), (s2, .inr (9, [.int (nI s2t), .int (nI s2n), .int (nI s2l), .ref s2c])), (s2c, .inl (E.2.1 1, 48, .inl s2f)), (s3, .inr (9, [.int (nI s3t), .int (nI s3n), .int (nI s3l), .ref s3c])), (s3c, .inl (E.2.1 1, 48, .inl s3f))]) ?_ rfl rfl rfl
    refine ww_if_eq_f (tgt := 24) C dX11_sheet_6 (by decide) (by decide) ?_
    refine ww_iload_n C dX11_sheet_9 2 rfl rfl ?_
    refine ww_iconst (v := 0) C dX11_sheet_10 rfl ?_
    refine ww_iconst (v := 2) C dX11_sheet_11 rfl ?_
    refine ww_ci (wr := [(hx, .inr (11, [.ref h, .ref qp, .int (nI ac), .int (nI np), .ref qs, .ref qj, .ref ly, .ref qh, .ref kk, .int (nI kc), .ref rd, .ref pg, .int (nI pe), .int kn, .ref ss])), (ss, .inl (E.2.1 8, 4, .inr (.inr (.inr (.inr fss))))), (s0, .inr (9, [.int (nI s0t), .int (nI s0n), .int (nI s0l), .ref s0c])), (s0c, .inl (E.2.1 1, 48, .inl s0f)), (s1, .inr (9, [.int (nI s1t), .int (nI s1n), .int (nI s1l), .ref s1c])), (s1c, .inl (E.2.1 1, 48, .inl s1f)), (s2, .inr (9, [.int (nI s2t), .int (nI s2n), .int (nI s2l), .ref s2c])), (s2c, .inl (E.2.1 1, 48, .inl s2f)), (s3, .inr (9, [.int (nI s3t), .int (nI s3n), .int (nI s3l), .ref s3c])), (s3c, .inl (E.2.1 1, 48, .inl s3f))]) (k' := 0) (n' := 0) C (run_S (As := [.int v1, .int 0, .int 2]) (rest := []) C (c_within X.2.1 E ro v1 0 2 v1.toInt 0 2 rfl rfl rfl) ms_X11_within wl_X11_76 rfl rfl rfl rfl dX11_sheet_12) (roK hro) [] [0, 1, 2, 3, 4, 5, 6, 7, 8, 9] rfl (gqk (by eq_refl)) (plk (by decide +kernel)) rfl (fun r_9 uz hw => ?_)
    rcases hw with hw | hw
    · refine an3 hw ?_
      clear hw
      intro he_12 he_13 h_10 hw
      have h_11 := hw
      clear hw
      have he_12 := he_12.symm
      subst he_12
      subst he_13
      refine ww_eq (ws' := [(hx, .inr (11, [.ref h, .ref qp, .int (nI ac), .int (nI np), .ref qs, .ref qj, .ref ly, .ref qh, .ref kk, .int (nI kc), .ref rd, .ref pg, .int (nI pe), .int kn, .ref ss])), (ss, .inl (E.2.1 8, 4, .inr (.inr (.inr (.inr fss))))), (s0, .inr (9, [.int (nI s0t), .int (nI s0n), .int (nI s0l), .ref s0c])), (s0c, .inl (E.2.1 1, 48, .inl s0f)), (s1, .inr (9, [.int (nI s1t), .int (nI s1n), .int (nI s1l), .ref s1c])), (s1c, .inl (E.2.1 1, 48, .inl s1f)), (s2, .inr (9, [.int (nI s2t), .int (nI s2n), .int (nI s2l), .ref s2c])), (s2c, .inl (E.2.1 1, 48, .inl s2f)), (s3, .inr (9, [.int (nI s3t), .int (nI s3n), .int (nI s3l), .ref s3c])), (s3c, .inl (E.2.1 1, 48, .inl s3f))]) ?_ rfl rfl rfl
      refine ww_if_eq_f (tgt := 24) C dX11_sheet_15 (by decide) (by decide) ?_
      refine ww_iload_n C dX11_sheet_18 3 rfl rfl ?_
      refine ww_bipush (v := 48) C dX11_sheet_19 rfl ?_
      refine ww_icmp_le (tgt := 26) C dX11_sheet_21 (by decide) (fun c_17 => ?_) (fun c_17 => ?_)
      · have zc_17 : v2.toInt ≤ 48 := i_le rfl rfl c_17
        refine ww_iload_n C dX11_sheet_26 3 rfl rfl ?_
        refine ww_if_ge (tgt := 33) C dX11_sheet_27 (by decide) (fun c_18 => ?_) (fun c_18 => ?_)
        · have zc_18 : v2.toInt ≥ 0 := i_le rfl rfl c_18
          obtain ⟨j_19, hj_19, rfl⟩ := i_nat (x := v1) (N := 2) (by omega) (by omega)
          have hzj_19 := nI_toInt (n := j_19) (by omega)
          obtain ⟨j_20, hj_20, rfl⟩ := i_nat (x := v2) (N := 48) (by omega) (by omega)
          have hzj_20 := nI_toInt (n := j_20) (by omega)
          refine ww_aload_n C dX11_sheet_33 0 rfl rfl ?_
          refine ww_get C fg_X11_71 0 rfl rfl dX11_sheet_34 ?_
          rcases sp_0_3 (x := v0) (by omega) (by omega) with rfl | rfl | rfl | rfl
          · refine ww_iload_n C dX11_sheet_37 1 rfl rfl ?_
            refine ww_ald (v := (some s0)) (t0 := 8) C 1 rfl rfl (vin rfl) k_fss_0 dX11_sheet_38 ?_
            refine ww_eq (st' := [.ref s0]) ?_ rfl rfl rfl
            refine ww_iload_n C dX11_sheet_39 2 rfl rfl ?_
            refine ww_iload_n C dX11_sheet_40 3 rfl rfl ?_
            refine ww_cv (wr := [(hx, .inr (11, [.ref h, .ref qp, .int (nI ac), .int (nI np), .ref qs, .ref qj, .ref ly, .ref qh, .ref kk, .int (nI kc), .ref rd, .ref pg, .int (nI pe), .int kn, .ref ss])), (ss, .inl (E.2.1 8, 4, .inr (.inr (.inr (.inr fss))))), (s1, .inr (9, [.int (nI s1t), .int (nI s1n), .int (nI s1l), .ref s1c])), (s1c, .inl (E.2.1 1, 48, .inl s1f)), (s2, .inr (9, [.int (nI s2t), .int (nI s2n), .int (nI s2l), .ref s2c])), (s2c, .inl (E.2.1 1, 48, .inl s2f)), (s3, .inr (9, [.int (nI s3t), .int (nI s3n), .int (nI s3l), .ref s3c])), (s3c, .inl (E.2.1 1, 48, .inl s3f))]) (k' := 0) (n' := 0) C (run_V (As := [.int (nI j_19), .int (nI j_20)]) (rest := []) C (s_begin X.2.1 E ro s0 (nI j_19) j_20 (nI s0t) (nI s0n) (nI s0l) s0c s0f (by omega)) mi_X9_begin wl_X11_335 rfl 0 9 rfl rfl rfl rfl rfl dX11_sheet_41) (roK hro) [2, 3] [0, 1, 4, 5, 6, 7, 8, 9] rfl (gqk (by eq_refl)) (plk (by decide +kernel)) rfl (fun uz hw => ?_)
            refine ex1 hw ?_
            clear hw
            intro f2_22 hw
            refine an1 hw ?_
            clear hw
            intro he_24 hw
            have h_23 := hw
            clear hw
            subst he_24
            refine ww_eq (ws' := [(hx, .inr (11, [.ref h, .ref qp, .int (nI ac), .int (nI np), .ref qs, .ref qj, .ref ly, .ref qh, .ref kk, .int (nI kc), .ref rd, .ref pg, .int (nI pe), .int kn, .ref ss])), (ss, .inl (E.2.1 8, 4, .inr (.inr (.inr (.inr fss))))), (s1, .inr (9, [.int (nI s1t), .int (nI s1n), .int (nI s1l), .ref s1c])), (s1c, .inl (E.2.1 1, 48, .inl s1f)), (s2, .inr (9, [.int (nI s2t), .int (nI s2n), .int (nI s2l), .ref s2c])), (s2c, .inl (E.2.1 1, 48, .inl s2f)), (s3, .inr (9, [.int (nI s3t), .int (nI s3n), .int (nI s3l), .ref s3c])), (s3c, .inl (E.2.1 1, 48, .inl s3f)), (s0, .inr (9, [.int 1, .int (nI j_20), .int (nI j_19), .ref s0c])), (s0c, .inl (E.2.1 1, 48, .inl f2_22))]) ?_ rfl rfl rfl
            refine ww_iconst (v := 1) C dX11_sheet_44 rfl ?_
            exact ww_iret (u := [(hx, .inr (11, [.ref h, .ref qp, .int (nI ac), .int (nI np), .ref qs, .ref qj, .ref ly, .ref qh, .ref kk, .int (nI kc), .ref rd, .ref pg, .int (nI pe), .int kn, .ref ss])), (ss, .inl (E.2.1 8, 4, .inr (.inr (.inr (.inr fss))))), (s0, .inr (9, [.int 1, .int (nI j_20), .int (nI j_19), .ref s0c])), (s0c, .inl (E.2.1 1, 48, .inl f2_22)), (s1, .inr (9, [.int (nI s1t), .int (nI s1n), .int (nI s1l), .ref s1c])), (s1c, .inl (E.2.1 1, 48, .inl s1f)), (s2, .inr (9, [.int (nI s2t), .int (nI s2n), .int (nI s2l), .ref s2c])), (s2c, .inl (E.2.1 1, 48, .inl s2f)), (s3, .inr (9, [.int (nI s3t), .int (nI s3n), .int (nI s3l), .ref s3c])), (s3c, .inl (E.2.1 1, 48, .inl s3f))]) C hT [0, 1, 8, 9, 2, 3, 4, 5, 6, 7] (gqk (by eq_refl)) (ndk (by decide +kernel)) rfl rfl dX11_sheet_45 (Or.inr (Or.inr ⟨0, j_19, j_20, 1, j_20, j_19, s1t, s1n, s1l, s2t, s2n, s2l, s3t, s3n, s3l, f2_22, s1f, s2f, s3f, rfl, rfl, rfl, rfl, rfl, (by omega), (by omega), (by omega), (fun i hi => by rcases (show i = 0 ∨ i = 1 ∨ i = 2 ∨ i = 3 by omega) with rfl | rfl | rfl | rfl <;> rfl), (fun i hi => by rcases (show i = 0 ∨ i = 1 ∨ i = 2 ∨ i = 3 by omega) with rfl | rfl | rfl | rfl <;> rfl), (fun i hi => by rcases (show i = 0 ∨ i = 1 ∨ i = 2 ∨ i = 3 by omega) with rfl | rfl | rfl | rfl <;> rfl), (fun i hi hne => by rcases (show i = 0 ∨ i = 1 ∨ i = 2 ∨ i = 3 by omega) with rfl | rfl | rfl | rfl <;> first | rfl | exact absurd rfl hne), h_23⟩))
          · refine ww_iload_n C dX11_sheet_37 1 rfl rfl ?_
            refine ww_ald (v := (some s1)) (t0 := 8) C 1 rfl rfl (vin rfl) k_fss_1 dX11_sheet_38 ?_
            refine ww_eq (st' := [.ref s1]) ?_ rfl rfl rfl
            refine ww_iload_n C dX11_sheet_39 2 rfl rfl ?_
            refine ww_iload_n C dX11_sheet_40 3 rfl rfl ?_
            refine ww_cv (wr := [(hx, .inr (11, [.ref h, .ref qp, .int (nI ac), .int (nI np), .ref qs, .ref qj, .ref ly, .ref qh, .ref kk, .int (nI kc), .ref rd, .ref pg, .int (nI pe), .int kn, .ref ss])), (ss, .inl (E.2.1 8, 4, .inr (.inr (.inr (.inr fss))))), (s0, .inr (9, [.int (nI s0t), .int (nI s0n), .int (nI s0l), .ref s0c])), (s0c, .inl (E.2.1 1, 48, .inl s0f)), (s2, .inr (9, [.int (nI s2t), .int (nI s2n), .int (nI s2l), .ref s2c])), (s2c, .inl (E.2.1 1, 48, .inl s2f)), (s3, .inr (9, [.int (nI s3t), .int (nI s3n), .int (nI s3l), .ref s3c])), (s3c, .inl (E.2.1 1, 48, .inl s3f))]) (k' := 0) (n' := 0) C (run_V (As := [.int (nI j_19), .int (nI j_20)]) (rest := []) C (s_begin X.2.1 E ro s1 (nI j_19) j_20 (nI s1t) (nI s1n) (nI s1l) s1c s1f (by omega)) mi_X9_begin wl_X11_335 rfl 0 9 rfl rfl rfl rfl rfl dX11_sheet_41) (roK hro) [4, 5] [0, 1, 2, 3, 6, 7, 8, 9] rfl (gqk (by eq_refl)) (plk (by decide +kernel)) rfl (fun uz hw => ?_)
            refine ex1 hw ?_
            clear hw
            intro f2_26 hw
            refine an1 hw ?_
            clear hw
            intro he_28 hw
            have h_27 := hw
            clear hw
            subst he_28
            refine ww_eq (ws' := [(hx, .inr (11, [.ref h, .ref qp, .int (nI ac), .int (nI np), .ref qs, .ref qj, .ref ly, .ref qh, .ref kk, .int (nI kc), .ref rd, .ref pg, .int (nI pe), .int kn, .ref ss])), (ss, .inl (E.2.1 8, 4, .inr (.inr (.inr (.inr fss))))), (s0, .inr (9, [.int (nI s0t), .int (nI s0n), .int (nI s0l), .ref s0c])), (s0c, .inl (E.2.1 1, 48, .inl s0f)), (s2, .inr (9, [.int (nI s2t), .int (nI s2n), .int (nI s2l), .ref s2c])), (s2c, .inl (E.2.1 1, 48, .inl s2f)), (s3, .inr (9, [.int (nI s3t), .int (nI s3n), .int (nI s3l), .ref s3c])), (s3c, .inl (E.2.1 1, 48, .inl s3f)), (s1, .inr (9, [.int 1, .int (nI j_20), .int (nI j_19), .ref s1c])), (s1c, .inl (E.2.1 1, 48, .inl f2_26))]) ?_ rfl rfl rfl
            refine ww_iconst (v := 1) C dX11_sheet_44 rfl ?_
            exact ww_iret (u := [(hx, .inr (11, [.ref h, .ref qp, .int (nI ac), .int (nI np), .ref qs, .ref qj, .ref ly, .ref qh, .ref kk, .int (nI kc), .ref rd, .ref pg, .int (nI pe), .int kn, .ref ss])), (ss, .inl (E.2.1 8, 4, .inr (.inr (.inr (.inr fss))))), (s0, .inr (9, [.int (nI s0t), .int (nI s0n), .int (nI s0l), .ref s0c])), (s0c, .inl (E.2.1 1, 48, .inl s0f)), (s1, .inr (9, [.int 1, .int (nI j_20), .int (nI j_19), .ref s1c])), (s1c, .inl (E.2.1 1, 48, .inl f2_26)), (s2, .inr (9, [.int (nI s2t), .int (nI s2n), .int (nI s2l), .ref s2c])), (s2c, .inl (E.2.1 1, 48, .inl s2f)), (s3, .inr (9, [.int (nI s3t), .int (nI s3n), .int (nI s3l), .ref s3c])), (s3c, .inl (E.2.1 1, 48, .inl s3f))]) C hT [0, 1, 2, 3, 8, 9, 4, 5, 6, 7] (gqk (by eq_refl)) (ndk (by decide +kernel)) rfl rfl dX11_sheet_45 (Or.inr (Or.inr ⟨1, j_19, j_20, s0t, s0n, s0l, 1, j_20, j_19, s2t, s2n, s2l, s3t, s3n, s3l, s0f, f2_26, s2f, s3f, rfl, rfl, rfl, rfl, rfl, (by omega), (by omega), (by omega), (fun i hi => by rcases (show i = 0 ∨ i = 1 ∨ i = 2 ∨ i = 3 by omega) with rfl | rfl | rfl | rfl <;> rfl), (fun i hi => by rcases (show i = 0 ∨ i = 1 ∨ i = 2 ∨ i = 3 by omega) with rfl | rfl | rfl | rfl <;> rfl), (fun i hi => by rcases (show i = 0 ∨ i = 1 ∨ i = 2 ∨ i = 3 by omega) with rfl | rfl | rfl | rfl <;> rfl), (fun i hi hne => by rcases (show i = 0 ∨ i = 1 ∨ i = 2 ∨ i = 3 by omega) with rfl | rfl | rfl | rfl <;> first | rfl | exact absurd rfl hne), h_27⟩))
          · refine ww_iload_n C dX11_sheet_37 1 rfl rfl ?_
            refine ww_ald (v := (some s2)) (t0 := 8) C 1 rfl rfl (vin rfl) k_fss_2 dX11_sheet_38 ?_
            refine ww_eq (st' := [.ref s2]) ?_ rfl rfl rfl
            refine ww_iload_n C dX11_sheet_39 2 rfl rfl ?_
            refine ww_iload_n C dX11_sheet_40 3 rfl rfl ?_
            refine ww_cv (wr := [(hx, .inr (11, [.ref h, .ref qp, .int (nI ac), .int (nI np), .ref qs, .ref qj, .ref ly, .ref qh, .ref kk, .int (nI kc), .ref rd, .ref pg, .int (nI pe), .int kn, .ref ss])), (ss, .inl (E.2.1 8, 4, .inr (.inr (.inr (.inr fss))))), (s0, .inr (9, [.int (nI s0t), .int (nI s0n), .int (nI s0l), .ref s0c])), (s0c, .inl (E.2.1 1, 48, .inl s0f)), (s1, .inr (9, [.int (nI s1t), .int (nI s1n), .int (nI s1l), .ref s1c])), (s1c, .inl (E.2.1 1, 48, .inl s1f)), (s3, .inr (9, [.int (nI s3t), .int (nI s3n), .int (nI s3l), .ref s3c])), (s3c, .inl (E.2.1 1, 48, .inl s3f))]) (k' := 0) (n' := 0) C (run_V (As := [.int (nI j_19), .int (nI j_20)]) (rest := []) C (s_begin X.2.1 E ro s2 (nI j_19) j_20 (nI s2t) (nI s2n) (nI s2l) s2c s2f (by omega)) mi_X9_begin wl_X11_335 rfl 0 9 rfl rfl rfl rfl rfl dX11_sheet_41) (roK hro) [6, 7] [0, 1, 2, 3, 4, 5, 8, 9] rfl (gqk (by eq_refl)) (plk (by decide +kernel)) rfl (fun uz hw => ?_)
            refine ex1 hw ?_
            clear hw
            intro f2_30 hw
            refine an1 hw ?_
            clear hw
            intro he_32 hw
            have h_31 := hw
            clear hw
            subst he_32
            refine ww_eq (ws' := [(hx, .inr (11, [.ref h, .ref qp, .int (nI ac), .int (nI np), .ref qs, .ref qj, .ref ly, .ref qh, .ref kk, .int (nI kc), .ref rd, .ref pg, .int (nI pe), .int kn, .ref ss])), (ss, .inl (E.2.1 8, 4, .inr (.inr (.inr (.inr fss))))), (s0, .inr (9, [.int (nI s0t), .int (nI s0n), .int (nI s0l), .ref s0c])), (s0c, .inl (E.2.1 1, 48, .inl s0f)), (s1, .inr (9, [.int (nI s1t), .int (nI s1n), .int (nI s1l), .ref s1c])), (s1c, .inl (E.2.1 1, 48, .inl s1f)), (s3, .inr (9, [.int (nI s3t), .int (nI s3n), .int (nI s3l), .ref s3c])), (s3c, .inl (E.2.1 1, 48, .inl s3f)), (s2, .inr (9, [.int 1, .int (nI j_20), .int (nI j_19), .ref s2c])), (s2c, .inl (E.2.1 1, 48, .inl f2_30))]) ?_ rfl rfl rfl
            refine ww_iconst (v := 1) C dX11_sheet_44 rfl ?_
            exact ww_iret (u := [(hx, .inr (11, [.ref h, .ref qp, .int (nI ac), .int (nI np), .ref qs, .ref qj, .ref ly, .ref qh, .ref kk, .int (nI kc), .ref rd, .ref pg, .int (nI pe), .int kn, .ref ss])), (ss, .inl (E.2.1 8, 4, .inr (.inr (.inr (.inr fss))))), (s0, .inr (9, [.int (nI s0t), .int (nI s0n), .int (nI s0l), .ref s0c])), (s0c, .inl (E.2.1 1, 48, .inl s0f)), (s1, .inr (9, [.int (nI s1t), .int (nI s1n), .int (nI s1l), .ref s1c])), (s1c, .inl (E.2.1 1, 48, .inl s1f)), (s2, .inr (9, [.int 1, .int (nI j_20), .int (nI j_19), .ref s2c])), (s2c, .inl (E.2.1 1, 48, .inl f2_30)), (s3, .inr (9, [.int (nI s3t), .int (nI s3n), .int (nI s3l), .ref s3c])), (s3c, .inl (E.2.1 1, 48, .inl s3f))]) C hT [0, 1, 2, 3, 4, 5, 8, 9, 6, 7] (gqk (by eq_refl)) (ndk (by decide +kernel)) rfl rfl dX11_sheet_45 (Or.inr (Or.inr ⟨2, j_19, j_20, s0t, s0n, s0l, s1t, s1n, s1l, 1, j_20, j_19, s3t, s3n, s3l, s0f, s1f, f2_30, s3f, rfl, rfl, rfl, rfl, rfl, (by omega), (by omega), (by omega), (fun i hi => by rcases (show i = 0 ∨ i = 1 ∨ i = 2 ∨ i = 3 by omega) with rfl | rfl | rfl | rfl <;> rfl), (fun i hi => by rcases (show i = 0 ∨ i = 1 ∨ i = 2 ∨ i = 3 by omega) with rfl | rfl | rfl | rfl <;> rfl), (fun i hi => by rcases (show i = 0 ∨ i = 1 ∨ i = 2 ∨ i = 3 by omega) with rfl | rfl | rfl | rfl <;> rfl), (fun i hi hne => by rcases (show i = 0 ∨ i = 1 ∨ i = 2 ∨ i = 3 by omega) with rfl | rfl | rfl | rfl <;> first | rfl | exact absurd rfl hne), h_31⟩))
          · refine ww_iload_n C dX11_sheet_37 1 rfl rfl ?_
            refine ww_ald (v := (some s3)) (t0 := 8) C 1 rfl rfl (vin rfl) k_fss_3 dX11_sheet_38 ?_
            refine ww_eq (st' := [.ref s3]) ?_ rfl rfl rfl
            refine ww_iload_n C dX11_sheet_39 2 rfl rfl ?_
            refine ww_iload_n C dX11_sheet_40 3 rfl rfl ?_
            refine ww_cv (wr := [(hx, .inr (11, [.ref h, .ref qp, .int (nI ac), .int (nI np), .ref qs, .ref qj, .ref ly, .ref qh, .ref kk, .int (nI kc), .ref rd, .ref pg, .int (nI pe), .int kn, .ref ss])), (ss, .inl (E.2.1 8, 4, .inr (.inr (.inr (.inr fss))))), (s0, .inr (9, [.int (nI s0t), .int (nI s0n), .int (nI s0l), .ref s0c])), (s0c, .inl (E.2.1 1, 48, .inl s0f)), (s1, .inr (9, [.int (nI s1t), .int (nI s1n), .int (nI s1l), .ref s1c])), (s1c, .inl (E.2.1 1, 48, .inl s1f)), (s2, .inr (9, [.int (nI s2t), .int (nI s2n), .int (nI s2l), .ref s2c])), (s2c, .inl (E.2.1 1, 48, .inl s2f))]) (k' := 0) (n' := 0) C (run_V (As := [.int (nI j_19), .int (nI j_20)]) (rest := []) C (s_begin X.2.1 E ro s3 (nI j_19) j_20 (nI s3t) (nI s3n) (nI s3l) s3c s3f (by omega)) mi_X9_begin wl_X11_335 rfl 0 9 rfl rfl rfl rfl rfl dX11_sheet_41) (roK hro) [8, 9] [0, 1, 2, 3, 4, 5, 6, 7] rfl (gqk (by eq_refl)) (plk (by decide +kernel)) rfl (fun uz hw => ?_)
            refine ex1 hw ?_
            clear hw
            intro f2_34 hw
            refine an1 hw ?_
            clear hw
            intro he_36 hw
            have h_35 := hw
            clear hw
            subst he_36
            refine ww_eq (ws' := [(hx, .inr (11, [.ref h, .ref qp, .int (nI ac), .int (nI np), .ref qs, .ref qj, .ref ly, .ref qh, .ref kk, .int (nI kc), .ref rd, .ref pg, .int (nI pe), .int kn, .ref ss])), (ss, .inl (E.2.1 8, 4, .inr (.inr (.inr (.inr fss))))), (s0, .inr (9, [.int (nI s0t), .int (nI s0n), .int (nI s0l), .ref s0c])), (s0c, .inl (E.2.1 1, 48, .inl s0f)), (s1, .inr (9, [.int (nI s1t), .int (nI s1n), .int (nI s1l), .ref s1c])), (s1c, .inl (E.2.1 1, 48, .inl s1f)), (s2, .inr (9, [.int (nI s2t), .int (nI s2n), .int (nI s2l), .ref s2c])), (s2c, .inl (E.2.1 1, 48, .inl s2f)), (s3, .inr (9, [.int 1, .int (nI j_20), .int (nI j_19), .ref s3c])), (s3c, .inl (E.2.1 1, 48, .inl f2_34))]) ?_ rfl rfl rfl
            refine ww_iconst (v := 1) C dX11_sheet_44 rfl ?_
            exact ww_iret (u := [(hx, .inr (11, [.ref h, .ref qp, .int (nI ac), .int (nI np), .ref qs, .ref qj, .ref ly, .ref qh, .ref kk, .int (nI kc), .ref rd, .ref pg, .int (nI pe), .int kn, .ref ss])), (ss, .inl (E.2.1 8, 4, .inr (.inr (.inr (.inr fss))))), (s0, .inr (9, [.int (nI s0t), .int (nI s0n), .int (nI s0l), .ref s0c])), (s0c, .inl (E.2.1 1, 48, .inl s0f)), (s1, .inr (9, [.int (nI s1t), .int (nI s1n), .int (nI s1l), .ref s1c])), (s1c, .inl (E.2.1 1, 48, .inl s1f)), (s2, .inr (9, [.int (nI s2t), .int (nI s2n), .int (nI s2l), .ref s2c])), (s2c, .inl (E.2.1 1, 48, .inl s2f)), (s3, .inr (9, [.int 1, .int (nI j_20), .int (nI j_19), .ref s3c])), (s3c, .inl (E.2.1 1, 48, .inl f2_34))]) C hT [0, 1, 2, 3, 4, 5, 6, 7, 8, 9] (gqk (by eq_refl)) (ndk (by decide +kernel)) rfl rfl dX11_sheet_45 (Or.inr (Or.inr ⟨3, j_19, j_20, s0t, s0n, s0l, s1t, s1n, s1l, s2t, s2n, s2l, 1, j_20, j_19, s0f, s1f, s2f, f2_34, rfl, rfl, rfl, rfl, rfl, (by omega), (by omega), (by omega), (fun i hi => by rcases (show i = 0 ∨ i = 1 ∨ i = 2 ∨ i = 3 by omega) with rfl | rfl | rfl | rfl <;> rfl), (fun i hi => by rcases (show i = 0 ∨ i = 1 ∨ i = 2 ∨ i = 3 by omega) with rfl | rfl | rfl | rfl <;> rfl), (fun i hi => by rcases (show i = 0 ∨ i = 1 ∨ i = 2 ∨ i = 3 by omega) with rfl | rfl | rfl | rfl <;> rfl), (fun i hi hne => by rcases (show i = 0 ∨ i = 1 ∨ i = 2 ∨ i = 3 by omega) with rfl | rfl | rfl | rfl <;> first | rfl | exact absurd rfl hne), h_35⟩))
        · have zc_18 : v2.toInt < 0 := i_nle rfl rfl c_18
          refine ww_bipush (v := (-14)) C dX11_sheet_30 rfl ?_
          exact ww_iret (u := [(hx, .inr (11, [.ref h, .ref qp, .int (nI ac), .int (nI np), .ref qs, .ref qj, .ref ly, .ref qh, .ref kk, .int (nI kc), .ref rd, .ref pg, .int (nI pe), .int kn, .ref ss])), (ss, .inl (E.2.1 8, 4, .inr (.inr (.inr (.inr fss))))), (s0, .inr (9, [.int (nI s0t), .int (nI s0n), .int (nI s0l), .ref s0c])), (s0c, .inl (E.2.1 1, 48, .inl s0f)), (s1, .inr (9, [.int (nI s1t), .int (nI s1n), .int (nI s1l), .ref s1c])), (s1c, .inl (E.2.1 1, 48, .inl s1f)), (s2, .inr (9, [.int (nI s2t), .int (nI s2n), .int (nI s2l), .ref s2c])), (s2c, .inl (E.2.1 1, 48, .inl s2f)), (s3, .inr (9, [.int (nI s3t), .int (nI s3n), .int (nI s3l), .ref s3c])), (s3c, .inl (E.2.1 1, 48, .inl s3f))]) C hT [0, 1, 2, 3, 4, 5, 6, 7, 8, 9] (gqk (by eq_refl)) (ndk (by decide +kernel)) rfl rfl dX11_sheet_32 (Or.inr (Or.inl ⟨rfl, rfl, (by first | assumption | omega | decide), (by first | assumption | omega | decide), (by first | assumption | omega | decide), (by first | assumption | omega | decide), (by first | assumption | omega | decide)⟩))
      · have zc_17 : v2.toInt > 48 := i_nle rfl rfl c_17
        refine ww_iconst (v := (-1)) C dX11_sheet_24 rfl ?_
        exact ww_iret (u := [(hx, .inr (11, [.ref h, .ref qp, .int (nI ac), .int (nI np), .ref qs, .ref qj, .ref ly, .ref qh, .ref kk, .int (nI kc), .ref rd, .ref pg, .int (nI pe), .int kn, .ref ss])), (ss, .inl (E.2.1 8, 4, .inr (.inr (.inr (.inr fss))))), (s0, .inr (9, [.int (nI s0t), .int (nI s0n), .int (nI s0l), .ref s0c])), (s0c, .inl (E.2.1 1, 48, .inl s0f)), (s1, .inr (9, [.int (nI s1t), .int (nI s1n), .int (nI s1l), .ref s1c])), (s1c, .inl (E.2.1 1, 48, .inl s1f)), (s2, .inr (9, [.int (nI s2t), .int (nI s2n), .int (nI s2l), .ref s2c])), (s2c, .inl (E.2.1 1, 48, .inl s2f)), (s3, .inr (9, [.int (nI s3t), .int (nI s3n), .int (nI s3l), .ref s3c])), (s3c, .inl (E.2.1 1, 48, .inl s3f))]) C hT [0, 1, 2, 3, 4, 5, 6, 7, 8, 9] (gqk (by eq_refl)) (ndk (by decide +kernel)) rfl rfl dX11_sheet_25 (Or.inl ⟨rfl, rfl, (by first | assumption | omega | decide)⟩)
    · refine an2 hw ?_
      clear hw
      intro he_15 he_16 hw
      have h_14 := hw
      clear hw
      have he_15 := he_15.symm
      subst he_15
      subst he_16
      refine ww_eq (ws' := [(hx, .inr (11, [.ref h, .ref qp, .int (nI ac), .int (nI np), .ref qs, .ref qj, .ref ly, .ref qh, .ref kk, .int (nI kc), .ref rd, .ref pg, .int (nI pe), .int kn, .ref ss])), (ss, .inl (E.2.1 8, 4, .inr (.inr (.inr (.inr fss))))), (s0, .inr (9, [.int (nI s0t), .int (nI s0n), .int (nI s0l), .ref s0c])), (s0c, .inl (E.2.1 1, 48, .inl s0f)), (s1, .inr (9, [.int (nI s1t), .int (nI s1n), .int (nI s1l), .ref s1c])), (s1c, .inl (E.2.1 1, 48, .inl s1f)), (s2, .inr (9, [.int (nI s2t), .int (nI s2n), .int (nI s2l), .ref s2c])), (s2c, .inl (E.2.1 1, 48, .inl s2f)), (s3, .inr (9, [.int (nI s3t), .int (nI s3n), .int (nI s3l), .ref s3c])), (s3c, .inl (E.2.1 1, 48, .inl s3f))]) ?_ rfl rfl rfl
      refine ww_if_eq_t (tgt := 24) C dX11_sheet_15 (by decide) (rfl) ?_
      refine ww_iconst (v := (-1)) C dX11_sheet_24 rfl ?_
      exact ww_iret (u := [(hx, .inr (11, [.ref h, .ref qp, .int (nI ac), .int (nI np), .ref qs, .ref qj, .ref ly, .ref qh, .ref kk, .int (nI kc), .ref rd, .ref pg, .int (nI pe), .int kn, .ref ss])), (ss, .inl (E.2.1 8, 4, .inr (.inr (.inr (.inr fss))))), (s0, .inr (9, [.int (nI s0t), .int (nI s0n), .int (nI s0l), .ref s0c])), (s0c, .inl (E.2.1 1, 48, .inl s0f)), (s1, .inr (9, [.int (nI s1t), .int (nI s1n), .int (nI s1l), .ref s1c])), (s1c, .inl (E.2.1 1, 48, .inl s1f)), (s2, .inr (9, [.int (nI s2t), .int (nI s2n), .int (nI s2l), .ref s2c])), (s2c, .inl (E.2.1 1, 48, .inl s2f)), (s3, .inr (9, [.int (nI s3t), .int (nI s3n), .int (nI s3l), .ref s3c])), (s3c, .inl (E.2.1 1, 48, .inl s3f))]) C hT [0, 1, 2, 3, 4, 5, 6, 7, 8, 9] (gqk (by eq_refl)) (ndk (by decide +kernel)) rfl rfl dX11_sheet_25 (Or.inl ⟨rfl, rfl, (by first | assumption | omega | decide)⟩)
  · refine an2 hw ?_
    clear hw
    intro he_7 he_8 hw
    have h_6 := hw
    clear hw
    have he_7 := he_7.symm
    subst he_7
    subst he_8
    refine ww_eq (ws' := [(hx, .inr (11, [.ref h, .ref qp, .int (nI ac), .int (nI np), .ref qs, .ref qj, .ref ly, .ref qh, .ref kk, .int (nI kc), .ref rd, .ref pg, .int (nI pe), .int kn, .ref ss])), (ss, .inl (E.2.1 8, 4, .inr (.inr (.inr (.inr fss))))), (s0, .inr (9, [.int (nI s0t), .int (nI s0n), .int (nI s0l), .ref s0c])), (s0c, .inl (E.2.1 1, 48, .inl s0f)), (s1, .inr (9, [.int (nI s1t), .int (nI s1n), .int (nI s1l), .ref s1c])), (s1c, .inl (E.2.1 1, 48, .inl s1f)), (s2, .inr (9, [.int (nI s2t), .int (nI s2n), .int (nI s2l), .ref s2c])), (s2c, .inl (E.2.1 1, 48, .inl s2f)), (s3, .inr (9, [.int (nI s3t), .int (nI s3n), .int (nI s3l), .ref s3c])), (s3c, .inl (E.2.1 1, 48, .inl s3f))]) ?_ rfl rfl rfl
    refine ww_if_eq_t (tgt := 24) C dX11_sheet_6 (by decide) (rfl) ?_
    refine ww_iconst (v := (-1)) C dX11_sheet_24 rfl ?_
    exact ww_iret (u := [(hx, .inr (11, [.ref h, .ref qp, .int (nI ac), .int (nI np), .ref qs, .ref qj, .ref ly, .ref qh, .ref kk, .int (nI kc), .ref rd, .ref pg, .int (nI pe), .int kn, .ref ss])), (ss, .inl (E.2.1 8, 4, .inr (.inr (.inr (.inr fss))))), (s0, .inr (9, [.int (nI s0t), .int (nI s0n), .int (nI s0l), .ref s0c])), (s0c, .inl (E.2.1 1, 48, .inl s0f)), (s1, .inr (9, [.int (nI s1t), .int (nI s1n), .int (nI s1l), .ref s1c])), (s1c, .inl (E.2.1 1, 48, .inl s1f)), (s2, .inr (9, [.int (nI s2t), .int (nI s2n), .int (nI s2l), .ref s2c])), (s2c, .inl (E.2.1 1, 48, .inl s2f)), (s3, .inr (9, [.int (nI s3t), .int (nI s3n), .int (nI s3l), .ref s3c])), (s3c, .inl (E.2.1 1, 48, .inl s3f))]) C hT [0, 1, 2, 3, 4, 5, 6, 7, 8, 9] (gqk (by eq_refl)) (ndk (by decide +kernel)) rfl rfl dX11_sheet_25 (Or.inl ⟨rfl, rfl, (by first | assumption | omega | decide)⟩)
theorem dX11_write_0 : decode cX11_write 0 = .ok (.iload_n 1, 1) := dl_27 (by decide +kernel)
theorem dX11_write_1 : decode cX11_write 1 = .ok (.iconst 0, 1) := dl_3 (by decide +kernel)
theorem dX11_write_2 : decode cX11_write 2 = .ok (.iconst 3, 1) := dl_6 (by decide +kernel)
theorem dX11_write_3 : decode cX11_write 3 = .ok (.invokestatic 76, 3) := dl_184 (by decide +kernel)
theorem dX11_write_6 : decode cX11_write 6 = .ok (.ifCond .ne 5, 3) := dl_154 (by decide +kernel)
theorem dX11_write_11 : decode cX11_write 11 = .ok (.aload_n 0, 1) := dl_42 (by decide +kernel)
theorem dX11_write_12 : decode cX11_write 12 = .ok (.getfield 71, 3) := dl_180 (by decide +kernel)
theorem dX11_write_15 : decode cX11_write 15 = .ok (.iload_n 1, 1) := dl_27 (by decide +kernel)
theorem dX11_write_16 : decode cX11_write 16 = .ok (.aaload, 1) := dl_50 (by decide +kernel)
theorem dX11_write_17 : decode cX11_write 17 = .ok (.getfield 338, 3) := dl_180 (by decide +kernel)
theorem wf_X11_338 : Cond.fieldLink RX11 338 RX9 "isThere" "Z" ∈ TB := tbm (tq2 (List.mem_of_getElem? (i := 81) (by decide +kernel))) (by decide +kernel)
theorem fg_X11_338 : FG RX11 338 9 0 := ⟨RX9, TX9, 4, uw_X9, wf_X11_338, rfl, by decide, rfl⟩
theorem dX11_write_20 : decode cX11_write 20 = .ok (.ifCond .ne 6, 3) := dl_154 (by decide +kernel)
theorem dX11_write_23 : decode cX11_write 23 = .ok (.bipush (-11), 2) := dl_16 (by decide +kernel)
theorem dX11_write_25 : decode cX11_write 25 = .ok (.ireturn, 1) := dl_172 (by decide +kernel)
theorem dX11_write_26 : decode cX11_write 26 = .ok (.iload_n 2, 1) := dl_28 (by decide +kernel)
theorem dX11_write_27 : decode cX11_write 27 = .ok (.iconst 0, 1) := dl_3 (by decide +kernel)
theorem dX11_write_28 : decode cX11_write 28 = .ok (.aload_n 0, 1) := dl_42 (by decide +kernel)
theorem dX11_write_29 : decode cX11_write 29 = .ok (.getfield 71, 3) := dl_180 (by decide +kernel)
theorem dX11_write_32 : decode cX11_write 32 = .ok (.iload_n 1, 1) := dl_27 (by decide +kernel)
theorem dX11_write_33 : decode cX11_write 33 = .ok (.aaload, 1) := dl_50 (by decide +kernel)
theorem dX11_write_34 : decode cX11_write 34 = .ok (.getfield 342, 3) := dl_180 (by decide +kernel)
theorem wf_X11_342 : Cond.fieldLink RX11 342 RX9 "size" "I" ∈ TB := tbm (tq2 (List.mem_of_getElem? (i := 83) (by decide +kernel))) (by decide +kernel)
theorem fg_X11_342 : FG RX11 342 9 1 := ⟨RX9, TX9, 4, uw_X9, wf_X11_342, rfl, by decide, rfl⟩
theorem dX11_write_37 : decode cX11_write 37 = .ok (.iconst 1, 1) := dl_4 (by decide +kernel)
theorem dX11_write_38 : decode cX11_write 38 = .ok (.isub, 1) := dl_100 (by decide +kernel)
theorem dX11_write_39 : decode cX11_write 39 = .ok (.invokestatic 76, 3) := dl_184 (by decide +kernel)
theorem dX11_write_42 : decode cX11_write 42 = .ok (.ifCond .ne 6, 3) := dl_154 (by decide +kernel)
theorem dX11_write_48 : decode cX11_write 48 = .ok (.aload_n 0, 1) := dl_42 (by decide +kernel)
theorem dX11_write_49 : decode cX11_write 49 = .ok (.getfield 71, 3) := dl_180 (by decide +kernel)
theorem dX11_write_52 : decode cX11_write 52 = .ok (.iload_n 1, 1) := dl_27 (by decide +kernel)
theorem dX11_write_53 : decode cX11_write 53 = .ok (.aaload, 1) := dl_50 (by decide +kernel)
theorem dX11_write_54 : decode cX11_write 54 = .ok (.iload_n 2, 1) := dl_28 (by decide +kernel)
theorem dX11_write_55 : decode cX11_write 55 = .ok (.iload_n 3, 1) := dl_29 (by decide +kernel)
theorem dX11_write_56 : decode cX11_write 56 = .ok (.invokevirtual 343, 3) := dl_182 (by decide +kernel)
theorem wl_X11_343 : Cond.methodLink RX11 343 yX9_put ∈ TB := tbm (tq5 (List.mem_of_getElem? (i := 42) (by decide +kernel))) (by decide +kernel)
theorem wc_X9_put : Cond.code yX9_put cX9_put 3 none ∈ TB := tbm (tq5 (List.mem_of_getElem? (i := 45) (rfl))) (by decide +kernel)
theorem wi_X9_put : Cond.instanceMethod yX9_put ∈ TB := tbm (tq5 (List.mem_of_getElem? (i := 43) (by decide +kernel))) (by decide +kernel)
theorem ws_X9_put : Cond.selects RX9 yX9_put yX9_put ∈ TB := tbm (tq5 (List.mem_of_getElem? (i := 44) (by decide +kernel))) (by decide +kernel)
theorem mi_X9_put : MI yX9_put cX9_put 3 none 2 := ⟨wc_X9_put, wn_X9, ⟨by decide +kernel, by decide +kernel, by decide +kernel⟩, wi_X9_put, ws_X9_put⟩
theorem dX11_write_59 : decode cX11_write 59 = .ok (.iconst 1, 1) := dl_4 (by decide +kernel)
theorem dX11_write_60 : decode cX11_write 60 = .ok (.ireturn, 1) := dl_172 (by decide +kernel)
theorem dX11_write_45 : decode cX11_write 45 = .ok (.bipush (-12), 2) := dl_16 (by decide +kernel)
theorem dX11_write_47 : decode cX11_write 47 = .ok (.ireturn, 1) := dl_172 (by decide +kernel)
theorem dX11_write_9 : decode cX11_write 9 = .ok (.iconst (-1), 1) := dl_2 (by decide +kernel)
theorem dX11_write_10 : decode cX11_write 10 = .ok (.ireturn, 1) := dl_172 (by decide +kernel)
set_option maxRecDepth 100000 in
set_option maxHeartbeats 4000000 in
theorem x_write (l : Launch) (E : EV) (ro : va_W) (hx : Nat) (v0 : Int32) (v1 : Int32) (v2 : Int32) (h : Nat) (qp : Nat) (ac : Nat) (np : Nat) (qs : Nat) (qj : Nat) (ly : Nat) (qh : Nat) (kk : Nat) (kc : Nat) (rd : Nat) (pg : Nat) (pe : Nat) (kn : Int32) (ss : Nat) (fss : Nat → Option Nat) (s0 : Nat) (s1 : Nat) (s2 : Nat) (s3 : Nat) (s0t : Nat) (s0n : Nat) (s0l : Nat) (s0c : Nat) (s0f : Nat → Int32) (s1t : Nat) (s1n : Nat) (s1l : Nat) (s1c : Nat) (s1f : Nat → Int32) (s2t : Nat) (s2n : Nat) (s2l : Nat) (s2c : Nat) (s2f : Nat → Int32) (s3t : Nat) (s3n : Nat) (s3l : Nat) (s3c : Nat) (s3f : Nat → Int32) (k_fss_0 : fss 0 = some s0) (k_fss_1 : fss 1 = some s1) (k_fss_2 : fss 2 = some s2) (k_fss_3 : fss 3 = some s3) (hs0t : s0t ≤ 1) (hs0n : s0n ≤ 48) (hs0l : s0l ≤ 2) (hs1t : s1t ≤ 1) (hs1n : s1n ≤ 48) (hs1l : s1l ≤ 2) (hs2t : s2t ≤ 1) (hs2n : s2n ≤ 48) (hs2l : s2l ≤ 2) (hs3t : s3t ≤ 1) (hs3n : s3n ≤ 48) (hs3l : s3l ≤ 2) : CT l yX11_write (Cond.code yX11_write cX11_write 4 (some .int) :: TB) ({ frames := 1, cells := 0, slots := 0, locals := 22 }) E ro [.ref hx, .int v0, .int v1, .int v2] [(hx, .inr (11, [.ref h, .ref qp, .int (nI ac), .int (nI np), .ref qs, .ref qj, .ref ly, .ref qh, .ref kk, .int (nI kc), .ref rd, .ref pg, .int (nI pe), .int kn, .ref ss])), (ss, .inl (E.2.1 8, 4, .inr (.inr (.inr (.inr fss))))), (s0, .inr (9, [.int (nI s0t), .int (nI s0n), .int (nI s0l), .ref s0c])), (s0c, .inl (E.2.1 1, 48, .inl s0f)), (s1, .inr (9, [.int (nI s1t), .int (nI s1n), .int (nI s1l), .ref s1c])), (s1c, .inl (E.2.1 1, 48, .inl s1f)), (s2, .inr (9, [.int (nI s2t), .int (nI s2n), .int (nI s2l), .ref s2c])), (s2c, .inl (E.2.1 1, 48, .inl s2f)), (s3, .inr (9, [.int (nI s3t), .int (nI s3n), .int (nI s3l), .ref s3c])), (s3c, .inl (E.2.1 1, 48, .inl s3f))] (Qi E (fun (rz : Int32) uz => (rz = (-1) ∧ uz = [(hx, .inr (11, [.ref h, .ref qp, .int (nI ac), .int (nI np), .ref qs, .ref qj, .ref ly, .ref qh, .ref kk, .int (nI kc), .ref rd, .ref pg, .int (nI pe), .int kn, .ref ss])), (ss, .inl (E.2.1 8, 4, .inr (.inr (.inr (.inr fss))))), (s0, .inr (9, [.int (nI s0t), .int (nI s0n), .int (nI s0l), .ref s0c])), (s0c, .inl (E.2.1 1, 48, .inl s0f)), (s1, .inr (9, [.int (nI s1t), .int (nI s1n), .int (nI s1l), .ref s1c])), (s1c, .inl (E.2.1 1, 48, .inl s1f)), (s2, .inr (9, [.int (nI s2t), .int (nI s2n), .int (nI s2l), .ref s2c])), (s2c, .inl (E.2.1 1, 48, .inl s2f)), (s3, .inr (9, [.int (nI s3t), .int (nI s3n), .int (nI s3l), .ref s3c])), (s3c, .inl (E.2.1 1, 48, .inl s3f))] ∧ (v0.toInt < 0 ∨ 3 < v0.toInt)) ∨ (∃ (k_ : Nat), rz = (-11) ∧ uz = [(hx, .inr (11, [.ref h, .ref qp, .int (nI ac), .int (nI np), .ref qs, .ref qj, .ref ly, .ref qh, .ref kk, .int (nI kc), .ref rd, .ref pg, .int (nI pe), .int kn, .ref ss])), (ss, .inl (E.2.1 8, 4, .inr (.inr (.inr (.inr fss))))), (s0, .inr (9, [.int (nI s0t), .int (nI s0n), .int (nI s0l), .ref s0c])), (s0c, .inl (E.2.1 1, 48, .inl s0f)), (s1, .inr (9, [.int (nI s1t), .int (nI s1n), .int (nI s1l), .ref s1c])), (s1c, .inl (E.2.1 1, 48, .inl s1f)), (s2, .inr (9, [.int (nI s2t), .int (nI s2n), .int (nI s2l), .ref s2c])), (s2c, .inl (E.2.1 1, 48, .inl s2f)), (s3, .inr (9, [.int (nI s3t), .int (nI s3n), .int (nI s3l), .ref s3c])), (s3c, .inl (E.2.1 1, 48, .inl s3f))] ∧ (v0 = nI k_) ∧ (k_ ≤ 3) ∧ (pick4 s0t s1t s2t s3t k_ = 0)) ∨ (∃ (k_ : Nat), rz = (-12) ∧ uz = [(hx, .inr (11, [.ref h, .ref qp, .int (nI ac), .int (nI np), .ref qs, .ref qj, .ref ly, .ref qh, .ref kk, .int (nI kc), .ref rd, .ref pg, .int (nI pe), .int kn, .ref ss])), (ss, .inl (E.2.1 8, 4, .inr (.inr (.inr (.inr fss))))), (s0, .inr (9, [.int (nI s0t), .int (nI s0n), .int (nI s0l), .ref s0c])), (s0c, .inl (E.2.1 1, 48, .inl s0f)), (s1, .inr (9, [.int (nI s1t), .int (nI s1n), .int (nI s1l), .ref s1c])), (s1c, .inl (E.2.1 1, 48, .inl s1f)), (s2, .inr (9, [.int (nI s2t), .int (nI s2n), .int (nI s2l), .ref s2c])), (s2c, .inl (E.2.1 1, 48, .inl s2f)), (s3, .inr (9, [.int (nI s3t), .int (nI s3n), .int (nI s3l), .ref s3c])), (s3c, .inl (E.2.1 1, 48, .inl s3f))] ∧ (v0 = nI k_) ∧ (k_ ≤ 3) ∧ (pick4 s0t s1t s2t s3t k_ = 1) ∧ (v1.toInt < 0 ∨ ((pick4 s0n s1n s2n s3n k_ : Nat) : Int) ≤ v1.toInt)) ∨ (∃ (k_ : Nat) (i_ : Nat) (s0fz : Nat → Int32) (s1fz : Nat → Int32) (s2fz : Nat → Int32) (s3fz : Nat → Int32), rz = 1 ∧ uz = [(hx, .inr (11, [.ref h, .ref qp, .int (nI ac), .int (nI np), .ref qs, .ref qj, .ref ly, .ref qh, .ref kk, .int (nI kc), .ref rd, .ref pg, .int (nI pe), .int kn, .ref ss])), (ss, .inl (E.2.1 8, 4, .inr (.inr (.inr (.inr fss))))), (s0, .inr (9, [.int (nI s0t), .int (nI s0n), .int (nI s0l), .ref s0c])), (s0c, .inl (E.2.1 1, 48, .inl s0fz)), (s1, .inr (9, [.int (nI s1t), .int (nI s1n), .int (nI s1l), .ref s1c])), (s1c, .inl (E.2.1 1, 48, .inl s1fz)), (s2, .inr (9, [.int (nI s2t), .int (nI s2n), .int (nI s2l), .ref s2c])), (s2c, .inl (E.2.1 1, 48, .inl s2fz)), (s3, .inr (9, [.int (nI s3t), .int (nI s3n), .int (nI s3l), .ref s3c])), (s3c, .inl (E.2.1 1, 48, .inl s3fz))] ∧ (v0 = nI k_) ∧ (k_ ≤ 3) ∧ (pick4 s0t s1t s2t s3t k_ = 1) ∧ (0 ≤ v1.toInt ∧ v1.toInt < ((pick4 s0n s1n s2n s3n k_ : Nat) : Int)) ∧ (v1 = nI i_) ∧ (i_ < 48) ∧ (∀ i, i < 4 → i ≠ k_ → pick4 s0fz s1fz s2fz s3fz i = pick4 s0f s1f s2f s3f i) ∧ (upd (pick4 s0f s1f s2f s3f k_) i_ (putv (pick4 s0l s1l s2l s3l k_) v2) = pick4 s0fz s1fz s2fz s3fz k_)))) 0 0 := by
  refine ct_of rfl rfl ?_
  intro X C hT hin hro
  show WW X 4 E 0 [(0, .ref hx), (1, .int v0), (2, .int v1), (3, .int v2)] [] [(hx, .inr (11, [.ref h, .ref qp, .int (nI ac), .int (nI np), .ref qs, .ref qj, .ref ly, .ref qh, .ref kk, .int (nI kc), .ref rd, .ref pg, .int (nI pe), .int kn, .ref ss])), (ss, .inl (E.2.1 8, 4, .inr (.inr (.inr (.inr fss))))), (s0, .inr (9, [.int (nI s0t), .int (nI s0n), .int (nI s0l), .ref s0c])), (s0c, .inl (E.2.1 1, 48, .inl s0f)), (s1, .inr (9, [.int (nI s1t), .int (nI s1n), .int (nI s1l), .ref s1c])), (s1c, .inl (E.2.1 1, 48, .inl s1f)), (s2, .inr (9, [.int (nI s2t), .int (nI s2n), .int (nI s2l), .ref s2c])), (s2c, .inl (E.2.1 1, 48, .inl s2f)), (s3, .inr (9, [.int (nI s3t), .int (nI s3n), .int (nI s3l), .ref s3c])), (s3c, .inl (E.2.1 1, 48, .inl s3f))] 0 0
  refine ww_iload_n C dX11_write_0 1 rfl rfl ?_
  refine ww_iconst (v := 0) C dX11_write_1 rfl ?_
  refine ww_iconst (v := 3) C dX11_write_2 rfl ?_
  refine ww_ci (wr := [(hx, .inr (11, [.ref h, .ref qp, .int (nI ac), .int (nI np), .ref qs, .ref qj, .ref ly, .ref qh, .ref kk, .int (nI kc), .ref rd, .ref pg, .int (nI pe), .int kn, .ref ss])), (ss, .inl (E.2.1 8, 4, .inr (.inr (.inr (.inr fss))))), (s0, .inr (9, [.int (nI s0t), .int (nI s0n), .int (nI s0l), .ref s0c])), (s0c, .inl (E.2.1 1, 48, .inl s0f)), (s1, .inr (9, [.int (nI s1t), .int (nI s1n), .int (nI s1l), .ref s1c])), (s1c, .inl (E.2.1 1, 48, .inl s1f)), (s2, .inr (9, [.int (nI s2t), .int (nI s2n), .int (nI s2l), .ref s2c])), (s2c, .inl (E.2.1 1, 48, .inl s2f)), (s3, .inr (9, [.int (nI s3t), .int (nI s3n), .int (nI s3l), .ref s3c])), (s3c, .inl (E.2.1 1, 48, .inl s3f))]) (k' := 0) (n' := 0) C (run_S (As := [.int v0, .int 0, .int 3]) (rest := []) C (c_within X.2.1 E ro v0 0 3 v0.toInt 0 3 rfl rfl rfl) ms_X11_within wl_X11_76 rfl rfl rfl rfl dX11_write_3) (roK hro) [] [0, 1, 2, 3, 4, 5, 6, 7, 8, 9] rfl (gqk (by eq_refl)) (plk (by decide +kernel)) rfl (fun r_1 uz hw => ?_)
  rcases hw with hw | hw
  · refine an3 hw ?_
    clear hw
    intro he_4 he_5 h_2 hw
    have h_3 := hw
    clear hw
    have he_4 := he_4.symm
    subst he_4
    subst he_5
    refine ww_eq (ws' := [(hx, .inr (11, [.ref h, .ref qp, .int (nI ac), .int (nI np), .ref qs, .ref qj, .ref ly, .ref qh, .ref kk, .int (nI kc), .ref rd, .ref pg, .int (nI pe), .int kn, .ref ss])), (ss, .inl (E.2.1 8, 4, .inr (.inr (.inr (.inr fss))))), (s0, .inr (9, [.int (nI s0t), .int (nI s0n), .int (nI s0l), .ref s0c])), (s0c, .inl (E.2.1 1, 48, .inl s0f)), (s1, .inr (9, [.int (nI s1t), .int (nI s1n), .int (nI s1l), .ref s1c])), (s1c, .inl (E.2.1 1, 48, .inl s1f)), (s2, .inr (9, [.int (nI s2t), .int (nI s2n), .int (nI s2l), .ref s2c])), (s2c, .inl (E.2.1 1, 48, .inl s2f)), (s3, .inr (9, [.int (nI s3t), .int (nI s3n), .int (nI s3l), .ref s3c])), (s3c, .inl (E.2.1 1, 48, .inl s3f))]) ?_ rfl rfl rfl
    refine ww_if_ne_t (tgt := 11) C dX11_write_6 (by decide) (by decide) ?_
    refine ww_aload_n C dX11_write_11 0 rfl rfl ?_
    refine ww_get C fg_X11_71 0 rfl rfl dX11_write_12 ?_
    rcases sp_0_3 (x := v0) (by omega) (by omega) with rfl | rfl | rfl | rfl
    · refine ww_iload_n C dX11_write_15 1 rfl rfl ?_
      refine ww_ald (v := (some s0)) (t0 := 8) C 1 rfl rfl (vin rfl) k_fss_0 dX11_write_16 ?_
      refine ww_eq (st' := [.ref s0]) ?_ rfl rfl rfl
      refine ww_get C fg_X11_338 2 rfl rfl dX11_write_17 ?_
      rcases (show s0t = 0 ∨ s0t = 1 by omega) with rfl | rfl
      · refine ww_if_ne_f (tgt := 26) C dX11_write_20 (by decide) (rfl) ?_
        refine ww_bipush (v := (-11)) C dX11_write_23 rfl ?_
        exact ww_iret (u := [(hx, .inr (11, [.ref h, .ref qp, .int (nI ac), .int (nI np), .ref qs, .ref qj, .ref ly, .ref qh, .ref kk, .int (nI kc), .ref rd, .ref pg, .int (nI pe), .int kn, .ref ss])), (ss, .inl (E.2.1 8, 4, .inr (.inr (.inr (.inr fss))))), (s0, .inr (9, [.int 0, .int (nI s0n), .int (nI s0l), .ref s0c])), (s0c, .inl (E.2.1 1, 48, .inl s0f)), (s1, .inr (9, [.int (nI s1t), .int (nI s1n), .int (nI s1l), .ref s1c])), (s1c, .inl (E.2.1 1, 48, .inl s1f)), (s2, .inr (9, [.int (nI s2t), .int (nI s2n), .int (nI s2l), .ref s2c])), (s2c, .inl (E.2.1 1, 48, .inl s2f)), (s3, .inr (9, [.int (nI s3t), .int (nI s3n), .int (nI s3l), .ref s3c])), (s3c, .inl (E.2.1 1, 48, .inl s3f))]) C hT [0, 1, 2, 3, 4, 5, 6, 7, 8, 9] (gqk (by eq_refl)) (ndk (by decide +kernel)) rfl rfl dX11_write_25 (Or.inr (Or.inl ⟨0, rfl, rfl, rfl, (by omega), rfl⟩))
      · refine ww_if_ne_t (tgt := 26) C dX11_write_20 (by decide) (by decide) ?_
        refine ww_iload_n C dX11_write_26 2 rfl rfl ?_
        refine ww_iconst (v := 0) C dX11_write_27 rfl ?_
        refine ww_aload_n C dX11_write_28 0 rfl rfl ?_
        refine ww_get C fg_X11_71 0 rfl rfl dX11_write_29 ?_
        refine ww_iload_n C dX11_write_32 1 rfl rfl ?_
        refine ww_ald (v := (some s0)) (t0 := 8) C 1 rfl rfl (vin rfl) k_fss_0 dX11_write_33 ?_
        refine ww_eq (st' := [.ref s0, .int 0, .int v1]) ?_ rfl rfl rfl
        refine ww_get C fg_X11_342 2 rfl rfl dX11_write_34 ?_
        refine ww_iconst (v := 1) C dX11_write_37 rfl ?_
        obtain ⟨x_9, ex_9⟩ : ∃ z : Int32, (nI s0n) - (1 : Int32) = z := ⟨_, rfl⟩
        have zx_9 : x_9.toInt = ((s0n : Nat) : Int) - 1 := by rw [← ex_9]; exact i_sub (nI_toInt (n := s0n) (by omega)) rfl (by omega) (by omega)
        refine ww_isub (v := x_9) C dX11_write_38 ex_9 ?_
        refine ww_ci (wr := [(hx, .inr (11, [.ref h, .ref qp, .int (nI ac), .int (nI np), .ref qs, .ref qj, .ref ly, .ref qh, .ref kk, .int (nI kc), .ref rd, .ref pg, .int (nI pe), .int kn, .ref ss])), (ss, .inl (E.2.1 8, 4, .inr (.inr (.inr (.inr fss))))), (s0, .inr (9, [.int 1, .int (nI s0n), .int (nI s0l), .ref s0c])), (s0c, .inl (E.2.1 1, 48, .inl s0f)), (s1, .inr (9, [.int (nI s1t), .int (nI s1n), .int (nI s1l), .ref s1c])), (s1c, .inl (E.2.1 1, 48, .inl s1f)), (s2, .inr (9, [.int (nI s2t), .int (nI s2n), .int (nI s2l), .ref s2c])), (s2c, .inl (E.2.1 1, 48, .inl s2f)), (s3, .inr (9, [.int (nI s3t), .int (nI s3n), .int (nI s3l), .ref s3c])), (s3c, .inl (E.2.1 1, 48, .inl s3f))]) (k' := 0) (n' := 0) C (run_S (As := [.int v1, .int 0, .int x_9]) (rest := []) C (c_within X.2.1 E ro v1 0 x_9 v1.toInt 0 (((s0n : Nat) : Int) - 1) rfl rfl zx_9) ms_X11_within wl_X11_76 rfl rfl rfl rfl dX11_write_39) (roK hro) [] [0, 1, 2, 3, 4, 5, 6, 7, 8, 9] rfl (gqk (by eq_refl)) (plk (by decide +kernel)) rfl (fun r_10 uz hw => ?_)
        rcases hw with hw | hw
        · refine an3 hw ?_
          clear hw
          intro he_13 he_14 h_11 hw
          have h_12 := hw
          clear hw
          have he_13 := he_13.symm
          subst he_13
          subst he_14
          refine ww_eq (ws' := [(hx, .inr (11, [.ref h, .ref qp, .int (nI ac), .int (nI np), .ref qs, .ref qj, .ref ly, .ref qh, .ref kk, .int (nI kc), .ref rd, .ref pg, .int (nI pe), .int kn, .ref ss])), (ss, .inl (E.2.1 8, 4, .inr (.inr (.inr (.inr fss))))), (s0, .inr (9, [.int 1, .int (nI s0n), .int (nI s0l), .ref s0c])), (s0c, .inl (E.2.1 1, 48, .inl s0f)), (s1, .inr (9, [.int (nI s1t), .int (nI s1n), .int (nI s1l), .ref s1c])), (s1c, .inl (E.2.1 1, 48, .inl s1f)), (s2, .inr (9, [.int (nI s2t), .int (nI s2n), .int (nI s2l), .ref s2c])), (s2c, .inl (E.2.1 1, 48, .inl s2f)), (s3, .inr (9, [.int (nI s3t), .int (nI s3n), .int (nI s3l), .ref s3c])), (s3c, .inl (E.2.1 1, 48, .inl s3f))]) ?_ rfl rfl rfl
          refine ww_if_ne_t (tgt := 48) C dX11_write_42 (by decide) (by decide) ?_
          obtain ⟨j_18, hj_18, rfl⟩ := i_nat (x := v1) (N := 47) (by omega) (by omega)
          have hzj_18 := nI_toInt (n := j_18) (by omega)
          refine ww_aload_n C dX11_write_48 0 rfl rfl ?_
          refine ww_get C fg_X11_71 0 rfl rfl dX11_write_49 ?_
          refine ww_iload_n C dX11_write_52 1 rfl rfl ?_
          refine ww_ald (v := (some s0)) (t0 := 8) C 1 rfl rfl (vin rfl) k_fss_0 dX11_write_53 ?_
          refine ww_eq (st' := [.ref s0]) ?_ rfl rfl rfl
          refine ww_iload_n C dX11_write_54 2 rfl rfl ?_
          refine ww_iload_n C dX11_write_55 3 rfl rfl ?_
          refine ww_cv (wr := [(hx, .inr (11, [.ref h, .ref qp, .int (nI ac), .int (nI np), .ref qs, .ref qj, .ref ly, .ref qh, .ref kk, .int (nI kc), .ref rd, .ref pg, .int (nI pe), .int kn, .ref ss])), (ss, .inl (E.2.1 8, 4, .inr (.inr (.inr (.inr fss))))), (s1, .inr (9, [.int (nI s1t), .int (nI s1n), .int (nI s1l), .ref s1c])), (s1c, .inl (E.2.1 1, 48, .inl s1f)), (s2, .inr (9, [.int (nI s2t), .int (nI s2n), .int (nI s2l), .ref s2c])), (s2c, .inl (E.2.1 1, 48, .inl s2f)), (s3, .inr (9, [.int (nI s3t), .int (nI s3n), .int (nI s3l), .ref s3c])), (s3c, .inl (E.2.1 1, 48, .inl s3f))]) (k' := 0) (n' := 0) C (run_V (As := [.int (nI j_18), .int v2]) (rest := []) C (s_put X.2.1 E ro s0 j_18 v2 s0n s0l s0c s0f (by omega) (by omega)) mi_X9_put wl_X11_343 rfl 0 9 rfl rfl rfl rfl rfl dX11_write_56) (roK hro) [2, 3] [0, 1, 4, 5, 6, 7, 8, 9] rfl (gqk (by eq_refl)) (plk (by decide +kernel)) rfl (fun uz hw => ?_)
          refine ex1 hw ?_
          clear hw
          intro f2_20 hw
          refine an1 hw ?_
          clear hw
          intro he_22 hw
          have h_21 := hw
          clear hw
          subst he_22
          refine ww_eq (ws' := [(hx, .inr (11, [.ref h, .ref qp, .int (nI ac), .int (nI np), .ref qs, .ref qj, .ref ly, .ref qh, .ref kk, .int (nI kc), .ref rd, .ref pg, .int (nI pe), .int kn, .ref ss])), (ss, .inl (E.2.1 8, 4, .inr (.inr (.inr (.inr fss))))), (s1, .inr (9, [.int (nI s1t), .int (nI s1n), .int (nI s1l), .ref s1c])), (s1c, .inl (E.2.1 1, 48, .inl s1f)), (s2, .inr (9, [.int (nI s2t), .int (nI s2n), .int (nI s2l), .ref s2c])), (s2c, .inl (E.2.1 1, 48, .inl s2f)), (s3, .inr (9, [.int (nI s3t), .int (nI s3n), .int (nI s3l), .ref s3c])), (s3c, .inl (E.2.1 1, 48, .inl s3f)), (s0, .inr (9, [.int 1, .int (nI s0n), .int (nI s0l), .ref s0c])), (s0c, .inl (E.2.1 1, 48, .inl f2_20))]) ?_ rfl rfl rfl
          refine ww_iconst (v := 1) C dX11_write_59 rfl ?_
          exact ww_iret (u := [(hx, .inr (11, [.ref h, .ref qp, .int (nI ac), .int (nI np), .ref qs, .ref qj, .ref ly, .ref qh, .ref kk, .int (nI kc), .ref rd, .ref pg, .int (nI pe), .int kn, .ref ss])), (ss, .inl (E.2.1 8, 4, .inr (.inr (.inr (.inr fss))))), (s0, .inr (9, [.int 1, .int (nI s0n), .int (nI s0l), .ref s0c])), (s0c, .inl (E.2.1 1, 48, .inl f2_20)), (s1, .inr (9, [.int (nI s1t), .int (nI s1n), .int (nI s1l), .ref s1c])), (s1c, .inl (E.2.1 1, 48, .inl s1f)), (s2, .inr (9, [.int (nI s2t), .int (nI s2n), .int (nI s2l), .ref s2c])), (s2c, .inl (E.2.1 1, 48, .inl s2f)), (s3, .inr (9, [.int (nI s3t), .int (nI s3n), .int (nI s3l), .ref s3c])), (s3c, .inl (E.2.1 1, 48, .inl s3f))]) C hT [0, 1, 8, 9, 2, 3, 4, 5, 6, 7] (gqk (by eq_refl)) (ndk (by decide +kernel)) rfl rfl dX11_write_60 (Or.inr (Or.inr (Or.inr ⟨0, j_18, f2_20, s1f, s2f, s3f, rfl, rfl, rfl, (by omega), rfl, (by simp only [pick4]; omega), rfl, (by omega), (fun i hi hne => by rcases (show i = 0 ∨ i = 1 ∨ i = 2 ∨ i = 3 by omega) with rfl | rfl | rfl | rfl <;> first | rfl | exact absurd rfl hne), h_21⟩)))
        · refine an2 hw ?_
          clear hw
          intro he_16 he_17 hw
          have h_15 := hw
          clear hw
          have he_16 := he_16.symm
          subst he_16
          subst he_17
          refine ww_eq (ws' := [(hx, .inr (11, [.ref h, .ref qp, .int (nI ac), .int (nI np), .ref qs, .ref qj, .ref ly, .ref qh, .ref kk, .int (nI kc), .ref rd, .ref pg, .int (nI pe), .int kn, .ref ss])), (ss, .inl (E.2.1 8, 4, .inr (.inr (.inr (.inr fss))))), (s0, .inr (9, [.int 1, .int (nI s0n), .int (nI s0l), .ref s0c])), (s0c, .inl (E.2.1 1, 48, .inl s0f)), (s1, .inr (9, [.int (nI s1t), .int (nI s1n), .int (nI s1l), .ref s1c])), (s1c, .inl (E.2.1 1, 48, .inl s1f)), (s2, .inr (9, [.int (nI s2t), .int (nI s2n), .int (nI s2l), .ref s2c])), (s2c, .inl (E.2.1 1, 48, .inl s2f)), (s3, .inr (9, [.int (nI s3t), .int (nI s3n), .int (nI s3l), .ref s3c])), (s3c, .inl (E.2.1 1, 48, .inl s3f))]) ?_ rfl rfl rfl
          refine ww_if_ne_f (tgt := 48) C dX11_write_42 (by decide) (rfl) ?_
          refine ww_bipush (v := (-12)) C dX11_write_45 rfl ?_
          exact ww_iret (u := [(hx, .inr (11, [.ref h, .ref qp, .int (nI ac), .int (nI np), .ref qs, .ref qj, .ref ly, .ref qh, .ref kk, .int (nI kc), .ref rd, .ref pg, .int (nI pe), .int kn, .ref ss])), (ss, .inl (E.2.1 8, 4, .inr (.inr (.inr (.inr fss))))), (s0, .inr (9, [.int 1, .int (nI s0n), .int (nI s0l), .ref s0c])), (s0c, .inl (E.2.1 1, 48, .inl s0f)), (s1, .inr (9, [.int (nI s1t), .int (nI s1n), .int (nI s1l), .ref s1c])), (s1c, .inl (E.2.1 1, 48, .inl s1f)), (s2, .inr (9, [.int (nI s2t), .int (nI s2n), .int (nI s2l), .ref s2c])), (s2c, .inl (E.2.1 1, 48, .inl s2f)), (s3, .inr (9, [.int (nI s3t), .int (nI s3n), .int (nI s3l), .ref s3c])), (s3c, .inl (E.2.1 1, 48, .inl s3f))]) C hT [0, 1, 2, 3, 4, 5, 6, 7, 8, 9] (gqk (by eq_refl)) (ndk (by decide +kernel)) rfl rfl dX11_write_47 (Or.inr (Or.inr (Or.inl ⟨0, rfl, rfl, rfl, (by omega), rfl, (by simp only [pick4]; omega)⟩)))
    · refine ww_iload_n C dX11_write_15 1 rfl rfl ?_
      refine ww_ald (v := (some s1)) (t0 := 8) C 1 rfl rfl (vin rfl) k_fss_1 dX11_write_16 ?_
      refine ww_eq (st' := [.ref s1]) ?_ rfl rfl rfl
      refine ww_get C fg_X11_338 4 rfl rfl dX11_write_17 ?_
      rcases (show s1t = 0 ∨ s1t = 1 by omega) with rfl | rfl
      · refine ww_if_ne_f (tgt := 26) C dX11_write_20 (by decide) (rfl) ?_
        refine ww_bipush (v := (-11)) C dX11_write_23 rfl ?_
        exact ww_iret (u := [(hx, .inr (11, [.ref h, .ref qp, .int (nI ac), .int (nI np), .ref qs, .ref qj, .ref ly, .ref qh, .ref kk, .int (nI kc), .ref rd, .ref pg, .int (nI pe), .int kn, .ref ss])), (ss, .inl (E.2.1 8, 4, .inr (.inr (.inr (.inr fss))))), (s0, .inr (9, [.int (nI s0t), .int (nI s0n), .int (nI s0l), .ref s0c])), (s0c, .inl (E.2.1 1, 48, .inl s0f)), (s1, .inr (9, [.int 0, .int (nI s1n), .int (nI s1l), .ref s1c])), (s1c, .inl (E.2.1 1, 48, .inl s1f)), (s2, .inr (9, [.int (nI s2t), .int (nI s2n), .int (nI s2l), .ref s2c])), (s2c, .inl (E.2.1 1, 48, .inl s2f)), (s3, .inr (9, [.int (nI s3t), .int (nI s3n), .int (nI s3l), .ref s3c])), (s3c, .inl (E.2.1 1, 48, .inl s3f))]) C hT [0, 1, 2, 3, 4, 5, 6, 7, 8, 9] (gqk (by eq_refl)) (ndk (by decide +kernel)) rfl rfl dX11_write_25 (Or.inr (Or.inl ⟨1, rfl, rfl, rfl, (by omega), rfl⟩))
      · refine ww_if_ne_t (tgt := 26) C dX11_write_20 (by decide) (by decide) ?_
        refine ww_iload_n C dX11_write_26 2 rfl rfl ?_
        refine ww_iconst (v := 0) C dX11_write_27 rfl ?_
        refine ww_aload_n C dX11_write_28 0 rfl rfl ?_
        refine ww_get C fg_X11_71 0 rfl rfl dX11_write_29 ?_
        refine ww_iload_n C dX11_write_32 1 rfl rfl ?_
        refine ww_ald (v := (some s1)) (t0 := 8) C 1 rfl rfl (vin rfl) k_fss_1 dX11_write_33 ?_
        refine ww_eq (st' := [.ref s1, .int 0, .int v1]) ?_ rfl rfl rfl
        refine ww_get C fg_X11_342 4 rfl rfl dX11_write_34 ?_
        refine ww_iconst (v := 1) C dX11_write_37 rfl ?_
        obtain ⟨x_23, ex_23⟩ : ∃ z : Int32, (nI s1n) - (1 : Int32) = z := ⟨_, rfl⟩
        have zx_23 : x_23.toInt = ((s1n : Nat) : Int) - 1 := by rw [← ex_23]; exact i_sub (nI_toInt (n := s1n) (by omega)) rfl (by omega) (by omega)
        refine ww_isub (v := x_23) C dX11_write_38 ex_23 ?_
        refine ww_ci (wr := [(hx, .inr (11, [.ref h, .ref qp, .int (nI ac), .int (nI np), .ref qs, .ref qj, .ref ly, .ref qh, .ref kk, .int (nI kc), .ref rd, .ref pg, .int (nI pe), .int kn, .ref ss])), (ss, .inl (E.2.1 8, 4, .inr (.inr (.inr (.inr fss))))), (s0, .inr (9, [.int (nI s0t), .int (nI s0n), .int (nI s0l), .ref s0c])), (s0c, .inl (E.2.1 1, 48, .inl s0f)), (s1, .inr (9, [.int 1, .int (nI s1n), .int (nI s1l), .ref s1c])), (s1c, .inl (E.2.1 1, 48, .inl s1f)), (s2, .inr (9, [.int (nI s2t), .int (nI s2n), .int (nI s2l), .ref s2c])), (s2c, .inl (E.2.1 1, 48, .inl s2f)), (s3, .inr (9, [.int (nI s3t), .int (nI s3n), .int (nI s3l), .ref s3c])), (s3c, .inl (E.2.1 1, 48, .inl s3f))]) (k' := 0) (n' := 0) C (run_S (As := [.int v1, .int 0, .int x_23]) (rest := []) C (c_within X.2.1 E ro v1 0 x_23 v1.toInt 0 (((s1n : Nat) : Int) - 1) rfl rfl zx_23) ms_X11_within wl_X11_76 rfl rfl rfl rfl dX11_write_39) (roK hro) [] [0, 1, 2, 3, 4, 5, 6, 7, 8, 9] rfl (gqk (by eq_refl)) (plk (by decide +kernel)) rfl (fun r_24 uz hw => ?_)
        rcases hw with hw | hw
        · refine an3 hw ?_
          clear hw
          intro he_27 he_28 h_25 hw
          have h_26 := hw
          clear hw
          have he_27 := he_27.symm
          subst he_27
          subst he_28
          refine ww_eq (ws' := [(hx, .inr (11, [.ref h, .ref qp, .int (nI ac), .int (nI np), .ref qs, .ref qj, .ref ly, .ref qh, .ref kk, .int (nI kc), .ref rd, .ref pg, .int (nI pe), .int kn, .ref ss])), (ss, .inl (E.2.1 8, 4, .inr (.inr (.inr (.inr fss))))), (s0, .inr (9, [.int (nI s0t), .int (nI s0n), .int (nI s0l), .ref s0c])), (s0c, .inl (E.2.1 1, 48, .inl s0f)), (s1, .inr (9, [.int 1, .int (nI s1n), .int (nI s1l), .ref s1c])), (s1c, .inl (E.2.1 1, 48, .inl s1f)), (s2, .inr (9, [.int (nI s2t), .int (nI s2n), .int (nI s2l), .ref s2c])), (s2c, .inl (E.2.1 1, 48, .inl s2f)), (s3, .inr (9, [.int (nI s3t), .int (nI s3n), .int (nI s3l), .ref s3c])), (s3c, .inl (E.2.1 1, 48, .inl s3f))]) ?_ rfl rfl rfl
          refine ww_if_ne_t (tgt := 48) C dX11_write_42 (by decide) (by decide) ?_
          obtain ⟨j_32, hj_32, rfl⟩ := i_nat (x := v1) (N := 47) (by omega) (by omega)
          have hzj_32 := nI_toInt (n := j_32) (by omega)
          refine ww_aload_n C dX11_write_48 0 rfl rfl ?_
          refine ww_get C fg_X11_71 0 rfl rfl dX11_write_49 ?_
          refine ww_iload_n C dX11_write_52 1 rfl rfl ?_
          refine ww_ald (v := (some s1)) (t0 := 8) C 1 rfl rfl (vin rfl) k_fss_1 dX11_write_53 ?_
          refine ww_eq (st' := [.ref s1]) ?_ rfl rfl rfl
          refine ww_iload_n C dX11_write_54 2 rfl rfl ?_
          refine ww_iload_n C dX11_write_55 3 rfl rfl ?_
          refine ww_cv (wr := [(hx, .inr (11, [.ref h, .ref qp, .int (nI ac), .int (nI np), .ref qs, .ref qj, .ref ly, .ref qh, .ref kk, .int (nI kc), .ref rd, .ref pg, .int (nI pe), .int kn, .ref ss])), (ss, .inl (E.2.1 8, 4, .inr (.inr (.inr (.inr fss))))), (s0, .inr (9, [.int (nI s0t), .int (nI s0n), .int (nI s0l), .ref s0c])), (s0c, .inl (E.2.1 1, 48, .inl s0f)), (s2, .inr (9, [.int (nI s2t), .int (nI s2n), .int (nI s2l), .ref s2c])), (s2c, .inl (E.2.1 1, 48, .inl s2f)), (s3, .inr (9, [.int (nI s3t), .int (nI s3n), .int (nI s3l), .ref s3c])), (s3c, .inl (E.2.1 1, 48, .inl s3f))]) (k' := 0) (n' := 0) C (run_V (As := [.int (nI j_32), .int v2]) (rest := []) C (s_put X.2.1 E ro s1 j_32 v2 s1n s1l s1c s1f (by omega) (by omega)) mi_X9_put wl_X11_343 rfl 0 9 rfl rfl rfl rfl rfl dX11_write_56) (roK hro) [4, 5] [0, 1, 2, 3, 6, 7, 8, 9] rfl (gqk (by eq_refl)) (plk (by decide +kernel)) rfl (fun uz hw => ?_)
          refine ex1 hw ?_
          clear hw
          intro f2_34 hw
          refine an1 hw ?_
          clear hw
          intro he_36 hw
          have h_35 := hw
          clear hw
          subst he_36
          refine ww_eq (ws' := [(hx, .inr (11, [.ref h, .ref qp, .int (nI ac), .int (nI np), .ref qs, .ref qj, .ref ly, .ref qh, .ref kk, .int (nI kc), .ref rd, .ref pg, .int (nI pe), .int kn, .ref ss])), (ss, .inl (E.2.1 8, 4, .inr (.inr (.inr (.inr fss))))), (s0, .inr (9, [.int (nI s0t), .int (nI s0n), .int (nI s0l), .ref s0c])), (s0c, .inl (E.2.1 1, 48, .inl s0f)), (s2, .inr (9, [.int (nI s2t), .int (nI s2n), .int (nI s2l), .ref s2c])), (s2c, .inl (E.2.1 1, 48, .inl s2f)), (s3, .inr (9, [.int (nI s3t), .int (nI s3n), .int (nI s3l), .ref s3c])), (s3c, .inl (E.2.1 1, 48, .inl s3f)), (s1, .inr (9, [.int 1, .int (nI s1n), .int (nI s1l), .ref s1c])), (s1c, .inl (E.2.1 1, 48, .inl f2_34))]) ?_ rfl rfl rfl
          refine ww_iconst (v := 1) C dX11_write_59 rfl ?_
          exact ww_iret (u := [(hx, .inr (11, [.ref h, .ref qp, .int (nI ac), .int (nI np), .ref qs, .ref qj, .ref ly, .ref qh, .ref kk, .int (nI kc), .ref rd, .ref pg, .int (nI pe), .int kn, .ref ss])), (ss, .inl (E.2.1 8, 4, .inr (.inr (.inr (.inr fss))))), (s0, .inr (9, [.int (nI s0t), .int (nI s0n), .int (nI s0l), .ref s0c])), (s0c, .inl (E.2.1 1, 48, .inl s0f)), (s1, .inr (9, [.int 1, .int (nI s1n), .int (nI s1l), .ref s1c])), (s1c, .inl (E.2.1 1, 48, .inl f2_34)), (s2, .inr (9, [.int (nI s2t), .int (nI s2n), .int (nI s2l), .ref s2c])), (s2c, .inl (E.2.1 1, 48, .inl s2f)), (s3, .inr (9, [.int (nI s3t), .int (nI s3n), .int (nI s3l), .ref s3c])), (s3c, .inl (E.2.1 1, 48, .inl s3f))]) C hT [0, 1, 2, 3, 8, 9, 4, 5, 6, 7] (gqk (by eq_refl)) (ndk (by decide +kernel)) rfl rfl dX11_write_60 (Or.inr (Or.inr (Or.inr ⟨1, j_32, s0f, f2_34, s2f, s3f, rfl, rfl, rfl, (by omega), rfl, (by simp only [pick4]; omega), rfl, (by omega), (fun i hi hne => by rcases (show i = 0 ∨ i = 1 ∨ i = 2 ∨ i = 3 by omega) with rfl | rfl | rfl | rfl <;> first | rfl | exact absurd rfl hne), h_35⟩)))
        · refine an2 hw ?_
          clear hw
          intro he_30 he_31 hw
          have h_29 := hw
          clear hw
          have he_30 := he_30.symm
          subst he_30
          subst he_31
          refine ww_eq (ws' := [(hx, .inr (11, [.ref h, .ref qp, .int (nI ac), .int (nI np), .ref qs, .ref qj, .ref ly, .ref qh, .ref kk, .int (nI kc), .ref rd, .ref pg, .int (nI pe), .int kn, .ref ss])), (ss, .inl (E.2.1 8, 4, .inr (.inr (.inr (.inr fss))))), (s0, .inr (9, [.int (nI s0t), .int (nI s0n), .int (nI s0l), .ref s0c])), (s0c, .inl (E.2.1 1, 48, .inl s0f)), (s1, .inr (9, [.int 1, .int (nI s1n), .int (nI s1l), .ref s1c])), (s1c, .inl (E.2.1 1, 48, .inl s1f)), (s2, .inr (9, [.int (nI s2t), .int (nI s2n), .int (nI s2l), .ref s2c])), (s2c, .inl (E.2.1 1, 48, .inl s2f)), (s3, .inr (9, [.int (nI s3t), .int (nI s3n), .int (nI s3l), .ref s3c])), (s3c, .inl (E.2.1 1, 48, .inl s3f))]) ?_ rfl rfl rfl
          refine ww_if_ne_f (tgt := 48) C dX11_write_42 (by decide) (rfl) ?_
          refine ww_bipush (v := (-12)) C dX11_write_45 rfl ?_
          exact ww_iret (u := [(hx, .inr (11, [.ref h, .ref qp, .int (nI ac), .int (nI np), .ref qs, .ref qj, .ref ly, .ref qh, .ref kk, .int (nI kc), .ref rd, .ref pg, .int (nI pe), .int kn, .ref ss])), (ss, .inl (E.2.1 8, 4, .inr (.inr (.inr (.inr fss))))), (s0, .inr (9, [.int (nI s0t), .int (nI s0n), .int (nI s0l), .ref s0c])), (s0c, .inl (E.2.1 1, 48, .inl s0f)), (s1, .inr (9, [.int 1, .int (nI s1n), .int (nI s1l), .ref s1c])), (s1c, .inl (E.2.1 1, 48, .inl s1f)), (s2, .inr (9, [.int (nI s2t), .int (nI s2n), .int (nI s2l), .ref s2c])), (s2c, .inl (E.2.1 1, 48, .inl s2f)), (s3, .inr (9, [.int (nI s3t), .int (nI s3n), .int (nI s3l), .ref s3c])), (s3c, .inl (E.2.1 1, 48, .inl s3f))]) C hT [0, 1, 2, 3, 4, 5, 6, 7, 8, 9] (gqk (by eq_refl)) (ndk (by decide +kernel)) rfl rfl dX11_write_47 (Or.inr (Or.inr (Or.inl ⟨1, rfl, rfl, rfl, (by omega), rfl, (by simp only [pick4]; omega)⟩)))
    · refine ww_iload_n C dX11_write_15 1 rfl rfl ?_
      refine ww_ald (v := (some s2)) (t0 := 8) C 1 rfl rfl (vin rfl) k_fss_2 dX11_write_16 ?_
      refine ww_eq (st' := [.ref s2]) ?_ rfl rfl rfl
      refine ww_get C fg_X11_338 6 rfl rfl dX11_write_17 ?_
      rcases (show s2t = 0 ∨ s2t = 1 by omega) with rfl | rfl
      · refine ww_if_ne_f (tgt := 26) C dX11_write_20 (by decide) (rfl) ?_
        refine ww_bipush (v := (-11)) C dX11_write_23 rfl ?_
        exact ww_iret (u := [(hx, .inr (11, [.ref h, .ref qp, .int (nI ac), .int (nI np), .ref qs, .ref qj, .ref ly, .ref qh, .ref kk, .int (nI kc), .ref rd, .ref pg, .int (nI pe), .int kn, .ref ss])), (ss, .inl (E.2.1 8, 4, .inr (.inr (.inr (.inr fss))))), (s0, .inr (9, [.int (nI s0t), .int (nI s0n), .int (nI s0l), .ref s0c])), (s0c, .inl (E.2.1 1, 48, .inl s0f)), (s1, .inr (9, [.int (nI s1t), .int (nI s1n), .int (nI s1l), .ref s1c])), (s1c, .inl (E.2.1 1, 48, .inl s1f)), (s2, .inr (9, [.int 0, .int (nI s2n), .int (nI s2l), .ref s2c])), (s2c, .inl (E.2.1 1, 48, .inl s2f)), (s3, .inr (9, [.int (nI s3t), .int (nI s3n), .int (nI s3l), .ref s3c])), (s3c, .inl (E.2.1 1, 48, .inl s3f))]) C hT [0, 1, 2, 3, 4, 5, 6, 7, 8, 9] (gqk (by eq_refl)) (ndk (by decide +kernel)) rfl rfl dX11_write_25 (Or.inr (Or.inl ⟨2, rfl, rfl, rfl, (by omega), rfl⟩))
      · refine ww_if_ne_t (tgt := 26) C dX11_write_20 (by decide) (by decide) ?_
        refine ww_iload_n C dX11_write_26 2 rfl rfl ?_
        refine ww_iconst (v := 0) C dX11_write_27 rfl ?_
        refine ww_aload_n C dX11_write_28 0 rfl rfl ?_
        refine ww_get C fg_X11_71 0 rfl rfl dX11_write_29 ?_
        refine ww_iload_n C dX11_write_32 1 rfl rfl ?_
        refine ww_ald (v := (some s2)) (t0 := 8) C 1 rfl rfl (vin rfl) k_fss_2 dX11_write_33 ?_
        refine ww_eq (st' := [.ref s2, .int 0, .int v1]) ?_ rfl rfl rfl
        refine ww_get C fg_X11_342 6 rfl rfl dX11_write_34 ?_
        refine ww_iconst (v := 1) C dX11_write_37 rfl ?_
        obtain ⟨x_37, ex_37⟩ : ∃ z : Int32, (nI s2n) - (1 : Int32) = z := ⟨_, rfl⟩
        have zx_37 : x_37.toInt = ((s2n : Nat) : Int) - 1 := by rw [← ex_37]; exact i_sub (nI_toInt (n := s2n) (by omega)) rfl (by omega) (by omega)
        refine ww_isub (v := x_37) C dX11_write_38 ex_37 ?_
        refine ww_ci (wr := [(hx, .inr (11, [.ref h, .ref qp, .int (nI ac), .int (nI np), .ref qs, .ref qj, .ref ly, .ref qh, .ref kk, .int (nI kc), .ref rd, .ref pg, .int (nI pe), .int kn, .ref ss])), (ss, .inl (E.2.1 8, 4, .inr (.inr (.inr (.inr fss))))), (s0, .inr (9, [.int (nI s0t), .int (nI s0n), .int (nI s0l), .ref s0c])), (s0c, .inl (E.2.1 1, 48, .inl s0f)), (s1, .inr (9, [.int (nI s1t), .int (nI s1n), .int (nI s1l), .ref s1c])), (s1c, .inl (E.2.1 1, 48, .inl s1f)), (s2, .inr (9, [.int 1, .int (nI s2n), .int (nI s2l), .ref s2c])), (s2c, .inl (E.2.1 1, 48, .inl s2f)), (s3, .inr (9, [.int (nI s3t), .int (nI s3n), .int (nI s3l), .ref s3c])), (s3c, .inl (E.2.1 1, 48, .inl s3f))]) (k' := 0) (n' := 0) C (run_S (As := [.int v1, .int 0, .int x_37]) (rest := []) C (c_within X.2.1 E ro v1 0 x_37 v1.toInt 0 (((s2n : Nat) : Int) - 1) rfl rfl zx_37) ms_X11_within wl_X11_76 rfl rfl rfl rfl dX11_write_39) (roK hro) [] [0, 1, 2, 3, 4, 5, 6, 7, 8, 9] rfl (gqk (by eq_refl)) (plk (by decide +kernel)) rfl (fun r_38 uz hw => ?_)
        rcases hw with hw | hw
        · refine an3 hw ?_
          clear hw
          intro he_41 he_42 h_39 hw
          have h_40 := hw
          clear hw
          have he_41 := he_41.symm
          subst he_41
          subst he_42
          refine ww_eq (ws' := [(hx, .inr (11, [.ref h, .ref qp, .int (nI ac), .int (nI np), .ref qs, .ref qj, .ref ly, .ref qh, .ref kk, .int (nI kc), .ref rd, .ref pg, .int (nI pe), .int kn, .ref ss])), (ss, .inl (E.2.1 8, 4, .inr (.inr (.inr (.inr fss))))), (s0, .inr (9, [.int (nI s0t), .int (nI s0n), .int (nI s0l), .ref s0c])), (s0c, .inl (E.2.1 1, 48, .inl s0f)), (s1, .inr (9, [.int (nI s1t), .int (nI s1n), .int (nI s1l), .ref s1c])), (s1c, .inl (E.2.1 1, 48, .inl s1f)), (s2, .inr (9, [.int 1, .int (nI s2n), .int (nI s2l), .ref s2c])), (s2c, .inl (E.2.1 1, 48, .inl s2f)), (s3, .inr (9, [.int (nI s3t), .int (nI s3n), .int (nI s3l), .ref s3c])), (s3c, .inl (E.2.1 1, 48, .inl s3f))]) ?_ rfl rfl rfl
          refine ww_if_ne_t (tgt := 48) C dX11_write_42 (by decide) (by decide) ?_
          obtain ⟨j_46, hj_46, rfl⟩ := i_nat (x := v1) (N := 47) (by omega) (by omega)
          have hzj_46 := nI_toInt (n := j_46) (by omega)
          refine ww_aload_n C dX11_write_48 0 rfl rfl ?_
          refine ww_get C fg_X11_71 0 rfl rfl dX11_write_49 ?_
          refine ww_iload_n C dX11_write_52 1 rfl rfl ?_
          refine ww_ald (v := (some s2)) (t0 := 8) C 1 rfl rfl (vin rfl) k_fss_2 dX11_write_53 ?_
          refine ww_eq (st' := [.ref s2]) ?_ rfl rfl rfl
          refine ww_iload_n C dX11_write_54 2 rfl rfl ?_
          refine ww_iload_n C dX11_write_55 3 rfl rfl ?_
          refine ww_cv (wr := [(hx, .inr (11, [.ref h, .ref qp, .int (nI ac), .int (nI np), .ref qs, .ref qj, .ref ly, .ref qh, .ref kk, .int (nI kc), .ref rd, .ref pg, .int (nI pe), .int kn, .ref ss])), (ss, .inl (E.2.1 8, 4, .inr (.inr (.inr (.inr fss))))), (s0, .inr (9, [.int (nI s0t), .int (nI s0n), .int (nI s0l), .ref s0c])), (s0c, .inl (E.2.1 1, 48, .inl s0f)), (s1, .inr (9, [.int (nI s1t), .int (nI s1n), .int (nI s1l), .ref s1c])), (s1c, .inl (E.2.1 1, 48, .inl s1f)), (s3, .inr (9, [.int (nI s3t), .int (nI s3n), .int (nI s3l), .ref s3c])), (s3c, .inl (E.2.1 1, 48, .inl s3f))]) (k' := 0) (n' := 0) C (run_V (As := [.int (nI j_46), .int v2]) (rest := []) C (s_put X.2.1 E ro s2 j_46 v2 s2n s2l s2c s2f (by omega) (by omega)) mi_X9_put wl_X11_343 rfl 0 9 rfl rfl rfl rfl rfl dX11_write_56) (roK hro) [6, 7] [0, 1, 2, 3, 4, 5, 8, 9] rfl (gqk (by eq_refl)) (plk (by decide +kernel)) rfl (fun uz hw => ?_)
          refine ex1 hw ?_
          clear hw
          intro f2_48 hw
          refine an1 hw ?_
          clear hw
          intro he_50 hw
          have h_49 := hw
          clear hw
          subst he_50
          refine ww_eq (ws' := [(hx, .inr (11, [.ref h, .ref qp, .int (nI ac), .int (nI np), .ref qs, .ref qj, .ref ly, .ref qh, .ref kk, .int (nI kc), .ref rd, .ref pg, .int (nI pe), .int kn, .ref ss])), (ss, .inl (E.2.1 8, 4, .inr (.inr (.inr (.inr fss))))), (s0, .inr (9, [.int (nI s0t), .int (nI s0n), .int (nI s0l), .ref s0c])), (s0c, .inl (E.2.1 1, 48, .inl s0f)), (s1, .inr (9, [.int (nI s1t), .int (nI s1n), .int (nI s1l), .ref s1c])), (s1c, .inl (E.2.1 1, 48, .inl s1f)), (s3, .inr (9, [.int (nI s3t), .int (nI s3n), .int (nI s3l), .ref s3c])), (s3c, .inl (E.2.1 1, 48, .inl s3f)), (s2, .inr (9, [.int 1, .int (nI s2n), .int (nI s2l), .ref s2c])), (s2c, .inl (E.2.1 1, 48, .inl f2_48))]) ?_ rfl rfl rfl
          refine ww_iconst (v := 1) C dX11_write_59 rfl ?_
          exact ww_iret (u := [(hx, .inr (11, [.ref h, .ref qp, .int (nI ac), .int (nI np), .ref qs, .ref qj, .ref ly, .ref qh, .ref kk, .int (nI kc), .ref rd, .ref pg, .int (nI pe), .int kn, .ref ss])), (ss, .inl (E.2.1 8, 4, .inr (.inr (.inr (.inr fss))))), (s0, .inr (9, [.int (nI s0t), .int (nI s0n), .int (nI s0l), .ref s0c])), (s0c, .inl (E.2.1 1, 48, .inl s0f)), (s1, .inr (9, [.int (nI s1t), .int (nI s1n), .int (nI s1l), .ref s1c])), (s1c, .inl (E.2.1 1, 48, .inl s1f)), (s2, .inr (9, [.int 1, .int (nI s2n), .int (nI s2l), .ref s2c])), (s2c, .inl (E.2.1 1, 48, .inl f2_48)), (s3, .inr (9, [.int (nI s3t), .int (nI s3n), .int (nI s3l), .ref s3c])), (s3c, .inl (E.2.1 1, 48, .inl s3f))]) C hT [0, 1, 2, 3, 4, 5, 8, 9, 6, 7] (gqk (by eq_refl)) (ndk (by decide +kernel)) rfl rfl dX11_write_60 (Or.inr (Or.inr (Or.inr ⟨2, j_46, s0f, s1f, f2_48, s3f, rfl, rfl, rfl, (by omega), rfl, (by simp only [pick4]; omega), rfl, (by omega), (fun i hi hne => by rcases (show i = 0 ∨ i = 1 ∨ i = 2 ∨ i = 3 by omega) with rfl | rfl | rfl | rfl <;> first | rfl | exact absurd rfl hne), h_49⟩)))
        · refine an2 hw ?_
          clear hw
          intro he_44 he_45 hw
          have h_43 := hw
          clear hw
          have he_44 := he_44.symm
          subst he_44
          subst he_45
          refine ww_eq (ws' := [(hx, .inr (11, [.ref h, .ref qp, .int (nI ac), .int (nI np), .ref qs, .ref qj, .ref ly, .ref qh, .ref kk, .int (nI kc), .ref rd, .ref pg, .int (nI pe), .int kn, .ref ss])), (ss, .inl (E.2.1 8, 4, .inr (.inr (.inr (.inr fss))))), (s0, .inr (9, [.int (nI s0t), .int (nI s0n), .int (nI s0l), .ref s0c])), (s0c, .inl (E.2.1 1, 48, .inl s0f)), (s1, .inr (9, [.int (nI s1t), .int (nI s1n), .int (nI s1l), .ref s1c])), (s1c, .inl (E.2.1 1, 48, .inl s1f)), (s2, .inr (9, [.int 1, .int (nI s2n), .int (nI s2l), .ref s2c])), (s2c, .inl (E.2.1 1, 48, .inl s2f)), (s3, .inr (9, [.int (nI s3t), .int (nI s3n), .int (nI s3l), .ref s3c])), (s3c, .inl (E.2.1 1, 48, .inl s3f))]) ?_ rfl rfl rfl
          refine ww_if_ne_f (tgt := 48) C dX11_write_42 (by decide) (rfl) ?_
          refine ww_bipush (v := (-12)) C dX11_write_45 rfl ?_
          exact ww_iret (u := [(hx, .inr (11, [.ref h, .ref qp, .int (nI ac), .int (nI np), .ref qs, .ref qj, .ref ly, .ref qh, .ref kk, .int (nI kc), .ref rd, .ref pg, .int (nI pe), .int kn, .ref ss])), (ss, .inl (E.2.1 8, 4, .inr (.inr (.inr (.inr fss))))), (s0, .inr (9, [.int (nI s0t), .int (nI s0n), .int (nI s0l), .ref s0c])), (s0c, .inl (E.2.1 1, 48, .inl s0f)), (s1, .inr (9, [.int (nI s1t), .int (nI s1n), .int (nI s1l), .ref s1c])), (s1c, .inl (E.2.1 1, 48, .inl s1f)), (s2, .inr (9, [.int 1, .int (nI s2n), .int (nI s2l), .ref s2c])), (s2c, .inl (E.2.1 1, 48, .inl s2f)), (s3, .inr (9, [.int (nI s3t), .int (nI s3n), .int (nI s3l), .ref s3c])), (s3c, .inl (E.2.1 1, 48, .inl s3f))]) C hT [0, 1, 2, 3, 4, 5, 6, 7, 8, 9] (gqk (by eq_refl)) (ndk (by decide +kernel)) rfl rfl dX11_write_47 (Or.inr (Or.inr (Or.inl ⟨2, rfl, rfl, rfl, (by omega), rfl, (by simp only [pick4]; omega)⟩)))
    · refine ww_iload_n C dX11_write_15 1 rfl rfl ?_
      refine ww_ald (v := (some s3)) (t0 := 8) C 1 rfl rfl (vin rfl) k_fss_3 dX11_write_16 ?_
      refine ww_eq (st' := [.ref s3]) ?_ rfl rfl rfl
      refine ww_get C fg_X11_338 8 rfl rfl dX11_write_17 ?_
      rcases (show s3t = 0 ∨ s3t = 1 by omega) with rfl | rfl
      · refine ww_if_ne_f (tgt := 26) C dX11_write_20 (by decide) (rfl) ?_
        refine ww_bipush (v := (-11)) C dX11_write_23 rfl ?_
        exact ww_iret (u := [(hx, .inr (11, [.ref h, .ref qp, .int (nI ac), .int (nI np), .ref qs, .ref qj, .ref ly, .ref qh, .ref kk, .int (nI kc), .ref rd, .ref pg, .int (nI pe), .int kn, .ref ss])), (ss, .inl (E.2.1 8, 4, .inr (.inr (.inr (.inr fss))))), (s0, .inr (9, [.int (nI s0t), .int (nI s0n), .int (nI s0l), .ref s0c])), (s0c, .inl (E.2.1 1, 48, .inl s0f)), (s1, .inr (9, [.int (nI s1t), .int (nI s1n), .int (nI s1l), .ref s1c])), (s1c, .inl (E.2.1 1, 48, .inl s1f)), (s2, .inr (9, [.int (nI s2t), .int (nI s2n), .int (nI s2l), .ref s2c])), (s2c, .inl (E.2.1 1, 48, .inl s2f)), (s3, .inr (9, [.int 0, .int (nI s3n), .int (nI s3l), .ref s3c])), (s3c, .inl (E.2.1 1, 48, .inl s3f))]) C hT [0, 1, 2, 3, 4, 5, 6, 7, 8, 9] (gqk (by eq_refl)) (ndk (by decide +kernel)) rfl rfl dX11_write_25 (Or.inr (Or.inl ⟨3, rfl, rfl, rfl, (by omega), rfl⟩))
      · refine ww_if_ne_t (tgt := 26) C dX11_write_20 (by decide) (by decide) ?_
        refine ww_iload_n C dX11_write_26 2 rfl rfl ?_
        refine ww_iconst (v := 0) C dX11_write_27 rfl ?_
        refine ww_aload_n C dX11_write_28 0 rfl rfl ?_
        refine ww_get C fg_X11_71 0 rfl rfl dX11_write_29 ?_
        refine ww_iload_n C dX11_write_32 1 rfl rfl ?_
        refine ww_ald (v := (some s3)) (t0 := 8) C 1 rfl rfl (vin rfl) k_fss_3 dX11_write_33 ?_
        refine ww_eq (st' := [.ref s3, .int 0, .int v1]) ?_ rfl rfl rfl
        refine ww_get C fg_X11_342 8 rfl rfl dX11_write_34 ?_
        refine ww_iconst (v := 1) C dX11_write_37 rfl ?_
        obtain ⟨x_51, ex_51⟩ : ∃ z : Int32, (nI s3n) - (1 : Int32) = z := ⟨_, rfl⟩
        have zx_51 : x_51.toInt = ((s3n : Nat) : Int) - 1 := by rw [← ex_51]; exact i_sub (nI_toInt (n := s3n) (by omega)) rfl (by omega) (by omega)
        refine ww_isub (v := x_51) C dX11_write_38 ex_51 ?_
        refine ww_ci (wr := [(hx, .inr (11, [.ref h, .ref qp, .int (nI ac), .int (nI np), .ref qs, .ref qj, .ref ly, .ref qh, .ref kk, .int (nI kc), .ref rd, .ref pg, .int (nI pe), .int kn, .ref ss])), (ss, .inl (E.2.1 8, 4, .inr (.inr (.inr (.inr fss))))), (s0, .inr (9, [.int (nI s0t), .int (nI s0n), .int (nI s0l), .ref s0c])), (s0c, .inl (E.2.1 1, 48, .inl s0f)), (s1, .inr (9, [.int (nI s1t), .int (nI s1n), .int (nI s1l), .ref s1c])), (s1c, .inl (E.2.1 1, 48, .inl s1f)), (s2, .inr (9, [.int (nI s2t), .int (nI s2n), .int (nI s2l), .ref s2c])), (s2c, .inl (E.2.1 1, 48, .inl s2f)), (s3, .inr (9, [.int 1, .int (nI s3n), .int (nI s3l), .ref s3c])), (s3c, .inl (E.2.1 1, 48, .inl s3f))]) (k' := 0) (n' := 0) C (run_S (As := [.int v1, .int 0, .int x_51]) (rest := []) C (c_within X.2.1 E ro v1 0 x_51 v1.toInt 0 (((s3n : Nat) : Int) - 1) rfl rfl zx_51) ms_X11_within wl_X11_76 rfl rfl rfl rfl dX11_write_39) (roK hro) [] [0, 1, 2, 3, 4, 5, 6, 7, 8, 9] rfl (gqk (by eq_refl)) (plk (by decide +kernel)) rfl (fun r_52 uz hw => ?_)
        rcases hw with hw | hw
        · refine an3 hw ?_
          clear hw
          intro he_55 he_56 h_53 hw
          have h_54 := hw
          clear hw
          have he_55 := he_55.symm
          subst he_55
          subst he_56
          refine ww_eq (ws' := [(hx, .inr (11, [.ref h, .ref qp, .int (nI ac), .int (nI np), .ref qs, .ref qj, .ref ly, .ref qh, .ref kk, .int (nI kc), .ref rd, .ref pg, .int (nI pe), .int kn, .ref ss])), (ss, .inl (E.2.1 8, 4, .inr (.inr (.inr (.inr fss))))), (s0, .inr (9, [.int (nI s0t), .int (nI s0n), .int (nI s0l), .ref s0c])), (s0c, .inl (E.2.1 1, 48, .inl s0f)), (s1, .inr (9, [.int (nI s1t), .int (nI s1n), .int (nI s1l), .ref s1c])), (s1c, .inl (E.2.1 1, 48, .inl s1f)), (s2, .inr (9, [.int (nI s2t), .int (nI s2n), .int (nI s2l), .ref s2c])), (s2c, .inl (E.2.1 1, 48, .inl s2f)), (s3, .inr (9, [.int 1, .int (nI s3n), .int (nI s3l), .ref s3c])), (s3c, .inl (E.2.1 1, 48, .inl s3f))]) ?_ rfl rfl rfl
          refine ww_if_ne_t (tgt := 48) C dX11_write_42 (by decide) (by decide) ?_
          obtain ⟨j_60, hj_60, rfl⟩ := i_nat (x := v1) (N := 47) (by omega) (by omega)
          have hzj_60 := nI_toInt (n := j_60) (by omega)
          refine ww_aload_n C dX11_write_48 0 rfl rfl ?_
          refine ww_get C fg_X11_71 0 rfl rfl dX11_write_49 ?_
          refine ww_iload_n C dX11_write_52 1 rfl rfl ?_
          refine ww_ald (v := (some s3)) (t0 := 8) C 1 rfl rfl (vin rfl) k_fss_3 dX11_write_53 ?_
          refine ww_eq (st' := [.ref s3]) ?_ rfl rfl rfl
          refine ww_iload_n C dX11_write_54 2 rfl rfl ?_
          refine ww_iload_n C dX11_write_55 3 rfl rfl ?_
          refine ww_cv (wr := [(hx, .inr (11, [.ref h, .ref qp, .int (nI ac), .int (nI np), .ref qs, .ref qj, .ref ly, .ref qh, .ref kk, .int (nI kc), .ref rd, .ref pg, .int (nI pe), .int kn, .ref ss])), (ss, .inl (E.2.1 8, 4, .inr (.inr (.inr (.inr fss))))), (s0, .inr (9, [.int (nI s0t), .int (nI s0n), .int (nI s0l), .ref s0c])), (s0c, .inl (E.2.1 1, 48, .inl s0f)), (s1, .inr (9, [.int (nI s1t), .int (nI s1n), .int (nI s1l), .ref s1c])), (s1c, .inl (E.2.1 1, 48, .inl s1f)), (s2, .inr (9, [.int (nI s2t), .int (nI s2n), .int (nI s2l), .ref s2c])), (s2c, .inl (E.2.1 1, 48, .inl s2f))]) (k' := 0) (n' := 0) C (run_V (As := [.int (nI j_60), .int v2]) (rest := []) C (s_put X.2.1 E ro s3 j_60 v2 s3n s3l s3c s3f (by omega) (by omega)) mi_X9_put wl_X11_343 rfl 0 9 rfl rfl rfl rfl rfl dX11_write_56) (roK hro) [8, 9] [0, 1, 2, 3, 4, 5, 6, 7] rfl (gqk (by eq_refl)) (plk (by decide +kernel)) rfl (fun uz hw => ?_)
          refine ex1 hw ?_
          clear hw
          intro f2_62 hw
          refine an1 hw ?_
          clear hw
          intro he_64 hw
          have h_63 := hw
          clear hw
          subst he_64
          refine ww_eq (ws' := [(hx, .inr (11, [.ref h, .ref qp, .int (nI ac), .int (nI np), .ref qs, .ref qj, .ref ly, .ref qh, .ref kk, .int (nI kc), .ref rd, .ref pg, .int (nI pe), .int kn, .ref ss])), (ss, .inl (E.2.1 8, 4, .inr (.inr (.inr (.inr fss))))), (s0, .inr (9, [.int (nI s0t), .int (nI s0n), .int (nI s0l), .ref s0c])), (s0c, .inl (E.2.1 1, 48, .inl s0f)), (s1, .inr (9, [.int (nI s1t), .int (nI s1n), .int (nI s1l), .ref s1c])), (s1c, .inl (E.2.1 1, 48, .inl s1f)), (s2, .inr (9, [.int (nI s2t), .int (nI s2n), .int (nI s2l), .ref s2c])), (s2c, .inl (E.2.1 1, 48, .inl s2f)), (s3, .inr (9, [.int 1, .int (nI s3n), .int (nI s3l), .ref s3c])), (s3c, .inl (E.2.1 1, 48, .inl f2_62))]) ?_ rfl rfl rfl
          refine ww_iconst (v := 1) C dX11_write_59 rfl ?_
          exact ww_iret (u := [(hx, .inr (11, [.ref h, .ref qp, .int (nI ac), .int (nI np), .ref qs, .ref qj, .ref ly, .ref qh, .ref kk, .int (nI kc), .ref rd, .ref pg, .int (nI pe), .int kn, .ref ss])), (ss, .inl (E.2.1 8, 4, .inr (.inr (.inr (.inr fss))))), (s0, .inr (9, [.int (nI s0t), .int (nI s0n), .int (nI s0l), .ref s0c])), (s0c, .inl (E.2.1 1, 48, .inl s0f)), (s1, .inr (9, [.int (nI s1t), .int (nI s1n), .int (nI s1l), .ref s1c])), (s1c, .inl (E.2.1 1, 48, .inl s1f)), (s2, .inr (9, [.int (nI s2t), .int (nI s2n), .int (nI s2l), .ref s2c])), (s2c, .inl (E.2.1 1, 48, .inl s2f)), (s3, .inr (9, [.int 1, .int (nI s3n), .int (nI s3l), .ref s3c])), (s3c, .inl (E.2.1 1, 48, .inl f2_62))]) C hT [0, 1, 2, 3, 4, 5, 6, 7, 8, 9] (gqk (by eq_refl)) (ndk (by decide +kernel)) rfl rfl dX11_write_60 (Or.inr (Or.inr (Or.inr ⟨3, j_60, s0f, s1f, s2f, f2_62, rfl, rfl, rfl, (by omega), rfl, (by simp only [pick4]; omega), rfl, (by omega), (fun i hi hne => by rcases (show i = 0 ∨ i = 1 ∨ i = 2 ∨ i = 3 by omega) with rfl | rfl | rfl | rfl <;> first | rfl | exact absurd rfl hne), h_63⟩)))
        · refine an2 hw ?_
          clear hw
          intro he_58 he_59 hw
          have h_57 := hw
          clear hw
          have he_58 := he_58.symm
          subst he_58
          subst he_59
          refine ww_eq (ws' := [(hx, .inr (11, [.ref h, .ref qp, .int (nI ac), .int (nI np), .ref qs, .ref qj, .ref ly, .ref qh, .ref kk, .int (nI kc), .ref rd, .ref pg, .int (nI pe), .int kn, .ref ss])), (ss, .inl (E.2.1 8, 4, .inr (.inr (.inr (.inr fss))))), (s0, .inr (9, [.int (nI s0t), .int (nI s0n), .int (nI s0l), .ref s0c])), (s0c, .inl (E.2.1 1, 48, .inl s0f)), (s1, .inr (9, [.int (nI s1t), .int (nI s1n), .int (nI s1l), .ref s1c])), (s1c, .inl (E.2.1 1, 48, .inl s1f)), (s2, .inr (9, [.int (nI s2t), .int (nI s2n), .int (nI s2l), .ref s2c])), (s2c, .inl (E.2.1 1, 48, .inl s2f)), (s3, .inr (9, [.int 1, .int (nI s3n), .int (nI s3l), .ref s3c])), (s3c, .inl (E.2.1 1, 48, .inl s3f))]) ?_ rfl rfl rfl
          refine ww_if_ne_f (tgt := 48) C dX11_write_42 (by decide) (rfl) ?_
          refine ww_bipush (v := (-12)) C dX11_write_45 rfl ?_
          exact ww_iret (u := [(hx, .inr (11, [.ref h, .ref qp, .int (nI ac), .int (nI np), .ref qs, .ref qj, .ref ly, .ref qh, .ref kk, .int (nI kc), .ref rd, .ref pg, .int (nI pe), .int kn, .ref ss])), (ss, .inl (E.2.1 8, 4, .inr (.inr (.inr (.inr fss))))), (s0, .inr (9, [.int (nI s0t), .int (nI s0n), .int (nI s0l), .ref s0c])), (s0c, .inl (E.2.1 1, 48, .inl s0f)), (s1, .inr (9, [.int (nI s1t), .int (nI s1n), .int (nI s1l), .ref s1c])), (s1c, .inl (E.2.1 1, 48, .inl s1f)), (s2, .inr (9, [.int (nI s2t), .int (nI s2n), .int (nI s2l), .ref s2c])), (s2c, .inl (E.2.1 1, 48, .inl s2f)), (s3, .inr (9, [.int 1, .int (nI s3n), .int (nI s3l), .ref s3c])), (s3c, .inl (E.2.1 1, 48, .inl s3f))]) C hT [0, 1, 2, 3, 4, 5, 6, 7, 8, 9] (gqk (by eq_refl)) (ndk (by decide +kernel)) rfl rfl dX11_write_47 (Or.inr (Or.inr (Or.inl ⟨3, rfl, rfl, rfl, (by omega), rfl, (by simp only [pick4]; omega)⟩)))
  · refine an2 hw ?_
    clear hw
    intro he_7 he_8 hw
    have h_6 := hw
    clear hw
    have he_7 := he_7.symm
    subst he_7
    subst he_8
    refine ww_eq (ws' := [(hx, .inr (11, [.ref h, .ref qp, .int (nI ac), .int (nI np), .ref qs, .ref qj, .ref ly, .ref qh, .ref kk, .int (nI kc), .ref rd, .ref pg, .int (nI pe), .int kn, .ref ss])), (ss, .inl (E.2.1 8, 4, .inr (.inr (.inr (.inr fss))))), (s0, .inr (9, [.int (nI s0t), .int (nI s0n), .int (nI s0l), .ref s0c])), (s0c, .inl (E.2.1 1, 48, .inl s0f)), (s1, .inr (9, [.int (nI s1t), .int (nI s1n), .int (nI s1l), .ref s1c])), (s1c, .inl (E.2.1 1, 48, .inl s1f)), (s2, .inr (9, [.int (nI s2t), .int (nI s2n), .int (nI s2l), .ref s2c])), (s2c, .inl (E.2.1 1, 48, .inl s2f)), (s3, .inr (9, [.int (nI s3t), .int (nI s3n), .int (nI s3l), .ref s3c])), (s3c, .inl (E.2.1 1, 48, .inl s3f))]) ?_ rfl rfl rfl
    refine ww_if_ne_f (tgt := 11) C dX11_write_6 (by decide) (rfl) ?_
    refine ww_iconst (v := (-1)) C dX11_write_9 rfl ?_
    exact ww_iret (u := [(hx, .inr (11, [.ref h, .ref qp, .int (nI ac), .int (nI np), .ref qs, .ref qj, .ref ly, .ref qh, .ref kk, .int (nI kc), .ref rd, .ref pg, .int (nI pe), .int kn, .ref ss])), (ss, .inl (E.2.1 8, 4, .inr (.inr (.inr (.inr fss))))), (s0, .inr (9, [.int (nI s0t), .int (nI s0n), .int (nI s0l), .ref s0c])), (s0c, .inl (E.2.1 1, 48, .inl s0f)), (s1, .inr (9, [.int (nI s1t), .int (nI s1n), .int (nI s1l), .ref s1c])), (s1c, .inl (E.2.1 1, 48, .inl s1f)), (s2, .inr (9, [.int (nI s2t), .int (nI s2n), .int (nI s2l), .ref s2c])), (s2c, .inl (E.2.1 1, 48, .inl s2f)), (s3, .inr (9, [.int (nI s3t), .int (nI s3n), .int (nI s3l), .ref s3c])), (s3c, .inl (E.2.1 1, 48, .inl s3f))]) C hT [0, 1, 2, 3, 4, 5, 6, 7, 8, 9] (gqk (by eq_refl)) (ndk (by decide +kernel)) rfl rfl dX11_write_10 (Or.inl ⟨rfl, rfl, (by first | assumption | omega | decide)⟩)
end
