theorem pa_0 {pd : Nat} {n1 fl : Nat → Int32} (h : pd = 0) : pd = 1 ↔ ∃ i, i < 0 ∧ n1 i ≠ fl i := ⟨fun q => by omega, fun ⟨i, h, _⟩ => absurd h (Nat.not_lt_zero _)⟩
theorem pa_1 {pd pd' i2 : Nat} {n1 fl : Nat → Int32} (_ : pd = 1 ↔ ∃ i, i < i2 ∧ n1 i ≠ fl i) (hn : n1 i2 = fl i2 → False) (e : pd' = 1) : pd' = 1 ↔ ∃ i, i < i2 + 1 ∧ n1 i ≠ fl i := ⟨fun _ => ⟨i2, by omega, hn⟩, fun _ => e⟩
theorem pa_2 {pd pd' i2 : Nat} {n1 fl : Nat → Int32} (h : pd = 1 ↔ ∃ i, i < i2 ∧ n1 i ≠ fl i) (h0 : pd ≠ 1 ∧ pd' ≠ 1) (hn : n1 i2 = fl i2) : pd' = 1 ↔ ∃ i, i < i2 + 1 ∧ n1 i ≠ fl i := ⟨fun q => absurd q h0.2, fun ⟨i, a, b⟩ => by
  by_cases q : i = i2
  · rw [q] at b; exact absurd hn b
  · exact absurd (h.mpr ⟨i, by omega, b⟩) h0.1⟩
theorem pa_3 {pd pd' i2 : Nat} {n1 fl : Nat → Int32} (h : pd = 1 ↔ ∃ i, i < i2 ∧ n1 i ≠ fl i) (h1 : pd = 1) (e : pd' = 1) : pd' = 1 ↔ ∃ i, i < i2 + 1 ∧ n1 i ≠ fl i := ⟨fun _ => by obtain ⟨i, a, b⟩ := h.mp h1; exact ⟨i, by omega, b⟩, fun _ => e⟩
theorem fx_cm {n r n2 r2 : Nat} {f g f2 g2 : Nat → Int32} : ∀ i, i < (cm2 (am n r f g) (am n2 r2 f2 g2)).1 → (cm2 (am n r f g) (am n2 r2 f2 g2)).2.1 i = fxM n f f2 i := fun i hi => by
  have hi2 : i < n + n2 := hi
  show (if i < n then (am n r f g).2.2.1 i else (am n2 r2 f2 g2).2.2.1 (i - n)) = fxM n f f2 i
  unfold fxM
  by_cases q : i < n
  · rw [if_pos q, if_pos q, am_F q]
  · rw [if_neg q, if_neg q, am_F (by omega)]
theorem lk_R {c : CMl} {n r i : Nat} {fl : Nat → Int32} (h : RKx c n r fl) (hi : i < n) (h48 : i < 48) : fl i = nI (rk c r i) ∧ rk c r i < 48 := ⟨h i hi, by have := (rk_le c r i).1; omega⟩
theorem cp_rk {c : CMl} {n r : Nat} {fn f : Nat → Int32} (h : RKx c n r fn) (hc : CPx n fn f) : RKx c n r f := fun i hi => (hc i hi).trans (h i hi)
theorem pa_y {c : CMl} {r : Nat} {fl fn : Nat → Int32} (h : RKx c c.1 r fl) (h2 : RKx c c.1 (r + 1) fn) (h48 : c.1 ≤ 48) (hp : ∃ i, i < c.1 ∧ fn i ≠ fl i) : ∃ i, i < c.1 ∧ rk c (r + 1) i ≠ rk c r i := by
  obtain ⟨i, a, b⟩ := hp
  exact ⟨i, a, fun e => b (by rw [h i a, h2 i a, e])⟩
theorem pa_n {c : CMl} {r : Nat} {fl fn : Nat → Int32} (h : RKx c c.1 r fl) (h2 : RKx c c.1 (r + 1) fn) (h48 : c.1 ≤ 48) (hp : ¬ ∃ i, i < c.1 ∧ fn i ≠ fl i) : ∀ i, i < c.1 → rk c (r + 1) i = rk c r i := by
  intro i a
  apply Classical.byContradiction
  intro hne
  apply hp
  refine ⟨i, a, fun e => hne ?_⟩
  rw [h i a, h2 i a] at e
  have l1 := (rk_le c r i).1
  have l2 := (rk_le c (r + 1) i).1
  exact (nI_eq (by omega) (by omega)).mp e
theorem dX1_factsOf_0 : decode cX1_factsOf 0 = .ok (.iload_n 1, 1) := dl_27 (by decide +kernel)
theorem dX1_factsOf_1 : decode cX1_factsOf 1 = .ok (.aload_n 0, 1) := dl_42 (by decide +kernel)
theorem dX1_factsOf_2 : decode cX1_factsOf 2 = .ok (.getfield 22, 3) := dl_180 (by decide +kernel)
theorem uw_X1 : ∀ w ∈ u_ws RX1 TX1 6, w ∈ TB := uw_of [244, 246, 248, 250, 252, 254] (by decide +kernel) (by decide +kernel)
theorem wf_X1_22 : Cond.fieldLink RX1 22 RX1 "left" "LWhoKnows$Model;" ∈ TB := tbm (tq1 (List.mem_of_getElem? (i := 237) (by decide +kernel))) (by decide +kernel)
theorem fg_X1_22 : FG RX1 22 1 0 := ⟨RX1, TX1, 6, uw_X1, wf_X1_22, rfl, by decide, rfl⟩
theorem dX1_factsOf_5 : decode cX1_factsOf 5 = .ok (.getfield 29, 3) := dl_180 (by decide +kernel)
theorem wf_X1_29 : Cond.fieldLink RX1 29 RX4 "size" "I" ∈ TB := tbm (tq1 (List.mem_of_getElem? (i := 37) (by decide +kernel))) (by decide +kernel)
theorem fg_X1_29 : FG RX1 29 4 0 := ⟨RX4, TX4, 4, uw_X4, wf_X1_29, rfl, by decide, rfl⟩
theorem dX1_factsOf_8 : decode cX1_factsOf 8 = .ok (.if_icmp .ge 13, 3) := dl_162 (by decide +kernel)
theorem dX1_factsOf_11 : decode cX1_factsOf 11 = .ok (.aload_n 0, 1) := dl_42 (by decide +kernel)
theorem dX1_factsOf_12 : decode cX1_factsOf 12 = .ok (.getfield 22, 3) := dl_180 (by decide +kernel)
theorem dX1_factsOf_15 : decode cX1_factsOf 15 = .ok (.getfield 40, 3) := dl_180 (by decide +kernel)
theorem wf_X1_40 : Cond.fieldLink RX1 40 RX4 "facts" "[I" ∈ TB := tbm (tq1 (List.mem_of_getElem? (i := 46) (by decide +kernel))) (by decide +kernel)
theorem fg_X1_40 : FG RX1 40 4 2 := ⟨RX4, TX4, 4, uw_X4, wf_X1_40, rfl, by decide, rfl⟩
theorem dX1_factsOf_18 : decode cX1_factsOf 18 = .ok (.iload_n 1, 1) := dl_27 (by decide +kernel)
theorem dX1_factsOf_19 : decode cX1_factsOf 19 = .ok (.iaload, 1) := dl_46 (by decide +kernel)
theorem dX1_factsOf_20 : decode cX1_factsOf 20 = .ok (.ireturn, 1) := dl_172 (by decide +kernel)
set_option maxRecDepth 100000 in
set_option maxHeartbeats 4000000 in
theorem h_factsOfN (l : Launch) (E : EV) (ro : va_W) (qh : Nat) (i : Nat) (h : Nat) (n : Nat) (ha : Nat) (hb : Nat) (hc : Nat) (r : Nat) (a : Nat) (b : Nat) (f : Nat → Int32) (gg : Nat → Int32) (hn : n ≤ 24) (hr : r < n ∨ r = 0) (hi : i < n) : CT l yX1_factsOf (Cond.code yX1_factsOf cX1_factsOf 2 (some .int) :: TB) ({ frames := 0, cells := 0, slots := 0, locals := 0 }) E ro [.ref qh, .int (nI i)] [(qh, .inr (1, [.ref h, .null, .int (nI n), .ref ha, .ref hb, .ref hc])), (h, .inr (4, [.int (nI n), .int (nI r), .ref a, .ref b])), (a, .inl (E.2.1 1, 24, .inl f)), (b, .inl (E.2.1 1, 96, .inl gg))] (Qi E (fun (rz : Int32) uz => (rz = (f i) ∧ uz = [(qh, .inr (1, [.ref h, .null, .int (nI n), .ref ha, .ref hb, .ref hc])), (h, .inr (4, [.int (nI n), .int (nI r), .ref a, .ref b])), (a, .inl (E.2.1 1, 24, .inl f)), (b, .inl (E.2.1 1, 96, .inl gg))]))) 0 0 := by
  refine ct_of rfl rfl ?_
  intro X C hT hin hro
  show WW X 2 E 0 [(0, .ref qh), (1, .int (nI i))] [] [(qh, .inr (1, [.ref h, .null, .int (nI n), .ref ha, .ref hb, .ref hc])), (h, .inr (4, [.int (nI n), .int (nI r), .ref a, .ref b])), (a, .inl (E.2.1 1, 24, .inl f)), (b, .inl (E.2.1 1, 96, .inl gg))] 0 0
  refine ww_iload_n C dX1_factsOf_0 1 rfl rfl ?_
  refine ww_aload_n C dX1_factsOf_1 0 rfl rfl ?_
  refine ww_get C fg_X1_22 0 rfl rfl dX1_factsOf_2 ?_
  refine ww_get C fg_X1_29 1 rfl rfl dX1_factsOf_5 ?_
  refine ww_icmp_ge (tgt := 21) C dX1_factsOf_8 (by decide) (fun c_1 => ?_) (fun c_1 => ?_)
  · have zc_1 : ((i : Nat) : Int) ≥ ((n : Nat) : Int) := i_le (nI_toInt (n := n) (by omega)) (nI_toInt (n := i) (by omega)) c_1
    omega
  · have zc_1 : ((i : Nat) : Int) < ((n : Nat) : Int) := i_nle (nI_toInt (n := n) (by omega)) (nI_toInt (n := i) (by omega)) c_1
    refine ww_aload_n C dX1_factsOf_11 0 rfl rfl ?_
    refine ww_get C fg_X1_22 0 rfl rfl dX1_factsOf_12 ?_
    refine ww_get C fg_X1_40 1 rfl rfl dX1_factsOf_15 ?_
    refine ww_iload_n C dX1_factsOf_18 1 rfl rfl ?_
    obtain ⟨x_2, ex_2⟩ : ∃ z : Int32, f i = z := ⟨_, rfl⟩
    refine ww_iald (v := x_2) C 2 rfl (vp_in_nI (by omega) (by omega)) (ldn (by omega) ex_2) dX1_factsOf_19 ?_
    exact ww_iret (u := [(qh, .inr (1, [.ref h, .null, .int (nI n), .ref ha, .ref hb, .ref hc])), (h, .inr (4, [.int (nI n), .int (nI r), .ref a, .ref b])), (a, .inl (E.2.1 1, 24, .inl f)), (b, .inl (E.2.1 1, 96, .inl gg))]) C hT [0, 1, 2, 3] rfl rfl rfl rfl dX1_factsOf_20 (⟨(by subst_vars; rfl), rfl⟩)
theorem dX1_begin_0 : decode cX1_begin 0 = .ok (.aload_n 0, 1) := dl_42 (by decide +kernel)
theorem dX1_begin_1 : decode cX1_begin 1 = .ok (.aload_n 1, 1) := dl_43 (by decide +kernel)
theorem dX1_begin_2 : decode cX1_begin 2 = .ok (.putfield 22, 3) := dl_181 (by decide +kernel)
theorem fp_X1_22 : FP RX1 22 1 0 (.object "WhoKnows$Model") false := ⟨RX1, TX1, 6, tyX1, uw_X1, wf_X1_22, rfl, by decide, rfl, tyX1_ok, nmX1, rfl, by decide +kernel⟩
theorem dX1_begin_5 : decode cX1_begin 5 = .ok (.aload_n 0, 1) := dl_42 (by decide +kernel)
theorem dX1_begin_6 : decode cX1_begin 6 = .ok (.aload_n 2, 1) := dl_44 (by decide +kernel)
theorem dX1_begin_7 : decode cX1_begin 7 = .ok (.putfield 26, 3) := dl_181 (by decide +kernel)
theorem wf_X1_26 : Cond.fieldLink RX1 26 RX1 "right" "LWhoKnows$Model;" ∈ TB := tbm (tq1 (List.mem_of_getElem? (i := 238) (by decide +kernel))) (by decide +kernel)
theorem fp_X1_26 : FP RX1 26 1 1 (.object "WhoKnows$Model") false := ⟨RX1, TX1, 6, tyX1, uw_X1, wf_X1_26, rfl, by decide, rfl, tyX1_ok, nmX1, rfl, by decide +kernel⟩
theorem dX1_begin_10 : decode cX1_begin 10 = .ok (.aload_n 0, 1) := dl_42 (by decide +kernel)
theorem dX1_begin_11 : decode cX1_begin 11 = .ok (.aload_n 1, 1) := dl_43 (by decide +kernel)
theorem dX1_begin_12 : decode cX1_begin 12 = .ok (.getfield 29, 3) := dl_180 (by decide +kernel)
theorem dX1_begin_15 : decode cX1_begin 15 = .ok (.aload_n 2, 1) := dl_44 (by decide +kernel)
theorem dX1_begin_16 : decode cX1_begin 16 = .ok (.ifnonnull 7, 3) := dl_199 (by decide +kernel)
theorem dX1_begin_19 : decode cX1_begin 19 = .ok (.iconst 0, 1) := dl_3 (by decide +kernel)
theorem dX1_begin_20 : decode cX1_begin 20 = .ok (.goto 7, 3) := dl_167 (by decide +kernel)
theorem dX1_begin_27 : decode cX1_begin 27 = .ok (.iadd, 1) := dl_96 (by decide +kernel)
theorem dX1_begin_28 : decode cX1_begin 28 = .ok (.putfield 35, 3) := dl_181 (by decide +kernel)
theorem wf_X1_35 : Cond.fieldLink RX1 35 RX1 "size" "I" ∈ TB := tbm (tq1 (List.mem_of_getElem? (i := 239) (by decide +kernel))) (by decide +kernel)
theorem fp_X1_35 : FP RX1 35 1 2 .int false := ⟨RX1, TX1, 6, tyX1, uw_X1, wf_X1_35, rfl, by decide, rfl, tyX1_ok, nmX1, rfl, by decide +kernel⟩
theorem dX1_begin_31 : decode cX1_begin 31 = .ok (.iconst 0, 1) := dl_3 (by decide +kernel)
theorem dX1_begin_32 : decode cX1_begin 32 = .ok (.istore_n 3, 1) := dl_62 (by decide +kernel)
theorem dX1_begin_33 : decode cX1_begin 33 = .ok (.iload_n 3, 1) := dl_29 (by decide +kernel)
theorem dX1_begin_34 : decode cX1_begin 34 = .ok (.aload_n 0, 1) := dl_42 (by decide +kernel)
theorem dX1_begin_35 : decode cX1_begin 35 = .ok (.getfield 35, 3) := dl_180 (by decide +kernel)
theorem fg_X1_35 : FG RX1 35 1 2 := ⟨RX1, TX1, 6, uw_X1, wf_X1_35, rfl, by decide, rfl⟩
theorem dX1_begin_38 : decode cX1_begin 38 = .ok (.if_icmp .ge 46, 3) := dl_162 (by decide +kernel)
theorem dX1_begin_84 : decode cX1_begin 84 = .ok (.return_, 1) := dl_177 (by decide +kernel)
theorem dX1_begin_41 : decode cX1_begin 41 = .ok (.iconst 0, 1) := dl_3 (by decide +kernel)
theorem dX1_begin_42 : decode cX1_begin 42 = .ok (.istore 4, 2) := dl_54 (by decide +kernel)
theorem dX1_begin_44 : decode cX1_begin 44 = .ok (.iload 4, 2) := dl_21 (by decide +kernel)
theorem dX1_begin_46 : decode cX1_begin 46 = .ok (.iload_n 3, 1) := dl_29 (by decide +kernel)
theorem dX1_begin_47 : decode cX1_begin 47 = .ok (.if_icmp .ge 23, 3) := dl_162 (by decide +kernel)
theorem dX1_begin_70 : decode cX1_begin 70 = .ok (.aload_n 0, 1) := dl_42 (by decide +kernel)
theorem dX1_begin_71 : decode cX1_begin 71 = .ok (.getfield 9, 3) := dl_180 (by decide +kernel)
theorem wf_X1_9 : Cond.fieldLink RX1 9 RX1 "least" "[I" ∈ TB := tbm (tq2 (List.mem_of_getElem? (i := 0) (by decide +kernel))) (by decide +kernel)
theorem fg_X1_9 : FG RX1 9 1 3 := ⟨RX1, TX1, 6, uw_X1, wf_X1_9, rfl, by decide, rfl⟩
theorem dX1_begin_74 : decode cX1_begin 74 = .ok (.iload_n 3, 1) := dl_29 (by decide +kernel)
theorem dX1_begin_75 : decode cX1_begin 75 = .ok (.iload 4, 2) := dl_21 (by decide +kernel)
theorem dX1_begin_77 : decode cX1_begin 77 = .ok (.iastore, 1) := dl_79 (by decide +kernel)
theorem dX1_begin_78 : decode cX1_begin 78 = .ok (.iinc 3 1, 3) := dl_132 (by decide +kernel)
theorem dX1_begin_81 : decode cX1_begin 81 = .ok (.goto (-48), 3) := dl_167 (by decide +kernel)
theorem dX1_begin_50 : decode cX1_begin 50 = .ok (.aload_n 0, 1) := dl_42 (by decide +kernel)
theorem dX1_begin_51 : decode cX1_begin 51 = .ok (.iload 4, 2) := dl_21 (by decide +kernel)
theorem dX1_begin_53 : decode cX1_begin 53 = .ok (.invokevirtual 36, 3) := dl_182 (by decide +kernel)
theorem wl_X1_36 : Cond.methodLink RX1 36 yX1_factsOf ∈ TB := tbm (tq4 (List.mem_of_getElem? (i := 121) (by decide +kernel))) (by decide +kernel)
theorem wc_X1_factsOf : Cond.code yX1_factsOf cX1_factsOf 2 (some .int) ∈ TB := tbm (tq4 (List.mem_of_getElem? (i := 124) (rfl))) (by decide +kernel)
theorem wn_X1 : Cond.initialized RX1 ∈ TB := tbm (tq1 (List.mem_of_getElem? (i := 8) (by decide +kernel))) (by decide +kernel)
theorem wi_X1_factsOf : Cond.instanceMethod yX1_factsOf ∈ TB := tbm (tq4 (List.mem_of_getElem? (i := 123) (by decide +kernel))) (by decide +kernel)
theorem ws_X1_factsOf : Cond.selects RX1 yX1_factsOf yX1_factsOf ∈ TB := tbm (tq0 (List.mem_of_getElem? (i := 26) (by decide +kernel))) (by decide +kernel)
theorem mi_X1_factsOf : MI yX1_factsOf cX1_factsOf 2 (some .int) 1 := ⟨wc_X1_factsOf, wn_X1, ⟨by decide +kernel, by decide +kernel, by decide +kernel⟩, wi_X1_factsOf, ws_X1_factsOf⟩
theorem dX1_begin_56 : decode cX1_begin 56 = .ok (.aload_n 0, 1) := dl_42 (by decide +kernel)
theorem dX1_begin_57 : decode cX1_begin 57 = .ok (.iload_n 3, 1) := dl_29 (by decide +kernel)
theorem dX1_begin_58 : decode cX1_begin 58 = .ok (.invokevirtual 36, 3) := dl_182 (by decide +kernel)
theorem dX1_begin_61 : decode cX1_begin 61 = .ok (.if_icmp .eq 9, 3) := dl_159 (by decide +kernel)
theorem dX1_begin_64 : decode cX1_begin 64 = .ok (.iinc 4 1, 3) := dl_132 (by decide +kernel)
theorem dX1_begin_67 : decode cX1_begin 67 = .ok (.goto (-23), 3) := dl_167 (by decide +kernel)
set_option maxRecDepth 100000 in
set_option maxHeartbeats 4000000 in
theorem h_beginN (l : Launch) (E : EV) (ro : va_W) (qh : Nat) (h : Nat) (l0 : Value) (l1 : Value) (x2 : Int32) (ha : Nat) (hb : Nat) (hc : Nat) (fl : Nat → Int32) (fn : Nat → Int32) (fs : Nat → Int64) (n : Nat) (r : Nat) (a : Nat) (b : Nat) (f : Nat → Int32) (gg : Nat → Int32) (hn : n ≤ 24) (hr : r < n ∨ r = 0) (hrng : RNG 48 48 fl) : CT l yX1_begin (Cond.code yX1_begin cX1_begin 5 none :: TB) ({ frames := 1, cells := 0, slots := 0, locals := 21 }) E ro [.ref qh, .ref h, .null] [(qh, .inr (1, [l0, l1, .int x2, .ref ha, .ref hb, .ref hc])), (ha, .inl (E.2.1 1, 48, .inl fl)), (hb, .inl (E.2.1 1, 48, .inl fn)), (hc, .inl (E.2.1 2, 192, .inr (.inl fs))), (h, .inr (4, [.int (nI n), .int (nI r), .ref a, .ref b])), (a, .inl (E.2.1 1, 24, .inl f)), (b, .inl (E.2.1 1, 96, .inl gg))] (Qv E (fun uz => (∃ (flz : Nat → Int32), uz = [(qh, .inr (1, [.ref h, .null, .int (nI n), .ref ha, .ref hb, .ref hc])), (ha, .inl (E.2.1 1, 48, .inl flz)), (hb, .inl (E.2.1 1, 48, .inl fn)), (hc, .inl (E.2.1 2, 192, .inr (.inl fs))), (h, .inr (4, [.int (nI n), .int (nI r), .ref a, .ref b])), (a, .inl (E.2.1 1, 24, .inl f)), (b, .inl (E.2.1 1, 96, .inl gg))] ∧ (RNG 48 48 flz) ∧ (LI n flz) ∧ (RKx (cm1 (am n r f gg)) (n) (0) flz)))) 0 0 := by
  refine ct_of rfl rfl ?_
  intro X C hT hin hro
  show WW X 5 E 0 [(0, .ref qh), (1, .ref h), (2, .null)] [] [(qh, .inr (1, [l0, l1, .int x2, .ref ha, .ref hb, .ref hc])), (ha, .inl (E.2.1 1, 48, .inl fl)), (hb, .inl (E.2.1 1, 48, .inl fn)), (hc, .inl (E.2.1 2, 192, .inr (.inl fs))), (h, .inr (4, [.int (nI n), .int (nI r), .ref a, .ref b])), (a, .inl (E.2.1 1, 24, .inl f)), (b, .inl (E.2.1 1, 96, .inl gg))] 0 0
  refine ww_aload_n C dX1_begin_0 0 rfl rfl ?_
  refine ww_aload_n C dX1_begin_1 1 rfl rfl ?_
  refine ww_put (ws' := [(qh, .inr (1, [.ref h, l1, .int x2, .ref ha, .ref hb, .ref hc])), (ha, .inl (E.2.1 1, 48, .inl fl)), (hb, .inl (E.2.1 1, 48, .inl fn)), (hc, .inl (E.2.1 2, 192, .inr (.inl fs))), (h, .inr (4, [.int (nI n), .int (nI r), .ref a, .ref b])), (a, .inl (E.2.1 1, 24, .inl f)), (b, .inl (E.2.1 1, 96, .inl gg))]) C fp_X1_22 0 rfl rfl rfl rfl rfl dX1_begin_2 ?_
  refine ww_aload_n C dX1_begin_5 0 rfl rfl ?_
  refine ww_aload_nN C dX1_begin_6 2 rfl rfl ?_
  refine ww_put (ws' := [(qh, .inr (1, [.ref h, .null, .int x2, .ref ha, .ref hb, .ref hc])), (ha, .inl (E.2.1 1, 48, .inl fl)), (hb, .inl (E.2.1 1, 48, .inl fn)), (hc, .inl (E.2.1 2, 192, .inr (.inl fs))), (h, .inr (4, [.int (nI n), .int (nI r), .ref a, .ref b])), (a, .inl (E.2.1 1, 24, .inl f)), (b, .inl (E.2.1 1, 96, .inl gg))]) C fp_X1_26 0 rfl rfl rfl rfl rfl dX1_begin_7 ?_
  refine ww_aload_n C dX1_begin_10 0 rfl rfl ?_
  refine ww_aload_n C dX1_begin_11 1 rfl rfl ?_
  refine ww_get C fg_X1_29 4 rfl rfl dX1_begin_12 ?_
  refine ww_aload_nN C dX1_begin_15 2 rfl rfl ?_
  refine ww_ifnonnullN C dX1_begin_16 ?_
  refine ww_iconst (v := 0) C dX1_begin_19 rfl ?_
  refine ww_goto (tgt := 27) C dX1_begin_20 (by decide) ?_
  refine ww_iadd (v := (nI n)) C dX1_begin_27 (nI_add n 0) ?_
  refine ww_put (ws' := [(qh, .inr (1, [.ref h, .null, .int (nI n), .ref ha, .ref hb, .ref hc])), (ha, .inl (E.2.1 1, 48, .inl fl)), (hb, .inl (E.2.1 1, 48, .inl fn)), (hc, .inl (E.2.1 2, 192, .inr (.inl fs))), (h, .inr (4, [.int (nI n), .int (nI r), .ref a, .ref b])), (a, .inl (E.2.1 1, 24, .inl f)), (b, .inl (E.2.1 1, 96, .inl gg))]) C fp_X1_35 0 rfl rfl rfl rfl rfl dX1_begin_28 ?_
  refine ww_iconst (v := 0) C dX1_begin_31 rfl ?_
  refine ww_istore_n (lv' := [(3, .int 0), (0, .ref qh), (1, .ref h), (2, .null)]) C dX1_begin_32 rfl rfl rfl ?_
  have loop_33 : ∀ (fu : Nat) (i1 : Nat) (l1 : Nat → Int32), (i1 ≤ n) → (RNG 48 48 l1) → (HBx i1 f l1) → n - i1 < fu → WW X 5 E 33 [(3, .int (nI i1)), (0, .ref qh), (1, .ref h), (2, .null)] [] [(qh, .inr (1, [.ref h, .null, .int (nI n), .ref ha, .ref hb, .ref hc])), (ha, .inl (E.2.1 1, 48, .inl l1)), (hb, .inl (E.2.1 1, 48, .inl fn)), (hc, .inl (E.2.1 2, 192, .inr (.inl fs))), (h, .inr (4, [.int (nI n), .int (nI r), .ref a, .ref b])), (a, .inl (E.2.1 1, 24, .inl f)), (b, .inl (E.2.1 1, 96, .inl gg))] 0 0 := by
    intro fu
    induction fu with
    | zero => intro i1 l1 hi1 hr1 hb1 hmeas; exact absurd hmeas (Nat.not_lt_zero _)
    | succ fu ih_33 =>
      intro i1 l1 hi1 hr1 hb1 hmeas
      refine ww_iload_n C dX1_begin_33 0 rfl rfl ?_
      refine ww_aload_n C dX1_begin_34 1 rfl rfl ?_
      refine ww_get C fg_X1_35 0 rfl rfl dX1_begin_35 ?_
      refine ww_icmp_ge (tgt := 84) C dX1_begin_38 (by decide) (fun c_1 => ?_) (fun c_1 => ?_)
      · have zc_1 : ((i1 : Nat) : Int) ≥ ((n : Nat) : Int) := i_le (nI_toInt (n := n) (by omega)) (nI_toInt (n := i1) (by omega)) c_1
        exact ww_vret (u := [(qh, .inr (1, [.ref h, .null, .int (nI n), .ref ha, .ref hb, .ref hc])), (ha, .inl (E.2.1 1, 48, .inl l1)), (hb, .inl (E.2.1 1, 48, .inl fn)), (hc, .inl (E.2.1 2, 192, .inr (.inl fs))), (h, .inr (4, [.int (nI n), .int (nI r), .ref a, .ref b])), (a, .inl (E.2.1 1, 24, .inl f)), (b, .inl (E.2.1 1, 96, .inl gg))]) C hT [0, 1, 2, 3, 4, 5, 6] rfl rfl rfl rfl dX1_begin_84 (⟨l1, rfl, hr1, (by have h9 : i1 = n := (by omega); rw [← h9]; exact HBx.LI hb1 (by omega)), (hb_rk (c := (cm1 (am n r f gg))) (fun i hi => am_F hi) (by have h9 : i1 = n := (by omega); rw [h9] at hb1; exact hb1))⟩)
      · have zc_1 : ((i1 : Nat) : Int) < ((n : Nat) : Int) := i_nle (nI_toInt (n := n) (by omega)) (nI_toInt (n := i1) (by omega)) c_1
        refine ww_iconst (v := 0) C dX1_begin_41 rfl ?_
        refine ww_istore (lv' := [(4, .int 0), (3, .int (nI i1)), (0, .ref qh), (1, .ref h), (2, .null)]) C dX1_begin_42 rfl rfl ?_
        have loop_44 : ∀ (fu : Nat) (j1 : Nat), (j1 ≤ i1) → (∀ v, v < j1 → f v ≠ f i1) → i1 - j1 < fu → WW X 5 E 44 [(4, .int (nI j1)), (3, .int (nI i1)), (0, .ref qh), (1, .ref h), (2, .null)] [] [(qh, .inr (1, [.ref h, .null, .int (nI n), .ref ha, .ref hb, .ref hc])), (ha, .inl (E.2.1 1, 48, .inl l1)), (hb, .inl (E.2.1 1, 48, .inl fn)), (hc, .inl (E.2.1 2, 192, .inr (.inl fs))), (h, .inr (4, [.int (nI n), .int (nI r), .ref a, .ref b])), (a, .inl (E.2.1 1, 24, .inl f)), (b, .inl (E.2.1 1, 96, .inl gg))] 0 0 := by
          intro fu
          induction fu with
          | zero => intro j1 hj1 hv1 hmeas; exact absurd hmeas (Nat.not_lt_zero _)
          | succ fu ih_44 =>
            intro j1 hj1 hv1 hmeas
            refine ww_iload C dX1_begin_44 0 rfl ?_
            refine ww_iload_n C dX1_begin_46 1 rfl rfl ?_
            refine ww_icmp_ge (tgt := 70) C dX1_begin_47 (by decide) (fun c_2 => ?_) (fun c_2 => ?_)
            · have zc_2 : ((j1 : Nat) : Int) ≥ ((i1 : Nat) : Int) := i_le (nI_toInt (n := i1) (by omega)) (nI_toInt (n := j1) (by omega)) c_2
              refine ww_aload_n C dX1_begin_70 2 rfl rfl ?_
              refine ww_get C fg_X1_9 0 rfl rfl dX1_begin_71 ?_
              refine ww_iload_n C dX1_begin_74 1 rfl rfl ?_
              refine ww_iload C dX1_begin_75 0 rfl ?_
              obtain ⟨f_3, ef_3⟩ : ∃ z : Nat → Int32, upd l1 i1 (nI j1) = z := ⟨_, rfl⟩
              refine ww_iast (ws' := [(qh, .inr (1, [.ref h, .null, .int (nI n), .ref ha, .ref hb, .ref hc])), (ha, .inl (E.2.1 1, 48, .inl f_3)), (hb, .inl (E.2.1 1, 48, .inl fn)), (hc, .inl (E.2.1 2, 192, .inr (.inl fs))), (h, .inr (4, [.int (nI n), .int (nI r), .ref a, .ref b])), (a, .inl (E.2.1 1, 24, .inl f)), (b, .inl (E.2.1 1, 96, .inl gg))]) C 1 rfl (vp_in_nI (by omega) (by omega)) (ldn2 (by omega) ef_3) rfl dX1_begin_77 ?_
              refine ww_iinc (j := 1) (v := (nI (i1 + 1))) (lv' := [(3, .int (nI (i1 + 1))), (4, .int (nI j1)), (0, .ref qh), (1, .ref h), (2, .null)]) C dX1_begin_78 rfl (nI_add i1 1) rfl rfl ?_
              refine ww_goto (tgt := 33) C dX1_begin_81 (by decide) ?_
              exact ww_lv [0, 2, 3, 4] rfl (ww_sub [0, 1, 2, 3, 4, 5, 6] rfl rfl (ih_33 (i1 + 1) f_3 (by omega) (RNG.put hr1 (t := j1) (by omega) ef_3) (HBx.ext hb1 hj1 hv1 (by rw [show j1 = i1 by omega]) ef_3) (by omega)))
            · have zc_2 : ((j1 : Nat) : Int) < ((i1 : Nat) : Int) := i_nle (nI_toInt (n := i1) (by omega)) (nI_toInt (n := j1) (by omega)) c_2
              refine ww_aload_n C dX1_begin_50 2 rfl rfl ?_
              refine ww_iload C dX1_begin_51 0 rfl ?_
              refine ww_ci (wr := [(ha, .inl (E.2.1 1, 48, .inl l1)), (hb, .inl (E.2.1 1, 48, .inl fn)), (hc, .inl (E.2.1 2, 192, .inr (.inl fs)))]) (k' := 0) (n' := 0) C (run_V (As := [.int (nI j1)]) (rest := []) C (h_factsOfN X.2.1 E ro qh j1 h n ha hb hc r a b f gg (by omega) (by omega) (by omega)) mi_X1_factsOf wl_X1_36 rfl 0 1 rfl rfl rfl rfl rfl dX1_begin_53) (roK hro) [0, 4, 5, 6] [1, 2, 3] rfl rfl rfl rfl (fun r_4 uz hw => ?_)
              refine an1 hw ?_
              clear hw
              intro he_5 hw
              have he_6 := hw
              clear hw
              have he_5 := he_5.symm
              subst he_5
              subst he_6
              refine ww_eq (ws' := [(ha, .inl (E.2.1 1, 48, .inl l1)), (hb, .inl (E.2.1 1, 48, .inl fn)), (hc, .inl (E.2.1 2, 192, .inr (.inl fs))), (qh, .inr (1, [.ref h, .null, .int (nI n), .ref ha, .ref hb, .ref hc])), (h, .inr (4, [.int (nI n), .int (nI r), .ref a, .ref b])), (a, .inl (E.2.1 1, 24, .inl f)), (b, .inl (E.2.1 1, 96, .inl gg))]) ?_ rfl rfl rfl
              refine ww_aload_n C dX1_begin_56 2 rfl rfl ?_
              refine ww_iload_n C dX1_begin_57 1 rfl rfl ?_
              refine ww_ci (wr := [(ha, .inl (E.2.1 1, 48, .inl l1)), (hb, .inl (E.2.1 1, 48, .inl fn)), (hc, .inl (E.2.1 2, 192, .inr (.inl fs)))]) (k' := 0) (n' := 0) C (run_V (As := [.int (nI i1)]) (rest := [.int (f j1)]) C (h_factsOfN X.2.1 E ro qh i1 h n ha hb hc r a b f gg (by omega) (by omega) (by omega)) mi_X1_factsOf wl_X1_36 rfl 0 1 rfl rfl rfl rfl rfl dX1_begin_58) (roK hro) [3, 4, 5, 6] [0, 1, 2] rfl rfl rfl rfl (fun r_7 uz hw => ?_)
              refine an1 hw ?_
              clear hw
              intro he_8 hw
              have he_9 := hw
              clear hw
              have he_8 := he_8.symm
              subst he_8
              subst he_9
              refine ww_eq (ws' := [(ha, .inl (E.2.1 1, 48, .inl l1)), (hb, .inl (E.2.1 1, 48, .inl fn)), (hc, .inl (E.2.1 2, 192, .inr (.inl fs))), (qh, .inr (1, [.ref h, .null, .int (nI n), .ref ha, .ref hb, .ref hc])), (h, .inr (4, [.int (nI n), .int (nI r), .ref a, .ref b])), (a, .inl (E.2.1 1, 24, .inl f)), (b, .inl (E.2.1 1, 96, .inl gg))]) ?_ rfl rfl rfl
              refine ww_icmp_eq (tgt := 70) C dX1_begin_61 (by decide) (fun c_10 => ?_) (fun c_10 => ?_)
              · have zc_10 : (f j1).toInt = (f i1).toInt := i_eq rfl rfl c_10
                refine ww_aload_n C dX1_begin_70 2 rfl rfl ?_
                refine ww_get C fg_X1_9 3 rfl rfl dX1_begin_71 ?_
                refine ww_iload_n C dX1_begin_74 1 rfl rfl ?_
                refine ww_iload C dX1_begin_75 0 rfl ?_
                obtain ⟨f_11, ef_11⟩ : ∃ z : Nat → Int32, upd l1 i1 (nI j1) = z := ⟨_, rfl⟩
                refine ww_iast (ws' := [(ha, .inl (E.2.1 1, 48, .inl f_11)), (hb, .inl (E.2.1 1, 48, .inl fn)), (hc, .inl (E.2.1 2, 192, .inr (.inl fs))), (qh, .inr (1, [.ref h, .null, .int (nI n), .ref ha, .ref hb, .ref hc])), (h, .inr (4, [.int (nI n), .int (nI r), .ref a, .ref b])), (a, .inl (E.2.1 1, 24, .inl f)), (b, .inl (E.2.1 1, 96, .inl gg))]) C 0 rfl (vp_in_nI (by omega) (by omega)) (ldn2 (by omega) ef_11) rfl dX1_begin_77 ?_
                refine ww_iinc (j := 1) (v := (nI (i1 + 1))) (lv' := [(3, .int (nI (i1 + 1))), (4, .int (nI j1)), (0, .ref qh), (1, .ref h), (2, .null)]) C dX1_begin_78 rfl (nI_add i1 1) rfl rfl ?_
                refine ww_goto (tgt := 33) C dX1_begin_81 (by decide) ?_
                exact ww_lv [0, 2, 3, 4] rfl (ww_sub [3, 0, 1, 2, 4, 5, 6] rfl rfl (ih_33 (i1 + 1) f_11 (by omega) (RNG.put hr1 (t := j1) (by omega) ef_11) (HBx.ext hb1 hj1 hv1 (by assumption) ef_11) (by omega)))
              · have zc_10 : (f j1).toInt ≠ (f i1).toInt := i_ne rfl rfl c_10
                refine ww_iinc (j := 0) (v := (nI (j1 + 1))) (lv' := [(4, .int (nI (j1 + 1))), (3, .int (nI i1)), (0, .ref qh), (1, .ref h), (2, .null)]) C dX1_begin_64 rfl (nI_add j1 1) rfl rfl ?_
                refine ww_goto (tgt := 44) C dX1_begin_67 (by decide) ?_
                exact ww_lv [0, 1, 2, 3, 4] rfl (ww_sub [3, 0, 1, 2, 4, 5, 6] rfl rfl (ih_44 (j1 + 1) (by omega) (fun v hv => if hk : v = j1 then (by rw [hk]; assumption) else hv1 v (by omega)) (by omega)))
        exact ww_lv [0, 1, 2, 3, 4] rfl (ww_sub [0, 1, 2, 3, 4, 5, 6] rfl rfl (loop_44 _ 0 (by omega) (fun v h => absurd h (Nat.not_lt_zero _)) (Nat.lt_succ_self _)))
  exact ww_lv [0, 1, 2, 3] rfl (ww_sub [0, 1, 2, 3, 4, 5, 6] rfl rfl (loop_33 _ 0 fl (by omega) hrng HBx.zero (Nat.lt_succ_self _)))
theorem dX1_heapsOf_0 : decode cX1_heapsOf 0 = .ok (.lconst 0, 1) := dl_9 (by decide +kernel)
theorem dX1_heapsOf_1 : decode cX1_heapsOf 1 = .ok (.lstore_n 3, 1) := dl_66 (by decide +kernel)
theorem dX1_heapsOf_2 : decode cX1_heapsOf 2 = .ok (.iconst 0, 1) := dl_3 (by decide +kernel)
theorem dX1_heapsOf_3 : decode cX1_heapsOf 3 = .ok (.istore 5, 2) := dl_54 (by decide +kernel)
theorem dX1_heapsOf_5 : decode cX1_heapsOf 5 = .ok (.iload 5, 2) := dl_21 (by decide +kernel)
theorem dX1_heapsOf_7 : decode cX1_heapsOf 7 = .ok (.bipush 24, 2) := dl_16 (by decide +kernel)
theorem dX1_heapsOf_9 : decode cX1_heapsOf 9 = .ok (.if_icmp .ge 39, 3) := dl_162 (by decide +kernel)
theorem dX1_heapsOf_48 : decode cX1_heapsOf 48 = .ok (.lload_n 3, 1) := dl_33 (by decide +kernel)
theorem dX1_heapsOf_49 : decode cX1_heapsOf 49 = .ok (.lreturn, 1) := dl_173 (by decide +kernel)
theorem dX1_heapsOf_12 : decode cX1_heapsOf 12 = .ok (.iload_n 1, 1) := dl_27 (by decide +kernel)
theorem dX1_heapsOf_13 : decode cX1_heapsOf 13 = .ok (.iload 5, 2) := dl_21 (by decide +kernel)
theorem dX1_heapsOf_15 : decode cX1_heapsOf 15 = .ok (.ishr, 1) := dl_122 (by decide +kernel)
theorem dX1_heapsOf_16 : decode cX1_heapsOf 16 = .ok (.ifCond .eq 32, 3) := dl_153 (by decide +kernel)
theorem dX1_heapsOf_19 : decode cX1_heapsOf 19 = .ok (.iload_n 1, 1) := dl_27 (by decide +kernel)
theorem dX1_heapsOf_20 : decode cX1_heapsOf 20 = .ok (.iload 5, 2) := dl_21 (by decide +kernel)
theorem dX1_heapsOf_22 : decode cX1_heapsOf 22 = .ok (.invokestatic 51, 3) := dl_184 (by decide +kernel)
theorem dX1_heapsOf_25 : decode cX1_heapsOf 25 = .ok (.ifCond .eq 17, 3) := dl_153 (by decide +kernel)
theorem dX1_heapsOf_28 : decode cX1_heapsOf 28 = .ok (.lload_n 3, 1) := dl_33 (by decide +kernel)
theorem dX1_heapsOf_29 : decode cX1_heapsOf 29 = .ok (.lconst 1, 1) := dl_10 (by decide +kernel)
theorem dX1_heapsOf_30 : decode cX1_heapsOf 30 = .ok (.aload_n 0, 1) := dl_42 (by decide +kernel)
theorem dX1_heapsOf_31 : decode cX1_heapsOf 31 = .ok (.getfield 9, 3) := dl_180 (by decide +kernel)
theorem dX1_heapsOf_34 : decode cX1_heapsOf 34 = .ok (.iload_n 2, 1) := dl_28 (by decide +kernel)
theorem dX1_heapsOf_35 : decode cX1_heapsOf 35 = .ok (.iload 5, 2) := dl_21 (by decide +kernel)
theorem dX1_heapsOf_37 : decode cX1_heapsOf 37 = .ok (.iadd, 1) := dl_96 (by decide +kernel)
theorem dX1_heapsOf_38 : decode cX1_heapsOf 38 = .ok (.iaload, 1) := dl_46 (by decide +kernel)
theorem dX1_heapsOf_39 : decode cX1_heapsOf 39 = .ok (.lshl, 1) := dl_121 (by decide +kernel)
theorem dX1_heapsOf_40 : decode cX1_heapsOf 40 = .ok (.lor, 1) := dl_129 (by decide +kernel)
theorem dX1_heapsOf_41 : decode cX1_heapsOf 41 = .ok (.lstore_n 3, 1) := dl_66 (by decide +kernel)
theorem dX1_heapsOf_42 : decode cX1_heapsOf 42 = .ok (.iinc 5 1, 3) := dl_132 (by decide +kernel)
theorem dX1_heapsOf_45 : decode cX1_heapsOf 45 = .ok (.goto (-40), 3) := dl_167 (by decide +kernel)
set_option maxRecDepth 100000 in
set_option maxHeartbeats 4000000 in
theorem h_heapsOf (l : Launch) (E : EV) (ro : va_W) (qh : Nat) (bs : Int32) (sf : Nat) (l0 : Value) (l1 : Value) (x2 : Int32) (ha : Nat) (hb : Nat) (hc : Nat) (fl : Nat → Int32) (RR : Nat → Nat) (hsf : sf ≤ 24) (hR : ∀ w, w < 24 → bt bs w = true → fl (sf + w) = nI (RR (sf + w)) ∧ RR (sf + w) < 48) : CT l yX1_heapsOf (Cond.code yX1_heapsOf cX1_heapsOf 6 (some .long) :: TB) ({ frames := 1, cells := 0, slots := 0, locals := 21 }) E ro [.ref qh, .int bs, .int (nI sf)] [(qh, .inr (1, [l0, l1, .int x2, .ref ha, .ref hb, .ref hc])), (ha, .inl (E.2.1 1, 48, .inl fl))] (Ql E (fun (rz : Int64) uz => (uz = [(qh, .inr (1, [l0, l1, .int x2, .ref ha, .ref hb, .ref hc])), (ha, .inl (E.2.1 1, 48, .inl fl))] ∧ (HOx bs RR sf 24 rz)))) 0 0 := by
  refine ct_of rfl rfl ?_
  intro X C hT hin hro
  show WW X 6 E 0 [(0, .ref qh), (1, .int bs), (2, .int (nI sf))] [] [(qh, .inr (1, [l0, l1, .int x2, .ref ha, .ref hb, .ref hc])), (ha, .inl (E.2.1 1, 48, .inl fl))] 0 0
  refine ww_lconst (v := 0) C dX1_heapsOf_0 rfl ?_
  refine ww_lstore_n (lv' := [(3, .long 0), (0, .ref qh), (1, .int bs), (2, .int (nI sf))]) C dX1_heapsOf_1 rfl rfl rfl ?_
  refine ww_iconst (v := 0) C dX1_heapsOf_2 rfl ?_
  refine ww_istore (lv' := [(5, .int 0), (3, .long 0), (0, .ref qh), (1, .int bs), (2, .int (nI sf))]) C dX1_heapsOf_3 rfl rfl ?_
  have loop_5 : ∀ (fu : Nat) (i1 : Nat) (ac : Int64), (i1 ≤ 24) → (HOx bs RR sf i1 ac) → 24 - i1 < fu → WW X 6 E 5 [(5, .int (nI i1)), (3, .long ac), (0, .ref qh), (1, .int bs), (2, .int (nI sf))] [] [(qh, .inr (1, [l0, l1, .int x2, .ref ha, .ref hb, .ref hc])), (ha, .inl (E.2.1 1, 48, .inl fl))] 0 0 := by
    intro fu
    induction fu with
    | zero => intro i1 ac hi1 hho hmeas; exact absurd hmeas (Nat.not_lt_zero _)
    | succ fu ih_5 =>
      intro i1 ac hi1 hho hmeas
      refine ww_iload C dX1_heapsOf_5 0 rfl ?_
      refine ww_bipush (v := 24) C dX1_heapsOf_7 rfl ?_
      refine ww_icmp_ge (tgt := 48) C dX1_heapsOf_9 (by decide) (fun c_1 => ?_) (fun c_1 => ?_)
      · have zc_1 : ((i1 : Nat) : Int) ≥ 24 := i_le rfl (nI_toInt (n := i1) (by omega)) c_1
        refine ww_lload_n C dX1_heapsOf_48 1 rfl rfl ?_
        exact ww_lret (u := [(qh, .inr (1, [l0, l1, .int x2, .ref ha, .ref hb, .ref hc])), (ha, .inl (E.2.1 1, 48, .inl fl))]) C hT [0, 1] rfl rfl rfl rfl dX1_heapsOf_49 (⟨rfl, (HOx.fin hho hi1 (fun w h1 h2 => absurd h2 (by omega)))⟩)
      · have zc_1 : ((i1 : Nat) : Int) < 24 := i_nle rfl (nI_toInt (n := i1) (by omega)) c_1
        refine ww_iload_n C dX1_heapsOf_12 3 rfl rfl ?_
        refine ww_iload C dX1_heapsOf_13 0 rfl ?_
        obtain ⟨x_2, ex_2⟩ : ∃ z : Int32, bs >>> ((nI i1) &&& 31) = z := ⟨_, rfl⟩
        refine ww_ishr (v := x_2) C dX1_heapsOf_15 ex_2 ?_
        refine ww_if_eq (tgt := 48) C dX1_heapsOf_16 (by decide) (fun c_3 => ?_) (fun c_3 => ?_)
        · have zc_3 : x_2.toInt = 0 := i_eq rfl rfl c_3
          refine ww_lload_n C dX1_heapsOf_48 1 rfl rfl ?_
          exact ww_lret (u := [(qh, .inr (1, [l0, l1, .int x2, .ref ha, .ref hb, .ref hc])), (ha, .inl (E.2.1 1, 48, .inl fl))]) C hT [0, 1] rfl rfl rfl rfl dX1_heapsOf_49 (⟨rfl, (HOx.fin hho hi1 (shz_b (by omega) ex_2 zc_3))⟩)
        · have zc_3 : x_2.toInt ≠ 0 := i_ne rfl rfl c_3
          refine ww_iload_n C dX1_heapsOf_19 3 rfl rfl ?_
          refine ww_iload C dX1_heapsOf_20 0 rfl ?_
          refine ww_ci (wr := [(qh, .inr (1, [l0, l1, .int x2, .ref ha, .ref hb, .ref hc])), (ha, .inl (E.2.1 1, 48, .inl fl))]) (k' := 0) (n' := 0) C (run_SN (As := [.int bs, .int (nI i1)]) (rest := []) C (c_hasN X.2.1 E ro bs i1 (by omega)) ms_X11_has (List.mem_of_getElem? (i := 18) rfl) rfl rfl rfl rfl dX1_heapsOf_22) (roK hro) [] [0, 1] rfl rfl rfl rfl (fun r_4 uz hw => ?_)
          rcases hw with hw | hw
          · refine an2 hw ?_
            clear hw
            intro he_6 he_7 hw
            have h_5 := hw
            clear hw
            have he_6 := he_6.symm
            subst he_6
            subst he_7
            refine ww_eq (ws' := [(qh, .inr (1, [l0, l1, .int x2, .ref ha, .ref hb, .ref hc])), (ha, .inl (E.2.1 1, 48, .inl fl))]) ?_ rfl rfl rfl
            refine ww_if_eq_f (tgt := 42) C dX1_heapsOf_25 (by decide) (by decide) ?_
            refine ww_lload_n C dX1_heapsOf_28 1 rfl rfl ?_
            refine ww_lconst (v := 1) C dX1_heapsOf_29 rfl ?_
            refine ww_aload_n C dX1_heapsOf_30 2 rfl rfl ?_
            refine ww_get C fg_X1_9 0 rfl rfl dX1_heapsOf_31 ?_
            refine ww_iload_n C dX1_heapsOf_34 4 rfl rfl ?_
            refine ww_iload C dX1_heapsOf_35 0 rfl ?_
            refine ww_iadd (v := (nI (sf + i1))) C dX1_heapsOf_37 (nI_add sf i1) ?_
            refine ww_iald (v := (nI (RR (sf + i1)))) C 1 rfl (vp_in_nI (by omega) (by omega)) (ldn (by omega) (hR i1 (by omega) h_5).1) dX1_heapsOf_38 ?_
            obtain ⟨l_12, el_12⟩ : ∃ z : Int64, (1 : Int64) <<< ((nI (RR (sf + i1))).toInt64 &&& 63) = z := ⟨_, rfl⟩
            refine ww_lshl C dX1_heapsOf_39 el_12 ?_
            obtain ⟨l_13, el_13⟩ : ∃ z : Int64, ac ||| l_12 = z := ⟨_, rfl⟩
            refine ww_lor C dX1_heapsOf_40 el_13 ?_
            refine ww_lstore_n (lv' := [(3, .long l_13), (5, .int (nI i1)), (0, .ref qh), (1, .int bs), (2, .int (nI sf))]) C dX1_heapsOf_41 rfl rfl rfl ?_
            refine ww_iinc (j := 1) (v := (nI (i1 + 1))) (lv' := [(5, .int (nI (i1 + 1))), (3, .long l_13), (0, .ref qh), (1, .int bs), (2, .int (nI sf))]) C dX1_heapsOf_42 rfl (nI_add i1 1) rfl rfl ?_
            refine ww_goto (tgt := 5) C dX1_heapsOf_45 (by decide) ?_
            exact ww_lv [0, 1, 2, 3, 4] rfl (ww_sub [0, 1] rfl rfl (ih_5 (i1 + 1) l_13 (by omega) (HOx.t hho h_5 (hR i1 (by omega) h_5).2 el_12 el_13) (by omega)))
          · refine an2 hw ?_
            clear hw
            intro he_9 he_10 hw
            have h_8 := hw
            clear hw
            have he_9 := he_9.symm
            subst he_9
            subst he_10
            refine ww_eq (ws' := [(qh, .inr (1, [l0, l1, .int x2, .ref ha, .ref hb, .ref hc])), (ha, .inl (E.2.1 1, 48, .inl fl))]) ?_ rfl rfl rfl
            refine ww_if_eq_t (tgt := 42) C dX1_heapsOf_25 (by decide) (rfl) ?_
            refine ww_iinc (j := 0) (v := (nI (i1 + 1))) (lv' := [(5, .int (nI (i1 + 1))), (3, .long ac), (0, .ref qh), (1, .int bs), (2, .int (nI sf))]) C dX1_heapsOf_42 rfl (nI_add i1 1) rfl rfl ?_
            refine ww_goto (tgt := 5) C dX1_heapsOf_45 (by decide) ?_
            exact ww_lv [0, 1, 2, 3, 4] rfl (ww_sub [0, 1] rfl rfl (ih_5 (i1 + 1) ac (by omega) (HOx.f hho h_8) (by omega)))
  exact ww_lv [0, 1, 2, 3, 4] rfl (ww_sub [0, 1] rfl rfl (loop_5 _ 0 0 (by omega) HOx.nil (Nat.lt_succ_self _)))
theorem dX1_look_0 : decode cX1_look 0 = .ok (.iconst 0, 1) := dl_3 (by decide +kernel)
theorem dX1_look_1 : decode cX1_look 1 = .ok (.istore_n 1, 1) := dl_60 (by decide +kernel)
theorem dX1_look_2 : decode cX1_look 2 = .ok (.iload_n 1, 1) := dl_27 (by decide +kernel)
theorem dX1_look_3 : decode cX1_look 3 = .ok (.iconst 4, 1) := dl_7 (by decide +kernel)
theorem dX1_look_4 : decode cX1_look 4 = .ok (.if_icmp .ge 127, 3) := dl_162 (by decide +kernel)
theorem dX1_look_131 : decode cX1_look 131 = .ok (.return_, 1) := dl_177 (by decide +kernel)
theorem dX1_look_7 : decode cX1_look 7 = .ok (.iconst 0, 1) := dl_3 (by decide +kernel)
theorem dX1_look_8 : decode cX1_look 8 = .ok (.istore_n 2, 1) := dl_61 (by decide +kernel)
theorem dX1_look_9 : decode cX1_look 9 = .ok (.iload_n 2, 1) := dl_28 (by decide +kernel)
theorem dX1_look_10 : decode cX1_look 10 = .ok (.aload_n 0, 1) := dl_42 (by decide +kernel)
theorem dX1_look_11 : decode cX1_look 11 = .ok (.getfield 22, 3) := dl_180 (by decide +kernel)
theorem dX1_look_14 : decode cX1_look 14 = .ok (.getfield 29, 3) := dl_180 (by decide +kernel)
theorem dX1_look_17 : decode cX1_look 17 = .ok (.if_icmp .ge 36, 3) := dl_162 (by decide +kernel)
theorem dX1_look_53 : decode cX1_look 53 = .ok (.aload_n 0, 1) := dl_42 (by decide +kernel)
theorem dX1_look_54 : decode cX1_look 54 = .ok (.getfield 22, 3) := dl_180 (by decide +kernel)
theorem dX1_look_57 : decode cX1_look 57 = .ok (.getfield 29, 3) := dl_180 (by decide +kernel)
theorem dX1_look_60 : decode cX1_look 60 = .ok (.istore_n 2, 1) := dl_61 (by decide +kernel)
theorem dX1_look_61 : decode cX1_look 61 = .ok (.aload_n 0, 1) := dl_42 (by decide +kernel)
theorem dX1_look_62 : decode cX1_look 62 = .ok (.getfield 26, 3) := dl_180 (by decide +kernel)
theorem fg_X1_26 : FG RX1 26 1 1 := ⟨RX1, TX1, 6, uw_X1, wf_X1_26, rfl, by decide, rfl⟩
theorem dX1_look_65 : decode cX1_look 65 = .ok (.ifnull 60, 3) := dl_198 (by decide +kernel)
theorem dX1_look_125 : decode cX1_look 125 = .ok (.iinc 1 1, 3) := dl_132 (by decide +kernel)
theorem dX1_look_128 : decode cX1_look 128 = .ok (.goto (-126), 3) := dl_167 (by decide +kernel)
theorem dX1_look_20 : decode cX1_look 20 = .ok (.aload_n 0, 1) := dl_42 (by decide +kernel)
theorem dX1_look_21 : decode cX1_look 21 = .ok (.getfield 18, 3) := dl_180 (by decide +kernel)
theorem wf_X1_18 : Cond.fieldLink RX1 18 RX1 "seen" "[J" ∈ TB := tbm (tq2 (List.mem_of_getElem? (i := 3) (by decide +kernel))) (by decide +kernel)
theorem fg_X1_18 : FG RX1 18 1 5 := ⟨RX1, TX1, 6, uw_X1, wf_X1_18, rfl, by decide, rfl⟩
theorem dX1_look_24 : decode cX1_look 24 = .ok (.iload_n 1, 1) := dl_27 (by decide +kernel)
theorem dX1_look_25 : decode cX1_look 25 = .ok (.iconst 2, 1) := dl_5 (by decide +kernel)
theorem dX1_look_26 : decode cX1_look 26 = .ok (.imul, 1) := dl_104 (by decide +kernel)
theorem dX1_look_27 : decode cX1_look 27 = .ok (.bipush 24, 2) := dl_16 (by decide +kernel)
theorem dX1_look_29 : decode cX1_look 29 = .ok (.imul, 1) := dl_104 (by decide +kernel)
theorem dX1_look_30 : decode cX1_look 30 = .ok (.iload_n 2, 1) := dl_28 (by decide +kernel)
theorem dX1_look_31 : decode cX1_look 31 = .ok (.iadd, 1) := dl_96 (by decide +kernel)
theorem dX1_look_32 : decode cX1_look 32 = .ok (.aload_n 0, 1) := dl_42 (by decide +kernel)
theorem dX1_look_33 : decode cX1_look 33 = .ok (.aload_n 0, 1) := dl_42 (by decide +kernel)
theorem dX1_look_34 : decode cX1_look 34 = .ok (.getfield 22, 3) := dl_180 (by decide +kernel)
theorem dX1_look_37 : decode cX1_look 37 = .ok (.iload_n 1, 1) := dl_27 (by decide +kernel)
theorem dX1_look_38 : decode cX1_look 38 = .ok (.iload_n 2, 1) := dl_28 (by decide +kernel)
theorem dX1_look_39 : decode cX1_look 39 = .ok (.invokevirtual 43, 3) := dl_182 (by decide +kernel)
theorem wl_X1_43 : Cond.methodLink RX1 43 yX4_held ∈ TB := tbm (tq4 (List.mem_of_getElem? (i := 133) (by decide +kernel))) (by decide +kernel)
theorem dX1_look_42 : decode cX1_look 42 = .ok (.iconst 0, 1) := dl_3 (by decide +kernel)
theorem dX1_look_43 : decode cX1_look 43 = .ok (.invokevirtual 47, 3) := dl_182 (by decide +kernel)
theorem wl_X1_47 : Cond.methodLink RX1 47 yX1_heapsOf ∈ TB := tbm (tq4 (List.mem_of_getElem? (i := 134) (by decide +kernel))) (by decide +kernel)
theorem wc_X1_heapsOf : Cond.code yX1_heapsOf cX1_heapsOf 6 (some .long) ∈ TB := tbm (tq4 (List.mem_of_getElem? (i := 137) (rfl))) (by decide +kernel)
theorem wi_X1_heapsOf : Cond.instanceMethod yX1_heapsOf ∈ TB := tbm (tq4 (List.mem_of_getElem? (i := 136) (by decide +kernel))) (by decide +kernel)
theorem ws_X1_heapsOf : Cond.selects RX1 yX1_heapsOf yX1_heapsOf ∈ TB := tbm (tq0 (List.mem_of_getElem? (i := 29) (by decide +kernel))) (by decide +kernel)
theorem mi_X1_heapsOf : MI yX1_heapsOf cX1_heapsOf 6 (some .long) 2 := ⟨wc_X1_heapsOf, wn_X1, ⟨by decide +kernel, by decide +kernel, by decide +kernel⟩, wi_X1_heapsOf, ws_X1_heapsOf⟩
theorem dX1_look_46 : decode cX1_look 46 = .ok (.lastore, 1) := dl_80 (by decide +kernel)
theorem dX1_look_47 : decode cX1_look 47 = .ok (.iinc 2 1, 3) := dl_132 (by decide +kernel)
theorem dX1_look_50 : decode cX1_look 50 = .ok (.goto (-41), 3) := dl_167 (by decide +kernel)
set_option maxRecDepth 100000 in
set_option maxHeartbeats 4000000 in
theorem h_lookN (l : Launch) (E : EV) (ro : va_W) (qh : Nat) (h : Nat) (n : Nat) (ha : Nat) (hb : Nat) (hc : Nat) (fl : Nat → Int32) (fn : Nat → Int32) (fs : Nat → Int64) (r : Nat) (a : Nat) (b : Nat) (f : Nat → Int32) (gg : Nat → Int32) (rr : Nat) (hn : n ≤ 24) (hr : r < n ∨ r = 0) (hwf : WFm (am n r f gg)) (hrk : RKx (cm1 (am n r f gg)) (n) (rr) fl) : CT l yX1_look (Cond.code yX1_look cX1_look 4 none :: TB) ({ frames := 2, cells := 0, slots := 0, locals := 46 }) E ro [.ref qh] [(qh, .inr (1, [.ref h, .null, .int (nI n), .ref ha, .ref hb, .ref hc])), (ha, .inl (E.2.1 1, 48, .inl fl)), (hb, .inl (E.2.1 1, 48, .inl fn)), (hc, .inl (E.2.1 2, 192, .inr (.inl fs))), (h, .inr (4, [.int (nI n), .int (nI r), .ref a, .ref b])), (a, .inl (E.2.1 1, 24, .inl f)), (b, .inl (E.2.1 1, 96, .inl gg))] (Qv E (fun uz => (∃ (fsz : Nat → Int64), uz = [(qh, .inr (1, [.ref h, .null, .int (nI n), .ref ha, .ref hb, .ref hc])), (ha, .inl (E.2.1 1, 48, .inl fl)), (hb, .inl (E.2.1 1, 48, .inl fn)), (hc, .inl (E.2.1 2, 192, .inr (.inl fsz))), (h, .inr (4, [.int (nI n), .int (nI r), .ref a, .ref b])), (a, .inl (E.2.1 1, 24, .inl f)), (b, .inl (E.2.1 1, 96, .inl gg))] ∧ (LKx (cm1 (am n r f gg)) (rk (cm1 (am n r f gg)) rr) 4 0 fsz)))) 0 0 := by
  refine ct_of rfl rfl ?_
  intro X C hT hin hro
  show WW X 4 E 0 [(0, .ref qh)] [] [(qh, .inr (1, [.ref h, .null, .int (nI n), .ref ha, .ref hb, .ref hc])), (ha, .inl (E.2.1 1, 48, .inl fl)), (hb, .inl (E.2.1 1, 48, .inl fn)), (hc, .inl (E.2.1 2, 192, .inr (.inl fs))), (h, .inr (4, [.int (nI n), .int (nI r), .ref a, .ref b])), (a, .inl (E.2.1 1, 24, .inl f)), (b, .inl (E.2.1 1, 96, .inl gg))] 0 0
  refine ww_iconst (v := 0) C dX1_look_0 rfl ?_
  refine ww_istore_n (lv' := [(1, .int 0), (0, .ref qh)]) C dX1_look_1 rfl rfl rfl ?_
  have loop_2 : ∀ (fu : Nat) (k1 : Nat) (s1 : Nat → Int64), (k1 ≤ 4) → (LKx (cm1 (am n r f gg)) (rk (cm1 (am n r f gg)) rr) k1 0 s1) → 4 - k1 < fu → WW X 4 E 2 [(1, .int (nI k1)), (0, .ref qh)] [] [(qh, .inr (1, [.ref h, .null, .int (nI n), .ref ha, .ref hb, .ref hc])), (ha, .inl (E.2.1 1, 48, .inl fl)), (hb, .inl (E.2.1 1, 48, .inl fn)), (hc, .inl (E.2.1 2, 192, .inr (.inl s1))), (h, .inr (4, [.int (nI n), .int (nI r), .ref a, .ref b])), (a, .inl (E.2.1 1, 24, .inl f)), (b, .inl (E.2.1 1, 96, .inl gg))] 0 0 := by
    intro fu
    induction fu with
    | zero => intro k1 s1 hk1 hlk1 hmeas; exact absurd hmeas (Nat.not_lt_zero _)
    | succ fu ih_2 =>
      intro k1 s1 hk1 hlk1 hmeas
      refine ww_iload_n C dX1_look_2 0 rfl rfl ?_
      refine ww_iconst (v := 4) C dX1_look_3 rfl ?_
      refine ww_icmp_ge (tgt := 131) C dX1_look_4 (by decide) (fun c_1 => ?_) (fun c_1 => ?_)
      · have zc_1 : ((k1 : Nat) : Int) ≥ 4 := i_le rfl (nI_toInt (n := k1) (by omega)) c_1
        exact ww_vret (u := [(qh, .inr (1, [.ref h, .null, .int (nI n), .ref ha, .ref hb, .ref hc])), (ha, .inl (E.2.1 1, 48, .inl fl)), (hb, .inl (E.2.1 1, 48, .inl fn)), (hc, .inl (E.2.1 2, 192, .inr (.inl s1))), (h, .inr (4, [.int (nI n), .int (nI r), .ref a, .ref b])), (a, .inl (E.2.1 1, 24, .inl f)), (b, .inl (E.2.1 1, 96, .inl gg))]) C hT [0, 1, 2, 3, 4, 5, 6] rfl rfl rfl rfl dX1_look_131 (⟨s1, rfl, (by have h9 : k1 = 4 := (by omega); rw [h9] at hlk1; exact hlk1)⟩)
      · have zc_1 : ((k1 : Nat) : Int) < 4 := i_nle rfl (nI_toInt (n := k1) (by omega)) c_1
        refine ww_iconst (v := 0) C dX1_look_7 rfl ?_
        refine ww_istore_n (lv' := [(2, .int 0), (1, .int (nI k1)), (0, .ref qh)]) C dX1_look_8 rfl rfl rfl ?_
        have loop_9 : ∀ (fu : Nat) (i1 : Nat) (s2 : Nat → Int64), (i1 ≤ n) → (LKx (cm1 (am n r f gg)) (rk (cm1 (am n r f gg)) rr) k1 i1 s2) → n - i1 < fu → WW X 4 E 9 [(2, .int (nI i1)), (1, .int (nI k1)), (0, .ref qh)] [] [(qh, .inr (1, [.ref h, .null, .int (nI n), .ref ha, .ref hb, .ref hc])), (ha, .inl (E.2.1 1, 48, .inl fl)), (hb, .inl (E.2.1 1, 48, .inl fn)), (hc, .inl (E.2.1 2, 192, .inr (.inl s2))), (h, .inr (4, [.int (nI n), .int (nI r), .ref a, .ref b])), (a, .inl (E.2.1 1, 24, .inl f)), (b, .inl (E.2.1 1, 96, .inl gg))] 0 0 := by
          intro fu
          induction fu with
          | zero => intro i1 s2 hi1 hlk2 hmeas; exact absurd hmeas (Nat.not_lt_zero _)
          | succ fu ih_9 =>
            intro i1 s2 hi1 hlk2 hmeas
            refine ww_iload_n C dX1_look_9 0 rfl rfl ?_
            refine ww_aload_n C dX1_look_10 2 rfl rfl ?_
            refine ww_get C fg_X1_22 0 rfl rfl dX1_look_11 ?_
            refine ww_get C fg_X1_29 4 rfl rfl dX1_look_14 ?_
            refine ww_icmp_ge (tgt := 53) C dX1_look_17 (by decide) (fun c_2 => ?_) (fun c_2 => ?_)
            · have zc_2 : ((i1 : Nat) : Int) ≥ ((n : Nat) : Int) := i_le (nI_toInt (n := n) (by omega)) (nI_toInt (n := i1) (by omega)) c_2
              refine ww_aload_n C dX1_look_53 2 rfl rfl ?_
              refine ww_get C fg_X1_22 0 rfl rfl dX1_look_54 ?_
              refine ww_get C fg_X1_29 4 rfl rfl dX1_look_57 ?_
              refine ww_istore_n (lv' := [(2, .int (nI n)), (1, .int (nI k1)), (0, .ref qh)]) C dX1_look_60 rfl rfl rfl ?_
              refine ww_aload_n C dX1_look_61 2 rfl rfl ?_
              refine ww_get C fg_X1_26 0 rfl rfl dX1_look_62 ?_
              refine ww_ifnullN (tgt := 125) C dX1_look_65 (by decide) ?_
              refine ww_iinc (j := 1) (v := (nI (k1 + 1))) (lv' := [(1, .int (nI (k1 + 1))), (2, .int (nI n)), (0, .ref qh)]) C dX1_look_125 rfl (nI_add k1 1) rfl rfl ?_
              refine ww_goto (tgt := 2) C dX1_look_128 (by decide) ?_
              exact ww_lv [0, 2] rfl (ww_sub [0, 1, 2, 3, 4, 5, 6] rfl rfl (ih_2 (k1 + 1) s2 (by omega) (LKx.up hlk2 (by show n ≤ i1; omega)) (by omega)))
            · have zc_2 : ((i1 : Nat) : Int) < ((n : Nat) : Int) := i_nle (nI_toInt (n := n) (by omega)) (nI_toInt (n := i1) (by omega)) c_2
              refine ww_aload_n C dX1_look_20 2 rfl rfl ?_
              refine ww_get C fg_X1_18 0 rfl rfl dX1_look_21 ?_
              refine ww_iload_n C dX1_look_24 1 rfl rfl ?_
              refine ww_iconst (v := 2) C dX1_look_25 rfl ?_
              refine ww_imul (v := (nI (k1 * 2))) C dX1_look_26 (pk_mul k1 2) ?_
              refine ww_bipush (v := 24) C dX1_look_27 rfl ?_
              refine ww_imul (v := (nI ((k1 * 2) * 24))) C dX1_look_29 (pk_mul (k1 * 2) 24) ?_
              refine ww_iload_n C dX1_look_30 0 rfl rfl ?_
              refine ww_iadd (v := (nI (((k1 * 2) * 24) + i1))) C dX1_look_31 (nI_add ((k1 * 2) * 24) i1) ?_
              refine ww_aload_n C dX1_look_32 2 rfl rfl ?_
              refine ww_aload_n C dX1_look_33 2 rfl rfl ?_
              refine ww_get C fg_X1_22 0 rfl rfl dX1_look_34 ?_
              refine ww_iload_n C dX1_look_37 1 rfl rfl ?_
              refine ww_iload_n C dX1_look_38 0 rfl rfl ?_
              refine ww_ci (wr := [(qh, .inr (1, [.ref h, .null, .int (nI n), .ref ha, .ref hb, .ref hc])), (ha, .inl (E.2.1 1, 48, .inl fl)), (hb, .inl (E.2.1 1, 48, .inl fn)), (hc, .inl (E.2.1 2, 192, .inr (.inl s2)))]) (k' := 0) (n' := 0) C (run_V (As := [.int (nI k1), .int (nI i1)]) (rest := [.ref qh, .int (nI (((k1 * 2) * 24) + i1)), .ref hc]) C (m_held X.2.1 E ro h k1 i1 n r a b f gg (by omega) (by omega)) mi_X4_held wl_X1_43 rfl 0 4 rfl rfl rfl rfl rfl dX1_look_39) (roK hro) [4, 5, 6] [0, 1, 2, 3] rfl rfl rfl rfl (fun r_3 uz hw => ?_)
              refine an1 hw ?_
              clear hw
              intro he_4 hw
              have he_5 := hw
              clear hw
              have he_4 := he_4.symm
              subst he_4
              subst he_5
              refine ww_eq (ws' := [(qh, .inr (1, [.ref h, .null, .int (nI n), .ref ha, .ref hb, .ref hc])), (ha, .inl (E.2.1 1, 48, .inl fl)), (hb, .inl (E.2.1 1, 48, .inl fn)), (hc, .inl (E.2.1 2, 192, .inr (.inl s2))), (h, .inr (4, [.int (nI n), .int (nI r), .ref a, .ref b])), (a, .inl (E.2.1 1, 24, .inl f)), (b, .inl (E.2.1 1, 96, .inl gg))]) ?_ rfl rfl rfl
              refine ww_iconst (v := 0) C dX1_look_42 rfl ?_
              refine ww_cl (wr := [(hb, .inl (E.2.1 1, 48, .inl fn)), (hc, .inl (E.2.1 2, 192, .inr (.inl s2))), (h, .inr (4, [.int (nI n), .int (nI r), .ref a, .ref b])), (a, .inl (E.2.1 1, 24, .inl f)), (b, .inl (E.2.1 1, 96, .inl gg))]) (k' := 0) (n' := 0) C (run_V (As := [.int (gg (k1 * 24 + i1)), .int 0]) (rest := [.int (nI (((k1 * 2) * 24) + i1)), .ref hc]) C (h_heapsOf X.2.1 E ro qh (gg (k1 * 24 + i1)) 0 (.ref h) .null (nI n) ha hb hc fl (rk (cm1 (am n r f gg)) rr) (by omega) (fun v h1 h2 => lk_R hrk (show 0 + v < n by have h9 := hwf k1 i1 v (by rw [am_S (by omega) (by omega)]; exact h2); have h8 : v < n := h9; omega) (by omega))) mi_X1_heapsOf wl_X1_47 rfl 0 1 rfl rfl rfl rfl rfl dX1_look_43) (roK hro) [0, 1] [2, 3, 4, 5, 6] rfl rfl rfl rfl (fun r_6 uz hw => ?_)
              refine an1 hw ?_
              clear hw
              intro he_8 hw
              have h_7 := hw
              clear hw
              subst he_8
              refine ww_eq (ws' := [(hb, .inl (E.2.1 1, 48, .inl fn)), (hc, .inl (E.2.1 2, 192, .inr (.inl s2))), (h, .inr (4, [.int (nI n), .int (nI r), .ref a, .ref b])), (a, .inl (E.2.1 1, 24, .inl f)), (b, .inl (E.2.1 1, 96, .inl gg)), (qh, .inr (1, [.ref h, .null, .int (nI n), .ref ha, .ref hb, .ref hc])), (ha, .inl (E.2.1 1, 48, .inl fl))]) ?_ rfl rfl rfl
              obtain ⟨f_9, ef_9⟩ : ∃ z : Nat → Int64, vp_updL s2 (((k1 * 2) * 24) + i1) r_6 = z := ⟨_, rfl⟩
              refine ww_last (ws' := [(hb, .inl (E.2.1 1, 48, .inl fn)), (hc, .inl (E.2.1 2, 192, .inr (.inl f_9))), (h, .inr (4, [.int (nI n), .int (nI r), .ref a, .ref b])), (a, .inl (E.2.1 1, 24, .inl f)), (b, .inl (E.2.1 1, 96, .inl gg)), (qh, .inr (1, [.ref h, .null, .int (nI n), .ref ha, .ref hb, .ref hc])), (ha, .inl (E.2.1 1, 48, .inl fl))]) C 1 rfl (vp_in_nI (by omega) (by omega)) (ldn2 (by omega) ef_9) rfl dX1_look_46 ?_
              refine ww_iinc (j := 0) (v := (nI (i1 + 1))) (lv' := [(2, .int (nI (i1 + 1))), (1, .int (nI k1)), (0, .ref qh)]) C dX1_look_47 rfl (nI_add i1 1) rfl rfl ?_
              refine ww_goto (tgt := 9) C dX1_look_50 (by decide) ?_
              exact ww_lv [0, 1, 2] rfl (ww_sub [5, 6, 0, 1, 2, 3, 4] rfl rfl (ih_9 (i1 + 1) f_9 (by omega) (LKx.t hlk2 (by show n ≤ 48; omega) (by show i1 < n; omega) (hs_1 hn hwf (by omega) (by omega) h_7) ef_9) (by omega)))
        exact ww_lv [0, 1, 2] rfl (ww_sub [0, 1, 2, 3, 4, 5, 6] rfl rfl (loop_9 _ 0 s1 (by omega) hlk1 (Nat.lt_succ_self _)))
  exact ww_lv [0, 1] rfl (ww_sub [0, 1, 2, 3, 4, 5, 6] rfl rfl (loop_2 _ 0 fs (by omega) LKx.nil (Nat.lt_succ_self _)))
theorem dX1_alike_0 : decode cX1_alike 0 = .ok (.aload_n 0, 1) := dl_42 (by decide +kernel)
theorem dX1_alike_1 : decode cX1_alike 1 = .ok (.getfield 9, 3) := dl_180 (by decide +kernel)
theorem dX1_alike_4 : decode cX1_alike 4 = .ok (.iload_n 1, 1) := dl_27 (by decide +kernel)
theorem dX1_alike_5 : decode cX1_alike 5 = .ok (.iaload, 1) := dl_46 (by decide +kernel)
theorem dX1_alike_6 : decode cX1_alike 6 = .ok (.aload_n 0, 1) := dl_42 (by decide +kernel)
theorem dX1_alike_7 : decode cX1_alike 7 = .ok (.getfield 9, 3) := dl_180 (by decide +kernel)
theorem dX1_alike_10 : decode cX1_alike 10 = .ok (.iload_n 2, 1) := dl_28 (by decide +kernel)
theorem dX1_alike_11 : decode cX1_alike 11 = .ok (.iaload, 1) := dl_46 (by decide +kernel)
theorem dX1_alike_12 : decode cX1_alike 12 = .ok (.if_icmp .eq 5, 3) := dl_159 (by decide +kernel)
theorem dX1_alike_17 : decode cX1_alike 17 = .ok (.iconst 0, 1) := dl_3 (by decide +kernel)
theorem dX1_alike_18 : decode cX1_alike 18 = .ok (.istore_n 3, 1) := dl_62 (by decide +kernel)
theorem dX1_alike_19 : decode cX1_alike 19 = .ok (.iload_n 3, 1) := dl_29 (by decide +kernel)
theorem dX1_alike_20 : decode cX1_alike 20 = .ok (.iconst 4, 1) := dl_7 (by decide +kernel)
theorem dX1_alike_21 : decode cX1_alike 21 = .ok (.if_icmp .ge 41, 3) := dl_162 (by decide +kernel)
theorem dX1_alike_62 : decode cX1_alike 62 = .ok (.iconst 1, 1) := dl_4 (by decide +kernel)
theorem dX1_alike_63 : decode cX1_alike 63 = .ok (.ireturn, 1) := dl_172 (by decide +kernel)
theorem dX1_alike_24 : decode cX1_alike 24 = .ok (.aload_n 0, 1) := dl_42 (by decide +kernel)
theorem dX1_alike_25 : decode cX1_alike 25 = .ok (.getfield 18, 3) := dl_180 (by decide +kernel)
theorem dX1_alike_28 : decode cX1_alike 28 = .ok (.iload_n 3, 1) := dl_29 (by decide +kernel)
theorem dX1_alike_29 : decode cX1_alike 29 = .ok (.iconst 2, 1) := dl_5 (by decide +kernel)
theorem dX1_alike_30 : decode cX1_alike 30 = .ok (.imul, 1) := dl_104 (by decide +kernel)
theorem dX1_alike_31 : decode cX1_alike 31 = .ok (.bipush 24, 2) := dl_16 (by decide +kernel)
theorem dX1_alike_33 : decode cX1_alike 33 = .ok (.imul, 1) := dl_104 (by decide +kernel)
theorem dX1_alike_34 : decode cX1_alike 34 = .ok (.iload_n 1, 1) := dl_27 (by decide +kernel)
theorem dX1_alike_35 : decode cX1_alike 35 = .ok (.iadd, 1) := dl_96 (by decide +kernel)
theorem dX1_alike_36 : decode cX1_alike 36 = .ok (.laload, 1) := dl_47 (by decide +kernel)
theorem dX1_alike_37 : decode cX1_alike 37 = .ok (.aload_n 0, 1) := dl_42 (by decide +kernel)
theorem dX1_alike_38 : decode cX1_alike 38 = .ok (.getfield 18, 3) := dl_180 (by decide +kernel)
theorem dX1_alike_41 : decode cX1_alike 41 = .ok (.iload_n 3, 1) := dl_29 (by decide +kernel)
theorem dX1_alike_42 : decode cX1_alike 42 = .ok (.iconst 2, 1) := dl_5 (by decide +kernel)
theorem dX1_alike_43 : decode cX1_alike 43 = .ok (.imul, 1) := dl_104 (by decide +kernel)
theorem dX1_alike_44 : decode cX1_alike 44 = .ok (.bipush 24, 2) := dl_16 (by decide +kernel)
theorem dX1_alike_46 : decode cX1_alike 46 = .ok (.imul, 1) := dl_104 (by decide +kernel)
theorem dX1_alike_47 : decode cX1_alike 47 = .ok (.iload_n 2, 1) := dl_28 (by decide +kernel)
theorem dX1_alike_48 : decode cX1_alike 48 = .ok (.iadd, 1) := dl_96 (by decide +kernel)
theorem dX1_alike_49 : decode cX1_alike 49 = .ok (.laload, 1) := dl_47 (by decide +kernel)
theorem dX1_alike_50 : decode cX1_alike 50 = .ok (.lcmp, 1) := dl_148 (by decide +kernel)
theorem dX1_alike_51 : decode cX1_alike 51 = .ok (.ifCond .eq 5, 3) := dl_153 (by decide +kernel)
theorem dX1_alike_56 : decode cX1_alike 56 = .ok (.iinc 3 1, 3) := dl_132 (by decide +kernel)
theorem dX1_alike_59 : decode cX1_alike 59 = .ok (.goto (-40), 3) := dl_167 (by decide +kernel)
theorem dX1_alike_54 : decode cX1_alike 54 = .ok (.iconst 0, 1) := dl_3 (by decide +kernel)
theorem dX1_alike_55 : decode cX1_alike 55 = .ok (.ireturn, 1) := dl_172 (by decide +kernel)
theorem dX1_alike_15 : decode cX1_alike 15 = .ok (.iconst 0, 1) := dl_3 (by decide +kernel)
theorem dX1_alike_16 : decode cX1_alike 16 = .ok (.ireturn, 1) := dl_172 (by decide +kernel)
set_option maxRecDepth 100000 in
set_option maxHeartbeats 4000000 in
theorem h_alike (l : Launch) (E : EV) (ro : va_W) (qh : Nat) (i : Nat) (j : Nat) (l0 : Value) (l1 : Value) (x2 : Int32) (ha : Nat) (hb : Nat) (hc : Nat) (fl : Nat → Int32) (fs : Nat → Int64) (hi : i < 48) (hj : j < 48) : CT l yX1_alike (Cond.code yX1_alike cX1_alike 4 (some .boolean) :: TB) ({ frames := 0, cells := 0, slots := 0, locals := 0 }) E ro [.ref qh, .int (nI i), .int (nI j)] [(qh, .inr (1, [l0, l1, .int x2, .ref ha, .ref hb, .ref hc])), (ha, .inl (E.2.1 1, 48, .inl fl)), (hc, .inl (E.2.1 2, 192, .inr (.inl fs)))] (Qi E (fun (rz : Int32) uz => (rz = 1 ∧ uz = [(qh, .inr (1, [l0, l1, .int x2, .ref ha, .ref hb, .ref hc])), (ha, .inl (E.2.1 1, 48, .inl fl)), (hc, .inl (E.2.1 2, 192, .inr (.inl fs)))] ∧ (ALx fl fs i j)) ∨ (rz = 0 ∧ uz = [(qh, .inr (1, [l0, l1, .int x2, .ref ha, .ref hb, .ref hc])), (ha, .inl (E.2.1 1, 48, .inl fl)), (hc, .inl (E.2.1 2, 192, .inr (.inl fs)))] ∧ (¬ ALx fl fs i j)))) 0 0 := by
  refine ct_of rfl rfl ?_
  intro X C hT hin hro
  show WW X 4 E 0 [(0, .ref qh), (1, .int (nI i)), (2, .int (nI j))] [] [(qh, .inr (1, [l0, l1, .int x2, .ref ha, .ref hb, .ref hc])), (ha, .inl (E.2.1 1, 48, .inl fl)), (hc, .inl (E.2.1 2, 192, .inr (.inl fs)))] 0 0
  refine ww_aload_n C dX1_alike_0 0 rfl rfl ?_
  refine ww_get C fg_X1_9 0 rfl rfl dX1_alike_1 ?_
  refine ww_iload_n C dX1_alike_4 1 rfl rfl ?_
  obtain ⟨x_1, ex_1⟩ : ∃ z : Int32, fl i = z := ⟨_, rfl⟩
  refine ww_iald (v := x_1) C 1 rfl (vp_in_nI (by omega) (by omega)) (ldn (by omega) ex_1) dX1_alike_5 ?_
  refine ww_aload_n C dX1_alike_6 0 rfl rfl ?_
  refine ww_get C fg_X1_9 0 rfl rfl dX1_alike_7 ?_
  refine ww_iload_n C dX1_alike_10 2 rfl rfl ?_
  obtain ⟨x_2, ex_2⟩ : ∃ z : Int32, fl j = z := ⟨_, rfl⟩
  refine ww_iald (v := x_2) C 1 rfl (vp_in_nI (by omega) (by omega)) (ldn (by omega) ex_2) dX1_alike_11 ?_
  refine ww_icmp_eq (tgt := 17) C dX1_alike_12 (by decide) (fun c_3 => ?_) (fun c_3 => ?_)
  · have zc_3 : x_1.toInt = x_2.toInt := i_eq rfl rfl c_3
    refine ww_iconst (v := 0) C dX1_alike_17 rfl ?_
    refine ww_istore_n (lv' := [(3, .int 0), (0, .ref qh), (1, .int (nI i)), (2, .int (nI j))]) C dX1_alike_18 rfl rfl rfl ?_
    have loop_19 : ∀ (fu : Nat) (k1 : Nat), (k1 ≤ 4) → (SEx fs i j k1) → 4 - k1 < fu → WW X 4 E 19 [(3, .int (nI k1)), (0, .ref qh), (1, .int (nI i)), (2, .int (nI j))] [] [(qh, .inr (1, [l0, l1, .int x2, .ref ha, .ref hb, .ref hc])), (ha, .inl (E.2.1 1, 48, .inl fl)), (hc, .inl (E.2.1 2, 192, .inr (.inl fs)))] 0 0 := by
      intro fu
      induction fu with
      | zero => intro k1 hk1 hse hmeas; exact absurd hmeas (Nat.not_lt_zero _)
      | succ fu ih_19 =>
        intro k1 hk1 hse hmeas
        refine ww_iload_n C dX1_alike_19 0 rfl rfl ?_
        refine ww_iconst (v := 4) C dX1_alike_20 rfl ?_
        refine ww_icmp_ge (tgt := 62) C dX1_alike_21 (by decide) (fun c_4 => ?_) (fun c_4 => ?_)
        · have zc_4 : ((k1 : Nat) : Int) ≥ 4 := i_le rfl (nI_toInt (n := k1) (by omega)) c_4
          refine ww_iconst (v := 1) C dX1_alike_62 rfl ?_
          exact ww_zret (u := [(qh, .inr (1, [l0, l1, .int x2, .ref ha, .ref hb, .ref hc])), (ha, .inl (E.2.1 1, 48, .inl fl)), (hc, .inl (E.2.1 2, 192, .inr (.inl fs)))]) C hT [0, 1, 2] rfl rfl rfl rfl rfl dX1_alike_63 (Or.inl ⟨rfl, rfl, (⟨by simp only [*], by rw [show k1 = 4 by omega] at hse; exact hse⟩)⟩)
        · have zc_4 : ((k1 : Nat) : Int) < 4 := i_nle rfl (nI_toInt (n := k1) (by omega)) c_4
          refine ww_aload_n C dX1_alike_24 1 rfl rfl ?_
          refine ww_get C fg_X1_18 0 rfl rfl dX1_alike_25 ?_
          refine ww_iload_n C dX1_alike_28 0 rfl rfl ?_
          refine ww_iconst (v := 2) C dX1_alike_29 rfl ?_
          refine ww_imul (v := (nI (k1 * 2))) C dX1_alike_30 (pk_mul k1 2) ?_
          refine ww_bipush (v := 24) C dX1_alike_31 rfl ?_
          refine ww_imul (v := (nI ((k1 * 2) * 24))) C dX1_alike_33 (pk_mul (k1 * 2) 24) ?_
          refine ww_iload_n C dX1_alike_34 2 rfl rfl ?_
          refine ww_iadd (v := (nI (((k1 * 2) * 24) + i))) C dX1_alike_35 (nI_add ((k1 * 2) * 24) i) ?_
          obtain ⟨x_5, ex_5⟩ : ∃ z : Int64, fs (((k1 * 2) * 24) + i) = z := ⟨_, rfl⟩
          refine ww_lald (v := x_5) C 2 rfl (vp_in_nI (by omega) (by omega)) (ldn (by omega) ex_5) dX1_alike_36 ?_
          refine ww_aload_n C dX1_alike_37 1 rfl rfl ?_
          refine ww_get C fg_X1_18 0 rfl rfl dX1_alike_38 ?_
          refine ww_iload_n C dX1_alike_41 0 rfl rfl ?_
          refine ww_iconst (v := 2) C dX1_alike_42 rfl ?_
          refine ww_imul (v := (nI (k1 * 2))) C dX1_alike_43 (pk_mul k1 2) ?_
          refine ww_bipush (v := 24) C dX1_alike_44 rfl ?_
          refine ww_imul (v := (nI ((k1 * 2) * 24))) C dX1_alike_46 (pk_mul (k1 * 2) 24) ?_
          refine ww_iload_n C dX1_alike_47 3 rfl rfl ?_
          refine ww_iadd (v := (nI (((k1 * 2) * 24) + j))) C dX1_alike_48 (nI_add ((k1 * 2) * 24) j) ?_
          obtain ⟨x_6, ex_6⟩ : ∃ z : Int64, fs (((k1 * 2) * 24) + j) = z := ⟨_, rfl⟩
          refine ww_lald (v := x_6) C 2 rfl (vp_in_nI (by omega) (by omega)) (ldn (by omega) ex_6) dX1_alike_49 ?_
          refine ww_lcmp (v := lg_cmp x_5 x_6) C dX1_alike_50 rfl ?_
          refine ww_if_eq (tgt := 56) C dX1_alike_51 (by decide) (fun c_8 => ?_) (fun c_8 => ?_)
          · have zc_8 : x_5.toInt = x_6.toInt := lc_eq_t rfl rfl c_8
            refine ww_iinc (j := 0) (v := (nI (k1 + 1))) (lv' := [(3, .int (nI (k1 + 1))), (0, .ref qh), (1, .int (nI i)), (2, .int (nI j))]) C dX1_alike_56 rfl (nI_add k1 1) rfl rfl ?_
            refine ww_goto (tgt := 19) C dX1_alike_59 (by decide) ?_
            exact ww_lv [0, 1, 2, 3] rfl (ww_sub [0, 1, 2] rfl rfl (ih_19 (k1 + 1) (by omega) (SEx.ext hse (by assumption) (by assumption) (by assumption)) (by omega)))
          · have zc_8 : x_5.toInt ≠ x_6.toInt := lc_eq_f rfl rfl c_8
            refine ww_iconst (v := 0) C dX1_alike_54 rfl ?_
            exact ww_zret (u := [(qh, .inr (1, [l0, l1, .int x2, .ref ha, .ref hb, .ref hc])), (ha, .inl (E.2.1 1, 48, .inl fl)), (hc, .inl (E.2.1 2, 192, .inr (.inl fs)))]) C hT [0, 1, 2] rfl rfl rfl rfl rfl dX1_alike_55 (Or.inr ⟨rfl, rfl, (ALx.no2 (k := k1) (by omega) (by assumption) (by assumption) (by assumption))⟩)
    exact ww_lv [0, 1, 2, 3] rfl (ww_sub [0, 1, 2] rfl rfl (loop_19 _ 0 (by omega) SEx.zero (Nat.lt_succ_self _)))
  · have zc_3 : x_1.toInt ≠ x_2.toInt := i_ne rfl rfl c_3
    refine ww_iconst (v := 0) C dX1_alike_15 rfl ?_
    exact ww_zret (u := [(qh, .inr (1, [l0, l1, .int x2, .ref ha, .ref hb, .ref hc])), (ha, .inl (E.2.1 1, 48, .inl fl)), (hc, .inl (E.2.1 2, 192, .inr (.inl fs)))]) C hT [0, 1, 2] rfl rfl rfl rfl rfl dX1_alike_16 (Or.inr ⟨rfl, rfl, (ALx.no1 (by assumption) (by assumption) (by assumption))⟩)
theorem dX1_part_0 : decode cX1_part 0 = .ok (.aload_n 0, 1) := dl_42 (by decide +kernel)
theorem dX1_part_1 : decode cX1_part 1 = .ok (.invokevirtual 55, 3) := dl_182 (by decide +kernel)
theorem wl_X1_55 : Cond.methodLink RX1 55 yX1_look ∈ TB := tbm (tq4 (List.mem_of_getElem? (i := 129) (by decide +kernel))) (by decide +kernel)
theorem wc_X1_look : Cond.code yX1_look cX1_look 4 none ∈ TB := tbm (tq4 (List.mem_of_getElem? (i := 132) (rfl))) (by decide +kernel)
theorem wi_X1_look : Cond.instanceMethod yX1_look ∈ TB := tbm (tq4 (List.mem_of_getElem? (i := 131) (by decide +kernel))) (by decide +kernel)
theorem ws_X1_look : Cond.selects RX1 yX1_look yX1_look ∈ TB := tbm (tq0 (List.mem_of_getElem? (i := 28) (by decide +kernel))) (by decide +kernel)
theorem mi_X1_look : MI yX1_look cX1_look 4 none 0 := ⟨wc_X1_look, wn_X1, ⟨by decide +kernel, by decide +kernel, by decide +kernel⟩, wi_X1_look, ws_X1_look⟩
theorem dX1_part_4 : decode cX1_part 4 = .ok (.iconst 0, 1) := dl_3 (by decide +kernel)
theorem dX1_part_5 : decode cX1_part 5 = .ok (.istore_n 1, 1) := dl_60 (by decide +kernel)
theorem dX1_part_6 : decode cX1_part 6 = .ok (.iload_n 1, 1) := dl_27 (by decide +kernel)
theorem dX1_part_7 : decode cX1_part 7 = .ok (.aload_n 0, 1) := dl_42 (by decide +kernel)
theorem dX1_part_8 : decode cX1_part 8 = .ok (.getfield 35, 3) := dl_180 (by decide +kernel)
theorem dX1_part_11 : decode cX1_part 11 = .ok (.if_icmp .ge 43, 3) := dl_162 (by decide +kernel)
theorem dX1_part_54 : decode cX1_part 54 = .ok (.iconst 0, 1) := dl_3 (by decide +kernel)
theorem dX1_part_55 : decode cX1_part 55 = .ok (.istore_n 1, 1) := dl_60 (by decide +kernel)
theorem dX1_part_56 : decode cX1_part 56 = .ok (.iconst 0, 1) := dl_3 (by decide +kernel)
theorem dX1_part_57 : decode cX1_part 57 = .ok (.istore_n 2, 1) := dl_61 (by decide +kernel)
theorem dX1_part_58 : decode cX1_part 58 = .ok (.iload_n 2, 1) := dl_28 (by decide +kernel)
theorem dX1_part_59 : decode cX1_part 59 = .ok (.aload_n 0, 1) := dl_42 (by decide +kernel)
theorem dX1_part_60 : decode cX1_part 60 = .ok (.getfield 35, 3) := dl_180 (by decide +kernel)
theorem dX1_part_63 : decode cX1_part 63 = .ok (.if_icmp .ge 46, 3) := dl_162 (by decide +kernel)
theorem dX1_part_109 : decode cX1_part 109 = .ok (.iload_n 1, 1) := dl_27 (by decide +kernel)
theorem dX1_part_110 : decode cX1_part 110 = .ok (.ireturn, 1) := dl_172 (by decide +kernel)
theorem dX1_part_66 : decode cX1_part 66 = .ok (.iload_n 1, 1) := dl_27 (by decide +kernel)
theorem dX1_part_67 : decode cX1_part 67 = .ok (.ifCond .ne 18, 3) := dl_154 (by decide +kernel)
theorem dX1_part_70 : decode cX1_part 70 = .ok (.aload_n 0, 1) := dl_42 (by decide +kernel)
theorem dX1_part_71 : decode cX1_part 71 = .ok (.getfield 15, 3) := dl_180 (by decide +kernel)
theorem wf_X1_15 : Cond.fieldLink RX1 15 RX1 "next" "[I" ∈ TB := tbm (tq2 (List.mem_of_getElem? (i := 2) (by decide +kernel))) (by decide +kernel)
theorem fg_X1_15 : FG RX1 15 1 4 := ⟨RX1, TX1, 6, uw_X1, wf_X1_15, rfl, by decide, rfl⟩
theorem dX1_part_74 : decode cX1_part 74 = .ok (.iload_n 2, 1) := dl_28 (by decide +kernel)
theorem dX1_part_75 : decode cX1_part 75 = .ok (.iaload, 1) := dl_46 (by decide +kernel)
theorem dX1_part_76 : decode cX1_part 76 = .ok (.aload_n 0, 1) := dl_42 (by decide +kernel)
theorem dX1_part_77 : decode cX1_part 77 = .ok (.getfield 9, 3) := dl_180 (by decide +kernel)
theorem dX1_part_80 : decode cX1_part 80 = .ok (.iload_n 2, 1) := dl_28 (by decide +kernel)
theorem dX1_part_81 : decode cX1_part 81 = .ok (.iaload, 1) := dl_46 (by decide +kernel)
theorem dX1_part_82 : decode cX1_part 82 = .ok (.if_icmp .eq 7, 3) := dl_159 (by decide +kernel)
theorem dX1_part_89 : decode cX1_part 89 = .ok (.iconst 0, 1) := dl_3 (by decide +kernel)
theorem dX1_part_90 : decode cX1_part 90 = .ok (.istore_n 1, 1) := dl_60 (by decide +kernel)
theorem dX1_part_91 : decode cX1_part 91 = .ok (.aload_n 0, 1) := dl_42 (by decide +kernel)
theorem dX1_part_92 : decode cX1_part 92 = .ok (.getfield 9, 3) := dl_180 (by decide +kernel)
theorem dX1_part_95 : decode cX1_part 95 = .ok (.iload_n 2, 1) := dl_28 (by decide +kernel)
theorem dX1_part_96 : decode cX1_part 96 = .ok (.aload_n 0, 1) := dl_42 (by decide +kernel)
theorem dX1_part_97 : decode cX1_part 97 = .ok (.getfield 15, 3) := dl_180 (by decide +kernel)
theorem dX1_part_100 : decode cX1_part 100 = .ok (.iload_n 2, 1) := dl_28 (by decide +kernel)
theorem dX1_part_101 : decode cX1_part 101 = .ok (.iaload, 1) := dl_46 (by decide +kernel)
theorem dX1_part_102 : decode cX1_part 102 = .ok (.iastore, 1) := dl_79 (by decide +kernel)
theorem dX1_part_103 : decode cX1_part 103 = .ok (.iinc 2 1, 3) := dl_132 (by decide +kernel)
theorem dX1_part_106 : decode cX1_part 106 = .ok (.goto (-48), 3) := dl_167 (by decide +kernel)
theorem dX1_part_85 : decode cX1_part 85 = .ok (.iconst 1, 1) := dl_4 (by decide +kernel)
theorem dX1_part_86 : decode cX1_part 86 = .ok (.goto 4, 3) := dl_167 (by decide +kernel)
theorem dX1_part_14 : decode cX1_part 14 = .ok (.aload_n 0, 1) := dl_42 (by decide +kernel)
theorem dX1_part_15 : decode cX1_part 15 = .ok (.getfield 9, 3) := dl_180 (by decide +kernel)
theorem dX1_part_18 : decode cX1_part 18 = .ok (.iload_n 1, 1) := dl_27 (by decide +kernel)
theorem dX1_part_19 : decode cX1_part 19 = .ok (.iaload, 1) := dl_46 (by decide +kernel)
theorem dX1_part_20 : decode cX1_part 20 = .ok (.istore_n 2, 1) := dl_61 (by decide +kernel)
theorem dX1_part_21 : decode cX1_part 21 = .ok (.iload_n 2, 1) := dl_28 (by decide +kernel)
theorem dX1_part_22 : decode cX1_part 22 = .ok (.iload_n 1, 1) := dl_27 (by decide +kernel)
theorem dX1_part_23 : decode cX1_part 23 = .ok (.if_icmp .ge 18, 3) := dl_162 (by decide +kernel)
theorem dX1_part_41 : decode cX1_part 41 = .ok (.aload_n 0, 1) := dl_42 (by decide +kernel)
theorem dX1_part_42 : decode cX1_part 42 = .ok (.getfield 15, 3) := dl_180 (by decide +kernel)
theorem dX1_part_45 : decode cX1_part 45 = .ok (.iload_n 1, 1) := dl_27 (by decide +kernel)
theorem dX1_part_46 : decode cX1_part 46 = .ok (.iload_n 2, 1) := dl_28 (by decide +kernel)
theorem dX1_part_47 : decode cX1_part 47 = .ok (.iastore, 1) := dl_79 (by decide +kernel)
theorem dX1_part_48 : decode cX1_part 48 = .ok (.iinc 1 1, 3) := dl_132 (by decide +kernel)
theorem dX1_part_51 : decode cX1_part 51 = .ok (.goto (-45), 3) := dl_167 (by decide +kernel)
theorem dX1_part_26 : decode cX1_part 26 = .ok (.aload_n 0, 1) := dl_42 (by decide +kernel)
theorem dX1_part_27 : decode cX1_part 27 = .ok (.iload_n 1, 1) := dl_27 (by decide +kernel)
theorem dX1_part_28 : decode cX1_part 28 = .ok (.iload_n 2, 1) := dl_28 (by decide +kernel)
theorem dX1_part_29 : decode cX1_part 29 = .ok (.invokevirtual 58, 3) := dl_182 (by decide +kernel)
theorem wl_X1_58 : Cond.methodLink RX1 58 yX1_alike ∈ TB := tbm (tq4 (List.mem_of_getElem? (i := 139) (by decide +kernel))) (by decide +kernel)
theorem wc_X1_alike : Cond.code yX1_alike cX1_alike 4 (some .boolean) ∈ TB := tbm (tq4 (List.mem_of_getElem? (i := 142) (rfl))) (by decide +kernel)
theorem wi_X1_alike : Cond.instanceMethod yX1_alike ∈ TB := tbm (tq4 (List.mem_of_getElem? (i := 141) (by decide +kernel))) (by decide +kernel)
theorem ws_X1_alike : Cond.selects RX1 yX1_alike yX1_alike ∈ TB := tbm (tq0 (List.mem_of_getElem? (i := 30) (by decide +kernel))) (by decide +kernel)
theorem mi_X1_alike : MI yX1_alike cX1_alike 4 (some .boolean) 2 := ⟨wc_X1_alike, wn_X1, ⟨by decide +kernel, by decide +kernel, by decide +kernel⟩, wi_X1_alike, ws_X1_alike⟩
theorem dX1_part_32 : decode cX1_part 32 = .ok (.ifCond .ne 9, 3) := dl_154 (by decide +kernel)
theorem dX1_part_35 : decode cX1_part 35 = .ok (.iinc 2 1, 3) := dl_132 (by decide +kernel)
theorem dX1_part_38 : decode cX1_part 38 = .ok (.goto (-17), 3) := dl_167 (by decide +kernel)
set_option maxRecDepth 100000 in
set_option maxHeartbeats 4000000 in
theorem h_partN (l : Launch) (E : EV) (ro : va_W) (qh : Nat) (h : Nat) (n : Nat) (ha : Nat) (hb : Nat) (hc : Nat) (fl : Nat → Int32) (fn : Nat → Int32) (fs : Nat → Int64) (r : Nat) (a : Nat) (b : Nat) (f : Nat → Int32) (gg : Nat → Int32) (rr : Nat) (hn : n ≤ 24) (hr : r < n ∨ r = 0) (hwf : WFm (am n r f gg)) (hrng : RNG 48 48 fl) (hli : LI n fl) (hrk : RKx (cm1 (am n r f gg)) (n) (rr) fl) : CT l yX1_part (Cond.code yX1_part cX1_part 3 (some .boolean) :: TB) ({ frames := 3, cells := 0, slots := 0, locals := 69 }) E ro [.ref qh] [(qh, .inr (1, [.ref h, .null, .int (nI n), .ref ha, .ref hb, .ref hc])), (ha, .inl (E.2.1 1, 48, .inl fl)), (hb, .inl (E.2.1 1, 48, .inl fn)), (hc, .inl (E.2.1 2, 192, .inr (.inl fs))), (h, .inr (4, [.int (nI n), .int (nI r), .ref a, .ref b])), (a, .inl (E.2.1 1, 24, .inl f)), (b, .inl (E.2.1 1, 96, .inl gg))] (Qi E (fun (rz : Int32) uz => (∃ (flz : Nat → Int32) (fnz : Nat → Int32) (fsz : Nat → Int64), rz = 1 ∧ uz = [(qh, .inr (1, [.ref h, .null, .int (nI n), .ref ha, .ref hb, .ref hc])), (ha, .inl (E.2.1 1, 48, .inl flz)), (hb, .inl (E.2.1 1, 48, .inl fnz)), (hc, .inl (E.2.1 2, 192, .inr (.inl fsz))), (h, .inr (4, [.int (nI n), .int (nI r), .ref a, .ref b])), (a, .inl (E.2.1 1, 24, .inl f)), (b, .inl (E.2.1 1, 96, .inl gg))] ∧ (RNG 48 48 flz) ∧ (LI n flz) ∧ (RKx (cm1 (am n r f gg)) (n) (rr + 1) flz) ∧ (∃ i, i < n ∧ rk (cm1 (am n r f gg)) (rr + 1) i ≠ rk (cm1 (am n r f gg)) rr i)) ∨ (∃ (flz : Nat → Int32) (fnz : Nat → Int32) (fsz : Nat → Int64), rz = 0 ∧ uz = [(qh, .inr (1, [.ref h, .null, .int (nI n), .ref ha, .ref hb, .ref hc])), (ha, .inl (E.2.1 1, 48, .inl flz)), (hb, .inl (E.2.1 1, 48, .inl fnz)), (hc, .inl (E.2.1 2, 192, .inr (.inl fsz))), (h, .inr (4, [.int (nI n), .int (nI r), .ref a, .ref b])), (a, .inl (E.2.1 1, 24, .inl f)), (b, .inl (E.2.1 1, 96, .inl gg))] ∧ (RNG 48 48 flz) ∧ (LI n flz) ∧ (RKx (cm1 (am n r f gg)) (n) (rr + 1) flz) ∧ (∀ i, i < n → rk (cm1 (am n r f gg)) (rr + 1) i = rk (cm1 (am n r f gg)) rr i)))) 0 0 := by
  refine ct_of rfl rfl ?_
  intro X C hT hin hro
  show WW X 3 E 0 [(0, .ref qh)] [] [(qh, .inr (1, [.ref h, .null, .int (nI n), .ref ha, .ref hb, .ref hc])), (ha, .inl (E.2.1 1, 48, .inl fl)), (hb, .inl (E.2.1 1, 48, .inl fn)), (hc, .inl (E.2.1 2, 192, .inr (.inl fs))), (h, .inr (4, [.int (nI n), .int (nI r), .ref a, .ref b])), (a, .inl (E.2.1 1, 24, .inl f)), (b, .inl (E.2.1 1, 96, .inl gg))] 0 0
  refine ww_aload_n C dX1_part_0 0 rfl rfl ?_
  refine ww_cv (wr := []) (k' := 0) (n' := 0) C (run_V (As := []) (rest := []) C (h_lookN X.2.1 E ro qh h n ha hb hc fl fn fs r a b f gg rr (by omega) (by omega) hwf hrk) mi_X1_look wl_X1_55 rfl 0 1 rfl rfl rfl rfl rfl dX1_part_1) (roK hro) [0, 1, 2, 3, 4, 5, 6] [] rfl rfl (plk (by decide +kernel)) rfl (fun uz hw => ?_)
  refine ex1 hw ?_
  clear hw
  intro fsz_2 hw
  refine an1 hw ?_
  clear hw
  intro he_4 hw
  have h_3 := hw
  clear hw
  subst he_4
  refine ww_eq (ws' := [(qh, .inr (1, [.ref h, .null, .int (nI n), .ref ha, .ref hb, .ref hc])), (ha, .inl (E.2.1 1, 48, .inl fl)), (hb, .inl (E.2.1 1, 48, .inl fn)), (hc, .inl (E.2.1 2, 192, .inr (.inl fsz_2))), (h, .inr (4, [.int (nI n), .int (nI r), .ref a, .ref b])), (a, .inl (E.2.1 1, 24, .inl f)), (b, .inl (E.2.1 1, 96, .inl gg))]) ?_ rfl rfl rfl
  refine ww_iconst (v := 0) C dX1_part_4 rfl ?_
  refine ww_istore_n (lv' := [(1, .int 0), (0, .ref qh)]) C dX1_part_5 rfl rfl rfl ?_
  have loop_6 : ∀ (fu : Nat) (i1 : Nat) (n1 : Nat → Int32), (i1 ≤ n) → (HPx i1 fl fsz_2 n1) → n - i1 < fu → WW X 3 E 6 [(1, .int (nI i1)), (0, .ref qh)] [] [(qh, .inr (1, [.ref h, .null, .int (nI n), .ref ha, .ref hb, .ref hc])), (ha, .inl (E.2.1 1, 48, .inl fl)), (hb, .inl (E.2.1 1, 48, .inl n1)), (hc, .inl (E.2.1 2, 192, .inr (.inl fsz_2))), (h, .inr (4, [.int (nI n), .int (nI r), .ref a, .ref b])), (a, .inl (E.2.1 1, 24, .inl f)), (b, .inl (E.2.1 1, 96, .inl gg))] 0 0 := by
    intro fu
    induction fu with
    | zero => intro i1 n1 hi1 hp1 hmeas; exact absurd hmeas (Nat.not_lt_zero _)
    | succ fu ih_6 =>
      intro i1 n1 hi1 hp1 hmeas
      refine ww_iload_n C dX1_part_6 0 rfl rfl ?_
      refine ww_aload_n C dX1_part_7 1 rfl rfl ?_
      refine ww_get C fg_X1_35 0 rfl rfl dX1_part_8 ?_
      refine ww_icmp_ge (tgt := 54) C dX1_part_11 (by decide) (fun c_5 => ?_) (fun c_5 => ?_)
      · have zc_5 : ((i1 : Nat) : Int) ≥ ((n : Nat) : Int) := i_le (nI_toInt (n := n) (by omega)) (nI_toInt (n := i1) (by omega)) c_5
        refine ww_iconst (v := 0) C dX1_part_54 rfl ?_
        refine ww_istore_n (lv' := [(1, .int 0), (0, .ref qh)]) C dX1_part_55 rfl rfl rfl ?_
        refine ww_iconst (v := 0) C dX1_part_56 rfl ?_
        refine ww_istore_n (lv' := [(2, .int 0), (1, .int 0), (0, .ref qh)]) C dX1_part_57 rfl rfl rfl ?_
        have hi1n : i1 = n := by omega
        have hp1n := hp1
        rw [hi1n] at hp1n
        have loop_58 : ∀ (fu : Nat) (i2 : Nat) (pd : Nat) (l1 : Nat → Int32), (i2 ≤ n) → (pd ≤ 1) → (∀ v, i2 ≤ v → l1 v = fl v) → (pd = 1 ↔ ∃ i, i < i2 ∧ n1 i ≠ fl i) → (RNG 48 48 l1) → (CPx i2 n1 l1) → n - i2 < fu → WW X 3 E 58 [(2, .int (nI i2)), (1, .int (nI pd)), (0, .ref qh)] [] [(qh, .inr (1, [.ref h, .null, .int (nI n), .ref ha, .ref hb, .ref hc])), (ha, .inl (E.2.1 1, 48, .inl l1)), (hb, .inl (E.2.1 1, 48, .inl n1)), (hc, .inl (E.2.1 2, 192, .inr (.inl fsz_2))), (h, .inr (4, [.int (nI n), .int (nI r), .ref a, .ref b])), (a, .inl (E.2.1 1, 24, .inl f)), (b, .inl (E.2.1 1, 96, .inl gg))] 0 0 := by
          intro fu
          induction fu with
          | zero => intro i2 pd l1 hi2 hpd hkp hpa hr2_ hcp hmeas; exact absurd hmeas (Nat.not_lt_zero _)
          | succ fu ih_58 =>
            intro i2 pd l1 hi2 hpd hkp hpa hr2_ hcp hmeas
            refine ww_iload_n C dX1_part_58 0 rfl rfl ?_
            refine ww_aload_n C dX1_part_59 2 rfl rfl ?_
            refine ww_get C fg_X1_35 0 rfl rfl dX1_part_60 ?_
            refine ww_icmp_ge (tgt := 109) C dX1_part_63 (by decide) (fun c_6 => ?_) (fun c_6 => ?_)
            · have zc_6 : ((i2 : Nat) : Int) ≥ ((n : Nat) : Int) := i_le (nI_toInt (n := n) (by omega)) (nI_toInt (n := i2) (by omega)) c_6
              rcases (show pd = 0 ∨ pd = 1 by omega) with rfl | rfl
              · refine ww_iload_n C dX1_part_109 1 rfl rfl ?_
                exact ww_zret (u := [(qh, .inr (1, [.ref h, .null, .int (nI n), .ref ha, .ref hb, .ref hc])), (ha, .inl (E.2.1 1, 48, .inl l1)), (hb, .inl (E.2.1 1, 48, .inl n1)), (hc, .inl (E.2.1 2, 192, .inr (.inl fsz_2))), (h, .inr (4, [.int (nI n), .int (nI r), .ref a, .ref b])), (a, .inl (E.2.1 1, 24, .inl f)), (b, .inl (E.2.1 1, 96, .inl gg))]) C hT [0, 1, 2, 3, 4, 5, 6] rfl rfl rfl rfl rfl dX1_part_110 (Or.inr ⟨l1, n1, fsz_2, rfl, rfl, hr2_, (LI.cp (HPx.LI hp1n (by omega)) (by have h9 : i2 = n := (by omega); rw [← h9]; exact hcp)), (cp_rk (c := (cm1 (am n r f gg))) (hp_rk (c := (cm1 (am n r f gg))) (by show n ≤ 48; omega) hrk h_3 hp1n) (by have h9 : i2 = n := (by omega); rw [h9] at hcp; exact hcp)), (pa_n (c := (cm1 (am n r f gg))) hrk (hp_rk (c := (cm1 (am n r f gg))) (by show n ≤ 48; omega) hrk h_3 hp1n) (by show n ≤ 48; omega) (by have h9 : i2 = n := (by omega); rw [h9] at hpa; exact fun h8 => absurd (hpa.mpr h8) (by decide)))⟩)
              · refine ww_iload_n C dX1_part_109 1 rfl rfl ?_
                exact ww_zret (u := [(qh, .inr (1, [.ref h, .null, .int (nI n), .ref ha, .ref hb, .ref hc])), (ha, .inl (E.2.1 1, 48, .inl l1)), (hb, .inl (E.2.1 1, 48, .inl n1)), (hc, .inl (E.2.1 2, 192, .inr (.inl fsz_2))), (h, .inr (4, [.int (nI n), .int (nI r), .ref a, .ref b])), (a, .inl (E.2.1 1, 24, .inl f)), (b, .inl (E.2.1 1, 96, .inl gg))]) C hT [0, 1, 2, 3, 4, 5, 6] rfl rfl rfl rfl rfl dX1_part_110 (Or.inl ⟨l1, n1, fsz_2, rfl, rfl, hr2_, (LI.cp (HPx.LI hp1n (by omega)) (by have h9 : i2 = n := (by omega); rw [← h9]; exact hcp)), (cp_rk (c := (cm1 (am n r f gg))) (hp_rk (c := (cm1 (am n r f gg))) (by show n ≤ 48; omega) hrk h_3 hp1n) (by have h9 : i2 = n := (by omega); rw [h9] at hcp; exact hcp)), (pa_y (c := (cm1 (am n r f gg))) hrk (hp_rk (c := (cm1 (am n r f gg))) (by show n ≤ 48; omega) hrk h_3 hp1n) (by show n ≤ 48; omega) (by have h9 : i2 = n := (by omega); rw [h9] at hpa; exact hpa.mp rfl))⟩)
            · have zc_6 : ((i2 : Nat) : Int) < ((n : Nat) : Int) := i_nle (nI_toInt (n := n) (by omega)) (nI_toInt (n := i2) (by omega)) c_6
              rcases (show pd = 0 ∨ pd = 1 by omega) with rfl | rfl
              · refine ww_iload_n C dX1_part_66 1 rfl rfl ?_
                refine ww_if_ne_f (tgt := 85) C dX1_part_67 (by decide) (rfl) ?_
                refine ww_aload_n C dX1_part_70 2 rfl rfl ?_
                refine ww_get C fg_X1_15 0 rfl rfl dX1_part_71 ?_
                refine ww_iload_n C dX1_part_74 0 rfl rfl ?_
                obtain ⟨x_7, ex_7⟩ : ∃ z : Int32, n1 i2 = z := ⟨_, rfl⟩
                refine ww_iald (v := x_7) C 2 rfl (vp_in_nI (by omega) (by omega)) (ldn (by omega) ex_7) dX1_part_75 ?_
                refine ww_aload_n C dX1_part_76 2 rfl rfl ?_
                refine ww_get C fg_X1_9 0 rfl rfl dX1_part_77 ?_
                refine ww_iload_n C dX1_part_80 0 rfl rfl ?_
                obtain ⟨x_8, ex_8⟩ : ∃ z : Int32, l1 i2 = z := ⟨_, rfl⟩
                refine ww_iald (v := x_8) C 1 rfl (vp_in_nI (by omega) (by omega)) (ldn (by omega) ex_8) dX1_part_81 ?_
                refine ww_icmp_eq (tgt := 89) C dX1_part_82 (by decide) (fun c_9 => ?_) (fun c_9 => ?_)
                · have zc_9 : x_7.toInt = x_8.toInt := i_eq rfl rfl c_9
                  refine ww_iconst (v := 0) C dX1_part_89 rfl ?_
                  refine ww_istore_n (lv' := [(1, .int 0), (2, .int (nI i2)), (0, .ref qh)]) C dX1_part_90 rfl rfl rfl ?_
                  refine ww_aload_n C dX1_part_91 2 rfl rfl ?_
                  refine ww_get C fg_X1_9 0 rfl rfl dX1_part_92 ?_
                  refine ww_iload_n C dX1_part_95 1 rfl rfl ?_
                  refine ww_aload_n C dX1_part_96 2 rfl rfl ?_
                  refine ww_get C fg_X1_15 0 rfl rfl dX1_part_97 ?_
                  refine ww_iload_n C dX1_part_100 1 rfl rfl ?_
                  obtain ⟨x_10, ex_10⟩ : ∃ z : Int32, n1 i2 = z := ⟨_, rfl⟩
                  refine ww_iald (v := x_10) C 2 rfl (vp_in_nI (by omega) (by omega)) (ldn (by omega) ex_10) dX1_part_101 ?_
                  obtain ⟨f_11, ef_11⟩ : ∃ z : Nat → Int32, upd l1 i2 x_10 = z := ⟨_, rfl⟩
                  refine ww_iast (ws' := [(qh, .inr (1, [.ref h, .null, .int (nI n), .ref ha, .ref hb, .ref hc])), (ha, .inl (E.2.1 1, 48, .inl f_11)), (hb, .inl (E.2.1 1, 48, .inl n1)), (hc, .inl (E.2.1 2, 192, .inr (.inl fsz_2))), (h, .inr (4, [.int (nI n), .int (nI r), .ref a, .ref b])), (a, .inl (E.2.1 1, 24, .inl f)), (b, .inl (E.2.1 1, 96, .inl gg))]) C 1 rfl (vp_in_nI (by omega) (by omega)) (ldn2 (by omega) ef_11) rfl dX1_part_102 ?_
                  obtain ⟨j9, hj9, ej9⟩ := HPx.at hp1n (i := i2) (by omega)
                  refine ww_iinc (j := 1) (v := (nI (i2 + 1))) (lv' := [(2, .int (nI (i2 + 1))), (1, .int 0), (0, .ref qh)]) C dX1_part_103 rfl (nI_add i2 1) rfl rfl ?_
                  refine ww_goto (tgt := 58) C dX1_part_106 (by decide) ?_
                  exact ww_lv [0, 1, 2] rfl (ww_sub [0, 1, 2, 3, 4, 5, 6] rfl rfl (ih_58 (i2 + 1) 0 f_11 (by omega) (by omega) (fun v hv => by rw [← ef_11, pk_un (by omega)]; exact hkp v (by omega)) (pa_2 hpa (by omega) (ex_7.trans ((Int32.toInt_inj.mp zc_9).trans (ex_8.symm.trans (hkp i2 (Nat.le_refl _)))))) (RNG.put (k := i2) hr2_ (t := j9) (by omega) (by rw [← ej9, show n1 i2 = x_10 by assumption]; exact ef_11)) (CPx.ext hcp (by assumption) ef_11) (by omega)))
                · have zc_9 : x_7.toInt ≠ x_8.toInt := i_ne rfl rfl c_9
                  refine ww_iconst (v := 1) C dX1_part_85 rfl ?_
                  refine ww_goto (tgt := 90) C dX1_part_86 (by decide) ?_
                  refine ww_istore_n (lv' := [(1, .int 1), (2, .int (nI i2)), (0, .ref qh)]) C dX1_part_90 rfl rfl rfl ?_
                  refine ww_aload_n C dX1_part_91 2 rfl rfl ?_
                  refine ww_get C fg_X1_9 0 rfl rfl dX1_part_92 ?_
                  refine ww_iload_n C dX1_part_95 1 rfl rfl ?_
                  refine ww_aload_n C dX1_part_96 2 rfl rfl ?_
                  refine ww_get C fg_X1_15 0 rfl rfl dX1_part_97 ?_
                  refine ww_iload_n C dX1_part_100 1 rfl rfl ?_
                  obtain ⟨x_12, ex_12⟩ : ∃ z : Int32, n1 i2 = z := ⟨_, rfl⟩
                  refine ww_iald (v := x_12) C 2 rfl (vp_in_nI (by omega) (by omega)) (ldn (by omega) ex_12) dX1_part_101 ?_
                  obtain ⟨f_13, ef_13⟩ : ∃ z : Nat → Int32, upd l1 i2 x_12 = z := ⟨_, rfl⟩
                  refine ww_iast (ws' := [(qh, .inr (1, [.ref h, .null, .int (nI n), .ref ha, .ref hb, .ref hc])), (ha, .inl (E.2.1 1, 48, .inl f_13)), (hb, .inl (E.2.1 1, 48, .inl n1)), (hc, .inl (E.2.1 2, 192, .inr (.inl fsz_2))), (h, .inr (4, [.int (nI n), .int (nI r), .ref a, .ref b])), (a, .inl (E.2.1 1, 24, .inl f)), (b, .inl (E.2.1 1, 96, .inl gg))]) C 1 rfl (vp_in_nI (by omega) (by omega)) (ldn2 (by omega) ef_13) rfl dX1_part_102 ?_
                  obtain ⟨j9, hj9, ej9⟩ := HPx.at hp1n (i := i2) (by omega)
                  refine ww_iinc (j := 1) (v := (nI (i2 + 1))) (lv' := [(2, .int (nI (i2 + 1))), (1, .int 1), (0, .ref qh)]) C dX1_part_103 rfl (nI_add i2 1) rfl rfl ?_
                  refine ww_goto (tgt := 58) C dX1_part_106 (by decide) ?_
                  exact ww_lv [0, 1, 2] rfl (ww_sub [0, 1, 2, 3, 4, 5, 6] rfl rfl (ih_58 (i2 + 1) 1 f_13 (by omega) (by omega) (fun v hv => by rw [← ef_13, pk_un (by omega)]; exact hkp v (by omega)) (pa_1 hpa (fun h9 => zc_9 (congrArg Int32.toInt (ex_7.symm.trans (h9.trans ((hkp i2 (Nat.le_refl _)).symm.trans ex_8))))) rfl) (RNG.put (k := i2) hr2_ (t := j9) (by omega) (by rw [← ej9, show n1 i2 = x_12 by assumption]; exact ef_13)) (CPx.ext hcp (by assumption) ef_13) (by omega)))
              · refine ww_iload_n C dX1_part_66 1 rfl rfl ?_
                refine ww_if_ne_t (tgt := 85) C dX1_part_67 (by decide) (by decide) ?_
                refine ww_iconst (v := 1) C dX1_part_85 rfl ?_
                refine ww_goto (tgt := 90) C dX1_part_86 (by decide) ?_
                refine ww_istore_n (lv' := [(1, .int 1), (2, .int (nI i2)), (0, .ref qh)]) C dX1_part_90 rfl rfl rfl ?_
                refine ww_aload_n C dX1_part_91 2 rfl rfl ?_
                refine ww_get C fg_X1_9 0 rfl rfl dX1_part_92 ?_
                refine ww_iload_n C dX1_part_95 1 rfl rfl ?_
                refine ww_aload_n C dX1_part_96 2 rfl rfl ?_
                refine ww_get C fg_X1_15 0 rfl rfl dX1_part_97 ?_
                refine ww_iload_n C dX1_part_100 1 rfl rfl ?_
                obtain ⟨x_14, ex_14⟩ : ∃ z : Int32, n1 i2 = z := ⟨_, rfl⟩
                refine ww_iald (v := x_14) C 2 rfl (vp_in_nI (by omega) (by omega)) (ldn (by omega) ex_14) dX1_part_101 ?_
                obtain ⟨f_15, ef_15⟩ : ∃ z : Nat → Int32, upd l1 i2 x_14 = z := ⟨_, rfl⟩
                refine ww_iast (ws' := [(qh, .inr (1, [.ref h, .null, .int (nI n), .ref ha, .ref hb, .ref hc])), (ha, .inl (E.2.1 1, 48, .inl f_15)), (hb, .inl (E.2.1 1, 48, .inl n1)), (hc, .inl (E.2.1 2, 192, .inr (.inl fsz_2))), (h, .inr (4, [.int (nI n), .int (nI r), .ref a, .ref b])), (a, .inl (E.2.1 1, 24, .inl f)), (b, .inl (E.2.1 1, 96, .inl gg))]) C 1 rfl (vp_in_nI (by omega) (by omega)) (ldn2 (by omega) ef_15) rfl dX1_part_102 ?_
                obtain ⟨j9, hj9, ej9⟩ := HPx.at hp1n (i := i2) (by omega)
                refine ww_iinc (j := 1) (v := (nI (i2 + 1))) (lv' := [(2, .int (nI (i2 + 1))), (1, .int 1), (0, .ref qh)]) C dX1_part_103 rfl (nI_add i2 1) rfl rfl ?_
                refine ww_goto (tgt := 58) C dX1_part_106 (by decide) ?_
                exact ww_lv [0, 1, 2] rfl (ww_sub [0, 1, 2, 3, 4, 5, 6] rfl rfl (ih_58 (i2 + 1) 1 f_15 (by omega) (by omega) (fun v hv => by rw [← ef_15, pk_un (by omega)]; exact hkp v (by omega)) (pa_3 hpa (by omega) rfl) (RNG.put (k := i2) hr2_ (t := j9) (by omega) (by rw [← ej9, show n1 i2 = x_14 by assumption]; exact ef_15)) (CPx.ext hcp (by assumption) ef_15) (by omega)))
        exact ww_lv [0, 1, 2] rfl (ww_sub [0, 1, 2, 3, 4, 5, 6] rfl rfl (loop_58 _ 0 0 fl (by omega) (by omega) (fun _ _ => rfl) (pa_0 (by omega)) hrng CPx.zero (Nat.lt_succ_self _)))
      · have zc_5 : ((i1 : Nat) : Int) < ((n : Nat) : Int) := i_nle (nI_toInt (n := n) (by omega)) (nI_toInt (n := i1) (by omega)) c_5
        refine ww_aload_n C dX1_part_14 1 rfl rfl ?_
        refine ww_get C fg_X1_9 0 rfl rfl dX1_part_15 ?_
        refine ww_iload_n C dX1_part_18 0 rfl rfl ?_
        obtain ⟨lo_17, hlo_17, elo_17⟩ := LI.at hli (i := i1) (by omega)
        refine ww_iald (v := (nI lo_17)) C 1 rfl (vp_in_nI (by omega) (by omega)) (ldn (by omega) elo_17) dX1_part_19 ?_
        refine ww_istore_n (lv' := [(2, .int (nI lo_17)), (1, .int (nI i1)), (0, .ref qh)]) C dX1_part_20 rfl rfl rfl ?_
        have loop_21 : ∀ (fu : Nat) (j1 : Nat), (lo_17 ≤ j1) → (j1 ≤ i1) → (∀ v, lo_17 ≤ v → v < j1 → ¬ ALx fl fsz_2 i1 v) → i1 - j1 < fu → WW X 3 E 21 [(2, .int (nI j1)), (1, .int (nI i1)), (0, .ref qh)] [] [(qh, .inr (1, [.ref h, .null, .int (nI n), .ref ha, .ref hb, .ref hc])), (ha, .inl (E.2.1 1, 48, .inl fl)), (hb, .inl (E.2.1 1, 48, .inl n1)), (hc, .inl (E.2.1 2, 192, .inr (.inl fsz_2))), (h, .inr (4, [.int (nI n), .int (nI r), .ref a, .ref b])), (a, .inl (E.2.1 1, 24, .inl f)), (b, .inl (E.2.1 1, 96, .inl gg))] 0 0 := by
          intro fu
          induction fu with
          | zero => intro j1 hj0 hj1 hv1 hmeas; exact absurd hmeas (Nat.not_lt_zero _)
          | succ fu ih_21 =>
            intro j1 hj0 hj1 hv1 hmeas
            refine ww_iload_n C dX1_part_21 0 rfl rfl ?_
            refine ww_iload_n C dX1_part_22 1 rfl rfl ?_
            refine ww_icmp_ge (tgt := 41) C dX1_part_23 (by decide) (fun c_18 => ?_) (fun c_18 => ?_)
            · have zc_18 : ((j1 : Nat) : Int) ≥ ((i1 : Nat) : Int) := i_le (nI_toInt (n := i1) (by omega)) (nI_toInt (n := j1) (by omega)) c_18
              refine ww_aload_n C dX1_part_41 2 rfl rfl ?_
              refine ww_get C fg_X1_15 0 rfl rfl dX1_part_42 ?_
              refine ww_iload_n C dX1_part_45 1 rfl rfl ?_
              refine ww_iload_n C dX1_part_46 0 rfl rfl ?_
              obtain ⟨f_19, ef_19⟩ : ∃ z : Nat → Int32, upd n1 i1 (nI j1) = z := ⟨_, rfl⟩
              refine ww_iast (ws' := [(qh, .inr (1, [.ref h, .null, .int (nI n), .ref ha, .ref hb, .ref hc])), (ha, .inl (E.2.1 1, 48, .inl fl)), (hb, .inl (E.2.1 1, 48, .inl f_19)), (hc, .inl (E.2.1 2, 192, .inr (.inl fsz_2))), (h, .inr (4, [.int (nI n), .int (nI r), .ref a, .ref b])), (a, .inl (E.2.1 1, 24, .inl f)), (b, .inl (E.2.1 1, 96, .inl gg))]) C 2 rfl (vp_in_nI (by omega) (by omega)) (ldn2 (by omega) ef_19) rfl dX1_part_47 ?_
              refine ww_iinc (j := 1) (v := (nI (i1 + 1))) (lv' := [(1, .int (nI (i1 + 1))), (2, .int (nI j1)), (0, .ref qh)]) C dX1_part_48 rfl (nI_add i1 1) rfl rfl ?_
              refine ww_goto (tgt := 6) C dX1_part_51 (by decide) ?_
              exact ww_lv [0, 2] rfl (ww_sub [0, 1, 2, 3, 4, 5, 6] rfl rfl (ih_6 (i1 + 1) f_19 (by omega) (HPx.ext hp1 elo_17 hj0 hj1 (by rw [show j1 = i1 by omega]; exact ALx.rf) hv1 ef_19) (by omega)))
            · have zc_18 : ((j1 : Nat) : Int) < ((i1 : Nat) : Int) := i_nle (nI_toInt (n := i1) (by omega)) (nI_toInt (n := j1) (by omega)) c_18
              refine ww_aload_n C dX1_part_26 2 rfl rfl ?_
              refine ww_iload_n C dX1_part_27 1 rfl rfl ?_
              refine ww_iload_n C dX1_part_28 0 rfl rfl ?_
              refine ww_ci (wr := [(hb, .inl (E.2.1 1, 48, .inl n1)), (h, .inr (4, [.int (nI n), .int (nI r), .ref a, .ref b])), (a, .inl (E.2.1 1, 24, .inl f)), (b, .inl (E.2.1 1, 96, .inl gg))]) (k' := 0) (n' := 0) C (run_V (As := [.int (nI i1), .int (nI j1)]) (rest := []) C (h_alike X.2.1 E ro qh i1 j1 (.ref h) .null (nI n) ha hb hc fl fsz_2 (by omega) (by omega)) mi_X1_alike wl_X1_58 rfl 0 1 rfl rfl rfl rfl rfl dX1_part_29) (roK hro) [0, 1, 3] [2, 4, 5, 6] rfl rfl rfl rfl (fun r_20 uz hw => ?_)
              rcases hw with hw | hw
              · refine an2 hw ?_
                clear hw
                intro he_22 he_23 hw
                have h_21 := hw
                clear hw
                have he_22 := he_22.symm
                subst he_22
                subst he_23
                refine ww_eq (ws' := [(hb, .inl (E.2.1 1, 48, .inl n1)), (h, .inr (4, [.int (nI n), .int (nI r), .ref a, .ref b])), (a, .inl (E.2.1 1, 24, .inl f)), (b, .inl (E.2.1 1, 96, .inl gg)), (qh, .inr (1, [.ref h, .null, .int (nI n), .ref ha, .ref hb, .ref hc])), (ha, .inl (E.2.1 1, 48, .inl fl)), (hc, .inl (E.2.1 2, 192, .inr (.inl fsz_2)))]) ?_ rfl rfl rfl
                refine ww_if_ne_t (tgt := 41) C dX1_part_32 (by decide) (by decide) ?_
                refine ww_aload_n C dX1_part_41 2 rfl rfl ?_
                refine ww_get C fg_X1_15 4 rfl rfl dX1_part_42 ?_
                refine ww_iload_n C dX1_part_45 1 rfl rfl ?_
                refine ww_iload_n C dX1_part_46 0 rfl rfl ?_
                obtain ⟨f_27, ef_27⟩ : ∃ z : Nat → Int32, upd n1 i1 (nI j1) = z := ⟨_, rfl⟩
                refine ww_iast (ws' := [(hb, .inl (E.2.1 1, 48, .inl f_27)), (h, .inr (4, [.int (nI n), .int (nI r), .ref a, .ref b])), (a, .inl (E.2.1 1, 24, .inl f)), (b, .inl (E.2.1 1, 96, .inl gg)), (qh, .inr (1, [.ref h, .null, .int (nI n), .ref ha, .ref hb, .ref hc])), (ha, .inl (E.2.1 1, 48, .inl fl)), (hc, .inl (E.2.1 2, 192, .inr (.inl fsz_2)))]) C 0 rfl (vp_in_nI (by omega) (by omega)) (ldn2 (by omega) ef_27) rfl dX1_part_47 ?_
                refine ww_iinc (j := 1) (v := (nI (i1 + 1))) (lv' := [(1, .int (nI (i1 + 1))), (2, .int (nI j1)), (0, .ref qh)]) C dX1_part_48 rfl (nI_add i1 1) rfl rfl ?_
                refine ww_goto (tgt := 6) C dX1_part_51 (by decide) ?_
                exact ww_lv [0, 2] rfl (ww_sub [4, 5, 0, 6, 1, 2, 3] rfl rfl (ih_6 (i1 + 1) f_27 (by omega) (HPx.ext hp1 elo_17 hj0 hj1 (by assumption) hv1 ef_27) (by omega)))
              · refine an2 hw ?_
                clear hw
                intro he_25 he_26 hw
                have h_24 := hw
                clear hw
                have he_25 := he_25.symm
                subst he_25
                subst he_26
                refine ww_eq (ws' := [(hb, .inl (E.2.1 1, 48, .inl n1)), (h, .inr (4, [.int (nI n), .int (nI r), .ref a, .ref b])), (a, .inl (E.2.1 1, 24, .inl f)), (b, .inl (E.2.1 1, 96, .inl gg)), (qh, .inr (1, [.ref h, .null, .int (nI n), .ref ha, .ref hb, .ref hc])), (ha, .inl (E.2.1 1, 48, .inl fl)), (hc, .inl (E.2.1 2, 192, .inr (.inl fsz_2)))]) ?_ rfl rfl rfl
                refine ww_if_ne_f (tgt := 41) C dX1_part_32 (by decide) (rfl) ?_
                refine ww_iinc (j := 0) (v := (nI (j1 + 1))) (lv' := [(2, .int (nI (j1 + 1))), (1, .int (nI i1)), (0, .ref qh)]) C dX1_part_35 rfl (nI_add j1 1) rfl rfl ?_
                refine ww_goto (tgt := 21) C dX1_part_38 (by decide) ?_
                exact ww_lv [0, 1, 2] rfl (ww_sub [4, 5, 0, 6, 1, 2, 3] rfl rfl (ih_21 (j1 + 1) (by omega) (by omega) (fun v h1 h2 => if hk : v = j1 then (by rw [hk]; assumption) else hv1 v h1 (by omega)) (by omega)))
        exact ww_lv [0, 1, 2] rfl (ww_sub [0, 1, 2, 3, 4, 5, 6] rfl rfl (loop_21 _ lo_17 (by omega) (by omega) (fun v h1 h2 => absurd h2 (by omega)) (Nat.lt_succ_self _)))
  exact ww_lv [0, 1] rfl (ww_sub [0, 1, 2, 3, 4, 5, 6] rfl rfl (loop_6 _ 0 fn (by omega) HPx.zero (Nat.lt_succ_self _)))
theorem dX1_settle_0 : decode cX1_settle 0 = .ok (.aload_n 0, 1) := dl_42 (by decide +kernel)
theorem dX1_settle_1 : decode cX1_settle 1 = .ok (.aload_n 1, 1) := dl_43 (by decide +kernel)
theorem dX1_settle_2 : decode cX1_settle 2 = .ok (.aload_n 2, 1) := dl_44 (by decide +kernel)
theorem dX1_settle_3 : decode cX1_settle 3 = .ok (.invokevirtual 61, 3) := dl_182 (by decide +kernel)
theorem wl_X1_61 : Cond.methodLink RX1 61 yX1_begin ∈ TB := tbm (tq4 (List.mem_of_getElem? (i := 117) (by decide +kernel))) (by decide +kernel)
theorem wc_X1_begin : Cond.code yX1_begin cX1_begin 5 none ∈ TB := tbm (tq4 (List.mem_of_getElem? (i := 120) (rfl))) (by decide +kernel)
theorem wi_X1_begin : Cond.instanceMethod yX1_begin ∈ TB := tbm (tq4 (List.mem_of_getElem? (i := 119) (by decide +kernel))) (by decide +kernel)
theorem ws_X1_begin : Cond.selects RX1 yX1_begin yX1_begin ∈ TB := tbm (tq0 (List.mem_of_getElem? (i := 25) (by decide +kernel))) (by decide +kernel)
theorem mi_X1_begin : MI yX1_begin cX1_begin 5 none 2 := ⟨wc_X1_begin, wn_X1, ⟨by decide +kernel, by decide +kernel, by decide +kernel⟩, wi_X1_begin, ws_X1_begin⟩
theorem dX1_settle_6 : decode cX1_settle 6 = .ok (.iconst 0, 1) := dl_3 (by decide +kernel)
theorem dX1_settle_7 : decode cX1_settle 7 = .ok (.istore_n 3, 1) := dl_62 (by decide +kernel)
theorem dX1_settle_8 : decode cX1_settle 8 = .ok (.iload_n 3, 1) := dl_29 (by decide +kernel)
theorem dX1_settle_9 : decode cX1_settle 9 = .ok (.aload_n 0, 1) := dl_42 (by decide +kernel)
theorem dX1_settle_10 : decode cX1_settle 10 = .ok (.getfield 35, 3) := dl_180 (by decide +kernel)
theorem dX1_settle_13 : decode cX1_settle 13 = .ok (.if_icmp .ge 16, 3) := dl_162 (by decide +kernel)
theorem dX1_settle_29 : decode cX1_settle 29 = .ok (.return_, 1) := dl_177 (by decide +kernel)
theorem dX1_settle_16 : decode cX1_settle 16 = .ok (.aload_n 0, 1) := dl_42 (by decide +kernel)
theorem dX1_settle_17 : decode cX1_settle 17 = .ok (.invokevirtual 65, 3) := dl_182 (by decide +kernel)
theorem wl_X1_65 : Cond.methodLink RX1 65 yX1_part ∈ TB := tbm (tq4 (List.mem_of_getElem? (i := 125) (by decide +kernel))) (by decide +kernel)
theorem wc_X1_part : Cond.code yX1_part cX1_part 3 (some .boolean) ∈ TB := tbm (tq4 (List.mem_of_getElem? (i := 128) (rfl))) (by decide +kernel)
theorem wi_X1_part : Cond.instanceMethod yX1_part ∈ TB := tbm (tq4 (List.mem_of_getElem? (i := 127) (by decide +kernel))) (by decide +kernel)
theorem ws_X1_part : Cond.selects RX1 yX1_part yX1_part ∈ TB := tbm (tq0 (List.mem_of_getElem? (i := 27) (by decide +kernel))) (by decide +kernel)
theorem mi_X1_part : MI yX1_part cX1_part 3 (some .boolean) 0 := ⟨wc_X1_part, wn_X1, ⟨by decide +kernel, by decide +kernel, by decide +kernel⟩, wi_X1_part, ws_X1_part⟩
theorem dX1_settle_20 : decode cX1_settle 20 = .ok (.ifCond .eq 9, 3) := dl_153 (by decide +kernel)
theorem dX1_settle_23 : decode cX1_settle 23 = .ok (.iinc 3 1, 3) := dl_132 (by decide +kernel)
theorem dX1_settle_26 : decode cX1_settle 26 = .ok (.goto (-18), 3) := dl_167 (by decide +kernel)
set_option maxRecDepth 100000 in
set_option maxHeartbeats 4000000 in
theorem h_settleN (l : Launch) (E : EV) (ro : va_W) (qh : Nat) (h : Nat) (l0 : Value) (l1 : Value) (x2 : Int32) (ha : Nat) (hb : Nat) (hc : Nat) (fl : Nat → Int32) (fn : Nat → Int32) (fs : Nat → Int64) (n : Nat) (r : Nat) (a : Nat) (b : Nat) (f : Nat → Int32) (gg : Nat → Int32) (hn : n ≤ 24) (hr : r < n ∨ r = 0) (hwf : WFm (am n r f gg)) (hrng : RNG 48 48 fl) : CT l yX1_settle (Cond.code yX1_settle cX1_settle 4 none :: TB) ({ frames := 4, cells := 0, slots := 0, locals := 91 }) E ro [.ref qh, .ref h, .null] [(qh, .inr (1, [l0, l1, .int x2, .ref ha, .ref hb, .ref hc])), (ha, .inl (E.2.1 1, 48, .inl fl)), (hb, .inl (E.2.1 1, 48, .inl fn)), (hc, .inl (E.2.1 2, 192, .inr (.inl fs))), (h, .inr (4, [.int (nI n), .int (nI r), .ref a, .ref b])), (a, .inl (E.2.1 1, 24, .inl f)), (b, .inl (E.2.1 1, 96, .inl gg))] (Qv E (fun uz => (∃ (flz : Nat → Int32) (fnz : Nat → Int32) (fsz : Nat → Int64), uz = [(qh, .inr (1, [.ref h, .null, .int (nI n), .ref ha, .ref hb, .ref hc])), (ha, .inl (E.2.1 1, 48, .inl flz)), (hb, .inl (E.2.1 1, 48, .inl fnz)), (hc, .inl (E.2.1 2, 192, .inr (.inl fsz))), (h, .inr (4, [.int (nI n), .int (nI r), .ref a, .ref b])), (a, .inl (E.2.1 1, 24, .inl f)), (b, .inl (E.2.1 1, 96, .inl gg))] ∧ (RNG 48 48 flz) ∧ (LI n flz) ∧ (RKx (cm1 (am n r f gg)) (n) (n) flz)))) 0 0 := by
  refine ct_of rfl rfl ?_
  intro X C hT hin hro
  show WW X 4 E 0 [(0, .ref qh), (1, .ref h), (2, .null)] [] [(qh, .inr (1, [l0, l1, .int x2, .ref ha, .ref hb, .ref hc])), (ha, .inl (E.2.1 1, 48, .inl fl)), (hb, .inl (E.2.1 1, 48, .inl fn)), (hc, .inl (E.2.1 2, 192, .inr (.inl fs))), (h, .inr (4, [.int (nI n), .int (nI r), .ref a, .ref b])), (a, .inl (E.2.1 1, 24, .inl f)), (b, .inl (E.2.1 1, 96, .inl gg))] 0 0
  refine ww_aload_n C dX1_settle_0 0 rfl rfl ?_
  refine ww_aload_n C dX1_settle_1 1 rfl rfl ?_
  refine ww_aload_nN C dX1_settle_2 2 rfl rfl ?_
  refine ww_cv (wr := []) (k' := 0) (n' := 0) C (run_V (As := [.ref h, .null]) (rest := []) C (h_beginN X.2.1 E ro qh h l0 l1 x2 ha hb hc fl fn fs n r a b f gg (by omega) (by omega) hrng) mi_X1_begin wl_X1_61 rfl 0 1 rfl rfl rfl rfl rfl dX1_settle_3) (roK hro) [0, 1, 2, 3, 4, 5, 6] [] rfl rfl (plk (by decide +kernel)) rfl (fun uz hw => ?_)
  refine ex1 hw ?_
  clear hw
  intro flz_2 hw
  refine an3 hw ?_
  clear hw
  intro he_6 h_3 h_4 hw
  have h_5 := hw
  clear hw
  subst he_6
  refine ww_eq (ws' := [(qh, .inr (1, [.ref h, .null, .int (nI n), .ref ha, .ref hb, .ref hc])), (ha, .inl (E.2.1 1, 48, .inl flz_2)), (hb, .inl (E.2.1 1, 48, .inl fn)), (hc, .inl (E.2.1 2, 192, .inr (.inl fs))), (h, .inr (4, [.int (nI n), .int (nI r), .ref a, .ref b])), (a, .inl (E.2.1 1, 24, .inl f)), (b, .inl (E.2.1 1, 96, .inl gg))]) ?_ rfl rfl rfl
  refine ww_iconst (v := 0) C dX1_settle_6 rfl ?_
  refine ww_istore_n (lv' := [(3, .int 0), (0, .ref qh), (1, .ref h), (2, .null)]) C dX1_settle_7 rfl rfl rfl ?_
  have loop_8 : ∀ (fu : Nat) (i1 : Nat) (l1 : Nat → Int32) (n1 : Nat → Int32) (s1 : Nat → Int64), (i1 ≤ n) → (RNG 48 48 l1) → (LI n l1) → (RKx (cm1 (am n r f gg)) (n) (i1) l1) → n - i1 < fu → WW X 4 E 8 [(3, .int (nI i1)), (0, .ref qh), (1, .ref h), (2, .null)] [] [(qh, .inr (1, [.ref h, .null, .int (nI n), .ref ha, .ref hb, .ref hc])), (ha, .inl (E.2.1 1, 48, .inl l1)), (hb, .inl (E.2.1 1, 48, .inl n1)), (hc, .inl (E.2.1 2, 192, .inr (.inl s1))), (h, .inr (4, [.int (nI n), .int (nI r), .ref a, .ref b])), (a, .inl (E.2.1 1, 24, .inl f)), (b, .inl (E.2.1 1, 96, .inl gg))] 0 0 := by
    intro fu
    induction fu with
    | zero => intro i1 l1 n1 s1 hi1 hr1 hl1 hrk1 hmeas; exact absurd hmeas (Nat.not_lt_zero _)
    | succ fu ih_8 =>
      intro i1 l1 n1 s1 hi1 hr1 hl1 hrk1 hmeas
      refine ww_iload_n C dX1_settle_8 0 rfl rfl ?_
      refine ww_aload_n C dX1_settle_9 1 rfl rfl ?_
      refine ww_get C fg_X1_35 0 rfl rfl dX1_settle_10 ?_
      refine ww_icmp_ge (tgt := 29) C dX1_settle_13 (by decide) (fun c_7 => ?_) (fun c_7 => ?_)
      · have zc_7 : ((i1 : Nat) : Int) ≥ ((n : Nat) : Int) := i_le (nI_toInt (n := n) (by omega)) (nI_toInt (n := i1) (by omega)) c_7
        exact ww_vret (u := [(qh, .inr (1, [.ref h, .null, .int (nI n), .ref ha, .ref hb, .ref hc])), (ha, .inl (E.2.1 1, 48, .inl l1)), (hb, .inl (E.2.1 1, 48, .inl n1)), (hc, .inl (E.2.1 2, 192, .inr (.inl s1))), (h, .inr (4, [.int (nI n), .int (nI r), .ref a, .ref b])), (a, .inl (E.2.1 1, 24, .inl f)), (b, .inl (E.2.1 1, 96, .inl gg))]) C hT [0, 1, 2, 3, 4, 5, 6] rfl rfl rfl rfl dX1_settle_29 (⟨l1, n1, s1, rfl, hr1, hl1, (by have h9 : i1 = n := (by omega); rw [h9] at hrk1; exact hrk1)⟩)
      · have zc_7 : ((i1 : Nat) : Int) < ((n : Nat) : Int) := i_nle (nI_toInt (n := n) (by omega)) (nI_toInt (n := i1) (by omega)) c_7
        refine ww_aload_n C dX1_settle_16 1 rfl rfl ?_
        refine ww_ci (wr := []) (k' := 0) (n' := 0) C (run_V (As := []) (rest := []) C (h_partN X.2.1 E ro qh h n ha hb hc l1 n1 s1 r a b f gg i1 (by omega) (by omega) hwf hr1 hl1 hrk1) mi_X1_part wl_X1_65 rfl 0 1 rfl rfl rfl rfl rfl dX1_settle_17) (roK hro) [0, 1, 2, 3, 4, 5, 6] [] rfl rfl (plk (by decide +kernel)) rfl (fun r_8 uz hw => ?_)
        rcases hw with hw | hw
        · refine ex3 hw ?_
          clear hw
          intro flz_9 fnz_10 fsz_11 hw
          refine an5 hw ?_
          clear hw
          intro he_16 he_17 h_12 h_13 h_14 hw
          have h_15 := hw
          clear hw
          have he_16 := he_16.symm
          subst he_16
          subst he_17
          refine ww_eq (ws' := [(qh, .inr (1, [.ref h, .null, .int (nI n), .ref ha, .ref hb, .ref hc])), (ha, .inl (E.2.1 1, 48, .inl flz_9)), (hb, .inl (E.2.1 1, 48, .inl fnz_10)), (hc, .inl (E.2.1 2, 192, .inr (.inl fsz_11))), (h, .inr (4, [.int (nI n), .int (nI r), .ref a, .ref b])), (a, .inl (E.2.1 1, 24, .inl f)), (b, .inl (E.2.1 1, 96, .inl gg))]) ?_ rfl rfl rfl
          refine ww_if_eq_f (tgt := 29) C dX1_settle_20 (by decide) (by decide) ?_
          refine ww_iinc (j := 0) (v := (nI (i1 + 1))) (lv' := [(3, .int (nI (i1 + 1))), (0, .ref qh), (1, .ref h), (2, .null)]) C dX1_settle_23 rfl (nI_add i1 1) rfl rfl ?_
          refine ww_goto (tgt := 8) C dX1_settle_26 (by decide) ?_
          exact ww_lv [0, 1, 2, 3] rfl (ww_sub [0, 1, 2, 3, 4, 5, 6] rfl rfl (ih_8 (i1 + 1) flz_9 fnz_10 fsz_11 (by omega) h_12 h_13 h_14 (by omega)))
        · refine ex3 hw ?_
          clear hw
          intro flz_18 fnz_19 fsz_20 hw
          refine an5 hw ?_
          clear hw
          intro he_25 he_26 h_21 h_22 h_23 hw
          have h_24 := hw
          clear hw
          have he_25 := he_25.symm
          subst he_25
          subst he_26
          refine ww_eq (ws' := [(qh, .inr (1, [.ref h, .null, .int (nI n), .ref ha, .ref hb, .ref hc])), (ha, .inl (E.2.1 1, 48, .inl flz_18)), (hb, .inl (E.2.1 1, 48, .inl fnz_19)), (hc, .inl (E.2.1 2, 192, .inr (.inl fsz_20))), (h, .inr (4, [.int (nI n), .int (nI r), .ref a, .ref b])), (a, .inl (E.2.1 1, 24, .inl f)), (b, .inl (E.2.1 1, 96, .inl gg))]) ?_ rfl rfl rfl
          refine ww_if_eq_t (tgt := 29) C dX1_settle_20 (by decide) (rfl) ?_
          exact ww_vret (u := [(qh, .inr (1, [.ref h, .null, .int (nI n), .ref ha, .ref hb, .ref hc])), (ha, .inl (E.2.1 1, 48, .inl flz_18)), (hb, .inl (E.2.1 1, 48, .inl fnz_19)), (hc, .inl (E.2.1 2, 192, .inr (.inl fsz_20))), (h, .inr (4, [.int (nI n), .int (nI r), .ref a, .ref b])), (a, .inl (E.2.1 1, 24, .inl f)), (b, .inl (E.2.1 1, 96, .inl gg))]) C hT [0, 1, 2, 3, 4, 5, 6] rfl rfl rfl rfl dX1_settle_29 (⟨flz_18, fnz_19, fsz_20, rfl, h_21, h_22, (rk_end (c := (cm1 (am n r f gg))) (cm1_wf hwf) (show i1 ≤ n by omega) h_24 h_23)⟩)
  exact ww_lv [0, 1, 2, 3] rfl (ww_sub [0, 1, 2, 3, 4, 5, 6] rfl rfl (loop_8 _ 0 flz_2 fn fs (by omega) h_3 h_4 h_5 (Nat.lt_succ_self _)))
theorem dX1_factsOf_21 : decode cX1_factsOf 21 = .ok (.aload_n 0, 1) := dl_42 (by decide +kernel)
theorem dX1_factsOf_22 : decode cX1_factsOf 22 = .ok (.getfield 26, 3) := dl_180 (by decide +kernel)
theorem dX1_factsOf_25 : decode cX1_factsOf 25 = .ok (.ifnonnull 7, 3) := dl_199 (by decide +kernel)
theorem dX1_factsOf_32 : decode cX1_factsOf 32 = .ok (.aload_n 0, 1) := dl_42 (by decide +kernel)
theorem dX1_factsOf_33 : decode cX1_factsOf 33 = .ok (.getfield 26, 3) := dl_180 (by decide +kernel)
theorem dX1_factsOf_36 : decode cX1_factsOf 36 = .ok (.getfield 40, 3) := dl_180 (by decide +kernel)
theorem dX1_factsOf_39 : decode cX1_factsOf 39 = .ok (.iload_n 1, 1) := dl_27 (by decide +kernel)
theorem dX1_factsOf_40 : decode cX1_factsOf 40 = .ok (.aload_n 0, 1) := dl_42 (by decide +kernel)
theorem dX1_factsOf_41 : decode cX1_factsOf 41 = .ok (.getfield 22, 3) := dl_180 (by decide +kernel)
theorem dX1_factsOf_44 : decode cX1_factsOf 44 = .ok (.getfield 29, 3) := dl_180 (by decide +kernel)
theorem dX1_factsOf_47 : decode cX1_factsOf 47 = .ok (.isub, 1) := dl_100 (by decide +kernel)
theorem dX1_factsOf_48 : decode cX1_factsOf 48 = .ok (.iaload, 1) := dl_46 (by decide +kernel)
theorem dX1_factsOf_49 : decode cX1_factsOf 49 = .ok (.ireturn, 1) := dl_172 (by decide +kernel)
set_option maxRecDepth 100000 in
set_option maxHeartbeats 4000000 in
theorem h_factsOfM (l : Launch) (E : EV) (ro : va_W) (qh : Nat) (i : Nat) (h : Nat) (h2 : Nat) (ha : Nat) (hb : Nat) (hc : Nat) (n : Nat) (r : Nat) (a : Nat) (b : Nat) (f : Nat → Int32) (gg : Nat → Int32) (n2 : Nat) (r2 : Nat) (a2 : Nat) (b2 : Nat) (f2 : Nat → Int32) (g2 : Nat → Int32) (hn : n ≤ 24) (hr : r < n ∨ r = 0) (hn2 : n2 ≤ 24) (hr2 : r2 < n2 ∨ r2 = 0) (hi : i < n + n2) : CT l yX1_factsOf (Cond.code yX1_factsOf cX1_factsOf 2 (some .int) :: TB) ({ frames := 0, cells := 0, slots := 0, locals := 0 }) E ro [.ref qh, .int (nI i)] [(qh, .inr (1, [.ref h, .ref h2, .int (nI (n + n2)), .ref ha, .ref hb, .ref hc])), (h, .inr (4, [.int (nI n), .int (nI r), .ref a, .ref b])), (a, .inl (E.2.1 1, 24, .inl f)), (b, .inl (E.2.1 1, 96, .inl gg)), (h2, .inr (4, [.int (nI n2), .int (nI r2), .ref a2, .ref b2])), (a2, .inl (E.2.1 1, 24, .inl f2)), (b2, .inl (E.2.1 1, 96, .inl g2))] (Qi E (fun (rz : Int32) uz => (rz = (fxM n f f2 i) ∧ uz = [(qh, .inr (1, [.ref h, .ref h2, .int (nI (n + n2)), .ref ha, .ref hb, .ref hc])), (h, .inr (4, [.int (nI n), .int (nI r), .ref a, .ref b])), (a, .inl (E.2.1 1, 24, .inl f)), (b, .inl (E.2.1 1, 96, .inl gg)), (h2, .inr (4, [.int (nI n2), .int (nI r2), .ref a2, .ref b2])), (a2, .inl (E.2.1 1, 24, .inl f2)), (b2, .inl (E.2.1 1, 96, .inl g2))]))) 0 0 := by
  refine ct_of rfl rfl ?_
  intro X C hT hin hro
  show WW X 2 E 0 [(0, .ref qh), (1, .int (nI i))] [] [(qh, .inr (1, [.ref h, .ref h2, .int (nI (n + n2)), .ref ha, .ref hb, .ref hc])), (h, .inr (4, [.int (nI n), .int (nI r), .ref a, .ref b])), (a, .inl (E.2.1 1, 24, .inl f)), (b, .inl (E.2.1 1, 96, .inl gg)), (h2, .inr (4, [.int (nI n2), .int (nI r2), .ref a2, .ref b2])), (a2, .inl (E.2.1 1, 24, .inl f2)), (b2, .inl (E.2.1 1, 96, .inl g2))] 0 0
  refine ww_iload_n C dX1_factsOf_0 1 rfl rfl ?_
  refine ww_aload_n C dX1_factsOf_1 0 rfl rfl ?_
  refine ww_get C fg_X1_22 0 rfl rfl dX1_factsOf_2 ?_
  refine ww_get C fg_X1_29 1 rfl rfl dX1_factsOf_5 ?_
  refine ww_icmp_ge (tgt := 21) C dX1_factsOf_8 (by decide) (fun c_1 => ?_) (fun c_1 => ?_)
  · have zc_1 : ((i : Nat) : Int) ≥ ((n : Nat) : Int) := i_le (nI_toInt (n := n) (by omega)) (nI_toInt (n := i) (by omega)) c_1
    refine ww_aload_n C dX1_factsOf_21 0 rfl rfl ?_
    refine ww_get C fg_X1_26 0 rfl rfl dX1_factsOf_22 ?_
    refine ww_ifnonnull (tgt := 32) C dX1_factsOf_25 (by decide) ?_
    refine ww_aload_n C dX1_factsOf_32 0 rfl rfl ?_
    refine ww_get C fg_X1_26 0 rfl rfl dX1_factsOf_33 ?_
    refine ww_get C fg_X1_40 4 rfl rfl dX1_factsOf_36 ?_
    refine ww_iload_n C dX1_factsOf_39 1 rfl rfl ?_
    refine ww_aload_n C dX1_factsOf_40 0 rfl rfl ?_
    refine ww_get C fg_X1_22 0 rfl rfl dX1_factsOf_41 ?_
    refine ww_get C fg_X1_29 1 rfl rfl dX1_factsOf_44 ?_
    refine ww_isub (v := (nI (i - n))) C dX1_factsOf_47 (pk_sub (a := i) (b := n) (by omega)) ?_
    obtain ⟨x_2, ex_2⟩ : ∃ z : Int32, f2 (i - n) = z := ⟨_, rfl⟩
    refine ww_iald (v := x_2) C 5 rfl (vp_in_nI (by omega) (by omega)) (ldn (by omega) ex_2) dX1_factsOf_48 ?_
    exact ww_iret (u := [(qh, .inr (1, [.ref h, .ref h2, .int (nI (n + n2)), .ref ha, .ref hb, .ref hc])), (h, .inr (4, [.int (nI n), .int (nI r), .ref a, .ref b])), (a, .inl (E.2.1 1, 24, .inl f)), (b, .inl (E.2.1 1, 96, .inl gg)), (h2, .inr (4, [.int (nI n2), .int (nI r2), .ref a2, .ref b2])), (a2, .inl (E.2.1 1, 24, .inl f2)), (b2, .inl (E.2.1 1, 96, .inl g2))]) C hT [0, 1, 2, 3, 4, 5, 6] rfl rfl rfl rfl dX1_factsOf_49 (⟨(by subst_vars; first | exact fxM_l (by omega) | exact fxM_r (by omega)), rfl⟩)
  · have zc_1 : ((i : Nat) : Int) < ((n : Nat) : Int) := i_nle (nI_toInt (n := n) (by omega)) (nI_toInt (n := i) (by omega)) c_1
    refine ww_aload_n C dX1_factsOf_11 0 rfl rfl ?_
    refine ww_get C fg_X1_22 0 rfl rfl dX1_factsOf_12 ?_
    refine ww_get C fg_X1_40 1 rfl rfl dX1_factsOf_15 ?_
    refine ww_iload_n C dX1_factsOf_18 1 rfl rfl ?_
    obtain ⟨x_3, ex_3⟩ : ∃ z : Int32, f i = z := ⟨_, rfl⟩
    refine ww_iald (v := x_3) C 2 rfl (vp_in_nI (by omega) (by omega)) (ldn (by omega) ex_3) dX1_factsOf_19 ?_
    exact ww_iret (u := [(qh, .inr (1, [.ref h, .ref h2, .int (nI (n + n2)), .ref ha, .ref hb, .ref hc])), (h, .inr (4, [.int (nI n), .int (nI r), .ref a, .ref b])), (a, .inl (E.2.1 1, 24, .inl f)), (b, .inl (E.2.1 1, 96, .inl gg)), (h2, .inr (4, [.int (nI n2), .int (nI r2), .ref a2, .ref b2])), (a2, .inl (E.2.1 1, 24, .inl f2)), (b2, .inl (E.2.1 1, 96, .inl g2))]) C hT [0, 1, 2, 3, 4, 5, 6] rfl rfl rfl rfl dX1_factsOf_20 (⟨(by subst_vars; first | exact fxM_l (by omega) | exact fxM_r (by omega)), rfl⟩)
theorem dX1_begin_23 : decode cX1_begin 23 = .ok (.aload_n 2, 1) := dl_44 (by decide +kernel)
theorem dX1_begin_24 : decode cX1_begin 24 = .ok (.getfield 29, 3) := dl_180 (by decide +kernel)
set_option maxRecDepth 100000 in
set_option maxHeartbeats 4000000 in
theorem h_beginM (l : Launch) (E : EV) (ro : va_W) (qh : Nat) (h : Nat) (h2 : Nat) (l0 : Value) (l1 : Value) (x2 : Int32) (ha : Nat) (hb : Nat) (hc : Nat) (fl : Nat → Int32) (fn : Nat → Int32) (fs : Nat → Int64) (n : Nat) (r : Nat) (a : Nat) (b : Nat) (f : Nat → Int32) (gg : Nat → Int32) (n2 : Nat) (r2 : Nat) (a2 : Nat) (b2 : Nat) (f2 : Nat → Int32) (g2 : Nat → Int32) (hn : n ≤ 24) (hr : r < n ∨ r = 0) (hn2 : n2 ≤ 24) (hr2 : r2 < n2 ∨ r2 = 0) (hrng : RNG 48 48 fl) : CT l yX1_begin (Cond.code yX1_begin cX1_begin 5 none :: TB) ({ frames := 1, cells := 0, slots := 0, locals := 21 }) E ro [.ref qh, .ref h, .ref h2] [(qh, .inr (1, [l0, l1, .int x2, .ref ha, .ref hb, .ref hc])), (ha, .inl (E.2.1 1, 48, .inl fl)), (hb, .inl (E.2.1 1, 48, .inl fn)), (hc, .inl (E.2.1 2, 192, .inr (.inl fs))), (h, .inr (4, [.int (nI n), .int (nI r), .ref a, .ref b])), (a, .inl (E.2.1 1, 24, .inl f)), (b, .inl (E.2.1 1, 96, .inl gg)), (h2, .inr (4, [.int (nI n2), .int (nI r2), .ref a2, .ref b2])), (a2, .inl (E.2.1 1, 24, .inl f2)), (b2, .inl (E.2.1 1, 96, .inl g2))] (Qv E (fun uz => (∃ (flz : Nat → Int32), uz = [(qh, .inr (1, [.ref h, .ref h2, .int (nI (n + n2)), .ref ha, .ref hb, .ref hc])), (ha, .inl (E.2.1 1, 48, .inl flz)), (hb, .inl (E.2.1 1, 48, .inl fn)), (hc, .inl (E.2.1 2, 192, .inr (.inl fs))), (h, .inr (4, [.int (nI n), .int (nI r), .ref a, .ref b])), (a, .inl (E.2.1 1, 24, .inl f)), (b, .inl (E.2.1 1, 96, .inl gg)), (h2, .inr (4, [.int (nI n2), .int (nI r2), .ref a2, .ref b2])), (a2, .inl (E.2.1 1, 24, .inl f2)), (b2, .inl (E.2.1 1, 96, .inl g2))] ∧ (RNG 48 48 flz) ∧ (LI (n + n2) flz) ∧ (RKx (cm2 (am n r f gg) (am n2 r2 f2 g2)) (n + n2) (0) flz)))) 0 0 := by
  refine ct_of rfl rfl ?_
  intro X C hT hin hro
  show WW X 5 E 0 [(0, .ref qh), (1, .ref h), (2, .ref h2)] [] [(qh, .inr (1, [l0, l1, .int x2, .ref ha, .ref hb, .ref hc])), (ha, .inl (E.2.1 1, 48, .inl fl)), (hb, .inl (E.2.1 1, 48, .inl fn)), (hc, .inl (E.2.1 2, 192, .inr (.inl fs))), (h, .inr (4, [.int (nI n), .int (nI r), .ref a, .ref b])), (a, .inl (E.2.1 1, 24, .inl f)), (b, .inl (E.2.1 1, 96, .inl gg)), (h2, .inr (4, [.int (nI n2), .int (nI r2), .ref a2, .ref b2])), (a2, .inl (E.2.1 1, 24, .inl f2)), (b2, .inl (E.2.1 1, 96, .inl g2))] 0 0
  refine ww_aload_n C dX1_begin_0 0 rfl rfl ?_
  refine ww_aload_n C dX1_begin_1 1 rfl rfl ?_
  refine ww_put (ws' := [(qh, .inr (1, [.ref h, l1, .int x2, .ref ha, .ref hb, .ref hc])), (ha, .inl (E.2.1 1, 48, .inl fl)), (hb, .inl (E.2.1 1, 48, .inl fn)), (hc, .inl (E.2.1 2, 192, .inr (.inl fs))), (h, .inr (4, [.int (nI n), .int (nI r), .ref a, .ref b])), (a, .inl (E.2.1 1, 24, .inl f)), (b, .inl (E.2.1 1, 96, .inl gg)), (h2, .inr (4, [.int (nI n2), .int (nI r2), .ref a2, .ref b2])), (a2, .inl (E.2.1 1, 24, .inl f2)), (b2, .inl (E.2.1 1, 96, .inl g2))]) C fp_X1_22 0 rfl rfl rfl rfl rfl dX1_begin_2 ?_
  refine ww_aload_n C dX1_begin_5 0 rfl rfl ?_
  refine ww_aload_n C dX1_begin_6 2 rfl rfl ?_
  refine ww_put (ws' := [(qh, .inr (1, [.ref h, .ref h2, .int x2, .ref ha, .ref hb, .ref hc])), (ha, .inl (E.2.1 1, 48, .inl fl)), (hb, .inl (E.2.1 1, 48, .inl fn)), (hc, .inl (E.2.1 2, 192, .inr (.inl fs))), (h, .inr (4, [.int (nI n), .int (nI r), .ref a, .ref b])), (a, .inl (E.2.1 1, 24, .inl f)), (b, .inl (E.2.1 1, 96, .inl gg)), (h2, .inr (4, [.int (nI n2), .int (nI r2), .ref a2, .ref b2])), (a2, .inl (E.2.1 1, 24, .inl f2)), (b2, .inl (E.2.1 1, 96, .inl g2))]) C fp_X1_26 0 rfl rfl rfl rfl rfl dX1_begin_7 ?_
  refine ww_aload_n C dX1_begin_10 0 rfl rfl ?_
  refine ww_aload_n C dX1_begin_11 1 rfl rfl ?_
  refine ww_get C fg_X1_29 4 rfl rfl dX1_begin_12 ?_
  refine ww_aload_n C dX1_begin_15 2 rfl rfl ?_
  refine ww_ifnonnull (tgt := 23) C dX1_begin_16 (by decide) ?_
  refine ww_aload_n C dX1_begin_23 2 rfl rfl ?_
  refine ww_get C fg_X1_29 7 rfl rfl dX1_begin_24 ?_
  refine ww_iadd (v := (nI (n + n2))) C dX1_begin_27 (nI_add n n2) ?_
  refine ww_put (ws' := [(qh, .inr (1, [.ref h, .ref h2, .int (nI (n + n2)), .ref ha, .ref hb, .ref hc])), (ha, .inl (E.2.1 1, 48, .inl fl)), (hb, .inl (E.2.1 1, 48, .inl fn)), (hc, .inl (E.2.1 2, 192, .inr (.inl fs))), (h, .inr (4, [.int (nI n), .int (nI r), .ref a, .ref b])), (a, .inl (E.2.1 1, 24, .inl f)), (b, .inl (E.2.1 1, 96, .inl gg)), (h2, .inr (4, [.int (nI n2), .int (nI r2), .ref a2, .ref b2])), (a2, .inl (E.2.1 1, 24, .inl f2)), (b2, .inl (E.2.1 1, 96, .inl g2))]) C fp_X1_35 0 rfl rfl rfl rfl rfl dX1_begin_28 ?_
  refine ww_iconst (v := 0) C dX1_begin_31 rfl ?_
  refine ww_istore_n (lv' := [(3, .int 0), (0, .ref qh), (1, .ref h), (2, .ref h2)]) C dX1_begin_32 rfl rfl rfl ?_
  have loop_33 : ∀ (fu : Nat) (i1 : Nat) (l1 : Nat → Int32), (i1 ≤ n + n2) → (RNG 48 48 l1) → (HBx i1 (fxM n f f2) l1) → n + n2 - i1 < fu → WW X 5 E 33 [(3, .int (nI i1)), (0, .ref qh), (1, .ref h), (2, .ref h2)] [] [(qh, .inr (1, [.ref h, .ref h2, .int (nI (n + n2)), .ref ha, .ref hb, .ref hc])), (ha, .inl (E.2.1 1, 48, .inl l1)), (hb, .inl (E.2.1 1, 48, .inl fn)), (hc, .inl (E.2.1 2, 192, .inr (.inl fs))), (h, .inr (4, [.int (nI n), .int (nI r), .ref a, .ref b])), (a, .inl (E.2.1 1, 24, .inl f)), (b, .inl (E.2.1 1, 96, .inl gg)), (h2, .inr (4, [.int (nI n2), .int (nI r2), .ref a2, .ref b2])), (a2, .inl (E.2.1 1, 24, .inl f2)), (b2, .inl (E.2.1 1, 96, .inl g2))] 0 0 := by
    intro fu
    induction fu with
    | zero => intro i1 l1 hi1 hr1 hb1 hmeas; exact absurd hmeas (Nat.not_lt_zero _)
    | succ fu ih_33 =>
      intro i1 l1 hi1 hr1 hb1 hmeas
      refine ww_iload_n C dX1_begin_33 0 rfl rfl ?_
      refine ww_aload_n C dX1_begin_34 1 rfl rfl ?_
      refine ww_get C fg_X1_35 0 rfl rfl dX1_begin_35 ?_
      refine ww_icmp_ge (tgt := 84) C dX1_begin_38 (by decide) (fun c_1 => ?_) (fun c_1 => ?_)
      · have zc_1 : ((i1 : Nat) : Int) ≥ ((n + n2 : Nat) : Int) := i_le (nI_toInt (n := n + n2) (by omega)) (nI_toInt (n := i1) (by omega)) c_1
        exact ww_vret (u := [(qh, .inr (1, [.ref h, .ref h2, .int (nI (n + n2)), .ref ha, .ref hb, .ref hc])), (ha, .inl (E.2.1 1, 48, .inl l1)), (hb, .inl (E.2.1 1, 48, .inl fn)), (hc, .inl (E.2.1 2, 192, .inr (.inl fs))), (h, .inr (4, [.int (nI n), .int (nI r), .ref a, .ref b])), (a, .inl (E.2.1 1, 24, .inl f)), (b, .inl (E.2.1 1, 96, .inl gg)), (h2, .inr (4, [.int (nI n2), .int (nI r2), .ref a2, .ref b2])), (a2, .inl (E.2.1 1, 24, .inl f2)), (b2, .inl (E.2.1 1, 96, .inl g2))]) C hT [0, 1, 2, 3, 4, 5, 6, 7, 8, 9] (gqk (by eq_refl)) (ndk (by decide +kernel)) rfl rfl dX1_begin_84 (⟨l1, rfl, hr1, (by have h9 : i1 = n + n2 := (by omega); rw [← h9]; exact HBx.LI hb1 (by omega)), (hb_rk (c := (cm2 (am n r f gg) (am n2 r2 f2 g2))) fx_cm (by have h9 : i1 = n + n2 := (by omega); rw [h9] at hb1; exact hb1))⟩)
      · have zc_1 : ((i1 : Nat) : Int) < ((n + n2 : Nat) : Int) := i_nle (nI_toInt (n := n + n2) (by omega)) (nI_toInt (n := i1) (by omega)) c_1
        refine ww_iconst (v := 0) C dX1_begin_41 rfl ?_
        refine ww_istore (lv' := [(4, .int 0), (3, .int (nI i1)), (0, .ref qh), (1, .ref h), (2, .ref h2)]) C dX1_begin_42 rfl rfl ?_
        have loop_44 : ∀ (fu : Nat) (j1 : Nat), (j1 ≤ i1) → (∀ v, v < j1 → (fxM n f f2) v ≠ (fxM n f f2) i1) → i1 - j1 < fu → WW X 5 E 44 [(4, .int (nI j1)), (3, .int (nI i1)), (0, .ref qh), (1, .ref h), (2, .ref h2)] [] [(qh, .inr (1, [.ref h, .ref h2, .int (nI (n + n2)), .ref ha, .ref hb, .ref hc])), (ha, .inl (E.2.1 1, 48, .inl l1)), (hb, .inl (E.2.1 1, 48, .inl fn)), (hc, .inl (E.2.1 2, 192, .inr (.inl fs))), (h, .inr (4, [.int (nI n), .int (nI r), .ref a, .ref b])), (a, .inl (E.2.1 1, 24, .inl f)), (b, .inl (E.2.1 1, 96, .inl gg)), (h2, .inr (4, [.int (nI n2), .int (nI r2), .ref a2, .ref b2])), (a2, .inl (E.2.1 1, 24, .inl f2)), (b2, .inl (E.2.1 1, 96, .inl g2))] 0 0 := by
          intro fu
          induction fu with
          | zero => intro j1 hj1 hv1 hmeas; exact absurd hmeas (Nat.not_lt_zero _)
          | succ fu ih_44 =>
            intro j1 hj1 hv1 hmeas
            refine ww_iload C dX1_begin_44 0 rfl ?_
            refine ww_iload_n C dX1_begin_46 1 rfl rfl ?_
            refine ww_icmp_ge (tgt := 70) C dX1_begin_47 (by decide) (fun c_2 => ?_) (fun c_2 => ?_)
            · have zc_2 : ((j1 : Nat) : Int) ≥ ((i1 : Nat) : Int) := i_le (nI_toInt (n := i1) (by omega)) (nI_toInt (n := j1) (by omega)) c_2
              refine ww_aload_n C dX1_begin_70 2 rfl rfl ?_
              refine ww_get C fg_X1_9 0 rfl rfl dX1_begin_71 ?_
              refine ww_iload_n C dX1_begin_74 1 rfl rfl ?_
              refine ww_iload C dX1_begin_75 0 rfl ?_
              obtain ⟨f_3, ef_3⟩ : ∃ z : Nat → Int32, upd l1 i1 (nI j1) = z := ⟨_, rfl⟩
              refine ww_iast (ws' := [(qh, .inr (1, [.ref h, .ref h2, .int (nI (n + n2)), .ref ha, .ref hb, .ref hc])), (ha, .inl (E.2.1 1, 48, .inl f_3)), (hb, .inl (E.2.1 1, 48, .inl fn)), (hc, .inl (E.2.1 2, 192, .inr (.inl fs))), (h, .inr (4, [.int (nI n), .int (nI r), .ref a, .ref b])), (a, .inl (E.2.1 1, 24, .inl f)), (b, .inl (E.2.1 1, 96, .inl gg)), (h2, .inr (4, [.int (nI n2), .int (nI r2), .ref a2, .ref b2])), (a2, .inl (E.2.1 1, 24, .inl f2)), (b2, .inl (E.2.1 1, 96, .inl g2))]) C 1 rfl (vp_in_nI (by omega) (by omega)) (ldn2 (by omega) ef_3) rfl dX1_begin_77 ?_
              refine ww_iinc (j := 1) (v := (nI (i1 + 1))) (lv' := [(3, .int (nI (i1 + 1))), (4, .int (nI j1)), (0, .ref qh), (1, .ref h), (2, .ref h2)]) C dX1_begin_78 rfl (nI_add i1 1) rfl rfl ?_
              refine ww_goto (tgt := 33) C dX1_begin_81 (by decide) ?_
              exact ww_lv [0, 2, 3, 4] rfl (ww_sub [0, 1, 2, 3, 4, 5, 6, 7, 8, 9] (ndk (by decide +kernel)) (gqk (by eq_refl)) (ih_33 (i1 + 1) f_3 (by omega) (RNG.put hr1 (t := j1) (by omega) ef_3) (HBx.ext hb1 hj1 hv1 (by rw [show j1 = i1 by omega]) ef_3) (by omega)))
            · have zc_2 : ((j1 : Nat) : Int) < ((i1 : Nat) : Int) := i_nle (nI_toInt (n := i1) (by omega)) (nI_toInt (n := j1) (by omega)) c_2
              refine ww_aload_n C dX1_begin_50 2 rfl rfl ?_
              refine ww_iload C dX1_begin_51 0 rfl ?_
              refine ww_ci (wr := [(ha, .inl (E.2.1 1, 48, .inl l1)), (hb, .inl (E.2.1 1, 48, .inl fn)), (hc, .inl (E.2.1 2, 192, .inr (.inl fs)))]) (k' := 0) (n' := 0) C (run_V (As := [.int (nI j1)]) (rest := []) C (h_factsOfM X.2.1 E ro qh j1 h h2 ha hb hc n r a b f gg n2 r2 a2 b2 f2 g2 (by omega) (by omega) (by omega) (by omega) (by omega)) mi_X1_factsOf wl_X1_36 rfl 0 1 rfl rfl rfl rfl rfl dX1_begin_53) (roK hro) [0, 4, 5, 6, 7, 8, 9] [1, 2, 3] rfl rfl (plk (by decide +kernel)) rfl (fun r_4 uz hw => ?_)
              refine an1 hw ?_
              clear hw
              intro he_5 hw
              have he_6 := hw
              clear hw
              have he_5 := he_5.symm
              subst he_5
              subst he_6
              refine ww_eq (ws' := [(ha, .inl (E.2.1 1, 48, .inl l1)), (hb, .inl (E.2.1 1, 48, .inl fn)), (hc, .inl (E.2.1 2, 192, .inr (.inl fs))), (qh, .inr (1, [.ref h, .ref h2, .int (nI (n + n2)), .ref ha, .ref hb, .ref hc])), (h, .inr (4, [.int (nI n), .int (nI r), .ref a, .ref b])), (a, .inl (E.2.1 1, 24, .inl f)), (b, .inl (E.2.1 1, 96, .inl gg)), (h2, .inr (4, [.int (nI n2), .int (nI r2), .ref a2, .ref b2])), (a2, .inl (E.2.1 1, 24, .inl f2)), (b2, .inl (E.2.1 1, 96, .inl g2))]) ?_ rfl rfl rfl
              refine ww_aload_n C dX1_begin_56 2 rfl rfl ?_
              refine ww_iload_n C dX1_begin_57 1 rfl rfl ?_
              refine ww_ci (wr := [(ha, .inl (E.2.1 1, 48, .inl l1)), (hb, .inl (E.2.1 1, 48, .inl fn)), (hc, .inl (E.2.1 2, 192, .inr (.inl fs)))]) (k' := 0) (n' := 0) C (run_V (As := [.int (nI i1)]) (rest := [.int (fxM n f f2 j1)]) C (h_factsOfM X.2.1 E ro qh i1 h h2 ha hb hc n r a b f gg n2 r2 a2 b2 f2 g2 (by omega) (by omega) (by omega) (by omega) (by omega)) mi_X1_factsOf wl_X1_36 rfl 0 1 rfl rfl rfl rfl rfl dX1_begin_58) (roK hro) [3, 4, 5, 6, 7, 8, 9] [0, 1, 2] rfl rfl (plk (by decide +kernel)) rfl (fun r_7 uz hw => ?_)
              refine an1 hw ?_
              clear hw
              intro he_8 hw
              have he_9 := hw
              clear hw
              have he_8 := he_8.symm
              subst he_8
              subst he_9
              refine ww_eq (ws' := [(ha, .inl (E.2.1 1, 48, .inl l1)), (hb, .inl (E.2.1 1, 48, .inl fn)), (hc, .inl (E.2.1 2, 192, .inr (.inl fs))), (qh, .inr (1, [.ref h, .ref h2, .int (nI (n + n2)), .ref ha, .ref hb, .ref hc])), (h, .inr (4, [.int (nI n), .int (nI r), .ref a, .ref b])), (a, .inl (E.2.1 1, 24, .inl f)), (b, .inl (E.2.1 1, 96, .inl gg)), (h2, .inr (4, [.int (nI n2), .int (nI r2), .ref a2, .ref b2])), (a2, .inl (E.2.1 1, 24, .inl f2)), (b2, .inl (E.2.1 1, 96, .inl g2))]) ?_ rfl rfl rfl
              refine ww_icmp_eq (tgt := 70) C dX1_begin_61 (by decide) (fun c_10 => ?_) (fun c_10 => ?_)
              · have zc_10 : (fxM n f f2 j1).toInt = (fxM n f f2 i1).toInt := i_eq rfl rfl c_10
                refine ww_aload_n C dX1_begin_70 2 rfl rfl ?_
                refine ww_get C fg_X1_9 3 rfl rfl dX1_begin_71 ?_
                refine ww_iload_n C dX1_begin_74 1 rfl rfl ?_
                refine ww_iload C dX1_begin_75 0 rfl ?_
                obtain ⟨f_11, ef_11⟩ : ∃ z : Nat → Int32, upd l1 i1 (nI j1) = z := ⟨_, rfl⟩
                refine ww_iast (ws' := [(ha, .inl (E.2.1 1, 48, .inl f_11)), (hb, .inl (E.2.1 1, 48, .inl fn)), (hc, .inl (E.2.1 2, 192, .inr (.inl fs))), (qh, .inr (1, [.ref h, .ref h2, .int (nI (n + n2)), .ref ha, .ref hb, .ref hc])), (h, .inr (4, [.int (nI n), .int (nI r), .ref a, .ref b])), (a, .inl (E.2.1 1, 24, .inl f)), (b, .inl (E.2.1 1, 96, .inl gg)), (h2, .inr (4, [.int (nI n2), .int (nI r2), .ref a2, .ref b2])), (a2, .inl (E.2.1 1, 24, .inl f2)), (b2, .inl (E.2.1 1, 96, .inl g2))]) C 0 rfl (vp_in_nI (by omega) (by omega)) (ldn2 (by omega) ef_11) rfl dX1_begin_77 ?_
                refine ww_iinc (j := 1) (v := (nI (i1 + 1))) (lv' := [(3, .int (nI (i1 + 1))), (4, .int (nI j1)), (0, .ref qh), (1, .ref h), (2, .ref h2)]) C dX1_begin_78 rfl (nI_add i1 1) rfl rfl ?_
                refine ww_goto (tgt := 33) C dX1_begin_81 (by decide) ?_
                exact ww_lv [0, 2, 3, 4] rfl (ww_sub [3, 0, 1, 2, 4, 5, 6, 7, 8, 9] (ndk (by decide +kernel)) (gqk (by eq_refl)) (ih_33 (i1 + 1) f_11 (by omega) (RNG.put hr1 (t := j1) (by omega) ef_11) (HBx.ext hb1 hj1 hv1 (by assumption) ef_11) (by omega)))
              · have zc_10 : (fxM n f f2 j1).toInt ≠ (fxM n f f2 i1).toInt := i_ne rfl rfl c_10
                refine ww_iinc (j := 0) (v := (nI (j1 + 1))) (lv' := [(4, .int (nI (j1 + 1))), (3, .int (nI i1)), (0, .ref qh), (1, .ref h), (2, .ref h2)]) C dX1_begin_64 rfl (nI_add j1 1) rfl rfl ?_
                refine ww_goto (tgt := 44) C dX1_begin_67 (by decide) ?_
                exact ww_lv [0, 1, 2, 3, 4] rfl (ww_sub [3, 0, 1, 2, 4, 5, 6, 7, 8, 9] (ndk (by decide +kernel)) (gqk (by eq_refl)) (ih_44 (j1 + 1) (by omega) (fun v hv => if hk : v = j1 then (by rw [hk]; assumption) else hv1 v (by omega)) (by omega)))
        exact ww_lv [0, 1, 2, 3, 4] rfl (ww_sub [0, 1, 2, 3, 4, 5, 6, 7, 8, 9] (ndk (by decide +kernel)) (gqk (by eq_refl)) (loop_44 _ 0 (by omega) (fun v h => absurd h (Nat.not_lt_zero _)) (Nat.lt_succ_self _)))
  exact ww_lv [0, 1, 2, 3] rfl (ww_sub [0, 1, 2, 3, 4, 5, 6, 7, 8, 9] (ndk (by decide +kernel)) (gqk (by eq_refl)) (loop_33 _ 0 fl (by omega) hrng HBx.zero (Nat.lt_succ_self _)))
theorem dX1_look_68 : decode cX1_look 68 = .ok (.iload_n 2, 1) := dl_28 (by decide +kernel)
theorem dX1_look_69 : decode cX1_look 69 = .ok (.aload_n 0, 1) := dl_42 (by decide +kernel)
theorem dX1_look_70 : decode cX1_look 70 = .ok (.getfield 35, 3) := dl_180 (by decide +kernel)
theorem dX1_look_73 : decode cX1_look 73 = .ok (.if_icmp .ge 52, 3) := dl_162 (by decide +kernel)
theorem dX1_look_76 : decode cX1_look 76 = .ok (.aload_n 0, 1) := dl_42 (by decide +kernel)
theorem dX1_look_77 : decode cX1_look 77 = .ok (.getfield 26, 3) := dl_180 (by decide +kernel)
theorem dX1_look_80 : decode cX1_look 80 = .ok (.iload_n 1, 1) := dl_27 (by decide +kernel)
theorem dX1_look_81 : decode cX1_look 81 = .ok (.iload_n 2, 1) := dl_28 (by decide +kernel)
theorem dX1_look_82 : decode cX1_look 82 = .ok (.aload_n 0, 1) := dl_42 (by decide +kernel)
theorem dX1_look_83 : decode cX1_look 83 = .ok (.getfield 22, 3) := dl_180 (by decide +kernel)
theorem dX1_look_86 : decode cX1_look 86 = .ok (.getfield 29, 3) := dl_180 (by decide +kernel)
theorem dX1_look_89 : decode cX1_look 89 = .ok (.isub, 1) := dl_100 (by decide +kernel)
theorem dX1_look_90 : decode cX1_look 90 = .ok (.invokevirtual 43, 3) := dl_182 (by decide +kernel)
theorem dX1_look_93 : decode cX1_look 93 = .ok (.istore_n 3, 1) := dl_62 (by decide +kernel)
theorem dX1_look_94 : decode cX1_look 94 = .ok (.aload_n 0, 1) := dl_42 (by decide +kernel)
theorem dX1_look_95 : decode cX1_look 95 = .ok (.getfield 18, 3) := dl_180 (by decide +kernel)
theorem dX1_look_98 : decode cX1_look 98 = .ok (.iload_n 1, 1) := dl_27 (by decide +kernel)
theorem dX1_look_99 : decode cX1_look 99 = .ok (.iconst 2, 1) := dl_5 (by decide +kernel)
theorem dX1_look_100 : decode cX1_look 100 = .ok (.imul, 1) := dl_104 (by decide +kernel)
theorem dX1_look_101 : decode cX1_look 101 = .ok (.bipush 24, 2) := dl_16 (by decide +kernel)
theorem dX1_look_103 : decode cX1_look 103 = .ok (.imul, 1) := dl_104 (by decide +kernel)
theorem dX1_look_104 : decode cX1_look 104 = .ok (.iload_n 2, 1) := dl_28 (by decide +kernel)
theorem dX1_look_105 : decode cX1_look 105 = .ok (.iadd, 1) := dl_96 (by decide +kernel)
theorem dX1_look_106 : decode cX1_look 106 = .ok (.aload_n 0, 1) := dl_42 (by decide +kernel)
theorem dX1_look_107 : decode cX1_look 107 = .ok (.iload_n 3, 1) := dl_29 (by decide +kernel)
theorem dX1_look_108 : decode cX1_look 108 = .ok (.aload_n 0, 1) := dl_42 (by decide +kernel)
theorem dX1_look_109 : decode cX1_look 109 = .ok (.getfield 22, 3) := dl_180 (by decide +kernel)
theorem dX1_look_112 : decode cX1_look 112 = .ok (.getfield 29, 3) := dl_180 (by decide +kernel)
theorem dX1_look_115 : decode cX1_look 115 = .ok (.invokevirtual 47, 3) := dl_182 (by decide +kernel)
theorem dX1_look_118 : decode cX1_look 118 = .ok (.lastore, 1) := dl_80 (by decide +kernel)
theorem dX1_look_119 : decode cX1_look 119 = .ok (.iinc 2 1, 3) := dl_132 (by decide +kernel)
theorem dX1_look_122 : decode cX1_look 122 = .ok (.goto (-61), 3) := dl_167 (by decide +kernel)
set_option maxRecDepth 100000 in
set_option maxHeartbeats 4000000 in
theorem h_lookM (l : Launch) (E : EV) (ro : va_W) (qh : Nat) (h : Nat) (h2 : Nat) (ha : Nat) (hb : Nat) (hc : Nat) (fl : Nat → Int32) (fn : Nat → Int32) (fs : Nat → Int64) (n : Nat) (r : Nat) (a : Nat) (b : Nat) (f : Nat → Int32) (gg : Nat → Int32) (n2 : Nat) (r2 : Nat) (a2 : Nat) (b2 : Nat) (f2 : Nat → Int32) (g2 : Nat → Int32) (rr : Nat) (hn : n ≤ 24) (hr : r < n ∨ r = 0) (hn2 : n2 ≤ 24) (hr2 : r2 < n2 ∨ r2 = 0) (hwf : WFm (am n r f gg)) (hwf2 : WFm (am n2 r2 f2 g2)) (hrk : RKx (cm2 (am n r f gg) (am n2 r2 f2 g2)) (n + n2) (rr) fl) : CT l yX1_look (Cond.code yX1_look cX1_look 4 none :: TB) ({ frames := 2, cells := 0, slots := 0, locals := 46 }) E ro [.ref qh] [(qh, .inr (1, [.ref h, .ref h2, .int (nI (n + n2)), .ref ha, .ref hb, .ref hc])), (ha, .inl (E.2.1 1, 48, .inl fl)), (hb, .inl (E.2.1 1, 48, .inl fn)), (hc, .inl (E.2.1 2, 192, .inr (.inl fs))), (h, .inr (4, [.int (nI n), .int (nI r), .ref a, .ref b])), (a, .inl (E.2.1 1, 24, .inl f)), (b, .inl (E.2.1 1, 96, .inl gg)), (h2, .inr (4, [.int (nI n2), .int (nI r2), .ref a2, .ref b2])), (a2, .inl (E.2.1 1, 24, .inl f2)), (b2, .inl (E.2.1 1, 96, .inl g2))] (Qv E (fun uz => (∃ (fsz : Nat → Int64), uz = [(qh, .inr (1, [.ref h, .ref h2, .int (nI (n + n2)), .ref ha, .ref hb, .ref hc])), (ha, .inl (E.2.1 1, 48, .inl fl)), (hb, .inl (E.2.1 1, 48, .inl fn)), (hc, .inl (E.2.1 2, 192, .inr (.inl fsz))), (h, .inr (4, [.int (nI n), .int (nI r), .ref a, .ref b])), (a, .inl (E.2.1 1, 24, .inl f)), (b, .inl (E.2.1 1, 96, .inl gg)), (h2, .inr (4, [.int (nI n2), .int (nI r2), .ref a2, .ref b2])), (a2, .inl (E.2.1 1, 24, .inl f2)), (b2, .inl (E.2.1 1, 96, .inl g2))] ∧ (LKx (cm2 (am n r f gg) (am n2 r2 f2 g2)) (rk (cm2 (am n r f gg) (am n2 r2 f2 g2)) rr) 4 0 fsz)))) 0 0 := by
  refine ct_of rfl rfl ?_
  intro X C hT hin hro
  show WW X 4 E 0 [(0, .ref qh)] [] [(qh, .inr (1, [.ref h, .ref h2, .int (nI (n + n2)), .ref ha, .ref hb, .ref hc])), (ha, .inl (E.2.1 1, 48, .inl fl)), (hb, .inl (E.2.1 1, 48, .inl fn)), (hc, .inl (E.2.1 2, 192, .inr (.inl fs))), (h, .inr (4, [.int (nI n), .int (nI r), .ref a, .ref b])), (a, .inl (E.2.1 1, 24, .inl f)), (b, .inl (E.2.1 1, 96, .inl gg)), (h2, .inr (4, [.int (nI n2), .int (nI r2), .ref a2, .ref b2])), (a2, .inl (E.2.1 1, 24, .inl f2)), (b2, .inl (E.2.1 1, 96, .inl g2))] 0 0
  refine ww_iconst (v := 0) C dX1_look_0 rfl ?_
  refine ww_istore_n (lv' := [(1, .int 0), (0, .ref qh)]) C dX1_look_1 rfl rfl rfl ?_
  have loop_2 : ∀ (fu : Nat) (k1 : Nat) (s1 : Nat → Int64), (k1 ≤ 4) → (LKx (cm2 (am n r f gg) (am n2 r2 f2 g2)) (rk (cm2 (am n r f gg) (am n2 r2 f2 g2)) rr) k1 0 s1) → 4 - k1 < fu → WW X 4 E 2 [(1, .int (nI k1)), (0, .ref qh)] [] [(qh, .inr (1, [.ref h, .ref h2, .int (nI (n + n2)), .ref ha, .ref hb, .ref hc])), (ha, .inl (E.2.1 1, 48, .inl fl)), (hb, .inl (E.2.1 1, 48, .inl fn)), (hc, .inl (E.2.1 2, 192, .inr (.inl s1))), (h, .inr (4, [.int (nI n), .int (nI r), .ref a, .ref b])), (a, .inl (E.2.1 1, 24, .inl f)), (b, .inl (E.2.1 1, 96, .inl gg)), (h2, .inr (4, [.int (nI n2), .int (nI r2), .ref a2, .ref b2])), (a2, .inl (E.2.1 1, 24, .inl f2)), (b2, .inl (E.2.1 1, 96, .inl g2))] 0 0 := by
    intro fu
    induction fu with
    | zero => intro k1 s1 hk1 hlk1 hmeas; exact absurd hmeas (Nat.not_lt_zero _)
    | succ fu ih_2 =>
      intro k1 s1 hk1 hlk1 hmeas
      refine ww_iload_n C dX1_look_2 0 rfl rfl ?_
      refine ww_iconst (v := 4) C dX1_look_3 rfl ?_
      refine ww_icmp_ge (tgt := 131) C dX1_look_4 (by decide) (fun c_1 => ?_) (fun c_1 => ?_)
      · have zc_1 : ((k1 : Nat) : Int) ≥ 4 := i_le rfl (nI_toInt (n := k1) (by omega)) c_1
        exact ww_vret (u := [(qh, .inr (1, [.ref h, .ref h2, .int (nI (n + n2)), .ref ha, .ref hb, .ref hc])), (ha, .inl (E.2.1 1, 48, .inl fl)), (hb, .inl (E.2.1 1, 48, .inl fn)), (hc, .inl (E.2.1 2, 192, .inr (.inl s1))), (h, .inr (4, [.int (nI n), .int (nI r), .ref a, .ref b])), (a, .inl (E.2.1 1, 24, .inl f)), (b, .inl (E.2.1 1, 96, .inl gg)), (h2, .inr (4, [.int (nI n2), .int (nI r2), .ref a2, .ref b2])), (a2, .inl (E.2.1 1, 24, .inl f2)), (b2, .inl (E.2.1 1, 96, .inl g2))]) C hT [0, 1, 2, 3, 4, 5, 6, 7, 8, 9] (gqk (by eq_refl)) (ndk (by decide +kernel)) rfl rfl dX1_look_131 (⟨s1, rfl, (by have h9 : k1 = 4 := (by omega); rw [h9] at hlk1; exact hlk1)⟩)
      · have zc_1 : ((k1 : Nat) : Int) < 4 := i_nle rfl (nI_toInt (n := k1) (by omega)) c_1
        refine ww_iconst (v := 0) C dX1_look_7 rfl ?_
        refine ww_istore_n (lv' := [(2, .int 0), (1, .int (nI k1)), (0, .ref qh)]) C dX1_look_8 rfl rfl rfl ?_
        have loop_9 : ∀ (fu : Nat) (i1 : Nat) (s2 : Nat → Int64), (i1 ≤ n) → (LKx (cm2 (am n r f gg) (am n2 r2 f2 g2)) (rk (cm2 (am n r f gg) (am n2 r2 f2 g2)) rr) k1 i1 s2) → n - i1 < fu → WW X 4 E 9 [(2, .int (nI i1)), (1, .int (nI k1)), (0, .ref qh)] [] [(qh, .inr (1, [.ref h, .ref h2, .int (nI (n + n2)), .ref ha, .ref hb, .ref hc])), (ha, .inl (E.2.1 1, 48, .inl fl)), (hb, .inl (E.2.1 1, 48, .inl fn)), (hc, .inl (E.2.1 2, 192, .inr (.inl s2))), (h, .inr (4, [.int (nI n), .int (nI r), .ref a, .ref b])), (a, .inl (E.2.1 1, 24, .inl f)), (b, .inl (E.2.1 1, 96, .inl gg)), (h2, .inr (4, [.int (nI n2), .int (nI r2), .ref a2, .ref b2])), (a2, .inl (E.2.1 1, 24, .inl f2)), (b2, .inl (E.2.1 1, 96, .inl g2))] 0 0 := by
          intro fu
          induction fu with
          | zero => intro i1 s2 hi1 hlk2 hmeas; exact absurd hmeas (Nat.not_lt_zero _)
          | succ fu ih_9 =>
            intro i1 s2 hi1 hlk2 hmeas
            refine ww_iload_n C dX1_look_9 0 rfl rfl ?_
            refine ww_aload_n C dX1_look_10 2 rfl rfl ?_
            refine ww_get C fg_X1_22 0 rfl rfl dX1_look_11 ?_
            refine ww_get C fg_X1_29 4 rfl rfl dX1_look_14 ?_
            refine ww_icmp_ge (tgt := 53) C dX1_look_17 (by decide) (fun c_2 => ?_) (fun c_2 => ?_)
            · have zc_2 : ((i1 : Nat) : Int) ≥ ((n : Nat) : Int) := i_le (nI_toInt (n := n) (by omega)) (nI_toInt (n := i1) (by omega)) c_2
              refine ww_aload_n C dX1_look_53 2 rfl rfl ?_
              refine ww_get C fg_X1_22 0 rfl rfl dX1_look_54 ?_
              refine ww_get C fg_X1_29 4 rfl rfl dX1_look_57 ?_
              refine ww_istore_n (lv' := [(2, .int (nI n)), (1, .int (nI k1)), (0, .ref qh)]) C dX1_look_60 rfl rfl rfl ?_
              have loop_61 : ∀ (fu : Nat) (i2 : Nat) (s3 : Nat → Int64), (n ≤ i2 ∧ i2 ≤ n + n2) → (LKx (cm2 (am n r f gg) (am n2 r2 f2 g2)) (rk (cm2 (am n r f gg) (am n2 r2 f2 g2)) rr) k1 i2 s3) → n + n2 - i2 < fu → WW X 4 E 61 [(2, .int (nI i2)), (1, .int (nI k1)), (0, .ref qh)] [] [(qh, .inr (1, [.ref h, .ref h2, .int (nI (n + n2)), .ref ha, .ref hb, .ref hc])), (ha, .inl (E.2.1 1, 48, .inl fl)), (hb, .inl (E.2.1 1, 48, .inl fn)), (hc, .inl (E.2.1 2, 192, .inr (.inl s3))), (h, .inr (4, [.int (nI n), .int (nI r), .ref a, .ref b])), (a, .inl (E.2.1 1, 24, .inl f)), (b, .inl (E.2.1 1, 96, .inl gg)), (h2, .inr (4, [.int (nI n2), .int (nI r2), .ref a2, .ref b2])), (a2, .inl (E.2.1 1, 24, .inl f2)), (b2, .inl (E.2.1 1, 96, .inl g2))] 0 0 := by
                intro fu
                induction fu with
                | zero => intro i2 s3 hi2 hlk3 hmeas; exact absurd hmeas (Nat.not_lt_zero _)
                | succ fu ih_61 =>
                  intro i2 s3 hi2 hlk3 hmeas
                  refine ww_aload_n C dX1_look_61 2 rfl rfl ?_
                  refine ww_get C fg_X1_26 0 rfl rfl dX1_look_62 ?_
                  refine ww_ifnull C dX1_look_65 ?_
                  refine ww_iload_n C dX1_look_68 0 rfl rfl ?_
                  refine ww_aload_n C dX1_look_69 2 rfl rfl ?_
                  refine ww_get C fg_X1_35 0 rfl rfl dX1_look_70 ?_
                  refine ww_icmp_ge (tgt := 125) C dX1_look_73 (by decide) (fun c_3 => ?_) (fun c_3 => ?_)
                  · have zc_3 : ((i2 : Nat) : Int) ≥ ((n + n2 : Nat) : Int) := i_le (nI_toInt (n := n + n2) (by omega)) (nI_toInt (n := i2) (by omega)) c_3
                    refine ww_iinc (j := 1) (v := (nI (k1 + 1))) (lv' := [(1, .int (nI (k1 + 1))), (2, .int (nI i2)), (0, .ref qh)]) C dX1_look_125 rfl (nI_add k1 1) rfl rfl ?_
                    refine ww_goto (tgt := 2) C dX1_look_128 (by decide) ?_
                    exact ww_lv [0, 2] rfl (ww_sub [0, 1, 2, 3, 4, 5, 6, 7, 8, 9] (ndk (by decide +kernel)) (gqk (by eq_refl)) (ih_2 (k1 + 1) s3 (by omega) (LKx.up hlk3 (by show n + n2 ≤ i2; omega)) (by omega)))
                  · have zc_3 : ((i2 : Nat) : Int) < ((n + n2 : Nat) : Int) := i_nle (nI_toInt (n := n + n2) (by omega)) (nI_toInt (n := i2) (by omega)) c_3
                    refine ww_aload_n C dX1_look_76 2 rfl rfl ?_
                    refine ww_get C fg_X1_26 0 rfl rfl dX1_look_77 ?_
                    refine ww_iload_n C dX1_look_80 1 rfl rfl ?_
                    refine ww_iload_n C dX1_look_81 0 rfl rfl ?_
                    refine ww_aload_n C dX1_look_82 2 rfl rfl ?_
                    refine ww_get C fg_X1_22 0 rfl rfl dX1_look_83 ?_
                    refine ww_get C fg_X1_29 4 rfl rfl dX1_look_86 ?_
                    refine ww_isub (v := (nI (i2 - n))) C dX1_look_89 (pk_sub (a := i2) (b := n) (by omega)) ?_
                    refine ww_ci (wr := [(qh, .inr (1, [.ref h, .ref h2, .int (nI (n + n2)), .ref ha, .ref hb, .ref hc])), (ha, .inl (E.2.1 1, 48, .inl fl)), (hb, .inl (E.2.1 1, 48, .inl fn)), (hc, .inl (E.2.1 2, 192, .inr (.inl s3))), (h, .inr (4, [.int (nI n), .int (nI r), .ref a, .ref b])), (a, .inl (E.2.1 1, 24, .inl f)), (b, .inl (E.2.1 1, 96, .inl gg))]) (k' := 0) (n' := 0) C (run_V (As := [.int (nI k1), .int (nI (i2 - n))]) (rest := []) C (m_held X.2.1 E ro h2 k1 (i2 - n) n2 r2 a2 b2 f2 g2 (by omega) (by omega)) mi_X4_held wl_X1_43 rfl 0 4 rfl rfl rfl rfl rfl dX1_look_90) (roK hro) [7, 8, 9] [0, 1, 2, 3, 4, 5, 6] rfl rfl (plk (by decide +kernel)) rfl (fun r_4 uz hw => ?_)
                    refine an1 hw ?_
                    clear hw
                    intro he_5 hw
                    have he_6 := hw
                    clear hw
                    have he_5 := he_5.symm
                    subst he_5
                    subst he_6
                    refine ww_eq (ws' := [(qh, .inr (1, [.ref h, .ref h2, .int (nI (n + n2)), .ref ha, .ref hb, .ref hc])), (ha, .inl (E.2.1 1, 48, .inl fl)), (hb, .inl (E.2.1 1, 48, .inl fn)), (hc, .inl (E.2.1 2, 192, .inr (.inl s3))), (h, .inr (4, [.int (nI n), .int (nI r), .ref a, .ref b])), (a, .inl (E.2.1 1, 24, .inl f)), (b, .inl (E.2.1 1, 96, .inl gg)), (h2, .inr (4, [.int (nI n2), .int (nI r2), .ref a2, .ref b2])), (a2, .inl (E.2.1 1, 24, .inl f2)), (b2, .inl (E.2.1 1, 96, .inl g2))]) ?_ rfl rfl rfl
                    refine ww_istore_n (lv' := [(3, .int (g2 (k1 * 24 + (i2 - n)))), (2, .int (nI i2)), (1, .int (nI k1)), (0, .ref qh)]) C dX1_look_93 rfl rfl rfl ?_
                    refine ww_aload_n C dX1_look_94 3 rfl rfl ?_
                    refine ww_get C fg_X1_18 0 rfl rfl dX1_look_95 ?_
                    refine ww_iload_n C dX1_look_98 2 rfl rfl ?_
                    refine ww_iconst (v := 2) C dX1_look_99 rfl ?_
                    refine ww_imul (v := (nI (k1 * 2))) C dX1_look_100 (pk_mul k1 2) ?_
                    refine ww_bipush (v := 24) C dX1_look_101 rfl ?_
                    refine ww_imul (v := (nI ((k1 * 2) * 24))) C dX1_look_103 (pk_mul (k1 * 2) 24) ?_
                    refine ww_iload_n C dX1_look_104 1 rfl rfl ?_
                    refine ww_iadd (v := (nI (((k1 * 2) * 24) + i2))) C dX1_look_105 (nI_add ((k1 * 2) * 24) i2) ?_
                    refine ww_aload_n C dX1_look_106 3 rfl rfl ?_
                    refine ww_iload_n C dX1_look_107 0 rfl rfl ?_
                    refine ww_aload_n C dX1_look_108 3 rfl rfl ?_
                    refine ww_get C fg_X1_22 0 rfl rfl dX1_look_109 ?_
                    refine ww_get C fg_X1_29 4 rfl rfl dX1_look_112 ?_
                    refine ww_cl (wr := [(hb, .inl (E.2.1 1, 48, .inl fn)), (hc, .inl (E.2.1 2, 192, .inr (.inl s3))), (h, .inr (4, [.int (nI n), .int (nI r), .ref a, .ref b])), (a, .inl (E.2.1 1, 24, .inl f)), (b, .inl (E.2.1 1, 96, .inl gg)), (h2, .inr (4, [.int (nI n2), .int (nI r2), .ref a2, .ref b2])), (a2, .inl (E.2.1 1, 24, .inl f2)), (b2, .inl (E.2.1 1, 96, .inl g2))]) (k' := 0) (n' := 0) C (run_V (As := [.int (g2 (k1 * 24 + (i2 - n))), .int (nI n)]) (rest := [.int (nI (((k1 * 2) * 24) + i2)), .ref hc]) C (h_heapsOf X.2.1 E ro qh (g2 (k1 * 24 + (i2 - n))) n (.ref h) (.ref h2) (nI (n + n2)) ha hb hc fl (rk (cm2 (am n r f gg) (am n2 r2 f2 g2)) rr) (by omega) (fun v h1 h2 => lk_R hrk (show n + v < n + n2 by have h9 := hwf2 k1 (i2 - n) v (by rw [am_S (by omega) (by omega)]; exact h2); have h8 : v < n2 := h9; omega) (by omega))) mi_X1_heapsOf wl_X1_47 rfl 0 1 rfl rfl rfl rfl rfl dX1_look_115) (roK hro) [0, 1] [2, 3, 4, 5, 6, 7, 8, 9] rfl (gqk (by eq_refl)) (plk (by decide +kernel)) rfl (fun r_7 uz hw => ?_)
                    refine an1 hw ?_
                    clear hw
                    intro he_9 hw
                    have h_8 := hw
                    clear hw
                    subst he_9
                    refine ww_eq (ws' := [(hb, .inl (E.2.1 1, 48, .inl fn)), (hc, .inl (E.2.1 2, 192, .inr (.inl s3))), (h, .inr (4, [.int (nI n), .int (nI r), .ref a, .ref b])), (a, .inl (E.2.1 1, 24, .inl f)), (b, .inl (E.2.1 1, 96, .inl gg)), (h2, .inr (4, [.int (nI n2), .int (nI r2), .ref a2, .ref b2])), (a2, .inl (E.2.1 1, 24, .inl f2)), (b2, .inl (E.2.1 1, 96, .inl g2)), (qh, .inr (1, [.ref h, .ref h2, .int (nI (n + n2)), .ref ha, .ref hb, .ref hc])), (ha, .inl (E.2.1 1, 48, .inl fl))]) ?_ rfl rfl rfl
                    obtain ⟨f_10, ef_10⟩ : ∃ z : Nat → Int64, vp_updL s3 (((k1 * 2) * 24) + i2) r_7 = z := ⟨_, rfl⟩
                    refine ww_last (ws' := [(hb, .inl (E.2.1 1, 48, .inl fn)), (hc, .inl (E.2.1 2, 192, .inr (.inl f_10))), (h, .inr (4, [.int (nI n), .int (nI r), .ref a, .ref b])), (a, .inl (E.2.1 1, 24, .inl f)), (b, .inl (E.2.1 1, 96, .inl gg)), (h2, .inr (4, [.int (nI n2), .int (nI r2), .ref a2, .ref b2])), (a2, .inl (E.2.1 1, 24, .inl f2)), (b2, .inl (E.2.1 1, 96, .inl g2)), (qh, .inr (1, [.ref h, .ref h2, .int (nI (n + n2)), .ref ha, .ref hb, .ref hc])), (ha, .inl (E.2.1 1, 48, .inl fl))]) C 1 rfl (vp_in_nI (by omega) (by omega)) (ldn2 (by omega) ef_10) rfl dX1_look_118 ?_
                    refine ww_iinc (j := 1) (v := (nI (i2 + 1))) (lv' := [(2, .int (nI (i2 + 1))), (3, .int (g2 (k1 * 24 + (i2 - n)))), (1, .int (nI k1)), (0, .ref qh)]) C dX1_look_119 rfl (nI_add i2 1) rfl rfl ?_
                    refine ww_goto (tgt := 61) C dX1_look_122 (by decide) ?_
                    exact ww_lv [0, 2, 3] rfl (ww_sub [8, 9, 0, 1, 2, 3, 4, 5, 6, 7] (ndk (by decide +kernel)) (gqk (by eq_refl)) (ih_61 (i2 + 1) f_10 (by omega) (LKx.t hlk3 (by show n + n2 ≤ 48; omega) (by show i2 < n + n2; omega) (hs_r hn hn2 hwf2 (by omega) (by omega) (by omega) h_8) ef_10) (by omega)))
              exact ww_lv [0, 1, 2] rfl (ww_sub [0, 1, 2, 3, 4, 5, 6, 7, 8, 9] (ndk (by decide +kernel)) (gqk (by eq_refl)) (loop_61 _ n s2 (by omega) (by have h9 : i1 = n := (by omega); rw [h9] at hlk2; exact hlk2) (Nat.lt_succ_self _)))
            · have zc_2 : ((i1 : Nat) : Int) < ((n : Nat) : Int) := i_nle (nI_toInt (n := n) (by omega)) (nI_toInt (n := i1) (by omega)) c_2
              refine ww_aload_n C dX1_look_20 2 rfl rfl ?_
              refine ww_get C fg_X1_18 0 rfl rfl dX1_look_21 ?_
              refine ww_iload_n C dX1_look_24 1 rfl rfl ?_
              refine ww_iconst (v := 2) C dX1_look_25 rfl ?_
              refine ww_imul (v := (nI (k1 * 2))) C dX1_look_26 (pk_mul k1 2) ?_
              refine ww_bipush (v := 24) C dX1_look_27 rfl ?_
              refine ww_imul (v := (nI ((k1 * 2) * 24))) C dX1_look_29 (pk_mul (k1 * 2) 24) ?_
              refine ww_iload_n C dX1_look_30 0 rfl rfl ?_
              refine ww_iadd (v := (nI (((k1 * 2) * 24) + i1))) C dX1_look_31 (nI_add ((k1 * 2) * 24) i1) ?_
              refine ww_aload_n C dX1_look_32 2 rfl rfl ?_
              refine ww_aload_n C dX1_look_33 2 rfl rfl ?_
              refine ww_get C fg_X1_22 0 rfl rfl dX1_look_34 ?_
              refine ww_iload_n C dX1_look_37 1 rfl rfl ?_
              refine ww_iload_n C dX1_look_38 0 rfl rfl ?_
              refine ww_ci (wr := [(qh, .inr (1, [.ref h, .ref h2, .int (nI (n + n2)), .ref ha, .ref hb, .ref hc])), (ha, .inl (E.2.1 1, 48, .inl fl)), (hb, .inl (E.2.1 1, 48, .inl fn)), (hc, .inl (E.2.1 2, 192, .inr (.inl s2))), (h2, .inr (4, [.int (nI n2), .int (nI r2), .ref a2, .ref b2])), (a2, .inl (E.2.1 1, 24, .inl f2)), (b2, .inl (E.2.1 1, 96, .inl g2))]) (k' := 0) (n' := 0) C (run_V (As := [.int (nI k1), .int (nI i1)]) (rest := [.ref qh, .int (nI (((k1 * 2) * 24) + i1)), .ref hc]) C (m_held X.2.1 E ro h k1 i1 n r a b f gg (by omega) (by omega)) mi_X4_held wl_X1_43 rfl 0 4 rfl rfl rfl rfl rfl dX1_look_39) (roK hro) [4, 5, 6] [0, 1, 2, 3, 7, 8, 9] rfl rfl (plk (by decide +kernel)) rfl (fun r_11 uz hw => ?_)
              refine an1 hw ?_
              clear hw
              intro he_12 hw
              have he_13 := hw
              clear hw
              have he_12 := he_12.symm
              subst he_12
              subst he_13
              refine ww_eq (ws' := [(qh, .inr (1, [.ref h, .ref h2, .int (nI (n + n2)), .ref ha, .ref hb, .ref hc])), (ha, .inl (E.2.1 1, 48, .inl fl)), (hb, .inl (E.2.1 1, 48, .inl fn)), (hc, .inl (E.2.1 2, 192, .inr (.inl s2))), (h2, .inr (4, [.int (nI n2), .int (nI r2), .ref a2, .ref b2])), (a2, .inl (E.2.1 1, 24, .inl f2)), (b2, .inl (E.2.1 1, 96, .inl g2)), (h, .inr (4, [.int (nI n), .int (nI r), .ref a, .ref b])), (a, .inl (E.2.1 1, 24, .inl f)), (b, .inl (E.2.1 1, 96, .inl gg))]) ?_ rfl rfl rfl
              refine ww_iconst (v := 0) C dX1_look_42 rfl ?_
              refine ww_cl (wr := [(hb, .inl (E.2.1 1, 48, .inl fn)), (hc, .inl (E.2.1 2, 192, .inr (.inl s2))), (h2, .inr (4, [.int (nI n2), .int (nI r2), .ref a2, .ref b2])), (a2, .inl (E.2.1 1, 24, .inl f2)), (b2, .inl (E.2.1 1, 96, .inl g2)), (h, .inr (4, [.int (nI n), .int (nI r), .ref a, .ref b])), (a, .inl (E.2.1 1, 24, .inl f)), (b, .inl (E.2.1 1, 96, .inl gg))]) (k' := 0) (n' := 0) C (run_V (As := [.int (gg (k1 * 24 + i1)), .int 0]) (rest := [.int (nI (((k1 * 2) * 24) + i1)), .ref hc]) C (h_heapsOf X.2.1 E ro qh (gg (k1 * 24 + i1)) 0 (.ref h) (.ref h2) (nI (n + n2)) ha hb hc fl (rk (cm2 (am n r f gg) (am n2 r2 f2 g2)) rr) (by omega) (fun v h1 h2 => lk_R hrk (show 0 + v < n + n2 by have h9 := hwf k1 i1 v (by rw [am_S (by omega) (by omega)]; exact h2); have h8 : v < n := h9; omega) (by omega))) mi_X1_heapsOf wl_X1_47 rfl 0 1 rfl rfl rfl rfl rfl dX1_look_43) (roK hro) [0, 1] [2, 3, 4, 5, 6, 7, 8, 9] rfl (gqk (by eq_refl)) (plk (by decide +kernel)) rfl (fun r_14 uz hw => ?_)
              refine an1 hw ?_
              clear hw
              intro he_16 hw
              have h_15 := hw
              clear hw
              subst he_16
              refine ww_eq (ws' := [(hb, .inl (E.2.1 1, 48, .inl fn)), (hc, .inl (E.2.1 2, 192, .inr (.inl s2))), (h2, .inr (4, [.int (nI n2), .int (nI r2), .ref a2, .ref b2])), (a2, .inl (E.2.1 1, 24, .inl f2)), (b2, .inl (E.2.1 1, 96, .inl g2)), (h, .inr (4, [.int (nI n), .int (nI r), .ref a, .ref b])), (a, .inl (E.2.1 1, 24, .inl f)), (b, .inl (E.2.1 1, 96, .inl gg)), (qh, .inr (1, [.ref h, .ref h2, .int (nI (n + n2)), .ref ha, .ref hb, .ref hc])), (ha, .inl (E.2.1 1, 48, .inl fl))]) ?_ rfl rfl rfl
              obtain ⟨f_17, ef_17⟩ : ∃ z : Nat → Int64, vp_updL s2 (((k1 * 2) * 24) + i1) r_14 = z := ⟨_, rfl⟩
              refine ww_last (ws' := [(hb, .inl (E.2.1 1, 48, .inl fn)), (hc, .inl (E.2.1 2, 192, .inr (.inl f_17))), (h2, .inr (4, [.int (nI n2), .int (nI r2), .ref a2, .ref b2])), (a2, .inl (E.2.1 1, 24, .inl f2)), (b2, .inl (E.2.1 1, 96, .inl g2)), (h, .inr (4, [.int (nI n), .int (nI r), .ref a, .ref b])), (a, .inl (E.2.1 1, 24, .inl f)), (b, .inl (E.2.1 1, 96, .inl gg)), (qh, .inr (1, [.ref h, .ref h2, .int (nI (n + n2)), .ref ha, .ref hb, .ref hc])), (ha, .inl (E.2.1 1, 48, .inl fl))]) C 1 rfl (vp_in_nI (by omega) (by omega)) (ldn2 (by omega) ef_17) rfl dX1_look_46 ?_
              refine ww_iinc (j := 0) (v := (nI (i1 + 1))) (lv' := [(2, .int (nI (i1 + 1))), (1, .int (nI k1)), (0, .ref qh)]) C dX1_look_47 rfl (nI_add i1 1) rfl rfl ?_
              refine ww_goto (tgt := 9) C dX1_look_50 (by decide) ?_
              exact ww_lv [0, 1, 2] rfl (ww_sub [8, 9, 0, 1, 5, 6, 7, 2, 3, 4] (ndk (by decide +kernel)) (gqk (by eq_refl)) (ih_9 (i1 + 1) f_17 (by omega) (LKx.t hlk2 (by show n + n2 ≤ 48; omega) (by show i1 < n + n2; omega) (hs_l hn hwf (by omega) (by omega) h_15) ef_17) (by omega)))
        exact ww_lv [0, 1, 2] rfl (ww_sub [0, 1, 2, 3, 4, 5, 6, 7, 8, 9] (ndk (by decide +kernel)) (gqk (by eq_refl)) (loop_9 _ 0 s1 (by omega) hlk1 (Nat.lt_succ_self _)))
  exact ww_lv [0, 1] rfl (ww_sub [0, 1, 2, 3, 4, 5, 6, 7, 8, 9] (ndk (by decide +kernel)) (gqk (by eq_refl)) (loop_2 _ 0 fs (by omega) LKx.nil (Nat.lt_succ_self _)))
set_option maxRecDepth 100000 in
set_option maxHeartbeats 4000000 in
theorem h_partM (l : Launch) (E : EV) (ro : va_W) (qh : Nat) (h : Nat) (h2 : Nat) (ha : Nat) (hb : Nat) (hc : Nat) (fl : Nat → Int32) (fn : Nat → Int32) (fs : Nat → Int64) (n : Nat) (r : Nat) (a : Nat) (b : Nat) (f : Nat → Int32) (gg : Nat → Int32) (n2 : Nat) (r2 : Nat) (a2 : Nat) (b2 : Nat) (f2 : Nat → Int32) (g2 : Nat → Int32) (rr : Nat) (hn : n ≤ 24) (hr : r < n ∨ r = 0) (hn2 : n2 ≤ 24) (hr2 : r2 < n2 ∨ r2 = 0) (hwf : WFm (am n r f gg)) (hwf2 : WFm (am n2 r2 f2 g2)) (hrng : RNG 48 48 fl) (hli : LI (n + n2) fl) (hrk : RKx (cm2 (am n r f gg) (am n2 r2 f2 g2)) (n + n2) (rr) fl) : CT l yX1_part (Cond.code yX1_part cX1_part 3 (some .boolean) :: TB) ({ frames := 3, cells := 0, slots := 0, locals := 69 }) E ro [.ref qh] [(qh, .inr (1, [.ref h, .ref h2, .int (nI (n + n2)), .ref ha, .ref hb, .ref hc])), (ha, .inl (E.2.1 1, 48, .inl fl)), (hb, .inl (E.2.1 1, 48, .inl fn)), (hc, .inl (E.2.1 2, 192, .inr (.inl fs))), (h, .inr (4, [.int (nI n), .int (nI r), .ref a, .ref b])), (a, .inl (E.2.1 1, 24, .inl f)), (b, .inl (E.2.1 1, 96, .inl gg)), (h2, .inr (4, [.int (nI n2), .int (nI r2), .ref a2, .ref b2])), (a2, .inl (E.2.1 1, 24, .inl f2)), (b2, .inl (E.2.1 1, 96, .inl g2))] (Qi E (fun (rz : Int32) uz => (∃ (flz : Nat → Int32) (fnz : Nat → Int32) (fsz : Nat → Int64), rz = 1 ∧ uz = [(qh, .inr (1, [.ref h, .ref h2, .int (nI (n + n2)), .ref ha, .ref hb, .ref hc])), (ha, .inl (E.2.1 1, 48, .inl flz)), (hb, .inl (E.2.1 1, 48, .inl fnz)), (hc, .inl (E.2.1 2, 192, .inr (.inl fsz))), (h, .inr (4, [.int (nI n), .int (nI r), .ref a, .ref b])), (a, .inl (E.2.1 1, 24, .inl f)), (b, .inl (E.2.1 1, 96, .inl gg)), (h2, .inr (4, [.int (nI n2), .int (nI r2), .ref a2, .ref b2])), (a2, .inl (E.2.1 1, 24, .inl f2)), (b2, .inl (E.2.1 1, 96, .inl g2))] ∧ (RNG 48 48 flz) ∧ (LI (n + n2) flz) ∧ (RKx (cm2 (am n r f gg) (am n2 r2 f2 g2)) (n + n2) (rr + 1) flz) ∧ (∃ i, i < n + n2 ∧ rk (cm2 (am n r f gg) (am n2 r2 f2 g2)) (rr + 1) i ≠ rk (cm2 (am n r f gg) (am n2 r2 f2 g2)) rr i)) ∨ (∃ (flz : Nat → Int32) (fnz : Nat → Int32) (fsz : Nat → Int64), rz = 0 ∧ uz = [(qh, .inr (1, [.ref h, .ref h2, .int (nI (n + n2)), .ref ha, .ref hb, .ref hc])), (ha, .inl (E.2.1 1, 48, .inl flz)), (hb, .inl (E.2.1 1, 48, .inl fnz)), (hc, .inl (E.2.1 2, 192, .inr (.inl fsz))), (h, .inr (4, [.int (nI n), .int (nI r), .ref a, .ref b])), (a, .inl (E.2.1 1, 24, .inl f)), (b, .inl (E.2.1 1, 96, .inl gg)), (h2, .inr (4, [.int (nI n2), .int (nI r2), .ref a2, .ref b2])), (a2, .inl (E.2.1 1, 24, .inl f2)), (b2, .inl (E.2.1 1, 96, .inl g2))] ∧ (RNG 48 48 flz) ∧ (LI (n + n2) flz) ∧ (RKx (cm2 (am n r f gg) (am n2 r2 f2 g2)) (n + n2) (rr + 1) flz) ∧ (∀ i, i < n + n2 → rk (cm2 (am n r f gg) (am n2 r2 f2 g2)) (rr + 1) i = rk (cm2 (am n r f gg) (am n2 r2 f2 g2)) rr i)))) 0 0 := by
  refine ct_of rfl rfl ?_
  intro X C hT hin hro
  show WW X 3 E 0 [(0, .ref qh)] [] [(qh, .inr (1, [.ref h, .ref h2, .int (nI (n + n2)), .ref ha, .ref hb, .ref hc])), (ha, .inl (E.2.1 1, 48, .inl fl)), (hb, .inl (E.2.1 1, 48, .inl fn)), (hc, .inl (E.2.1 2, 192, .inr (.inl fs))), (h, .inr (4, [.int (nI n), .int (nI r), .ref a, .ref b])), (a, .inl (E.2.1 1, 24, .inl f)), (b, .inl (E.2.1 1, 96, .inl gg)), (h2, .inr (4, [.int (nI n2), .int (nI r2), .ref a2, .ref b2])), (a2, .inl (E.2.1 1, 24, .inl f2)), (b2, .inl (E.2.1 1, 96, .inl g2))] 0 0
  refine ww_aload_n C dX1_part_0 0 rfl rfl ?_
  refine ww_cv (wr := []) (k' := 0) (n' := 0) C (run_V (As := []) (rest := []) C (h_lookM X.2.1 E ro qh h h2 ha hb hc fl fn fs n r a b f gg n2 r2 a2 b2 f2 g2 rr (by omega) (by omega) (by omega) (by omega) hwf hwf2 hrk) mi_X1_look wl_X1_55 rfl 0 1 rfl rfl rfl rfl rfl dX1_part_1) (roK hro) [0, 1, 2, 3, 4, 5, 6, 7, 8, 9] [] (gqk (by eq_refl)) rfl (plk (by decide +kernel)) rfl (fun uz hw => ?_)
  refine ex1 hw ?_
  clear hw
  intro fsz_2 hw
  refine an1 hw ?_
  clear hw
  intro he_4 hw
  have h_3 := hw
  clear hw
  subst he_4
  refine ww_eq (ws' := [(qh, .inr (1, [.ref h, .ref h2, .int (nI (n + n2)), .ref ha, .ref hb, .ref hc])), (ha, .inl (E.2.1 1, 48, .inl fl)), (hb, .inl (E.2.1 1, 48, .inl fn)), (hc, .inl (E.2.1 2, 192, .inr (.inl fsz_2))), (h, .inr (4, [.int (nI n), .int (nI r), .ref a, .ref b])), (a, .inl (E.2.1 1, 24, .inl f)), (b, .inl (E.2.1 1, 96, .inl gg)), (h2, .inr (4, [.int (nI n2), .int (nI r2), .ref a2, .ref b2])), (a2, .inl (E.2.1 1, 24, .inl f2)), (b2, .inl (E.2.1 1, 96, .inl g2))]) ?_ rfl rfl rfl
  refine ww_iconst (v := 0) C dX1_part_4 rfl ?_
  refine ww_istore_n (lv' := [(1, .int 0), (0, .ref qh)]) C dX1_part_5 rfl rfl rfl ?_
  have loop_6 : ∀ (fu : Nat) (i1 : Nat) (n1 : Nat → Int32), (i1 ≤ n + n2) → (HPx i1 fl fsz_2 n1) → n + n2 - i1 < fu → WW X 3 E 6 [(1, .int (nI i1)), (0, .ref qh)] [] [(qh, .inr (1, [.ref h, .ref h2, .int (nI (n + n2)), .ref ha, .ref hb, .ref hc])), (ha, .inl (E.2.1 1, 48, .inl fl)), (hb, .inl (E.2.1 1, 48, .inl n1)), (hc, .inl (E.2.1 2, 192, .inr (.inl fsz_2))), (h, .inr (4, [.int (nI n), .int (nI r), .ref a, .ref b])), (a, .inl (E.2.1 1, 24, .inl f)), (b, .inl (E.2.1 1, 96, .inl gg)), (h2, .inr (4, [.int (nI n2), .int (nI r2), .ref a2, .ref b2])), (a2, .inl (E.2.1 1, 24, .inl f2)), (b2, .inl (E.2.1 1, 96, .inl g2))] 0 0 := by
    intro fu
    induction fu with
    | zero => intro i1 n1 hi1 hp1 hmeas; exact absurd hmeas (Nat.not_lt_zero _)
    | succ fu ih_6 =>
      intro i1 n1 hi1 hp1 hmeas
      refine ww_iload_n C dX1_part_6 0 rfl rfl ?_
      refine ww_aload_n C dX1_part_7 1 rfl rfl ?_
      refine ww_get C fg_X1_35 0 rfl rfl dX1_part_8 ?_
      refine ww_icmp_ge (tgt := 54) C dX1_part_11 (by decide) (fun c_5 => ?_) (fun c_5 => ?_)
      · have zc_5 : ((i1 : Nat) : Int) ≥ ((n + n2 : Nat) : Int) := i_le (nI_toInt (n := n + n2) (by omega)) (nI_toInt (n := i1) (by omega)) c_5
        refine ww_iconst (v := 0) C dX1_part_54 rfl ?_
        refine ww_istore_n (lv' := [(1, .int 0), (0, .ref qh)]) C dX1_part_55 rfl rfl rfl ?_
        refine ww_iconst (v := 0) C dX1_part_56 rfl ?_
        refine ww_istore_n (lv' := [(2, .int 0), (1, .int 0), (0, .ref qh)]) C dX1_part_57 rfl rfl rfl ?_
        have hi1n : i1 = n + n2 := by omega
        have hp1n := hp1
        rw [hi1n] at hp1n
        have loop_58 : ∀ (fu : Nat) (i2 : Nat) (pd : Nat) (l1 : Nat → Int32), (i2 ≤ n + n2) → (pd ≤ 1) → (∀ v, i2 ≤ v → l1 v = fl v) → (pd = 1 ↔ ∃ i, i < i2 ∧ n1 i ≠ fl i) → (RNG 48 48 l1) → (CPx i2 n1 l1) → n + n2 - i2 < fu → WW X 3 E 58 [(2, .int (nI i2)), (1, .int (nI pd)), (0, .ref qh)] [] [(qh, .inr (1, [.ref h, .ref h2, .int (nI (n + n2)), .ref ha, .ref hb, .ref hc])), (ha, .inl (E.2.1 1, 48, .inl l1)), (hb, .inl (E.2.1 1, 48, .inl n1)), (hc, .inl (E.2.1 2, 192, .inr (.inl fsz_2))), (h, .inr (4, [.int (nI n), .int (nI r), .ref a, .ref b])), (a, .inl (E.2.1 1, 24, .inl f)), (b, .inl (E.2.1 1, 96, .inl gg)), (h2, .inr (4, [.int (nI n2), .int (nI r2), .ref a2, .ref b2])), (a2, .inl (E.2.1 1, 24, .inl f2)), (b2, .inl (E.2.1 1, 96, .inl g2))] 0 0 := by
          intro fu
          induction fu with
          | zero => intro i2 pd l1 hi2 hpd hkp hpa hr2_ hcp hmeas; exact absurd hmeas (Nat.not_lt_zero _)
          | succ fu ih_58 =>
            intro i2 pd l1 hi2 hpd hkp hpa hr2_ hcp hmeas
            refine ww_iload_n C dX1_part_58 0 rfl rfl ?_
            refine ww_aload_n C dX1_part_59 2 rfl rfl ?_
            refine ww_get C fg_X1_35 0 rfl rfl dX1_part_60 ?_
            refine ww_icmp_ge (tgt := 109) C dX1_part_63 (by decide) (fun c_6 => ?_) (fun c_6 => ?_)
            · have zc_6 : ((i2 : Nat) : Int) ≥ ((n + n2 : Nat) : Int) := i_le (nI_toInt (n := n + n2) (by omega)) (nI_toInt (n := i2) (by omega)) c_6
              rcases (show pd = 0 ∨ pd = 1 by omega) with rfl | rfl
              · refine ww_iload_n C dX1_part_109 1 rfl rfl ?_
                exact ww_zret (u := [(qh, .inr (1, [.ref h, .ref h2, .int (nI (n + n2)), .ref ha, .ref hb, .ref hc])), (ha, .inl (E.2.1 1, 48, .inl l1)), (hb, .inl (E.2.1 1, 48, .inl n1)), (hc, .inl (E.2.1 2, 192, .inr (.inl fsz_2))), (h, .inr (4, [.int (nI n), .int (nI r), .ref a, .ref b])), (a, .inl (E.2.1 1, 24, .inl f)), (b, .inl (E.2.1 1, 96, .inl gg)), (h2, .inr (4, [.int (nI n2), .int (nI r2), .ref a2, .ref b2])), (a2, .inl (E.2.1 1, 24, .inl f2)), (b2, .inl (E.2.1 1, 96, .inl g2))]) C hT [0, 1, 2, 3, 4, 5, 6, 7, 8, 9] (gqk (by eq_refl)) (ndk (by decide +kernel)) rfl rfl rfl dX1_part_110 (Or.inr ⟨l1, n1, fsz_2, rfl, rfl, hr2_, (LI.cp (HPx.LI hp1n (by omega)) (by have h9 : i2 = n + n2 := (by omega); rw [← h9]; exact hcp)), (cp_rk (c := (cm2 (am n r f gg) (am n2 r2 f2 g2))) (hp_rk (c := (cm2 (am n r f gg) (am n2 r2 f2 g2))) (by show n + n2 ≤ 48; omega) hrk h_3 hp1n) (by have h9 : i2 = n + n2 := (by omega); rw [h9] at hcp; exact hcp)), (pa_n (c := (cm2 (am n r f gg) (am n2 r2 f2 g2))) hrk (hp_rk (c := (cm2 (am n r f gg) (am n2 r2 f2 g2))) (by show n + n2 ≤ 48; omega) hrk h_3 hp1n) (by show n + n2 ≤ 48; omega) (by have h9 : i2 = n + n2 := (by omega); rw [h9] at hpa; exact fun h8 => absurd (hpa.mpr h8) (by decide)))⟩)
              · refine ww_iload_n C dX1_part_109 1 rfl rfl ?_
                exact ww_zret (u := [(qh, .inr (1, [.ref h, .ref h2, .int (nI (n + n2)), .ref ha, .ref hb, .ref hc])), (ha, .inl (E.2.1 1, 48, .inl l1)), (hb, .inl (E.2.1 1, 48, .inl n1)), (hc, .inl (E.2.1 2, 192, .inr (.inl fsz_2))), (h, .inr (4, [.int (nI n), .int (nI r), .ref a, .ref b])), (a, .inl (E.2.1 1, 24, .inl f)), (b, .inl (E.2.1 1, 96, .inl gg)), (h2, .inr (4, [.int (nI n2), .int (nI r2), .ref a2, .ref b2])), (a2, .inl (E.2.1 1, 24, .inl f2)), (b2, .inl (E.2.1 1, 96, .inl g2))]) C hT [0, 1, 2, 3, 4, 5, 6, 7, 8, 9] (gqk (by eq_refl)) (ndk (by decide +kernel)) rfl rfl rfl dX1_part_110 (Or.inl ⟨l1, n1, fsz_2, rfl, rfl, hr2_, (LI.cp (HPx.LI hp1n (by omega)) (by have h9 : i2 = n + n2 := (by omega); rw [← h9]; exact hcp)), (cp_rk (c := (cm2 (am n r f gg) (am n2 r2 f2 g2))) (hp_rk (c := (cm2 (am n r f gg) (am n2 r2 f2 g2))) (by show n + n2 ≤ 48; omega) hrk h_3 hp1n) (by have h9 : i2 = n + n2 := (by omega); rw [h9] at hcp; exact hcp)), (pa_y (c := (cm2 (am n r f gg) (am n2 r2 f2 g2))) hrk (hp_rk (c := (cm2 (am n r f gg) (am n2 r2 f2 g2))) (by show n + n2 ≤ 48; omega) hrk h_3 hp1n) (by show n + n2 ≤ 48; omega) (by have h9 : i2 = n + n2 := (by omega); rw [h9] at hpa; exact hpa.mp rfl))⟩)
            · have zc_6 : ((i2 : Nat) : Int) < ((n + n2 : Nat) : Int) := i_nle (nI_toInt (n := n + n2) (by omega)) (nI_toInt (n := i2) (by omega)) c_6
              rcases (show pd = 0 ∨ pd = 1 by omega) with rfl | rfl
              · refine ww_iload_n C dX1_part_66 1 rfl rfl ?_
                refine ww_if_ne_f (tgt := 85) C dX1_part_67 (by decide) (rfl) ?_
                refine ww_aload_n C dX1_part_70 2 rfl rfl ?_
                refine ww_get C fg_X1_15 0 rfl rfl dX1_part_71 ?_
                refine ww_iload_n C dX1_part_74 0 rfl rfl ?_
                obtain ⟨x_7, ex_7⟩ : ∃ z : Int32, n1 i2 = z := ⟨_, rfl⟩
                refine ww_iald (v := x_7) C 2 rfl (vp_in_nI (by omega) (by omega)) (ldn (by omega) ex_7) dX1_part_75 ?_
                refine ww_aload_n C dX1_part_76 2 rfl rfl ?_
                refine ww_get C fg_X1_9 0 rfl rfl dX1_part_77 ?_
                refine ww_iload_n C dX1_part_80 0 rfl rfl ?_
                obtain ⟨x_8, ex_8⟩ : ∃ z : Int32, l1 i2 = z := ⟨_, rfl⟩
                refine ww_iald (v := x_8) C 1 rfl (vp_in_nI (by omega) (by omega)) (ldn (by omega) ex_8) dX1_part_81 ?_
                refine ww_icmp_eq (tgt := 89) C dX1_part_82 (by decide) (fun c_9 => ?_) (fun c_9 => ?_)
                · have zc_9 : x_7.toInt = x_8.toInt := i_eq rfl rfl c_9
                  refine ww_iconst (v := 0) C dX1_part_89 rfl ?_
                  refine ww_istore_n (lv' := [(1, .int 0), (2, .int (nI i2)), (0, .ref qh)]) C dX1_part_90 rfl rfl rfl ?_
                  refine ww_aload_n C dX1_part_91 2 rfl rfl ?_
                  refine ww_get C fg_X1_9 0 rfl rfl dX1_part_92 ?_
                  refine ww_iload_n C dX1_part_95 1 rfl rfl ?_
                  refine ww_aload_n C dX1_part_96 2 rfl rfl ?_
                  refine ww_get C fg_X1_15 0 rfl rfl dX1_part_97 ?_
                  refine ww_iload_n C dX1_part_100 1 rfl rfl ?_
                  obtain ⟨x_10, ex_10⟩ : ∃ z : Int32, n1 i2 = z := ⟨_, rfl⟩
                  refine ww_iald (v := x_10) C 2 rfl (vp_in_nI (by omega) (by omega)) (ldn (by omega) ex_10) dX1_part_101 ?_
                  obtain ⟨f_11, ef_11⟩ : ∃ z : Nat → Int32, upd l1 i2 x_10 = z := ⟨_, rfl⟩
                  refine ww_iast (ws' := [(qh, .inr (1, [.ref h, .ref h2, .int (nI (n + n2)), .ref ha, .ref hb, .ref hc])), (ha, .inl (E.2.1 1, 48, .inl f_11)), (hb, .inl (E.2.1 1, 48, .inl n1)), (hc, .inl (E.2.1 2, 192, .inr (.inl fsz_2))), (h, .inr (4, [.int (nI n), .int (nI r), .ref a, .ref b])), (a, .inl (E.2.1 1, 24, .inl f)), (b, .inl (E.2.1 1, 96, .inl gg)), (h2, .inr (4, [.int (nI n2), .int (nI r2), .ref a2, .ref b2])), (a2, .inl (E.2.1 1, 24, .inl f2)), (b2, .inl (E.2.1 1, 96, .inl g2))]) C 1 rfl (vp_in_nI (by omega) (by omega)) (ldn2 (by omega) ef_11) rfl dX1_part_102 ?_
                  obtain ⟨j9, hj9, ej9⟩ := HPx.at hp1n (i := i2) (by omega)
                  refine ww_iinc (j := 1) (v := (nI (i2 + 1))) (lv' := [(2, .int (nI (i2 + 1))), (1, .int 0), (0, .ref qh)]) C dX1_part_103 rfl (nI_add i2 1) rfl rfl ?_
                  refine ww_goto (tgt := 58) C dX1_part_106 (by decide) ?_
                  exact ww_lv [0, 1, 2] rfl (ww_sub [0, 1, 2, 3, 4, 5, 6, 7, 8, 9] (ndk (by decide +kernel)) (gqk (by eq_refl)) (ih_58 (i2 + 1) 0 f_11 (by omega) (by omega) (fun v hv => by rw [← ef_11, pk_un (by omega)]; exact hkp v (by omega)) (pa_2 hpa (by omega) (ex_7.trans ((Int32.toInt_inj.mp zc_9).trans (ex_8.symm.trans (hkp i2 (Nat.le_refl _)))))) (RNG.put (k := i2) hr2_ (t := j9) (by omega) (by rw [← ej9, show n1 i2 = x_10 by assumption]; exact ef_11)) (CPx.ext hcp (by assumption) ef_11) (by omega)))
                · have zc_9 : x_7.toInt ≠ x_8.toInt := i_ne rfl rfl c_9
                  refine ww_iconst (v := 1) C dX1_part_85 rfl ?_
                  refine ww_goto (tgt := 90) C dX1_part_86 (by decide) ?_
                  refine ww_istore_n (lv' := [(1, .int 1), (2, .int (nI i2)), (0, .ref qh)]) C dX1_part_90 rfl rfl rfl ?_
                  refine ww_aload_n C dX1_part_91 2 rfl rfl ?_
                  refine ww_get C fg_X1_9 0 rfl rfl dX1_part_92 ?_
                  refine ww_iload_n C dX1_part_95 1 rfl rfl ?_
                  refine ww_aload_n C dX1_part_96 2 rfl rfl ?_
                  refine ww_get C fg_X1_15 0 rfl rfl dX1_part_97 ?_
                  refine ww_iload_n C dX1_part_100 1 rfl rfl ?_
                  obtain ⟨x_12, ex_12⟩ : ∃ z : Int32, n1 i2 = z := ⟨_, rfl⟩
                  refine ww_iald (v := x_12) C 2 rfl (vp_in_nI (by omega) (by omega)) (ldn (by omega) ex_12) dX1_part_101 ?_
                  obtain ⟨f_13, ef_13⟩ : ∃ z : Nat → Int32, upd l1 i2 x_12 = z := ⟨_, rfl⟩
                  refine ww_iast (ws' := [(qh, .inr (1, [.ref h, .ref h2, .int (nI (n + n2)), .ref ha, .ref hb, .ref hc])), (ha, .inl (E.2.1 1, 48, .inl f_13)), (hb, .inl (E.2.1 1, 48, .inl n1)), (hc, .inl (E.2.1 2, 192, .inr (.inl fsz_2))), (h, .inr (4, [.int (nI n), .int (nI r), .ref a, .ref b])), (a, .inl (E.2.1 1, 24, .inl f)), (b, .inl (E.2.1 1, 96, .inl gg)), (h2, .inr (4, [.int (nI n2), .int (nI r2), .ref a2, .ref b2])), (a2, .inl (E.2.1 1, 24, .inl f2)), (b2, .inl (E.2.1 1, 96, .inl g2))]) C 1 rfl (vp_in_nI (by omega) (by omega)) (ldn2 (by omega) ef_13) rfl dX1_part_102 ?_
                  obtain ⟨j9, hj9, ej9⟩ := HPx.at hp1n (i := i2) (by omega)
                  refine ww_iinc (j := 1) (v := (nI (i2 + 1))) (lv' := [(2, .int (nI (i2 + 1))), (1, .int 1), (0, .ref qh)]) C dX1_part_103 rfl (nI_add i2 1) rfl rfl ?_
                  refine ww_goto (tgt := 58) C dX1_part_106 (by decide) ?_
                  exact ww_lv [0, 1, 2] rfl (ww_sub [0, 1, 2, 3, 4, 5, 6, 7, 8, 9] (ndk (by decide +kernel)) (gqk (by eq_refl)) (ih_58 (i2 + 1) 1 f_13 (by omega) (by omega) (fun v hv => by rw [← ef_13, pk_un (by omega)]; exact hkp v (by omega)) (pa_1 hpa (fun h9 => zc_9 (congrArg Int32.toInt (ex_7.symm.trans (h9.trans ((hkp i2 (Nat.le_refl _)).symm.trans ex_8))))) rfl) (RNG.put (k := i2) hr2_ (t := j9) (by omega) (by rw [← ej9, show n1 i2 = x_12 by assumption]; exact ef_13)) (CPx.ext hcp (by assumption) ef_13) (by omega)))
              · refine ww_iload_n C dX1_part_66 1 rfl rfl ?_
                refine ww_if_ne_t (tgt := 85) C dX1_part_67 (by decide) (by decide) ?_
                refine ww_iconst (v := 1) C dX1_part_85 rfl ?_
                refine ww_goto (tgt := 90) C dX1_part_86 (by decide) ?_
                refine ww_istore_n (lv' := [(1, .int 1), (2, .int (nI i2)), (0, .ref qh)]) C dX1_part_90 rfl rfl rfl ?_
                refine ww_aload_n C dX1_part_91 2 rfl rfl ?_
                refine ww_get C fg_X1_9 0 rfl rfl dX1_part_92 ?_
                refine ww_iload_n C dX1_part_95 1 rfl rfl ?_
                refine ww_aload_n C dX1_part_96 2 rfl rfl ?_
                refine ww_get C fg_X1_15 0 rfl rfl dX1_part_97 ?_
                refine ww_iload_n C dX1_part_100 1 rfl rfl ?_
                obtain ⟨x_14, ex_14⟩ : ∃ z : Int32, n1 i2 = z := ⟨_, rfl⟩
                refine ww_iald (v := x_14) C 2 rfl (vp_in_nI (by omega) (by omega)) (ldn (by omega) ex_14) dX1_part_101 ?_
                obtain ⟨f_15, ef_15⟩ : ∃ z : Nat → Int32, upd l1 i2 x_14 = z := ⟨_, rfl⟩
                refine ww_iast (ws' := [(qh, .inr (1, [.ref h, .ref h2, .int (nI (n + n2)), .ref ha, .ref hb, .ref hc])), (ha, .inl (E.2.1 1, 48, .inl f_15)), (hb, .inl (E.2.1 1, 48, .inl n1)), (hc, .inl (E.2.1 2, 192, .inr (.inl fsz_2))), (h, .inr (4, [.int (nI n), .int (nI r), .ref a, .ref b])), (a, .inl (E.2.1 1, 24, .inl f)), (b, .inl (E.2.1 1, 96, .inl gg)), (h2, .inr (4, [.int (nI n2), .int (nI r2), .ref a2, .ref b2])), (a2, .inl (E.2.1 1, 24, .inl f2)), (b2, .inl (E.2.1 1, 96, .inl g2))]) C 1 rfl (vp_in_nI (by omega) (by omega)) (ldn2 (by omega) ef_15) rfl dX1_part_102 ?_
                obtain ⟨j9, hj9, ej9⟩ := HPx.at hp1n (i := i2) (by omega)
                refine ww_iinc (j := 1) (v := (nI (i2 + 1))) (lv' := [(2, .int (nI (i2 + 1))), (1, .int 1), (0, .ref qh)]) C dX1_part_103 rfl (nI_add i2 1) rfl rfl ?_
                refine ww_goto (tgt := 58) C dX1_part_106 (by decide) ?_
                exact ww_lv [0, 1, 2] rfl (ww_sub [0, 1, 2, 3, 4, 5, 6, 7, 8, 9] (ndk (by decide +kernel)) (gqk (by eq_refl)) (ih_58 (i2 + 1) 1 f_15 (by omega) (by omega) (fun v hv => by rw [← ef_15, pk_un (by omega)]; exact hkp v (by omega)) (pa_3 hpa (by omega) rfl) (RNG.put (k := i2) hr2_ (t := j9) (by omega) (by rw [← ej9, show n1 i2 = x_14 by assumption]; exact ef_15)) (CPx.ext hcp (by assumption) ef_15) (by omega)))
        exact ww_lv [0, 1, 2] rfl (ww_sub [0, 1, 2, 3, 4, 5, 6, 7, 8, 9] (ndk (by decide +kernel)) (gqk (by eq_refl)) (loop_58 _ 0 0 fl (by omega) (by omega) (fun _ _ => rfl) (pa_0 (by omega)) hrng CPx.zero (Nat.lt_succ_self _)))
      · have zc_5 : ((i1 : Nat) : Int) < ((n + n2 : Nat) : Int) := i_nle (nI_toInt (n := n + n2) (by omega)) (nI_toInt (n := i1) (by omega)) c_5
        refine ww_aload_n C dX1_part_14 1 rfl rfl ?_
        refine ww_get C fg_X1_9 0 rfl rfl dX1_part_15 ?_
        refine ww_iload_n C dX1_part_18 0 rfl rfl ?_
        obtain ⟨lo_17, hlo_17, elo_17⟩ := LI.at hli (i := i1) (by omega)
        refine ww_iald (v := (nI lo_17)) C 1 rfl (vp_in_nI (by omega) (by omega)) (ldn (by omega) elo_17) dX1_part_19 ?_
        refine ww_istore_n (lv' := [(2, .int (nI lo_17)), (1, .int (nI i1)), (0, .ref qh)]) C dX1_part_20 rfl rfl rfl ?_
        have loop_21 : ∀ (fu : Nat) (j1 : Nat), (lo_17 ≤ j1) → (j1 ≤ i1) → (∀ v, lo_17 ≤ v → v < j1 → ¬ ALx fl fsz_2 i1 v) → i1 - j1 < fu → WW X 3 E 21 [(2, .int (nI j1)), (1, .int (nI i1)), (0, .ref qh)] [] [(qh, .inr (1, [.ref h, .ref h2, .int (nI (n + n2)), .ref ha, .ref hb, .ref hc])), (ha, .inl (E.2.1 1, 48, .inl fl)), (hb, .inl (E.2.1 1, 48, .inl n1)), (hc, .inl (E.2.1 2, 192, .inr (.inl fsz_2))), (h, .inr (4, [.int (nI n), .int (nI r), .ref a, .ref b])), (a, .inl (E.2.1 1, 24, .inl f)), (b, .inl (E.2.1 1, 96, .inl gg)), (h2, .inr (4, [.int (nI n2), .int (nI r2), .ref a2, .ref b2])), (a2, .inl (E.2.1 1, 24, .inl f2)), (b2, .inl (E.2.1 1, 96, .inl g2))] 0 0 := by
          intro fu
          induction fu with
          | zero => intro j1 hj0 hj1 hv1 hmeas; exact absurd hmeas (Nat.not_lt_zero _)
          | succ fu ih_21 =>
            intro j1 hj0 hj1 hv1 hmeas
            refine ww_iload_n C dX1_part_21 0 rfl rfl ?_
            refine ww_iload_n C dX1_part_22 1 rfl rfl ?_
            refine ww_icmp_ge (tgt := 41) C dX1_part_23 (by decide) (fun c_18 => ?_) (fun c_18 => ?_)
            · have zc_18 : ((j1 : Nat) : Int) ≥ ((i1 : Nat) : Int) := i_le (nI_toInt (n := i1) (by omega)) (nI_toInt (n := j1) (by omega)) c_18
              refine ww_aload_n C dX1_part_41 2 rfl rfl ?_
              refine ww_get C fg_X1_15 0 rfl rfl dX1_part_42 ?_
              refine ww_iload_n C dX1_part_45 1 rfl rfl ?_
              refine ww_iload_n C dX1_part_46 0 rfl rfl ?_
              obtain ⟨f_19, ef_19⟩ : ∃ z : Nat → Int32, upd n1 i1 (nI j1) = z := ⟨_, rfl⟩
              refine ww_iast (ws' := [(qh, .inr (1, [.ref h, .ref h2, .int (nI (n + n2)), .ref ha, .ref hb, .ref hc])), (ha, .inl (E.2.1 1, 48, .inl fl)), (hb, .inl (E.2.1 1, 48, .inl f_19)), (hc, .inl (E.2.1 2, 192, .inr (.inl fsz_2))), (h, .inr (4, [.int (nI n), .int (nI r), .ref a, .ref b])), (a, .inl (E.2.1 1, 24, .inl f)), (b, .inl (E.2.1 1, 96, .inl gg)), (h2, .inr (4, [.int (nI n2), .int (nI r2), .ref a2, .ref b2])), (a2, .inl (E.2.1 1, 24, .inl f2)), (b2, .inl (E.2.1 1, 96, .inl g2))]) C 2 rfl (vp_in_nI (by omega) (by omega)) (ldn2 (by omega) ef_19) rfl dX1_part_47 ?_
              refine ww_iinc (j := 1) (v := (nI (i1 + 1))) (lv' := [(1, .int (nI (i1 + 1))), (2, .int (nI j1)), (0, .ref qh)]) C dX1_part_48 rfl (nI_add i1 1) rfl rfl ?_
              refine ww_goto (tgt := 6) C dX1_part_51 (by decide) ?_
              exact ww_lv [0, 2] rfl (ww_sub [0, 1, 2, 3, 4, 5, 6, 7, 8, 9] (ndk (by decide +kernel)) (gqk (by eq_refl)) (ih_6 (i1 + 1) f_19 (by omega) (HPx.ext hp1 elo_17 hj0 hj1 (by rw [show j1 = i1 by omega]; exact ALx.rf) hv1 ef_19) (by omega)))
            · have zc_18 : ((j1 : Nat) : Int) < ((i1 : Nat) : Int) := i_nle (nI_toInt (n := i1) (by omega)) (nI_toInt (n := j1) (by omega)) c_18
              refine ww_aload_n C dX1_part_26 2 rfl rfl ?_
              refine ww_iload_n C dX1_part_27 1 rfl rfl ?_
              refine ww_iload_n C dX1_part_28 0 rfl rfl ?_
              refine ww_ci (wr := [(hb, .inl (E.2.1 1, 48, .inl n1)), (h, .inr (4, [.int (nI n), .int (nI r), .ref a, .ref b])), (a, .inl (E.2.1 1, 24, .inl f)), (b, .inl (E.2.1 1, 96, .inl gg)), (h2, .inr (4, [.int (nI n2), .int (nI r2), .ref a2, .ref b2])), (a2, .inl (E.2.1 1, 24, .inl f2)), (b2, .inl (E.2.1 1, 96, .inl g2))]) (k' := 0) (n' := 0) C (run_V (As := [.int (nI i1), .int (nI j1)]) (rest := []) C (h_alike X.2.1 E ro qh i1 j1 (.ref h) (.ref h2) (nI (n + n2)) ha hb hc fl fsz_2 (by omega) (by omega)) mi_X1_alike wl_X1_58 rfl 0 1 rfl rfl rfl rfl rfl dX1_part_29) (roK hro) [0, 1, 3] [2, 4, 5, 6, 7, 8, 9] rfl rfl (plk (by decide +kernel)) rfl (fun r_20 uz hw => ?_)
              rcases hw with hw | hw
              · refine an2 hw ?_
                clear hw
                intro he_22 he_23 hw
                have h_21 := hw
                clear hw
                have he_22 := he_22.symm
                subst he_22
                subst he_23
                refine ww_eq (ws' := [(hb, .inl (E.2.1 1, 48, .inl n1)), (h, .inr (4, [.int (nI n), .int (nI r), .ref a, .ref b])), (a, .inl (E.2.1 1, 24, .inl f)), (b, .inl (E.2.1 1, 96, .inl gg)), (h2, .inr (4, [.int (nI n2), .int (nI r2), .ref a2, .ref b2])), (a2, .inl (E.2.1 1, 24, .inl f2)), (b2, .inl (E.2.1 1, 96, .inl g2)), (qh, .inr (1, [.ref h, .ref h2, .int (nI (n + n2)), .ref ha, .ref hb, .ref hc])), (ha, .inl (E.2.1 1, 48, .inl fl)), (hc, .inl (E.2.1 2, 192, .inr (.inl fsz_2)))]) ?_ rfl rfl rfl
                refine ww_if_ne_t (tgt := 41) C dX1_part_32 (by decide) (by decide) ?_
                refine ww_aload_n C dX1_part_41 2 rfl rfl ?_
                refine ww_get C fg_X1_15 7 rfl rfl dX1_part_42 ?_
                refine ww_iload_n C dX1_part_45 1 rfl rfl ?_
                refine ww_iload_n C dX1_part_46 0 rfl rfl ?_
                obtain ⟨f_27, ef_27⟩ : ∃ z : Nat → Int32, upd n1 i1 (nI j1) = z := ⟨_, rfl⟩
                refine ww_iast (ws' := [(hb, .inl (E.2.1 1, 48, .inl f_27)), (h, .inr (4, [.int (nI n), .int (nI r), .ref a, .ref b])), (a, .inl (E.2.1 1, 24, .inl f)), (b, .inl (E.2.1 1, 96, .inl gg)), (h2, .inr (4, [.int (nI n2), .int (nI r2), .ref a2, .ref b2])), (a2, .inl (E.2.1 1, 24, .inl f2)), (b2, .inl (E.2.1 1, 96, .inl g2)), (qh, .inr (1, [.ref h, .ref h2, .int (nI (n + n2)), .ref ha, .ref hb, .ref hc])), (ha, .inl (E.2.1 1, 48, .inl fl)), (hc, .inl (E.2.1 2, 192, .inr (.inl fsz_2)))]) C 0 rfl (vp_in_nI (by omega) (by omega)) (ldn2 (by omega) ef_27) rfl dX1_part_47 ?_
                refine ww_iinc (j := 1) (v := (nI (i1 + 1))) (lv' := [(1, .int (nI (i1 + 1))), (2, .int (nI j1)), (0, .ref qh)]) C dX1_part_48 rfl (nI_add i1 1) rfl rfl ?_
                refine ww_goto (tgt := 6) C dX1_part_51 (by decide) ?_
                exact ww_lv [0, 2] rfl (ww_sub [7, 8, 0, 9, 1, 2, 3, 4, 5, 6] (ndk (by decide +kernel)) (gqk (by eq_refl)) (ih_6 (i1 + 1) f_27 (by omega) (HPx.ext hp1 elo_17 hj0 hj1 (by assumption) hv1 ef_27) (by omega)))
              · refine an2 hw ?_
                clear hw
                intro he_25 he_26 hw
                have h_24 := hw
                clear hw
                have he_25 := he_25.symm
                subst he_25
                subst he_26
                refine ww_eq (ws' := [(hb, .inl (E.2.1 1, 48, .inl n1)), (h, .inr (4, [.int (nI n), .int (nI r), .ref a, .ref b])), (a, .inl (E.2.1 1, 24, .inl f)), (b, .inl (E.2.1 1, 96, .inl gg)), (h2, .inr (4, [.int (nI n2), .int (nI r2), .ref a2, .ref b2])), (a2, .inl (E.2.1 1, 24, .inl f2)), (b2, .inl (E.2.1 1, 96, .inl g2)), (qh, .inr (1, [.ref h, .ref h2, .int (nI (n + n2)), .ref ha, .ref hb, .ref hc])), (ha, .inl (E.2.1 1, 48, .inl fl)), (hc, .inl (E.2.1 2, 192, .inr (.inl fsz_2)))]) ?_ rfl rfl rfl
                refine ww_if_ne_f (tgt := 41) C dX1_part_32 (by decide) (rfl) ?_
                refine ww_iinc (j := 0) (v := (nI (j1 + 1))) (lv' := [(2, .int (nI (j1 + 1))), (1, .int (nI i1)), (0, .ref qh)]) C dX1_part_35 rfl (nI_add j1 1) rfl rfl ?_
                refine ww_goto (tgt := 21) C dX1_part_38 (by decide) ?_
                exact ww_lv [0, 1, 2] rfl (ww_sub [7, 8, 0, 9, 1, 2, 3, 4, 5, 6] (ndk (by decide +kernel)) (gqk (by eq_refl)) (ih_21 (j1 + 1) (by omega) (by omega) (fun v h1 h2 => if hk : v = j1 then (by rw [hk]; assumption) else hv1 v h1 (by omega)) (by omega)))
        exact ww_lv [0, 1, 2] rfl (ww_sub [0, 1, 2, 3, 4, 5, 6, 7, 8, 9] (ndk (by decide +kernel)) (gqk (by eq_refl)) (loop_21 _ lo_17 (by omega) (by omega) (fun v h1 h2 => absurd h2 (by omega)) (Nat.lt_succ_self _)))
  exact ww_lv [0, 1] rfl (ww_sub [0, 1, 2, 3, 4, 5, 6, 7, 8, 9] (ndk (by decide +kernel)) (gqk (by eq_refl)) (loop_6 _ 0 fn (by omega) HPx.zero (Nat.lt_succ_self _)))
set_option maxRecDepth 100000 in
set_option maxHeartbeats 4000000 in
theorem h_settleM (l : Launch) (E : EV) (ro : va_W) (qh : Nat) (h : Nat) (h2 : Nat) (l0 : Value) (l1 : Value) (x2 : Int32) (ha : Nat) (hb : Nat) (hc : Nat) (fl : Nat → Int32) (fn : Nat → Int32) (fs : Nat → Int64) (n : Nat) (r : Nat) (a : Nat) (b : Nat) (f : Nat → Int32) (gg : Nat → Int32) (n2 : Nat) (r2 : Nat) (a2 : Nat) (b2 : Nat) (f2 : Nat → Int32) (g2 : Nat → Int32) (hn : n ≤ 24) (hr : r < n ∨ r = 0) (hn2 : n2 ≤ 24) (hr2 : r2 < n2 ∨ r2 = 0) (hwf : WFm (am n r f gg)) (hwf2 : WFm (am n2 r2 f2 g2)) (hrng : RNG 48 48 fl) : CT l yX1_settle (Cond.code yX1_settle cX1_settle 4 none :: TB) ({ frames := 4, cells := 0, slots := 0, locals := 91 }) E ro [.ref qh, .ref h, .ref h2] [(qh, .inr (1, [l0, l1, .int x2, .ref ha, .ref hb, .ref hc])), (ha, .inl (E.2.1 1, 48, .inl fl)), (hb, .inl (E.2.1 1, 48, .inl fn)), (hc, .inl (E.2.1 2, 192, .inr (.inl fs))), (h, .inr (4, [.int (nI n), .int (nI r), .ref a, .ref b])), (a, .inl (E.2.1 1, 24, .inl f)), (b, .inl (E.2.1 1, 96, .inl gg)), (h2, .inr (4, [.int (nI n2), .int (nI r2), .ref a2, .ref b2])), (a2, .inl (E.2.1 1, 24, .inl f2)), (b2, .inl (E.2.1 1, 96, .inl g2))] (Qv E (fun uz => (∃ (flz : Nat → Int32) (fnz : Nat → Int32) (fsz : Nat → Int64), uz = [(qh, .inr (1, [.ref h, .ref h2, .int (nI (n + n2)), .ref ha, .ref hb, .ref hc])), (ha, .inl (E.2.1 1, 48, .inl flz)), (hb, .inl (E.2.1 1, 48, .inl fnz)), (hc, .inl (E.2.1 2, 192, .inr (.inl fsz))), (h, .inr (4, [.int (nI n), .int (nI r), .ref a, .ref b])), (a, .inl (E.2.1 1, 24, .inl f)), (b, .inl (E.2.1 1, 96, .inl gg)), (h2, .inr (4, [.int (nI n2), .int (nI r2), .ref a2, .ref b2])), (a2, .inl (E.2.1 1, 24, .inl f2)), (b2, .inl (E.2.1 1, 96, .inl g2))] ∧ (RNG 48 48 flz) ∧ (LI (n + n2) flz) ∧ (RKx (cm2 (am n r f gg) (am n2 r2 f2 g2)) (n + n2) (n + n2) flz)))) 0 0 := by
  refine ct_of rfl rfl ?_
  intro X C hT hin hro
  show WW X 4 E 0 [(0, .ref qh), (1, .ref h), (2, .ref h2)] [] [(qh, .inr (1, [l0, l1, .int x2, .ref ha, .ref hb, .ref hc])), (ha, .inl (E.2.1 1, 48, .inl fl)), (hb, .inl (E.2.1 1, 48, .inl fn)), (hc, .inl (E.2.1 2, 192, .inr (.inl fs))), (h, .inr (4, [.int (nI n), .int (nI r), .ref a, .ref b])), (a, .inl (E.2.1 1, 24, .inl f)), (b, .inl (E.2.1 1, 96, .inl gg)), (h2, .inr (4, [.int (nI n2), .int (nI r2), .ref a2, .ref b2])), (a2, .inl (E.2.1 1, 24, .inl f2)), (b2, .inl (E.2.1 1, 96, .inl g2))] 0 0
  refine ww_aload_n C dX1_settle_0 0 rfl rfl ?_
  refine ww_aload_n C dX1_settle_1 1 rfl rfl ?_
  refine ww_aload_n C dX1_settle_2 2 rfl rfl ?_
  refine ww_cv (wr := []) (k' := 0) (n' := 0) C (run_V (As := [.ref h, .ref h2]) (rest := []) C (h_beginM X.2.1 E ro qh h h2 l0 l1 x2 ha hb hc fl fn fs n r a b f gg n2 r2 a2 b2 f2 g2 (by omega) (by omega) (by omega) (by omega) hrng) mi_X1_begin wl_X1_61 rfl 0 1 rfl rfl rfl rfl rfl dX1_settle_3) (roK hro) [0, 1, 2, 3, 4, 5, 6, 7, 8, 9] [] (gqk (by eq_refl)) rfl (plk (by decide +kernel)) rfl (fun uz hw => ?_)
  refine ex1 hw ?_
  clear hw
  intro flz_2 hw
  refine an3 hw ?_
  clear hw
  intro he_6 h_3 h_4 hw
  have h_5 := hw
  clear hw
  subst he_6
  refine ww_eq (ws' := [(qh, .inr (1, [.ref h, .ref h2, .int (nI (n + n2)), .ref ha, .ref hb, .ref hc])), (ha, .inl (E.2.1 1, 48, .inl flz_2)), (hb, .inl (E.2.1 1, 48, .inl fn)), (hc, .inl (E.2.1 2, 192, .inr (.inl fs))), (h, .inr (4, [.int (nI n), .int (nI r), .ref a, .ref b])), (a, .inl (E.2.1 1, 24, .inl f)), (b, .inl (E.2.1 1, 96, .inl gg)), (h2, .inr (4, [.int (nI n2), .int (nI r2), .ref a2, .ref b2])), (a2, .inl (E.2.1 1, 24, .inl f2)), (b2, .inl (E.2.1 1, 96, .inl g2))]) ?_ rfl rfl rfl
  refine ww_iconst (v := 0) C dX1_settle_6 rfl ?_
  refine ww_istore_n (lv' := [(3, .int 0), (0, .ref qh), (1, .ref h), (2, .ref h2)]) C dX1_settle_7 rfl rfl rfl ?_
  have loop_8 : ∀ (fu : Nat) (i1 : Nat) (l1 : Nat → Int32) (n1 : Nat → Int32) (s1 : Nat → Int64), (i1 ≤ n + n2) → (RNG 48 48 l1) → (LI (n + n2) l1) → (RKx (cm2 (am n r f gg) (am n2 r2 f2 g2)) (n + n2) (i1) l1) → n + n2 - i1 < fu → WW X 4 E 8 [(3, .int (nI i1)), (0, .ref qh), (1, .ref h), (2, .ref h2)] [] [(qh, .inr (1, [.ref h, .ref h2, .int (nI (n + n2)), .ref ha, .ref hb, .ref hc])), (ha, .inl (E.2.1 1, 48, .inl l1)), (hb, .inl (E.2.1 1, 48, .inl n1)), (hc, .inl (E.2.1 2, 192, .inr (.inl s1))), (h, .inr (4, [.int (nI n), .int (nI r), .ref a, .ref b])), (a, .inl (E.2.1 1, 24, .inl f)), (b, .inl (E.2.1 1, 96, .inl gg)), (h2, .inr (4, [.int (nI n2), .int (nI r2), .ref a2, .ref b2])), (a2, .inl (E.2.1 1, 24, .inl f2)), (b2, .inl (E.2.1 1, 96, .inl g2))] 0 0 := by
    intro fu
    induction fu with
    | zero => intro i1 l1 n1 s1 hi1 hr1 hl1 hrk1 hmeas; exact absurd hmeas (Nat.not_lt_zero _)
    | succ fu ih_8 =>
      intro i1 l1 n1 s1 hi1 hr1 hl1 hrk1 hmeas
      refine ww_iload_n C dX1_settle_8 0 rfl rfl ?_
      refine ww_aload_n C dX1_settle_9 1 rfl rfl ?_
      refine ww_get C fg_X1_35 0 rfl rfl dX1_settle_10 ?_
      refine ww_icmp_ge (tgt := 29) C dX1_settle_13 (by decide) (fun c_7 => ?_) (fun c_7 => ?_)
      · have zc_7 : ((i1 : Nat) : Int) ≥ ((n + n2 : Nat) : Int) := i_le (nI_toInt (n := n + n2) (by omega)) (nI_toInt (n := i1) (by omega)) c_7
        exact ww_vret (u := [(qh, .inr (1, [.ref h, .ref h2, .int (nI (n + n2)), .ref ha, .ref hb, .ref hc])), (ha, .inl (E.2.1 1, 48, .inl l1)), (hb, .inl (E.2.1 1, 48, .inl n1)), (hc, .inl (E.2.1 2, 192, .inr (.inl s1))), (h, .inr (4, [.int (nI n), .int (nI r), .ref a, .ref b])), (a, .inl (E.2.1 1, 24, .inl f)), (b, .inl (E.2.1 1, 96, .inl gg)), (h2, .inr (4, [.int (nI n2), .int (nI r2), .ref a2, .ref b2])), (a2, .inl (E.2.1 1, 24, .inl f2)), (b2, .inl (E.2.1 1, 96, .inl g2))]) C hT [0, 1, 2, 3, 4, 5, 6, 7, 8, 9] (gqk (by eq_refl)) (ndk (by decide +kernel)) rfl rfl dX1_settle_29 (⟨l1, n1, s1, rfl, hr1, hl1, (by have h9 : i1 = n + n2 := (by omega); rw [h9] at hrk1; exact hrk1)⟩)
      · have zc_7 : ((i1 : Nat) : Int) < ((n + n2 : Nat) : Int) := i_nle (nI_toInt (n := n + n2) (by omega)) (nI_toInt (n := i1) (by omega)) c_7
        refine ww_aload_n C dX1_settle_16 1 rfl rfl ?_
        refine ww_ci (wr := []) (k' := 0) (n' := 0) C (run_V (As := []) (rest := []) C (h_partM X.2.1 E ro qh h h2 ha hb hc l1 n1 s1 n r a b f gg n2 r2 a2 b2 f2 g2 i1 (by omega) (by omega) (by omega) (by omega) hwf hwf2 hr1 hl1 hrk1) mi_X1_part wl_X1_65 rfl 0 1 rfl rfl rfl rfl rfl dX1_settle_17) (roK hro) [0, 1, 2, 3, 4, 5, 6, 7, 8, 9] [] (gqk (by eq_refl)) rfl (plk (by decide +kernel)) rfl (fun r_8 uz hw => ?_)
        rcases hw with hw | hw
        · refine ex3 hw ?_
          clear hw
          intro flz_9 fnz_10 fsz_11 hw
          refine an5 hw ?_
          clear hw
          intro he_16 he_17 h_12 h_13 h_14 hw
          have h_15 := hw
          clear hw
          have he_16 := he_16.symm
          subst he_16
          subst he_17
          refine ww_eq (ws' := [(qh, .inr (1, [.ref h, .ref h2, .int (nI (n + n2)), .ref ha, .ref hb, .ref hc])), (ha, .inl (E.2.1 1, 48, .inl flz_9)), (hb, .inl (E.2.1 1, 48, .inl fnz_10)), (hc, .inl (E.2.1 2, 192, .inr (.inl fsz_11))), (h, .inr (4, [.int (nI n), .int (nI r), .ref a, .ref b])), (a, .inl (E.2.1 1, 24, .inl f)), (b, .inl (E.2.1 1, 96, .inl gg)), (h2, .inr (4, [.int (nI n2), .int (nI r2), .ref a2, .ref b2])), (a2, .inl (E.2.1 1, 24, .inl f2)), (b2, .inl (E.2.1 1, 96, .inl g2))]) ?_ rfl rfl rfl
          refine ww_if_eq_f (tgt := 29) C dX1_settle_20 (by decide) (by decide) ?_
          refine ww_iinc (j := 0) (v := (nI (i1 + 1))) (lv' := [(3, .int (nI (i1 + 1))), (0, .ref qh), (1, .ref h), (2, .ref h2)]) C dX1_settle_23 rfl (nI_add i1 1) rfl rfl ?_
          refine ww_goto (tgt := 8) C dX1_settle_26 (by decide) ?_
          exact ww_lv [0, 1, 2, 3] rfl (ww_sub [0, 1, 2, 3, 4, 5, 6, 7, 8, 9] (ndk (by decide +kernel)) (gqk (by eq_refl)) (ih_8 (i1 + 1) flz_9 fnz_10 fsz_11 (by omega) h_12 h_13 h_14 (by omega)))
        · refine ex3 hw ?_
          clear hw
          intro flz_18 fnz_19 fsz_20 hw
          refine an5 hw ?_
          clear hw
          intro he_25 he_26 h_21 h_22 h_23 hw
          have h_24 := hw
          clear hw
          have he_25 := he_25.symm
          subst he_25
          subst he_26
          refine ww_eq (ws' := [(qh, .inr (1, [.ref h, .ref h2, .int (nI (n + n2)), .ref ha, .ref hb, .ref hc])), (ha, .inl (E.2.1 1, 48, .inl flz_18)), (hb, .inl (E.2.1 1, 48, .inl fnz_19)), (hc, .inl (E.2.1 2, 192, .inr (.inl fsz_20))), (h, .inr (4, [.int (nI n), .int (nI r), .ref a, .ref b])), (a, .inl (E.2.1 1, 24, .inl f)), (b, .inl (E.2.1 1, 96, .inl gg)), (h2, .inr (4, [.int (nI n2), .int (nI r2), .ref a2, .ref b2])), (a2, .inl (E.2.1 1, 24, .inl f2)), (b2, .inl (E.2.1 1, 96, .inl g2))]) ?_ rfl rfl rfl
          refine ww_if_eq_t (tgt := 29) C dX1_settle_20 (by decide) (rfl) ?_
          exact ww_vret (u := [(qh, .inr (1, [.ref h, .ref h2, .int (nI (n + n2)), .ref ha, .ref hb, .ref hc])), (ha, .inl (E.2.1 1, 48, .inl flz_18)), (hb, .inl (E.2.1 1, 48, .inl fnz_19)), (hc, .inl (E.2.1 2, 192, .inr (.inl fsz_20))), (h, .inr (4, [.int (nI n), .int (nI r), .ref a, .ref b])), (a, .inl (E.2.1 1, 24, .inl f)), (b, .inl (E.2.1 1, 96, .inl gg)), (h2, .inr (4, [.int (nI n2), .int (nI r2), .ref a2, .ref b2])), (a2, .inl (E.2.1 1, 24, .inl f2)), (b2, .inl (E.2.1 1, 96, .inl g2))]) C hT [0, 1, 2, 3, 4, 5, 6, 7, 8, 9] (gqk (by eq_refl)) (ndk (by decide +kernel)) rfl rfl dX1_settle_29 (⟨flz_18, fnz_19, fsz_20, rfl, h_21, h_22, (rk_end (c := (cm2 (am n r f gg) (am n2 r2 f2 g2))) (cm2_wf hwf hwf2) (show i1 ≤ n + n2 by omega) h_24 h_23)⟩)
  exact ww_lv [0, 1, 2, 3] rfl (ww_sub [0, 1, 2, 3, 4, 5, 6, 7, 8, 9] (ndk (by decide +kernel)) (gqk (by eq_refl)) (loop_8 _ 0 flz_2 fn fs (by omega) h_3 h_4 h_5 (Nat.lt_succ_self _)))
theorem cb_yes {f : Nat → Int32} {n i : Nat} (h : n = cb (fun w => decide (f w = nI w)) i) (e : f i = nI i) : n + 1 = cb (fun w => decide (f w = nI w)) (i + 1) := by
  rw [cb_t (f := fun w => decide (f w = nI w)) (decide_eq_true e), h]
theorem cb_no {f : Nat → Int32} {n i : Nat} (h : n = cb (fun w => decide (f w = nI w)) i) (e : ¬ f i = nI i) : n = cb (fun w => decide (f w = nI w)) (i + 1) := by
  rw [cb_f (f := fun w => decide (f w = nI w)) (decide_eq_false e), h]
theorem dX1_howMany_0 : decode cX1_howMany 0 = .ok (.iconst 0, 1) := dl_3 (by decide +kernel)
theorem dX1_howMany_1 : decode cX1_howMany 1 = .ok (.istore_n 1, 1) := dl_60 (by decide +kernel)
theorem dX1_howMany_2 : decode cX1_howMany 2 = .ok (.iconst 0, 1) := dl_3 (by decide +kernel)
theorem dX1_howMany_3 : decode cX1_howMany 3 = .ok (.istore_n 2, 1) := dl_61 (by decide +kernel)
theorem dX1_howMany_4 : decode cX1_howMany 4 = .ok (.iload_n 2, 1) := dl_28 (by decide +kernel)
theorem dX1_howMany_5 : decode cX1_howMany 5 = .ok (.aload_n 0, 1) := dl_42 (by decide +kernel)
theorem dX1_howMany_6 : decode cX1_howMany 6 = .ok (.getfield 35, 3) := dl_180 (by decide +kernel)
theorem dX1_howMany_9 : decode cX1_howMany 9 = .ok (.if_icmp .ge 22, 3) := dl_162 (by decide +kernel)
theorem dX1_howMany_31 : decode cX1_howMany 31 = .ok (.iload_n 1, 1) := dl_27 (by decide +kernel)
theorem dX1_howMany_32 : decode cX1_howMany 32 = .ok (.ireturn, 1) := dl_172 (by decide +kernel)
theorem dX1_howMany_12 : decode cX1_howMany 12 = .ok (.aload_n 0, 1) := dl_42 (by decide +kernel)
theorem dX1_howMany_13 : decode cX1_howMany 13 = .ok (.getfield 9, 3) := dl_180 (by decide +kernel)
theorem dX1_howMany_16 : decode cX1_howMany 16 = .ok (.iload_n 2, 1) := dl_28 (by decide +kernel)
theorem dX1_howMany_17 : decode cX1_howMany 17 = .ok (.iaload, 1) := dl_46 (by decide +kernel)
theorem dX1_howMany_18 : decode cX1_howMany 18 = .ok (.iload_n 2, 1) := dl_28 (by decide +kernel)
theorem dX1_howMany_19 : decode cX1_howMany 19 = .ok (.if_icmp .ne 6, 3) := dl_160 (by decide +kernel)
theorem dX1_howMany_25 : decode cX1_howMany 25 = .ok (.iinc 2 1, 3) := dl_132 (by decide +kernel)
theorem dX1_howMany_28 : decode cX1_howMany 28 = .ok (.goto (-24), 3) := dl_167 (by decide +kernel)
theorem dX1_howMany_22 : decode cX1_howMany 22 = .ok (.iinc 1 1, 3) := dl_132 (by decide +kernel)
set_option maxRecDepth 100000 in
set_option maxHeartbeats 4000000 in
theorem h_howMany (l : Launch) (E : EV) (ro : va_W) (qh : Nat) (h : Nat) (n : Nat) (ha : Nat) (hb : Nat) (hc : Nat) (fl : Nat → Int32) (hn : n ≤ 24) : CT l yX1_howMany (Cond.code yX1_howMany cX1_howMany 3 (some .int) :: TB) ({ frames := 0, cells := 0, slots := 0, locals := 0 }) E ro [.ref qh] [(qh, .inr (1, [.ref h, .null, .int (nI n), .ref ha, .ref hb, .ref hc])), (ha, .inl (E.2.1 1, 48, .inl fl))] (Qi E (fun (rz : Int32) uz => (rz = (nI (cb (fun w => decide (fl w = nI w)) n)) ∧ uz = [(qh, .inr (1, [.ref h, .null, .int (nI n), .ref ha, .ref hb, .ref hc])), (ha, .inl (E.2.1 1, 48, .inl fl))]))) 0 0 := by
  refine ct_of rfl rfl ?_
  intro X C hT hin hro
  show WW X 3 E 0 [(0, .ref qh)] [] [(qh, .inr (1, [.ref h, .null, .int (nI n), .ref ha, .ref hb, .ref hc])), (ha, .inl (E.2.1 1, 48, .inl fl))] 0 0
  refine ww_iconst (v := 0) C dX1_howMany_0 rfl ?_
  refine ww_istore_n (lv' := [(1, .int 0), (0, .ref qh)]) C dX1_howMany_1 rfl rfl rfl ?_
  refine ww_iconst (v := 0) C dX1_howMany_2 rfl ?_
  refine ww_istore_n (lv' := [(2, .int 0), (1, .int 0), (0, .ref qh)]) C dX1_howMany_3 rfl rfl rfl ?_
  have loop_4 : ∀ (fu : Nat) (i1 : Nat) (ac : Nat), (i1 ≤ n) → (ac = cb (fun w => decide (fl w = nI w)) i1) → n - i1 < fu → WW X 3 E 4 [(2, .int (nI i1)), (1, .int (nI ac)), (0, .ref qh)] [] [(qh, .inr (1, [.ref h, .null, .int (nI n), .ref ha, .ref hb, .ref hc])), (ha, .inl (E.2.1 1, 48, .inl fl))] 0 0 := by
    intro fu
    induction fu with
    | zero => intro i1 ac hi1 hac hmeas; exact absurd hmeas (Nat.not_lt_zero _)
    | succ fu ih_4 =>
      intro i1 ac hi1 hac hmeas
      refine ww_iload_n C dX1_howMany_4 0 rfl rfl ?_
      refine ww_aload_n C dX1_howMany_5 2 rfl rfl ?_
      refine ww_get C fg_X1_35 0 rfl rfl dX1_howMany_6 ?_
      refine ww_icmp_ge (tgt := 31) C dX1_howMany_9 (by decide) (fun c_1 => ?_) (fun c_1 => ?_)
      · have zc_1 : ((i1 : Nat) : Int) ≥ ((n : Nat) : Int) := i_le (nI_toInt (n := n) (by omega)) (nI_toInt (n := i1) (by omega)) c_1
        refine ww_iload_n C dX1_howMany_31 1 rfl rfl ?_
        exact ww_iret (u := [(qh, .inr (1, [.ref h, .null, .int (nI n), .ref ha, .ref hb, .ref hc])), (ha, .inl (E.2.1 1, 48, .inl fl))]) C hT [0, 1] rfl rfl rfl rfl dX1_howMany_32 (⟨(by rw [hac, show i1 = n by omega]), rfl⟩)
      · have zc_1 : ((i1 : Nat) : Int) < ((n : Nat) : Int) := i_nle (nI_toInt (n := n) (by omega)) (nI_toInt (n := i1) (by omega)) c_1
        refine ww_aload_n C dX1_howMany_12 2 rfl rfl ?_
        refine ww_get C fg_X1_9 0 rfl rfl dX1_howMany_13 ?_
        refine ww_iload_n C dX1_howMany_16 0 rfl rfl ?_
        obtain ⟨x_2, ex_2⟩ : ∃ z : Int32, fl i1 = z := ⟨_, rfl⟩
        refine ww_iald (v := x_2) C 1 rfl (vp_in_nI (by omega) (by omega)) (ldn (by omega) ex_2) dX1_howMany_17 ?_
        refine ww_iload_n C dX1_howMany_18 0 rfl rfl ?_
        refine ww_icmp_ne (tgt := 25) C dX1_howMany_19 (by decide) (fun c_3 => ?_) (fun c_3 => ?_)
        · have zc_3 : x_2.toInt ≠ ((i1 : Nat) : Int) := i_ne rfl (nI_toInt (n := i1) (by omega)) c_3
          refine ww_iinc (j := 0) (v := (nI (i1 + 1))) (lv' := [(2, .int (nI (i1 + 1))), (1, .int (nI ac)), (0, .ref qh)]) C dX1_howMany_25 rfl (nI_add i1 1) rfl rfl ?_
          refine ww_goto (tgt := 4) C dX1_howMany_28 (by decide) ?_
          exact ww_lv [0, 1, 2] rfl (ww_sub [0, 1] rfl rfl (ih_4 (i1 + 1) ac (by omega) (cb_no hac (fun h9 => zc_3 (by rw [← ex_2, h9]; exact nI_toInt (by omega)))) (by omega)))
        · have zc_3 : x_2.toInt = ((i1 : Nat) : Int) := i_eq rfl (nI_toInt (n := i1) (by omega)) c_3
          refine ww_iinc (j := 1) (v := (nI (ac + 1))) (lv' := [(1, .int (nI (ac + 1))), (2, .int (nI i1)), (0, .ref qh)]) C dX1_howMany_22 rfl (nI_add ac 1) rfl rfl ?_
          refine ww_iinc (j := 1) (v := (nI (i1 + 1))) (lv' := [(2, .int (nI (i1 + 1))), (1, .int (nI (ac + 1))), (0, .ref qh)]) C dX1_howMany_25 rfl (nI_add i1 1) rfl rfl ?_
          refine ww_goto (tgt := 4) C dX1_howMany_28 (by decide) ?_
          exact ww_lv [0, 1, 2] rfl (ww_sub [0, 1] rfl rfl (ih_4 (i1 + 1) (ac + 1) (by omega) (cb_yes hac (show fl i1 = nI i1 from ex_2.trans (Int32.toInt_inj.mp (zc_3.trans (nI_toInt (n := i1) (by omega)).symm)))) (by omega)))
  exact ww_lv [0, 1, 2] rfl (ww_sub [0, 1] rfl rfl (loop_4 _ 0 0 (by omega) rfl (Nat.lt_succ_self _)))
theorem dX1_roundThatParts_0 : decode cX1_roundThatParts 0 = .ok (.aload_n 0, 1) := dl_42 (by decide +kernel)
theorem dX1_roundThatParts_1 : decode cX1_roundThatParts 1 = .ok (.aload_n 1, 1) := dl_43 (by decide +kernel)
theorem dX1_roundThatParts_2 : decode cX1_roundThatParts 2 = .ok (.aconst_null, 1) := dl_1 (by decide +kernel)
theorem dX1_roundThatParts_3 : decode cX1_roundThatParts 3 = .ok (.invokevirtual 61, 3) := dl_182 (by decide +kernel)
theorem dX1_roundThatParts_6 : decode cX1_roundThatParts 6 = .ok (.iconst 0, 1) := dl_3 (by decide +kernel)
theorem dX1_roundThatParts_7 : decode cX1_roundThatParts 7 = .ok (.istore 4, 2) := dl_54 (by decide +kernel)
theorem dX1_roundThatParts_9 : decode cX1_roundThatParts 9 = .ok (.iload 4, 2) := dl_21 (by decide +kernel)
theorem dX1_roundThatParts_11 : decode cX1_roundThatParts 11 = .ok (.aload_n 0, 1) := dl_42 (by decide +kernel)
theorem dX1_roundThatParts_12 : decode cX1_roundThatParts 12 = .ok (.getfield 35, 3) := dl_180 (by decide +kernel)
theorem dX1_roundThatParts_15 : decode cX1_roundThatParts 15 = .ok (.if_icmp .ge 31, 3) := dl_162 (by decide +kernel)
theorem dX1_roundThatParts_46 : decode cX1_roundThatParts 46 = .ok (.aload_n 0, 1) := dl_42 (by decide +kernel)
theorem dX1_roundThatParts_47 : decode cX1_roundThatParts 47 = .ok (.getfield 9, 3) := dl_180 (by decide +kernel)
theorem dX1_roundThatParts_50 : decode cX1_roundThatParts 50 = .ok (.iload_n 2, 1) := dl_28 (by decide +kernel)
theorem dX1_roundThatParts_51 : decode cX1_roundThatParts 51 = .ok (.iaload, 1) := dl_46 (by decide +kernel)
theorem dX1_roundThatParts_52 : decode cX1_roundThatParts 52 = .ok (.aload_n 0, 1) := dl_42 (by decide +kernel)
theorem dX1_roundThatParts_53 : decode cX1_roundThatParts 53 = .ok (.getfield 9, 3) := dl_180 (by decide +kernel)
theorem dX1_roundThatParts_56 : decode cX1_roundThatParts 56 = .ok (.iload_n 3, 1) := dl_29 (by decide +kernel)
theorem dX1_roundThatParts_57 : decode cX1_roundThatParts 57 = .ok (.iaload, 1) := dl_46 (by decide +kernel)
theorem dX1_roundThatParts_58 : decode cX1_roundThatParts 58 = .ok (.if_icmp .ne 8, 3) := dl_160 (by decide +kernel)
theorem dX1_roundThatParts_66 : decode cX1_roundThatParts 66 = .ok (.iload 4, 2) := dl_21 (by decide +kernel)
theorem dX1_roundThatParts_68 : decode cX1_roundThatParts 68 = .ok (.ireturn, 1) := dl_172 (by decide +kernel)
theorem dX1_roundThatParts_61 : decode cX1_roundThatParts 61 = .ok (.bipush (-4), 2) := dl_16 (by decide +kernel)
theorem dX1_roundThatParts_63 : decode cX1_roundThatParts 63 = .ok (.goto 5, 3) := dl_167 (by decide +kernel)
theorem dX1_roundThatParts_18 : decode cX1_roundThatParts 18 = .ok (.aload_n 0, 1) := dl_42 (by decide +kernel)
theorem dX1_roundThatParts_19 : decode cX1_roundThatParts 19 = .ok (.getfield 9, 3) := dl_180 (by decide +kernel)
theorem dX1_roundThatParts_22 : decode cX1_roundThatParts 22 = .ok (.iload_n 2, 1) := dl_28 (by decide +kernel)
theorem dX1_roundThatParts_23 : decode cX1_roundThatParts 23 = .ok (.iaload, 1) := dl_46 (by decide +kernel)
theorem dX1_roundThatParts_24 : decode cX1_roundThatParts 24 = .ok (.aload_n 0, 1) := dl_42 (by decide +kernel)
theorem dX1_roundThatParts_25 : decode cX1_roundThatParts 25 = .ok (.getfield 9, 3) := dl_180 (by decide +kernel)
theorem dX1_roundThatParts_28 : decode cX1_roundThatParts 28 = .ok (.iload_n 3, 1) := dl_29 (by decide +kernel)
theorem dX1_roundThatParts_29 : decode cX1_roundThatParts 29 = .ok (.iaload, 1) := dl_46 (by decide +kernel)
theorem dX1_roundThatParts_30 : decode cX1_roundThatParts 30 = .ok (.if_icmp .ne 16, 3) := dl_160 (by decide +kernel)
theorem dX1_roundThatParts_33 : decode cX1_roundThatParts 33 = .ok (.aload_n 0, 1) := dl_42 (by decide +kernel)
theorem dX1_roundThatParts_34 : decode cX1_roundThatParts 34 = .ok (.invokevirtual 65, 3) := dl_182 (by decide +kernel)
theorem dX1_roundThatParts_37 : decode cX1_roundThatParts 37 = .ok (.ifCond .eq 9, 3) := dl_153 (by decide +kernel)
theorem dX1_roundThatParts_40 : decode cX1_roundThatParts 40 = .ok (.iinc 4 1, 3) := dl_132 (by decide +kernel)
theorem dX1_roundThatParts_43 : decode cX1_roundThatParts 43 = .ok (.goto (-34), 3) := dl_167 (by decide +kernel)
set_option maxRecDepth 100000 in
set_option maxHeartbeats 4000000 in
theorem h_roundThatParts (l : Launch) (E : EV) (ro : va_W) (qh : Nat) (h : Nat) (u : Nat) (v : Nat) (l0 : Value) (l1 : Value) (x2 : Int32) (ha : Nat) (hb : Nat) (hc : Nat) (fl : Nat → Int32) (fn : Nat → Int32) (fs : Nat → Int64) (n : Nat) (r : Nat) (a : Nat) (b : Nat) (f : Nat → Int32) (gg : Nat → Int32) (hn : n ≤ 24) (hr : r < n ∨ r = 0) (hwf : WFm (am n r f gg)) (hrng : RNG 48 48 fl) (hu : u < n) (hv : v < n) : CT l yX1_roundThatParts (Cond.code yX1_roundThatParts cX1_roundThatParts 5 (some .int) :: TB) ({ frames := 4, cells := 0, slots := 0, locals := 91 }) E ro [.ref qh, .ref h, .int (nI u), .int (nI v)] [(qh, .inr (1, [l0, l1, .int x2, .ref ha, .ref hb, .ref hc])), (ha, .inl (E.2.1 1, 48, .inl fl)), (hb, .inl (E.2.1 1, 48, .inl fn)), (hc, .inl (E.2.1 2, 192, .inr (.inl fs))), (h, .inr (4, [.int (nI n), .int (nI r), .ref a, .ref b])), (a, .inl (E.2.1 1, 24, .inl f)), (b, .inl (E.2.1 1, 96, .inl gg))] (Qi E (fun (rz : Int32) uz => (∃ (flz : Nat → Int32) (fnz : Nat → Int32) (fsz : Nat → Int64), uz = [(qh, .inr (1, [.ref h, .null, .int (nI n), .ref ha, .ref hb, .ref hc])), (ha, .inl (E.2.1 1, 48, .inl flz)), (hb, .inl (E.2.1 1, 48, .inl fnz)), (hc, .inl (E.2.1 2, 192, .inr (.inl fsz))), (h, .inr (4, [.int (nI n), .int (nI r), .ref a, .ref b])), (a, .inl (E.2.1 1, 24, .inl f)), (b, .inl (E.2.1 1, 96, .inl gg))] ∧ (RNG 48 48 flz) ∧ (DEPx (cm1 (am n r f gg)) u v rz)))) 0 0 := by
  refine ct_of rfl rfl ?_
  intro X C hT hin hro
  show WW X 5 E 0 [(0, .ref qh), (1, .ref h), (2, .int (nI u)), (3, .int (nI v))] [] [(qh, .inr (1, [l0, l1, .int x2, .ref ha, .ref hb, .ref hc])), (ha, .inl (E.2.1 1, 48, .inl fl)), (hb, .inl (E.2.1 1, 48, .inl fn)), (hc, .inl (E.2.1 2, 192, .inr (.inl fs))), (h, .inr (4, [.int (nI n), .int (nI r), .ref a, .ref b])), (a, .inl (E.2.1 1, 24, .inl f)), (b, .inl (E.2.1 1, 96, .inl gg))] 0 0
  refine ww_aload_n C dX1_roundThatParts_0 0 rfl rfl ?_
  refine ww_aload_n C dX1_roundThatParts_1 1 rfl rfl ?_
  refine ww_null C dX1_roundThatParts_2 ?_
  refine ww_cv (wr := []) (k' := 0) (n' := 0) C (run_V (As := [.ref h, .null]) (rest := []) C (h_beginN X.2.1 E ro qh h l0 l1 x2 ha hb hc fl fn fs n r a b f gg (by omega) (by omega) hrng) mi_X1_begin wl_X1_61 rfl 0 1 rfl rfl rfl rfl rfl dX1_roundThatParts_3) (roK hro) [0, 1, 2, 3, 4, 5, 6] [] rfl rfl (plk (by decide +kernel)) rfl (fun uz hw => ?_)
  refine ex1 hw ?_
  clear hw
  intro flz_2 hw
  refine an3 hw ?_
  clear hw
  intro he_6 h_3 h_4 hw
  have h_5 := hw
  clear hw
  subst he_6
  refine ww_eq (ws' := [(qh, .inr (1, [.ref h, .null, .int (nI n), .ref ha, .ref hb, .ref hc])), (ha, .inl (E.2.1 1, 48, .inl flz_2)), (hb, .inl (E.2.1 1, 48, .inl fn)), (hc, .inl (E.2.1 2, 192, .inr (.inl fs))), (h, .inr (4, [.int (nI n), .int (nI r), .ref a, .ref b])), (a, .inl (E.2.1 1, 24, .inl f)), (b, .inl (E.2.1 1, 96, .inl gg))]) ?_ rfl rfl rfl
  refine ww_iconst (v := 0) C dX1_roundThatParts_6 rfl ?_
  refine ww_istore (lv' := [(4, .int 0), (0, .ref qh), (1, .ref h), (2, .int (nI u)), (3, .int (nI v))]) C dX1_roundThatParts_7 rfl rfl ?_
  have loop_9 : ∀ (fu : Nat) (i1 : Nat) (l1 : Nat → Int32) (n1 : Nat → Int32) (s1 : Nat → Int64), (i1 ≤ n) → (RNG 48 48 l1) → (LI n l1) → (RKx (cm1 (am n r f gg)) n i1 l1) → (∀ r_, r_ < i1 → rk (cm1 (am n r f gg)) r_ u = rk (cm1 (am n r f gg)) r_ v) → n - i1 < fu → WW X 5 E 9 [(4, .int (nI i1)), (0, .ref qh), (1, .ref h), (2, .int (nI u)), (3, .int (nI v))] [] [(qh, .inr (1, [.ref h, .null, .int (nI n), .ref ha, .ref hb, .ref hc])), (ha, .inl (E.2.1 1, 48, .inl l1)), (hb, .inl (E.2.1 1, 48, .inl n1)), (hc, .inl (E.2.1 2, 192, .inr (.inl s1))), (h, .inr (4, [.int (nI n), .int (nI r), .ref a, .ref b])), (a, .inl (E.2.1 1, 24, .inl f)), (b, .inl (E.2.1 1, 96, .inl gg))] 0 0 := by
    intro fu
    induction fu with
    | zero => intro i1 l1 n1 s1 hi1 hr1 hl1 hrk1 hdq hmeas; exact absurd hmeas (Nat.not_lt_zero _)
    | succ fu ih_9 =>
      intro i1 l1 n1 s1 hi1 hr1 hl1 hrk1 hdq hmeas
      refine ww_iload C dX1_roundThatParts_9 0 rfl ?_
      refine ww_aload_n C dX1_roundThatParts_11 1 rfl rfl ?_
      refine ww_get C fg_X1_35 0 rfl rfl dX1_roundThatParts_12 ?_
      refine ww_icmp_ge (tgt := 46) C dX1_roundThatParts_15 (by decide) (fun c_7 => ?_) (fun c_7 => ?_)
      · have zc_7 : ((i1 : Nat) : Int) ≥ ((n : Nat) : Int) := i_le (nI_toInt (n := n) (by omega)) (nI_toInt (n := i1) (by omega)) c_7
        refine ww_aload_n C dX1_roundThatParts_46 1 rfl rfl ?_
        refine ww_get C fg_X1_9 0 rfl rfl dX1_roundThatParts_47 ?_
        refine ww_iload_n C dX1_roundThatParts_50 3 rfl rfl ?_
        obtain ⟨x_8, ex_8⟩ : ∃ z : Int32, l1 u = z := ⟨_, rfl⟩
        refine ww_iald (v := x_8) C 1 rfl (vp_in_nI (by omega) (by omega)) (ldn (by omega) ex_8) dX1_roundThatParts_51 ?_
        refine ww_aload_n C dX1_roundThatParts_52 1 rfl rfl ?_
        refine ww_get C fg_X1_9 0 rfl rfl dX1_roundThatParts_53 ?_
        refine ww_iload_n C dX1_roundThatParts_56 4 rfl rfl ?_
        obtain ⟨x_9, ex_9⟩ : ∃ z : Int32, l1 v = z := ⟨_, rfl⟩
        refine ww_iald (v := x_9) C 1 rfl (vp_in_nI (by omega) (by omega)) (ldn (by omega) ex_9) dX1_roundThatParts_57 ?_
        refine ww_icmp_ne (tgt := 66) C dX1_roundThatParts_58 (by decide) (fun c_10 => ?_) (fun c_10 => ?_)
        · have zc_10 : x_8.toInt ≠ x_9.toInt := i_ne rfl rfl c_10
          refine ww_iload C dX1_roundThatParts_66 0 rfl ?_
          exact ww_iret (u := [(qh, .inr (1, [.ref h, .null, .int (nI n), .ref ha, .ref hb, .ref hc])), (ha, .inl (E.2.1 1, 48, .inl l1)), (hb, .inl (E.2.1 1, 48, .inl n1)), (hc, .inl (E.2.1 2, 192, .inr (.inl s1))), (h, .inr (4, [.int (nI n), .int (nI r), .ref a, .ref b])), (a, .inl (E.2.1 1, 24, .inl f)), (b, .inl (E.2.1 1, 96, .inl gg))]) C hT [0, 1, 2, 3, 4, 5, 6] rfl rfl rfl rfl dX1_roundThatParts_68 (⟨l1, n1, s1, rfl, hr1, (dep_d (c := (cm1 (am n r f gg))) (show i1 ≤ n by omega) hdq hrk1 hu hv (by show n ≤ 48; omega) (fun h9 => zc_10 (congrArg Int32.toInt (ex_8.symm.trans (h9.trans ex_9)))))⟩)
        · have zc_10 : x_8.toInt = x_9.toInt := i_eq rfl rfl c_10
          refine ww_bipush (v := (-4)) C dX1_roundThatParts_61 rfl ?_
          refine ww_goto (tgt := 68) C dX1_roundThatParts_63 (by decide) ?_
          exact ww_iret (u := [(qh, .inr (1, [.ref h, .null, .int (nI n), .ref ha, .ref hb, .ref hc])), (ha, .inl (E.2.1 1, 48, .inl l1)), (hb, .inl (E.2.1 1, 48, .inl n1)), (hc, .inl (E.2.1 2, 192, .inr (.inl s1))), (h, .inr (4, [.int (nI n), .int (nI r), .ref a, .ref b])), (a, .inl (E.2.1 1, 24, .inl f)), (b, .inl (E.2.1 1, 96, .inl gg))]) C hT [0, 1, 2, 3, 4, 5, 6] rfl rfl rfl rfl dX1_roundThatParts_68 (⟨l1, n1, s1, rfl, hr1, (dep_a (c := (cm1 (am n r f gg))) (show i1 = n by omega) hdq (by have h9 : i1 = n := (by omega); exact hrk1) hu hv (by show n ≤ 48; omega) (ex_8.trans ((Int32.toInt_inj.mp zc_10).trans ex_9.symm)))⟩)
      · have zc_7 : ((i1 : Nat) : Int) < ((n : Nat) : Int) := i_nle (nI_toInt (n := n) (by omega)) (nI_toInt (n := i1) (by omega)) c_7
        refine ww_aload_n C dX1_roundThatParts_18 1 rfl rfl ?_
        refine ww_get C fg_X1_9 0 rfl rfl dX1_roundThatParts_19 ?_
        refine ww_iload_n C dX1_roundThatParts_22 3 rfl rfl ?_
        obtain ⟨x_11, ex_11⟩ : ∃ z : Int32, l1 u = z := ⟨_, rfl⟩
        refine ww_iald (v := x_11) C 1 rfl (vp_in_nI (by omega) (by omega)) (ldn (by omega) ex_11) dX1_roundThatParts_23 ?_
        refine ww_aload_n C dX1_roundThatParts_24 1 rfl rfl ?_
        refine ww_get C fg_X1_9 0 rfl rfl dX1_roundThatParts_25 ?_
        refine ww_iload_n C dX1_roundThatParts_28 4 rfl rfl ?_
        obtain ⟨x_12, ex_12⟩ : ∃ z : Int32, l1 v = z := ⟨_, rfl⟩
        refine ww_iald (v := x_12) C 1 rfl (vp_in_nI (by omega) (by omega)) (ldn (by omega) ex_12) dX1_roundThatParts_29 ?_
        refine ww_icmp_ne (tgt := 46) C dX1_roundThatParts_30 (by decide) (fun c_13 => ?_) (fun c_13 => ?_)
        · have zc_13 : x_11.toInt ≠ x_12.toInt := i_ne rfl rfl c_13
          refine ww_aload_n C dX1_roundThatParts_46 1 rfl rfl ?_
          refine ww_get C fg_X1_9 0 rfl rfl dX1_roundThatParts_47 ?_
          refine ww_iload_n C dX1_roundThatParts_50 3 rfl rfl ?_
          obtain ⟨x_14, ex_14⟩ : ∃ z : Int32, l1 u = z := ⟨_, rfl⟩
          refine ww_iald (v := x_14) C 1 rfl (vp_in_nI (by omega) (by omega)) (ldn (by omega) ex_14) dX1_roundThatParts_51 ?_
          refine ww_aload_n C dX1_roundThatParts_52 1 rfl rfl ?_
          refine ww_get C fg_X1_9 0 rfl rfl dX1_roundThatParts_53 ?_
          refine ww_iload_n C dX1_roundThatParts_56 4 rfl rfl ?_
          obtain ⟨x_15, ex_15⟩ : ∃ z : Int32, l1 v = z := ⟨_, rfl⟩
          refine ww_iald (v := x_15) C 1 rfl (vp_in_nI (by omega) (by omega)) (ldn (by omega) ex_15) dX1_roundThatParts_57 ?_
          refine ww_icmp_ne (tgt := 66) C dX1_roundThatParts_58 (by decide) (fun c_16 => ?_) (fun c_16 => ?_)
          · have zc_16 : x_14.toInt ≠ x_15.toInt := i_ne rfl rfl c_16
            refine ww_iload C dX1_roundThatParts_66 0 rfl ?_
            exact ww_iret (u := [(qh, .inr (1, [.ref h, .null, .int (nI n), .ref ha, .ref hb, .ref hc])), (ha, .inl (E.2.1 1, 48, .inl l1)), (hb, .inl (E.2.1 1, 48, .inl n1)), (hc, .inl (E.2.1 2, 192, .inr (.inl s1))), (h, .inr (4, [.int (nI n), .int (nI r), .ref a, .ref b])), (a, .inl (E.2.1 1, 24, .inl f)), (b, .inl (E.2.1 1, 96, .inl gg))]) C hT [0, 1, 2, 3, 4, 5, 6] rfl rfl rfl rfl dX1_roundThatParts_68 (⟨l1, n1, s1, rfl, hr1, (dep_d (c := (cm1 (am n r f gg))) (show i1 ≤ n by omega) hdq hrk1 hu hv (by show n ≤ 48; omega) (fun h9 => zc_13 (congrArg Int32.toInt (ex_11.symm.trans (h9.trans ex_12)))))⟩)
          · have zc_16 : x_14.toInt = x_15.toInt := i_eq rfl rfl c_16
            refine ww_bipush (v := (-4)) C dX1_roundThatParts_61 rfl ?_
            refine ww_goto (tgt := 68) C dX1_roundThatParts_63 (by decide) ?_
            exact ww_iret (u := [(qh, .inr (1, [.ref h, .null, .int (nI n), .ref ha, .ref hb, .ref hc])), (ha, .inl (E.2.1 1, 48, .inl l1)), (hb, .inl (E.2.1 1, 48, .inl n1)), (hc, .inl (E.2.1 2, 192, .inr (.inl s1))), (h, .inr (4, [.int (nI n), .int (nI r), .ref a, .ref b])), (a, .inl (E.2.1 1, 24, .inl f)), (b, .inl (E.2.1 1, 96, .inl gg))]) C hT [0, 1, 2, 3, 4, 5, 6] rfl rfl rfl rfl dX1_roundThatParts_68 (⟨l1, n1, s1, rfl, hr1, (absurd (ex_14.trans ((Int32.toInt_inj.mp zc_16).trans ex_15.symm)) (fun h9 => zc_13 (congrArg Int32.toInt (ex_11.symm.trans (h9.trans ex_12)))))⟩)
        · have zc_13 : x_11.toInt = x_12.toInt := i_eq rfl rfl c_13
          refine ww_aload_n C dX1_roundThatParts_33 1 rfl rfl ?_
          refine ww_ci (wr := []) (k' := 0) (n' := 0) C (run_V (As := []) (rest := []) C (h_partN X.2.1 E ro qh h n ha hb hc l1 n1 s1 r a b f gg i1 (by omega) (by omega) hwf hr1 hl1 hrk1) mi_X1_part wl_X1_65 rfl 0 1 rfl rfl rfl rfl rfl dX1_roundThatParts_34) (roK hro) [0, 1, 2, 3, 4, 5, 6] [] rfl rfl (plk (by decide +kernel)) rfl (fun r_17 uz hw => ?_)
          rcases hw with hw | hw
          · refine ex3 hw ?_
            clear hw
            intro flz_18 fnz_19 fsz_20 hw
            refine an5 hw ?_
            clear hw
            intro he_25 he_26 h_21 h_22 h_23 hw
            have h_24 := hw
            clear hw
            have he_25 := he_25.symm
            subst he_25
            subst he_26
            refine ww_eq (ws' := [(qh, .inr (1, [.ref h, .null, .int (nI n), .ref ha, .ref hb, .ref hc])), (ha, .inl (E.2.1 1, 48, .inl flz_18)), (hb, .inl (E.2.1 1, 48, .inl fnz_19)), (hc, .inl (E.2.1 2, 192, .inr (.inl fsz_20))), (h, .inr (4, [.int (nI n), .int (nI r), .ref a, .ref b])), (a, .inl (E.2.1 1, 24, .inl f)), (b, .inl (E.2.1 1, 96, .inl gg))]) ?_ rfl rfl rfl
            refine ww_if_eq_f (tgt := 46) C dX1_roundThatParts_37 (by decide) (by decide) ?_
            refine ww_iinc (j := 0) (v := (nI (i1 + 1))) (lv' := [(4, .int (nI (i1 + 1))), (0, .ref qh), (1, .ref h), (2, .int (nI u)), (3, .int (nI v))]) C dX1_roundThatParts_40 rfl (nI_add i1 1) rfl rfl ?_
            refine ww_goto (tgt := 9) C dX1_roundThatParts_43 (by decide) ?_
            exact ww_lv [0, 1, 2, 3, 4] rfl (ww_sub [0, 1, 2, 3, 4, 5, 6] rfl rfl (ih_9 (i1 + 1) flz_18 fnz_19 fsz_20 (by omega) h_21 h_22 h_23 (dep_s hdq hrk1 hu hv (by omega) (ex_11.trans ((Int32.toInt_inj.mp zc_13).trans ex_12.symm))) (by omega)))
          · refine ex3 hw ?_
            clear hw
            intro flz_27 fnz_28 fsz_29 hw
            refine an5 hw ?_
            clear hw
            intro he_34 he_35 h_30 h_31 h_32 hw
            have h_33 := hw
            clear hw
            have he_34 := he_34.symm
            subst he_34
            subst he_35
            refine ww_eq (ws' := [(qh, .inr (1, [.ref h, .null, .int (nI n), .ref ha, .ref hb, .ref hc])), (ha, .inl (E.2.1 1, 48, .inl flz_27)), (hb, .inl (E.2.1 1, 48, .inl fnz_28)), (hc, .inl (E.2.1 2, 192, .inr (.inl fsz_29))), (h, .inr (4, [.int (nI n), .int (nI r), .ref a, .ref b])), (a, .inl (E.2.1 1, 24, .inl f)), (b, .inl (E.2.1 1, 96, .inl gg))]) ?_ rfl rfl rfl
            refine ww_if_eq_t (tgt := 46) C dX1_roundThatParts_37 (by decide) (rfl) ?_
            refine ww_aload_n C dX1_roundThatParts_46 1 rfl rfl ?_
            refine ww_get C fg_X1_9 0 rfl rfl dX1_roundThatParts_47 ?_
            refine ww_iload_n C dX1_roundThatParts_50 3 rfl rfl ?_
            obtain ⟨x_36, ex_36⟩ : ∃ z : Int32, flz_27 u = z := ⟨_, rfl⟩
            refine ww_iald (v := x_36) C 1 rfl (vp_in_nI (by omega) (by omega)) (ldn (by omega) ex_36) dX1_roundThatParts_51 ?_
            refine ww_aload_n C dX1_roundThatParts_52 1 rfl rfl ?_
            refine ww_get C fg_X1_9 0 rfl rfl dX1_roundThatParts_53 ?_
            refine ww_iload_n C dX1_roundThatParts_56 4 rfl rfl ?_
            obtain ⟨x_37, ex_37⟩ : ∃ z : Int32, flz_27 v = z := ⟨_, rfl⟩
            refine ww_iald (v := x_37) C 1 rfl (vp_in_nI (by omega) (by omega)) (ldn (by omega) ex_37) dX1_roundThatParts_57 ?_
            refine ww_icmp_ne (tgt := 66) C dX1_roundThatParts_58 (by decide) (fun c_38 => ?_) (fun c_38 => ?_)
            · have zc_38 : x_36.toInt ≠ x_37.toInt := i_ne rfl rfl c_38
              refine ww_iload C dX1_roundThatParts_66 0 rfl ?_
              exact ww_iret (u := [(qh, .inr (1, [.ref h, .null, .int (nI n), .ref ha, .ref hb, .ref hc])), (ha, .inl (E.2.1 1, 48, .inl flz_27)), (hb, .inl (E.2.1 1, 48, .inl fnz_28)), (hc, .inl (E.2.1 2, 192, .inr (.inl fsz_29))), (h, .inr (4, [.int (nI n), .int (nI r), .ref a, .ref b])), (a, .inl (E.2.1 1, 24, .inl f)), (b, .inl (E.2.1 1, 96, .inl gg))]) C hT [0, 1, 2, 3, 4, 5, 6] rfl rfl rfl rfl dX1_roundThatParts_68 (⟨flz_27, fnz_28, fsz_29, rfl, h_30, (absurd ((rk_eqv (c := (cm1 (am n r f gg))) h_32 hu hv (by omega)).mpr ((dep_c (c := (cm1 (am n r f gg))) (cm1_wf hwf) hdq hrk1 hu hv (by show n ≤ 48; omega) (ex_11.trans ((Int32.toInt_inj.mp zc_13).trans ex_12.symm)) h_33) (i1 + 1))) (fun h9 => zc_38 (congrArg Int32.toInt (ex_36.symm.trans (h9.trans ex_37)))))⟩)
            · have zc_38 : x_36.toInt = x_37.toInt := i_eq rfl rfl c_38
              refine ww_bipush (v := (-4)) C dX1_roundThatParts_61 rfl ?_
              refine ww_goto (tgt := 68) C dX1_roundThatParts_63 (by decide) ?_
              exact ww_iret (u := [(qh, .inr (1, [.ref h, .null, .int (nI n), .ref ha, .ref hb, .ref hc])), (ha, .inl (E.2.1 1, 48, .inl flz_27)), (hb, .inl (E.2.1 1, 48, .inl fnz_28)), (hc, .inl (E.2.1 2, 192, .inr (.inl fsz_29))), (h, .inr (4, [.int (nI n), .int (nI r), .ref a, .ref b])), (a, .inl (E.2.1 1, 24, .inl f)), (b, .inl (E.2.1 1, 96, .inl gg))]) C hT [0, 1, 2, 3, 4, 5, 6] rfl rfl rfl rfl dX1_roundThatParts_68 (⟨flz_27, fnz_28, fsz_29, rfl, h_30, (Or.inl ⟨rfl, fun s _ => (dep_c (c := (cm1 (am n r f gg))) (cm1_wf hwf) hdq hrk1 hu hv (by show n ≤ 48; omega) (ex_11.trans ((Int32.toInt_inj.mp zc_13).trans ex_12.symm)) h_33) s⟩)⟩)
  exact ww_lv [0, 1, 2, 3, 4] rfl (ww_sub [0, 1, 2, 3, 4, 5, 6] rfl rfl (loop_9 _ 0 flz_2 fn fs (by omega) h_3 h_4 h_5 (fun s h => absurd h (Nat.not_lt_zero _)) (Nat.lt_succ_self _)))
theorem dX1_classesOf_0 : decode cX1_classesOf 0 = .ok (.iconst 0, 1) := dl_3 (by decide +kernel)
theorem dX1_classesOf_1 : decode cX1_classesOf 1 = .ok (.istore_n 2, 1) := dl_61 (by decide +kernel)
theorem dX1_classesOf_2 : decode cX1_classesOf 2 = .ok (.iconst 0, 1) := dl_3 (by decide +kernel)
theorem dX1_classesOf_3 : decode cX1_classesOf 3 = .ok (.istore_n 3, 1) := dl_62 (by decide +kernel)
theorem dX1_classesOf_4 : decode cX1_classesOf 4 = .ok (.iload_n 3, 1) := dl_29 (by decide +kernel)
theorem dX1_classesOf_5 : decode cX1_classesOf 5 = .ok (.bipush 24, 2) := dl_16 (by decide +kernel)
theorem dX1_classesOf_7 : decode cX1_classesOf 7 = .ok (.if_icmp .ge 39, 3) := dl_162 (by decide +kernel)
theorem dX1_classesOf_46 : decode cX1_classesOf 46 = .ok (.iload_n 2, 1) := dl_28 (by decide +kernel)
theorem dX1_classesOf_47 : decode cX1_classesOf 47 = .ok (.ireturn, 1) := dl_172 (by decide +kernel)
theorem dX1_classesOf_10 : decode cX1_classesOf 10 = .ok (.iload_n 1, 1) := dl_27 (by decide +kernel)
theorem dX1_classesOf_11 : decode cX1_classesOf 11 = .ok (.iload_n 3, 1) := dl_29 (by decide +kernel)
theorem dX1_classesOf_12 : decode cX1_classesOf 12 = .ok (.ishr, 1) := dl_122 (by decide +kernel)
theorem dX1_classesOf_13 : decode cX1_classesOf 13 = .ok (.ifCond .eq 33, 3) := dl_153 (by decide +kernel)
theorem dX1_classesOf_16 : decode cX1_classesOf 16 = .ok (.iload_n 1, 1) := dl_27 (by decide +kernel)
theorem dX1_classesOf_17 : decode cX1_classesOf 17 = .ok (.iload_n 3, 1) := dl_29 (by decide +kernel)
theorem dX1_classesOf_18 : decode cX1_classesOf 18 = .ok (.invokestatic 51, 3) := dl_184 (by decide +kernel)
theorem dX1_classesOf_21 : decode cX1_classesOf 21 = .ok (.ifCond .eq 19, 3) := dl_153 (by decide +kernel)
theorem dX1_classesOf_24 : decode cX1_classesOf 24 = .ok (.iload_n 2, 1) := dl_28 (by decide +kernel)
theorem dX1_classesOf_25 : decode cX1_classesOf 25 = .ok (.iconst 1, 1) := dl_4 (by decide +kernel)
theorem dX1_classesOf_26 : decode cX1_classesOf 26 = .ok (.aload_n 0, 1) := dl_42 (by decide +kernel)
theorem dX1_classesOf_27 : decode cX1_classesOf 27 = .ok (.getfield 15, 3) := dl_180 (by decide +kernel)
theorem dX1_classesOf_30 : decode cX1_classesOf 30 = .ok (.aload_n 0, 1) := dl_42 (by decide +kernel)
theorem dX1_classesOf_31 : decode cX1_classesOf 31 = .ok (.getfield 9, 3) := dl_180 (by decide +kernel)
theorem dX1_classesOf_34 : decode cX1_classesOf 34 = .ok (.iload_n 3, 1) := dl_29 (by decide +kernel)
theorem dX1_classesOf_35 : decode cX1_classesOf 35 = .ok (.iaload, 1) := dl_46 (by decide +kernel)
theorem dX1_classesOf_36 : decode cX1_classesOf 36 = .ok (.iaload, 1) := dl_46 (by decide +kernel)
theorem dX1_classesOf_37 : decode cX1_classesOf 37 = .ok (.ishl, 1) := dl_120 (by decide +kernel)
theorem dX1_classesOf_38 : decode cX1_classesOf 38 = .ok (.ior, 1) := dl_128 (by decide +kernel)
theorem dX1_classesOf_39 : decode cX1_classesOf 39 = .ok (.istore_n 2, 1) := dl_61 (by decide +kernel)
theorem dX1_classesOf_40 : decode cX1_classesOf 40 = .ok (.iinc 3 1, 3) := dl_132 (by decide +kernel)
theorem dX1_classesOf_43 : decode cX1_classesOf 43 = .ok (.goto (-39), 3) := dl_167 (by decide +kernel)
set_option maxRecDepth 100000 in
set_option maxHeartbeats 4000000 in
theorem h_classesOf (l : Launch) (E : EV) (ro : va_W) (qh : Nat) (bs : Int32) (h : Nat) (n : Nat) (ha : Nat) (hb : Nat) (hc : Nat) (fl : Nat → Int32) (fn : Nat → Int32) (RR : Nat → Nat) (NN : Nat → Nat) (hR : ∀ w, w < 24 → bt bs w = true → fl w = nI (RR w) ∧ RR w < 48 ∧ fn (RR w) = nI (NN w) ∧ NN w < 24) : CT l yX1_classesOf (Cond.code yX1_classesOf cX1_classesOf 4 (some .int) :: TB) ({ frames := 1, cells := 0, slots := 0, locals := 21 }) E ro [.ref qh, .int bs] [(qh, .inr (1, [.ref h, .null, .int (nI n), .ref ha, .ref hb, .ref hc])), (ha, .inl (E.2.1 1, 48, .inl fl)), (hb, .inl (E.2.1 1, 48, .inl fn))] (Qi E (fun (rz : Int32) uz => (uz = [(qh, .inr (1, [.ref h, .null, .int (nI n), .ref ha, .ref hb, .ref hc])), (ha, .inl (E.2.1 1, 48, .inl fl)), (hb, .inl (E.2.1 1, 48, .inl fn))] ∧ (CLx bs NN 24 rz)))) 0 0 := by
  refine ct_of rfl rfl ?_
  intro X C hT hin hro
  show WW X 4 E 0 [(0, .ref qh), (1, .int bs)] [] [(qh, .inr (1, [.ref h, .null, .int (nI n), .ref ha, .ref hb, .ref hc])), (ha, .inl (E.2.1 1, 48, .inl fl)), (hb, .inl (E.2.1 1, 48, .inl fn))] 0 0
  refine ww_iconst (v := 0) C dX1_classesOf_0 rfl ?_
  refine ww_istore_n (lv' := [(2, .int 0), (0, .ref qh), (1, .int bs)]) C dX1_classesOf_1 rfl rfl rfl ?_
  refine ww_iconst (v := 0) C dX1_classesOf_2 rfl ?_
  refine ww_istore_n (lv' := [(3, .int 0), (2, .int 0), (0, .ref qh), (1, .int bs)]) C dX1_classesOf_3 rfl rfl rfl ?_
  have loop_4 : ∀ (fu : Nat) (i1 : Nat) (ac : Int32), (i1 ≤ 24) → (CLx bs NN i1 ac) → 24 - i1 < fu → WW X 4 E 4 [(3, .int (nI i1)), (2, .int ac), (0, .ref qh), (1, .int bs)] [] [(qh, .inr (1, [.ref h, .null, .int (nI n), .ref ha, .ref hb, .ref hc])), (ha, .inl (E.2.1 1, 48, .inl fl)), (hb, .inl (E.2.1 1, 48, .inl fn))] 0 0 := by
    intro fu
    induction fu with
    | zero => intro i1 ac hi1 hcl hmeas; exact absurd hmeas (Nat.not_lt_zero _)
    | succ fu ih_4 =>
      intro i1 ac hi1 hcl hmeas
      refine ww_iload_n C dX1_classesOf_4 0 rfl rfl ?_
      refine ww_bipush (v := 24) C dX1_classesOf_5 rfl ?_
      refine ww_icmp_ge (tgt := 46) C dX1_classesOf_7 (by decide) (fun c_1 => ?_) (fun c_1 => ?_)
      · have zc_1 : ((i1 : Nat) : Int) ≥ 24 := i_le rfl (nI_toInt (n := i1) (by omega)) c_1
        refine ww_iload_n C dX1_classesOf_46 1 rfl rfl ?_
        exact ww_iret (u := [(qh, .inr (1, [.ref h, .null, .int (nI n), .ref ha, .ref hb, .ref hc])), (ha, .inl (E.2.1 1, 48, .inl fl)), (hb, .inl (E.2.1 1, 48, .inl fn))]) C hT [0, 1, 2] rfl rfl rfl rfl dX1_classesOf_47 (⟨rfl, (CLx.fin hcl hi1 (fun w h1 h2 => absurd h2 (by omega)))⟩)
      · have zc_1 : ((i1 : Nat) : Int) < 24 := i_nle rfl (nI_toInt (n := i1) (by omega)) c_1
        refine ww_iload_n C dX1_classesOf_10 3 rfl rfl ?_
        refine ww_iload_n C dX1_classesOf_11 0 rfl rfl ?_
        obtain ⟨x_2, ex_2⟩ : ∃ z : Int32, bs >>> ((nI i1) &&& 31) = z := ⟨_, rfl⟩
        refine ww_ishr (v := x_2) C dX1_classesOf_12 ex_2 ?_
        refine ww_if_eq (tgt := 46) C dX1_classesOf_13 (by decide) (fun c_3 => ?_) (fun c_3 => ?_)
        · have zc_3 : x_2.toInt = 0 := i_eq rfl rfl c_3
          refine ww_iload_n C dX1_classesOf_46 1 rfl rfl ?_
          exact ww_iret (u := [(qh, .inr (1, [.ref h, .null, .int (nI n), .ref ha, .ref hb, .ref hc])), (ha, .inl (E.2.1 1, 48, .inl fl)), (hb, .inl (E.2.1 1, 48, .inl fn))]) C hT [0, 1, 2] rfl rfl rfl rfl dX1_classesOf_47 (⟨rfl, (CLx.fin hcl hi1 (shz_b (by omega) ex_2 zc_3))⟩)
        · have zc_3 : x_2.toInt ≠ 0 := i_ne rfl rfl c_3
          refine ww_iload_n C dX1_classesOf_16 3 rfl rfl ?_
          refine ww_iload_n C dX1_classesOf_17 0 rfl rfl ?_
          refine ww_ci (wr := [(qh, .inr (1, [.ref h, .null, .int (nI n), .ref ha, .ref hb, .ref hc])), (ha, .inl (E.2.1 1, 48, .inl fl)), (hb, .inl (E.2.1 1, 48, .inl fn))]) (k' := 0) (n' := 0) C (run_SN (As := [.int bs, .int (nI i1)]) (rest := []) C (c_hasN X.2.1 E ro bs i1 (by omega)) ms_X11_has (List.mem_of_getElem? (i := 18) rfl) rfl rfl rfl rfl dX1_classesOf_18) (roK hro) [] [0, 1, 2] rfl rfl rfl rfl (fun r_4 uz hw => ?_)
          rcases hw with hw | hw
          · refine an2 hw ?_
            clear hw
            intro he_6 he_7 hw
            have h_5 := hw
            clear hw
            have he_6 := he_6.symm
            subst he_6
            subst he_7
            refine ww_eq (ws' := [(qh, .inr (1, [.ref h, .null, .int (nI n), .ref ha, .ref hb, .ref hc])), (ha, .inl (E.2.1 1, 48, .inl fl)), (hb, .inl (E.2.1 1, 48, .inl fn))]) ?_ rfl rfl rfl
            refine ww_if_eq_f (tgt := 40) C dX1_classesOf_21 (by decide) (by decide) ?_
            refine ww_iload_n C dX1_classesOf_24 1 rfl rfl ?_
            refine ww_iconst (v := 1) C dX1_classesOf_25 rfl ?_
            refine ww_aload_n C dX1_classesOf_26 2 rfl rfl ?_
            refine ww_get C fg_X1_15 0 rfl rfl dX1_classesOf_27 ?_
            refine ww_aload_n C dX1_classesOf_30 2 rfl rfl ?_
            refine ww_get C fg_X1_9 0 rfl rfl dX1_classesOf_31 ?_
            refine ww_iload_n C dX1_classesOf_34 0 rfl rfl ?_
            obtain ⟨hax_11, hbx_11, hcx_11, hdx_11⟩ := hR i1 (by omega) h_5
            refine ww_iald (v := (nI (RR i1))) C 1 rfl (vp_in_nI (by omega) (by omega)) (ldn (by omega) hax_11) dX1_classesOf_35 ?_
            refine ww_iald (v := (nI (NN i1))) C 2 rfl (vp_in_nI (by omega) (by omega)) (ldn (by omega) hcx_11) dX1_classesOf_36 ?_
            obtain ⟨x_13, ex_13⟩ : ∃ z : Int32, (1 : Int32) <<< ((nI (NN i1)) &&& 31) = z := ⟨_, rfl⟩
            refine ww_ishl (v := x_13) C dX1_classesOf_37 ex_13 ?_
            obtain ⟨x_14, ex_14⟩ : ∃ z : Int32, ac ||| x_13 = z := ⟨_, rfl⟩
            refine ww_ior (v := x_14) C dX1_classesOf_38 ex_14 ?_
            refine ww_istore_n (lv' := [(2, .int x_14), (3, .int (nI i1)), (0, .ref qh), (1, .int bs)]) C dX1_classesOf_39 rfl rfl rfl ?_
            refine ww_iinc (j := 1) (v := (nI (i1 + 1))) (lv' := [(3, .int (nI (i1 + 1))), (2, .int x_14), (0, .ref qh), (1, .int bs)]) C dX1_classesOf_40 rfl (nI_add i1 1) rfl rfl ?_
            refine ww_goto (tgt := 4) C dX1_classesOf_43 (by decide) ?_
            exact ww_lv [0, 1, 2, 3] rfl (ww_sub [0, 1, 2] rfl rfl (ih_4 (i1 + 1) x_14 (by omega) (CLx.t hcl h_5 (by have h9 := hdx_11; omega) ex_13 ex_14) (by omega)))
          · refine an2 hw ?_
            clear hw
            intro he_9 he_10 hw
            have h_8 := hw
            clear hw
            have he_9 := he_9.symm
            subst he_9
            subst he_10
            refine ww_eq (ws' := [(qh, .inr (1, [.ref h, .null, .int (nI n), .ref ha, .ref hb, .ref hc])), (ha, .inl (E.2.1 1, 48, .inl fl)), (hb, .inl (E.2.1 1, 48, .inl fn))]) ?_ rfl rfl rfl
            refine ww_if_eq_t (tgt := 40) C dX1_classesOf_21 (by decide) (rfl) ?_
            refine ww_iinc (j := 0) (v := (nI (i1 + 1))) (lv' := [(3, .int (nI (i1 + 1))), (2, .int ac), (0, .ref qh), (1, .int bs)]) C dX1_classesOf_40 rfl (nI_add i1 1) rfl rfl ?_
            refine ww_goto (tgt := 4) C dX1_classesOf_43 (by decide) ?_
            exact ww_lv [0, 1, 2, 3] rfl (ww_sub [0, 1, 2] rfl rfl (ih_4 (i1 + 1) ac (by omega) (CLx.f hcl h_8) (by omega)))
  exact ww_lv [0, 1, 2, 3] rfl (ww_sub [0, 1, 2] rfl rfl (loop_4 _ 0 0 (by omega) CLx.nil (Nat.lt_succ_self _)))
theorem dX1_meltDown_0 : decode cX1_meltDown 0 = .ok (.iconst 0, 1) := dl_3 (by decide +kernel)
theorem dX1_meltDown_1 : decode cX1_meltDown 1 = .ok (.istore_n 2, 1) := dl_61 (by decide +kernel)
theorem dX1_meltDown_2 : decode cX1_meltDown 2 = .ok (.iconst 0, 1) := dl_3 (by decide +kernel)
theorem dX1_meltDown_3 : decode cX1_meltDown 3 = .ok (.istore_n 3, 1) := dl_62 (by decide +kernel)
theorem dX1_meltDown_4 : decode cX1_meltDown 4 = .ok (.iload_n 3, 1) := dl_29 (by decide +kernel)
theorem dX1_meltDown_5 : decode cX1_meltDown 5 = .ok (.aload_n 1, 1) := dl_43 (by decide +kernel)
theorem dX1_meltDown_6 : decode cX1_meltDown 6 = .ok (.getfield 29, 3) := dl_180 (by decide +kernel)
theorem dX1_meltDown_9 : decode cX1_meltDown 9 = .ok (.if_icmp .ge 29, 3) := dl_162 (by decide +kernel)
theorem dX1_meltDown_38 : decode cX1_meltDown 38 = .ok (.iconst 0, 1) := dl_3 (by decide +kernel)
theorem dX1_meltDown_39 : decode cX1_meltDown 39 = .ok (.istore_n 3, 1) := dl_62 (by decide +kernel)
theorem dX1_meltDown_40 : decode cX1_meltDown 40 = .ok (.iload_n 3, 1) := dl_29 (by decide +kernel)
theorem dX1_meltDown_41 : decode cX1_meltDown 41 = .ok (.aload_n 1, 1) := dl_43 (by decide +kernel)
theorem dX1_meltDown_42 : decode cX1_meltDown 42 = .ok (.getfield 29, 3) := dl_180 (by decide +kernel)
theorem dX1_meltDown_45 : decode cX1_meltDown 45 = .ok (.if_icmp .ge 79, 3) := dl_162 (by decide +kernel)
theorem dX1_meltDown_124 : decode cX1_meltDown 124 = .ok (.aload_n 1, 1) := dl_43 (by decide +kernel)
theorem dX1_meltDown_125 : decode cX1_meltDown 125 = .ok (.aload_n 0, 1) := dl_42 (by decide +kernel)
theorem dX1_meltDown_126 : decode cX1_meltDown 126 = .ok (.getfield 15, 3) := dl_180 (by decide +kernel)
theorem dX1_meltDown_129 : decode cX1_meltDown 129 = .ok (.aload_n 0, 1) := dl_42 (by decide +kernel)
theorem dX1_meltDown_130 : decode cX1_meltDown 130 = .ok (.getfield 9, 3) := dl_180 (by decide +kernel)
theorem dX1_meltDown_133 : decode cX1_meltDown 133 = .ok (.aload_n 1, 1) := dl_43 (by decide +kernel)
theorem dX1_meltDown_134 : decode cX1_meltDown 134 = .ok (.getfield 75, 3) := dl_180 (by decide +kernel)
theorem wf_X1_75 : Cond.fieldLink RX1 75 RX4 "realOne" "I" ∈ TB := tbm (tq1 (List.mem_of_getElem? (i := 43) (by decide +kernel))) (by decide +kernel)
theorem fg_X1_75 : FG RX1 75 4 1 := ⟨RX4, TX4, 4, uw_X4, wf_X1_75, rfl, by decide, rfl⟩
theorem dX1_meltDown_137 : decode cX1_meltDown 137 = .ok (.iaload, 1) := dl_46 (by decide +kernel)
theorem dX1_meltDown_138 : decode cX1_meltDown 138 = .ok (.iaload, 1) := dl_46 (by decide +kernel)
theorem dX1_meltDown_139 : decode cX1_meltDown 139 = .ok (.putfield 75, 3) := dl_181 (by decide +kernel)
theorem fp_X1_75 : FP RX1 75 4 1 .int false := ⟨RX4, TX4, 4, tyX4, uw_X4, wf_X1_75, rfl, by decide, rfl, tyX4_ok, nmX4, rfl, by decide +kernel⟩
theorem dX1_meltDown_142 : decode cX1_meltDown 142 = .ok (.aload_n 1, 1) := dl_43 (by decide +kernel)
theorem dX1_meltDown_143 : decode cX1_meltDown 143 = .ok (.iload_n 2, 1) := dl_28 (by decide +kernel)
theorem dX1_meltDown_144 : decode cX1_meltDown 144 = .ok (.putfield 29, 3) := dl_181 (by decide +kernel)
theorem fp_X1_29 : FP RX1 29 4 0 .int false := ⟨RX4, TX4, 4, tyX4, uw_X4, wf_X1_29, rfl, by decide, rfl, tyX4_ok, nmX4, rfl, by decide +kernel⟩
theorem dX1_meltDown_147 : decode cX1_meltDown 147 = .ok (.return_, 1) := dl_177 (by decide +kernel)
theorem dX1_meltDown_48 : decode cX1_meltDown 48 = .ok (.aload_n 0, 1) := dl_42 (by decide +kernel)
theorem dX1_meltDown_49 : decode cX1_meltDown 49 = .ok (.getfield 9, 3) := dl_180 (by decide +kernel)
theorem dX1_meltDown_52 : decode cX1_meltDown 52 = .ok (.iload_n 3, 1) := dl_29 (by decide +kernel)
theorem dX1_meltDown_53 : decode cX1_meltDown 53 = .ok (.iaload, 1) := dl_46 (by decide +kernel)
theorem dX1_meltDown_54 : decode cX1_meltDown 54 = .ok (.iload_n 3, 1) := dl_29 (by decide +kernel)
theorem dX1_meltDown_55 : decode cX1_meltDown 55 = .ok (.if_icmp .ne 63, 3) := dl_160 (by decide +kernel)
theorem dX1_meltDown_118 : decode cX1_meltDown 118 = .ok (.iinc 3 1, 3) := dl_132 (by decide +kernel)
theorem dX1_meltDown_121 : decode cX1_meltDown 121 = .ok (.goto (-81), 3) := dl_167 (by decide +kernel)
theorem dX1_meltDown_58 : decode cX1_meltDown 58 = .ok (.aload_n 1, 1) := dl_43 (by decide +kernel)
theorem dX1_meltDown_59 : decode cX1_meltDown 59 = .ok (.getfield 40, 3) := dl_180 (by decide +kernel)
theorem dX1_meltDown_62 : decode cX1_meltDown 62 = .ok (.aload_n 0, 1) := dl_42 (by decide +kernel)
theorem dX1_meltDown_63 : decode cX1_meltDown 63 = .ok (.getfield 15, 3) := dl_180 (by decide +kernel)
theorem dX1_meltDown_66 : decode cX1_meltDown 66 = .ok (.iload_n 3, 1) := dl_29 (by decide +kernel)
theorem dX1_meltDown_67 : decode cX1_meltDown 67 = .ok (.iaload, 1) := dl_46 (by decide +kernel)
theorem dX1_meltDown_68 : decode cX1_meltDown 68 = .ok (.aload_n 1, 1) := dl_43 (by decide +kernel)
theorem dX1_meltDown_69 : decode cX1_meltDown 69 = .ok (.getfield 40, 3) := dl_180 (by decide +kernel)
theorem dX1_meltDown_72 : decode cX1_meltDown 72 = .ok (.iload_n 3, 1) := dl_29 (by decide +kernel)
theorem dX1_meltDown_73 : decode cX1_meltDown 73 = .ok (.iaload, 1) := dl_46 (by decide +kernel)
theorem dX1_meltDown_74 : decode cX1_meltDown 74 = .ok (.iastore, 1) := dl_79 (by decide +kernel)
theorem dX1_meltDown_75 : decode cX1_meltDown 75 = .ok (.iconst 0, 1) := dl_3 (by decide +kernel)
theorem dX1_meltDown_76 : decode cX1_meltDown 76 = .ok (.istore 4, 2) := dl_54 (by decide +kernel)
theorem dX1_meltDown_78 : decode cX1_meltDown 78 = .ok (.iload 4, 2) := dl_21 (by decide +kernel)
theorem dX1_meltDown_80 : decode cX1_meltDown 80 = .ok (.iconst 4, 1) := dl_7 (by decide +kernel)
theorem dX1_meltDown_81 : decode cX1_meltDown 81 = .ok (.if_icmp .ge 37, 3) := dl_162 (by decide +kernel)
theorem dX1_meltDown_84 : decode cX1_meltDown 84 = .ok (.aload_n 1, 1) := dl_43 (by decide +kernel)
theorem dX1_meltDown_85 : decode cX1_meltDown 85 = .ok (.getfield 69, 3) := dl_180 (by decide +kernel)
theorem wf_X1_69 : Cond.fieldLink RX1 69 RX4 "possible" "[I" ∈ TB := tbm (tq1 (List.mem_of_getElem? (i := 51) (by decide +kernel))) (by decide +kernel)
theorem fg_X1_69 : FG RX1 69 4 3 := ⟨RX4, TX4, 4, uw_X4, wf_X1_69, rfl, by decide, rfl⟩
theorem dX1_meltDown_88 : decode cX1_meltDown 88 = .ok (.iload 4, 2) := dl_21 (by decide +kernel)
theorem dX1_meltDown_90 : decode cX1_meltDown 90 = .ok (.bipush 24, 2) := dl_16 (by decide +kernel)
theorem dX1_meltDown_92 : decode cX1_meltDown 92 = .ok (.imul, 1) := dl_104 (by decide +kernel)
theorem dX1_meltDown_93 : decode cX1_meltDown 93 = .ok (.aload_n 0, 1) := dl_42 (by decide +kernel)
theorem dX1_meltDown_94 : decode cX1_meltDown 94 = .ok (.getfield 15, 3) := dl_180 (by decide +kernel)
theorem dX1_meltDown_97 : decode cX1_meltDown 97 = .ok (.iload_n 3, 1) := dl_29 (by decide +kernel)
theorem dX1_meltDown_98 : decode cX1_meltDown 98 = .ok (.iaload, 1) := dl_46 (by decide +kernel)
theorem dX1_meltDown_99 : decode cX1_meltDown 99 = .ok (.iadd, 1) := dl_96 (by decide +kernel)
theorem dX1_meltDown_100 : decode cX1_meltDown 100 = .ok (.aload_n 0, 1) := dl_42 (by decide +kernel)
theorem dX1_meltDown_101 : decode cX1_meltDown 101 = .ok (.aload_n 1, 1) := dl_43 (by decide +kernel)
theorem dX1_meltDown_102 : decode cX1_meltDown 102 = .ok (.iload 4, 2) := dl_21 (by decide +kernel)
theorem dX1_meltDown_104 : decode cX1_meltDown 104 = .ok (.iload_n 3, 1) := dl_29 (by decide +kernel)
theorem dX1_meltDown_105 : decode cX1_meltDown 105 = .ok (.invokevirtual 43, 3) := dl_182 (by decide +kernel)
theorem dX1_meltDown_108 : decode cX1_meltDown 108 = .ok (.invokevirtual 72, 3) := dl_182 (by decide +kernel)
theorem wl_X1_72 : Cond.methodLink RX1 72 yX1_classesOf ∈ TB := tbm (tq4 (List.mem_of_getElem? (i := 167) (by decide +kernel))) (by decide +kernel)
theorem wc_X1_classesOf : Cond.code yX1_classesOf cX1_classesOf 4 (some .int) ∈ TB := tbm (tq4 (List.mem_of_getElem? (i := 170) (rfl))) (by decide +kernel)
theorem wi_X1_classesOf : Cond.instanceMethod yX1_classesOf ∈ TB := tbm (tq4 (List.mem_of_getElem? (i := 169) (by decide +kernel))) (by decide +kernel)
theorem ws_X1_classesOf : Cond.selects RX1 yX1_classesOf yX1_classesOf ∈ TB := tbm (tq0 (List.mem_of_getElem? (i := 31) (by decide +kernel))) (by decide +kernel)
theorem mi_X1_classesOf : MI yX1_classesOf cX1_classesOf 4 (some .int) 1 := ⟨wc_X1_classesOf, wn_X1, ⟨by decide +kernel, by decide +kernel, by decide +kernel⟩, wi_X1_classesOf, ws_X1_classesOf⟩
theorem dX1_meltDown_111 : decode cX1_meltDown 111 = .ok (.iastore, 1) := dl_79 (by decide +kernel)
theorem dX1_meltDown_112 : decode cX1_meltDown 112 = .ok (.iinc 4 1, 3) := dl_132 (by decide +kernel)
theorem dX1_meltDown_115 : decode cX1_meltDown 115 = .ok (.goto (-37), 3) := dl_167 (by decide +kernel)
theorem dX1_meltDown_12 : decode cX1_meltDown 12 = .ok (.aload_n 0, 1) := dl_42 (by decide +kernel)
theorem dX1_meltDown_13 : decode cX1_meltDown 13 = .ok (.getfield 9, 3) := dl_180 (by decide +kernel)
theorem dX1_meltDown_16 : decode cX1_meltDown 16 = .ok (.iload_n 3, 1) := dl_29 (by decide +kernel)
theorem dX1_meltDown_17 : decode cX1_meltDown 17 = .ok (.iaload, 1) := dl_46 (by decide +kernel)
theorem dX1_meltDown_18 : decode cX1_meltDown 18 = .ok (.iload_n 3, 1) := dl_29 (by decide +kernel)
theorem dX1_meltDown_19 : decode cX1_meltDown 19 = .ok (.if_icmp .ne 13, 3) := dl_160 (by decide +kernel)
theorem dX1_meltDown_32 : decode cX1_meltDown 32 = .ok (.iinc 3 1, 3) := dl_132 (by decide +kernel)
theorem dX1_meltDown_35 : decode cX1_meltDown 35 = .ok (.goto (-31), 3) := dl_167 (by decide +kernel)
theorem dX1_meltDown_22 : decode cX1_meltDown 22 = .ok (.aload_n 0, 1) := dl_42 (by decide +kernel)
theorem dX1_meltDown_23 : decode cX1_meltDown 23 = .ok (.getfield 15, 3) := dl_180 (by decide +kernel)
theorem dX1_meltDown_26 : decode cX1_meltDown 26 = .ok (.iload_n 3, 1) := dl_29 (by decide +kernel)
theorem dX1_meltDown_27 : decode cX1_meltDown 27 = .ok (.iload_n 2, 1) := dl_28 (by decide +kernel)
theorem dX1_meltDown_28 : decode cX1_meltDown 28 = .ok (.iastore, 1) := dl_79 (by decide +kernel)
theorem dX1_meltDown_29 : decode cX1_meltDown 29 = .ok (.iinc 2 1, 3) := dl_132 (by decide +kernel)
set_option maxRecDepth 100000 in
set_option maxHeartbeats 4000000 in
theorem h_meltDown (l : Launch) (E : EV) (ro : va_W) (qh : Nat) (h : Nat) (n : Nat) (ha : Nat) (hb : Nat) (hc : Nat) (fl : Nat → Int32) (fn : Nat → Int32) (r : Nat) (a : Nat) (b : Nat) (f : Nat → Int32) (gg : Nat → Int32) (hn : n ≤ 24) (hr : r < n) (hwf : WFm (am n r f gg)) (hrng : RNG 48 48 fl) (hli : LI n fl) (hrk : RKx (cm1 (am n r f gg)) n n fl) : CT l yX1_meltDown (Cond.code yX1_meltDown cX1_meltDown 5 none :: TB) ({ frames := 2, cells := 0, slots := 0, locals := 44 }) E ro [.ref qh, .ref h] [(qh, .inr (1, [.ref h, .null, .int (nI n), .ref ha, .ref hb, .ref hc])), (ha, .inl (E.2.1 1, 48, .inl fl)), (hb, .inl (E.2.1 1, 48, .inl fn)), (h, .inr (4, [.int (nI n), .int (nI r), .ref a, .ref b])), (a, .inl (E.2.1 1, 24, .inl f)), (b, .inl (E.2.1 1, 96, .inl gg))] (Qv E (fun uz => (∃ (nz : Nat) (rz_ : Nat) (fnz : Nat → Int32) (fz : Nat → Int32) (gz : Nat → Int32), uz = [(qh, .inr (1, [.ref h, .null, .int (nI n), .ref ha, .ref hb, .ref hc])), (ha, .inl (E.2.1 1, 48, .inl fl)), (hb, .inl (E.2.1 1, 48, .inl fnz)), (h, .inr (4, [.int (nI nz), .int (nI rz_), .ref a, .ref b])), (a, .inl (E.2.1 1, 24, .inl fz)), (b, .inl (E.2.1 1, 96, .inl gz))] ∧ (nz ≤ n) ∧ (rz_ < nz) ∧ (am nz rz_ fz gz = aMelt (am n r f gg))))) 0 0 := by
  refine ct_of rfl rfl ?_
  intro X C hT hin hro
  show WW X 5 E 0 [(0, .ref qh), (1, .ref h)] [] [(qh, .inr (1, [.ref h, .null, .int (nI n), .ref ha, .ref hb, .ref hc])), (ha, .inl (E.2.1 1, 48, .inl fl)), (hb, .inl (E.2.1 1, 48, .inl fn)), (h, .inr (4, [.int (nI n), .int (nI r), .ref a, .ref b])), (a, .inl (E.2.1 1, 24, .inl f)), (b, .inl (E.2.1 1, 96, .inl gg))] 0 0
  refine ww_iconst (v := 0) C dX1_meltDown_0 rfl ?_
  refine ww_istore_n (lv' := [(2, .int 0), (0, .ref qh), (1, .ref h)]) C dX1_meltDown_1 rfl rfl rfl ?_
  refine ww_iconst (v := 0) C dX1_meltDown_2 rfl ?_
  refine ww_istore_n (lv' := [(3, .int 0), (2, .int 0), (0, .ref qh), (1, .ref h)]) C dX1_meltDown_3 rfl rfl rfl ?_
  have loop_4 : ∀ (fu : Nat) (i1 : Nat) (c1 : Nat) (n1 : Nat → Int32), (i1 ≤ n) → (c1 ≤ i1) → (c1 = cb (mlP (am n r f gg)) i1) → (MNx (mlP (am n r f gg)) i1 n1) → n - i1 < fu → WW X 5 E 4 [(3, .int (nI i1)), (2, .int (nI c1)), (0, .ref qh), (1, .ref h)] [] [(qh, .inr (1, [.ref h, .null, .int (nI n), .ref ha, .ref hb, .ref hc])), (ha, .inl (E.2.1 1, 48, .inl fl)), (hb, .inl (E.2.1 1, 48, .inl n1)), (h, .inr (4, [.int (nI n), .int (nI r), .ref a, .ref b])), (a, .inl (E.2.1 1, 24, .inl f)), (b, .inl (E.2.1 1, 96, .inl gg))] 0 0 := by
    intro fu
    induction fu with
    | zero => intro i1 c1 n1 hi1 hc1 hcc hmn hmeas; exact absurd hmeas (Nat.not_lt_zero _)
    | succ fu ih_4 =>
      intro i1 c1 n1 hi1 hc1 hcc hmn hmeas
      refine ww_iload_n C dX1_meltDown_4 0 rfl rfl ?_
      refine ww_aload_n C dX1_meltDown_5 3 rfl rfl ?_
      refine ww_get C fg_X1_29 3 rfl rfl dX1_meltDown_6 ?_
      refine ww_icmp_ge (tgt := 38) C dX1_meltDown_9 (by decide) (fun c_1 => ?_) (fun c_1 => ?_)
      · have zc_1 : ((i1 : Nat) : Int) ≥ ((n : Nat) : Int) := i_le (nI_toInt (n := n) (by omega)) (nI_toInt (n := i1) (by omega)) c_1
        refine ww_iconst (v := 0) C dX1_meltDown_38 rfl ?_
        refine ww_istore_n (lv' := [(3, .int 0), (2, .int (nI c1)), (0, .ref qh), (1, .ref h)]) C dX1_meltDown_39 rfl rfl rfl ?_
        have hi1n : i1 = n := by omega
        rw [hi1n] at hmn hcc
        have loop_40 : ∀ (fu : Nat) (i2 : Nat) (f3 : Nat → Int32) (g3 : Nat → Int32), (i2 ≤ n) → (CUf n i2 (mlP (am n r f gg)) f f3) → (CUG n i2 0 (mlP (am n r f gg)) (MLw (am n r f gg) gg) gg g3) → n - i2 < fu → WW X 5 E 40 [(3, .int (nI i2)), (2, .int (nI c1)), (0, .ref qh), (1, .ref h)] [] [(qh, .inr (1, [.ref h, .null, .int (nI n), .ref ha, .ref hb, .ref hc])), (ha, .inl (E.2.1 1, 48, .inl fl)), (hb, .inl (E.2.1 1, 48, .inl n1)), (h, .inr (4, [.int (nI n), .int (nI r), .ref a, .ref b])), (a, .inl (E.2.1 1, 24, .inl f3)), (b, .inl (E.2.1 1, 96, .inl g3))] 0 0 := by
          intro fu
          induction fu with
          | zero => intro i2 f3 g3 hi2 hcuf hcug hmeas; exact absurd hmeas (Nat.not_lt_zero _)
          | succ fu ih_40 =>
            intro i2 f3 g3 hi2 hcuf hcug hmeas
            refine ww_iload_n C dX1_meltDown_40 0 rfl rfl ?_
            refine ww_aload_n C dX1_meltDown_41 3 rfl rfl ?_
            refine ww_get C fg_X1_29 3 rfl rfl dX1_meltDown_42 ?_
            refine ww_icmp_ge (tgt := 124) C dX1_meltDown_45 (by decide) (fun c_2 => ?_) (fun c_2 => ?_)
            · have zc_2 : ((i2 : Nat) : Int) ≥ ((n : Nat) : Int) := i_le (nI_toInt (n := n) (by omega)) (nI_toInt (n := i2) (by omega)) c_2
              refine ww_aload_n C dX1_meltDown_124 3 rfl rfl ?_
              refine ww_aload_n C dX1_meltDown_125 2 rfl rfl ?_
              refine ww_get C fg_X1_15 0 rfl rfl dX1_meltDown_126 ?_
              refine ww_aload_n C dX1_meltDown_129 2 rfl rfl ?_
              refine ww_get C fg_X1_9 0 rfl rfl dX1_meltDown_130 ?_
              have hlr : clsS (cm1 (am n r f gg)) r < n := by have h9 := ml_le (m := am n r f gg) r; omega
              have hlr2 := cb_lt hlr (ml_cls (m := am n r f gg) r)
              refine ww_aload_n C dX1_meltDown_133 3 rfl rfl ?_
              refine ww_get C fg_X1_75 3 rfl rfl dX1_meltDown_134 ?_
              refine ww_iald (v := (nI (clsS (cm1 (am n r f gg)) r))) C 1 rfl (vp_in_nI (by omega) (by omega)) (ldn (by omega) (hrk r (by omega))) dX1_meltDown_137 ?_
              refine ww_iald (v := (nI (cb (mlP (am n r f gg)) (clsS (cm1 (am n r f gg)) r)))) C 2 rfl (vp_in_nI (by omega) (by omega)) (ldn (by omega) (hmn _ hlr (ml_cls r))) dX1_meltDown_138 ?_
              refine ww_put (ws' := [(qh, .inr (1, [.ref h, .null, .int (nI n), .ref ha, .ref hb, .ref hc])), (ha, .inl (E.2.1 1, 48, .inl fl)), (hb, .inl (E.2.1 1, 48, .inl n1)), (h, .inr (4, [.int (nI n), .int (nI (cb (mlP (am n r f gg)) (clsS (cm1 (am n r f gg)) r))), .ref a, .ref b])), (a, .inl (E.2.1 1, 24, .inl f3)), (b, .inl (E.2.1 1, 96, .inl g3))]) C fp_X1_75 3 rfl rfl rfl rfl rfl dX1_meltDown_139 ?_
              refine ww_aload_n C dX1_meltDown_142 3 rfl rfl ?_
              refine ww_iload_n C dX1_meltDown_143 1 rfl rfl ?_
              refine ww_put (ws' := [(qh, .inr (1, [.ref h, .null, .int (nI n), .ref ha, .ref hb, .ref hc])), (ha, .inl (E.2.1 1, 48, .inl fl)), (hb, .inl (E.2.1 1, 48, .inl n1)), (h, .inr (4, [.int (nI c1), .int (nI (cb (mlP (am n r f gg)) (clsS (cm1 (am n r f gg)) r))), .ref a, .ref b])), (a, .inl (E.2.1 1, 24, .inl f3)), (b, .inl (E.2.1 1, 96, .inl g3))]) C fp_X1_29 3 rfl rfl rfl rfl rfl dX1_meltDown_144 ?_
              exact ww_vret (u := [(qh, .inr (1, [.ref h, .null, .int (nI n), .ref ha, .ref hb, .ref hc])), (ha, .inl (E.2.1 1, 48, .inl fl)), (hb, .inl (E.2.1 1, 48, .inl n1)), (h, .inr (4, [.int (nI c1), .int (nI (cb (mlP (am n r f gg)) (clsS (cm1 (am n r f gg)) r))), .ref a, .ref b])), (a, .inl (E.2.1 1, 24, .inl f3)), (b, .inl (E.2.1 1, 96, .inl g3))]) C hT [0, 1, 2, 3, 4, 5] rfl rfl rfl rfl dX1_meltDown_147 (⟨c1, (cb (mlP (am n r f gg)) (clsS (cm1 (am n r f gg)) r)), n1, f3, g3, rfl, (by omega), (by rw [hcc]; exact hlr2), (am_melt hn hwf hcuf hcug (by omega) hcc rfl)⟩)
            · have zc_2 : ((i2 : Nat) : Int) < ((n : Nat) : Int) := i_nle (nI_toInt (n := n) (by omega)) (nI_toInt (n := i2) (by omega)) c_2
              refine ww_aload_n C dX1_meltDown_48 2 rfl rfl ?_
              refine ww_get C fg_X1_9 0 rfl rfl dX1_meltDown_49 ?_
              refine ww_iload_n C dX1_meltDown_52 0 rfl rfl ?_
              obtain ⟨x_5, ex_5⟩ : ∃ z : Int32, fl i2 = z := ⟨_, rfl⟩
              refine ww_iald (v := x_5) C 1 rfl (vp_in_nI (by omega) (by omega)) (ldn (by omega) ex_5) dX1_meltDown_53 ?_
              refine ww_iload_n C dX1_meltDown_54 0 rfl rfl ?_
              refine ww_icmp_ne (tgt := 118) C dX1_meltDown_55 (by decide) (fun c_6 => ?_) (fun c_6 => ?_)
              · have zc_6 : x_5.toInt ≠ ((i2 : Nat) : Int) := i_ne rfl (nI_toInt (n := i2) (by omega)) c_6
                have hP59 := mlP_0 (by omega) hrk (show i2 < n by omega) ex_5 zc_6
                refine ww_iinc (j := 0) (v := (nI (i2 + 1))) (lv' := [(3, .int (nI (i2 + 1))), (2, .int (nI c1)), (0, .ref qh), (1, .ref h)]) C dX1_meltDown_118 rfl (nI_add i2 1) rfl rfl ?_
                refine ww_goto (tgt := 40) C dX1_meltDown_121 (by decide) ?_
                exact ww_lv [0, 1, 2, 3] rfl (ww_sub [0, 1, 2, 3, 4, 5] rfl rfl (ih_40 (i2 + 1) f3 g3 (by omega) (CUf.f hcuf hP59) (CUG.f hcug hP59) (by omega)))
              · have zc_6 : x_5.toInt = ((i2 : Nat) : Int) := i_eq rfl (nI_toInt (n := i2) (by omega)) c_6
                have hP58 := mlP_1 (by omega) hrk (show i2 < n by omega) ex_5 zc_6
                have hcl58 := cb_lt (show i2 < n by omega) hP58
                refine ww_aload_n C dX1_meltDown_58 3 rfl rfl ?_
                refine ww_get C fg_X1_40 3 rfl rfl dX1_meltDown_59 ?_
                refine ww_aload_n C dX1_meltDown_62 2 rfl rfl ?_
                refine ww_get C fg_X1_15 0 rfl rfl dX1_meltDown_63 ?_
                refine ww_iload_n C dX1_meltDown_66 0 rfl rfl ?_
                refine ww_iald (v := (nI (cb (mlP (am n r f gg)) i2))) C 2 rfl (vp_in_nI (by omega) (by omega)) (ldn (by omega) (hmn i2 (by omega) hP58)) dX1_meltDown_67 ?_
                refine ww_aload_n C dX1_meltDown_68 3 rfl rfl ?_
                refine ww_get C fg_X1_40 3 rfl rfl dX1_meltDown_69 ?_
                refine ww_iload_n C dX1_meltDown_72 0 rfl rfl ?_
                obtain ⟨x_8, ex_8⟩ : ∃ z : Int32, f3 i2 = z := ⟨_, rfl⟩
                refine ww_iald (v := x_8) C 4 rfl (vp_in_nI (by omega) (by omega)) (ldn (by omega) ex_8) dX1_meltDown_73 ?_
                obtain ⟨f_9, ef_9⟩ : ∃ z : Nat → Int32, upd f3 (cb (mlP (am n r f gg)) i2) x_8 = z := ⟨_, rfl⟩
                refine ww_iast (ws' := [(qh, .inr (1, [.ref h, .null, .int (nI n), .ref ha, .ref hb, .ref hc])), (ha, .inl (E.2.1 1, 48, .inl fl)), (hb, .inl (E.2.1 1, 48, .inl n1)), (h, .inr (4, [.int (nI n), .int (nI r), .ref a, .ref b])), (a, .inl (E.2.1 1, 24, .inl f_9)), (b, .inl (E.2.1 1, 96, .inl g3))]) C 4 rfl (vp_in_nI (by omega) (by omega)) (ldn2 (by omega) ef_9) rfl dX1_meltDown_74 ?_
                refine ww_iconst (v := 0) C dX1_meltDown_75 rfl ?_
                refine ww_istore (lv' := [(4, .int 0), (3, .int (nI i2)), (2, .int (nI c1)), (0, .ref qh), (1, .ref h)]) C dX1_meltDown_76 rfl rfl ?_
                have loop_78 : ∀ (fu : Nat) (k1 : Nat) (g4 : Nat → Int32), (k1 ≤ 4) → (CUG n i2 k1 (mlP (am n r f gg)) (MLw (am n r f gg) gg) gg g4) → 4 - k1 < fu → WW X 5 E 78 [(4, .int (nI k1)), (3, .int (nI i2)), (2, .int (nI c1)), (0, .ref qh), (1, .ref h)] [] [(qh, .inr (1, [.ref h, .null, .int (nI n), .ref ha, .ref hb, .ref hc])), (ha, .inl (E.2.1 1, 48, .inl fl)), (hb, .inl (E.2.1 1, 48, .inl n1)), (h, .inr (4, [.int (nI n), .int (nI r), .ref a, .ref b])), (a, .inl (E.2.1 1, 24, .inl f_9)), (b, .inl (E.2.1 1, 96, .inl g4))] 0 0 := by
                  intro fu
                  induction fu with
                  | zero => intro k1 g4 hk1 hcug2 hmeas; exact absurd hmeas (Nat.not_lt_zero _)
                  | succ fu ih_78 =>
                    intro k1 g4 hk1 hcug2 hmeas
                    refine ww_iload C dX1_meltDown_78 0 rfl ?_
                    refine ww_iconst (v := 4) C dX1_meltDown_80 rfl ?_
                    refine ww_icmp_ge (tgt := 118) C dX1_meltDown_81 (by decide) (fun c_10 => ?_) (fun c_10 => ?_)
                    · have zc_10 : ((k1 : Nat) : Int) ≥ 4 := i_le rfl (nI_toInt (n := k1) (by omega)) c_10
                      refine ww_iinc (j := 1) (v := (nI (i2 + 1))) (lv' := [(3, .int (nI (i2 + 1))), (4, .int (nI k1)), (2, .int (nI c1)), (0, .ref qh), (1, .ref h)]) C dX1_meltDown_118 rfl (nI_add i2 1) rfl rfl ?_
                      refine ww_goto (tgt := 40) C dX1_meltDown_121 (by decide) ?_
                      exact ww_lv [0, 2, 3, 4] rfl (ww_sub [0, 1, 2, 3, 4, 5] rfl rfl (ih_40 (i2 + 1) f_9 g4 (by omega) (CUf.t hcuf hP58 rfl ex_8 ef_9) (CUG.up hcug2 (by omega)) (by omega)))
                    · have zc_10 : ((k1 : Nat) : Int) < 4 := i_nle rfl (nI_toInt (n := k1) (by omega)) c_10
                      refine ww_aload_n C dX1_meltDown_84 4 rfl rfl ?_
                      refine ww_get C fg_X1_69 3 rfl rfl dX1_meltDown_85 ?_
                      refine ww_iload C dX1_meltDown_88 0 rfl ?_
                      refine ww_bipush (v := 24) C dX1_meltDown_90 rfl ?_
                      refine ww_imul (v := (nI (k1 * 24))) C dX1_meltDown_92 (pk_mul k1 24) ?_
                      refine ww_aload_n C dX1_meltDown_93 3 rfl rfl ?_
                      refine ww_get C fg_X1_15 0 rfl rfl dX1_meltDown_94 ?_
                      refine ww_iload_n C dX1_meltDown_97 1 rfl rfl ?_
                      refine ww_iald (v := (nI (cb (mlP (am n r f gg)) i2))) C 2 rfl (vp_in_nI (by omega) (by omega)) (ldn (by omega) (hmn i2 (by omega) hP58)) dX1_meltDown_98 ?_
                      refine ww_iadd (v := (nI ((k1 * 24) + (cb (mlP (am n r f gg)) i2)))) C dX1_meltDown_99 (nI_add (k1 * 24) (cb (mlP (am n r f gg)) i2)) ?_
                      refine ww_aload_n C dX1_meltDown_100 3 rfl rfl ?_
                      refine ww_aload_n C dX1_meltDown_101 4 rfl rfl ?_
                      refine ww_iload C dX1_meltDown_102 0 rfl ?_
                      refine ww_iload_n C dX1_meltDown_104 1 rfl rfl ?_
                      refine ww_ci (wr := [(qh, .inr (1, [.ref h, .null, .int (nI n), .ref ha, .ref hb, .ref hc])), (ha, .inl (E.2.1 1, 48, .inl fl)), (hb, .inl (E.2.1 1, 48, .inl n1))]) (k' := 0) (n' := 0) C (run_V (As := [.int (nI k1), .int (nI i2)]) (rest := [.ref qh, .int (nI ((k1 * 24) + (cb (mlP (am n r f gg)) i2))), .ref b]) C (m_held X.2.1 E ro h k1 i2 n r a b f_9 g4 (by omega) (by omega)) mi_X4_held wl_X1_43 rfl 0 4 rfl rfl rfl rfl rfl dX1_meltDown_105) (roK hro) [3, 4, 5] [0, 1, 2] rfl rfl rfl rfl (fun r_12 uz hw => ?_)
                      refine an1 hw ?_
                      clear hw
                      intro he_13 hw
                      have he_14 := hw
                      clear hw
                      have he_13 := he_13.symm
                      subst he_13
                      subst he_14
                      refine ww_eq (ws' := [(qh, .inr (1, [.ref h, .null, .int (nI n), .ref ha, .ref hb, .ref hc])), (ha, .inl (E.2.1 1, 48, .inl fl)), (hb, .inl (E.2.1 1, 48, .inl n1)), (h, .inr (4, [.int (nI n), .int (nI r), .ref a, .ref b])), (a, .inl (E.2.1 1, 24, .inl f_9)), (b, .inl (E.2.1 1, 96, .inl g4))]) ?_ rfl rfl rfl
                      refine ww_ci (wr := [(h, .inr (4, [.int (nI n), .int (nI r), .ref a, .ref b])), (a, .inl (E.2.1 1, 24, .inl f_9)), (b, .inl (E.2.1 1, 96, .inl g4))]) (k' := 0) (n' := 0) C (run_V (As := [.int (g4 (k1 * 24 + i2))]) (rest := [.int (nI ((k1 * 24) + (cb (mlP (am n r f gg)) i2))), .ref b]) C (h_classesOf X.2.1 E ro qh (g4 (k1 * 24 + i2)) h n ha hb hc fl n1 (clsS (cm1 (am n r f gg))) (fun v => cb (mlP (am n r f gg)) (clsS (cm1 (am n r f gg)) v)) (fun v h1 h2 => by have h9 := CUG.at hcug2 (show i2 < n by omega) (show k1 < 4 by omega); have h8 : v < n := hwf k1 i2 v (by rw [am_S (by omega) (by omega), ← h9]; exact h2); have h7 := ml_le (m := am n r f gg) v; have h6 := cb_lt (show clsS (cm1 (am n r f gg)) v < n by omega) (ml_cls (m := am n r f gg) v); have h5 := cb_le (mlP (am n r f gg)) n; exact ⟨hrk v h8, by omega, hmn _ (by omega) (ml_cls v), by omega⟩)) mi_X1_classesOf wl_X1_72 rfl 0 1 rfl rfl rfl rfl rfl dX1_meltDown_108) (roK hro) [0, 1, 2] [3, 4, 5] rfl rfl rfl rfl (fun r_15 uz hw => ?_)
                      refine an1 hw ?_
                      clear hw
                      intro he_17 hw
                      have h_16 := hw
                      clear hw
                      subst he_17
                      refine ww_eq (ws' := [(h, .inr (4, [.int (nI n), .int (nI r), .ref a, .ref b])), (a, .inl (E.2.1 1, 24, .inl f_9)), (b, .inl (E.2.1 1, 96, .inl g4)), (qh, .inr (1, [.ref h, .null, .int (nI n), .ref ha, .ref hb, .ref hc])), (ha, .inl (E.2.1 1, 48, .inl fl)), (hb, .inl (E.2.1 1, 48, .inl n1))]) ?_ rfl rfl rfl
                      obtain ⟨f_18, ef_18⟩ : ∃ z : Nat → Int32, upd g4 ((k1 * 24) + (cb (mlP (am n r f gg)) i2)) r_15 = z := ⟨_, rfl⟩
                      refine ww_iast (ws' := [(h, .inr (4, [.int (nI n), .int (nI r), .ref a, .ref b])), (a, .inl (E.2.1 1, 24, .inl f_9)), (b, .inl (E.2.1 1, 96, .inl f_18)), (qh, .inr (1, [.ref h, .null, .int (nI n), .ref ha, .ref hb, .ref hc])), (ha, .inl (E.2.1 1, 48, .inl fl)), (hb, .inl (E.2.1 1, 48, .inl n1))]) C 2 rfl (vp_in_nI (by omega) (by omega)) (ldn2 (by omega) ef_18) rfl dX1_meltDown_111 ?_
                      refine ww_iinc (j := 0) (v := (nI (k1 + 1))) (lv' := [(4, .int (nI (k1 + 1))), (3, .int (nI i2)), (2, .int (nI c1)), (0, .ref qh), (1, .ref h)]) C dX1_meltDown_112 rfl (nI_add k1 1) rfl rfl ?_
                      refine ww_goto (tgt := 78) C dX1_meltDown_115 (by decide) ?_
                      exact ww_lv [0, 1, 2, 3, 4] rfl (ww_sub [3, 4, 5, 0, 1, 2] rfl rfl (ih_78 (k1 + 1) f_18 (by omega) (CUG.t hcug2 (by omega) (by omega) (by omega) hP58 rfl (by have h9 := CUG.at hcug2 (show i2 < n by omega) (show k1 < 4 by omega); have h8 := h_16; rw [h9] at h8; exact h8) ef_18) (by omega)))
                exact ww_lv [0, 1, 2, 3, 4] rfl (ww_sub [0, 1, 2, 3, 4, 5] rfl rfl (loop_78 _ 0 g3 (by omega) hcug (Nat.lt_succ_self _)))
        exact ww_lv [0, 1, 2, 3] rfl (ww_sub [0, 1, 2, 3, 4, 5] rfl rfl (loop_40 _ 0 f gg (by omega) CUf.nil CUG.nil (Nat.lt_succ_self _)))
      · have zc_1 : ((i1 : Nat) : Int) < ((n : Nat) : Int) := i_nle (nI_toInt (n := n) (by omega)) (nI_toInt (n := i1) (by omega)) c_1
        refine ww_aload_n C dX1_meltDown_12 2 rfl rfl ?_
        refine ww_get C fg_X1_9 0 rfl rfl dX1_meltDown_13 ?_
        refine ww_iload_n C dX1_meltDown_16 0 rfl rfl ?_
        obtain ⟨x_19, ex_19⟩ : ∃ z : Int32, fl i1 = z := ⟨_, rfl⟩
        refine ww_iald (v := x_19) C 1 rfl (vp_in_nI (by omega) (by omega)) (ldn (by omega) ex_19) dX1_meltDown_17 ?_
        refine ww_iload_n C dX1_meltDown_18 0 rfl rfl ?_
        refine ww_icmp_ne (tgt := 32) C dX1_meltDown_19 (by decide) (fun c_20 => ?_) (fun c_20 => ?_)
        · have zc_20 : x_19.toInt ≠ ((i1 : Nat) : Int) := i_ne rfl (nI_toInt (n := i1) (by omega)) c_20
          refine ww_iinc (j := 0) (v := (nI (i1 + 1))) (lv' := [(3, .int (nI (i1 + 1))), (2, .int (nI c1)), (0, .ref qh), (1, .ref h)]) C dX1_meltDown_32 rfl (nI_add i1 1) rfl rfl ?_
          refine ww_goto (tgt := 4) C dX1_meltDown_35 (by decide) ?_
          exact ww_lv [0, 1, 2, 3] rfl (ww_sub [0, 1, 2, 3, 4, 5] rfl rfl (ih_4 (i1 + 1) c1 n1 (by omega) (by omega) (by rw [cb_f (mlP_0 (by omega) hrk (by omega) ex_19 zc_20)]; omega) (MNx.f hmn (mlP_0 (by omega) hrk (by omega) ex_19 zc_20)) (by omega)))
        · have zc_20 : x_19.toInt = ((i1 : Nat) : Int) := i_eq rfl (nI_toInt (n := i1) (by omega)) c_20
          refine ww_aload_n C dX1_meltDown_22 2 rfl rfl ?_
          refine ww_get C fg_X1_15 0 rfl rfl dX1_meltDown_23 ?_
          refine ww_iload_n C dX1_meltDown_26 0 rfl rfl ?_
          refine ww_iload_n C dX1_meltDown_27 1 rfl rfl ?_
          obtain ⟨f_21, ef_21⟩ : ∃ z : Nat → Int32, upd n1 i1 (nI c1) = z := ⟨_, rfl⟩
          refine ww_iast (ws' := [(qh, .inr (1, [.ref h, .null, .int (nI n), .ref ha, .ref hb, .ref hc])), (ha, .inl (E.2.1 1, 48, .inl fl)), (hb, .inl (E.2.1 1, 48, .inl f_21)), (h, .inr (4, [.int (nI n), .int (nI r), .ref a, .ref b])), (a, .inl (E.2.1 1, 24, .inl f)), (b, .inl (E.2.1 1, 96, .inl gg))]) C 2 rfl (vp_in_nI (by omega) (by omega)) (ldn2 (by omega) ef_21) rfl dX1_meltDown_28 ?_
          refine ww_iinc (j := 1) (v := (nI (c1 + 1))) (lv' := [(2, .int (nI (c1 + 1))), (3, .int (nI i1)), (0, .ref qh), (1, .ref h)]) C dX1_meltDown_29 rfl (nI_add c1 1) rfl rfl ?_
          refine ww_iinc (j := 1) (v := (nI (i1 + 1))) (lv' := [(3, .int (nI (i1 + 1))), (2, .int (nI (c1 + 1))), (0, .ref qh), (1, .ref h)]) C dX1_meltDown_32 rfl (nI_add i1 1) rfl rfl ?_
          refine ww_goto (tgt := 4) C dX1_meltDown_35 (by decide) ?_
          exact ww_lv [0, 1, 2, 3] rfl (ww_sub [0, 1, 2, 3, 4, 5] rfl rfl (ih_4 (i1 + 1) (c1 + 1) f_21 (by omega) (by omega) (by rw [cb_t (mlP_1 (by omega) hrk (by omega) ex_19 zc_20)]; omega) (MNx.t hmn hcc ef_21) (by omega)))
  exact ww_lv [0, 1, 2, 3] rfl (ww_sub [0, 1, 2, 3, 4, 5] rfl rfl (loop_4 _ 0 0 fn (by omega) (by omega) rfl MNx.nil (Nat.lt_succ_self _)))
