theorem dX4_contains_0 : decode cX4_contains 0 = .ok (.iload_n 1, 1) := by decide +kernel
theorem dX4_contains_1 : decode cX4_contains 1 = .ok (.ifCond .lt 15, 3) := by decide +kernel
theorem dX4_contains_16 : decode cX4_contains 16 = .ok (.iconst 0, 1) := by decide +kernel
theorem dX4_contains_17 : decode cX4_contains 17 = .ok (.ireturn, 1) := by decide +kernel
theorem dX4_contains_4 : decode cX4_contains 4 = .ok (.iload_n 1, 1) := by decide +kernel
theorem dX4_contains_5 : decode cX4_contains 5 = .ok (.aload_n 0, 1) := by decide +kernel
theorem dX4_contains_6 : decode cX4_contains 6 = .ok (.getfield 18, 3) := by decide +kernel
theorem uw_X4 : ∀ w ∈ u_ws RX4 TX4 4, w ∈ TB := uw_of [52, 54, 56, 58] (by decide +kernel) (by decide +kernel)
theorem wf_X4_18 : Cond.fieldLink RX4 18 RX4 "size" "I" ∈ TB := tbm (tq1 (List.mem_of_getElem? (i := 36) (by decide +kernel))) (by decide +kernel)
theorem fg_X4_18 : FG RX4 18 4 0 := ⟨RX4, TX4, 4, uw_X4, wf_X4_18, rfl, by decide, rfl⟩
theorem dX4_contains_9 : decode cX4_contains 9 = .ok (.if_icmp .ge 7, 3) := by decide +kernel
theorem dX4_contains_12 : decode cX4_contains 12 = .ok (.iconst 1, 1) := by decide +kernel
theorem dX4_contains_13 : decode cX4_contains 13 = .ok (.goto 4, 3) := by decide +kernel
set_option maxRecDepth 100000 in
set_option maxHeartbeats 4000000 in
theorem m_contains (l : Launch) (E : EV) (ro : va_W) (h : Nat) (w : Int32) (n : Nat) (r : Nat) (a : Nat) (b : Nat) (hn : n ≤ 24) : CT l yX4_contains (Cond.code yX4_contains cX4_contains 2 (some .boolean) :: TB) ({ frames := 0, cells := 0, slots := 0, locals := 0 }) E ro [.ref h, .int w] [(h, .inr (4, [.int (nI n), .int (nI r), .ref a, .ref b]))] (Qi E (fun (rz : Int32) uz => (rz = 1 ∧ uz = [(h, .inr (4, [.int (nI n), .int (nI r), .ref a, .ref b]))] ∧ (0 ≤ w.toInt) ∧ (w.toInt < n)) ∨ (rz = 0 ∧ uz = [(h, .inr (4, [.int (nI n), .int (nI r), .ref a, .ref b]))] ∧ (w.toInt < 0 ∨ (n : Int) ≤ w.toInt)))) 0 0 := by
  refine ct_of rfl rfl ?_
  intro X C hT hin hro
  show WW X 2 E 0 [(0, .ref h), (1, .int w)] [] [(h, .inr (4, [.int (nI n), .int (nI r), .ref a, .ref b]))] 0 0
  refine ww_iload_n C dX4_contains_0 1 rfl rfl ?_
  refine ww_if_lt (tgt := 16) C dX4_contains_1 (by decide) (fun c_1 => ?_) (fun c_1 => ?_)
  · have zc_1 : w.toInt < 0 := i_lt rfl rfl c_1
    refine ww_iconst (v := 0) C dX4_contains_16 rfl ?_
    exact ww_zret (u := [(h, .inr (4, [.int (nI n), .int (nI r), .ref a, .ref b]))]) C hT [0] rfl rfl rfl rfl rfl dX4_contains_17 (Or.inr ⟨rfl, rfl, (by first | assumption | omega | decide)⟩)
  · have zc_1 : w.toInt ≥ 0 := i_nlt rfl rfl c_1
    refine ww_iload_n C dX4_contains_4 1 rfl rfl ?_
    refine ww_aload_n C dX4_contains_5 0 rfl rfl ?_
    refine ww_get C fg_X4_18 0 rfl rfl dX4_contains_6 ?_
    refine ww_icmp_ge (tgt := 16) C dX4_contains_9 (by decide) (fun c_2 => ?_) (fun c_2 => ?_)
    · have zc_2 : w.toInt ≥ ((n : Nat) : Int) := i_le (nI_toInt (n := n) (by omega)) rfl c_2
      refine ww_iconst (v := 0) C dX4_contains_16 rfl ?_
      exact ww_zret (u := [(h, .inr (4, [.int (nI n), .int (nI r), .ref a, .ref b]))]) C hT [0] rfl rfl rfl rfl rfl dX4_contains_17 (Or.inr ⟨rfl, rfl, (by first | assumption | omega | decide)⟩)
    · have zc_2 : w.toInt < ((n : Nat) : Int) := i_nle (nI_toInt (n := n) (by omega)) rfl c_2
      refine ww_iconst (v := 1) C dX4_contains_12 rfl ?_
      refine ww_goto (tgt := 17) C dX4_contains_13 (by decide) ?_
      exact ww_zret (u := [(h, .inr (4, [.int (nI n), .int (nI r), .ref a, .ref b]))]) C hT [0] rfl rfl rfl rfl rfl dX4_contains_17 (Or.inl ⟨rfl, rfl, (by first | assumption | omega | decide), (by first | assumption | omega | decide)⟩)
theorem dX4_all_0 : decode cX4_all 0 = .ok (.iconst 1, 1) := by decide +kernel
theorem dX4_all_1 : decode cX4_all 1 = .ok (.aload_n 0, 1) := by decide +kernel
theorem dX4_all_2 : decode cX4_all 2 = .ok (.getfield 18, 3) := by decide +kernel
theorem dX4_all_5 : decode cX4_all 5 = .ok (.ishl, 1) := by decide +kernel
theorem dX4_all_6 : decode cX4_all 6 = .ok (.iconst 1, 1) := by decide +kernel
theorem dX4_all_7 : decode cX4_all 7 = .ok (.isub, 1) := by decide +kernel
theorem dX4_all_8 : decode cX4_all 8 = .ok (.ireturn, 1) := by decide +kernel
set_option maxRecDepth 100000 in
set_option maxHeartbeats 4000000 in
theorem m_all (l : Launch) (E : EV) (ro : va_W) (h : Nat) (n : Nat) (r : Nat) (a : Nat) (b : Nat) (hn : n ≤ 24) : CT l yX4_all (Cond.code yX4_all cX4_all 1 (some .int) :: TB) ({ frames := 0, cells := 0, slots := 0, locals := 0 }) E ro [.ref h] [(h, .inr (4, [.int (nI n), .int (nI r), .ref a, .ref b]))] (Qi E (fun (rz : Int32) uz => (uz = [(h, .inr (4, [.int (nI n), .int (nI r), .ref a, .ref b]))] ∧ (∀ i, i < 32 → bt rz i = decide (i < n))))) 0 0 := by
  refine ct_of rfl rfl ?_
  intro X C hT hin hro
  show WW X 1 E 0 [(0, .ref h)] [] [(h, .inr (4, [.int (nI n), .int (nI r), .ref a, .ref b]))] 0 0
  refine ww_iconst (v := 1) C dX4_all_0 rfl ?_
  refine ww_aload_n C dX4_all_1 0 rfl rfl ?_
  refine ww_get C fg_X4_18 0 rfl rfl dX4_all_2 ?_
  obtain ⟨x_1, ex_1⟩ : ∃ z : Int32, (1 : Int32) <<< ((nI n) &&& 31) = z := ⟨_, rfl⟩
  refine ww_ishl (v := x_1) C dX4_all_5 ex_1 ?_
  refine ww_iconst (v := 1) C dX4_all_6 rfl ?_
  obtain ⟨x_2, ex_2⟩ : ∃ z : Int32, x_1 - (1 : Int32) = z := ⟨_, rfl⟩
  refine ww_isub (v := x_2) C dX4_all_7 ex_2 ?_
  exact ww_iret (u := [(h, .inr (4, [.int (nI n), .int (nI r), .ref a, .ref b]))]) C hT [0] rfl rfl rfl rfl dX4_all_8 (⟨rfl, (all_b hn (by assumption) (by assumption))⟩)
theorem dX4_held_0 : decode cX4_held 0 = .ok (.aload_n 0, 1) := by decide +kernel
theorem dX4_held_1 : decode cX4_held 1 = .ok (.getfield 15, 3) := by decide +kernel
theorem wf_X4_15 : Cond.fieldLink RX4 15 RX4 "possible" "[I" ∈ TB := tbm (tq1 (List.mem_of_getElem? (i := 49) (by decide +kernel))) (by decide +kernel)
theorem fg_X4_15 : FG RX4 15 4 3 := ⟨RX4, TX4, 4, uw_X4, wf_X4_15, rfl, by decide, rfl⟩
theorem dX4_held_4 : decode cX4_held 4 = .ok (.iload_n 1, 1) := by decide +kernel
theorem dX4_held_5 : decode cX4_held 5 = .ok (.bipush 24, 2) := by decide +kernel
theorem dX4_held_7 : decode cX4_held 7 = .ok (.imul, 1) := by decide +kernel
theorem dX4_held_8 : decode cX4_held 8 = .ok (.iload_n 2, 1) := by decide +kernel
theorem dX4_held_9 : decode cX4_held 9 = .ok (.iadd, 1) := by decide +kernel
theorem dX4_held_10 : decode cX4_held 10 = .ok (.iaload, 1) := by decide +kernel
theorem dX4_held_11 : decode cX4_held 11 = .ok (.ireturn, 1) := by decide +kernel
set_option maxRecDepth 100000 in
set_option maxHeartbeats 4000000 in
theorem m_held (l : Launch) (E : EV) (ro : va_W) (h : Nat) (k : Nat) (w : Nat) (n : Nat) (r : Nat) (a : Nat) (b : Nat) (f : Nat → Int32) (gg : Nat → Int32) (hk : k < 4) (hw : w < 24) : CT l yX4_held (Cond.code yX4_held cX4_held 3 (some .int) :: TB) ({ frames := 0, cells := 0, slots := 0, locals := 0 }) E ro [.ref h, .int (nI k), .int (nI w)] [(h, .inr (4, [.int (nI n), .int (nI r), .ref a, .ref b])), (a, .inl (E.2.1 1, 24, .inl f)), (b, .inl (E.2.1 1, 96, .inl gg))] (Qi E (fun (rz : Int32) uz => (rz = (gg (k * 24 + w)) ∧ uz = [(h, .inr (4, [.int (nI n), .int (nI r), .ref a, .ref b])), (a, .inl (E.2.1 1, 24, .inl f)), (b, .inl (E.2.1 1, 96, .inl gg))]))) 0 0 := by
  refine ct_of rfl rfl ?_
  intro X C hT hin hro
  show WW X 3 E 0 [(0, .ref h), (1, .int (nI k)), (2, .int (nI w))] [] [(h, .inr (4, [.int (nI n), .int (nI r), .ref a, .ref b])), (a, .inl (E.2.1 1, 24, .inl f)), (b, .inl (E.2.1 1, 96, .inl gg))] 0 0
  refine ww_aload_n C dX4_held_0 0 rfl rfl ?_
  refine ww_get C fg_X4_15 0 rfl rfl dX4_held_1 ?_
  refine ww_iload_n C dX4_held_4 1 rfl rfl ?_
  refine ww_bipush (v := 24) C dX4_held_5 rfl ?_
  refine ww_imul (v := (nI (k * 24))) C dX4_held_7 (pk_mul k 24) ?_
  refine ww_iload_n C dX4_held_8 2 rfl rfl ?_
  refine ww_iadd (v := (nI ((k * 24) + w))) C dX4_held_9 (nI_add (k * 24) w) ?_
  obtain ⟨x_1, ex_1⟩ : ∃ z : Int32, gg ((k * 24) + w) = z := ⟨_, rfl⟩
  refine ww_iald (v := x_1) C 2 rfl (vp_in_nI (by omega) (by omega)) (ldn (by omega) ex_1) dX4_held_10 ?_
  exact ww_iret (u := [(h, .inr (4, [.int (nI n), .int (nI r), .ref a, .ref b])), (a, .inl (E.2.1 1, 24, .inl f)), (b, .inl (E.2.1 1, 96, .inl gg))]) C hT [0, 1, 2] rfl rfl rfl rfl dX4_held_11 (⟨(by subst_vars; rfl), rfl⟩)
theorem dX4_clear_0 : decode cX4_clear 0 = .ok (.aload_n 0, 1) := by decide +kernel
theorem dX4_clear_1 : decode cX4_clear 1 = .ok (.iconst 0, 1) := by decide +kernel
theorem dX4_clear_2 : decode cX4_clear 2 = .ok (.putfield 18, 3) := by decide +kernel
theorem fp_X4_18 : FP RX4 18 4 0 .int false := ⟨RX4, TX4, 4, tyX4, uw_X4, wf_X4_18, rfl, by decide, rfl, tyX4_ok, nmX4, rfl, by decide +kernel⟩
theorem dX4_clear_5 : decode cX4_clear 5 = .ok (.aload_n 0, 1) := by decide +kernel
theorem dX4_clear_6 : decode cX4_clear 6 = .ok (.iconst 0, 1) := by decide +kernel
theorem dX4_clear_7 : decode cX4_clear 7 = .ok (.putfield 22, 3) := by decide +kernel
theorem wf_X4_22 : Cond.fieldLink RX4 22 RX4 "realOne" "I" ∈ TB := tbm (tq1 (List.mem_of_getElem? (i := 41) (by decide +kernel))) (by decide +kernel)
theorem fp_X4_22 : FP RX4 22 4 1 .int false := ⟨RX4, TX4, 4, tyX4, uw_X4, wf_X4_22, rfl, by decide, rfl, tyX4_ok, nmX4, rfl, by decide +kernel⟩
theorem dX4_clear_10 : decode cX4_clear 10 = .ok (.return_, 1) := by decide +kernel
set_option maxRecDepth 100000 in
set_option maxHeartbeats 4000000 in
theorem m_clear (l : Launch) (E : EV) (ro : va_W) (h : Nat) (n : Nat) (r : Nat) (a : Nat) (b : Nat) (f : Nat → Int32) (gg : Nat → Int32)  : CT l yX4_clear (Cond.code yX4_clear cX4_clear 1 none :: TB) ({ frames := 0, cells := 0, slots := 0, locals := 0 }) E ro [.ref h] [(h, .inr (4, [.int (nI n), .int (nI r), .ref a, .ref b])), (a, .inl (E.2.1 1, 24, .inl f)), (b, .inl (E.2.1 1, 96, .inl gg))] (Qv E (fun uz => (uz = [(h, .inr (4, [.int 0, .int 0, .ref a, .ref b])), (a, .inl (E.2.1 1, 24, .inl f)), (b, .inl (E.2.1 1, 96, .inl gg))]))) 0 0 := by
  refine ct_of rfl rfl ?_
  intro X C hT hin hro
  show WW X 1 E 0 [(0, .ref h)] [] [(h, .inr (4, [.int (nI n), .int (nI r), .ref a, .ref b])), (a, .inl (E.2.1 1, 24, .inl f)), (b, .inl (E.2.1 1, 96, .inl gg))] 0 0
  refine ww_aload_n C dX4_clear_0 0 rfl rfl ?_
  refine ww_iconst (v := 0) C dX4_clear_1 rfl ?_
  refine ww_put (ws' := [(h, .inr (4, [.int 0, .int (nI r), .ref a, .ref b])), (a, .inl (E.2.1 1, 24, .inl f)), (b, .inl (E.2.1 1, 96, .inl gg))]) C fp_X4_18 0 rfl rfl rfl rfl rfl dX4_clear_2 ?_
  refine ww_aload_n C dX4_clear_5 0 rfl rfl ?_
  refine ww_iconst (v := 0) C dX4_clear_6 rfl ?_
  refine ww_put (ws' := [(h, .inr (4, [.int 0, .int 0, .ref a, .ref b])), (a, .inl (E.2.1 1, 24, .inl f)), (b, .inl (E.2.1 1, 96, .inl gg))]) C fp_X4_22 0 rfl rfl rfl rfl rfl dX4_clear_7 ?_
  exact ww_vret (u := [(h, .inr (4, [.int 0, .int 0, .ref a, .ref b])), (a, .inl (E.2.1 1, 24, .inl f)), (b, .inl (E.2.1 1, 96, .inl gg))]) C hT [0, 1, 2] rfl rfl rfl rfl dX4_clear_10 (rfl)
theorem dX4_add_0 : decode cX4_add 0 = .ok (.aload_n 0, 1) := by decide +kernel
theorem dX4_add_1 : decode cX4_add 1 = .ok (.getfield 9, 3) := by decide +kernel
theorem wf_X4_9 : Cond.fieldLink RX4 9 RX4 "facts" "[I" ∈ TB := tbm (tq1 (List.mem_of_getElem? (i := 45) (by decide +kernel))) (by decide +kernel)
theorem fg_X4_9 : FG RX4 9 4 2 := ⟨RX4, TX4, 4, uw_X4, wf_X4_9, rfl, by decide, rfl⟩
theorem dX4_add_4 : decode cX4_add 4 = .ok (.aload_n 0, 1) := by decide +kernel
theorem dX4_add_5 : decode cX4_add 5 = .ok (.getfield 18, 3) := by decide +kernel
theorem dX4_add_8 : decode cX4_add 8 = .ok (.iload_n 1, 1) := by decide +kernel
theorem dX4_add_9 : decode cX4_add 9 = .ok (.iastore, 1) := by decide +kernel
theorem dX4_add_10 : decode cX4_add 10 = .ok (.iconst 0, 1) := by decide +kernel
theorem dX4_add_11 : decode cX4_add 11 = .ok (.istore_n 2, 1) := by decide +kernel
theorem dX4_add_12 : decode cX4_add 12 = .ok (.iload_n 2, 1) := by decide +kernel
theorem dX4_add_13 : decode cX4_add 13 = .ok (.iconst 4, 1) := by decide +kernel
theorem dX4_add_14 : decode cX4_add 14 = .ok (.if_icmp .ge 24, 3) := by decide +kernel
theorem dX4_add_38 : decode cX4_add 38 = .ok (.aload_n 0, 1) := by decide +kernel
theorem dX4_add_39 : decode cX4_add 39 = .ok (.dup, 1) := by decide +kernel
theorem dX4_add_40 : decode cX4_add 40 = .ok (.getfield 18, 3) := by decide +kernel
theorem dX4_add_43 : decode cX4_add 43 = .ok (.iconst 1, 1) := by decide +kernel
theorem dX4_add_44 : decode cX4_add 44 = .ok (.iadd, 1) := by decide +kernel
theorem dX4_add_45 : decode cX4_add 45 = .ok (.putfield 18, 3) := by decide +kernel
theorem dX4_add_48 : decode cX4_add 48 = .ok (.aload_n 0, 1) := by decide +kernel
theorem dX4_add_49 : decode cX4_add 49 = .ok (.getfield 18, 3) := by decide +kernel
theorem dX4_add_52 : decode cX4_add 52 = .ok (.iconst 1, 1) := by decide +kernel
theorem dX4_add_53 : decode cX4_add 53 = .ok (.isub, 1) := by decide +kernel
theorem dX4_add_54 : decode cX4_add 54 = .ok (.ireturn, 1) := by decide +kernel
theorem dX4_add_17 : decode cX4_add 17 = .ok (.aload_n 0, 1) := by decide +kernel
theorem dX4_add_18 : decode cX4_add 18 = .ok (.getfield 15, 3) := by decide +kernel
theorem dX4_add_21 : decode cX4_add 21 = .ok (.iload_n 2, 1) := by decide +kernel
theorem dX4_add_22 : decode cX4_add 22 = .ok (.bipush 24, 2) := by decide +kernel
theorem dX4_add_24 : decode cX4_add 24 = .ok (.imul, 1) := by decide +kernel
theorem dX4_add_25 : decode cX4_add 25 = .ok (.aload_n 0, 1) := by decide +kernel
theorem dX4_add_26 : decode cX4_add 26 = .ok (.getfield 18, 3) := by decide +kernel
theorem dX4_add_29 : decode cX4_add 29 = .ok (.iadd, 1) := by decide +kernel
theorem dX4_add_30 : decode cX4_add 30 = .ok (.iconst 0, 1) := by decide +kernel
theorem dX4_add_31 : decode cX4_add 31 = .ok (.iastore, 1) := by decide +kernel
theorem dX4_add_32 : decode cX4_add 32 = .ok (.iinc 2 1, 3) := by decide +kernel
theorem dX4_add_35 : decode cX4_add 35 = .ok (.goto (-23), 3) := by decide +kernel
set_option maxRecDepth 100000 in
set_option maxHeartbeats 4000000 in
theorem m_add (l : Launch) (E : EV) (ro : va_W) (h : Nat) (x : Int32) (n : Nat) (r : Nat) (a : Nat) (b : Nat) (f : Nat → Int32) (gg : Nat → Int32) (hn : n < 24) : CT l yX4_add (Cond.code yX4_add cX4_add 3 (some .int) :: TB) ({ frames := 0, cells := 0, slots := 0, locals := 0 }) E ro [.ref h, .int x] [(h, .inr (4, [.int (nI n), .int (nI r), .ref a, .ref b])), (a, .inl (E.2.1 1, 24, .inl f)), (b, .inl (E.2.1 1, 96, .inl gg))] (Qi E (fun (rz : Int32) uz => (∃ (f2 : Nat → Int32) (g2 : Nat → Int32), rz = (nI n) ∧ uz = [(h, .inr (4, [.int (nI (n + 1)), .int (nI r), .ref a, .ref b])), (a, .inl (E.2.1 1, 24, .inl f2)), (b, .inl (E.2.1 1, 96, .inl g2))] ∧ (am (n + 1) r f2 g2 = aAdd (am n r f gg) x) ∧ (upd f n x = f2)))) 0 0 := by
  refine ct_of rfl rfl ?_
  intro X C hT hin hro
  show WW X 3 E 0 [(0, .ref h), (1, .int x)] [] [(h, .inr (4, [.int (nI n), .int (nI r), .ref a, .ref b])), (a, .inl (E.2.1 1, 24, .inl f)), (b, .inl (E.2.1 1, 96, .inl gg))] 0 0
  refine ww_aload_n C dX4_add_0 0 rfl rfl ?_
  refine ww_get C fg_X4_9 0 rfl rfl dX4_add_1 ?_
  refine ww_aload_n C dX4_add_4 0 rfl rfl ?_
  refine ww_get C fg_X4_18 0 rfl rfl dX4_add_5 ?_
  refine ww_iload_n C dX4_add_8 1 rfl rfl ?_
  obtain ⟨f_1, ef_1⟩ : ∃ z : Nat → Int32, upd f n x = z := ⟨_, rfl⟩
  refine ww_iast (ws' := [(h, .inr (4, [.int (nI n), .int (nI r), .ref a, .ref b])), (a, .inl (E.2.1 1, 24, .inl f_1)), (b, .inl (E.2.1 1, 96, .inl gg))]) C 1 rfl (vp_in_nI (by omega) (by omega)) (ldn2 (by omega) ef_1) rfl dX4_add_9 ?_
  refine ww_iconst (v := 0) C dX4_add_10 rfl ?_
  refine ww_istore_n (lv' := [(2, .int 0), (0, .ref h), (1, .int x)]) C dX4_add_11 rfl rfl rfl ?_
  have loop_12 : ∀ (fu : Nat) (i1 : Nat) (g1 : Nat → Int32), (i1 ≤ 4) → (RZ n i1 gg g1) → 4 - i1 < fu → WW X 3 E 12 [(2, .int (nI i1)), (0, .ref h), (1, .int x)] [] [(h, .inr (4, [.int (nI n), .int (nI r), .ref a, .ref b])), (a, .inl (E.2.1 1, 24, .inl f_1)), (b, .inl (E.2.1 1, 96, .inl g1))] 0 0 := by
    intro fu
    induction fu with
    | zero => intro i1 g1 hi1 hrz hmeas; exact absurd hmeas (Nat.not_lt_zero _)
    | succ fu ih_12 =>
      intro i1 g1 hi1 hrz hmeas
      refine ww_iload_n C dX4_add_12 0 rfl rfl ?_
      refine ww_iconst (v := 4) C dX4_add_13 rfl ?_
      refine ww_icmp_ge (tgt := 38) C dX4_add_14 (by decide) (fun c_2 => ?_) (fun c_2 => ?_)
      · have zc_2 : ((i1 : Nat) : Int) ≥ 4 := i_le rfl (nI_toInt (n := i1) (by omega)) c_2
        refine ww_aload_n C dX4_add_38 1 rfl rfl ?_
        refine ww_dup C dX4_add_39 rfl ?_
        refine ww_get C fg_X4_18 0 rfl rfl dX4_add_40 ?_
        refine ww_iconst (v := 1) C dX4_add_43 rfl ?_
        refine ww_iadd (v := (nI (n + 1))) C dX4_add_44 (nI_add n 1) ?_
        refine ww_put (ws' := [(h, .inr (4, [.int (nI (n + 1)), .int (nI r), .ref a, .ref b])), (a, .inl (E.2.1 1, 24, .inl f_1)), (b, .inl (E.2.1 1, 96, .inl g1))]) C fp_X4_18 0 rfl rfl rfl rfl rfl dX4_add_45 ?_
        refine ww_aload_n C dX4_add_48 1 rfl rfl ?_
        refine ww_get C fg_X4_18 0 rfl rfl dX4_add_49 ?_
        refine ww_iconst (v := 1) C dX4_add_52 rfl ?_
        refine ww_isub (v := (nI ((n + 1) - 1))) C dX4_add_53 (pk_sub (a := (n + 1)) (b := 1) (by omega)) ?_
        exact ww_iret (u := [(h, .inr (4, [.int (nI (n + 1)), .int (nI r), .ref a, .ref b])), (a, .inl (E.2.1 1, 24, .inl f_1)), (b, .inl (E.2.1 1, 96, .inl g1))]) C hT [0, 1, 2] rfl rfl rfl rfl dX4_add_54 (⟨f_1, g1, rfl, rfl, (am_add hn ef_1 (by rw [show (4 : Nat) = i1 by omega]; exact hrz)), ef_1⟩)
      · have zc_2 : ((i1 : Nat) : Int) < 4 := i_nle rfl (nI_toInt (n := i1) (by omega)) c_2
        refine ww_aload_n C dX4_add_17 1 rfl rfl ?_
        refine ww_get C fg_X4_15 0 rfl rfl dX4_add_18 ?_
        refine ww_iload_n C dX4_add_21 0 rfl rfl ?_
        refine ww_bipush (v := 24) C dX4_add_22 rfl ?_
        refine ww_imul (v := (nI (i1 * 24))) C dX4_add_24 (pk_mul i1 24) ?_
        refine ww_aload_n C dX4_add_25 1 rfl rfl ?_
        refine ww_get C fg_X4_18 0 rfl rfl dX4_add_26 ?_
        refine ww_iadd (v := (nI ((i1 * 24) + n))) C dX4_add_29 (nI_add (i1 * 24) n) ?_
        refine ww_iconst (v := 0) C dX4_add_30 rfl ?_
        obtain ⟨f_3, ef_3⟩ : ∃ z : Nat → Int32, upd g1 ((i1 * 24) + n) 0 = z := ⟨_, rfl⟩
        refine ww_iast (ws' := [(h, .inr (4, [.int (nI n), .int (nI r), .ref a, .ref b])), (a, .inl (E.2.1 1, 24, .inl f_1)), (b, .inl (E.2.1 1, 96, .inl f_3))]) C 2 rfl (vp_in_nI (by omega) (by omega)) (ldn2 (by omega) ef_3) rfl dX4_add_31 ?_
        refine ww_iinc (j := 0) (v := (nI (i1 + 1))) (lv' := [(2, .int (nI (i1 + 1))), (0, .ref h), (1, .int x)]) C dX4_add_32 rfl (nI_add i1 1) rfl rfl ?_
        refine ww_goto (tgt := 12) C dX4_add_35 (by decide) ?_
        exact ww_lv [0, 1, 2] rfl (ww_sub [0, 1, 2] rfl rfl (ih_12 (i1 + 1) f_3 (by omega) (RZ.ext hrz (by omega) ef_3) (by omega)))
  exact ww_lv [0, 1, 2] rfl (ww_sub [0, 1, 2] rfl rfl (loop_12 _ 0 gg (by omega) RZ.nil (Nat.lt_succ_self _)))
theorem dX4_hold_0 : decode cX4_hold 0 = .ok (.aload_n 0, 1) := by decide +kernel
theorem dX4_hold_1 : decode cX4_hold 1 = .ok (.iload_n 1, 1) := by decide +kernel
theorem dX4_hold_2 : decode cX4_hold 2 = .ok (.iload_n 2, 1) := by decide +kernel
theorem dX4_hold_3 : decode cX4_hold 3 = .ok (.invokevirtual 25, 3) := by decide +kernel
theorem wl_X4_25 : Cond.methodLink RX4 25 yX4_held ∈ TB := tbm (tq2 (List.mem_of_getElem? (i := 183) (by decide +kernel))) (by decide +kernel)
theorem wc_X4_held : Cond.code yX4_held cX4_held 3 (some .int) ∈ TB := tbm (tq2 (List.mem_of_getElem? (i := 178) (rfl))) (by decide +kernel)
theorem wn_X4 : Cond.initialized RX4 ∈ TB := tbm (tq1 (List.mem_of_getElem? (i := 2) (by decide +kernel))) (by decide +kernel)
theorem wi_X4_held : Cond.instanceMethod yX4_held ∈ TB := tbm (tq2 (List.mem_of_getElem? (i := 176) (by decide +kernel))) (by decide +kernel)
theorem ws_X4_held : Cond.selects RX4 yX4_held yX4_held ∈ TB := tbm (tq2 (List.mem_of_getElem? (i := 177) (by decide +kernel))) (by decide +kernel)
theorem mi_X4_held : MI yX4_held cX4_held 3 (some .int) 2 := ⟨wc_X4_held, wn_X4, ⟨by decide +kernel, by decide +kernel, by decide +kernel⟩, wi_X4_held, ws_X4_held⟩
theorem dX4_hold_6 : decode cX4_hold 6 = .ok (.istore 5, 2) := by decide +kernel
theorem dX4_hold_8 : decode cX4_hold 8 = .ok (.aload_n 0, 1) := by decide +kernel
theorem dX4_hold_9 : decode cX4_hold 9 = .ok (.getfield 15, 3) := by decide +kernel
theorem dX4_hold_12 : decode cX4_hold 12 = .ok (.iload_n 1, 1) := by decide +kernel
theorem dX4_hold_13 : decode cX4_hold 13 = .ok (.bipush 24, 2) := by decide +kernel
theorem dX4_hold_15 : decode cX4_hold 15 = .ok (.imul, 1) := by decide +kernel
theorem dX4_hold_16 : decode cX4_hold 16 = .ok (.iload_n 2, 1) := by decide +kernel
theorem dX4_hold_17 : decode cX4_hold 17 = .ok (.iadd, 1) := by decide +kernel
theorem dX4_hold_18 : decode cX4_hold 18 = .ok (.iload 4, 2) := by decide +kernel
theorem dX4_hold_20 : decode cX4_hold 20 = .ok (.ifCond .eq 12, 3) := by decide +kernel
theorem dX4_hold_32 : decode cX4_hold 32 = .ok (.iload 5, 2) := by decide +kernel
theorem dX4_hold_34 : decode cX4_hold 34 = .ok (.iconst 1, 1) := by decide +kernel
theorem dX4_hold_35 : decode cX4_hold 35 = .ok (.iload_n 3, 1) := by decide +kernel
theorem dX4_hold_36 : decode cX4_hold 36 = .ok (.ishl, 1) := by decide +kernel
theorem dX4_hold_37 : decode cX4_hold 37 = .ok (.iconst (-1), 1) := by decide +kernel
theorem dX4_hold_38 : decode cX4_hold 38 = .ok (.ixor, 1) := by decide +kernel
theorem dX4_hold_39 : decode cX4_hold 39 = .ok (.iand, 1) := by decide +kernel
theorem dX4_hold_40 : decode cX4_hold 40 = .ok (.iastore, 1) := by decide +kernel
theorem dX4_hold_41 : decode cX4_hold 41 = .ok (.return_, 1) := by decide +kernel
theorem dX4_hold_23 : decode cX4_hold 23 = .ok (.iload 5, 2) := by decide +kernel
theorem dX4_hold_25 : decode cX4_hold 25 = .ok (.iconst 1, 1) := by decide +kernel
theorem dX4_hold_26 : decode cX4_hold 26 = .ok (.iload_n 3, 1) := by decide +kernel
theorem dX4_hold_27 : decode cX4_hold 27 = .ok (.ishl, 1) := by decide +kernel
theorem dX4_hold_28 : decode cX4_hold 28 = .ok (.ior, 1) := by decide +kernel
theorem dX4_hold_29 : decode cX4_hold 29 = .ok (.goto 11, 3) := by decide +kernel
set_option maxRecDepth 100000 in
set_option maxHeartbeats 4000000 in
theorem m_hold (l : Launch) (E : EV) (ro : va_W) (h : Nat) (k : Nat) (u : Nat) (v : Int32) (is : Int32) (n : Nat) (r : Nat) (a : Nat) (b : Nat) (f : Nat → Int32) (gg : Nat → Int32) (hk : k < 4) (hw : u < 24) : CT l yX4_hold (Cond.code yX4_hold cX4_hold 6 none :: TB) ({ frames := 1, cells := 0, slots := 0, locals := 22 }) E ro [.ref h, .int (nI k), .int (nI u), .int v, .int is] [(h, .inr (4, [.int (nI n), .int (nI r), .ref a, .ref b])), (a, .inl (E.2.1 1, 24, .inl f)), (b, .inl (E.2.1 1, 96, .inl gg))] (Qv E (fun uz => (∃ (g2 : Nat → Int32), uz = [(h, .inr (4, [.int (nI n), .int (nI r), .ref a, .ref b])), (a, .inl (E.2.1 1, 24, .inl f)), (b, .inl (E.2.1 1, 96, .inl g2))] ∧ (upd gg (k * 24 + u) (hbt (gg (k * 24 + u)) v is) = g2)))) 0 0 := by
  refine ct_of rfl rfl ?_
  intro X C hT hin hro
  show WW X 6 E 0 [(0, .ref h), (1, .int (nI k)), (2, .int (nI u)), (3, .int v), (4, .int is)] [] [(h, .inr (4, [.int (nI n), .int (nI r), .ref a, .ref b])), (a, .inl (E.2.1 1, 24, .inl f)), (b, .inl (E.2.1 1, 96, .inl gg))] 0 0
  refine ww_aload_n C dX4_hold_0 0 rfl rfl ?_
  refine ww_iload_n C dX4_hold_1 1 rfl rfl ?_
  refine ww_iload_n C dX4_hold_2 2 rfl rfl ?_
  refine ww_ci (wr := []) (k' := 0) (n' := 0) C (run_V (As := [.int (nI k), .int (nI u)]) (rest := []) C (m_held X.2.1 E ro h k u n r a b f gg (by omega) (by omega)) mi_X4_held wl_X4_25 rfl 0 4 rfl rfl rfl rfl rfl dX4_hold_3) (roK hro) [0, 1, 2] [] rfl rfl rfl rfl (fun r_1 uz hw => ?_)
  refine an1 hw ?_
  clear hw
  intro he_2 hw
  have he_3 := hw
  clear hw
  have he_2 := he_2.symm
  subst he_2
  subst he_3
  refine ww_eq (ws' := [(h, .inr (4, [.int (nI n), .int (nI r), .ref a, .ref b])), (a, .inl (E.2.1 1, 24, .inl f)), (b, .inl (E.2.1 1, 96, .inl gg))]) ?_ rfl rfl rfl
  refine ww_istore (lv' := [(5, .int (gg (k * 24 + u))), (0, .ref h), (1, .int (nI k)), (2, .int (nI u)), (3, .int v), (4, .int is)]) C dX4_hold_6 rfl rfl ?_
  refine ww_aload_n C dX4_hold_8 1 rfl rfl ?_
  refine ww_get C fg_X4_15 0 rfl rfl dX4_hold_9 ?_
  refine ww_iload_n C dX4_hold_12 2 rfl rfl ?_
  refine ww_bipush (v := 24) C dX4_hold_13 rfl ?_
  refine ww_imul (v := (nI (k * 24))) C dX4_hold_15 (pk_mul k 24) ?_
  refine ww_iload_n C dX4_hold_16 3 rfl rfl ?_
  refine ww_iadd (v := (nI ((k * 24) + u))) C dX4_hold_17 (nI_add (k * 24) u) ?_
  refine ww_iload C dX4_hold_18 5 rfl ?_
  refine ww_if_eq (tgt := 32) C dX4_hold_20 (by decide) (fun c_4 => ?_) (fun c_4 => ?_)
  · have zc_4 : is.toInt = 0 := i_eq rfl rfl c_4
    refine ww_iload C dX4_hold_32 0 rfl ?_
    refine ww_iconst (v := 1) C dX4_hold_34 rfl ?_
    refine ww_iload_n C dX4_hold_35 4 rfl rfl ?_
    obtain ⟨x_5, ex_5⟩ : ∃ z : Int32, (1 : Int32) <<< (v &&& 31) = z := ⟨_, rfl⟩
    refine ww_ishl (v := x_5) C dX4_hold_36 ex_5 ?_
    refine ww_iconst (v := (-1)) C dX4_hold_37 rfl ?_
    obtain ⟨x_6, ex_6⟩ : ∃ z : Int32, x_5 ^^^ ((-1) : Int32) = z := ⟨_, rfl⟩
    refine ww_ixor (v := x_6) C dX4_hold_38 ex_6 ?_
    obtain ⟨x_7, ex_7⟩ : ∃ z : Int32, (gg (k * 24 + u)) &&& x_6 = z := ⟨_, rfl⟩
    refine ww_iand (v := x_7) C dX4_hold_39 ex_7 ?_
    obtain ⟨f_8, ef_8⟩ : ∃ z : Nat → Int32, upd gg ((k * 24) + u) x_7 = z := ⟨_, rfl⟩
    refine ww_iast (ws' := [(h, .inr (4, [.int (nI n), .int (nI r), .ref a, .ref b])), (a, .inl (E.2.1 1, 24, .inl f)), (b, .inl (E.2.1 1, 96, .inl f_8))]) C 2 rfl (vp_in_nI (by omega) (by omega)) (ldn2 (by omega) ef_8) rfl dX4_hold_40 ?_
    exact ww_vret (u := [(h, .inr (4, [.int (nI n), .int (nI r), .ref a, .ref b])), (a, .inl (E.2.1 1, 24, .inl f)), (b, .inl (E.2.1 1, 96, .inl f_8))]) C hT [0, 1, 2] rfl rfl rfl rfl dX4_hold_41 (⟨f_8, rfl, (by unfold hbt; rw [if_neg (fun h9 => h9 (by assumption)), ex_5, ex_6, ex_7]; exact ef_8)⟩)
  · have zc_4 : is.toInt ≠ 0 := i_ne rfl rfl c_4
    refine ww_iload C dX4_hold_23 0 rfl ?_
    refine ww_iconst (v := 1) C dX4_hold_25 rfl ?_
    refine ww_iload_n C dX4_hold_26 4 rfl rfl ?_
    obtain ⟨x_9, ex_9⟩ : ∃ z : Int32, (1 : Int32) <<< (v &&& 31) = z := ⟨_, rfl⟩
    refine ww_ishl (v := x_9) C dX4_hold_27 ex_9 ?_
    obtain ⟨x_10, ex_10⟩ : ∃ z : Int32, (gg (k * 24 + u)) ||| x_9 = z := ⟨_, rfl⟩
    refine ww_ior (v := x_10) C dX4_hold_28 ex_10 ?_
    refine ww_goto (tgt := 40) C dX4_hold_29 (by decide) ?_
    obtain ⟨f_11, ef_11⟩ : ∃ z : Nat → Int32, upd gg ((k * 24) + u) x_10 = z := ⟨_, rfl⟩
    refine ww_iast (ws' := [(h, .inr (4, [.int (nI n), .int (nI r), .ref a, .ref b])), (a, .inl (E.2.1 1, 24, .inl f)), (b, .inl (E.2.1 1, 96, .inl f_11))]) C 2 rfl (vp_in_nI (by omega) (by omega)) (ldn2 (by omega) ef_11) rfl dX4_hold_40 ?_
    exact ww_vret (u := [(h, .inr (4, [.int (nI n), .int (nI r), .ref a, .ref b])), (a, .inl (E.2.1 1, 24, .inl f)), (b, .inl (E.2.1 1, 96, .inl f_11))]) C hT [0, 1, 2] rfl rfl rfl rfl dX4_hold_41 (⟨f_11, rfl, (by unfold hbt; rw [if_pos (by assumption), ex_9, ex_10]; exact ef_11)⟩)
theorem dX4_alikeBut_0 : decode cX4_alikeBut 0 = .ok (.iconst 0, 1) := by decide +kernel
theorem dX4_alikeBut_1 : decode cX4_alikeBut 1 = .ok (.istore_n 3, 1) := by decide +kernel
theorem dX4_alikeBut_2 : decode cX4_alikeBut 2 = .ok (.iconst 0, 1) := by decide +kernel
theorem dX4_alikeBut_3 : decode cX4_alikeBut 3 = .ok (.istore 4, 2) := by decide +kernel
theorem dX4_alikeBut_5 : decode cX4_alikeBut 5 = .ok (.iload 4, 2) := by decide +kernel
theorem dX4_alikeBut_7 : decode cX4_alikeBut 7 = .ok (.aload_n 0, 1) := by decide +kernel
theorem dX4_alikeBut_8 : decode cX4_alikeBut 8 = .ok (.getfield 18, 3) := by decide +kernel
theorem dX4_alikeBut_11 : decode cX4_alikeBut 11 = .ok (.if_icmp .ge 37, 3) := by decide +kernel
theorem dX4_alikeBut_48 : decode cX4_alikeBut 48 = .ok (.iload_n 3, 1) := by decide +kernel
theorem dX4_alikeBut_49 : decode cX4_alikeBut 49 = .ok (.ireturn, 1) := by decide +kernel
theorem dX4_alikeBut_14 : decode cX4_alikeBut 14 = .ok (.aload_n 0, 1) := by decide +kernel
theorem dX4_alikeBut_15 : decode cX4_alikeBut 15 = .ok (.getfield 9, 3) := by decide +kernel
theorem dX4_alikeBut_18 : decode cX4_alikeBut 18 = .ok (.iload_n 2, 1) := by decide +kernel
theorem dX4_alikeBut_19 : decode cX4_alikeBut 19 = .ok (.iaload, 1) := by decide +kernel
theorem dX4_alikeBut_20 : decode cX4_alikeBut 20 = .ok (.aload_n 0, 1) := by decide +kernel
theorem dX4_alikeBut_21 : decode cX4_alikeBut 21 = .ok (.getfield 9, 3) := by decide +kernel
theorem dX4_alikeBut_24 : decode cX4_alikeBut 24 = .ok (.iload 4, 2) := by decide +kernel
theorem dX4_alikeBut_26 : decode cX4_alikeBut 26 = .ok (.iaload, 1) := by decide +kernel
theorem dX4_alikeBut_27 : decode cX4_alikeBut 27 = .ok (.ixor, 1) := by decide +kernel
theorem dX4_alikeBut_28 : decode cX4_alikeBut 28 = .ok (.iload_n 1, 1) := by decide +kernel
theorem dX4_alikeBut_29 : decode cX4_alikeBut 29 = .ok (.iconst (-1), 1) := by decide +kernel
theorem dX4_alikeBut_30 : decode cX4_alikeBut 30 = .ok (.ixor, 1) := by decide +kernel
theorem dX4_alikeBut_31 : decode cX4_alikeBut 31 = .ok (.iand, 1) := by decide +kernel
theorem dX4_alikeBut_32 : decode cX4_alikeBut 32 = .ok (.ifCond .ne 10, 3) := by decide +kernel
theorem dX4_alikeBut_42 : decode cX4_alikeBut 42 = .ok (.iinc 4 1, 3) := by decide +kernel
theorem dX4_alikeBut_45 : decode cX4_alikeBut 45 = .ok (.goto (-40), 3) := by decide +kernel
theorem dX4_alikeBut_35 : decode cX4_alikeBut 35 = .ok (.iload_n 3, 1) := by decide +kernel
theorem dX4_alikeBut_36 : decode cX4_alikeBut 36 = .ok (.iconst 1, 1) := by decide +kernel
theorem dX4_alikeBut_37 : decode cX4_alikeBut 37 = .ok (.iload 4, 2) := by decide +kernel
theorem dX4_alikeBut_39 : decode cX4_alikeBut 39 = .ok (.ishl, 1) := by decide +kernel
theorem dX4_alikeBut_40 : decode cX4_alikeBut 40 = .ok (.ior, 1) := by decide +kernel
theorem dX4_alikeBut_41 : decode cX4_alikeBut 41 = .ok (.istore_n 3, 1) := by decide +kernel
set_option maxRecDepth 100000 in
set_option maxHeartbeats 4000000 in
theorem m_alikeBut (l : Launch) (E : EV) (ro : va_W) (h : Nat) (own : Int32) (u : Nat) (n : Nat) (r : Nat) (a : Nat) (b : Nat) (f : Nat → Int32) (gg : Nat → Int32) (hn : n ≤ 24) (hr : r < n ∨ r = 0) (hu : u < 24) : CT l yX4_alikeBut (Cond.code yX4_alikeBut cX4_alikeBut 5 (some .int) :: TB) ({ frames := 0, cells := 0, slots := 0, locals := 0 }) E ro [.ref h, .int own, .int (nI u)] [(h, .inr (4, [.int (nI n), .int (nI r), .ref a, .ref b])), (a, .inl (E.2.1 1, 24, .inl f)), (b, .inl (E.2.1 1, 96, .inl gg))] (Qi E (fun (rz : Int32) uz => (uz = [(h, .inr (4, [.int (nI n), .int (nI r), .ref a, .ref b])), (a, .inl (E.2.1 1, 24, .inl f)), (b, .inl (E.2.1 1, 96, .inl gg))] ∧ (BS rz (fun v => decide (v < n) && alk f own u v))))) 0 0 := by
  refine ct_of rfl rfl ?_
  intro X C hT hin hro
  show WW X 5 E 0 [(0, .ref h), (1, .int own), (2, .int (nI u))] [] [(h, .inr (4, [.int (nI n), .int (nI r), .ref a, .ref b])), (a, .inl (E.2.1 1, 24, .inl f)), (b, .inl (E.2.1 1, 96, .inl gg))] 0 0
  refine ww_iconst (v := 0) C dX4_alikeBut_0 rfl ?_
  refine ww_istore_n (lv' := [(3, .int 0), (0, .ref h), (1, .int own), (2, .int (nI u))]) C dX4_alikeBut_1 rfl rfl rfl ?_
  refine ww_iconst (v := 0) C dX4_alikeBut_2 rfl ?_
  refine ww_istore (lv' := [(4, .int 0), (3, .int 0), (0, .ref h), (1, .int own), (2, .int (nI u))]) C dX4_alikeBut_3 rfl rfl ?_
  have loop_5 : ∀ (fu : Nat) (i1 : Nat) (ac : Int32), (i1 ≤ n) → (AC ac no_ i1 (alk f own u)) → n - i1 < fu → WW X 5 E 5 [(4, .int (nI i1)), (3, .int ac), (0, .ref h), (1, .int own), (2, .int (nI u))] [] [(h, .inr (4, [.int (nI n), .int (nI r), .ref a, .ref b])), (a, .inl (E.2.1 1, 24, .inl f)), (b, .inl (E.2.1 1, 96, .inl gg))] 0 0 := by
    intro fu
    induction fu with
    | zero => intro i1 ac hi1 hac hmeas; exact absurd hmeas (Nat.not_lt_zero _)
    | succ fu ih_5 =>
      intro i1 ac hi1 hac hmeas
      refine ww_iload C dX4_alikeBut_5 0 rfl ?_
      refine ww_aload_n C dX4_alikeBut_7 2 rfl rfl ?_
      refine ww_get C fg_X4_18 0 rfl rfl dX4_alikeBut_8 ?_
      refine ww_icmp_ge (tgt := 48) C dX4_alikeBut_11 (by decide) (fun c_1 => ?_) (fun c_1 => ?_)
      · have zc_1 : ((i1 : Nat) : Int) ≥ ((n : Nat) : Int) := i_le (nI_toInt (n := n) (by omega)) (nI_toInt (n := i1) (by omega)) c_1
        refine ww_iload_n C dX4_alikeBut_48 1 rfl rfl ?_
        exact ww_iret (u := [(h, .inr (4, [.int (nI n), .int (nI r), .ref a, .ref b])), (a, .inl (E.2.1 1, 24, .inl f)), (b, .inl (E.2.1 1, 96, .inl gg))]) C hT [0, 1, 2] rfl rfl rfl rfl dX4_alikeBut_49 (⟨rfl, (AC.fin hac (by omega))⟩)
      · have zc_1 : ((i1 : Nat) : Int) < ((n : Nat) : Int) := i_nle (nI_toInt (n := n) (by omega)) (nI_toInt (n := i1) (by omega)) c_1
        refine ww_aload_n C dX4_alikeBut_14 2 rfl rfl ?_
        refine ww_get C fg_X4_9 0 rfl rfl dX4_alikeBut_15 ?_
        refine ww_iload_n C dX4_alikeBut_18 4 rfl rfl ?_
        obtain ⟨x_2, ex_2⟩ : ∃ z : Int32, f u = z := ⟨_, rfl⟩
        refine ww_iald (v := x_2) C 1 rfl (vp_in_nI (by omega) (by omega)) (ldn (by omega) ex_2) dX4_alikeBut_19 ?_
        refine ww_aload_n C dX4_alikeBut_20 2 rfl rfl ?_
        refine ww_get C fg_X4_9 0 rfl rfl dX4_alikeBut_21 ?_
        refine ww_iload C dX4_alikeBut_24 0 rfl ?_
        obtain ⟨x_3, ex_3⟩ : ∃ z : Int32, f i1 = z := ⟨_, rfl⟩
        refine ww_iald (v := x_3) C 1 rfl (vp_in_nI (by omega) (by omega)) (ldn (by omega) ex_3) dX4_alikeBut_26 ?_
        obtain ⟨x_4, ex_4⟩ : ∃ z : Int32, x_2 ^^^ x_3 = z := ⟨_, rfl⟩
        refine ww_ixor (v := x_4) C dX4_alikeBut_27 ex_4 ?_
        refine ww_iload_n C dX4_alikeBut_28 3 rfl rfl ?_
        refine ww_iconst (v := (-1)) C dX4_alikeBut_29 rfl ?_
        obtain ⟨x_5, ex_5⟩ : ∃ z : Int32, own ^^^ ((-1) : Int32) = z := ⟨_, rfl⟩
        refine ww_ixor (v := x_5) C dX4_alikeBut_30 ex_5 ?_
        obtain ⟨x_6, ex_6⟩ : ∃ z : Int32, x_4 &&& x_5 = z := ⟨_, rfl⟩
        refine ww_iand (v := x_6) C dX4_alikeBut_31 ex_6 ?_
        refine ww_if_ne (tgt := 42) C dX4_alikeBut_32 (by decide) (fun c_7 => ?_) (fun c_7 => ?_)
        · have zc_7 : x_6.toInt ≠ 0 := i_ne rfl rfl c_7
          refine ww_iinc (j := 0) (v := (nI (i1 + 1))) (lv' := [(4, .int (nI (i1 + 1))), (3, .int ac), (0, .ref h), (1, .int own), (2, .int (nI u))]) C dX4_alikeBut_42 rfl (nI_add i1 1) rfl rfl ?_
          refine ww_goto (tgt := 5) C dX4_alikeBut_45 (by decide) ?_
          exact ww_lv [0, 1, 2, 3, 4] rfl (ww_sub [0, 1, 2] rfl rfl (ih_5 (i1 + 1) ac (by omega) (AC.f hac (decide_eq_false (fun h9 => zc_7 (by rw [← (show (f u ^^^ f i1) &&& (own ^^^ (-1 : Int32)) = x_6 by rw [ex_2, ex_3, ex_4, ex_5, ex_6]), h9]; rfl)))) (by omega)))
        · have zc_7 : x_6.toInt = 0 := i_eq rfl rfl c_7
          refine ww_iload_n C dX4_alikeBut_35 1 rfl rfl ?_
          refine ww_iconst (v := 1) C dX4_alikeBut_36 rfl ?_
          refine ww_iload C dX4_alikeBut_37 0 rfl ?_
          obtain ⟨x_8, ex_8⟩ : ∃ z : Int32, (1 : Int32) <<< ((nI i1) &&& 31) = z := ⟨_, rfl⟩
          refine ww_ishl (v := x_8) C dX4_alikeBut_39 ex_8 ?_
          obtain ⟨x_9, ex_9⟩ : ∃ z : Int32, ac ||| x_8 = z := ⟨_, rfl⟩
          refine ww_ior (v := x_9) C dX4_alikeBut_40 ex_9 ?_
          refine ww_istore_n (lv' := [(3, .int x_9), (4, .int (nI i1)), (0, .ref h), (1, .int own), (2, .int (nI u))]) C dX4_alikeBut_41 rfl rfl rfl ?_
          refine ww_iinc (j := 1) (v := (nI (i1 + 1))) (lv' := [(4, .int (nI (i1 + 1))), (3, .int x_9), (0, .ref h), (1, .int own), (2, .int (nI u))]) C dX4_alikeBut_42 rfl (nI_add i1 1) rfl rfl ?_
          refine ww_goto (tgt := 5) C dX4_alikeBut_45 (by decide) ?_
          exact ww_lv [0, 1, 2, 3, 4] rfl (ww_sub [0, 1, 2] rfl rfl (ih_5 (i1 + 1) x_9 (by omega) (AC.t hac (by omega) (decide_eq_true ((show (f u ^^^ f i1) &&& (own ^^^ (-1 : Int32)) = x_6 by rw [ex_2, ex_3, ex_4, ex_5, ex_6]).trans (i_z zc_7))) ex_9 ex_8) (by omega)))
  exact ww_lv [0, 1, 2, 3, 4] rfl (ww_sub [0, 1, 2] rfl rfl (loop_5 _ 0 0 (by omega) AC.nil (Nat.lt_succ_self _)))
theorem bl_c {a n i1 i2 S : Nat} {f : Nat → Int32} {x r : Int32} (h : a = S + sumN (fun u => cRow n f (ow x i1) u) i2) (hr : BS r (fun v => decide (v < n) && alk f (ow x i1) i2 v)) : a + cb (bt r) 32 = S + sumN (fun u => cRow n f (ow x i1) u) (i2 + 1) := by
  show _ = S + (sumN (fun u => cRow n f (ow x i1) u) i2 + cRow n f (ow x i1) i2)
  rw [h, cb_BS hr]; unfold cRow; omega
theorem dX4_blindfold_0 : decode cX4_blindfold 0 = .ok (.iconst 0, 1) := by decide +kernel
theorem dX4_blindfold_1 : decode cX4_blindfold 1 = .ok (.istore_n 2, 1) := by decide +kernel
theorem dX4_blindfold_2 : decode cX4_blindfold 2 = .ok (.iconst 0, 1) := by decide +kernel
theorem dX4_blindfold_3 : decode cX4_blindfold 3 = .ok (.istore_n 3, 1) := by decide +kernel
theorem dX4_blindfold_4 : decode cX4_blindfold 4 = .ok (.iload_n 3, 1) := by decide +kernel
theorem dX4_blindfold_5 : decode cX4_blindfold 5 = .ok (.iconst 4, 1) := by decide +kernel
theorem dX4_blindfold_6 : decode cX4_blindfold 6 = .ok (.if_icmp .ge 69, 3) := by decide +kernel
theorem dX4_blindfold_75 : decode cX4_blindfold 75 = .ok (.iload_n 2, 1) := by decide +kernel
theorem dX4_blindfold_76 : decode cX4_blindfold 76 = .ok (.ireturn, 1) := by decide +kernel
theorem dX4_blindfold_9 : decode cX4_blindfold 9 = .ok (.iload_n 1, 1) := by decide +kernel
theorem dX4_blindfold_10 : decode cX4_blindfold 10 = .ok (.iconst 4, 1) := by decide +kernel
theorem dX4_blindfold_11 : decode cX4_blindfold 11 = .ok (.iload_n 3, 1) := by decide +kernel
theorem dX4_blindfold_12 : decode cX4_blindfold 12 = .ok (.imul, 1) := by decide +kernel
theorem dX4_blindfold_13 : decode cX4_blindfold 13 = .ok (.ishr, 1) := by decide +kernel
theorem dX4_blindfold_14 : decode cX4_blindfold 14 = .ok (.bipush 15, 2) := by decide +kernel
theorem dX4_blindfold_16 : decode cX4_blindfold 16 = .ok (.iand, 1) := by decide +kernel
theorem dX4_blindfold_17 : decode cX4_blindfold 17 = .ok (.istore 4, 2) := by decide +kernel
theorem dX4_blindfold_19 : decode cX4_blindfold 19 = .ok (.iconst 0, 1) := by decide +kernel
theorem dX4_blindfold_20 : decode cX4_blindfold 20 = .ok (.istore 5, 2) := by decide +kernel
theorem dX4_blindfold_22 : decode cX4_blindfold 22 = .ok (.iload 5, 2) := by decide +kernel
theorem dX4_blindfold_24 : decode cX4_blindfold 24 = .ok (.aload_n 0, 1) := by decide +kernel
theorem dX4_blindfold_25 : decode cX4_blindfold 25 = .ok (.getfield 18, 3) := by decide +kernel
theorem dX4_blindfold_28 : decode cX4_blindfold 28 = .ok (.if_icmp .ge 41, 3) := by decide +kernel
theorem dX4_blindfold_69 : decode cX4_blindfold 69 = .ok (.iinc 3 1, 3) := by decide +kernel
theorem dX4_blindfold_72 : decode cX4_blindfold 72 = .ok (.goto (-68), 3) := by decide +kernel
theorem dX4_blindfold_31 : decode cX4_blindfold 31 = .ok (.aload_n 0, 1) := by decide +kernel
theorem dX4_blindfold_32 : decode cX4_blindfold 32 = .ok (.iload 4, 2) := by decide +kernel
theorem dX4_blindfold_34 : decode cX4_blindfold 34 = .ok (.iload 5, 2) := by decide +kernel
theorem dX4_blindfold_36 : decode cX4_blindfold 36 = .ok (.invokevirtual 29, 3) := by decide +kernel
theorem wl_X4_29 : Cond.methodLink RX4 29 yX4_alikeBut ∈ TB := tbm (tq2 (List.mem_of_getElem? (i := 193) (by decide +kernel))) (by decide +kernel)
theorem wc_X4_alikeBut : Cond.code yX4_alikeBut cX4_alikeBut 5 (some .int) ∈ TB := tbm (tq2 (List.mem_of_getElem? (i := 196) (rfl))) (by decide +kernel)
theorem wi_X4_alikeBut : Cond.instanceMethod yX4_alikeBut ∈ TB := tbm (tq2 (List.mem_of_getElem? (i := 195) (by decide +kernel))) (by decide +kernel)
theorem ws_X4_alikeBut : Cond.selects RX4 yX4_alikeBut yX4_alikeBut ∈ TB := tbm (tq0 (List.mem_of_getElem? (i := 1) (by decide +kernel))) (by decide +kernel)
theorem mi_X4_alikeBut : MI yX4_alikeBut cX4_alikeBut 5 (some .int) 2 := ⟨wc_X4_alikeBut, wn_X4, ⟨by decide +kernel, by decide +kernel, by decide +kernel⟩, wi_X4_alikeBut, ws_X4_alikeBut⟩
theorem dX4_blindfold_39 : decode cX4_blindfold 39 = .ok (.istore 6, 2) := by decide +kernel
theorem dX4_blindfold_41 : decode cX4_blindfold 41 = .ok (.aload_n 0, 1) := by decide +kernel
theorem dX4_blindfold_42 : decode cX4_blindfold 42 = .ok (.getfield 15, 3) := by decide +kernel
theorem dX4_blindfold_45 : decode cX4_blindfold 45 = .ok (.iload_n 3, 1) := by decide +kernel
theorem dX4_blindfold_46 : decode cX4_blindfold 46 = .ok (.bipush 24, 2) := by decide +kernel
theorem dX4_blindfold_48 : decode cX4_blindfold 48 = .ok (.imul, 1) := by decide +kernel
theorem dX4_blindfold_49 : decode cX4_blindfold 49 = .ok (.iload 5, 2) := by decide +kernel
theorem dX4_blindfold_51 : decode cX4_blindfold 51 = .ok (.iadd, 1) := by decide +kernel
theorem dX4_blindfold_52 : decode cX4_blindfold 52 = .ok (.iload 6, 2) := by decide +kernel
theorem dX4_blindfold_54 : decode cX4_blindfold 54 = .ok (.iastore, 1) := by decide +kernel
theorem dX4_blindfold_55 : decode cX4_blindfold 55 = .ok (.iload_n 2, 1) := by decide +kernel
theorem dX4_blindfold_56 : decode cX4_blindfold 56 = .ok (.iload 6, 2) := by decide +kernel
theorem dX4_blindfold_58 : decode cX4_blindfold 58 = .ok (.invokestatic 32, 3) := by decide +kernel
theorem wl_X4_32 : Cond.methodLink RX4 32 yJ6_bitCount_0f7a4 ∈ TB := tbm (tq2 (List.mem_of_getElem? (i := 197) (by decide +kernel))) (by decide +kernel)
theorem wc_J6_bitCount_0f7a4 : Cond.code yJ6_bitCount_0f7a4 cJ6_bitCount_0f7a4 1 (some .int) ∈ TB := tbm (tq2 (List.mem_of_getElem? (i := 199) (rfl))) (by decide +kernel)
theorem wn_J6 : Cond.initialized RJ6 ∈ TB := tbm (tq1 (List.mem_of_getElem? (i := 15) (by decide +kernel))) (by decide +kernel)
theorem wt_J6_bitCount_0f7a4 : Cond.static yJ6_bitCount_0f7a4 ∈ TB := tbm (tq2 (List.mem_of_getElem? (i := 198) (by decide +kernel))) (by decide +kernel)
theorem ms_J6_bitCount_0f7a4 : MS yJ6_bitCount_0f7a4 cJ6_bitCount_0f7a4 1 (some .int) 1 := ⟨wc_J6_bitCount_0f7a4, wn_J6, ⟨by decide +kernel, by decide +kernel, by decide +kernel⟩, wt_J6_bitCount_0f7a4⟩
theorem dX4_blindfold_61 : decode cX4_blindfold 61 = .ok (.iadd, 1) := by decide +kernel
theorem dX4_blindfold_62 : decode cX4_blindfold 62 = .ok (.istore_n 2, 1) := by decide +kernel
theorem dX4_blindfold_63 : decode cX4_blindfold 63 = .ok (.iinc 5 1, 3) := by decide +kernel
theorem dX4_blindfold_66 : decode cX4_blindfold 66 = .ok (.goto (-44), 3) := by decide +kernel
set_option maxRecDepth 100000 in
set_option maxHeartbeats 4000000 in
theorem m_blindfold (l : Launch) (E : EV) (ro : va_W) (h : Nat) (bl : Int32) (n : Nat) (r : Nat) (a : Nat) (b : Nat) (f : Nat → Int32) (gg : Nat → Int32) (hn : n ≤ 24) (hr : r < n ∨ r = 0) : CT l yX4_blindfold (Cond.code yX4_blindfold cX4_blindfold 7 (some .int) :: TB) ({ frames := 1, cells := 0, slots := 0, locals := 24 }) E ro [.ref h, .int bl] [(h, .inr (4, [.int (nI n), .int (nI r), .ref a, .ref b])), (a, .inl (E.2.1 1, 24, .inl f)), (b, .inl (E.2.1 1, 96, .inl gg))] (Qi E (fun (rz : Int32) uz => (∃ (g2 : Nat → Int32), rz = (nI (cBl n f bl)) ∧ uz = [(h, .inr (4, [.int (nI n), .int (nI r), .ref a, .ref b])), (a, .inl (E.2.1 1, 24, .inl f)), (b, .inl (E.2.1 1, 96, .inl g2))] ∧ (am n r f g2 = aBlind (am n r f gg) bl)))) 0 0 := by
  refine ct_of rfl rfl ?_
  intro X C hT hin hro
  show WW X 7 E 0 [(0, .ref h), (1, .int bl)] [] [(h, .inr (4, [.int (nI n), .int (nI r), .ref a, .ref b])), (a, .inl (E.2.1 1, 24, .inl f)), (b, .inl (E.2.1 1, 96, .inl gg))] 0 0
  refine ww_iconst (v := 0) C dX4_blindfold_0 rfl ?_
  refine ww_istore_n (lv' := [(2, .int 0), (0, .ref h), (1, .int bl)]) C dX4_blindfold_1 rfl rfl rfl ?_
  refine ww_iconst (v := 0) C dX4_blindfold_2 rfl ?_
  refine ww_istore_n (lv' := [(3, .int 0), (2, .int 0), (0, .ref h), (1, .int bl)]) C dX4_blindfold_3 rfl rfl rfl ?_
  have loop_4 : ∀ (fu : Nat) (i1 : Nat) (ac : Nat) (g1 : Nat → Int32), (i1 ≤ 4) → (BLR n f bl i1 0 g1) → (ac = sumN (fun k => sumN (fun u => cRow n f (ow bl k) u) n) i1) → 4 - i1 < fu → WW X 7 E 4 [(3, .int (nI i1)), (2, .int (nI ac)), (0, .ref h), (1, .int bl)] [] [(h, .inr (4, [.int (nI n), .int (nI r), .ref a, .ref b])), (a, .inl (E.2.1 1, 24, .inl f)), (b, .inl (E.2.1 1, 96, .inl g1))] 0 0 := by
    intro fu
    induction fu with
    | zero => intro i1 ac g1 hi1 hbl1 hac1 hmeas; exact absurd hmeas (Nat.not_lt_zero _)
    | succ fu ih_4 =>
      intro i1 ac g1 hi1 hbl1 hac1 hmeas
      refine ww_iload_n C dX4_blindfold_4 0 rfl rfl ?_
      refine ww_iconst (v := 4) C dX4_blindfold_5 rfl ?_
      refine ww_icmp_ge (tgt := 75) C dX4_blindfold_6 (by decide) (fun c_1 => ?_) (fun c_1 => ?_)
      · have zc_1 : ((i1 : Nat) : Int) ≥ 4 := i_le rfl (nI_toInt (n := i1) (by omega)) c_1
        refine ww_iload_n C dX4_blindfold_75 1 rfl rfl ?_
        exact ww_iret (u := [(h, .inr (4, [.int (nI n), .int (nI r), .ref a, .ref b])), (a, .inl (E.2.1 1, 24, .inl f)), (b, .inl (E.2.1 1, 96, .inl g1))]) C hT [0, 1, 2] rfl rfl rfl rfl dX4_blindfold_76 (⟨g1, (by rw [hac1, show i1 = 4 by omega]; rfl), rfl, (am_blind hn hbl1 (by omega))⟩)
      · have zc_1 : ((i1 : Nat) : Int) < 4 := i_nle rfl (nI_toInt (n := i1) (by omega)) c_1
        refine ww_iload_n C dX4_blindfold_9 3 rfl rfl ?_
        refine ww_iconst (v := 4) C dX4_blindfold_10 rfl ?_
        refine ww_iload_n C dX4_blindfold_11 0 rfl rfl ?_
        refine ww_imul (v := (nI (4 * i1))) C dX4_blindfold_12 (pk_mul 4 i1) ?_
        obtain ⟨x_2, ex_2⟩ : ∃ z : Int32, bl >>> ((nI (4 * i1)) &&& 31) = z := ⟨_, rfl⟩
        refine ww_ishr (v := x_2) C dX4_blindfold_13 ex_2 ?_
        refine ww_bipush (v := 15) C dX4_blindfold_14 rfl ?_
        obtain ⟨x_3, ex_3⟩ : ∃ z : Int32, x_2 &&& (15 : Int32) = z := ⟨_, rfl⟩
        refine ww_iand (v := x_3) C dX4_blindfold_16 ex_3 ?_
        refine ww_istore (lv' := [(4, .int x_3), (3, .int (nI i1)), (2, .int (nI ac)), (0, .ref h), (1, .int bl)]) C dX4_blindfold_17 rfl rfl ?_
        refine ww_iconst (v := 0) C dX4_blindfold_19 rfl ?_
        refine ww_istore (lv' := [(5, .int 0), (4, .int x_3), (3, .int (nI i1)), (2, .int (nI ac)), (0, .ref h), (1, .int bl)]) C dX4_blindfold_20 rfl rfl ?_
        have how : x_3 = ow bl i1 := by unfold ow; rw [ex_2, ex_3]
        have loop_22 : ∀ (fu : Nat) (i2 : Nat) (ac2 : Nat) (g3 : Nat → Int32), (i2 ≤ n) → (BLR n f bl i1 i2 g3) → (ac2 = sumN (fun k => sumN (fun u => cRow n f (ow bl k) u) n) i1 + sumN (fun u => cRow n f (ow bl i1) u) i2) → n - i2 < fu → WW X 7 E 22 [(5, .int (nI i2)), (4, .int x_3), (3, .int (nI i1)), (2, .int (nI ac2)), (0, .ref h), (1, .int bl)] [] [(h, .inr (4, [.int (nI n), .int (nI r), .ref a, .ref b])), (a, .inl (E.2.1 1, 24, .inl f)), (b, .inl (E.2.1 1, 96, .inl g3))] 0 0 := by
          intro fu
          induction fu with
          | zero => intro i2 ac2 g3 hi2 hbl2 hac2 hmeas; exact absurd hmeas (Nat.not_lt_zero _)
          | succ fu ih_22 =>
            intro i2 ac2 g3 hi2 hbl2 hac2 hmeas
            refine ww_iload C dX4_blindfold_22 0 rfl ?_
            refine ww_aload_n C dX4_blindfold_24 4 rfl rfl ?_
            refine ww_get C fg_X4_18 0 rfl rfl dX4_blindfold_25 ?_
            refine ww_icmp_ge (tgt := 69) C dX4_blindfold_28 (by decide) (fun c_4 => ?_) (fun c_4 => ?_)
            · have zc_4 : ((i2 : Nat) : Int) ≥ ((n : Nat) : Int) := i_le (nI_toInt (n := n) (by omega)) (nI_toInt (n := i2) (by omega)) c_4
              refine ww_iinc (j := 2) (v := (nI (i1 + 1))) (lv' := [(3, .int (nI (i1 + 1))), (5, .int (nI i2)), (4, .int x_3), (2, .int (nI ac2)), (0, .ref h), (1, .int bl)]) C dX4_blindfold_69 rfl (nI_add i1 1) rfl rfl ?_
              refine ww_goto (tgt := 4) C dX4_blindfold_72 (by decide) ?_
              exact ww_lv [0, 3, 4, 5] rfl (ww_sub [0, 1, 2] rfl rfl (ih_4 (i1 + 1) ac2 g3 (by omega) (BLR.up hbl2 (by omega)) (by rw [hac2, show i2 = n by omega]; rfl) (by omega)))
            · have zc_4 : ((i2 : Nat) : Int) < ((n : Nat) : Int) := i_nle (nI_toInt (n := n) (by omega)) (nI_toInt (n := i2) (by omega)) c_4
              refine ww_aload_n C dX4_blindfold_31 4 rfl rfl ?_
              refine ww_iload C dX4_blindfold_32 1 rfl ?_
              refine ww_iload C dX4_blindfold_34 0 rfl ?_
              refine ww_ci (wr := []) (k' := 0) (n' := 0) C (run_V (As := [.int x_3, .int (nI i2)]) (rest := []) C (m_alikeBut X.2.1 E ro h x_3 i2 n r a b f g3 (by omega) (by omega) (by omega)) mi_X4_alikeBut wl_X4_29 rfl 0 4 rfl rfl rfl rfl rfl dX4_blindfold_36) (roK hro) [0, 1, 2] [] rfl rfl rfl rfl (fun r_5 uz hw => ?_)
              refine an1 hw ?_
              clear hw
              intro he_7 hw
              have h_6 := hw
              clear hw
              subst he_7
              refine ww_eq (ws' := [(h, .inr (4, [.int (nI n), .int (nI r), .ref a, .ref b])), (a, .inl (E.2.1 1, 24, .inl f)), (b, .inl (E.2.1 1, 96, .inl g3))]) ?_ rfl rfl rfl
              refine ww_istore (lv' := [(6, .int r_5), (5, .int (nI i2)), (4, .int x_3), (3, .int (nI i1)), (2, .int (nI ac2)), (0, .ref h), (1, .int bl)]) C dX4_blindfold_39 rfl rfl ?_
              refine ww_aload_n C dX4_blindfold_41 5 rfl rfl ?_
              refine ww_get C fg_X4_15 0 rfl rfl dX4_blindfold_42 ?_
              refine ww_iload_n C dX4_blindfold_45 3 rfl rfl ?_
              refine ww_bipush (v := 24) C dX4_blindfold_46 rfl ?_
              refine ww_imul (v := (nI (i1 * 24))) C dX4_blindfold_48 (pk_mul i1 24) ?_
              refine ww_iload C dX4_blindfold_49 1 rfl ?_
              refine ww_iadd (v := (nI ((i1 * 24) + i2))) C dX4_blindfold_51 (nI_add (i1 * 24) i2) ?_
              refine ww_iload C dX4_blindfold_52 0 rfl ?_
              obtain ⟨f_8, ef_8⟩ : ∃ z : Nat → Int32, upd g3 ((i1 * 24) + i2) r_5 = z := ⟨_, rfl⟩
              refine ww_iast (ws' := [(h, .inr (4, [.int (nI n), .int (nI r), .ref a, .ref b])), (a, .inl (E.2.1 1, 24, .inl f)), (b, .inl (E.2.1 1, 96, .inl f_8))]) C 2 rfl (vp_in_nI (by omega) (by omega)) (ldn2 (by omega) ef_8) rfl dX4_blindfold_54 ?_
              refine ww_iload_n C dX4_blindfold_55 4 rfl rfl ?_
              refine ww_iload C dX4_blindfold_56 0 rfl ?_
              refine ww_ci (wr := [(h, .inr (4, [.int (nI n), .int (nI r), .ref a, .ref b])), (a, .inl (E.2.1 1, 24, .inl f)), (b, .inl (E.2.1 1, 96, .inl f_8))]) (k' := 0) (n' := 0) C (run_S (As := [.int r_5]) (rest := [.int (nI ac2)]) C (c_bitCount X.2.1 E ro r_5) ms_J6_bitCount_0f7a4 wl_X4_32 rfl rfl rfl rfl dX4_blindfold_58) (roK hro) [] [0, 1, 2] rfl rfl rfl rfl (fun r_9 uz hw => ?_)
              refine an1 hw ?_
              clear hw
              intro he_10 hw
              have he_11 := hw
              clear hw
              have he_10 := he_10.symm
              subst he_10
              subst he_11
              refine ww_eq (ws' := [(h, .inr (4, [.int (nI n), .int (nI r), .ref a, .ref b])), (a, .inl (E.2.1 1, 24, .inl f)), (b, .inl (E.2.1 1, 96, .inl f_8))]) ?_ rfl rfl rfl
              refine ww_iadd (v := (nI (ac2 + cb (bt r_5) 32))) C dX4_blindfold_61 (by rw [bcf_bt, nI_add]) ?_
              refine ww_istore_n (lv' := [(2, .int (nI (ac2 + cb (bt r_5) 32))), (6, .int r_5), (5, .int (nI i2)), (4, .int x_3), (3, .int (nI i1)), (0, .ref h), (1, .int bl)]) C dX4_blindfold_62 rfl rfl rfl ?_
              refine ww_iinc (j := 2) (v := (nI (i2 + 1))) (lv' := [(5, .int (nI (i2 + 1))), (2, .int (nI (ac2 + cb (bt r_5) 32))), (6, .int r_5), (4, .int x_3), (3, .int (nI i1)), (0, .ref h), (1, .int bl)]) C dX4_blindfold_63 rfl (nI_add i2 1) rfl rfl ?_
              refine ww_goto (tgt := 22) C dX4_blindfold_66 (by decide) ?_
              exact ww_lv [0, 3, 4, 1, 5, 6] rfl (ww_sub [0, 1, 2] rfl rfl (ih_22 (i2 + 1) (ac2 + cb (bt r_5) 32) f_8 (by omega) (BLR.ext hbl2 (by omega) (by omega) (how ▸ h_6) ef_8) (bl_c hac2 (how ▸ h_6)) (by omega)))
        exact ww_lv [0, 1, 2, 3, 4, 5] rfl (ww_sub [0, 1, 2] rfl rfl (loop_22 _ 0 ac g1 (by omega) hbl1 hac1 (Nat.lt_succ_self _)))
  exact ww_lv [0, 1, 2, 3] rfl (ww_sub [0, 1, 2] rfl rfl (loop_4 _ 0 0 gg (by omega) BLR.nil rfl (Nat.lt_succ_self _)))
theorem dX4_lost_0 : decode cX4_lost 0 = .ok (.iconst 0, 1) := by decide +kernel
theorem dX4_lost_1 : decode cX4_lost 1 = .ok (.istore_n 2, 1) := by decide +kernel
theorem dX4_lost_2 : decode cX4_lost 2 = .ok (.iconst 0, 1) := by decide +kernel
theorem dX4_lost_3 : decode cX4_lost 3 = .ok (.istore_n 3, 1) := by decide +kernel
theorem dX4_lost_4 : decode cX4_lost 4 = .ok (.iload_n 3, 1) := by decide +kernel
theorem dX4_lost_5 : decode cX4_lost 5 = .ok (.iconst 4, 1) := by decide +kernel
theorem dX4_lost_6 : decode cX4_lost 6 = .ok (.if_icmp .ge 24, 3) := by decide +kernel
theorem dX4_lost_30 : decode cX4_lost 30 = .ok (.iload_n 2, 1) := by decide +kernel
theorem dX4_lost_31 : decode cX4_lost 31 = .ok (.ireturn, 1) := by decide +kernel
theorem dX4_lost_9 : decode cX4_lost 9 = .ok (.aload_n 0, 1) := by decide +kernel
theorem dX4_lost_10 : decode cX4_lost 10 = .ok (.iload_n 3, 1) := by decide +kernel
theorem dX4_lost_11 : decode cX4_lost 11 = .ok (.iload_n 1, 1) := by decide +kernel
theorem dX4_lost_12 : decode cX4_lost 12 = .ok (.invokevirtual 25, 3) := by decide +kernel
theorem dX4_lost_15 : decode cX4_lost 15 = .ok (.ifCond .ne 9, 3) := by decide +kernel
theorem dX4_lost_24 : decode cX4_lost 24 = .ok (.iinc 3 1, 3) := by decide +kernel
theorem dX4_lost_27 : decode cX4_lost 27 = .ok (.goto (-23), 3) := by decide +kernel
theorem dX4_lost_18 : decode cX4_lost 18 = .ok (.iload_n 2, 1) := by decide +kernel
theorem dX4_lost_19 : decode cX4_lost 19 = .ok (.iconst 1, 1) := by decide +kernel
theorem dX4_lost_20 : decode cX4_lost 20 = .ok (.iload_n 3, 1) := by decide +kernel
theorem dX4_lost_21 : decode cX4_lost 21 = .ok (.ishl, 1) := by decide +kernel
theorem dX4_lost_22 : decode cX4_lost 22 = .ok (.ior, 1) := by decide +kernel
theorem dX4_lost_23 : decode cX4_lost 23 = .ok (.istore_n 2, 1) := by decide +kernel
set_option maxRecDepth 100000 in
set_option maxHeartbeats 4000000 in
theorem m_lost (l : Launch) (E : EV) (ro : va_W) (h : Nat) (w : Nat) (n : Nat) (r : Nat) (a : Nat) (b : Nat) (f : Nat → Int32) (gg : Nat → Int32) (hw : w < 24) : CT l yX4_lost (Cond.code yX4_lost cX4_lost 4 (some .int) :: TB) ({ frames := 1, cells := 0, slots := 0, locals := 22 }) E ro [.ref h, .int (nI w)] [(h, .inr (4, [.int (nI n), .int (nI r), .ref a, .ref b])), (a, .inl (E.2.1 1, 24, .inl f)), (b, .inl (E.2.1 1, 96, .inl gg))] (Qi E (fun (rz : Int32) uz => (uz = [(h, .inr (4, [.int (nI n), .int (nI r), .ref a, .ref b])), (a, .inl (E.2.1 1, 24, .inl f)), (b, .inl (E.2.1 1, 96, .inl gg))] ∧ (BS rz (fun k => decide (k < 4) && decide (gg (k * 24 + w) = 0)))))) 0 0 := by
  refine ct_of rfl rfl ?_
  intro X C hT hin hro
  show WW X 4 E 0 [(0, .ref h), (1, .int (nI w))] [] [(h, .inr (4, [.int (nI n), .int (nI r), .ref a, .ref b])), (a, .inl (E.2.1 1, 24, .inl f)), (b, .inl (E.2.1 1, 96, .inl gg))] 0 0
  refine ww_iconst (v := 0) C dX4_lost_0 rfl ?_
  refine ww_istore_n (lv' := [(2, .int 0), (0, .ref h), (1, .int (nI w))]) C dX4_lost_1 rfl rfl rfl ?_
  refine ww_iconst (v := 0) C dX4_lost_2 rfl ?_
  refine ww_istore_n (lv' := [(3, .int 0), (2, .int 0), (0, .ref h), (1, .int (nI w))]) C dX4_lost_3 rfl rfl rfl ?_
  have loop_4 : ∀ (fu : Nat) (i1 : Nat) (ac : Int32), (i1 ≤ 4) → (AC ac no_ i1 (fun k => decide (gg (k * 24 + w) = 0))) → 4 - i1 < fu → WW X 4 E 4 [(3, .int (nI i1)), (2, .int ac), (0, .ref h), (1, .int (nI w))] [] [(h, .inr (4, [.int (nI n), .int (nI r), .ref a, .ref b])), (a, .inl (E.2.1 1, 24, .inl f)), (b, .inl (E.2.1 1, 96, .inl gg))] 0 0 := by
    intro fu
    induction fu with
    | zero => intro i1 ac hi1 hac hmeas; exact absurd hmeas (Nat.not_lt_zero _)
    | succ fu ih_4 =>
      intro i1 ac hi1 hac hmeas
      refine ww_iload_n C dX4_lost_4 0 rfl rfl ?_
      refine ww_iconst (v := 4) C dX4_lost_5 rfl ?_
      refine ww_icmp_ge (tgt := 30) C dX4_lost_6 (by decide) (fun c_1 => ?_) (fun c_1 => ?_)
      · have zc_1 : ((i1 : Nat) : Int) ≥ 4 := i_le rfl (nI_toInt (n := i1) (by omega)) c_1
        refine ww_iload_n C dX4_lost_30 1 rfl rfl ?_
        exact ww_iret (u := [(h, .inr (4, [.int (nI n), .int (nI r), .ref a, .ref b])), (a, .inl (E.2.1 1, 24, .inl f)), (b, .inl (E.2.1 1, 96, .inl gg))]) C hT [0, 1, 2] rfl rfl rfl rfl dX4_lost_31 (⟨rfl, (AC.fin hac (by omega))⟩)
      · have zc_1 : ((i1 : Nat) : Int) < 4 := i_nle rfl (nI_toInt (n := i1) (by omega)) c_1
        refine ww_aload_n C dX4_lost_9 2 rfl rfl ?_
        refine ww_iload_n C dX4_lost_10 0 rfl rfl ?_
        refine ww_iload_n C dX4_lost_11 3 rfl rfl ?_
        refine ww_ci (wr := []) (k' := 0) (n' := 0) C (run_V (As := [.int (nI i1), .int (nI w)]) (rest := []) C (m_held X.2.1 E ro h i1 w n r a b f gg (by omega) (by omega)) mi_X4_held wl_X4_25 rfl 0 4 rfl rfl rfl rfl rfl dX4_lost_12) (roK hro) [0, 1, 2] [] rfl rfl rfl rfl (fun r_2 uz hw => ?_)
        refine an1 hw ?_
        clear hw
        intro he_3 hw
        have he_4 := hw
        clear hw
        have he_3 := he_3.symm
        subst he_3
        subst he_4
        refine ww_eq (ws' := [(h, .inr (4, [.int (nI n), .int (nI r), .ref a, .ref b])), (a, .inl (E.2.1 1, 24, .inl f)), (b, .inl (E.2.1 1, 96, .inl gg))]) ?_ rfl rfl rfl
        refine ww_if_ne (tgt := 24) C dX4_lost_15 (by decide) (fun c_5 => ?_) (fun c_5 => ?_)
        · have zc_5 : (gg (i1 * 24 + w)).toInt ≠ 0 := i_ne rfl rfl c_5
          refine ww_iinc (j := 0) (v := (nI (i1 + 1))) (lv' := [(3, .int (nI (i1 + 1))), (2, .int ac), (0, .ref h), (1, .int (nI w))]) C dX4_lost_24 rfl (nI_add i1 1) rfl rfl ?_
          refine ww_goto (tgt := 4) C dX4_lost_27 (by decide) ?_
          exact ww_lv [0, 1, 2, 3] rfl (ww_sub [0, 1, 2] rfl rfl (ih_4 (i1 + 1) ac (by omega) (AC.f hac (decide_eq_false (i_nz zc_5))) (by omega)))
        · have zc_5 : (gg (i1 * 24 + w)).toInt = 0 := i_eq rfl rfl c_5
          refine ww_iload_n C dX4_lost_18 1 rfl rfl ?_
          refine ww_iconst (v := 1) C dX4_lost_19 rfl ?_
          refine ww_iload_n C dX4_lost_20 0 rfl rfl ?_
          obtain ⟨x_6, ex_6⟩ : ∃ z : Int32, (1 : Int32) <<< ((nI i1) &&& 31) = z := ⟨_, rfl⟩
          refine ww_ishl (v := x_6) C dX4_lost_21 ex_6 ?_
          obtain ⟨x_7, ex_7⟩ : ∃ z : Int32, ac ||| x_6 = z := ⟨_, rfl⟩
          refine ww_ior (v := x_7) C dX4_lost_22 ex_7 ?_
          refine ww_istore_n (lv' := [(2, .int x_7), (3, .int (nI i1)), (0, .ref h), (1, .int (nI w))]) C dX4_lost_23 rfl rfl rfl ?_
          refine ww_iinc (j := 1) (v := (nI (i1 + 1))) (lv' := [(3, .int (nI (i1 + 1))), (2, .int x_7), (0, .ref h), (1, .int (nI w))]) C dX4_lost_24 rfl (nI_add i1 1) rfl rfl ?_
          refine ww_goto (tgt := 4) C dX4_lost_27 (by decide) ?_
          exact ww_lv [0, 1, 2, 3] rfl (ww_sub [0, 1, 2] rfl rfl (ih_4 (i1 + 1) x_7 (by omega) (AC.t hac (by omega) (decide_eq_true (i_z zc_5)) ex_7 ex_6) (by omega)))
  exact ww_lv [0, 1, 2, 3] rfl (ww_sub [0, 1, 2] rfl rfl (loop_4 _ 0 0 (by omega) AC.nil (Nat.lt_succ_self _)))
theorem am_cpy {n r : Nat} {f g f0 g0 f3 g3 : Nat → Int32} (hn : n ≤ 24) (e1 : va_cpy f f0 0 0 24 = f3) (e2 : va_cpy g g0 0 0 96 = g3) : am n r f3 g3 = am n r f g := by
  refine am_eq (fun w hw => ?_) (fun k w hk hw => ?_)
  · rw [← e1]; unfold va_cpy; rw [if_pos (by omega)]; congr 1; omega
  · rw [← e2]; unfold va_cpy; rw [if_pos (by omega)]; congr 1; omega
theorem dX4_become_0 : decode cX4_become 0 = .ok (.aload_n 0, 1) := by decide +kernel
theorem dX4_become_1 : decode cX4_become 1 = .ok (.aload_n 1, 1) := by decide +kernel
theorem dX4_become_2 : decode cX4_become 2 = .ok (.getfield 18, 3) := by decide +kernel
theorem dX4_become_5 : decode cX4_become 5 = .ok (.putfield 18, 3) := by decide +kernel
theorem dX4_become_8 : decode cX4_become 8 = .ok (.aload_n 0, 1) := by decide +kernel
theorem dX4_become_9 : decode cX4_become 9 = .ok (.aload_n 1, 1) := by decide +kernel
theorem dX4_become_10 : decode cX4_become 10 = .ok (.getfield 22, 3) := by decide +kernel
theorem fg_X4_22 : FG RX4 22 4 1 := ⟨RX4, TX4, 4, uw_X4, wf_X4_22, rfl, by decide, rfl⟩
theorem dX4_become_13 : decode cX4_become 13 = .ok (.putfield 22, 3) := by decide +kernel
theorem dX4_become_16 : decode cX4_become 16 = .ok (.aload_n 1, 1) := by decide +kernel
theorem dX4_become_17 : decode cX4_become 17 = .ok (.getfield 9, 3) := by decide +kernel
theorem dX4_become_20 : decode cX4_become 20 = .ok (.iconst 0, 1) := by decide +kernel
theorem dX4_become_21 : decode cX4_become 21 = .ok (.aload_n 0, 1) := by decide +kernel
theorem dX4_become_22 : decode cX4_become 22 = .ok (.getfield 9, 3) := by decide +kernel
theorem dX4_become_25 : decode cX4_become 25 = .ok (.iconst 0, 1) := by decide +kernel
theorem dX4_become_26 : decode cX4_become 26 = .ok (.bipush 24, 2) := by decide +kernel
theorem dX4_become_28 : decode cX4_become 28 = .ok (.invokestatic 38, 3) := by decide +kernel
theorem wl_X4_38 : Cond.methodLink RX4 38 arraycopyName ∈ TB := tbm (tq2 (List.mem_of_getElem? (i := 157) (by decide +kernel))) (by decide +kernel)
theorem wn_ac : Cond.native arraycopyName ∈ TB := tbm (tq2 (List.mem_of_getElem? (i := 159) (by decide +kernel))) (by decide +kernel)
theorem wt_ac : Cond.static arraycopyName ∈ TB := tbm (tq2 (List.mem_of_getElem? (i := 158) (by decide +kernel))) (by decide +kernel)
theorem wn_Sys : Cond.initialized "java/lang/System" ∈ TB := tbm (tq1 (List.mem_of_getElem? (i := 13) (by decide +kernel))) (by decide +kernel)
theorem dX4_become_31 : decode cX4_become 31 = .ok (.aload_n 1, 1) := by decide +kernel
theorem dX4_become_32 : decode cX4_become 32 = .ok (.getfield 15, 3) := by decide +kernel
theorem dX4_become_35 : decode cX4_become 35 = .ok (.iconst 0, 1) := by decide +kernel
theorem dX4_become_36 : decode cX4_become 36 = .ok (.aload_n 0, 1) := by decide +kernel
theorem dX4_become_37 : decode cX4_become 37 = .ok (.getfield 15, 3) := by decide +kernel
theorem dX4_become_40 : decode cX4_become 40 = .ok (.iconst 0, 1) := by decide +kernel
theorem dX4_become_41 : decode cX4_become 41 = .ok (.bipush 96, 2) := by decide +kernel
theorem dX4_become_43 : decode cX4_become 43 = .ok (.invokestatic 38, 3) := by decide +kernel
theorem dX4_become_46 : decode cX4_become 46 = .ok (.return_, 1) := by decide +kernel
set_option maxRecDepth 100000 in
set_option maxHeartbeats 4000000 in
theorem m_become (l : Launch) (E : EV) (ro : va_W) (h : Nat) (o : Nat) (n : Nat) (r : Nat) (a : Nat) (b : Nat) (f : Nat → Int32) (gg : Nat → Int32) (n2 : Nat) (r2 : Nat) (c : Nat) (d : Nat) (f2 : Nat → Int32) (g2 : Nat → Int32) (hn2 : n2 ≤ 24) : CT l yX4_become (Cond.code yX4_become cX4_become 2 none :: TB) ({ frames := 1, cells := 0, slots := 0, locals := 64 }) E ro [.ref h, .ref o] [(h, .inr (4, [.int (nI n), .int (nI r), .ref a, .ref b])), (a, .inl (E.2.1 1, 24, .inl f)), (b, .inl (E.2.1 1, 96, .inl gg)), (o, .inr (4, [.int (nI n2), .int (nI r2), .ref c, .ref d])), (c, .inl (E.2.1 1, 24, .inl f2)), (d, .inl (E.2.1 1, 96, .inl g2))] (Qv E (fun uz => (∃ (f3 : Nat → Int32) (g3 : Nat → Int32), uz = [(h, .inr (4, [.int (nI n2), .int (nI r2), .ref a, .ref b])), (a, .inl (E.2.1 1, 24, .inl f3)), (b, .inl (E.2.1 1, 96, .inl g3)), (o, .inr (4, [.int (nI n2), .int (nI r2), .ref c, .ref d])), (c, .inl (E.2.1 1, 24, .inl f2)), (d, .inl (E.2.1 1, 96, .inl g2))] ∧ (am n2 r2 f3 g3 = am n2 r2 f2 g2)))) 0 0 := by
  refine ct_of rfl rfl ?_
  intro X C hT hin hro
  show WW X 2 E 0 [(0, .ref h), (1, .ref o)] [] [(h, .inr (4, [.int (nI n), .int (nI r), .ref a, .ref b])), (a, .inl (E.2.1 1, 24, .inl f)), (b, .inl (E.2.1 1, 96, .inl gg)), (o, .inr (4, [.int (nI n2), .int (nI r2), .ref c, .ref d])), (c, .inl (E.2.1 1, 24, .inl f2)), (d, .inl (E.2.1 1, 96, .inl g2))] 0 0
  refine ww_aload_n C dX4_become_0 0 rfl rfl ?_
  refine ww_aload_n C dX4_become_1 1 rfl rfl ?_
  refine ww_get C fg_X4_18 3 rfl rfl dX4_become_2 ?_
  refine ww_put (ws' := [(h, .inr (4, [.int (nI n2), .int (nI r), .ref a, .ref b])), (a, .inl (E.2.1 1, 24, .inl f)), (b, .inl (E.2.1 1, 96, .inl gg)), (o, .inr (4, [.int (nI n2), .int (nI r2), .ref c, .ref d])), (c, .inl (E.2.1 1, 24, .inl f2)), (d, .inl (E.2.1 1, 96, .inl g2))]) C fp_X4_18 0 rfl rfl rfl rfl rfl dX4_become_5 ?_
  refine ww_aload_n C dX4_become_8 0 rfl rfl ?_
  refine ww_aload_n C dX4_become_9 1 rfl rfl ?_
  refine ww_get C fg_X4_22 3 rfl rfl dX4_become_10 ?_
  refine ww_put (ws' := [(h, .inr (4, [.int (nI n2), .int (nI r2), .ref a, .ref b])), (a, .inl (E.2.1 1, 24, .inl f)), (b, .inl (E.2.1 1, 96, .inl gg)), (o, .inr (4, [.int (nI n2), .int (nI r2), .ref c, .ref d])), (c, .inl (E.2.1 1, 24, .inl f2)), (d, .inl (E.2.1 1, 96, .inl g2))]) C fp_X4_22 0 rfl rfl rfl rfl rfl dX4_become_13 ?_
  refine ww_aload_n C dX4_become_16 1 rfl rfl ?_
  refine ww_get C fg_X4_9 3 rfl rfl dX4_become_17 ?_
  refine ww_iconst (v := 0) C dX4_become_20 rfl ?_
  refine ww_aload_n C dX4_become_21 0 rfl rfl ?_
  refine ww_get C fg_X4_9 0 rfl rfl dX4_become_22 ?_
  refine ww_iconst (v := 0) C dX4_become_25 rfl ?_
  refine ww_bipush (v := 24) C dX4_become_26 rfl ?_
  obtain ⟨f_1, ef_1⟩ : ∃ z : Nat → Int32, va_cpy f2 f 0 0 24 = z := ⟨_, rfl⟩
  refine ww_copyi (ws' := [(h, .inr (4, [.int (nI n2), .int (nI r2), .ref a, .ref b])), (a, .inl (E.2.1 1, 24, .inl f_1)), (b, .inl (E.2.1 1, 96, .inl gg)), (o, .inr (4, [.int (nI n2), .int (nI r2), .ref c, .ref d])), (c, .inl (E.2.1 1, 24, .inl f2)), (d, .inl (E.2.1 1, 96, .inl g2))]) C wl_X4_38 wn_ac wt_ac wn_Sys 4 1 rfl rfl (by decide) (by decide) (by decide) (by decide) (by decide) rfl ef_1 rfl dX4_become_28 ?_
  refine ww_aload_n C dX4_become_31 1 rfl rfl ?_
  refine ww_get C fg_X4_15 3 rfl rfl dX4_become_32 ?_
  refine ww_iconst (v := 0) C dX4_become_35 rfl ?_
  refine ww_aload_n C dX4_become_36 0 rfl rfl ?_
  refine ww_get C fg_X4_15 0 rfl rfl dX4_become_37 ?_
  refine ww_iconst (v := 0) C dX4_become_40 rfl ?_
  refine ww_bipush (v := 96) C dX4_become_41 rfl ?_
  obtain ⟨f_2, ef_2⟩ : ∃ z : Nat → Int32, va_cpy g2 gg 0 0 96 = z := ⟨_, rfl⟩
  refine ww_copyi (ws' := [(h, .inr (4, [.int (nI n2), .int (nI r2), .ref a, .ref b])), (a, .inl (E.2.1 1, 24, .inl f_1)), (b, .inl (E.2.1 1, 96, .inl f_2)), (o, .inr (4, [.int (nI n2), .int (nI r2), .ref c, .ref d])), (c, .inl (E.2.1 1, 24, .inl f2)), (d, .inl (E.2.1 1, 96, .inl g2))]) C wl_X4_38 wn_ac wt_ac wn_Sys 5 2 rfl rfl (by decide) (by decide) (by decide) (by decide) (by decide) rfl ef_2 rfl dX4_become_43 ?_
  exact ww_vret (u := [(h, .inr (4, [.int (nI n2), .int (nI r2), .ref a, .ref b])), (a, .inl (E.2.1 1, 24, .inl f_1)), (b, .inl (E.2.1 1, 96, .inl f_2)), (o, .inr (4, [.int (nI n2), .int (nI r2), .ref c, .ref d])), (c, .inl (E.2.1 1, 24, .inl f2)), (d, .inl (E.2.1 1, 96, .inl g2))]) C hT [0, 1, 2, 3, 4, 5] rfl rfl rfl rfl dX4_become_46 (⟨f_1, f_2, rfl, (am_cpy hn2 ef_1 ef_2)⟩)
theorem vF_bs {n r : Nat} {f g : Nat → Int32} {x y : Int32} (h : BS y (fun w => decide (w < n) && decide (¬ (f w &&& x = 0)))) : BS y (vF (am n r f g) x) := h.cg (fun w _ => by
  show _ = (decide (w < n) && decide (¬ ((am n r f g).2.2.1 w &&& x = 0)))
  by_cases q : w < n
  · rw [am_F q]
  · rw [decide_eq_false q, Bool.false_and, Bool.false_and])
theorem dX4_withFact_0 : decode cX4_withFact 0 = .ok (.iconst 0, 1) := by decide +kernel
theorem dX4_withFact_1 : decode cX4_withFact 1 = .ok (.istore_n 2, 1) := by decide +kernel
theorem dX4_withFact_2 : decode cX4_withFact 2 = .ok (.iconst 0, 1) := by decide +kernel
theorem dX4_withFact_3 : decode cX4_withFact 3 = .ok (.istore_n 3, 1) := by decide +kernel
theorem dX4_withFact_4 : decode cX4_withFact 4 = .ok (.iload_n 3, 1) := by decide +kernel
theorem dX4_withFact_5 : decode cX4_withFact 5 = .ok (.aload_n 0, 1) := by decide +kernel
theorem dX4_withFact_6 : decode cX4_withFact 6 = .ok (.getfield 18, 3) := by decide +kernel
theorem dX4_withFact_9 : decode cX4_withFact 9 = .ok (.if_icmp .ge 26, 3) := by decide +kernel
theorem dX4_withFact_35 : decode cX4_withFact 35 = .ok (.iload_n 2, 1) := by decide +kernel
theorem dX4_withFact_36 : decode cX4_withFact 36 = .ok (.ireturn, 1) := by decide +kernel
theorem dX4_withFact_12 : decode cX4_withFact 12 = .ok (.aload_n 0, 1) := by decide +kernel
theorem dX4_withFact_13 : decode cX4_withFact 13 = .ok (.getfield 9, 3) := by decide +kernel
theorem dX4_withFact_16 : decode cX4_withFact 16 = .ok (.iload_n 3, 1) := by decide +kernel
theorem dX4_withFact_17 : decode cX4_withFact 17 = .ok (.iaload, 1) := by decide +kernel
theorem dX4_withFact_18 : decode cX4_withFact 18 = .ok (.iload_n 1, 1) := by decide +kernel
theorem dX4_withFact_19 : decode cX4_withFact 19 = .ok (.iand, 1) := by decide +kernel
theorem dX4_withFact_20 : decode cX4_withFact 20 = .ok (.ifCond .eq 9, 3) := by decide +kernel
theorem dX4_withFact_29 : decode cX4_withFact 29 = .ok (.iinc 3 1, 3) := by decide +kernel
theorem dX4_withFact_32 : decode cX4_withFact 32 = .ok (.goto (-28), 3) := by decide +kernel
theorem dX4_withFact_23 : decode cX4_withFact 23 = .ok (.iload_n 2, 1) := by decide +kernel
theorem dX4_withFact_24 : decode cX4_withFact 24 = .ok (.iconst 1, 1) := by decide +kernel
theorem dX4_withFact_25 : decode cX4_withFact 25 = .ok (.iload_n 3, 1) := by decide +kernel
theorem dX4_withFact_26 : decode cX4_withFact 26 = .ok (.ishl, 1) := by decide +kernel
theorem dX4_withFact_27 : decode cX4_withFact 27 = .ok (.ior, 1) := by decide +kernel
theorem dX4_withFact_28 : decode cX4_withFact 28 = .ok (.istore_n 2, 1) := by decide +kernel
set_option maxRecDepth 100000 in
set_option maxHeartbeats 4000000 in
theorem m_withFact (l : Launch) (E : EV) (ro : va_W) (h : Nat) (x : Int32) (n : Nat) (r : Nat) (a : Nat) (b : Nat) (f : Nat → Int32) (gg : Nat → Int32) (hn : n ≤ 24) (hr : r < n ∨ r = 0) : CT l yX4_withFact (Cond.code yX4_withFact cX4_withFact 4 (some .int) :: TB) ({ frames := 0, cells := 0, slots := 0, locals := 0 }) E ro [.ref h, .int x] [(h, .inr (4, [.int (nI n), .int (nI r), .ref a, .ref b])), (a, .inl (E.2.1 1, 24, .inl f)), (b, .inl (E.2.1 1, 96, .inl gg))] (Qi E (fun (rz : Int32) uz => (uz = [(h, .inr (4, [.int (nI n), .int (nI r), .ref a, .ref b])), (a, .inl (E.2.1 1, 24, .inl f)), (b, .inl (E.2.1 1, 96, .inl gg))] ∧ (BS rz (vF (am n r f gg) x))))) 0 0 := by
  refine ct_of rfl rfl ?_
  intro X C hT hin hro
  show WW X 4 E 0 [(0, .ref h), (1, .int x)] [] [(h, .inr (4, [.int (nI n), .int (nI r), .ref a, .ref b])), (a, .inl (E.2.1 1, 24, .inl f)), (b, .inl (E.2.1 1, 96, .inl gg))] 0 0
  refine ww_iconst (v := 0) C dX4_withFact_0 rfl ?_
  refine ww_istore_n (lv' := [(2, .int 0), (0, .ref h), (1, .int x)]) C dX4_withFact_1 rfl rfl rfl ?_
  refine ww_iconst (v := 0) C dX4_withFact_2 rfl ?_
  refine ww_istore_n (lv' := [(3, .int 0), (2, .int 0), (0, .ref h), (1, .int x)]) C dX4_withFact_3 rfl rfl rfl ?_
  have loop_4 : ∀ (fu : Nat) (i1 : Nat) (ac : Int32), (i1 ≤ n) → (AC ac no_ i1 (fun w => decide (¬ (f w &&& x = 0)))) → n - i1 < fu → WW X 4 E 4 [(3, .int (nI i1)), (2, .int ac), (0, .ref h), (1, .int x)] [] [(h, .inr (4, [.int (nI n), .int (nI r), .ref a, .ref b])), (a, .inl (E.2.1 1, 24, .inl f)), (b, .inl (E.2.1 1, 96, .inl gg))] 0 0 := by
    intro fu
    induction fu with
    | zero => intro i1 ac hi1 hac hmeas; exact absurd hmeas (Nat.not_lt_zero _)
    | succ fu ih_4 =>
      intro i1 ac hi1 hac hmeas
      refine ww_iload_n C dX4_withFact_4 0 rfl rfl ?_
      refine ww_aload_n C dX4_withFact_5 2 rfl rfl ?_
      refine ww_get C fg_X4_18 0 rfl rfl dX4_withFact_6 ?_
      refine ww_icmp_ge (tgt := 35) C dX4_withFact_9 (by decide) (fun c_1 => ?_) (fun c_1 => ?_)
      · have zc_1 : ((i1 : Nat) : Int) ≥ ((n : Nat) : Int) := i_le (nI_toInt (n := n) (by omega)) (nI_toInt (n := i1) (by omega)) c_1
        refine ww_iload_n C dX4_withFact_35 1 rfl rfl ?_
        exact ww_iret (u := [(h, .inr (4, [.int (nI n), .int (nI r), .ref a, .ref b])), (a, .inl (E.2.1 1, 24, .inl f)), (b, .inl (E.2.1 1, 96, .inl gg))]) C hT [0, 1, 2] rfl rfl rfl rfl dX4_withFact_36 (⟨rfl, (vF_bs (AC.fin hac (by omega)))⟩)
      · have zc_1 : ((i1 : Nat) : Int) < ((n : Nat) : Int) := i_nle (nI_toInt (n := n) (by omega)) (nI_toInt (n := i1) (by omega)) c_1
        refine ww_aload_n C dX4_withFact_12 2 rfl rfl ?_
        refine ww_get C fg_X4_9 0 rfl rfl dX4_withFact_13 ?_
        refine ww_iload_n C dX4_withFact_16 0 rfl rfl ?_
        obtain ⟨x_2, ex_2⟩ : ∃ z : Int32, f i1 = z := ⟨_, rfl⟩
        refine ww_iald (v := x_2) C 1 rfl (vp_in_nI (by omega) (by omega)) (ldn (by omega) ex_2) dX4_withFact_17 ?_
        refine ww_iload_n C dX4_withFact_18 3 rfl rfl ?_
        obtain ⟨x_3, ex_3⟩ : ∃ z : Int32, x_2 &&& x = z := ⟨_, rfl⟩
        refine ww_iand (v := x_3) C dX4_withFact_19 ex_3 ?_
        refine ww_if_eq (tgt := 29) C dX4_withFact_20 (by decide) (fun c_4 => ?_) (fun c_4 => ?_)
        · have zc_4 : x_3.toInt = 0 := i_eq rfl rfl c_4
          refine ww_iinc (j := 0) (v := (nI (i1 + 1))) (lv' := [(3, .int (nI (i1 + 1))), (2, .int ac), (0, .ref h), (1, .int x)]) C dX4_withFact_29 rfl (nI_add i1 1) rfl rfl ?_
          refine ww_goto (tgt := 4) C dX4_withFact_32 (by decide) ?_
          exact ww_lv [0, 1, 2, 3] rfl (ww_sub [0, 1, 2] rfl rfl (ih_4 (i1 + 1) ac (by omega) (AC.f hac (decide_eq_false (fun h9 => h9 ((show f i1 &&& x = x_3 by rw [ex_2, ex_3]).trans (i_z zc_4))))) (by omega)))
        · have zc_4 : x_3.toInt ≠ 0 := i_ne rfl rfl c_4
          refine ww_iload_n C dX4_withFact_23 1 rfl rfl ?_
          refine ww_iconst (v := 1) C dX4_withFact_24 rfl ?_
          refine ww_iload_n C dX4_withFact_25 0 rfl rfl ?_
          obtain ⟨x_5, ex_5⟩ : ∃ z : Int32, (1 : Int32) <<< ((nI i1) &&& 31) = z := ⟨_, rfl⟩
          refine ww_ishl (v := x_5) C dX4_withFact_26 ex_5 ?_
          obtain ⟨x_6, ex_6⟩ : ∃ z : Int32, ac ||| x_5 = z := ⟨_, rfl⟩
          refine ww_ior (v := x_6) C dX4_withFact_27 ex_6 ?_
          refine ww_istore_n (lv' := [(2, .int x_6), (3, .int (nI i1)), (0, .ref h), (1, .int x)]) C dX4_withFact_28 rfl rfl rfl ?_
          refine ww_iinc (j := 1) (v := (nI (i1 + 1))) (lv' := [(3, .int (nI (i1 + 1))), (2, .int x_6), (0, .ref h), (1, .int x)]) C dX4_withFact_29 rfl (nI_add i1 1) rfl rfl ?_
          refine ww_goto (tgt := 4) C dX4_withFact_32 (by decide) ?_
          exact ww_lv [0, 1, 2, 3] rfl (ww_sub [0, 1, 2] rfl rfl (ih_4 (i1 + 1) x_6 (by omega) (AC.t hac (by omega) (decide_eq_true (fun h9 => zc_4 (by rw [← (show f i1 &&& x = x_3 by rw [ex_2, ex_3]), h9]; rfl))) ex_6 ex_5) (by omega)))
  exact ww_lv [0, 1, 2, 3] rfl (ww_sub [0, 1, 2] rfl rfl (loop_4 _ 0 0 (by omega) AC.nil (Nat.lt_succ_self _)))
theorem dX4_nextOf_0 : decode cX4_nextOf 0 = .ok (.iconst 0, 1) := by decide +kernel
theorem dX4_nextOf_1 : decode cX4_nextOf 1 = .ok (.istore_n 3, 1) := by decide +kernel
theorem dX4_nextOf_2 : decode cX4_nextOf 2 = .ok (.iconst 0, 1) := by decide +kernel
theorem dX4_nextOf_3 : decode cX4_nextOf 3 = .ok (.istore 4, 2) := by decide +kernel
theorem dX4_nextOf_5 : decode cX4_nextOf 5 = .ok (.iload 4, 2) := by decide +kernel
theorem dX4_nextOf_7 : decode cX4_nextOf 7 = .ok (.iconst 4, 1) := by decide +kernel
theorem dX4_nextOf_8 : decode cX4_nextOf 8 = .ok (.if_icmp .ge 33, 3) := by decide +kernel
theorem dX4_nextOf_41 : decode cX4_nextOf 41 = .ok (.iload_n 3, 1) := by decide +kernel
theorem dX4_nextOf_42 : decode cX4_nextOf 42 = .ok (.ireturn, 1) := by decide +kernel
theorem dX4_nextOf_11 : decode cX4_nextOf 11 = .ok (.iload_n 1, 1) := by decide +kernel
theorem dX4_nextOf_12 : decode cX4_nextOf 12 = .ok (.iload 4, 2) := by decide +kernel
theorem dX4_nextOf_14 : decode cX4_nextOf 14 = .ok (.ishr, 1) := by decide +kernel
theorem dX4_nextOf_15 : decode cX4_nextOf 15 = .ok (.iconst 1, 1) := by decide +kernel
theorem dX4_nextOf_16 : decode cX4_nextOf 16 = .ok (.iand, 1) := by decide +kernel
theorem dX4_nextOf_17 : decode cX4_nextOf 17 = .ok (.ifCond .eq 18, 3) := by decide +kernel
theorem dX4_nextOf_35 : decode cX4_nextOf 35 = .ok (.iinc 4 1, 3) := by decide +kernel
theorem dX4_nextOf_38 : decode cX4_nextOf 38 = .ok (.goto (-33), 3) := by decide +kernel
theorem dX4_nextOf_20 : decode cX4_nextOf 20 = .ok (.iload_n 3, 1) := by decide +kernel
theorem dX4_nextOf_21 : decode cX4_nextOf 21 = .ok (.aload_n 0, 1) := by decide +kernel
theorem dX4_nextOf_22 : decode cX4_nextOf 22 = .ok (.getfield 15, 3) := by decide +kernel
theorem dX4_nextOf_25 : decode cX4_nextOf 25 = .ok (.iload 4, 2) := by decide +kernel
theorem dX4_nextOf_27 : decode cX4_nextOf 27 = .ok (.bipush 24, 2) := by decide +kernel
theorem dX4_nextOf_29 : decode cX4_nextOf 29 = .ok (.imul, 1) := by decide +kernel
theorem dX4_nextOf_30 : decode cX4_nextOf 30 = .ok (.iload_n 2, 1) := by decide +kernel
theorem dX4_nextOf_31 : decode cX4_nextOf 31 = .ok (.iadd, 1) := by decide +kernel
theorem dX4_nextOf_32 : decode cX4_nextOf 32 = .ok (.iaload, 1) := by decide +kernel
theorem dX4_nextOf_33 : decode cX4_nextOf 33 = .ok (.ior, 1) := by decide +kernel
theorem dX4_nextOf_34 : decode cX4_nextOf 34 = .ok (.istore_n 3, 1) := by decide +kernel
set_option maxRecDepth 100000 in
set_option maxHeartbeats 4000000 in
theorem m_nextOf (l : Launch) (E : EV) (ro : va_W) (h : Nat) (gr : Int32) (w : Nat) (n : Nat) (r : Nat) (a : Nat) (b : Nat) (f : Nat → Int32) (gg : Nat → Int32) (hw : w < n) (hn : n ≤ 24) : CT l yX4_nextOf (Cond.code yX4_nextOf cX4_nextOf 5 (some .int) :: TB) ({ frames := 0, cells := 0, slots := 0, locals := 0 }) E ro [.ref h, .int gr, .int (nI w)] [(h, .inr (4, [.int (nI n), .int (nI r), .ref a, .ref b])), (a, .inl (E.2.1 1, 24, .inl f)), (b, .inl (E.2.1 1, 96, .inl gg))] (Qi E (fun (rz : Int32) uz => (uz = [(h, .inr (4, [.int (nI n), .int (nI r), .ref a, .ref b])), (a, .inl (E.2.1 1, 24, .inl f)), (b, .inl (E.2.1 1, 96, .inl gg))] ∧ (BS rz (nx (am n r f gg) gr w))))) 0 0 := by
  refine ct_of rfl rfl ?_
  intro X C hT hin hro
  show WW X 5 E 0 [(0, .ref h), (1, .int gr), (2, .int (nI w))] [] [(h, .inr (4, [.int (nI n), .int (nI r), .ref a, .ref b])), (a, .inl (E.2.1 1, 24, .inl f)), (b, .inl (E.2.1 1, 96, .inl gg))] 0 0
  refine ww_iconst (v := 0) C dX4_nextOf_0 rfl ?_
  refine ww_istore_n (lv' := [(3, .int 0), (0, .ref h), (1, .int gr), (2, .int (nI w))]) C dX4_nextOf_1 rfl rfl rfl ?_
  refine ww_iconst (v := 0) C dX4_nextOf_2 rfl ?_
  refine ww_istore (lv' := [(4, .int 0), (3, .int 0), (0, .ref h), (1, .int gr), (2, .int (nI w))]) C dX4_nextOf_3 rfl rfl ?_
  have loop_5 : ∀ (fu : Nat) (i1 : Nat) (ac : Int32), (i1 ≤ 4) → (NXr gr gg w i1 ac) → 4 - i1 < fu → WW X 5 E 5 [(4, .int (nI i1)), (3, .int ac), (0, .ref h), (1, .int gr), (2, .int (nI w))] [] [(h, .inr (4, [.int (nI n), .int (nI r), .ref a, .ref b])), (a, .inl (E.2.1 1, 24, .inl f)), (b, .inl (E.2.1 1, 96, .inl gg))] 0 0 := by
    intro fu
    induction fu with
    | zero => intro i1 ac hi1 hnx hmeas; exact absurd hmeas (Nat.not_lt_zero _)
    | succ fu ih_5 =>
      intro i1 ac hi1 hnx hmeas
      refine ww_iload C dX4_nextOf_5 0 rfl ?_
      refine ww_iconst (v := 4) C dX4_nextOf_7 rfl ?_
      refine ww_icmp_ge (tgt := 41) C dX4_nextOf_8 (by decide) (fun c_1 => ?_) (fun c_1 => ?_)
      · have zc_1 : ((i1 : Nat) : Int) ≥ 4 := i_le rfl (nI_toInt (n := i1) (by omega)) c_1
        refine ww_iload_n C dX4_nextOf_41 1 rfl rfl ?_
        exact ww_iret (u := [(h, .inr (4, [.int (nI n), .int (nI r), .ref a, .ref b])), (a, .inl (E.2.1 1, 24, .inl f)), (b, .inl (E.2.1 1, 96, .inl gg))]) C hT [0, 1, 2] rfl rfl rfl rfl dX4_nextOf_42 (⟨rfl, (nx_am hw (by have h9 : NXr gr gg w 4 ac := (by rw [show (4 : Nat) = i1 by omega]; exact hnx); exact h9))⟩)
      · have zc_1 : ((i1 : Nat) : Int) < 4 := i_nle rfl (nI_toInt (n := i1) (by omega)) c_1
        refine ww_iload_n C dX4_nextOf_11 3 rfl rfl ?_
        refine ww_iload C dX4_nextOf_12 0 rfl ?_
        obtain ⟨x_2, ex_2⟩ : ∃ z : Int32, gr >>> ((nI i1) &&& 31) = z := ⟨_, rfl⟩
        refine ww_ishr (v := x_2) C dX4_nextOf_14 ex_2 ?_
        refine ww_iconst (v := 1) C dX4_nextOf_15 rfl ?_
        obtain ⟨j_3, hj_3, ej_3⟩ := pk_andE x_2 (m := 1) 1 rfl
        refine ww_iand (v := (nI j_3)) C dX4_nextOf_16 ej_3 ?_
        refine ww_if_eq (tgt := 35) C dX4_nextOf_17 (by decide) (fun c_4 => ?_) (fun c_4 => ?_)
        · have zc_4 : ((j_3 : Nat) : Int) = 0 := i_eq (nI_toInt (n := j_3) (by omega)) rfl c_4
          refine ww_iinc (j := 0) (v := (nI (i1 + 1))) (lv' := [(4, .int (nI (i1 + 1))), (3, .int ac), (0, .ref h), (1, .int gr), (2, .int (nI w))]) C dX4_nextOf_35 rfl (nI_add i1 1) rfl rfl ?_
          refine ww_goto (tgt := 5) C dX4_nextOf_38 (by decide) ?_
          exact ww_lv [0, 1, 2, 3, 4] rfl (ww_sub [0, 1, 2] rfl rfl (ih_5 (i1 + 1) ac (by omega) (NXr.f hnx (hasb_0 (by omega) ex_2 ej_3 (by omega))) (by omega)))
        · have zc_4 : ((j_3 : Nat) : Int) ≠ 0 := i_ne (nI_toInt (n := j_3) (by omega)) rfl c_4
          refine ww_iload_n C dX4_nextOf_20 1 rfl rfl ?_
          refine ww_aload_n C dX4_nextOf_21 2 rfl rfl ?_
          refine ww_get C fg_X4_15 0 rfl rfl dX4_nextOf_22 ?_
          refine ww_iload C dX4_nextOf_25 0 rfl ?_
          refine ww_bipush (v := 24) C dX4_nextOf_27 rfl ?_
          refine ww_imul (v := (nI (i1 * 24))) C dX4_nextOf_29 (pk_mul i1 24) ?_
          refine ww_iload_n C dX4_nextOf_30 4 rfl rfl ?_
          refine ww_iadd (v := (nI ((i1 * 24) + w))) C dX4_nextOf_31 (nI_add (i1 * 24) w) ?_
          obtain ⟨x_5, ex_5⟩ : ∃ z : Int32, gg ((i1 * 24) + w) = z := ⟨_, rfl⟩
          refine ww_iald (v := x_5) C 2 rfl (vp_in_nI (by omega) (by omega)) (ldn (by omega) ex_5) dX4_nextOf_32 ?_
          obtain ⟨x_6, ex_6⟩ : ∃ z : Int32, ac ||| x_5 = z := ⟨_, rfl⟩
          refine ww_ior (v := x_6) C dX4_nextOf_33 ex_6 ?_
          refine ww_istore_n (lv' := [(3, .int x_6), (4, .int (nI i1)), (0, .ref h), (1, .int gr), (2, .int (nI w))]) C dX4_nextOf_34 rfl rfl rfl ?_
          refine ww_iinc (j := 1) (v := (nI (i1 + 1))) (lv' := [(4, .int (nI (i1 + 1))), (3, .int x_6), (0, .ref h), (1, .int gr), (2, .int (nI w))]) C dX4_nextOf_35 rfl (nI_add i1 1) rfl rfl ?_
          refine ww_goto (tgt := 5) C dX4_nextOf_38 (by decide) ?_
          exact ww_lv [0, 1, 2, 3, 4] rfl (ww_sub [0, 1, 2] rfl rfl (ih_5 (i1 + 1) x_6 (by omega) (NXr.t hnx (hasb_1 (by omega) ex_2 ej_3 (by omega)) ex_5 ex_6) (by omega)))
  exact ww_lv [0, 1, 2, 3, 4] rfl (ww_sub [0, 1, 2] rfl rfl (loop_5 _ 0 0 (by omega) NXr.nil (Nat.lt_succ_self _)))
theorem dX4_leadingTo_0 : decode cX4_leadingTo 0 = .ok (.iconst 0, 1) := by decide +kernel
theorem dX4_leadingTo_1 : decode cX4_leadingTo 1 = .ok (.istore 4, 2) := by decide +kernel
theorem dX4_leadingTo_3 : decode cX4_leadingTo 3 = .ok (.iconst 0, 1) := by decide +kernel
theorem dX4_leadingTo_4 : decode cX4_leadingTo 4 = .ok (.istore 5, 2) := by decide +kernel
theorem dX4_leadingTo_6 : decode cX4_leadingTo 6 = .ok (.iload 5, 2) := by decide +kernel
theorem dX4_leadingTo_8 : decode cX4_leadingTo 8 = .ok (.iload_n 3, 1) := by decide +kernel
theorem dX4_leadingTo_9 : decode cX4_leadingTo 9 = .ok (.if_icmp .ge 69, 3) := by decide +kernel
theorem dX4_leadingTo_78 : decode cX4_leadingTo 78 = .ok (.iload 4, 2) := by decide +kernel
theorem dX4_leadingTo_80 : decode cX4_leadingTo 80 = .ok (.ireturn, 1) := by decide +kernel
theorem dX4_leadingTo_12 : decode cX4_leadingTo 12 = .ok (.iload 4, 2) := by decide +kernel
theorem dX4_leadingTo_14 : decode cX4_leadingTo 14 = .ok (.istore 6, 2) := by decide +kernel
theorem dX4_leadingTo_16 : decode cX4_leadingTo 16 = .ok (.iconst 0, 1) := by decide +kernel
theorem dX4_leadingTo_17 : decode cX4_leadingTo 17 = .ok (.istore 7, 2) := by decide +kernel
theorem dX4_leadingTo_19 : decode cX4_leadingTo 19 = .ok (.iload 7, 2) := by decide +kernel
theorem dX4_leadingTo_21 : decode cX4_leadingTo 21 = .ok (.aload_n 0, 1) := by decide +kernel
theorem dX4_leadingTo_22 : decode cX4_leadingTo 22 = .ok (.getfield 18, 3) := by decide +kernel
theorem dX4_leadingTo_25 : decode cX4_leadingTo 25 = .ok (.if_icmp .ge 33, 3) := by decide +kernel
theorem dX4_leadingTo_58 : decode cX4_leadingTo 58 = .ok (.iload 6, 2) := by decide +kernel
theorem dX4_leadingTo_60 : decode cX4_leadingTo 60 = .ok (.iload 4, 2) := by decide +kernel
theorem dX4_leadingTo_62 : decode cX4_leadingTo 62 = .ok (.if_icmp .ne 6, 3) := by decide +kernel
theorem dX4_leadingTo_68 : decode cX4_leadingTo 68 = .ok (.iload 6, 2) := by decide +kernel
theorem dX4_leadingTo_70 : decode cX4_leadingTo 70 = .ok (.istore 4, 2) := by decide +kernel
theorem dX4_leadingTo_72 : decode cX4_leadingTo 72 = .ok (.iinc 5 1, 3) := by decide +kernel
theorem dX4_leadingTo_75 : decode cX4_leadingTo 75 = .ok (.goto (-69), 3) := by decide +kernel
theorem dX4_leadingTo_65 : decode cX4_leadingTo 65 = .ok (.goto 13, 3) := by decide +kernel
theorem dX4_leadingTo_28 : decode cX4_leadingTo 28 = .ok (.aload_n 0, 1) := by decide +kernel
theorem dX4_leadingTo_29 : decode cX4_leadingTo 29 = .ok (.iload_n 1, 1) := by decide +kernel
theorem dX4_leadingTo_30 : decode cX4_leadingTo 30 = .ok (.iload 7, 2) := by decide +kernel
theorem dX4_leadingTo_32 : decode cX4_leadingTo 32 = .ok (.invokevirtual 44, 3) := by decide +kernel
theorem wl_X4_44 : Cond.methodLink RX4 44 yX4_nextOf ∈ TB := tbm (tq2 (List.mem_of_getElem? (i := 223) (by decide +kernel))) (by decide +kernel)
theorem wc_X4_nextOf : Cond.code yX4_nextOf cX4_nextOf 5 (some .int) ∈ TB := tbm (tq2 (List.mem_of_getElem? (i := 226) (rfl))) (by decide +kernel)
theorem wi_X4_nextOf : Cond.instanceMethod yX4_nextOf ∈ TB := tbm (tq2 (List.mem_of_getElem? (i := 225) (by decide +kernel))) (by decide +kernel)
theorem ws_X4_nextOf : Cond.selects RX4 yX4_nextOf yX4_nextOf ∈ TB := tbm (tq0 (List.mem_of_getElem? (i := 2) (by decide +kernel))) (by decide +kernel)
theorem mi_X4_nextOf : MI yX4_nextOf cX4_nextOf 5 (some .int) 2 := ⟨wc_X4_nextOf, wn_X4, ⟨by decide +kernel, by decide +kernel, by decide +kernel⟩, wi_X4_nextOf, ws_X4_nextOf⟩
theorem dX4_leadingTo_35 : decode cX4_leadingTo 35 = .ok (.iload_n 2, 1) := by decide +kernel
theorem dX4_leadingTo_36 : decode cX4_leadingTo 36 = .ok (.iload 4, 2) := by decide +kernel
theorem dX4_leadingTo_38 : decode cX4_leadingTo 38 = .ok (.ior, 1) := by decide +kernel
theorem dX4_leadingTo_39 : decode cX4_leadingTo 39 = .ok (.iand, 1) := by decide +kernel
theorem dX4_leadingTo_40 : decode cX4_leadingTo 40 = .ok (.ifCond .eq 12, 3) := by decide +kernel
theorem dX4_leadingTo_52 : decode cX4_leadingTo 52 = .ok (.iinc 7 1, 3) := by decide +kernel
theorem dX4_leadingTo_55 : decode cX4_leadingTo 55 = .ok (.goto (-36), 3) := by decide +kernel
theorem dX4_leadingTo_43 : decode cX4_leadingTo 43 = .ok (.iload 6, 2) := by decide +kernel
theorem dX4_leadingTo_45 : decode cX4_leadingTo 45 = .ok (.iconst 1, 1) := by decide +kernel
theorem dX4_leadingTo_46 : decode cX4_leadingTo 46 = .ok (.iload 7, 2) := by decide +kernel
theorem dX4_leadingTo_48 : decode cX4_leadingTo 48 = .ok (.ishl, 1) := by decide +kernel
theorem dX4_leadingTo_49 : decode cX4_leadingTo 49 = .ok (.ior, 1) := by decide +kernel
theorem dX4_leadingTo_50 : decode cX4_leadingTo 50 = .ok (.istore 6, 2) := by decide +kernel
set_option maxRecDepth 100000 in
set_option maxHeartbeats 4000000 in
theorem m_leadingTo (l : Launch) (E : EV) (ro : va_W) (h : Nat) (gr : Int32) (wd : Int32) (st : Nat) (n : Nat) (r : Nat) (a : Nat) (b : Nat) (f : Nat → Int32) (gg : Nat → Int32) (hn : n ≤ 24) (hr : r < n ∨ r = 0) (hst : st ≤ 24) : CT l yX4_leadingTo (Cond.code yX4_leadingTo cX4_leadingTo 8 (some .int) :: TB) ({ frames := 1, cells := 0, slots := 0, locals := 24 }) E ro [.ref h, .int gr, .int wd, .int (nI st)] [(h, .inr (4, [.int (nI n), .int (nI r), .ref a, .ref b])), (a, .inl (E.2.1 1, 24, .inl f)), (b, .inl (E.2.1 1, 96, .inl gg))] (Qi E (fun (rz : Int32) uz => (uz = [(h, .inr (4, [.int (nI n), .int (nI r), .ref a, .ref b])), (a, .inl (E.2.1 1, 24, .inl f)), (b, .inl (E.2.1 1, 96, .inl gg))] ∧ (BS rz (ld (am n r f gg) gr (bt wd) st))))) 0 0 := by
  refine ct_of rfl rfl ?_
  intro X C hT hin hro
  show WW X 8 E 0 [(0, .ref h), (1, .int gr), (2, .int wd), (3, .int (nI st))] [] [(h, .inr (4, [.int (nI n), .int (nI r), .ref a, .ref b])), (a, .inl (E.2.1 1, 24, .inl f)), (b, .inl (E.2.1 1, 96, .inl gg))] 0 0
  refine ww_iconst (v := 0) C dX4_leadingTo_0 rfl ?_
  refine ww_istore (lv' := [(4, .int 0), (0, .ref h), (1, .int gr), (2, .int wd), (3, .int (nI st))]) C dX4_leadingTo_1 rfl rfl ?_
  refine ww_iconst (v := 0) C dX4_leadingTo_3 rfl ?_
  refine ww_istore (lv' := [(5, .int 0), (4, .int 0), (0, .ref h), (1, .int gr), (2, .int wd), (3, .int (nI st))]) C dX4_leadingTo_4 rfl rfl ?_
  have loop_6 : ∀ (fu : Nat) (i1 : Nat) (ac : Int32), (i1 ≤ st) → (BS ac (ld (am n r f gg) gr (bt wd) i1)) → st - i1 < fu → WW X 8 E 6 [(5, .int (nI i1)), (4, .int ac), (0, .ref h), (1, .int gr), (2, .int wd), (3, .int (nI st))] [] [(h, .inr (4, [.int (nI n), .int (nI r), .ref a, .ref b])), (a, .inl (E.2.1 1, 24, .inl f)), (b, .inl (E.2.1 1, 96, .inl gg))] 0 0 := by
    intro fu
    induction fu with
    | zero => intro i1 ac hi1 hld hmeas; exact absurd hmeas (Nat.not_lt_zero _)
    | succ fu ih_6 =>
      intro i1 ac hi1 hld hmeas
      refine ww_iload C dX4_leadingTo_6 0 rfl ?_
      refine ww_iload_n C dX4_leadingTo_8 5 rfl rfl ?_
      refine ww_icmp_ge (tgt := 78) C dX4_leadingTo_9 (by decide) (fun c_1 => ?_) (fun c_1 => ?_)
      · have zc_1 : ((i1 : Nat) : Int) ≥ ((st : Nat) : Int) := i_le (nI_toInt (n := st) (by omega)) (nI_toInt (n := i1) (by omega)) c_1
        refine ww_iload C dX4_leadingTo_78 1 rfl ?_
        exact ww_iret (u := [(h, .inr (4, [.int (nI n), .int (nI r), .ref a, .ref b])), (a, .inl (E.2.1 1, 24, .inl f)), (b, .inl (E.2.1 1, 96, .inl gg))]) C hT [0, 1, 2] rfl rfl rfl rfl dX4_leadingTo_80 (⟨rfl, (by rw [show st = i1 by omega]; exact hld)⟩)
      · have zc_1 : ((i1 : Nat) : Int) < ((st : Nat) : Int) := i_nle (nI_toInt (n := st) (by omega)) (nI_toInt (n := i1) (by omega)) c_1
        refine ww_iload C dX4_leadingTo_12 1 rfl ?_
        refine ww_istore (lv' := [(6, .int ac), (5, .int (nI i1)), (4, .int ac), (0, .ref h), (1, .int gr), (2, .int wd), (3, .int (nI st))]) C dX4_leadingTo_14 rfl rfl ?_
        refine ww_iconst (v := 0) C dX4_leadingTo_16 rfl ?_
        refine ww_istore (lv' := [(7, .int 0), (6, .int ac), (5, .int (nI i1)), (4, .int ac), (0, .ref h), (1, .int gr), (2, .int wd), (3, .int (nI st))]) C dX4_leadingTo_17 rfl rfl ?_
        have loop_19 : ∀ (fu : Nat) (i2 : Nat) (ac2 : Int32), (i2 ≤ n) → (AC ac2 (ld (am n r f gg) gr (bt wd) i1) i2 (fun w => anyN (fun v => nx (am n r f gg) gr w v && (bt wd v || ld (am n r f gg) gr (bt wd) i1 v)) 32)) → n - i2 < fu → WW X 8 E 19 [(7, .int (nI i2)), (6, .int ac2), (5, .int (nI i1)), (4, .int ac), (0, .ref h), (1, .int gr), (2, .int wd), (3, .int (nI st))] [] [(h, .inr (4, [.int (nI n), .int (nI r), .ref a, .ref b])), (a, .inl (E.2.1 1, 24, .inl f)), (b, .inl (E.2.1 1, 96, .inl gg))] 0 0 := by
          intro fu
          induction fu with
          | zero => intro i2 ac2 hi2 hac hmeas; exact absurd hmeas (Nat.not_lt_zero _)
          | succ fu ih_19 =>
            intro i2 ac2 hi2 hac hmeas
            refine ww_iload C dX4_leadingTo_19 0 rfl ?_
            refine ww_aload_n C dX4_leadingTo_21 4 rfl rfl ?_
            refine ww_get C fg_X4_18 0 rfl rfl dX4_leadingTo_22 ?_
            refine ww_icmp_ge (tgt := 58) C dX4_leadingTo_25 (by decide) (fun c_2 => ?_) (fun c_2 => ?_)
            · have zc_2 : ((i2 : Nat) : Int) ≥ ((n : Nat) : Int) := i_le (nI_toInt (n := n) (by omega)) (nI_toInt (n := i2) (by omega)) c_2
              refine ww_iload C dX4_leadingTo_58 1 rfl ?_
              refine ww_iload C dX4_leadingTo_60 3 rfl ?_
              refine ww_icmp_ne (tgt := 68) C dX4_leadingTo_62 (by decide) (fun c_3 => ?_) (fun c_3 => ?_)
              · have zc_3 : ac2.toInt ≠ ac.toInt := i_ne rfl rfl c_3
                refine ww_iload C dX4_leadingTo_68 1 rfl ?_
                refine ww_istore (lv' := [(4, .int ac2), (7, .int (nI i2)), (6, .int ac2), (5, .int (nI i1)), (0, .ref h), (1, .int gr), (2, .int wd), (3, .int (nI st))]) C dX4_leadingTo_70 rfl rfl ?_
                refine ww_iinc (j := 3) (v := (nI (i1 + 1))) (lv' := [(5, .int (nI (i1 + 1))), (4, .int ac2), (7, .int (nI i2)), (6, .int ac2), (0, .ref h), (1, .int gr), (2, .int wd), (3, .int (nI st))]) C dX4_leadingTo_72 rfl (nI_add i1 1) rfl rfl ?_
                refine ww_goto (tgt := 6) C dX4_leadingTo_75 (by decide) ?_
                exact ww_lv [0, 1, 4, 5, 6, 7] rfl (ww_sub [0, 1, 2] rfl rfl (ih_6 (i1 + 1) ac2 (by omega) (AC.end (n := n) hac (by omega)) (by omega)))
              · have zc_3 : ac2.toInt = ac.toInt := i_eq rfl rfl c_3
                refine ww_goto (tgt := 78) C dX4_leadingTo_65 (by decide) ?_
                refine ww_iload C dX4_leadingTo_78 3 rfl ?_
                exact ww_iret (u := [(h, .inr (4, [.int (nI n), .int (nI r), .ref a, .ref b])), (a, .inl (E.2.1 1, 24, .inl f)), (b, .inl (E.2.1 1, 96, .inl gg))]) C hT [0, 1, 2] rfl rfl rfl rfl dX4_leadingTo_80 (⟨rfl, (ld_end hld (by rw [← (show ac2 = ac from Int32.toInt_inj.mp zc_3)]; exact AC.end (n := n) hac (by omega)) (by omega))⟩)
            · have zc_2 : ((i2 : Nat) : Int) < ((n : Nat) : Int) := i_nle (nI_toInt (n := n) (by omega)) (nI_toInt (n := i2) (by omega)) c_2
              refine ww_aload_n C dX4_leadingTo_28 4 rfl rfl ?_
              refine ww_iload_n C dX4_leadingTo_29 5 rfl rfl ?_
              refine ww_iload C dX4_leadingTo_30 0 rfl ?_
              refine ww_ci (wr := []) (k' := 0) (n' := 0) C (run_V (As := [.int gr, .int (nI i2)]) (rest := []) C (m_nextOf X.2.1 E ro h gr i2 n r a b f gg (by omega) (by omega)) mi_X4_nextOf wl_X4_44 rfl 0 4 rfl rfl rfl rfl rfl dX4_leadingTo_32) (roK hro) [0, 1, 2] [] rfl rfl rfl rfl (fun r_4 uz hw => ?_)
              refine an1 hw ?_
              clear hw
              intro he_6 hw
              have h_5 := hw
              clear hw
              subst he_6
              refine ww_eq (ws' := [(h, .inr (4, [.int (nI n), .int (nI r), .ref a, .ref b])), (a, .inl (E.2.1 1, 24, .inl f)), (b, .inl (E.2.1 1, 96, .inl gg))]) ?_ rfl rfl rfl
              refine ww_iload_n C dX4_leadingTo_35 6 rfl rfl ?_
              refine ww_iload C dX4_leadingTo_36 3 rfl ?_
              obtain ⟨x_7, ex_7⟩ : ∃ z : Int32, wd ||| ac = z := ⟨_, rfl⟩
              refine ww_ior (v := x_7) C dX4_leadingTo_38 ex_7 ?_
              obtain ⟨x_8, ex_8⟩ : ∃ z : Int32, r_4 &&& x_7 = z := ⟨_, rfl⟩
              refine ww_iand (v := x_8) C dX4_leadingTo_39 ex_8 ?_
              refine ww_if_eq (tgt := 52) C dX4_leadingTo_40 (by decide) (fun c_9 => ?_) (fun c_9 => ?_)
              · have zc_9 : x_8.toInt = 0 := i_eq rfl rfl c_9
                refine ww_iinc (j := 0) (v := (nI (i2 + 1))) (lv' := [(7, .int (nI (i2 + 1))), (6, .int ac2), (5, .int (nI i1)), (4, .int ac), (0, .ref h), (1, .int gr), (2, .int wd), (3, .int (nI st))]) C dX4_leadingTo_52 rfl (nI_add i2 1) rfl rfl ?_
                refine ww_goto (tgt := 19) C dX4_leadingTo_55 (by decide) ?_
                exact ww_lv [0, 1, 2, 3, 4, 5, 6, 7] rfl (ww_sub [0, 1, 2] rfl rfl (ih_19 (i2 + 1) ac2 (by omega) (AC.f hac (BS.iz (BS.and h_5 (BS.or (BS.refl wd) hld ex_7) ex_8) (i_z zc_9))) (by omega)))
              · have zc_9 : x_8.toInt ≠ 0 := i_ne rfl rfl c_9
                refine ww_iload C dX4_leadingTo_43 1 rfl ?_
                refine ww_iconst (v := 1) C dX4_leadingTo_45 rfl ?_
                refine ww_iload C dX4_leadingTo_46 0 rfl ?_
                obtain ⟨x_10, ex_10⟩ : ∃ z : Int32, (1 : Int32) <<< ((nI i2) &&& 31) = z := ⟨_, rfl⟩
                refine ww_ishl (v := x_10) C dX4_leadingTo_48 ex_10 ?_
                obtain ⟨x_11, ex_11⟩ : ∃ z : Int32, ac2 ||| x_10 = z := ⟨_, rfl⟩
                refine ww_ior (v := x_11) C dX4_leadingTo_49 ex_11 ?_
                refine ww_istore (lv' := [(6, .int x_11), (7, .int (nI i2)), (5, .int (nI i1)), (4, .int ac), (0, .ref h), (1, .int gr), (2, .int wd), (3, .int (nI st))]) C dX4_leadingTo_50 rfl rfl ?_
                refine ww_iinc (j := 1) (v := (nI (i2 + 1))) (lv' := [(7, .int (nI (i2 + 1))), (6, .int x_11), (5, .int (nI i1)), (4, .int ac), (0, .ref h), (1, .int gr), (2, .int wd), (3, .int (nI st))]) C dX4_leadingTo_52 rfl (nI_add i2 1) rfl rfl ?_
                refine ww_goto (tgt := 19) C dX4_leadingTo_55 (by decide) ?_
                exact ww_lv [0, 1, 2, 3, 4, 5, 6, 7] rfl (ww_sub [0, 1, 2] rfl rfl (ih_19 (i2 + 1) x_11 (by omega) (AC.t hac (by omega) (BS.nz (BS.and h_5 (BS.or (BS.refl wd) hld ex_7) ex_8) (i_nz zc_9)) ex_11 ex_10) (by omega)))
        exact ww_lv [0, 1, 2, 3, 4, 5, 6, 7] rfl (ww_sub [0, 1, 2] rfl rfl (loop_19 _ 0 ac (by omega) (AC.st hld) (Nat.lt_succ_self _)))
  exact ww_lv [0, 1, 2, 3, 4, 5] rfl (ww_sub [0, 1, 2] rfl rfl (loop_6 _ 0 0 (by omega) BS.z (Nat.lt_succ_self _)))
theorem dX4_togetherWithin_0 : decode cX4_togetherWithin 0 = .ok (.iconst 0, 1) := by decide +kernel
theorem dX4_togetherWithin_1 : decode cX4_togetherWithin 1 = .ok (.istore_n 3, 1) := by decide +kernel
theorem dX4_togetherWithin_2 : decode cX4_togetherWithin 2 = .ok (.iconst 0, 1) := by decide +kernel
theorem dX4_togetherWithin_3 : decode cX4_togetherWithin 3 = .ok (.istore 4, 2) := by decide +kernel
theorem dX4_togetherWithin_5 : decode cX4_togetherWithin 5 = .ok (.iload 4, 2) := by decide +kernel
theorem dX4_togetherWithin_7 : decode cX4_togetherWithin 7 = .ok (.aload_n 0, 1) := by decide +kernel
theorem dX4_togetherWithin_8 : decode cX4_togetherWithin 8 = .ok (.getfield 18, 3) := by decide +kernel
theorem dX4_togetherWithin_11 : decode cX4_togetherWithin 11 = .ok (.if_icmp .ge 73, 3) := by decide +kernel
theorem dX4_togetherWithin_84 : decode cX4_togetherWithin 84 = .ok (.iload_n 3, 1) := by decide +kernel
theorem dX4_togetherWithin_85 : decode cX4_togetherWithin 85 = .ok (.ireturn, 1) := by decide +kernel
theorem dX4_togetherWithin_14 : decode cX4_togetherWithin 14 = .ok (.aload_n 0, 1) := by decide +kernel
theorem dX4_togetherWithin_15 : decode cX4_togetherWithin 15 = .ok (.invokevirtual 47, 3) := by decide +kernel
theorem wl_X4_47 : Cond.methodLink RX4 47 yX4_all ∈ TB := tbm (tq4 (List.mem_of_getElem? (i := 1) (by decide +kernel))) (by decide +kernel)
theorem wc_X4_all : Cond.code yX4_all cX4_all 1 (some .int) ∈ TB := tbm (tq3 (List.mem_of_getElem? (i := 222) (rfl))) (by decide +kernel)
theorem wi_X4_all : Cond.instanceMethod yX4_all ∈ TB := tbm (tq3 (List.mem_of_getElem? (i := 220) (by decide +kernel))) (by decide +kernel)
theorem ws_X4_all : Cond.selects RX4 yX4_all yX4_all ∈ TB := tbm (tq3 (List.mem_of_getElem? (i := 221) (by decide +kernel))) (by decide +kernel)
theorem mi_X4_all : MI yX4_all cX4_all 1 (some .int) 0 := ⟨wc_X4_all, wn_X4, ⟨by decide +kernel, by decide +kernel, by decide +kernel⟩, wi_X4_all, ws_X4_all⟩
theorem dX4_togetherWithin_18 : decode cX4_togetherWithin 18 = .ok (.istore 5, 2) := by decide +kernel
theorem dX4_togetherWithin_20 : decode cX4_togetherWithin 20 = .ok (.iconst 0, 1) := by decide +kernel
theorem dX4_togetherWithin_21 : decode cX4_togetherWithin 21 = .ok (.istore 6, 2) := by decide +kernel
theorem dX4_togetherWithin_23 : decode cX4_togetherWithin 23 = .ok (.iload 6, 2) := by decide +kernel
theorem dX4_togetherWithin_25 : decode cX4_togetherWithin 25 = .ok (.iconst 4, 1) := by decide +kernel
theorem dX4_togetherWithin_26 : decode cX4_togetherWithin 26 = .ok (.if_icmp .ge 36, 3) := by decide +kernel
theorem dX4_togetherWithin_62 : decode cX4_togetherWithin 62 = .ok (.iload 5, 2) := by decide +kernel
theorem dX4_togetherWithin_64 : decode cX4_togetherWithin 64 = .ok (.iload_n 2, 1) := by decide +kernel
theorem dX4_togetherWithin_65 : decode cX4_togetherWithin 65 = .ok (.iconst (-1), 1) := by decide +kernel
theorem dX4_togetherWithin_66 : decode cX4_togetherWithin 66 = .ok (.ixor, 1) := by decide +kernel
theorem dX4_togetherWithin_67 : decode cX4_togetherWithin 67 = .ok (.iand, 1) := by decide +kernel
theorem dX4_togetherWithin_68 : decode cX4_togetherWithin 68 = .ok (.ifCond .ne 10, 3) := by decide +kernel
theorem dX4_togetherWithin_78 : decode cX4_togetherWithin 78 = .ok (.iinc 4 1, 3) := by decide +kernel
theorem dX4_togetherWithin_81 : decode cX4_togetherWithin 81 = .ok (.goto (-76), 3) := by decide +kernel
theorem dX4_togetherWithin_71 : decode cX4_togetherWithin 71 = .ok (.iload_n 3, 1) := by decide +kernel
theorem dX4_togetherWithin_72 : decode cX4_togetherWithin 72 = .ok (.iconst 1, 1) := by decide +kernel
theorem dX4_togetherWithin_73 : decode cX4_togetherWithin 73 = .ok (.iload 4, 2) := by decide +kernel
theorem dX4_togetherWithin_75 : decode cX4_togetherWithin 75 = .ok (.ishl, 1) := by decide +kernel
theorem dX4_togetherWithin_76 : decode cX4_togetherWithin 76 = .ok (.ior, 1) := by decide +kernel
theorem dX4_togetherWithin_77 : decode cX4_togetherWithin 77 = .ok (.istore_n 3, 1) := by decide +kernel
theorem dX4_togetherWithin_29 : decode cX4_togetherWithin 29 = .ok (.iload_n 1, 1) := by decide +kernel
theorem dX4_togetherWithin_30 : decode cX4_togetherWithin 30 = .ok (.iload 6, 2) := by decide +kernel
theorem dX4_togetherWithin_32 : decode cX4_togetherWithin 32 = .ok (.invokestatic 51, 3) := by decide +kernel
theorem wc_X11_has : Cond.code yX11_has cX11_has 2 (some .boolean) ∈ TB := tbm (tq2 (List.mem_of_getElem? (i := 229) (rfl))) (by decide +kernel)
theorem wn_X11 : Cond.initialized RX11 ∈ TB := tbm (tq1 (List.mem_of_getElem? (i := 1) (by decide +kernel))) (by decide +kernel)
theorem wt_X11_has : Cond.static yX11_has ∈ TB := tbm (tq2 (List.mem_of_getElem? (i := 228) (by decide +kernel))) (by decide +kernel)
theorem ms_X11_has : MS yX11_has cX11_has 2 (some .boolean) 2 := ⟨wc_X11_has, wn_X11, ⟨by decide +kernel, by decide +kernel, by decide +kernel⟩, wt_X11_has⟩
theorem dX4_togetherWithin_35 : decode cX4_togetherWithin 35 = .ok (.ifCond .eq 21, 3) := by decide +kernel
theorem dX4_togetherWithin_38 : decode cX4_togetherWithin 38 = .ok (.iload 5, 2) := by decide +kernel
theorem dX4_togetherWithin_40 : decode cX4_togetherWithin 40 = .ok (.aload_n 0, 1) := by decide +kernel
theorem dX4_togetherWithin_41 : decode cX4_togetherWithin 41 = .ok (.getfield 15, 3) := by decide +kernel
theorem dX4_togetherWithin_44 : decode cX4_togetherWithin 44 = .ok (.iload 6, 2) := by decide +kernel
theorem dX4_togetherWithin_46 : decode cX4_togetherWithin 46 = .ok (.bipush 24, 2) := by decide +kernel
theorem dX4_togetherWithin_48 : decode cX4_togetherWithin 48 = .ok (.imul, 1) := by decide +kernel
theorem dX4_togetherWithin_49 : decode cX4_togetherWithin 49 = .ok (.iload 4, 2) := by decide +kernel
theorem dX4_togetherWithin_51 : decode cX4_togetherWithin 51 = .ok (.iadd, 1) := by decide +kernel
theorem dX4_togetherWithin_52 : decode cX4_togetherWithin 52 = .ok (.iaload, 1) := by decide +kernel
theorem dX4_togetherWithin_53 : decode cX4_togetherWithin 53 = .ok (.iand, 1) := by decide +kernel
theorem dX4_togetherWithin_54 : decode cX4_togetherWithin 54 = .ok (.istore 5, 2) := by decide +kernel
theorem dX4_togetherWithin_56 : decode cX4_togetherWithin 56 = .ok (.iinc 6 1, 3) := by decide +kernel
theorem dX4_togetherWithin_59 : decode cX4_togetherWithin 59 = .ok (.goto (-36), 3) := by decide +kernel
set_option maxRecDepth 100000 in
set_option maxHeartbeats 4000000 in
theorem m_togetherWithin (l : Launch) (E : EV) (ro : va_W) (h : Nat) (gr : Int32) (wd : Int32) (n : Nat) (r : Nat) (a : Nat) (b : Nat) (f : Nat → Int32) (gg : Nat → Int32) (hn : n ≤ 24) (hr : r < n ∨ r = 0) : CT l yX4_togetherWithin (Cond.code yX4_togetherWithin cX4_togetherWithin 7 (some .int) :: TB) ({ frames := 1, cells := 0, slots := 0, locals := 21 }) E ro [.ref h, .int gr, .int wd] [(h, .inr (4, [.int (nI n), .int (nI r), .ref a, .ref b])), (a, .inl (E.2.1 1, 24, .inl f)), (b, .inl (E.2.1 1, 96, .inl gg))] (Qi E (fun (rz : Int32) uz => (uz = [(h, .inr (4, [.int (nI n), .int (nI r), .ref a, .ref b])), (a, .inl (E.2.1 1, 24, .inl f)), (b, .inl (E.2.1 1, 96, .inl gg))] ∧ (BS rz (vTog (am n r f gg) gr (bt wd)))))) 0 0 := by
  refine ct_of rfl rfl ?_
  intro X C hT hin hro
  show WW X 7 E 0 [(0, .ref h), (1, .int gr), (2, .int wd)] [] [(h, .inr (4, [.int (nI n), .int (nI r), .ref a, .ref b])), (a, .inl (E.2.1 1, 24, .inl f)), (b, .inl (E.2.1 1, 96, .inl gg))] 0 0
  refine ww_iconst (v := 0) C dX4_togetherWithin_0 rfl ?_
  refine ww_istore_n (lv' := [(3, .int 0), (0, .ref h), (1, .int gr), (2, .int wd)]) C dX4_togetherWithin_1 rfl rfl rfl ?_
  refine ww_iconst (v := 0) C dX4_togetherWithin_2 rfl ?_
  refine ww_istore (lv' := [(4, .int 0), (3, .int 0), (0, .ref h), (1, .int gr), (2, .int wd)]) C dX4_togetherWithin_3 rfl rfl ?_
  have loop_5 : ∀ (fu : Nat) (i1 : Nat) (ac : Int32), (i1 ≤ n) → (AC ac no_ i1 (fun w => !anyN (fun v => shr (am n r f gg) gr w v && !bt wd v) 32)) → n - i1 < fu → WW X 7 E 5 [(4, .int (nI i1)), (3, .int ac), (0, .ref h), (1, .int gr), (2, .int wd)] [] [(h, .inr (4, [.int (nI n), .int (nI r), .ref a, .ref b])), (a, .inl (E.2.1 1, 24, .inl f)), (b, .inl (E.2.1 1, 96, .inl gg))] 0 0 := by
    intro fu
    induction fu with
    | zero => intro i1 ac hi1 hac hmeas; exact absurd hmeas (Nat.not_lt_zero _)
    | succ fu ih_5 =>
      intro i1 ac hi1 hac hmeas
      refine ww_iload C dX4_togetherWithin_5 0 rfl ?_
      refine ww_aload_n C dX4_togetherWithin_7 2 rfl rfl ?_
      refine ww_get C fg_X4_18 0 rfl rfl dX4_togetherWithin_8 ?_
      refine ww_icmp_ge (tgt := 84) C dX4_togetherWithin_11 (by decide) (fun c_1 => ?_) (fun c_1 => ?_)
      · have zc_1 : ((i1 : Nat) : Int) ≥ ((n : Nat) : Int) := i_le (nI_toInt (n := n) (by omega)) (nI_toInt (n := i1) (by omega)) c_1
        refine ww_iload_n C dX4_togetherWithin_84 1 rfl rfl ?_
        exact ww_iret (u := [(h, .inr (4, [.int (nI n), .int (nI r), .ref a, .ref b])), (a, .inl (E.2.1 1, 24, .inl f)), (b, .inl (E.2.1 1, 96, .inl gg))]) C hT [0, 1, 2] rfl rfl rfl rfl dX4_togetherWithin_85 (⟨rfl, (AC.fin (n := n) hac (by omega))⟩)
      · have zc_1 : ((i1 : Nat) : Int) < ((n : Nat) : Int) := i_nle (nI_toInt (n := n) (by omega)) (nI_toInt (n := i1) (by omega)) c_1
        refine ww_aload_n C dX4_togetherWithin_14 2 rfl rfl ?_
        refine ww_ci (wr := [(a, .inl (E.2.1 1, 24, .inl f)), (b, .inl (E.2.1 1, 96, .inl gg))]) (k' := 0) (n' := 0) C (run_V (As := []) (rest := []) C (m_all X.2.1 E ro h n r a b (by omega)) mi_X4_all wl_X4_47 rfl 0 4 rfl rfl rfl rfl rfl dX4_togetherWithin_15) (roK hro) [0] [1, 2] rfl rfl rfl rfl (fun r_2 uz hw => ?_)
        refine an1 hw ?_
        clear hw
        intro he_4 hw
        have h_3 := hw
        clear hw
        subst he_4
        refine ww_eq (ws' := [(a, .inl (E.2.1 1, 24, .inl f)), (b, .inl (E.2.1 1, 96, .inl gg)), (h, .inr (4, [.int (nI n), .int (nI r), .ref a, .ref b]))]) ?_ rfl rfl rfl
        refine ww_istore (lv' := [(5, .int r_2), (4, .int (nI i1)), (3, .int ac), (0, .ref h), (1, .int gr), (2, .int wd)]) C dX4_togetherWithin_18 rfl rfl ?_
        refine ww_iconst (v := 0) C dX4_togetherWithin_20 rfl ?_
        refine ww_istore (lv' := [(6, .int 0), (5, .int r_2), (4, .int (nI i1)), (3, .int ac), (0, .ref h), (1, .int gr), (2, .int wd)]) C dX4_togetherWithin_21 rfl rfl ?_
        have loop_23 : ∀ (fu : Nat) (i2 : Nat) (ac2 : Int32), (i2 ≤ 4) → (SHr n gr gg i1 i2 ac2) → 4 - i2 < fu → WW X 7 E 23 [(6, .int (nI i2)), (5, .int ac2), (4, .int (nI i1)), (3, .int ac), (0, .ref h), (1, .int gr), (2, .int wd)] [] [(a, .inl (E.2.1 1, 24, .inl f)), (b, .inl (E.2.1 1, 96, .inl gg)), (h, .inr (4, [.int (nI n), .int (nI r), .ref a, .ref b]))] 0 0 := by
          intro fu
          induction fu with
          | zero => intro i2 ac2 hi2 hsh hmeas; exact absurd hmeas (Nat.not_lt_zero _)
          | succ fu ih_23 =>
            intro i2 ac2 hi2 hsh hmeas
            refine ww_iload C dX4_togetherWithin_23 0 rfl ?_
            refine ww_iconst (v := 4) C dX4_togetherWithin_25 rfl ?_
            refine ww_icmp_ge (tgt := 62) C dX4_togetherWithin_26 (by decide) (fun c_5 => ?_) (fun c_5 => ?_)
            · have zc_5 : ((i2 : Nat) : Int) ≥ 4 := i_le rfl (nI_toInt (n := i2) (by omega)) c_5
              refine ww_iload C dX4_togetherWithin_62 1 rfl ?_
              refine ww_iload_n C dX4_togetherWithin_64 6 rfl rfl ?_
              refine ww_iconst (v := (-1)) C dX4_togetherWithin_65 rfl ?_
              obtain ⟨x_6, ex_6⟩ : ∃ z : Int32, wd ^^^ ((-1) : Int32) = z := ⟨_, rfl⟩
              refine ww_ixor (v := x_6) C dX4_togetherWithin_66 ex_6 ?_
              obtain ⟨x_7, ex_7⟩ : ∃ z : Int32, ac2 &&& x_6 = z := ⟨_, rfl⟩
              refine ww_iand (v := x_7) C dX4_togetherWithin_67 ex_7 ?_
              refine ww_if_ne (tgt := 78) C dX4_togetherWithin_68 (by decide) (fun c_8 => ?_) (fun c_8 => ?_)
              · have zc_8 : x_7.toInt ≠ 0 := i_ne rfl rfl c_8
                refine ww_iinc (j := 2) (v := (nI (i1 + 1))) (lv' := [(4, .int (nI (i1 + 1))), (6, .int (nI i2)), (5, .int ac2), (3, .int ac), (0, .ref h), (1, .int gr), (2, .int wd)]) C dX4_togetherWithin_78 rfl (nI_add i1 1) rfl rfl ?_
                refine ww_goto (tgt := 5) C dX4_togetherWithin_81 (by decide) ?_
                exact ww_lv [0, 3, 4, 5, 6] rfl (ww_sub [2, 0, 1] rfl rfl (ih_5 (i1 + 1) ac (by omega) (AC.f hac (by rw [show anyN _ 32 = true from BS.nz (BS.and (SHr.amx (by omega) (by have h9 : SHr n gr gg i1 4 ac2 := (by rw [show (4 : Nat) = i2 by omega]; exact hsh); exact h9)) (BS.not (BS.refl wd) ex_6) ex_7) (i_nz zc_8)]; rfl)) (by omega)))
              · have zc_8 : x_7.toInt = 0 := i_eq rfl rfl c_8
                refine ww_iload_n C dX4_togetherWithin_71 3 rfl rfl ?_
                refine ww_iconst (v := 1) C dX4_togetherWithin_72 rfl ?_
                refine ww_iload C dX4_togetherWithin_73 2 rfl ?_
                obtain ⟨x_9, ex_9⟩ : ∃ z : Int32, (1 : Int32) <<< ((nI i1) &&& 31) = z := ⟨_, rfl⟩
                refine ww_ishl (v := x_9) C dX4_togetherWithin_75 ex_9 ?_
                obtain ⟨x_10, ex_10⟩ : ∃ z : Int32, ac ||| x_9 = z := ⟨_, rfl⟩
                refine ww_ior (v := x_10) C dX4_togetherWithin_76 ex_10 ?_
                refine ww_istore_n (lv' := [(3, .int x_10), (6, .int (nI i2)), (5, .int ac2), (4, .int (nI i1)), (0, .ref h), (1, .int gr), (2, .int wd)]) C dX4_togetherWithin_77 rfl rfl rfl ?_
                refine ww_iinc (j := 3) (v := (nI (i1 + 1))) (lv' := [(4, .int (nI (i1 + 1))), (3, .int x_10), (6, .int (nI i2)), (5, .int ac2), (0, .ref h), (1, .int gr), (2, .int wd)]) C dX4_togetherWithin_78 rfl (nI_add i1 1) rfl rfl ?_
                refine ww_goto (tgt := 5) C dX4_togetherWithin_81 (by decide) ?_
                exact ww_lv [0, 1, 4, 5, 6] rfl (ww_sub [2, 0, 1] rfl rfl (ih_5 (i1 + 1) x_10 (by omega) (AC.t hac (by omega) (by rw [show anyN _ 32 = false from BS.iz (BS.and (SHr.amx (by omega) (by have h9 : SHr n gr gg i1 4 ac2 := (by rw [show (4 : Nat) = i2 by omega]; exact hsh); exact h9)) (BS.not (BS.refl wd) ex_6) ex_7) (i_z zc_8)]; rfl) ex_10 ex_9) (by omega)))
            · have zc_5 : ((i2 : Nat) : Int) < 4 := i_nle rfl (nI_toInt (n := i2) (by omega)) c_5
              refine ww_iload_n C dX4_togetherWithin_29 5 rfl rfl ?_
              refine ww_iload C dX4_togetherWithin_30 0 rfl ?_
              refine ww_ci (wr := [(a, .inl (E.2.1 1, 24, .inl f)), (b, .inl (E.2.1 1, 96, .inl gg)), (h, .inr (4, [.int (nI n), .int (nI r), .ref a, .ref b]))]) (k' := 0) (n' := 0) C (run_SN (As := [.int gr, .int (nI i2)]) (rest := []) C (c_hasN X.2.1 E ro gr i2 (by omega)) ms_X11_has (List.mem_of_getElem? (i := 12) rfl) rfl rfl rfl rfl dX4_togetherWithin_32) (roK hro) [] [0, 1, 2] rfl rfl rfl rfl (fun r_11 uz hw => ?_)
              rcases hw with hw | hw
              · refine an2 hw ?_
                clear hw
                intro he_13 he_14 hw
                have h_12 := hw
                clear hw
                have he_13 := he_13.symm
                subst he_13
                subst he_14
                refine ww_eq (ws' := [(a, .inl (E.2.1 1, 24, .inl f)), (b, .inl (E.2.1 1, 96, .inl gg)), (h, .inr (4, [.int (nI n), .int (nI r), .ref a, .ref b]))]) ?_ rfl rfl rfl
                refine ww_if_eq_f (tgt := 56) C dX4_togetherWithin_35 (by decide) (by decide) ?_
                refine ww_iload C dX4_togetherWithin_38 1 rfl ?_
                refine ww_aload_n C dX4_togetherWithin_40 4 rfl rfl ?_
                refine ww_get C fg_X4_15 2 rfl rfl dX4_togetherWithin_41 ?_
                refine ww_iload C dX4_togetherWithin_44 0 rfl ?_
                refine ww_bipush (v := 24) C dX4_togetherWithin_46 rfl ?_
                refine ww_imul (v := (nI (i2 * 24))) C dX4_togetherWithin_48 (pk_mul i2 24) ?_
                refine ww_iload C dX4_togetherWithin_49 2 rfl ?_
                refine ww_iadd (v := (nI ((i2 * 24) + i1))) C dX4_togetherWithin_51 (nI_add (i2 * 24) i1) ?_
                obtain ⟨x_18, ex_18⟩ : ∃ z : Int32, gg ((i2 * 24) + i1) = z := ⟨_, rfl⟩
                refine ww_iald (v := x_18) C 1 rfl (vp_in_nI (by omega) (by omega)) (ldn (by omega) ex_18) dX4_togetherWithin_52 ?_
                obtain ⟨x_19, ex_19⟩ : ∃ z : Int32, ac2 &&& x_18 = z := ⟨_, rfl⟩
                refine ww_iand (v := x_19) C dX4_togetherWithin_53 ex_19 ?_
                refine ww_istore (lv' := [(5, .int x_19), (6, .int (nI i2)), (4, .int (nI i1)), (3, .int ac), (0, .ref h), (1, .int gr), (2, .int wd)]) C dX4_togetherWithin_54 rfl rfl ?_
                refine ww_iinc (j := 1) (v := (nI (i2 + 1))) (lv' := [(6, .int (nI (i2 + 1))), (5, .int x_19), (4, .int (nI i1)), (3, .int ac), (0, .ref h), (1, .int gr), (2, .int wd)]) C dX4_togetherWithin_56 rfl (nI_add i2 1) rfl rfl ?_
                refine ww_goto (tgt := 23) C dX4_togetherWithin_59 (by decide) ?_
                exact ww_lv [0, 1, 2, 3, 4, 5, 6] rfl (ww_sub [0, 1, 2] rfl rfl (ih_23 (i2 + 1) x_19 (by omega) (SHr.t hsh h_12 ex_18 ex_19) (by omega)))
              · refine an2 hw ?_
                clear hw
                intro he_16 he_17 hw
                have h_15 := hw
                clear hw
                have he_16 := he_16.symm
                subst he_16
                subst he_17
                refine ww_eq (ws' := [(a, .inl (E.2.1 1, 24, .inl f)), (b, .inl (E.2.1 1, 96, .inl gg)), (h, .inr (4, [.int (nI n), .int (nI r), .ref a, .ref b]))]) ?_ rfl rfl rfl
                refine ww_if_eq_t (tgt := 56) C dX4_togetherWithin_35 (by decide) (rfl) ?_
                refine ww_iinc (j := 0) (v := (nI (i2 + 1))) (lv' := [(6, .int (nI (i2 + 1))), (5, .int ac2), (4, .int (nI i1)), (3, .int ac), (0, .ref h), (1, .int gr), (2, .int wd)]) C dX4_togetherWithin_56 rfl (nI_add i2 1) rfl rfl ?_
                refine ww_goto (tgt := 23) C dX4_togetherWithin_59 (by decide) ?_
                exact ww_lv [0, 1, 2, 3, 4, 5, 6] rfl (ww_sub [0, 1, 2] rfl rfl (ih_23 (i2 + 1) ac2 (by omega) (SHr.f hsh h_15) (by omega)))
        exact ww_lv [0, 1, 2, 3, 4, 5, 6] rfl (ww_sub [0, 1, 2] rfl rfl (loop_23 _ 0 r_2 (by omega) (SHr.nil h_3) (Nat.lt_succ_self _)))
  exact ww_lv [0, 1, 2, 3, 4] rfl (ww_sub [0, 1, 2] rfl rfl (loop_5 _ 0 0 (by omega) AC.nil (Nat.lt_succ_self _)))
theorem dX4_reached_0 : decode cX4_reached 0 = .ok (.aload_n 0, 1) := by decide +kernel
theorem dX4_reached_1 : decode cX4_reached 1 = .ok (.iload_n 1, 1) := by decide +kernel
theorem dX4_reached_2 : decode cX4_reached 2 = .ok (.iload_n 2, 1) := by decide +kernel
theorem dX4_reached_3 : decode cX4_reached 3 = .ok (.invokevirtual 44, 3) := by decide +kernel
theorem dX4_reached_6 : decode cX4_reached 6 = .ok (.istore_n 3, 1) := by decide +kernel
theorem dX4_reached_7 : decode cX4_reached 7 = .ok (.iconst 0, 1) := by decide +kernel
theorem dX4_reached_8 : decode cX4_reached 8 = .ok (.istore 4, 2) := by decide +kernel
theorem dX4_reached_10 : decode cX4_reached 10 = .ok (.iload 4, 2) := by decide +kernel
theorem dX4_reached_12 : decode cX4_reached 12 = .ok (.aload_n 0, 1) := by decide +kernel
theorem dX4_reached_13 : decode cX4_reached 13 = .ok (.getfield 18, 3) := by decide +kernel
theorem dX4_reached_16 : decode cX4_reached 16 = .ok (.if_icmp .ge 63, 3) := by decide +kernel
theorem dX4_reached_79 : decode cX4_reached 79 = .ok (.iload_n 3, 1) := by decide +kernel
theorem dX4_reached_80 : decode cX4_reached 80 = .ok (.ireturn, 1) := by decide +kernel
theorem dX4_reached_19 : decode cX4_reached 19 = .ok (.iload_n 3, 1) := by decide +kernel
theorem dX4_reached_20 : decode cX4_reached 20 = .ok (.istore 5, 2) := by decide +kernel
theorem dX4_reached_22 : decode cX4_reached 22 = .ok (.iconst 0, 1) := by decide +kernel
theorem dX4_reached_23 : decode cX4_reached 23 = .ok (.istore 6, 2) := by decide +kernel
theorem dX4_reached_25 : decode cX4_reached 25 = .ok (.iload 6, 2) := by decide +kernel
theorem dX4_reached_27 : decode cX4_reached 27 = .ok (.aload_n 0, 1) := by decide +kernel
theorem dX4_reached_28 : decode cX4_reached 28 = .ok (.getfield 18, 3) := by decide +kernel
theorem dX4_reached_31 : decode cX4_reached 31 = .ok (.if_icmp .ge 30, 3) := by decide +kernel
theorem dX4_reached_61 : decode cX4_reached 61 = .ok (.iload 5, 2) := by decide +kernel
theorem dX4_reached_63 : decode cX4_reached 63 = .ok (.iload_n 3, 1) := by decide +kernel
theorem dX4_reached_64 : decode cX4_reached 64 = .ok (.if_icmp .ne 6, 3) := by decide +kernel
theorem dX4_reached_70 : decode cX4_reached 70 = .ok (.iload 5, 2) := by decide +kernel
theorem dX4_reached_72 : decode cX4_reached 72 = .ok (.istore_n 3, 1) := by decide +kernel
theorem dX4_reached_73 : decode cX4_reached 73 = .ok (.iinc 4 1, 3) := by decide +kernel
theorem dX4_reached_76 : decode cX4_reached 76 = .ok (.goto (-66), 3) := by decide +kernel
theorem dX4_reached_67 : decode cX4_reached 67 = .ok (.goto 12, 3) := by decide +kernel
theorem dX4_reached_34 : decode cX4_reached 34 = .ok (.iload_n 3, 1) := by decide +kernel
theorem dX4_reached_35 : decode cX4_reached 35 = .ok (.iload 6, 2) := by decide +kernel
theorem dX4_reached_37 : decode cX4_reached 37 = .ok (.invokestatic 51, 3) := by decide +kernel
theorem dX4_reached_40 : decode cX4_reached 40 = .ok (.ifCond .eq 15, 3) := by decide +kernel
theorem dX4_reached_43 : decode cX4_reached 43 = .ok (.iload 5, 2) := by decide +kernel
theorem dX4_reached_45 : decode cX4_reached 45 = .ok (.aload_n 0, 1) := by decide +kernel
theorem dX4_reached_46 : decode cX4_reached 46 = .ok (.iload_n 1, 1) := by decide +kernel
theorem dX4_reached_47 : decode cX4_reached 47 = .ok (.iload 6, 2) := by decide +kernel
theorem dX4_reached_49 : decode cX4_reached 49 = .ok (.invokevirtual 44, 3) := by decide +kernel
theorem dX4_reached_52 : decode cX4_reached 52 = .ok (.ior, 1) := by decide +kernel
theorem dX4_reached_53 : decode cX4_reached 53 = .ok (.istore 5, 2) := by decide +kernel
theorem dX4_reached_55 : decode cX4_reached 55 = .ok (.iinc 6 1, 3) := by decide +kernel
theorem dX4_reached_58 : decode cX4_reached 58 = .ok (.goto (-33), 3) := by decide +kernel
set_option maxRecDepth 100000 in
set_option maxHeartbeats 4000000 in
theorem m_reached (l : Launch) (E : EV) (ro : va_W) (h : Nat) (gr : Int32) (w : Nat) (n : Nat) (r : Nat) (a : Nat) (b : Nat) (f : Nat → Int32) (gg : Nat → Int32) (hn : n ≤ 24) (hr : r < n ∨ r = 0) (hw : w < n) : CT l yX4_reached (Cond.code yX4_reached cX4_reached 7 (some .int) :: TB) ({ frames := 1, cells := 0, slots := 0, locals := 24 }) E ro [.ref h, .int gr, .int (nI w)] [(h, .inr (4, [.int (nI n), .int (nI r), .ref a, .ref b])), (a, .inl (E.2.1 1, 24, .inl f)), (b, .inl (E.2.1 1, 96, .inl gg))] (Qi E (fun (rz : Int32) uz => (uz = [(h, .inr (4, [.int (nI n), .int (nI r), .ref a, .ref b])), (a, .inl (E.2.1 1, 24, .inl f)), (b, .inl (E.2.1 1, 96, .inl gg))] ∧ (BS rz (fw (am n r f gg) gr w n))))) 0 0 := by
  refine ct_of rfl rfl ?_
  intro X C hT hin hro
  show WW X 7 E 0 [(0, .ref h), (1, .int gr), (2, .int (nI w))] [] [(h, .inr (4, [.int (nI n), .int (nI r), .ref a, .ref b])), (a, .inl (E.2.1 1, 24, .inl f)), (b, .inl (E.2.1 1, 96, .inl gg))] 0 0
  refine ww_aload_n C dX4_reached_0 0 rfl rfl ?_
  refine ww_iload_n C dX4_reached_1 1 rfl rfl ?_
  refine ww_iload_n C dX4_reached_2 2 rfl rfl ?_
  refine ww_ci (wr := []) (k' := 0) (n' := 0) C (run_V (As := [.int gr, .int (nI w)]) (rest := []) C (m_nextOf X.2.1 E ro h gr w n r a b f gg (by omega) (by omega)) mi_X4_nextOf wl_X4_44 rfl 0 4 rfl rfl rfl rfl rfl dX4_reached_3) (roK hro) [0, 1, 2] [] rfl rfl rfl rfl (fun r_1 uz hw => ?_)
  refine an1 hw ?_
  clear hw
  intro he_3 hw
  have h_2 := hw
  clear hw
  subst he_3
  refine ww_eq (ws' := [(h, .inr (4, [.int (nI n), .int (nI r), .ref a, .ref b])), (a, .inl (E.2.1 1, 24, .inl f)), (b, .inl (E.2.1 1, 96, .inl gg))]) ?_ rfl rfl rfl
  refine ww_istore_n (lv' := [(3, .int r_1), (0, .ref h), (1, .int gr), (2, .int (nI w))]) C dX4_reached_6 rfl rfl rfl ?_
  refine ww_iconst (v := 0) C dX4_reached_7 rfl ?_
  refine ww_istore (lv' := [(4, .int 0), (3, .int r_1), (0, .ref h), (1, .int gr), (2, .int (nI w))]) C dX4_reached_8 rfl rfl ?_
  have loop_10 : ∀ (fu : Nat) (i1 : Nat) (ac : Int32), (i1 ≤ n) → (BS ac (fw (am n r f gg) gr w i1)) → n - i1 < fu → WW X 7 E 10 [(4, .int (nI i1)), (3, .int ac), (0, .ref h), (1, .int gr), (2, .int (nI w))] [] [(h, .inr (4, [.int (nI n), .int (nI r), .ref a, .ref b])), (a, .inl (E.2.1 1, 24, .inl f)), (b, .inl (E.2.1 1, 96, .inl gg))] 0 0 := by
    intro fu
    induction fu with
    | zero => intro i1 ac hi1 hfw hmeas; exact absurd hmeas (Nat.not_lt_zero _)
    | succ fu ih_10 =>
      intro i1 ac hi1 hfw hmeas
      refine ww_iload C dX4_reached_10 0 rfl ?_
      refine ww_aload_n C dX4_reached_12 2 rfl rfl ?_
      refine ww_get C fg_X4_18 0 rfl rfl dX4_reached_13 ?_
      refine ww_icmp_ge (tgt := 79) C dX4_reached_16 (by decide) (fun c_4 => ?_) (fun c_4 => ?_)
      · have zc_4 : ((i1 : Nat) : Int) ≥ ((n : Nat) : Int) := i_le (nI_toInt (n := n) (by omega)) (nI_toInt (n := i1) (by omega)) c_4
        refine ww_iload_n C dX4_reached_79 1 rfl rfl ?_
        exact ww_iret (u := [(h, .inr (4, [.int (nI n), .int (nI r), .ref a, .ref b])), (a, .inl (E.2.1 1, 24, .inl f)), (b, .inl (E.2.1 1, 96, .inl gg))]) C hT [0, 1, 2] rfl rfl rfl rfl dX4_reached_80 (⟨rfl, (by have h9 : i1 = n := (by omega); rw [h9] at hfw; exact hfw)⟩)
      · have zc_4 : ((i1 : Nat) : Int) < ((n : Nat) : Int) := i_nle (nI_toInt (n := n) (by omega)) (nI_toInt (n := i1) (by omega)) c_4
        refine ww_iload_n C dX4_reached_19 1 rfl rfl ?_
        refine ww_istore (lv' := [(5, .int ac), (4, .int (nI i1)), (3, .int ac), (0, .ref h), (1, .int gr), (2, .int (nI w))]) C dX4_reached_20 rfl rfl ?_
        refine ww_iconst (v := 0) C dX4_reached_22 rfl ?_
        refine ww_istore (lv' := [(6, .int 0), (5, .int ac), (4, .int (nI i1)), (3, .int ac), (0, .ref h), (1, .int gr), (2, .int (nI w))]) C dX4_reached_23 rfl rfl ?_
        have loop_25 : ∀ (fu : Nat) (i2 : Nat) (ac2 : Int32), (i2 ≤ n) → (FWr (am n r f gg) gr (fw (am n r f gg) gr w i1) i2 ac2) → n - i2 < fu → WW X 7 E 25 [(6, .int (nI i2)), (5, .int ac2), (4, .int (nI i1)), (3, .int ac), (0, .ref h), (1, .int gr), (2, .int (nI w))] [] [(h, .inr (4, [.int (nI n), .int (nI r), .ref a, .ref b])), (a, .inl (E.2.1 1, 24, .inl f)), (b, .inl (E.2.1 1, 96, .inl gg))] 0 0 := by
          intro fu
          induction fu with
          | zero => intro i2 ac2 hi2 hac hmeas; exact absurd hmeas (Nat.not_lt_zero _)
          | succ fu ih_25 =>
            intro i2 ac2 hi2 hac hmeas
            refine ww_iload C dX4_reached_25 0 rfl ?_
            refine ww_aload_n C dX4_reached_27 4 rfl rfl ?_
            refine ww_get C fg_X4_18 0 rfl rfl dX4_reached_28 ?_
            refine ww_icmp_ge (tgt := 61) C dX4_reached_31 (by decide) (fun c_5 => ?_) (fun c_5 => ?_)
            · have zc_5 : ((i2 : Nat) : Int) ≥ ((n : Nat) : Int) := i_le (nI_toInt (n := n) (by omega)) (nI_toInt (n := i2) (by omega)) c_5
              refine ww_iload C dX4_reached_61 1 rfl ?_
              refine ww_iload_n C dX4_reached_63 3 rfl rfl ?_
              refine ww_icmp_ne (tgt := 70) C dX4_reached_64 (by decide) (fun c_6 => ?_) (fun c_6 => ?_)
              · have zc_6 : ac2.toInt ≠ ac.toInt := i_ne rfl rfl c_6
                refine ww_iload C dX4_reached_70 1 rfl ?_
                refine ww_istore_n (lv' := [(3, .int ac2), (6, .int (nI i2)), (5, .int ac2), (4, .int (nI i1)), (0, .ref h), (1, .int gr), (2, .int (nI w))]) C dX4_reached_72 rfl rfl rfl ?_
                refine ww_iinc (j := 3) (v := (nI (i1 + 1))) (lv' := [(4, .int (nI (i1 + 1))), (3, .int ac2), (6, .int (nI i2)), (5, .int ac2), (0, .ref h), (1, .int gr), (2, .int (nI w))]) C dX4_reached_73 rfl (nI_add i1 1) rfl rfl ?_
                refine ww_goto (tgt := 10) C dX4_reached_76 (by decide) ?_
                exact ww_lv [0, 1, 4, 5, 6] rfl (ww_sub [0, 1, 2] rfl rfl (ih_10 (i1 + 1) ac2 (by omega) (show BS ac2 (fw (am n r f gg) gr w (i1 + 1)) by rw [show i2 = n by omega] at hac; exact hac) (by omega)))
              · have zc_6 : ac2.toInt = ac.toInt := i_eq rfl rfl c_6
                refine ww_goto (tgt := 79) C dX4_reached_67 (by decide) ?_
                refine ww_iload_n C dX4_reached_79 3 rfl rfl ?_
                exact ww_iret (u := [(h, .inr (4, [.int (nI n), .int (nI r), .ref a, .ref b])), (a, .inl (E.2.1 1, 24, .inl f)), (b, .inl (E.2.1 1, 96, .inl gg))]) C hT [0, 1, 2] rfl rfl rfl rfl dX4_reached_80 (⟨rfl, (fw_end (show n ≤ 32 by omega) hfw (by rw [← (show ac2 = ac from Int32.toInt_inj.mp zc_6)]; exact (show BS ac2 (fw (am n r f gg) gr w (i1 + 1)) by rw [show i2 = n by omega] at hac; exact hac)) hi1)⟩)
            · have zc_5 : ((i2 : Nat) : Int) < ((n : Nat) : Int) := i_nle (nI_toInt (n := n) (by omega)) (nI_toInt (n := i2) (by omega)) c_5
              refine ww_iload_n C dX4_reached_34 3 rfl rfl ?_
              refine ww_iload C dX4_reached_35 0 rfl ?_
              refine ww_ci (wr := [(h, .inr (4, [.int (nI n), .int (nI r), .ref a, .ref b])), (a, .inl (E.2.1 1, 24, .inl f)), (b, .inl (E.2.1 1, 96, .inl gg))]) (k' := 0) (n' := 0) C (run_SN (As := [.int ac, .int (nI i2)]) (rest := []) C (c_hasN X.2.1 E ro ac i2 (by omega)) ms_X11_has (List.mem_of_getElem? (i := 12) rfl) rfl rfl rfl rfl dX4_reached_37) (roK hro) [] [0, 1, 2] rfl rfl rfl rfl (fun r_7 uz hw => ?_)
              rcases hw with hw | hw
              · refine an2 hw ?_
                clear hw
                intro he_9 he_10 hw
                have h_8 := hw
                clear hw
                have he_9 := he_9.symm
                subst he_9
                subst he_10
                refine ww_eq (ws' := [(h, .inr (4, [.int (nI n), .int (nI r), .ref a, .ref b])), (a, .inl (E.2.1 1, 24, .inl f)), (b, .inl (E.2.1 1, 96, .inl gg))]) ?_ rfl rfl rfl
                refine ww_if_eq_f (tgt := 55) C dX4_reached_40 (by decide) (by decide) ?_
                refine ww_iload C dX4_reached_43 1 rfl ?_
                refine ww_aload_n C dX4_reached_45 4 rfl rfl ?_
                refine ww_iload_n C dX4_reached_46 5 rfl rfl ?_
                refine ww_iload C dX4_reached_47 0 rfl ?_
                refine ww_ci (wr := []) (k' := 0) (n' := 0) C (run_V (As := [.int gr, .int (nI i2)]) (rest := [.int ac2]) C (m_nextOf X.2.1 E ro h gr i2 n r a b f gg (by omega) (by omega)) mi_X4_nextOf wl_X4_44 rfl 0 4 rfl rfl rfl rfl rfl dX4_reached_49) (roK hro) [0, 1, 2] [] rfl rfl rfl rfl (fun r_14 uz hw => ?_)
                refine an1 hw ?_
                clear hw
                intro he_16 hw
                have h_15 := hw
                clear hw
                subst he_16
                refine ww_eq (ws' := [(h, .inr (4, [.int (nI n), .int (nI r), .ref a, .ref b])), (a, .inl (E.2.1 1, 24, .inl f)), (b, .inl (E.2.1 1, 96, .inl gg))]) ?_ rfl rfl rfl
                obtain ⟨x_17, ex_17⟩ : ∃ z : Int32, ac2 ||| r_14 = z := ⟨_, rfl⟩
                refine ww_ior (v := x_17) C dX4_reached_52 ex_17 ?_
                refine ww_istore (lv' := [(5, .int x_17), (6, .int (nI i2)), (4, .int (nI i1)), (3, .int ac), (0, .ref h), (1, .int gr), (2, .int (nI w))]) C dX4_reached_53 rfl rfl ?_
                refine ww_iinc (j := 1) (v := (nI (i2 + 1))) (lv' := [(6, .int (nI (i2 + 1))), (5, .int x_17), (4, .int (nI i1)), (3, .int ac), (0, .ref h), (1, .int gr), (2, .int (nI w))]) C dX4_reached_55 rfl (nI_add i2 1) rfl rfl ?_
                refine ww_goto (tgt := 25) C dX4_reached_58 (by decide) ?_
                exact ww_lv [0, 1, 2, 3, 4, 5, 6] rfl (ww_sub [0, 1, 2] rfl rfl (ih_25 (i2 + 1) x_17 (by omega) (FWr.t hac (BS.t hfw (by omega) h_8) h_15 ex_17) (by omega)))
              · refine an2 hw ?_
                clear hw
                intro he_12 he_13 hw
                have h_11 := hw
                clear hw
                have he_12 := he_12.symm
                subst he_12
                subst he_13
                refine ww_eq (ws' := [(h, .inr (4, [.int (nI n), .int (nI r), .ref a, .ref b])), (a, .inl (E.2.1 1, 24, .inl f)), (b, .inl (E.2.1 1, 96, .inl gg))]) ?_ rfl rfl rfl
                refine ww_if_eq_t (tgt := 55) C dX4_reached_40 (by decide) (rfl) ?_
                refine ww_iinc (j := 0) (v := (nI (i2 + 1))) (lv' := [(6, .int (nI (i2 + 1))), (5, .int ac2), (4, .int (nI i1)), (3, .int ac), (0, .ref h), (1, .int gr), (2, .int (nI w))]) C dX4_reached_55 rfl (nI_add i2 1) rfl rfl ?_
                refine ww_goto (tgt := 25) C dX4_reached_58 (by decide) ?_
                exact ww_lv [0, 1, 2, 3, 4, 5, 6] rfl (ww_sub [0, 1, 2] rfl rfl (ih_25 (i2 + 1) ac2 (by omega) (FWr.f hac (BS.f hfw (by omega) h_11)) (by omega)))
        exact ww_lv [0, 1, 2, 3, 4, 5, 6] rfl (ww_sub [0, 1, 2] rfl rfl (loop_25 _ 0 ac (by omega) (FWr.nil hfw) (Nat.lt_succ_self _)))
  exact ww_lv [0, 1, 2, 3, 4] rfl (ww_sub [0, 1, 2] rfl rfl (loop_10 _ 0 r_1 (by omega) h_2 (Nat.lt_succ_self _)))
theorem dX4_squeezed_0 : decode cX4_squeezed 0 = .ok (.iconst 0, 1) := by decide +kernel
theorem dX4_squeezed_1 : decode cX4_squeezed 1 = .ok (.istore_n 2, 1) := by decide +kernel
theorem dX4_squeezed_2 : decode cX4_squeezed 2 = .ok (.iconst 0, 1) := by decide +kernel
theorem dX4_squeezed_3 : decode cX4_squeezed 3 = .ok (.istore_n 3, 1) := by decide +kernel
theorem dX4_squeezed_4 : decode cX4_squeezed 4 = .ok (.iconst 0, 1) := by decide +kernel
theorem dX4_squeezed_5 : decode cX4_squeezed 5 = .ok (.istore 4, 2) := by decide +kernel
theorem dX4_squeezed_7 : decode cX4_squeezed 7 = .ok (.iload 4, 2) := by decide +kernel
theorem dX4_squeezed_9 : decode cX4_squeezed 9 = .ok (.bipush 24, 2) := by decide +kernel
theorem dX4_squeezed_11 : decode cX4_squeezed 11 = .ok (.if_icmp .ge 32, 3) := by decide +kernel
theorem dX4_squeezed_43 : decode cX4_squeezed 43 = .ok (.iload_n 2, 1) := by decide +kernel
theorem dX4_squeezed_44 : decode cX4_squeezed 44 = .ok (.ireturn, 1) := by decide +kernel
theorem dX4_squeezed_14 : decode cX4_squeezed 14 = .ok (.iload_n 1, 1) := by decide +kernel
theorem dX4_squeezed_15 : decode cX4_squeezed 15 = .ok (.iload 4, 2) := by decide +kernel
theorem dX4_squeezed_17 : decode cX4_squeezed 17 = .ok (.invokestatic 51, 3) := by decide +kernel
theorem dX4_squeezed_20 : decode cX4_squeezed 20 = .ok (.ifCond .eq 17, 3) := by decide +kernel
theorem dX4_squeezed_23 : decode cX4_squeezed 23 = .ok (.iload_n 2, 1) := by decide +kernel
theorem dX4_squeezed_24 : decode cX4_squeezed 24 = .ok (.iload_n 0, 1) := by decide +kernel
theorem dX4_squeezed_25 : decode cX4_squeezed 25 = .ok (.iload 4, 2) := by decide +kernel
theorem dX4_squeezed_27 : decode cX4_squeezed 27 = .ok (.ishr, 1) := by decide +kernel
theorem dX4_squeezed_28 : decode cX4_squeezed 28 = .ok (.iconst 1, 1) := by decide +kernel
theorem dX4_squeezed_29 : decode cX4_squeezed 29 = .ok (.iand, 1) := by decide +kernel
theorem dX4_squeezed_30 : decode cX4_squeezed 30 = .ok (.iload_n 3, 1) := by decide +kernel
theorem dX4_squeezed_31 : decode cX4_squeezed 31 = .ok (.ishl, 1) := by decide +kernel
theorem dX4_squeezed_32 : decode cX4_squeezed 32 = .ok (.ior, 1) := by decide +kernel
theorem dX4_squeezed_33 : decode cX4_squeezed 33 = .ok (.istore_n 2, 1) := by decide +kernel
theorem dX4_squeezed_34 : decode cX4_squeezed 34 = .ok (.iinc 3 1, 3) := by decide +kernel
theorem dX4_squeezed_37 : decode cX4_squeezed 37 = .ok (.iinc 4 1, 3) := by decide +kernel
theorem dX4_squeezed_40 : decode cX4_squeezed 40 = .ok (.goto (-33), 3) := by decide +kernel
set_option maxRecDepth 100000 in
set_option maxHeartbeats 4000000 in
theorem m_squeezed (l : Launch) (E : EV) (ro : va_W) (bi : Int32) (sy : Int32)  : CT l yX4_squeezed (Cond.code yX4_squeezed cX4_squeezed 5 (some .int) :: TB) ({ frames := 1, cells := 0, slots := 0, locals := 21 }) E ro [.int bi, .int sy] [] (Qi E (fun (rz : Int32) uz => (uz = [] ∧ (SQr bi sy 24 rz)))) 0 0 := by
  refine ct_of rfl rfl ?_
  intro X C hT hin hro
  show WW X 5 E 0 [(0, .int bi), (1, .int sy)] [] [] 0 0
  refine ww_iconst (v := 0) C dX4_squeezed_0 rfl ?_
  refine ww_istore_n (lv' := [(2, .int 0), (0, .int bi), (1, .int sy)]) C dX4_squeezed_1 rfl rfl rfl ?_
  refine ww_iconst (v := 0) C dX4_squeezed_2 rfl ?_
  refine ww_istore_n (lv' := [(3, .int 0), (2, .int 0), (0, .int bi), (1, .int sy)]) C dX4_squeezed_3 rfl rfl rfl ?_
  refine ww_iconst (v := 0) C dX4_squeezed_4 rfl ?_
  refine ww_istore (lv' := [(4, .int 0), (3, .int 0), (2, .int 0), (0, .int bi), (1, .int sy)]) C dX4_squeezed_5 rfl rfl ?_
  have loop_7 : ∀ (fu : Nat) (i1 : Nat) (ac : Int32) (pl : Nat), (i1 ≤ 24) → (SQr bi sy i1 ac) → (pl = cb (bt sy) i1) → 24 - i1 < fu → WW X 5 E 7 [(4, .int (nI i1)), (3, .int (nI pl)), (2, .int ac), (0, .int bi), (1, .int sy)] [] [] 0 0 := by
    intro fu
    induction fu with
    | zero => intro i1 ac pl hi1 hsq hpl hmeas; exact absurd hmeas (Nat.not_lt_zero _)
    | succ fu ih_7 =>
      intro i1 ac pl hi1 hsq hpl hmeas
      refine ww_iload C dX4_squeezed_7 0 rfl ?_
      refine ww_bipush (v := 24) C dX4_squeezed_9 rfl ?_
      refine ww_icmp_ge (tgt := 43) C dX4_squeezed_11 (by decide) (fun c_1 => ?_) (fun c_1 => ?_)
      · have zc_1 : ((i1 : Nat) : Int) ≥ 24 := i_le rfl (nI_toInt (n := i1) (by omega)) c_1
        refine ww_iload_n C dX4_squeezed_43 2 rfl rfl ?_
        exact ww_iret (u := []) C hT [] rfl rfl rfl rfl dX4_squeezed_44 (⟨rfl, (by rw [show (24 : Nat) = i1 by omega]; exact hsq)⟩)
      · have zc_1 : ((i1 : Nat) : Int) < 24 := i_nle rfl (nI_toInt (n := i1) (by omega)) c_1
        refine ww_iload_n C dX4_squeezed_14 4 rfl rfl ?_
        refine ww_iload C dX4_squeezed_15 0 rfl ?_
        refine ww_ci (wr := []) (k' := 0) (n' := 0) C (run_SN (As := [.int sy, .int (nI i1)]) (rest := []) C (c_hasN X.2.1 E ro sy i1 (by omega)) ms_X11_has (List.mem_of_getElem? (i := 12) rfl) rfl rfl rfl rfl dX4_squeezed_17) (roK hro) [] [] rfl rfl rfl rfl (fun r_2 uz hw => ?_)
        rcases hw with hw | hw
        · refine an2 hw ?_
          clear hw
          intro he_4 he_5 hw
          have h_3 := hw
          clear hw
          have he_4 := he_4.symm
          subst he_4
          subst he_5
          refine ww_eq (ws' := []) ?_ rfl rfl rfl
          refine ww_if_eq_f (tgt := 37) C dX4_squeezed_20 (by decide) (by decide) ?_
          refine ww_iload_n C dX4_squeezed_23 2 rfl rfl ?_
          refine ww_iload_n C dX4_squeezed_24 3 rfl rfl ?_
          refine ww_iload C dX4_squeezed_25 0 rfl ?_
          obtain ⟨x_9, ex_9⟩ : ∃ z : Int32, bi >>> ((nI i1) &&& 31) = z := ⟨_, rfl⟩
          refine ww_ishr (v := x_9) C dX4_squeezed_27 ex_9 ?_
          refine ww_iconst (v := 1) C dX4_squeezed_28 rfl ?_
          obtain ⟨j_10, hj_10, ej_10⟩ := pk_andE x_9 (m := 1) 1 rfl
          refine ww_iand (v := (nI j_10)) C dX4_squeezed_29 ej_10 ?_
          refine ww_iload_n C dX4_squeezed_30 1 rfl rfl ?_
          obtain ⟨x_11, ex_11⟩ : ∃ z : Int32, (nI j_10) <<< ((nI pl) &&& 31) = z := ⟨_, rfl⟩
          refine ww_ishl (v := x_11) C dX4_squeezed_31 ex_11 ?_
          obtain ⟨x_12, ex_12⟩ : ∃ z : Int32, ac ||| x_11 = z := ⟨_, rfl⟩
          refine ww_ior (v := x_12) C dX4_squeezed_32 ex_12 ?_
          refine ww_istore_n (lv' := [(2, .int x_12), (4, .int (nI i1)), (3, .int (nI pl)), (0, .int bi), (1, .int sy)]) C dX4_squeezed_33 rfl rfl rfl ?_
          refine ww_iinc (j := 2) (v := (nI (pl + 1))) (lv' := [(3, .int (nI (pl + 1))), (2, .int x_12), (4, .int (nI i1)), (0, .int bi), (1, .int sy)]) C dX4_squeezed_34 rfl (nI_add pl 1) rfl rfl ?_
          refine ww_iinc (j := 2) (v := (nI (i1 + 1))) (lv' := [(4, .int (nI (i1 + 1))), (3, .int (nI (pl + 1))), (2, .int x_12), (0, .int bi), (1, .int sy)]) C dX4_squeezed_37 rfl (nI_add i1 1) rfl rfl ?_
          refine ww_goto (tgt := 7) C dX4_squeezed_40 (by decide) ?_
          exact ww_lv [0, 1, 2, 3, 4] rfl (ww_sub [] rfl rfl (ih_7 (i1 + 1) x_12 (pl + 1) (by omega) (SQr.t hsq (by omega) h_3 hpl ex_9 ej_10 (by omega) ex_11 ex_12) (by rw [cb_t h_3]; omega) (by omega)))
        · refine an2 hw ?_
          clear hw
          intro he_7 he_8 hw
          have h_6 := hw
          clear hw
          have he_7 := he_7.symm
          subst he_7
          subst he_8
          refine ww_eq (ws' := []) ?_ rfl rfl rfl
          refine ww_if_eq_t (tgt := 37) C dX4_squeezed_20 (by decide) (rfl) ?_
          refine ww_iinc (j := 0) (v := (nI (i1 + 1))) (lv' := [(4, .int (nI (i1 + 1))), (3, .int (nI pl)), (2, .int ac), (0, .int bi), (1, .int sy)]) C dX4_squeezed_37 rfl (nI_add i1 1) rfl rfl ?_
          refine ww_goto (tgt := 7) C dX4_squeezed_40 (by decide) ?_
          exact ww_lv [0, 1, 2, 3, 4] rfl (ww_sub [] rfl rfl (ih_7 (i1 + 1) ac pl (by omega) (SQr.f hsq h_6) (by rw [cb_f h_6]; omega) (by omega)))
  exact ww_lv [0, 1, 2, 3, 4] rfl (ww_sub [] rfl rfl (loop_7 _ 0 0 0 (by omega) SQr.nil rfl (Nat.lt_succ_self _)))
theorem dX4_cut_0 : decode cX4_cut 0 = .ok (.iconst 0, 1) := by decide +kernel
theorem dX4_cut_1 : decode cX4_cut 1 = .ok (.istore_n 2, 1) := by decide +kernel
theorem dX4_cut_2 : decode cX4_cut 2 = .ok (.iconst 0, 1) := by decide +kernel
theorem dX4_cut_3 : decode cX4_cut 3 = .ok (.istore_n 3, 1) := by decide +kernel
theorem dX4_cut_4 : decode cX4_cut 4 = .ok (.iload_n 3, 1) := by decide +kernel
theorem dX4_cut_5 : decode cX4_cut 5 = .ok (.aload_n 0, 1) := by decide +kernel
theorem dX4_cut_6 : decode cX4_cut 6 = .ok (.getfield 18, 3) := by decide +kernel
theorem dX4_cut_9 : decode cX4_cut 9 = .ok (.if_icmp .ge 70, 3) := by decide +kernel
theorem dX4_cut_79 : decode cX4_cut 79 = .ok (.aload_n 0, 1) := by decide +kernel
theorem dX4_cut_80 : decode cX4_cut 80 = .ok (.iload_n 1, 1) := by decide +kernel
theorem dX4_cut_81 : decode cX4_cut 81 = .ok (.iconst 1, 1) := by decide +kernel
theorem dX4_cut_82 : decode cX4_cut 82 = .ok (.aload_n 0, 1) := by decide +kernel
theorem dX4_cut_83 : decode cX4_cut 83 = .ok (.getfield 22, 3) := by decide +kernel
theorem dX4_cut_86 : decode cX4_cut 86 = .ok (.ishl, 1) := by decide +kernel
theorem dX4_cut_87 : decode cX4_cut 87 = .ok (.iconst 1, 1) := by decide +kernel
theorem dX4_cut_88 : decode cX4_cut 88 = .ok (.isub, 1) := by decide +kernel
theorem dX4_cut_89 : decode cX4_cut 89 = .ok (.iand, 1) := by decide +kernel
theorem dX4_cut_90 : decode cX4_cut 90 = .ok (.invokestatic 32, 3) := by decide +kernel
theorem dX4_cut_93 : decode cX4_cut 93 = .ok (.putfield 22, 3) := by decide +kernel
theorem dX4_cut_96 : decode cX4_cut 96 = .ok (.aload_n 0, 1) := by decide +kernel
theorem dX4_cut_97 : decode cX4_cut 97 = .ok (.iload_n 2, 1) := by decide +kernel
theorem dX4_cut_98 : decode cX4_cut 98 = .ok (.putfield 18, 3) := by decide +kernel
theorem dX4_cut_101 : decode cX4_cut 101 = .ok (.return_, 1) := by decide +kernel
theorem dX4_cut_12 : decode cX4_cut 12 = .ok (.iload_n 1, 1) := by decide +kernel
theorem dX4_cut_13 : decode cX4_cut 13 = .ok (.iload_n 3, 1) := by decide +kernel
theorem dX4_cut_14 : decode cX4_cut 14 = .ok (.invokestatic 51, 3) := by decide +kernel
theorem dX4_cut_17 : decode cX4_cut 17 = .ok (.ifCond .eq 56, 3) := by decide +kernel
theorem dX4_cut_20 : decode cX4_cut 20 = .ok (.aload_n 0, 1) := by decide +kernel
theorem dX4_cut_21 : decode cX4_cut 21 = .ok (.getfield 9, 3) := by decide +kernel
theorem dX4_cut_24 : decode cX4_cut 24 = .ok (.iload_n 2, 1) := by decide +kernel
theorem dX4_cut_25 : decode cX4_cut 25 = .ok (.aload_n 0, 1) := by decide +kernel
theorem dX4_cut_26 : decode cX4_cut 26 = .ok (.getfield 9, 3) := by decide +kernel
theorem dX4_cut_29 : decode cX4_cut 29 = .ok (.iload_n 3, 1) := by decide +kernel
theorem dX4_cut_30 : decode cX4_cut 30 = .ok (.iaload, 1) := by decide +kernel
theorem dX4_cut_31 : decode cX4_cut 31 = .ok (.iastore, 1) := by decide +kernel
theorem dX4_cut_32 : decode cX4_cut 32 = .ok (.iconst 0, 1) := by decide +kernel
theorem dX4_cut_33 : decode cX4_cut 33 = .ok (.istore 4, 2) := by decide +kernel
theorem dX4_cut_35 : decode cX4_cut 35 = .ok (.iload 4, 2) := by decide +kernel
theorem dX4_cut_37 : decode cX4_cut 37 = .ok (.iconst 4, 1) := by decide +kernel
theorem dX4_cut_38 : decode cX4_cut 38 = .ok (.if_icmp .ge 32, 3) := by decide +kernel
theorem dX4_cut_70 : decode cX4_cut 70 = .ok (.iinc 2 1, 3) := by decide +kernel
theorem dX4_cut_73 : decode cX4_cut 73 = .ok (.iinc 3 1, 3) := by decide +kernel
theorem dX4_cut_76 : decode cX4_cut 76 = .ok (.goto (-72), 3) := by decide +kernel
theorem dX4_cut_41 : decode cX4_cut 41 = .ok (.aload_n 0, 1) := by decide +kernel
theorem dX4_cut_42 : decode cX4_cut 42 = .ok (.getfield 15, 3) := by decide +kernel
theorem dX4_cut_45 : decode cX4_cut 45 = .ok (.iload 4, 2) := by decide +kernel
theorem dX4_cut_47 : decode cX4_cut 47 = .ok (.bipush 24, 2) := by decide +kernel
theorem dX4_cut_49 : decode cX4_cut 49 = .ok (.imul, 1) := by decide +kernel
theorem dX4_cut_50 : decode cX4_cut 50 = .ok (.iload_n 2, 1) := by decide +kernel
theorem dX4_cut_51 : decode cX4_cut 51 = .ok (.iadd, 1) := by decide +kernel
theorem dX4_cut_52 : decode cX4_cut 52 = .ok (.aload_n 0, 1) := by decide +kernel
theorem dX4_cut_53 : decode cX4_cut 53 = .ok (.iload 4, 2) := by decide +kernel
theorem dX4_cut_55 : decode cX4_cut 55 = .ok (.iload_n 3, 1) := by decide +kernel
theorem dX4_cut_56 : decode cX4_cut 56 = .ok (.invokevirtual 25, 3) := by decide +kernel
theorem dX4_cut_59 : decode cX4_cut 59 = .ok (.iload_n 1, 1) := by decide +kernel
theorem dX4_cut_60 : decode cX4_cut 60 = .ok (.invokestatic 55, 3) := by decide +kernel
theorem wl_X4_55 : Cond.methodLink RX4 55 yX4_squeezed ∈ TB := tbm (tq4 (List.mem_of_getElem? (i := 204) (by decide +kernel))) (by decide +kernel)
theorem wc_X4_squeezed : Cond.code yX4_squeezed cX4_squeezed 5 (some .int) ∈ TB := tbm (tq4 (List.mem_of_getElem? (i := 206) (rfl))) (by decide +kernel)
theorem wt_X4_squeezed : Cond.static yX4_squeezed ∈ TB := tbm (tq4 (List.mem_of_getElem? (i := 205) (by decide +kernel))) (by decide +kernel)
theorem ms_X4_squeezed : MS yX4_squeezed cX4_squeezed 5 (some .int) 2 := ⟨wc_X4_squeezed, wn_X4, ⟨by decide +kernel, by decide +kernel, by decide +kernel⟩, wt_X4_squeezed⟩
theorem dX4_cut_63 : decode cX4_cut 63 = .ok (.iastore, 1) := by decide +kernel
theorem dX4_cut_64 : decode cX4_cut 64 = .ok (.iinc 4 1, 3) := by decide +kernel
theorem dX4_cut_67 : decode cX4_cut 67 = .ok (.goto (-32), 3) := by decide +kernel
set_option maxRecDepth 100000 in
set_option maxHeartbeats 4000000 in
theorem m_cut (l : Launch) (E : EV) (ro : va_W) (h : Nat) (sy : Int32) (n : Nat) (r : Nat) (a : Nat) (b : Nat) (f : Nat → Int32) (gg : Nat → Int32) (hn : n ≤ 24) (hr : r < n ∨ r = 0) (hwf : WFm (am n r f gg)) : CT l yX4_cut (Cond.code yX4_cut cX4_cut 5 none :: TB) ({ frames := 2, cells := 0, slots := 0, locals := 45 }) E ro [.ref h, .int sy] [(h, .inr (4, [.int (nI n), .int (nI r), .ref a, .ref b])), (a, .inl (E.2.1 1, 24, .inl f)), (b, .inl (E.2.1 1, 96, .inl gg))] (Qv E (fun uz => (∃ (n2 : Nat) (r2 : Nat) (f2 : Nat → Int32) (g2 : Nat → Int32), uz = [(h, .inr (4, [.int (nI n2), .int (nI r2), .ref a, .ref b])), (a, .inl (E.2.1 1, 24, .inl f2)), (b, .inl (E.2.1 1, 96, .inl g2))] ∧ (n2 = cb (bt sy) n) ∧ (r2 = cb (bt sy) r) ∧ (am n2 r2 f2 g2 = aCut (am n r f gg) (bt sy))))) 0 0 := by
  refine ct_of rfl rfl ?_
  intro X C hT hin hro
  show WW X 5 E 0 [(0, .ref h), (1, .int sy)] [] [(h, .inr (4, [.int (nI n), .int (nI r), .ref a, .ref b])), (a, .inl (E.2.1 1, 24, .inl f)), (b, .inl (E.2.1 1, 96, .inl gg))] 0 0
  refine ww_iconst (v := 0) C dX4_cut_0 rfl ?_
  refine ww_istore_n (lv' := [(2, .int 0), (0, .ref h), (1, .int sy)]) C dX4_cut_1 rfl rfl rfl ?_
  refine ww_iconst (v := 0) C dX4_cut_2 rfl ?_
  refine ww_istore_n (lv' := [(3, .int 0), (2, .int 0), (0, .ref h), (1, .int sy)]) C dX4_cut_3 rfl rfl rfl ?_
  have loop_4 : ∀ (fu : Nat) (i1 : Nat) (le : Nat) (f1 : Nat → Int32) (g1 : Nat → Int32), (i1 ≤ n) → (le ≤ i1) → (le = cb (bt sy) i1) → (CUf n i1 (bt sy) f f1) → (CUg n i1 0 sy gg g1) → n - i1 < fu → WW X 5 E 4 [(3, .int (nI i1)), (2, .int (nI le)), (0, .ref h), (1, .int sy)] [] [(h, .inr (4, [.int (nI n), .int (nI r), .ref a, .ref b])), (a, .inl (E.2.1 1, 24, .inl f1)), (b, .inl (E.2.1 1, 96, .inl g1))] 0 0 := by
    intro fu
    induction fu with
    | zero => intro i1 le f1 g1 hi1 hle hlc hcuf hcug hmeas; exact absurd hmeas (Nat.not_lt_zero _)
    | succ fu ih_4 =>
      intro i1 le f1 g1 hi1 hle hlc hcuf hcug hmeas
      refine ww_iload_n C dX4_cut_4 0 rfl rfl ?_
      refine ww_aload_n C dX4_cut_5 2 rfl rfl ?_
      refine ww_get C fg_X4_18 0 rfl rfl dX4_cut_6 ?_
      refine ww_icmp_ge (tgt := 79) C dX4_cut_9 (by decide) (fun c_1 => ?_) (fun c_1 => ?_)
      · have zc_1 : ((i1 : Nat) : Int) ≥ ((n : Nat) : Int) := i_le (nI_toInt (n := n) (by omega)) (nI_toInt (n := i1) (by omega)) c_1
        refine ww_aload_n C dX4_cut_79 2 rfl rfl ?_
        refine ww_iload_n C dX4_cut_80 3 rfl rfl ?_
        refine ww_iconst (v := 1) C dX4_cut_81 rfl ?_
        refine ww_aload_n C dX4_cut_82 2 rfl rfl ?_
        refine ww_get C fg_X4_22 0 rfl rfl dX4_cut_83 ?_
        refine ww_ishl (v := (nI (2 ^ r))) C dX4_cut_86 (shl_1 (by omega)) ?_
        refine ww_iconst (v := 1) C dX4_cut_87 rfl ?_
        obtain ⟨x_2, ex_2⟩ : ∃ z : Int32, (nI (2 ^ r)) - (1 : Int32) = z := ⟨_, rfl⟩
        refine ww_isub (v := x_2) C dX4_cut_88 ex_2 ?_
        obtain ⟨x_3, ex_3⟩ : ∃ z : Int32, sy &&& x_2 = z := ⟨_, rfl⟩
        refine ww_iand (v := x_3) C dX4_cut_89 ex_3 ?_
        refine ww_ci (wr := [(h, .inr (4, [.int (nI n), .int (nI r), .ref a, .ref b])), (a, .inl (E.2.1 1, 24, .inl f1)), (b, .inl (E.2.1 1, 96, .inl g1))]) (k' := 0) (n' := 0) C (run_S (As := [.int x_3]) (rest := [.ref h]) C (c_bitCount X.2.1 E ro x_3) ms_J6_bitCount_0f7a4 wl_X4_32 rfl rfl rfl rfl dX4_cut_90) (roK hro) [] [0, 1, 2] rfl rfl rfl rfl (fun r_4 uz hw => ?_)
        refine an1 hw ?_
        clear hw
        intro he_5 hw
        have he_6 := hw
        clear hw
        have he_5 := he_5.symm
        subst he_5
        subst he_6
        refine ww_eq (ws' := [(h, .inr (4, [.int (nI n), .int (nI r), .ref a, .ref b])), (a, .inl (E.2.1 1, 24, .inl f1)), (b, .inl (E.2.1 1, 96, .inl g1))]) ?_ rfl rfl rfl
        refine ww_eq (st' := [.int (nI (cb (bt sy) r)), .ref h]) ?_ rfl (by rw [← ex_3, ← ex_2, bcf_lowx (by omega)]) rfl
        refine ww_put (ws' := [(h, .inr (4, [.int (nI n), .int (nI (cb (bt sy) r)), .ref a, .ref b])), (a, .inl (E.2.1 1, 24, .inl f1)), (b, .inl (E.2.1 1, 96, .inl g1))]) C fp_X4_22 0 rfl rfl rfl rfl rfl dX4_cut_93 ?_
        refine ww_aload_n C dX4_cut_96 2 rfl rfl ?_
        refine ww_iload_n C dX4_cut_97 1 rfl rfl ?_
        refine ww_put (ws' := [(h, .inr (4, [.int (nI le), .int (nI (cb (bt sy) r)), .ref a, .ref b])), (a, .inl (E.2.1 1, 24, .inl f1)), (b, .inl (E.2.1 1, 96, .inl g1))]) C fp_X4_18 0 rfl rfl rfl rfl rfl dX4_cut_98 ?_
        exact ww_vret (u := [(h, .inr (4, [.int (nI le), .int (nI (cb (bt sy) r)), .ref a, .ref b])), (a, .inl (E.2.1 1, 24, .inl f1)), (b, .inl (E.2.1 1, 96, .inl g1))]) C hT [0, 1, 2] rfl rfl rfl rfl dX4_cut_101 (⟨le, (cb (bt sy) r), f1, g1, rfl, (by rw [hlc]; congr 1; omega), rfl, (am_cut hn hwf hcuf hcug (by omega) (by rw [hlc]; congr 1; omega) rfl)⟩)
      · have zc_1 : ((i1 : Nat) : Int) < ((n : Nat) : Int) := i_nle (nI_toInt (n := n) (by omega)) (nI_toInt (n := i1) (by omega)) c_1
        refine ww_iload_n C dX4_cut_12 3 rfl rfl ?_
        refine ww_iload_n C dX4_cut_13 0 rfl rfl ?_
        refine ww_ci (wr := [(h, .inr (4, [.int (nI n), .int (nI r), .ref a, .ref b])), (a, .inl (E.2.1 1, 24, .inl f1)), (b, .inl (E.2.1 1, 96, .inl g1))]) (k' := 0) (n' := 0) C (run_SN (As := [.int sy, .int (nI i1)]) (rest := []) C (c_hasN X.2.1 E ro sy i1 (by omega)) ms_X11_has (List.mem_of_getElem? (i := 12) rfl) rfl rfl rfl rfl dX4_cut_14) (roK hro) [] [0, 1, 2] rfl rfl rfl rfl (fun r_7 uz hw => ?_)
        rcases hw with hw | hw
        · refine an2 hw ?_
          clear hw
          intro he_9 he_10 hw
          have h_8 := hw
          clear hw
          have he_9 := he_9.symm
          subst he_9
          subst he_10
          refine ww_eq (ws' := [(h, .inr (4, [.int (nI n), .int (nI r), .ref a, .ref b])), (a, .inl (E.2.1 1, 24, .inl f1)), (b, .inl (E.2.1 1, 96, .inl g1))]) ?_ rfl rfl rfl
          refine ww_if_eq_f (tgt := 73) C dX4_cut_17 (by decide) (by decide) ?_
          refine ww_aload_n C dX4_cut_20 2 rfl rfl ?_
          refine ww_get C fg_X4_9 0 rfl rfl dX4_cut_21 ?_
          refine ww_iload_n C dX4_cut_24 1 rfl rfl ?_
          refine ww_aload_n C dX4_cut_25 2 rfl rfl ?_
          refine ww_get C fg_X4_9 0 rfl rfl dX4_cut_26 ?_
          refine ww_iload_n C dX4_cut_29 0 rfl rfl ?_
          obtain ⟨x_14, ex_14⟩ : ∃ z : Int32, f1 i1 = z := ⟨_, rfl⟩
          refine ww_iald (v := x_14) C 1 rfl (vp_in_nI (by omega) (by omega)) (ldn (by omega) ex_14) dX4_cut_30 ?_
          obtain ⟨f_15, ef_15⟩ : ∃ z : Nat → Int32, upd f1 le x_14 = z := ⟨_, rfl⟩
          refine ww_iast (ws' := [(h, .inr (4, [.int (nI n), .int (nI r), .ref a, .ref b])), (a, .inl (E.2.1 1, 24, .inl f_15)), (b, .inl (E.2.1 1, 96, .inl g1))]) C 1 rfl (vp_in_nI (by omega) (by omega)) (ldn2 (by omega) ef_15) rfl dX4_cut_31 ?_
          refine ww_iconst (v := 0) C dX4_cut_32 rfl ?_
          refine ww_istore (lv' := [(4, .int 0), (3, .int (nI i1)), (2, .int (nI le)), (0, .ref h), (1, .int sy)]) C dX4_cut_33 rfl rfl ?_
          have loop_35 : ∀ (fu : Nat) (i2 : Nat) (g3 : Nat → Int32), (i2 ≤ 4) → (CUg n i1 i2 sy gg g3) → 4 - i2 < fu → WW X 5 E 35 [(4, .int (nI i2)), (3, .int (nI i1)), (2, .int (nI le)), (0, .ref h), (1, .int sy)] [] [(h, .inr (4, [.int (nI n), .int (nI r), .ref a, .ref b])), (a, .inl (E.2.1 1, 24, .inl f_15)), (b, .inl (E.2.1 1, 96, .inl g3))] 0 0 := by
            intro fu
            induction fu with
            | zero => intro i2 g3 hi2 hcug2 hmeas; exact absurd hmeas (Nat.not_lt_zero _)
            | succ fu ih_35 =>
              intro i2 g3 hi2 hcug2 hmeas
              refine ww_iload C dX4_cut_35 0 rfl ?_
              refine ww_iconst (v := 4) C dX4_cut_37 rfl ?_
              refine ww_icmp_ge (tgt := 70) C dX4_cut_38 (by decide) (fun c_16 => ?_) (fun c_16 => ?_)
              · have zc_16 : ((i2 : Nat) : Int) ≥ 4 := i_le rfl (nI_toInt (n := i2) (by omega)) c_16
                refine ww_iinc (j := 2) (v := (nI (le + 1))) (lv' := [(2, .int (nI (le + 1))), (4, .int (nI i2)), (3, .int (nI i1)), (0, .ref h), (1, .int sy)]) C dX4_cut_70 rfl (nI_add le 1) rfl rfl ?_
                refine ww_iinc (j := 2) (v := (nI (i1 + 1))) (lv' := [(3, .int (nI (i1 + 1))), (2, .int (nI (le + 1))), (4, .int (nI i2)), (0, .ref h), (1, .int sy)]) C dX4_cut_73 rfl (nI_add i1 1) rfl rfl ?_
                refine ww_goto (tgt := 4) C dX4_cut_76 (by decide) ?_
                exact ww_lv [0, 1, 3, 4] rfl (ww_sub [0, 1, 2] rfl rfl (ih_4 (i1 + 1) (le + 1) f_15 g3 (by omega) (by omega) (by rw [cb_t h_8]; omega) (CUf.t hcuf h_8 hlc ex_14 ef_15) (CUG.up hcug2 (by omega)) (by omega)))
              · have zc_16 : ((i2 : Nat) : Int) < 4 := i_nle rfl (nI_toInt (n := i2) (by omega)) c_16
                refine ww_aload_n C dX4_cut_41 3 rfl rfl ?_
                refine ww_get C fg_X4_15 0 rfl rfl dX4_cut_42 ?_
                refine ww_iload C dX4_cut_45 0 rfl ?_
                refine ww_bipush (v := 24) C dX4_cut_47 rfl ?_
                refine ww_imul (v := (nI (i2 * 24))) C dX4_cut_49 (pk_mul i2 24) ?_
                refine ww_iload_n C dX4_cut_50 2 rfl rfl ?_
                refine ww_iadd (v := (nI ((i2 * 24) + le))) C dX4_cut_51 (nI_add (i2 * 24) le) ?_
                refine ww_aload_n C dX4_cut_52 3 rfl rfl ?_
                refine ww_iload C dX4_cut_53 0 rfl ?_
                refine ww_iload_n C dX4_cut_55 1 rfl rfl ?_
                refine ww_ci (wr := []) (k' := 0) (n' := 0) C (run_V (As := [.int (nI i2), .int (nI i1)]) (rest := [.int (nI ((i2 * 24) + le)), .ref b]) C (m_held X.2.1 E ro h i2 i1 n r a b f_15 g3 (by omega) (by omega)) mi_X4_held wl_X4_25 rfl 0 4 rfl rfl rfl rfl rfl dX4_cut_56) (roK hro) [0, 1, 2] [] rfl rfl rfl rfl (fun r_17 uz hw => ?_)
                refine an1 hw ?_
                clear hw
                intro he_18 hw
                have he_19 := hw
                clear hw
                have he_18 := he_18.symm
                subst he_18
                subst he_19
                refine ww_eq (ws' := [(h, .inr (4, [.int (nI n), .int (nI r), .ref a, .ref b])), (a, .inl (E.2.1 1, 24, .inl f_15)), (b, .inl (E.2.1 1, 96, .inl g3))]) ?_ rfl rfl rfl
                refine ww_iload_n C dX4_cut_59 4 rfl rfl ?_
                refine ww_ci (wr := [(h, .inr (4, [.int (nI n), .int (nI r), .ref a, .ref b])), (a, .inl (E.2.1 1, 24, .inl f_15)), (b, .inl (E.2.1 1, 96, .inl g3))]) (k' := 0) (n' := 0) C (run_S (As := [.int (g3 (i2 * 24 + i1)), .int sy]) (rest := [.int (nI ((i2 * 24) + le)), .ref b]) C (m_squeezed X.2.1 E ro (g3 (i2 * 24 + i1)) sy) ms_X4_squeezed wl_X4_55 rfl rfl rfl rfl dX4_cut_60) (roK hro) [] [0, 1, 2] rfl rfl rfl rfl (fun r_20 uz hw => ?_)
                refine an1 hw ?_
                clear hw
                intro he_22 hw
                have h_21 := hw
                clear hw
                subst he_22
                refine ww_eq (ws' := [(h, .inr (4, [.int (nI n), .int (nI r), .ref a, .ref b])), (a, .inl (E.2.1 1, 24, .inl f_15)), (b, .inl (E.2.1 1, 96, .inl g3))]) ?_ rfl rfl rfl
                obtain ⟨f_23, ef_23⟩ : ∃ z : Nat → Int32, upd g3 ((i2 * 24) + le) r_20 = z := ⟨_, rfl⟩
                refine ww_iast (ws' := [(h, .inr (4, [.int (nI n), .int (nI r), .ref a, .ref b])), (a, .inl (E.2.1 1, 24, .inl f_15)), (b, .inl (E.2.1 1, 96, .inl f_23))]) C 2 rfl (vp_in_nI (by omega) (by omega)) (ldn2 (by omega) ef_23) rfl dX4_cut_63 ?_
                refine ww_iinc (j := 0) (v := (nI (i2 + 1))) (lv' := [(4, .int (nI (i2 + 1))), (3, .int (nI i1)), (2, .int (nI le)), (0, .ref h), (1, .int sy)]) C dX4_cut_64 rfl (nI_add i2 1) rfl rfl ?_
                refine ww_goto (tgt := 35) C dX4_cut_67 (by decide) ?_
                exact ww_lv [0, 1, 2, 3, 4] rfl (ww_sub [0, 1, 2] rfl rfl (ih_35 (i2 + 1) f_23 (by omega) (CUg.t hcug2 (by omega) (by omega) (by omega) h_8 hlc rfl h_21 ef_23) (by omega)))
          exact ww_lv [0, 1, 2, 3, 4] rfl (ww_sub [0, 1, 2] rfl rfl (loop_35 _ 0 g1 (by omega) hcug (Nat.lt_succ_self _)))
        · refine an2 hw ?_
          clear hw
          intro he_12 he_13 hw
          have h_11 := hw
          clear hw
          have he_12 := he_12.symm
          subst he_12
          subst he_13
          refine ww_eq (ws' := [(h, .inr (4, [.int (nI n), .int (nI r), .ref a, .ref b])), (a, .inl (E.2.1 1, 24, .inl f1)), (b, .inl (E.2.1 1, 96, .inl g1))]) ?_ rfl rfl rfl
          refine ww_if_eq_t (tgt := 73) C dX4_cut_17 (by decide) (rfl) ?_
          refine ww_iinc (j := 0) (v := (nI (i1 + 1))) (lv' := [(3, .int (nI (i1 + 1))), (2, .int (nI le)), (0, .ref h), (1, .int sy)]) C dX4_cut_73 rfl (nI_add i1 1) rfl rfl ?_
          refine ww_goto (tgt := 4) C dX4_cut_76 (by decide) ?_
          exact ww_lv [0, 1, 2, 3] rfl (ww_sub [0, 1, 2] rfl rfl (ih_4 (i1 + 1) le f1 g1 (by omega) (by omega) (by rw [cb_f h_11]; omega) (CUf.f hcuf h_11) (CUG.f hcug h_11) (by omega)))
  exact ww_lv [0, 1, 2, 3] rfl (ww_sub [0, 1, 2] rfl rfl (loop_4 _ 0 0 f gg (by omega) (by omega) rfl CUf.nil CUG.nil (Nat.lt_succ_self _)))
