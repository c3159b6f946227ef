theorem dX10_add_0 : decode cX10_add 0 = .ok (.aload_n 0, 1) := by decide +kernel
theorem dX10_add_1 : decode cX10_add 1 = .ok (.getfield 15, 3) := by decide +kernel
theorem uw_X10 : ∀ w ∈ u_ws RX10 TX10 5, w ∈ TB := uw_of [86, 88, 90, 92, 94] (by decide +kernel) (by decide +kernel)
theorem wf_X10_15 : Cond.fieldLink RX10 15 RX10 "length" "I" ∈ TB := tbm (tq1 (List.mem_of_getElem? (i := 79) (by decide +kernel))) (by decide +kernel)
theorem fg_X10_15 : FG RX10 15 10 1 := ⟨RX10, TX10, 5, uw_X10, wf_X10_15, rfl, by decide, rfl⟩
theorem dX10_add_4 : decode cX10_add 4 = .ok (.bipush 8, 2) := by decide +kernel
theorem dX10_add_6 : decode cX10_add 6 = .ok (.iadd, 1) := by decide +kernel
theorem dX10_add_7 : decode cX10_add 7 = .ok (.sipush 160, 3) := by decide +kernel
theorem dX10_add_10 : decode cX10_add 10 = .ok (.if_icmp .le 5, 3) := by decide +kernel
theorem dX10_add_15 : decode cX10_add 15 = .ok (.iconst 0, 1) := by decide +kernel
theorem dX10_add_16 : decode cX10_add 16 = .ok (.istore_n 3, 1) := by decide +kernel
theorem dX10_add_17 : decode cX10_add 17 = .ok (.iload_n 3, 1) := by decide +kernel
theorem dX10_add_18 : decode cX10_add 18 = .ok (.bipush 8, 2) := by decide +kernel
theorem dX10_add_20 : decode cX10_add 20 = .ok (.if_icmp .ge 31, 3) := by decide +kernel
theorem dX10_add_51 : decode cX10_add 51 = .ok (.aload_n 0, 1) := by decide +kernel
theorem dX10_add_52 : decode cX10_add 52 = .ok (.dup, 1) := by decide +kernel
theorem dX10_add_53 : decode cX10_add 53 = .ok (.getfield 15, 3) := by decide +kernel
theorem dX10_add_56 : decode cX10_add 56 = .ok (.bipush 8, 2) := by decide +kernel
theorem dX10_add_58 : decode cX10_add 58 = .ok (.iadd, 1) := by decide +kernel
theorem dX10_add_59 : decode cX10_add 59 = .ok (.putfield 15, 3) := by decide +kernel
theorem fp_X10_15 : FP RX10 15 10 1 .int false := ⟨RX10, TX10, 5, tyX10, uw_X10, wf_X10_15, rfl, by decide, rfl, tyX10_ok, nmX10, rfl, by decide +kernel⟩
theorem dX10_add_62 : decode cX10_add 62 = .ok (.iconst 1, 1) := by decide +kernel
theorem dX10_add_63 : decode cX10_add 63 = .ok (.ireturn, 1) := by decide +kernel
theorem dX10_add_23 : decode cX10_add 23 = .ok (.aload_n 0, 1) := by decide +kernel
theorem dX10_add_24 : decode cX10_add 24 = .ok (.getfield 9, 3) := by decide +kernel
theorem wf_X10_9 : Cond.fieldLink RX10 9 RX10 "bytes" "[B" ∈ TB := tbm (tq1 (List.mem_of_getElem? (i := 78) (by decide +kernel))) (by decide +kernel)
theorem fg_X10_9 : FG RX10 9 10 0 := ⟨RX10, TX10, 5, uw_X10, wf_X10_9, rfl, by decide, rfl⟩
theorem dX10_add_27 : decode cX10_add 27 = .ok (.aload_n 0, 1) := by decide +kernel
theorem dX10_add_28 : decode cX10_add 28 = .ok (.getfield 15, 3) := by decide +kernel
theorem dX10_add_31 : decode cX10_add 31 = .ok (.iload_n 3, 1) := by decide +kernel
theorem dX10_add_32 : decode cX10_add 32 = .ok (.iadd, 1) := by decide +kernel
theorem dX10_add_33 : decode cX10_add 33 = .ok (.lload_n 1, 1) := by decide +kernel
theorem dX10_add_34 : decode cX10_add 34 = .ok (.bipush 56, 2) := by decide +kernel
theorem dX10_add_36 : decode cX10_add 36 = .ok (.bipush 8, 2) := by decide +kernel
theorem dX10_add_38 : decode cX10_add 38 = .ok (.iload_n 3, 1) := by decide +kernel
theorem dX10_add_39 : decode cX10_add 39 = .ok (.imul, 1) := by decide +kernel
theorem dX10_add_40 : decode cX10_add 40 = .ok (.isub, 1) := by decide +kernel
theorem dX10_add_41 : decode cX10_add 41 = .ok (.lushr, 1) := by decide +kernel
theorem dX10_add_42 : decode cX10_add 42 = .ok (.l2i, 1) := by decide +kernel
theorem dX10_add_43 : decode cX10_add 43 = .ok (.i2b, 1) := by decide +kernel
theorem dX10_add_44 : decode cX10_add 44 = .ok (.bastore, 1) := by decide +kernel
theorem dX10_add_45 : decode cX10_add 45 = .ok (.iinc 3 1, 3) := by decide +kernel
theorem dX10_add_48 : decode cX10_add 48 = .ok (.goto (-31), 3) := by decide +kernel
theorem dX10_add_13 : decode cX10_add 13 = .ok (.iconst 0, 1) := by decide +kernel
theorem dX10_add_14 : decode cX10_add 14 = .ok (.ireturn, 1) := by decide +kernel
set_option maxRecDepth 100000 in
set_option maxHeartbeats 4000000 in
theorem t_add (l : Launch) (E : EV) (ro : va_W) (qt : Nat) (v : Int64) (tb : Nat) (tl : Nat) (ta : Int32) (tk : Int32) (ts : Int32) (fb : Nat → Int32) (htl : tl ≤ 160) : CT l yX10_add (Cond.code yX10_add cX10_add 4 (some .boolean) :: TB) ({ frames := 0, cells := 0, slots := 0, locals := 0 }) E ro [.ref qt, .long v] [(qt, .inr (10, [.ref tb, .int (nI tl), .int ta, .int tk, .int ts])), (tb, .inl (E.2.1 0, 160, .inl fb))] (Qi E (fun (rz : Int32) uz => (∃ (fb2 : Nat → Int32), rz = 1 ∧ uz = [(qt, .inr (10, [.ref tb, .int (nI (tl + 8)), .int ta, .int tk, .int ts])), (tb, .inl (E.2.1 0, 160, .inl fb2))] ∧ (tl + 8 ≤ 160) ∧ (BYW fb fb2 tl 8 v)) ∨ (rz = 0 ∧ uz = [(qt, .inr (10, [.ref tb, .int (nI tl), .int ta, .int tk, .int ts])), (tb, .inl (E.2.1 0, 160, .inl fb))] ∧ (160 < tl + 8)))) 0 0 := by
  refine ct_of rfl rfl ?_
  intro X C hT hin hro
  show WW X 4 E 0 [(0, .ref qt), (1, .long v)] [] [(qt, .inr (10, [.ref tb, .int (nI tl), .int ta, .int tk, .int ts])), (tb, .inl (E.2.1 0, 160, .inl fb))] 0 0
  refine ww_aload_n C dX10_add_0 0 rfl rfl ?_
  refine ww_get C fg_X10_15 0 rfl rfl dX10_add_1 ?_
  refine ww_bipush (v := 8) C dX10_add_4 rfl ?_
  refine ww_iadd (v := (nI (tl + 8))) C dX10_add_6 (nI_add tl 8) ?_
  refine ww_sipush (v := 160) C dX10_add_7 rfl ?_
  refine ww_icmp_le (tgt := 15) C dX10_add_10 (by decide) (fun c_1 => ?_) (fun c_1 => ?_)
  · have zc_1 : ((tl + 8 : Nat) : Int) ≤ 160 := i_le (nI_toInt (n := tl + 8) (by omega)) rfl c_1
    refine ww_iconst (v := 0) C dX10_add_15 rfl ?_
    refine ww_istore_n (lv' := [(3, .int 0), (0, .ref qt), (1, .long v)]) C dX10_add_16 rfl rfl rfl ?_
    have loop_17 : ∀ (fu : Nat) (i1 : Nat) (fb1 : Nat → Int32), (i1 ≤ 8) → (BYW fb fb1 tl i1 v) → 8 - i1 < fu → WW X 4 E 17 [(3, .int (nI i1)), (0, .ref qt), (1, .long v)] [] [(qt, .inr (10, [.ref tb, .int (nI tl), .int ta, .int tk, .int ts])), (tb, .inl (E.2.1 0, 160, .inl fb1))] 0 0 := by
      intro fu
      induction fu with
      | zero => intro i1 fb1 hi1 hby hmeas; exact absurd hmeas (Nat.not_lt_zero _)
      | succ fu ih_17 =>
        intro i1 fb1 hi1 hby hmeas
        refine ww_iload_n C dX10_add_17 0 rfl rfl ?_
        refine ww_bipush (v := 8) C dX10_add_18 rfl ?_
        refine ww_icmp_ge (tgt := 51) C dX10_add_20 (by decide) (fun c_2 => ?_) (fun c_2 => ?_)
        · have zc_2 : ((i1 : Nat) : Int) ≥ 8 := i_le rfl (nI_toInt (n := i1) (by omega)) c_2
          refine ww_aload_n C dX10_add_51 1 rfl rfl ?_
          refine ww_dup C dX10_add_52 rfl ?_
          refine ww_get C fg_X10_15 0 rfl rfl dX10_add_53 ?_
          refine ww_bipush (v := 8) C dX10_add_56 rfl ?_
          refine ww_iadd (v := (nI (tl + 8))) C dX10_add_58 (nI_add tl 8) ?_
          refine ww_put (ws' := [(qt, .inr (10, [.ref tb, .int (nI (tl + 8)), .int ta, .int tk, .int ts])), (tb, .inl (E.2.1 0, 160, .inl fb1))]) C fp_X10_15 0 rfl rfl rfl rfl rfl dX10_add_59 ?_
          refine ww_iconst (v := 1) C dX10_add_62 rfl ?_
          exact ww_zret (u := [(qt, .inr (10, [.ref tb, .int (nI (tl + 8)), .int ta, .int tk, .int ts])), (tb, .inl (E.2.1 0, 160, .inl fb1))]) C hT [0, 1] rfl rfl rfl rfl rfl dX10_add_63 (Or.inl ⟨fb1, rfl, rfl, (by first | assumption | omega | decide), (by have h9 : i1 = 8 := (by omega); rw [h9] at hby; exact hby)⟩)
        · have zc_2 : ((i1 : Nat) : Int) < 8 := i_nle rfl (nI_toInt (n := i1) (by omega)) c_2
          refine ww_aload_n C dX10_add_23 1 rfl rfl ?_
          refine ww_get C fg_X10_9 0 rfl rfl dX10_add_24 ?_
          refine ww_aload_n C dX10_add_27 1 rfl rfl ?_
          refine ww_get C fg_X10_15 0 rfl rfl dX10_add_28 ?_
          refine ww_iload_n C dX10_add_31 0 rfl rfl ?_
          refine ww_iadd (v := (nI (tl + i1))) C dX10_add_32 (nI_add tl i1) ?_
          refine ww_lload_n C dX10_add_33 2 rfl rfl ?_
          refine ww_bipush (v := 56) C dX10_add_34 rfl ?_
          refine ww_bipush (v := 8) C dX10_add_36 rfl ?_
          refine ww_iload_n C dX10_add_38 0 rfl rfl ?_
          refine ww_imul (v := (nI (8 * i1))) C dX10_add_39 (pk_mul 8 i1) ?_
          refine ww_isub (v := (nI (56 - (8 * i1)))) C dX10_add_40 (pk_sub (a := 56) (b := (8 * i1)) (by omega)) ?_
          obtain ⟨l_3, el_3⟩ : ∃ z : Int64, (v.toUInt64 >>> ((nI (56 - (8 * i1))).toInt64.toUInt64 &&& Int64.toUInt64 63)).toInt64 = z := ⟨_, rfl⟩
          refine ww_lushr C dX10_add_41 el_3 ?_
          obtain ⟨x_4, ex_4⟩ : ∃ z : Int32, l_3.toInt32 = z := ⟨_, rfl⟩
          refine ww_l2i (v := x_4) C dX10_add_42 ex_4 ?_
          obtain ⟨x_5, ex_5⟩ : ∃ z : Int32, x_4.toInt8.toInt32 = z := ⟨_, rfl⟩
          refine ww_i2b (v := x_5) C dX10_add_43 ex_5 ?_
          obtain ⟨f_6, ef_6⟩ : ∃ z : Nat → Int32, upd fb1 (tl + i1) (vp_nar .byte x_5) = z := ⟨_, rfl⟩
          refine ww_bast (ws' := [(qt, .inr (10, [.ref tb, .int (nI tl), .int ta, .int tk, .int ts])), (tb, .inl (E.2.1 0, 160, .inl f_6))]) C 1 rfl (vp_in_nI (by omega) (by omega)) (ldn2 (by omega) ef_6) rfl dX10_add_44 ?_
          refine ww_iinc (j := 0) (v := (nI (i1 + 1))) (lv' := [(3, .int (nI (i1 + 1))), (0, .ref qt), (1, .long v)]) C dX10_add_45 rfl (nI_add i1 1) rfl rfl ?_
          refine ww_goto (tgt := 17) C dX10_add_48 (by decide) ?_
          exact ww_lv [0, 1, 2] rfl (ww_sub [0, 1] rfl rfl (ih_17 (i1 + 1) f_6 (by omega) (BYW.ext hby (by assumption) (by assumption) (by assumption) ef_6) (by omega)))
    exact ww_lv [0, 1, 2] rfl (ww_sub [0, 1] rfl rfl (loop_17 _ 0 fb (by omega) BYW.nil (Nat.lt_succ_self _)))
  · have zc_1 : ((tl + 8 : Nat) : Int) > 160 := i_nle (nI_toInt (n := tl + 8) (by omega)) rfl c_1
    refine ww_iconst (v := 0) C dX10_add_13 rfl ?_
    exact ww_zret (u := [(qt, .inr (10, [.ref tb, .int (nI tl), .int ta, .int tk, .int ts])), (tb, .inl (E.2.1 0, 160, .inl fb))]) C hT [0, 1] rfl rfl rfl rfl rfl dX10_add_14 (Or.inr ⟨rfl, rfl, (by first | assumption | omega | decide)⟩)
theorem dX10_rewind_0 : decode cX10_rewind 0 = .ok (.aload_n 0, 1) := by decide +kernel
theorem dX10_rewind_1 : decode cX10_rewind 1 = .ok (.iconst 0, 1) := by decide +kernel
theorem dX10_rewind_2 : decode cX10_rewind 2 = .ok (.putfield 19, 3) := by decide +kernel
theorem wf_X10_19 : Cond.fieldLink RX10 19 RX10 "at" "I" ∈ TB := tbm (tq1 (List.mem_of_getElem? (i := 81) (by decide +kernel))) (by decide +kernel)
theorem fp_X10_19 : FP RX10 19 10 2 .int false := ⟨RX10, TX10, 5, tyX10, uw_X10, wf_X10_19, rfl, by decide, rfl, tyX10_ok, nmX10, rfl, by decide +kernel⟩
theorem dX10_rewind_5 : decode cX10_rewind 5 = .ok (.return_, 1) := by decide +kernel
set_option maxRecDepth 100000 in
set_option maxHeartbeats 4000000 in
theorem t_rewind (l : Launch) (E : EV) (ro : va_W) (qt : Nat) (tb : Nat) (tl : Nat) (ta : Int32) (tk : Int32) (ts : Int32)  : CT l yX10_rewind (Cond.code yX10_rewind cX10_rewind 1 none :: TB) ({ frames := 0, cells := 0, slots := 0, locals := 0 }) E ro [.ref qt] [(qt, .inr (10, [.ref tb, .int (nI tl), .int ta, .int tk, .int ts]))] (Qv E (fun uz => (uz = [(qt, .inr (10, [.ref tb, .int (nI tl), .int 0, .int tk, .int ts]))]))) 0 0 := by
  refine ct_of rfl rfl ?_
  intro X C hT hin hro
  show WW X 1 E 0 [(0, .ref qt)] [] [(qt, .inr (10, [.ref tb, .int (nI tl), .int ta, .int tk, .int ts]))] 0 0
  refine ww_aload_n C dX10_rewind_0 0 rfl rfl ?_
  refine ww_iconst (v := 0) C dX10_rewind_1 rfl ?_
  refine ww_put (ws' := [(qt, .inr (10, [.ref tb, .int (nI tl), .int 0, .int tk, .int ts]))]) C fp_X10_19 0 rfl rfl rfl rfl rfl dX10_rewind_2 ?_
  exact ww_vret (u := [(qt, .inr (10, [.ref tb, .int (nI tl), .int 0, .int tk, .int ts]))]) C hT [0] rfl rfl rfl rfl dX10_rewind_5 (rfl)
theorem dX10_isLetter_0 : decode cX10_isLetter 0 = .ok (.iload_n 0, 1) := by decide +kernel
theorem dX10_isLetter_1 : decode cX10_isLetter 1 = .ok (.bipush 97, 2) := by decide +kernel
theorem dX10_isLetter_3 : decode cX10_isLetter 3 = .ok (.if_icmp .lt 13, 3) := by decide +kernel
theorem dX10_isLetter_16 : decode cX10_isLetter 16 = .ok (.iconst 0, 1) := by decide +kernel
theorem dX10_isLetter_17 : decode cX10_isLetter 17 = .ok (.ireturn, 1) := by decide +kernel
theorem dX10_isLetter_6 : decode cX10_isLetter 6 = .ok (.iload_n 0, 1) := by decide +kernel
theorem dX10_isLetter_7 : decode cX10_isLetter 7 = .ok (.bipush 122, 2) := by decide +kernel
theorem dX10_isLetter_9 : decode cX10_isLetter 9 = .ok (.if_icmp .gt 7, 3) := by decide +kernel
theorem dX10_isLetter_12 : decode cX10_isLetter 12 = .ok (.iconst 1, 1) := by decide +kernel
theorem dX10_isLetter_13 : decode cX10_isLetter 13 = .ok (.goto 4, 3) := by decide +kernel
set_option maxRecDepth 100000 in
set_option maxHeartbeats 4000000 in
theorem t_isLetter (l : Launch) (E : EV) (ro : va_W) (bb : Int32)  : CT l yX10_isLetter (Cond.code yX10_isLetter cX10_isLetter 1 (some .boolean) :: TB) ({ frames := 0, cells := 0, slots := 0, locals := 0 }) E ro [.int bb] [] (Qi E (fun (rz : Int32) uz => (rz = 1 ∧ uz = [] ∧ (97 ≤ bb.toInt ∧ bb.toInt ≤ 122)) ∨ (rz = 0 ∧ uz = [] ∧ (bb.toInt < 97 ∨ 122 < bb.toInt)))) 0 0 := by
  refine ct_of rfl rfl ?_
  intro X C hT hin hro
  show WW X 1 E 0 [(0, .int bb)] [] [] 0 0
  refine ww_iload_n C dX10_isLetter_0 0 rfl rfl ?_
  refine ww_bipush (v := 97) C dX10_isLetter_1 rfl ?_
  refine ww_icmp_lt (tgt := 16) C dX10_isLetter_3 (by decide) (fun c_1 => ?_) (fun c_1 => ?_)
  · have zc_1 : bb.toInt < 97 := i_lt rfl rfl c_1
    refine ww_iconst (v := 0) C dX10_isLetter_16 rfl ?_
    exact ww_zret (u := []) C hT [] rfl rfl rfl rfl rfl dX10_isLetter_17 (Or.inr ⟨rfl, rfl, (by omega)⟩)
  · have zc_1 : bb.toInt ≥ 97 := i_nlt rfl rfl c_1
    refine ww_iload_n C dX10_isLetter_6 0 rfl rfl ?_
    refine ww_bipush (v := 122) C dX10_isLetter_7 rfl ?_
    refine ww_icmp_gt (tgt := 16) C dX10_isLetter_9 (by decide) (fun c_2 => ?_) (fun c_2 => ?_)
    · have zc_2 : bb.toInt > 122 := i_lt rfl rfl c_2
      refine ww_iconst (v := 0) C dX10_isLetter_16 rfl ?_
      exact ww_zret (u := []) C hT [] rfl rfl rfl rfl rfl dX10_isLetter_17 (Or.inr ⟨rfl, rfl, (by omega)⟩)
    · have zc_2 : bb.toInt ≤ 122 := i_nlt rfl rfl c_2
      refine ww_iconst (v := 1) C dX10_isLetter_12 rfl ?_
      refine ww_goto (tgt := 17) C dX10_isLetter_13 (by decide) ?_
      exact ww_zret (u := []) C hT [] rfl rfl rfl rfl rfl dX10_isLetter_17 (Or.inl ⟨rfl, rfl, (by omega)⟩)
theorem dX10_behind_0 : decode cX10_behind 0 = .ok (.iload_n 1, 1) := by decide +kernel
theorem dX10_behind_1 : decode cX10_behind 1 = .ok (.istore 4, 2) := by decide +kernel
theorem dX10_behind_3 : decode cX10_behind 3 = .ok (.iload 4, 2) := by decide +kernel
theorem dX10_behind_5 : decode cX10_behind 5 = .ok (.aload_n 0, 1) := by decide +kernel
theorem dX10_behind_6 : decode cX10_behind 6 = .ok (.getfield 15, 3) := by decide +kernel
theorem dX10_behind_9 : decode cX10_behind 9 = .ok (.if_icmp .ge 31, 3) := by decide +kernel
theorem dX10_behind_40 : decode cX10_behind 40 = .ok (.iload 4, 2) := by decide +kernel
theorem dX10_behind_42 : decode cX10_behind 42 = .ok (.ireturn, 1) := by decide +kernel
theorem dX10_behind_12 : decode cX10_behind 12 = .ok (.aload_n 0, 1) := by decide +kernel
theorem dX10_behind_13 : decode cX10_behind 13 = .ok (.getfield 9, 3) := by decide +kernel
theorem dX10_behind_16 : decode cX10_behind 16 = .ok (.iload 4, 2) := by decide +kernel
theorem dX10_behind_18 : decode cX10_behind 18 = .ok (.baload, 1) := by decide +kernel
theorem dX10_behind_19 : decode cX10_behind 19 = .ok (.iload_n 2, 1) := by decide +kernel
theorem dX10_behind_20 : decode cX10_behind 20 = .ok (.if_icmp .lt 20, 3) := by decide +kernel
theorem dX10_behind_23 : decode cX10_behind 23 = .ok (.aload_n 0, 1) := by decide +kernel
theorem dX10_behind_24 : decode cX10_behind 24 = .ok (.getfield 9, 3) := by decide +kernel
theorem dX10_behind_27 : decode cX10_behind 27 = .ok (.iload 4, 2) := by decide +kernel
theorem dX10_behind_29 : decode cX10_behind 29 = .ok (.baload, 1) := by decide +kernel
theorem dX10_behind_30 : decode cX10_behind 30 = .ok (.iload_n 3, 1) := by decide +kernel
theorem dX10_behind_31 : decode cX10_behind 31 = .ok (.if_icmp .gt 9, 3) := by decide +kernel
theorem dX10_behind_34 : decode cX10_behind 34 = .ok (.iinc 4 1, 3) := by decide +kernel
theorem dX10_behind_37 : decode cX10_behind 37 = .ok (.goto (-34), 3) := by decide +kernel
set_option maxRecDepth 100000 in
set_option maxHeartbeats 4000000 in
theorem t_behind (l : Launch) (E : EV) (ro : va_W) (qt : Nat) (fr : Nat) (lo : Int32) (hi : Int32) (tb : Nat) (tl : Nat) (ta : Int32) (tk : Int32) (ts : Int32) (fb : Nat → Int32) (zl : Int) (zh : Int) (hz_zl : lo.toInt = zl) (hz_zh : hi.toInt = zh) (htl : tl ≤ 160) (hfr : fr ≤ tl) (hzl : 0 ≤ zl) (hzh : zh ≤ 127) : CT l yX10_behind (Cond.code yX10_behind cX10_behind 5 (some .int) :: TB) ({ frames := 0, cells := 0, slots := 0, locals := 0 }) E ro [.ref qt, .int (nI fr), .int lo, .int hi] [(qt, .inr (10, [.ref tb, .int (nI tl), .int ta, .int tk, .int ts])), (tb, .inl (E.2.1 0, 160, .inl fb))] (Qi E (fun (rz : Int32) uz => (∃ (j : Nat), rz = (nI j) ∧ uz = [(qt, .inr (10, [.ref tb, .int (nI tl), .int ta, .int tk, .int ts])), (tb, .inl (E.2.1 0, 160, .inl fb))] ∧ (fr ≤ j) ∧ (j ≤ tl) ∧ (RGX fb fr j zl zh) ∧ (bh (cz fb tl) zl zh fr = j)))) 0 0 := by
  refine ct_of rfl rfl ?_
  intro X C hT hin hro
  show WW X 5 E 0 [(0, .ref qt), (1, .int (nI fr)), (2, .int lo), (3, .int hi)] [] [(qt, .inr (10, [.ref tb, .int (nI tl), .int ta, .int tk, .int ts])), (tb, .inl (E.2.1 0, 160, .inl fb))] 0 0
  refine ww_iload_n C dX10_behind_0 1 rfl rfl ?_
  refine ww_istore (lv' := [(4, .int (nI fr)), (0, .ref qt), (1, .int (nI fr)), (2, .int lo), (3, .int hi)]) C dX10_behind_1 rfl rfl ?_
  have loop_3 : ∀ (fu : Nat) (i1 : Nat), (fr ≤ i1) → (i1 ≤ tl) → (RGX fb fr i1 zl zh) → tl - i1 < fu → WW X 5 E 3 [(4, .int (nI i1)), (0, .ref qt), (1, .int (nI fr)), (2, .int lo), (3, .int hi)] [] [(qt, .inr (10, [.ref tb, .int (nI tl), .int ta, .int tk, .int ts])), (tb, .inl (E.2.1 0, 160, .inl fb))] 0 0 := by
    intro fu
    induction fu with
    | zero => intro i1 hi0 hi1 hr hmeas; exact absurd hmeas (Nat.not_lt_zero _)
    | succ fu ih_3 =>
      intro i1 hi0 hi1 hr hmeas
      refine ww_iload C dX10_behind_3 0 rfl ?_
      refine ww_aload_n C dX10_behind_5 1 rfl rfl ?_
      refine ww_get C fg_X10_15 0 rfl rfl dX10_behind_6 ?_
      refine ww_icmp_ge (tgt := 40) C dX10_behind_9 (by decide) (fun c_1 => ?_) (fun c_1 => ?_)
      · have zc_1 : ((i1 : Nat) : Int) ≥ ((tl : Nat) : Int) := i_le (nI_toInt (n := tl) (by omega)) (nI_toInt (n := i1) (by omega)) c_1
        refine ww_iload C dX10_behind_40 0 rfl ?_
        exact ww_iret (u := [(qt, .inr (10, [.ref tb, .int (nI tl), .int ta, .int tk, .int ts])), (tb, .inl (E.2.1 0, 160, .inl fb))]) C hT [0, 1] rfl rfl rfl rfl dX10_behind_42 (⟨_, rfl, rfl, (by first | assumption | omega | decide), (by first | assumption | omega | decide), hr, (bh_c hr (by omega) (by omega) htl hzl hzh (fun _ => by omega))⟩)
      · have zc_1 : ((i1 : Nat) : Int) < ((tl : Nat) : Int) := i_nle (nI_toInt (n := tl) (by omega)) (nI_toInt (n := i1) (by omega)) c_1
        refine ww_aload_n C dX10_behind_12 1 rfl rfl ?_
        refine ww_get C fg_X10_9 0 rfl rfl dX10_behind_13 ?_
        refine ww_iload C dX10_behind_16 0 rfl ?_
        obtain ⟨x_2, ex_2⟩ : ∃ z : Int32, fb i1 = z := ⟨_, rfl⟩
        refine ww_bald (v := x_2) C 1 rfl (vp_in_nI (by omega) (by omega)) (ldn (by omega) ex_2) dX10_behind_18 ?_
        refine ww_iload_n C dX10_behind_19 3 rfl rfl ?_
        refine ww_icmp_lt (tgt := 40) C dX10_behind_20 (by decide) (fun c_3 => ?_) (fun c_3 => ?_)
        · have zc_3 : x_2.toInt < lo.toInt := i_lt rfl rfl c_3
          refine ww_iload C dX10_behind_40 0 rfl ?_
          exact ww_iret (u := [(qt, .inr (10, [.ref tb, .int (nI tl), .int ta, .int tk, .int ts])), (tb, .inl (E.2.1 0, 160, .inl fb))]) C hT [0, 1] rfl rfl rfl rfl dX10_behind_42 (⟨_, rfl, rfl, (by first | assumption | omega | decide), (by first | assumption | omega | decide), hr, (bh_c hr (by omega) (by omega) htl hzl hzh (fun _ => by rw [ex_2]; omega))⟩)
        · have zc_3 : x_2.toInt ≥ lo.toInt := i_nlt rfl rfl c_3
          refine ww_aload_n C dX10_behind_23 1 rfl rfl ?_
          refine ww_get C fg_X10_9 0 rfl rfl dX10_behind_24 ?_
          refine ww_iload C dX10_behind_27 0 rfl ?_
          refine ww_bald (v := x_2) C 1 rfl (vp_in_nI (by omega) (by omega)) (ldn (by omega) ex_2) dX10_behind_29 ?_
          refine ww_iload_n C dX10_behind_30 4 rfl rfl ?_
          refine ww_icmp_gt (tgt := 40) C dX10_behind_31 (by decide) (fun c_4 => ?_) (fun c_4 => ?_)
          · have zc_4 : x_2.toInt > hi.toInt := i_lt rfl rfl c_4
            refine ww_iload C dX10_behind_40 0 rfl ?_
            exact ww_iret (u := [(qt, .inr (10, [.ref tb, .int (nI tl), .int ta, .int tk, .int ts])), (tb, .inl (E.2.1 0, 160, .inl fb))]) C hT [0, 1] rfl rfl rfl rfl dX10_behind_42 (⟨_, rfl, rfl, (by first | assumption | omega | decide), (by first | assumption | omega | decide), hr, (bh_c hr (by omega) (by omega) htl hzl hzh (fun _ => by rw [ex_2]; omega))⟩)
          · have zc_4 : x_2.toInt ≤ hi.toInt := i_nlt rfl rfl c_4
            refine ww_iinc (j := 0) (v := (nI (i1 + 1))) (lv' := [(4, .int (nI (i1 + 1))), (0, .ref qt), (1, .int (nI fr)), (2, .int lo), (3, .int hi)]) C dX10_behind_34 rfl (nI_add i1 1) rfl rfl ?_
            refine ww_goto (tgt := 3) C dX10_behind_37 (by decide) ?_
            exact ww_lv [0, 1, 2, 3, 4] rfl (ww_sub [0, 1] rfl rfl (ih_3 (i1 + 1) (by omega) (by omega) (RGX.ext hr (by assumption) (by omega) (by omega)) (by omega)))
  exact ww_lv [0, 1, 2, 3, 4] rfl (ww_sub [0, 1] rfl rfl (loop_3 _ fr (by omega) (by omega) RGX.nil (Nat.lt_succ_self _)))
theorem dX10_readToken_0 : decode cX10_readToken 0 = .ok (.aload_n 0, 1) := by decide +kernel
theorem dX10_readToken_1 : decode cX10_readToken 1 = .ok (.aload_n 0, 1) := by decide +kernel
theorem dX10_readToken_2 : decode cX10_readToken 2 = .ok (.aload_n 0, 1) := by decide +kernel
theorem dX10_readToken_3 : decode cX10_readToken 3 = .ok (.getfield 19, 3) := by decide +kernel
theorem fg_X10_19 : FG RX10 19 10 2 := ⟨RX10, TX10, 5, uw_X10, wf_X10_19, rfl, by decide, rfl⟩
theorem dX10_readToken_6 : decode cX10_readToken 6 = .ok (.bipush 32, 2) := by decide +kernel
theorem dX10_readToken_8 : decode cX10_readToken 8 = .ok (.bipush 32, 2) := by decide +kernel
theorem dX10_readToken_10 : decode cX10_readToken 10 = .ok (.invokevirtual 22, 3) := by decide +kernel
theorem wl_X10_22 : Cond.methodLink RX10 22 yX10_behind ∈ TB := tbm (tq3 (List.mem_of_getElem? (i := 22) (by decide +kernel))) (by decide +kernel)
theorem wc_X10_behind : Cond.code yX10_behind cX10_behind 5 (some .int) ∈ TB := tbm (tq3 (List.mem_of_getElem? (i := 25) (rfl))) (by decide +kernel)
theorem wn_X10 : Cond.initialized RX10 ∈ TB := tbm (tq1 (List.mem_of_getElem? (i := 4) (by decide +kernel))) (by decide +kernel)
theorem wi_X10_behind : Cond.instanceMethod yX10_behind ∈ TB := tbm (tq3 (List.mem_of_getElem? (i := 24) (by decide +kernel))) (by decide +kernel)
theorem ws_X10_behind : Cond.selects RX10 yX10_behind yX10_behind ∈ TB := tbm (tq0 (List.mem_of_getElem? (i := 4) (by decide +kernel))) (by decide +kernel)
theorem mi_X10_behind : MI yX10_behind cX10_behind 5 (some .int) 3 := ⟨wc_X10_behind, wn_X10, ⟨by decide +kernel, by decide +kernel, by decide +kernel⟩, wi_X10_behind, ws_X10_behind⟩
theorem dX10_readToken_13 : decode cX10_readToken 13 = .ok (.putfield 26, 3) := by decide +kernel
theorem wf_X10_26 : Cond.fieldLink RX10 26 RX10 "start" "I" ∈ TB := tbm (tq1 (List.mem_of_getElem? (i := 85) (by decide +kernel))) (by decide +kernel)
theorem fp_X10_26 : FP RX10 26 10 4 .int false := ⟨RX10, TX10, 5, tyX10, uw_X10, wf_X10_26, rfl, by decide, rfl, tyX10_ok, nmX10, rfl, by decide +kernel⟩
theorem dX10_readToken_16 : decode cX10_readToken 16 = .ok (.aload_n 0, 1) := by decide +kernel
theorem dX10_readToken_17 : decode cX10_readToken 17 = .ok (.aload_n 0, 1) := by decide +kernel
theorem dX10_readToken_18 : decode cX10_readToken 18 = .ok (.getfield 26, 3) := by decide +kernel
theorem fg_X10_26 : FG RX10 26 10 4 := ⟨RX10, TX10, 5, uw_X10, wf_X10_26, rfl, by decide, rfl⟩
theorem dX10_readToken_21 : decode cX10_readToken 21 = .ok (.putfield 19, 3) := by decide +kernel
theorem dX10_readToken_24 : decode cX10_readToken 24 = .ok (.aload_n 0, 1) := by decide +kernel
theorem dX10_readToken_25 : decode cX10_readToken 25 = .ok (.getfield 26, 3) := by decide +kernel
theorem dX10_readToken_28 : decode cX10_readToken 28 = .ok (.aload_n 0, 1) := by decide +kernel
theorem dX10_readToken_29 : decode cX10_readToken 29 = .ok (.getfield 15, 3) := by decide +kernel
theorem dX10_readToken_32 : decode cX10_readToken 32 = .ok (.if_icmp .lt 11, 3) := by decide +kernel
theorem dX10_readToken_43 : decode cX10_readToken 43 = .ok (.aload_n 0, 1) := by decide +kernel
theorem dX10_readToken_44 : decode cX10_readToken 44 = .ok (.getfield 9, 3) := by decide +kernel
theorem dX10_readToken_47 : decode cX10_readToken 47 = .ok (.aload_n 0, 1) := by decide +kernel
theorem dX10_readToken_48 : decode cX10_readToken 48 = .ok (.getfield 26, 3) := by decide +kernel
theorem dX10_readToken_51 : decode cX10_readToken 51 = .ok (.baload, 1) := by decide +kernel
theorem dX10_readToken_52 : decode cX10_readToken 52 = .ok (.invokestatic 32, 3) := by decide +kernel
theorem wl_X10_32 : Cond.methodLink RX10 32 yX10_isLetter ∈ TB := tbm (tq3 (List.mem_of_getElem? (i := 26) (by decide +kernel))) (by decide +kernel)
theorem wc_X10_isLetter : Cond.code yX10_isLetter cX10_isLetter 1 (some .boolean) ∈ TB := tbm (tq3 (List.mem_of_getElem? (i := 28) (rfl))) (by decide +kernel)
theorem wt_X10_isLetter : Cond.static yX10_isLetter ∈ TB := tbm (tq3 (List.mem_of_getElem? (i := 27) (by decide +kernel))) (by decide +kernel)
theorem ms_X10_isLetter : MS yX10_isLetter cX10_isLetter 1 (some .boolean) 1 := ⟨wc_X10_isLetter, wn_X10, ⟨by decide +kernel, by decide +kernel, by decide +kernel⟩, wt_X10_isLetter⟩
theorem dX10_readToken_55 : decode cX10_readToken 55 = .ok (.ifCond .eq 27, 3) := by decide +kernel
theorem dX10_readToken_58 : decode cX10_readToken 58 = .ok (.aload_n 0, 1) := by decide +kernel
theorem dX10_readToken_59 : decode cX10_readToken 59 = .ok (.aload_n 0, 1) := by decide +kernel
theorem dX10_readToken_60 : decode cX10_readToken 60 = .ok (.aload_n 0, 1) := by decide +kernel
theorem dX10_readToken_61 : decode cX10_readToken 61 = .ok (.getfield 26, 3) := by decide +kernel
theorem dX10_readToken_64 : decode cX10_readToken 64 = .ok (.bipush 97, 2) := by decide +kernel
theorem dX10_readToken_66 : decode cX10_readToken 66 = .ok (.bipush 122, 2) := by decide +kernel
theorem dX10_readToken_68 : decode cX10_readToken 68 = .ok (.invokevirtual 22, 3) := by decide +kernel
theorem dX10_readToken_71 : decode cX10_readToken 71 = .ok (.putfield 19, 3) := by decide +kernel
theorem dX10_readToken_74 : decode cX10_readToken 74 = .ok (.aload_n 0, 1) := by decide +kernel
theorem dX10_readToken_75 : decode cX10_readToken 75 = .ok (.iconst 1, 1) := by decide +kernel
theorem dX10_readToken_76 : decode cX10_readToken 76 = .ok (.putfield 29, 3) := by decide +kernel
theorem wf_X10_29 : Cond.fieldLink RX10 29 RX10 "kind" "I" ∈ TB := tbm (tq1 (List.mem_of_getElem? (i := 83) (by decide +kernel))) (by decide +kernel)
theorem fp_X10_29 : FP RX10 29 10 3 .int false := ⟨RX10, TX10, 5, tyX10, uw_X10, wf_X10_29, rfl, by decide, rfl, tyX10_ok, nmX10, rfl, by decide +kernel⟩
theorem dX10_readToken_79 : decode cX10_readToken 79 = .ok (.goto 41, 3) := by decide +kernel
theorem dX10_readToken_120 : decode cX10_readToken 120 = .ok (.return_, 1) := by decide +kernel
theorem dX10_readToken_82 : decode cX10_readToken 82 = .ok (.aload_n 0, 1) := by decide +kernel
theorem dX10_readToken_83 : decode cX10_readToken 83 = .ok (.aload_n 0, 1) := by decide +kernel
theorem dX10_readToken_84 : decode cX10_readToken 84 = .ok (.aload_n 0, 1) := by decide +kernel
theorem dX10_readToken_85 : decode cX10_readToken 85 = .ok (.getfield 26, 3) := by decide +kernel
theorem dX10_readToken_88 : decode cX10_readToken 88 = .ok (.bipush 48, 2) := by decide +kernel
theorem dX10_readToken_90 : decode cX10_readToken 90 = .ok (.bipush 57, 2) := by decide +kernel
theorem dX10_readToken_92 : decode cX10_readToken 92 = .ok (.invokevirtual 22, 3) := by decide +kernel
theorem dX10_readToken_95 : decode cX10_readToken 95 = .ok (.putfield 19, 3) := by decide +kernel
theorem dX10_readToken_98 : decode cX10_readToken 98 = .ok (.aload_n 0, 1) := by decide +kernel
theorem dX10_readToken_99 : decode cX10_readToken 99 = .ok (.aload_n 0, 1) := by decide +kernel
theorem dX10_readToken_100 : decode cX10_readToken 100 = .ok (.getfield 19, 3) := by decide +kernel
theorem dX10_readToken_103 : decode cX10_readToken 103 = .ok (.aload_n 0, 1) := by decide +kernel
theorem dX10_readToken_104 : decode cX10_readToken 104 = .ok (.getfield 26, 3) := by decide +kernel
theorem dX10_readToken_107 : decode cX10_readToken 107 = .ok (.isub, 1) := by decide +kernel
theorem dX10_readToken_108 : decode cX10_readToken 108 = .ok (.iconst 1, 1) := by decide +kernel
theorem dX10_readToken_109 : decode cX10_readToken 109 = .ok (.if_icmp .ne 7, 3) := by decide +kernel
theorem dX10_readToken_116 : decode cX10_readToken 116 = .ok (.iconst 3, 1) := by decide +kernel
theorem dX10_readToken_117 : decode cX10_readToken 117 = .ok (.putfield 29, 3) := by decide +kernel
theorem dX10_readToken_112 : decode cX10_readToken 112 = .ok (.iconst 2, 1) := by decide +kernel
theorem dX10_readToken_113 : decode cX10_readToken 113 = .ok (.goto 4, 3) := by decide +kernel
theorem dX10_readToken_35 : decode cX10_readToken 35 = .ok (.aload_n 0, 1) := by decide +kernel
theorem dX10_readToken_36 : decode cX10_readToken 36 = .ok (.iconst 0, 1) := by decide +kernel
theorem dX10_readToken_37 : decode cX10_readToken 37 = .ok (.putfield 29, 3) := by decide +kernel
theorem dX10_readToken_40 : decode cX10_readToken 40 = .ok (.goto 80, 3) := by decide +kernel
set_option maxRecDepth 100000 in
set_option maxHeartbeats 4000000 in
theorem t_readToken (l : Launch) (E : EV) (ro : va_W) (qt : Nat) (tb : Nat) (tl : Nat) (ta : Nat) (tk : Int32) (ts : Int32) (fb : Nat → Int32) (htl : tl ≤ 160) (hta : ta ≤ tl) : CT l yX10_readToken (Cond.code yX10_readToken cX10_readToken 1 none :: TB) ({ frames := 1, cells := 0, slots := 0, locals := 24 }) E ro [.ref qt] [(qt, .inr (10, [.ref tb, .int (nI tl), .int (nI ta), .int tk, .int ts])), (tb, .inl (E.2.1 0, 160, .inl fb))] (Qv E (fun uz => (∃ (ta2 : Nat) (tk2 : Nat) (ts2 : Nat), uz = [(qt, .inr (10, [.ref tb, .int (nI tl), .int (nI ta2), .int (nI tk2), .int (nI ts2)])), (tb, .inl (E.2.1 0, 160, .inl fb))] ∧ (ts2 ≤ ta2) ∧ (ta2 ≤ tl) ∧ (tk2 ≤ 3) ∧ (tk2 = 2 → ts2 < ta2) ∧ (TK (cz fb tl) ta ts2 tk2 ta2) ∧ (TX (cz fb tl) ts2 tk2 ta2)))) 0 0 := by
  refine ct_of rfl rfl ?_
  intro X C hT hin hro
  show WW X 1 E 0 [(0, .ref qt)] [] [(qt, .inr (10, [.ref tb, .int (nI tl), .int (nI ta), .int tk, .int ts])), (tb, .inl (E.2.1 0, 160, .inl fb))] 0 0
  refine ww_aload_n C dX10_readToken_0 0 rfl rfl ?_
  refine ww_aload_n C dX10_readToken_1 0 rfl rfl ?_
  refine ww_aload_n C dX10_readToken_2 0 rfl rfl ?_
  refine ww_get C fg_X10_19 0 rfl rfl dX10_readToken_3 ?_
  refine ww_bipush (v := 32) C dX10_readToken_6 rfl ?_
  refine ww_bipush (v := 32) C dX10_readToken_8 rfl ?_
  refine ww_ci (wr := []) (k' := 0) (n' := 0) C (run_V (As := [.int (nI ta), .int 32, .int 32]) (rest := [.ref qt]) C (t_behind X.2.1 E ro qt ta 32 32 tb tl (nI ta) tk ts fb 32 32 rfl rfl (by omega) (by omega) (by decide) (by decide)) mi_X10_behind wl_X10_22 rfl 0 10 rfl rfl rfl rfl rfl dX10_readToken_10) (roK hro) [0, 1] [] rfl rfl rfl rfl (fun r_1 uz hw => ?_)
  refine ex1 hw ?_
  clear hw
  intro j_2 hw
  refine an5 hw ?_
  clear hw
  intro he_7 he_8 h_3 h_4 h_5 hw
  have h_6 := hw
  clear hw
  have he_7 := he_7.symm
  subst he_7
  subst he_8
  refine ww_eq (ws' := [(qt, .inr (10, [.ref tb, .int (nI tl), .int (nI ta), .int tk, .int ts])), (tb, .inl (E.2.1 0, 160, .inl fb))]) ?_ rfl rfl rfl
  refine ww_put (ws' := [(qt, .inr (10, [.ref tb, .int (nI tl), .int (nI ta), .int tk, .int (nI j_2)])), (tb, .inl (E.2.1 0, 160, .inl fb))]) C fp_X10_26 0 rfl rfl rfl rfl rfl dX10_readToken_13 ?_
  refine ww_aload_n C dX10_readToken_16 0 rfl rfl ?_
  refine ww_aload_n C dX10_readToken_17 0 rfl rfl ?_
  refine ww_get C fg_X10_26 0 rfl rfl dX10_readToken_18 ?_
  refine ww_put (ws' := [(qt, .inr (10, [.ref tb, .int (nI tl), .int (nI j_2), .int tk, .int (nI j_2)])), (tb, .inl (E.2.1 0, 160, .inl fb))]) C fp_X10_19 0 rfl rfl rfl rfl rfl dX10_readToken_21 ?_
  refine ww_aload_n C dX10_readToken_24 0 rfl rfl ?_
  refine ww_get C fg_X10_26 0 rfl rfl dX10_readToken_25 ?_
  refine ww_aload_n C dX10_readToken_28 0 rfl rfl ?_
  refine ww_get C fg_X10_15 0 rfl rfl dX10_readToken_29 ?_
  refine ww_icmp_lt (tgt := 43) C dX10_readToken_32 (by decide) (fun c_9 => ?_) (fun c_9 => ?_)
  · have zc_9 : ((j_2 : Nat) : Int) < ((tl : Nat) : Int) := i_lt (nI_toInt (n := j_2) (by omega)) (nI_toInt (n := tl) (by omega)) c_9
    refine ww_aload_n C dX10_readToken_43 0 rfl rfl ?_
    refine ww_get C fg_X10_9 0 rfl rfl dX10_readToken_44 ?_
    refine ww_aload_n C dX10_readToken_47 0 rfl rfl ?_
    refine ww_get C fg_X10_26 0 rfl rfl dX10_readToken_48 ?_
    obtain ⟨x_10, ex_10⟩ : ∃ z : Int32, fb j_2 = z := ⟨_, rfl⟩
    refine ww_bald (v := x_10) C 1 rfl (vp_in_nI (by omega) (by omega)) (ldn (by omega) ex_10) dX10_readToken_51 ?_
    refine ww_ci (wr := [(qt, .inr (10, [.ref tb, .int (nI tl), .int (nI j_2), .int tk, .int (nI j_2)])), (tb, .inl (E.2.1 0, 160, .inl fb))]) (k' := 0) (n' := 0) C (run_S (As := [.int x_10]) (rest := []) C (t_isLetter X.2.1 E ro x_10) ms_X10_isLetter wl_X10_32 rfl rfl rfl rfl dX10_readToken_52) (roK hro) [] [0, 1] rfl rfl rfl rfl (fun r_11 uz hw => ?_)
    rcases hw with hw | hw
    · refine an2 hw ?_
      clear hw
      intro he_13 he_14 hw
      have h_12 := hw
      clear hw
      have he_13 := he_13.symm
      subst he_13
      subst he_14
      refine ww_eq (ws' := [(qt, .inr (10, [.ref tb, .int (nI tl), .int (nI j_2), .int tk, .int (nI j_2)])), (tb, .inl (E.2.1 0, 160, .inl fb))]) ?_ rfl rfl rfl
      refine ww_if_eq_f (tgt := 82) C dX10_readToken_55 (by decide) (by decide) ?_
      refine ww_aload_n C dX10_readToken_58 0 rfl rfl ?_
      refine ww_aload_n C dX10_readToken_59 0 rfl rfl ?_
      refine ww_aload_n C dX10_readToken_60 0 rfl rfl ?_
      refine ww_get C fg_X10_26 0 rfl rfl dX10_readToken_61 ?_
      refine ww_bipush (v := 97) C dX10_readToken_64 rfl ?_
      refine ww_bipush (v := 122) C dX10_readToken_66 rfl ?_
      refine ww_ci (wr := []) (k' := 0) (n' := 0) C (run_V (As := [.int (nI j_2), .int 97, .int 122]) (rest := [.ref qt]) C (t_behind X.2.1 E ro qt j_2 97 122 tb tl (nI j_2) tk (nI j_2) fb 97 122 rfl rfl (by omega) (by omega) (by decide) (by decide)) mi_X10_behind wl_X10_22 rfl 0 10 rfl rfl rfl rfl rfl dX10_readToken_68) (roK hro) [0, 1] [] rfl rfl rfl rfl (fun r_18 uz hw => ?_)
      refine ex1 hw ?_
      clear hw
      intro j_19 hw
      refine an5 hw ?_
      clear hw
      intro he_24 he_25 h_20 h_21 h_22 hw
      have h_23 := hw
      clear hw
      have he_24 := he_24.symm
      subst he_24
      subst he_25
      refine ww_eq (ws' := [(qt, .inr (10, [.ref tb, .int (nI tl), .int (nI j_2), .int tk, .int (nI j_2)])), (tb, .inl (E.2.1 0, 160, .inl fb))]) ?_ rfl rfl rfl
      refine ww_put (ws' := [(qt, .inr (10, [.ref tb, .int (nI tl), .int (nI j_19), .int tk, .int (nI j_2)])), (tb, .inl (E.2.1 0, 160, .inl fb))]) C fp_X10_19 0 rfl rfl rfl rfl rfl dX10_readToken_71 ?_
      refine ww_aload_n C dX10_readToken_74 0 rfl rfl ?_
      refine ww_iconst (v := 1) C dX10_readToken_75 rfl ?_
      refine ww_put (ws' := [(qt, .inr (10, [.ref tb, .int (nI tl), .int (nI j_19), .int 1, .int (nI j_2)])), (tb, .inl (E.2.1 0, 160, .inl fb))]) C fp_X10_29 0 rfl rfl rfl rfl rfl dX10_readToken_76 ?_
      refine ww_goto (tgt := 120) C dX10_readToken_79 (by decide) ?_
      exact ww_vret (u := [(qt, .inr (10, [.ref tb, .int (nI tl), .int (nI j_19), .int 1, .int (nI j_2)])), (tb, .inl (E.2.1 0, 160, .inl fb))]) C hT [0, 1] rfl rfl rfl rfl dX10_readToken_120 (⟨j_19, 1, j_2, rfl, (by first | assumption | omega | decide), (by first | assumption | omega | decide), (by first | assumption | omega | decide), (by omega), (tk_name h_6 ((cz_in (by omega) (by decide) (by decide)).mpr (by rw [ex_10]; exact h_12)) h_23), ⟨_, (tk_name h_6 ((cz_in (by omega) (by decide) (by decide)).mpr (by rw [ex_10]; exact h_12)) h_23)⟩⟩)
    · refine an2 hw ?_
      clear hw
      intro he_16 he_17 hw
      have h_15 := hw
      clear hw
      have he_16 := he_16.symm
      subst he_16
      subst he_17
      refine ww_eq (ws' := [(qt, .inr (10, [.ref tb, .int (nI tl), .int (nI j_2), .int tk, .int (nI j_2)])), (tb, .inl (E.2.1 0, 160, .inl fb))]) ?_ rfl rfl rfl
      refine ww_if_eq_t (tgt := 82) C dX10_readToken_55 (by decide) (rfl) ?_
      refine ww_aload_n C dX10_readToken_82 0 rfl rfl ?_
      refine ww_aload_n C dX10_readToken_83 0 rfl rfl ?_
      refine ww_aload_n C dX10_readToken_84 0 rfl rfl ?_
      refine ww_get C fg_X10_26 0 rfl rfl dX10_readToken_85 ?_
      refine ww_bipush (v := 48) C dX10_readToken_88 rfl ?_
      refine ww_bipush (v := 57) C dX10_readToken_90 rfl ?_
      refine ww_ci (wr := []) (k' := 0) (n' := 0) C (run_V (As := [.int (nI j_2), .int 48, .int 57]) (rest := [.ref qt]) C (t_behind X.2.1 E ro qt j_2 48 57 tb tl (nI j_2) tk (nI j_2) fb 48 57 rfl rfl (by omega) (by omega) (by decide) (by decide)) mi_X10_behind wl_X10_22 rfl 0 10 rfl rfl rfl rfl rfl dX10_readToken_92) (roK hro) [0, 1] [] rfl rfl rfl rfl (fun r_26 uz hw => ?_)
      refine ex1 hw ?_
      clear hw
      intro j_27 hw
      refine an5 hw ?_
      clear hw
      intro he_32 he_33 h_28 h_29 h_30 hw
      have h_31 := hw
      clear hw
      have he_32 := he_32.symm
      subst he_32
      subst he_33
      refine ww_eq (ws' := [(qt, .inr (10, [.ref tb, .int (nI tl), .int (nI j_2), .int tk, .int (nI j_2)])), (tb, .inl (E.2.1 0, 160, .inl fb))]) ?_ rfl rfl rfl
      refine ww_put (ws' := [(qt, .inr (10, [.ref tb, .int (nI tl), .int (nI j_27), .int tk, .int (nI j_2)])), (tb, .inl (E.2.1 0, 160, .inl fb))]) C fp_X10_19 0 rfl rfl rfl rfl rfl dX10_readToken_95 ?_
      refine ww_aload_n C dX10_readToken_98 0 rfl rfl ?_
      refine ww_aload_n C dX10_readToken_99 0 rfl rfl ?_
      refine ww_get C fg_X10_19 0 rfl rfl dX10_readToken_100 ?_
      refine ww_aload_n C dX10_readToken_103 0 rfl rfl ?_
      refine ww_get C fg_X10_26 0 rfl rfl dX10_readToken_104 ?_
      refine ww_isub (v := (nI (j_27 - j_2))) C dX10_readToken_107 (pk_sub (a := j_27) (b := j_2) (by omega)) ?_
      refine ww_iconst (v := 1) C dX10_readToken_108 rfl ?_
      refine ww_icmp_ne (tgt := 116) C dX10_readToken_109 (by decide) (fun c_34 => ?_) (fun c_34 => ?_)
      · have zc_34 : ((j_27 - j_2 : Nat) : Int) ≠ 1 := i_ne (nI_toInt (n := j_27 - j_2) (by omega)) rfl c_34
        refine ww_iconst (v := 3) C dX10_readToken_116 rfl ?_
        refine ww_put (ws' := [(qt, .inr (10, [.ref tb, .int (nI tl), .int (nI j_27), .int 3, .int (nI j_2)])), (tb, .inl (E.2.1 0, 160, .inl fb))]) C fp_X10_29 0 rfl rfl rfl rfl rfl dX10_readToken_117 ?_
        exact ww_vret (u := [(qt, .inr (10, [.ref tb, .int (nI tl), .int (nI j_27), .int 3, .int (nI j_2)])), (tb, .inl (E.2.1 0, 160, .inl fb))]) C hT [0, 1] rfl rfl rfl rfl dX10_readToken_120 (⟨j_27, 3, j_2, rfl, (by first | assumption | omega | decide), (by first | assumption | omega | decide), (by first | assumption | omega | decide), (by omega), (tk_no h_6 (cz_nn (by omega)) (fun h9 => by have h8 := (cz_in (by omega) (by decide) (by decide)).mp h9; rw [ex_10] at h8; omega) h_31 (by omega)), ⟨_, (tk_no h_6 (cz_nn (by omega)) (fun h9 => by have h8 := (cz_in (by omega) (by decide) (by decide)).mp h9; rw [ex_10] at h8; omega) h_31 (by omega))⟩⟩)
      · have zc_34 : ((j_27 - j_2 : Nat) : Int) = 1 := i_eq (nI_toInt (n := j_27 - j_2) (by omega)) rfl c_34
        refine ww_iconst (v := 2) C dX10_readToken_112 rfl ?_
        refine ww_goto (tgt := 117) C dX10_readToken_113 (by decide) ?_
        refine ww_put (ws' := [(qt, .inr (10, [.ref tb, .int (nI tl), .int (nI j_27), .int 2, .int (nI j_2)])), (tb, .inl (E.2.1 0, 160, .inl fb))]) C fp_X10_29 0 rfl rfl rfl rfl rfl dX10_readToken_117 ?_
        exact ww_vret (u := [(qt, .inr (10, [.ref tb, .int (nI tl), .int (nI j_27), .int 2, .int (nI j_2)])), (tb, .inl (E.2.1 0, 160, .inl fb))]) C hT [0, 1] rfl rfl rfl rfl dX10_readToken_120 (⟨j_27, 2, j_2, rfl, (by first | assumption | omega | decide), (by first | assumption | omega | decide), (by first | assumption | omega | decide), (by omega), (tk_num h_6 (cz_nn (by omega)) (fun h9 => by have h8 := (cz_in (by omega) (by decide) (by decide)).mp h9; rw [ex_10] at h8; omega) h_31 (by omega)), ⟨_, (tk_num h_6 (cz_nn (by omega)) (fun h9 => by have h8 := (cz_in (by omega) (by decide) (by decide)).mp h9; rw [ex_10] at h8; omega) h_31 (by omega))⟩⟩)
  · have zc_9 : ((j_2 : Nat) : Int) ≥ ((tl : Nat) : Int) := i_nlt (nI_toInt (n := j_2) (by omega)) (nI_toInt (n := tl) (by omega)) c_9
    refine ww_aload_n C dX10_readToken_35 0 rfl rfl ?_
    refine ww_iconst (v := 0) C dX10_readToken_36 rfl ?_
    refine ww_put (ws' := [(qt, .inr (10, [.ref tb, .int (nI tl), .int (nI j_2), .int 0, .int (nI j_2)])), (tb, .inl (E.2.1 0, 160, .inl fb))]) C fp_X10_29 0 rfl rfl rfl rfl rfl dX10_readToken_37 ?_
    refine ww_goto (tgt := 120) C dX10_readToken_40 (by decide) ?_
    exact ww_vret (u := [(qt, .inr (10, [.ref tb, .int (nI tl), .int (nI j_2), .int 0, .int (nI j_2)])), (tb, .inl (E.2.1 0, 160, .inl fb))]) C hT [0, 1] rfl rfl rfl rfl dX10_readToken_120 (⟨j_2, 0, j_2, rfl, (by first | assumption | omega | decide), (by first | assumption | omega | decide), (by first | assumption | omega | decide), (by omega), (tk_end h_6 (by rw [cz_0 (by omega)]; decide)), ⟨_, (tk_end h_6 (by rw [cz_0 (by omega)]; decide))⟩⟩)
theorem dX10_figure_0 : decode cX10_figure 0 = .ok (.aload_n 0, 1) := by decide +kernel
theorem dX10_figure_1 : decode cX10_figure 1 = .ok (.getfield 29, 3) := by decide +kernel
theorem fg_X10_29 : FG RX10 29 10 3 := ⟨RX10, TX10, 5, uw_X10, wf_X10_29, rfl, by decide, rfl⟩
theorem dX10_figure_4 : decode cX10_figure 4 = .ok (.iconst 2, 1) := by decide +kernel
theorem dX10_figure_5 : decode cX10_figure 5 = .ok (.if_icmp .ne 18, 3) := by decide +kernel
theorem dX10_figure_23 : decode cX10_figure 23 = .ok (.iconst 0, 1) := by decide +kernel
theorem dX10_figure_24 : decode cX10_figure 24 = .ok (.ireturn, 1) := by decide +kernel
theorem dX10_figure_8 : decode cX10_figure 8 = .ok (.aload_n 0, 1) := by decide +kernel
theorem dX10_figure_9 : decode cX10_figure 9 = .ok (.getfield 9, 3) := by decide +kernel
theorem dX10_figure_12 : decode cX10_figure 12 = .ok (.aload_n 0, 1) := by decide +kernel
theorem dX10_figure_13 : decode cX10_figure 13 = .ok (.getfield 26, 3) := by decide +kernel
theorem dX10_figure_16 : decode cX10_figure 16 = .ok (.baload, 1) := by decide +kernel
theorem dX10_figure_17 : decode cX10_figure 17 = .ok (.bipush 48, 2) := by decide +kernel
theorem dX10_figure_19 : decode cX10_figure 19 = .ok (.isub, 1) := by decide +kernel
theorem dX10_figure_20 : decode cX10_figure 20 = .ok (.goto 4, 3) := by decide +kernel
set_option maxRecDepth 100000 in
set_option maxHeartbeats 4000000 in
theorem t_figure (l : Launch) (E : EV) (ro : va_W) (qt : Nat) (tb : Nat) (tl : Nat) (ta : Nat) (tk : Nat) (ts : Nat) (fb : Nat → Int32) (hts : ts ≤ ta) (hta : ta ≤ tl) (htl : tl ≤ 160) (htk : tk ≤ 3) (hs9 : ts < 160) (hfg : TX (cz fb tl) ts tk ta) : CT l yX10_figure (Cond.code yX10_figure cX10_figure 1 (some .int) :: TB) ({ frames := 0, cells := 0, slots := 0, locals := 0 }) E ro [.ref qt] [(qt, .inr (10, [.ref tb, .int (nI tl), .int (nI ta), .int (nI tk), .int (nI ts)])), (tb, .inl (E.2.1 0, 160, .inl fb))] (Qi E (fun (rz : Int32) uz => (rz = (fgv tk fb ts) ∧ uz = [(qt, .inr (10, [.ref tb, .int (nI tl), .int (nI ta), .int (nI tk), .int (nI ts)])), (tb, .inl (E.2.1 0, 160, .inl fb))] ∧ (0 ≤ (fgv tk fb ts).toInt) ∧ ((fgv tk fb ts).toInt ≤ 9)))) 0 0 := by
  refine ct_of rfl rfl ?_
  intro X C hT hin hro
  show WW X 1 E 0 [(0, .ref qt)] [] [(qt, .inr (10, [.ref tb, .int (nI tl), .int (nI ta), .int (nI tk), .int (nI ts)])), (tb, .inl (E.2.1 0, 160, .inl fb))] 0 0
  refine ww_aload_n C dX10_figure_0 0 rfl rfl ?_
  refine ww_get C fg_X10_29 0 rfl rfl dX10_figure_1 ?_
  refine ww_iconst (v := 2) C dX10_figure_4 rfl ?_
  refine ww_icmp_ne (tgt := 23) C dX10_figure_5 (by decide) (fun c_1 => ?_) (fun c_1 => ?_)
  · have zc_1 : ((tk : Nat) : Int) ≠ 2 := i_ne (nI_toInt (n := tk) (by omega)) rfl c_1
    refine ww_iconst (v := 0) C dX10_figure_23 rfl ?_
    exact ww_iret (u := [(qt, .inr (10, [.ref tb, .int (nI tl), .int (nI ta), .int (nI tk), .int (nI ts)])), (tb, .inl (E.2.1 0, 160, .inl fb))]) C hT [0, 1] rfl rfl rfl rfl dX10_figure_24 (⟨(by first | exact fgv_0 (by omega) | exact fgv_1 (by omega) (by assumption) (by assumption)), rfl, (fgv_r hfg.fg2).1, (fgv_r hfg.fg2).2⟩)
  · have zc_1 : ((tk : Nat) : Int) = 2 := i_eq (nI_toInt (n := tk) (by omega)) rfl c_1
    refine ww_aload_n C dX10_figure_8 0 rfl rfl ?_
    refine ww_get C fg_X10_9 0 rfl rfl dX10_figure_9 ?_
    refine ww_aload_n C dX10_figure_12 0 rfl rfl ?_
    refine ww_get C fg_X10_26 0 rfl rfl dX10_figure_13 ?_
    obtain ⟨x_2, ex_2⟩ : ∃ z : Int32, fb ts = z := ⟨_, rfl⟩
    refine ww_bald (v := x_2) C 1 rfl (vp_in_nI (by omega) (by omega)) (ldn (by omega) ex_2) dX10_figure_16 ?_
    refine ww_bipush (v := 48) C dX10_figure_17 rfl ?_
    obtain ⟨x_3, ex_3⟩ : ∃ z : Int32, x_2 - (48 : Int32) = z := ⟨_, rfl⟩
    refine ww_isub (v := x_3) C dX10_figure_19 ex_3 ?_
    refine ww_goto (tgt := 24) C dX10_figure_20 (by decide) ?_
    exact ww_iret (u := [(qt, .inr (10, [.ref tb, .int (nI tl), .int (nI ta), .int (nI tk), .int (nI ts)])), (tb, .inl (E.2.1 0, 160, .inl fb))]) C hT [0, 1] rfl rfl rfl rfl dX10_figure_24 (⟨(by first | exact fgv_0 (by omega) | exact fgv_1 (by omega) (by assumption) (by assumption)), rfl, (fgv_r hfg.fg2).1, (fgv_r hfg.fg2).2⟩)
theorem dX10_isName_0 : decode cX10_isName 0 = .ok (.aload_n 0, 1) := by decide +kernel
theorem dX10_isName_1 : decode cX10_isName 1 = .ok (.getfield 29, 3) := by decide +kernel
theorem dX10_isName_4 : decode cX10_isName 4 = .ok (.iconst 1, 1) := by decide +kernel
theorem dX10_isName_5 : decode cX10_isName 5 = .ok (.if_icmp .ne 19, 3) := by decide +kernel
theorem dX10_isName_24 : decode cX10_isName 24 = .ok (.iconst 0, 1) := by decide +kernel
theorem dX10_isName_25 : decode cX10_isName 25 = .ok (.ireturn, 1) := by decide +kernel
theorem dX10_isName_8 : decode cX10_isName 8 = .ok (.aload_n 0, 1) := by decide +kernel
theorem dX10_isName_9 : decode cX10_isName 9 = .ok (.getfield 19, 3) := by decide +kernel
theorem dX10_isName_12 : decode cX10_isName 12 = .ok (.aload_n 0, 1) := by decide +kernel
theorem dX10_isName_13 : decode cX10_isName 13 = .ok (.getfield 26, 3) := by decide +kernel
theorem dX10_isName_16 : decode cX10_isName 16 = .ok (.isub, 1) := by decide +kernel
theorem dX10_isName_17 : decode cX10_isName 17 = .ok (.aload_n 1, 1) := by decide +kernel
theorem dX10_isName_18 : decode cX10_isName 18 = .ok (.invokevirtual 36, 3) := by decide +kernel
theorem wl_X10_36 : Cond.methodLink RX10 36 yJ0_length_8abf5 ∈ TB := tbm (tq3 (List.mem_of_getElem? (i := 42) (by decide +kernel))) (by decide +kernel)
theorem wc_J0_length_8abf5 : Cond.code yJ0_length_8abf5 cJ0_length_8abf5 1 (some .int) ∈ TB := tbm (tq3 (List.mem_of_getElem? (i := 45) (rfl))) (by decide +kernel)
theorem wi_J0_length_8abf5 : Cond.instanceMethod yJ0_length_8abf5 ∈ TB := tbm (tq3 (List.mem_of_getElem? (i := 43) (by decide +kernel))) (by decide +kernel)
theorem ws_J0_length_8abf5 : Cond.selects RJ0 yJ0_length_8abf5 yJ0_length_8abf5 ∈ TB := tbm (tq3 (List.mem_of_getElem? (i := 44) (by decide +kernel))) (by decide +kernel)
theorem mi_J0_length_8abf5 : MI yJ0_length_8abf5 cJ0_length_8abf5 1 (some .int) 0 := ⟨wc_J0_length_8abf5, wn_J0, ⟨by decide +kernel, by decide +kernel, by decide +kernel⟩, wi_J0_length_8abf5, ws_J0_length_8abf5⟩
theorem dX10_isName_21 : decode cX10_isName 21 = .ok (.if_icmp .eq 5, 3) := by decide +kernel
theorem dX10_isName_26 : decode cX10_isName 26 = .ok (.iconst 0, 1) := by decide +kernel
theorem dX10_isName_27 : decode cX10_isName 27 = .ok (.istore_n 2, 1) := by decide +kernel
theorem dX10_isName_28 : decode cX10_isName 28 = .ok (.iload_n 2, 1) := by decide +kernel
theorem dX10_isName_29 : decode cX10_isName 29 = .ok (.aload_n 1, 1) := by decide +kernel
theorem dX10_isName_30 : decode cX10_isName 30 = .ok (.invokevirtual 36, 3) := by decide +kernel
theorem dX10_isName_33 : decode cX10_isName 33 = .ok (.if_icmp .ge 30, 3) := by decide +kernel
theorem dX10_isName_63 : decode cX10_isName 63 = .ok (.iconst 1, 1) := by decide +kernel
theorem dX10_isName_64 : decode cX10_isName 64 = .ok (.ireturn, 1) := by decide +kernel
theorem dX10_isName_36 : decode cX10_isName 36 = .ok (.aload_n 0, 1) := by decide +kernel
theorem dX10_isName_37 : decode cX10_isName 37 = .ok (.getfield 9, 3) := by decide +kernel
theorem dX10_isName_40 : decode cX10_isName 40 = .ok (.aload_n 0, 1) := by decide +kernel
theorem dX10_isName_41 : decode cX10_isName 41 = .ok (.getfield 26, 3) := by decide +kernel
theorem dX10_isName_44 : decode cX10_isName 44 = .ok (.iload_n 2, 1) := by decide +kernel
theorem dX10_isName_45 : decode cX10_isName 45 = .ok (.iadd, 1) := by decide +kernel
theorem dX10_isName_46 : decode cX10_isName 46 = .ok (.baload, 1) := by decide +kernel
theorem dX10_isName_47 : decode cX10_isName 47 = .ok (.aload_n 1, 1) := by decide +kernel
theorem dX10_isName_48 : decode cX10_isName 48 = .ok (.iload_n 2, 1) := by decide +kernel
theorem dX10_isName_49 : decode cX10_isName 49 = .ok (.invokevirtual 41, 3) := by decide +kernel
theorem wl_X10_41 : Cond.methodLink RX10 41 yJ0_charAt_5068e ∈ TB := tbm (tq3 (List.mem_of_getElem? (i := 52) (by decide +kernel))) (by decide +kernel)
theorem wc_J0_charAt_5068e : Cond.code yJ0_charAt_5068e cJ0_charAt_5068e 2 (some .char) ∈ TB := tbm (tq3 (List.mem_of_getElem? (i := 55) (rfl))) (by decide +kernel)
theorem wi_J0_charAt_5068e : Cond.instanceMethod yJ0_charAt_5068e ∈ TB := tbm (tq3 (List.mem_of_getElem? (i := 53) (by decide +kernel))) (by decide +kernel)
theorem ws_J0_charAt_5068e : Cond.selects RJ0 yJ0_charAt_5068e yJ0_charAt_5068e ∈ TB := tbm (tq3 (List.mem_of_getElem? (i := 54) (by decide +kernel))) (by decide +kernel)
theorem mi_J0_charAt_5068e : MI yJ0_charAt_5068e cJ0_charAt_5068e 2 (some .char) 1 := ⟨wc_J0_charAt_5068e, wn_J0, ⟨by decide +kernel, by decide +kernel, by decide +kernel⟩, wi_J0_charAt_5068e, ws_J0_charAt_5068e⟩
theorem dX10_isName_52 : decode cX10_isName 52 = .ok (.if_icmp .eq 5, 3) := by decide +kernel
theorem dX10_isName_57 : decode cX10_isName 57 = .ok (.iinc 2 1, 3) := by decide +kernel
theorem dX10_isName_60 : decode cX10_isName 60 = .ok (.goto (-32), 3) := by decide +kernel
theorem dX10_isName_55 : decode cX10_isName 55 = .ok (.iconst 0, 1) := by decide +kernel
theorem dX10_isName_56 : decode cX10_isName 56 = .ok (.ireturn, 1) := by decide +kernel
set_option maxRecDepth 100000 in
set_option maxHeartbeats 4000000 in
theorem t_isName (l : Launch) (E : EV) (ro : va_W) (qt : Nat) (tb : Nat) (tl : Nat) (ta : Nat) (tk : Nat) (ts : Nat) (fb : Nat → Int32) (i : Nat) (hsi : i < sLen.length) (hts : ts ≤ ta) (hta : ta ≤ tl) (htl : tl ≤ 160) (htk : tk ≤ 3) : CT l yX10_isName (Cond.code yX10_isName cX10_isName 3 (some .boolean) :: TB) ({ frames := 4, cells := 0, slots := 0, locals := 85 }) E ro [.ref qt, .ref (E.2.2 (sIdx.getD i 0))] [(qt, .inr (10, [.ref tb, .int (nI tl), .int (nI ta), .int (nI tk), .int (nI ts)])), (tb, .inl (E.2.1 0, 160, .inl fb))] (Qi E (fun (rz : Int32) uz => (rz = 1 ∧ uz = [(qt, .inr (10, [.ref tb, .int (nI tl), .int (nI ta), .int (nI tk), .int (nI ts)])), (tb, .inl (E.2.1 0, 160, .inl fb))] ∧ (IN (cz fb tl) ts tk ta (sgL.getD i 0))) ∨ (rz = 0 ∧ uz = [(qt, .inr (10, [.ref tb, .int (nI tl), .int (nI ta), .int (nI tk), .int (nI ts)])), (tb, .inl (E.2.1 0, 160, .inl fb))] ∧ (¬ IN (cz fb tl) ts tk ta (sgL.getD i 0))))) 0 0 := by
  refine ct_of rfl rfl ?_
  intro X C hT hin hro
  show WW X 3 E 0 [(0, .ref qt), (1, .ref (E.2.2 (sIdx.getD i 0)))] [] [(qt, .inr (10, [.ref tb, .int (nI tl), .int (nI ta), .int (nI tk), .int (nI ts)])), (tb, .inl (E.2.1 0, 160, .inl fb))] 0 0
  have hsl := sl_le i
  refine ww_aload_n C dX10_isName_0 0 rfl rfl ?_
  refine ww_get C fg_X10_29 0 rfl rfl dX10_isName_1 ?_
  refine ww_iconst (v := 1) C dX10_isName_4 rfl ?_
  refine ww_icmp_ne (tgt := 24) C dX10_isName_5 (by decide) (fun c_1 => ?_) (fun c_1 => ?_)
  · have zc_1 : ((tk : Nat) : Int) ≠ 1 := i_ne (nI_toInt (n := tk) (by omega)) rfl c_1
    refine ww_iconst (v := 0) C dX10_isName_24 rfl ?_
    exact ww_zret (u := [(qt, .inr (10, [.ref tb, .int (nI tl), .int (nI ta), .int (nI tk), .int (nI ts)])), (tb, .inl (E.2.1 0, 160, .inl fb))]) C hT [0, 1] rfl rfl rfl rfl rfl dX10_isName_25 (Or.inr ⟨rfl, rfl, (fun h9 => by have h8 := h9.1; have h7 := h9.2.1; have h6 := (str_w i hsi).1; omega)⟩)
  · have zc_1 : ((tk : Nat) : Int) = 1 := i_eq (nI_toInt (n := tk) (by omega)) rfl c_1
    refine ww_aload_n C dX10_isName_8 0 rfl rfl ?_
    refine ww_get C fg_X10_19 0 rfl rfl dX10_isName_9 ?_
    refine ww_aload_n C dX10_isName_12 0 rfl rfl ?_
    refine ww_get C fg_X10_26 0 rfl rfl dX10_isName_13 ?_
    refine ww_isub (v := (nI (ta - ts))) C dX10_isName_16 (pk_sub (a := ta) (b := ts) (by omega)) ?_
    refine ww_aload_n C dX10_isName_17 1 rfl rfl ?_
    refine ww_ci (wr := [(qt, .inr (10, [.ref tb, .int (nI tl), .int (nI ta), .int (nI tk), .int (nI ts)])), (tb, .inl (E.2.1 0, 160, .inl fb))]) (k' := 0) (n' := 0) C (run_VS (As := []) (rest := [.int (nI (ta - ts))]) C i hsi (j_length X.2.1 E ro i hsi) mi_J0_length_8abf5 wl_X10_36 rfl rfl rfl rfl rfl dX10_isName_18) (roK hro) [] [0, 1] rfl rfl rfl rfl (fun r_2 uz hw => ?_)
    refine an1 hw ?_
    clear hw
    intro he_3 hw
    have he_4 := hw
    clear hw
    have he_3 := he_3.symm
    subst he_3
    subst he_4
    refine ww_eq (ws' := [(qt, .inr (10, [.ref tb, .int (nI tl), .int (nI ta), .int (nI tk), .int (nI ts)])), (tb, .inl (E.2.1 0, 160, .inl fb))]) ?_ rfl rfl rfl
    refine ww_icmp_eq (tgt := 26) C dX10_isName_21 (by decide) (fun c_5 => ?_) (fun c_5 => ?_)
    · have zc_5 : ((ta - ts : Nat) : Int) = ((sLen.getD i 0 : Nat) : Int) := i_eq (nI_toInt (n := ta - ts) (by omega)) (nI_toInt (n := sLen.getD i 0) (by omega)) c_5
      refine ww_iconst (v := 0) C dX10_isName_26 rfl ?_
      refine ww_istore_n (lv' := [(2, .int 0), (0, .ref qt), (1, .ref (E.2.2 (sIdx.getD i 0)))]) C dX10_isName_27 rfl rfl rfl ?_
      have loop_28 : ∀ (fu : Nat) (i1 : Nat), (i1 ≤ sLen.getD i 0) → (∀ j, j < i1 → cz fb tl (ts + j) = wdB (sgL.getD i 0) j) → sLen.getD i 0 - i1 < fu → WW X 3 E 28 [(2, .int (nI i1)), (0, .ref qt), (1, .ref (E.2.2 (sIdx.getD i 0)))] [] [(qt, .inr (10, [.ref tb, .int (nI tl), .int (nI ta), .int (nI tk), .int (nI ts)])), (tb, .inl (E.2.1 0, 160, .inl fb))] 0 0 := by
        intro fu
        induction fu with
        | zero => intro i1 hi1 hm hmeas; exact absurd hmeas (Nat.not_lt_zero _)
        | succ fu ih_28 =>
          intro i1 hi1 hm hmeas
          refine ww_iload_n C dX10_isName_28 0 rfl rfl ?_
          refine ww_aload_n C dX10_isName_29 2 rfl rfl ?_
          refine ww_ci (wr := [(qt, .inr (10, [.ref tb, .int (nI tl), .int (nI ta), .int (nI tk), .int (nI ts)])), (tb, .inl (E.2.1 0, 160, .inl fb))]) (k' := 0) (n' := 0) C (run_VS (As := []) (rest := [.int (nI i1)]) C i hsi (j_length X.2.1 E ro i hsi) mi_J0_length_8abf5 wl_X10_36 rfl rfl rfl rfl rfl dX10_isName_30) (roK hro) [] [0, 1] rfl rfl rfl rfl (fun r_6 uz hw => ?_)
          refine an1 hw ?_
          clear hw
          intro he_7 hw
          have he_8 := hw
          clear hw
          have he_7 := he_7.symm
          subst he_7
          subst he_8
          refine ww_eq (ws' := [(qt, .inr (10, [.ref tb, .int (nI tl), .int (nI ta), .int (nI tk), .int (nI ts)])), (tb, .inl (E.2.1 0, 160, .inl fb))]) ?_ rfl rfl rfl
          refine ww_icmp_ge (tgt := 63) C dX10_isName_33 (by decide) (fun c_9 => ?_) (fun c_9 => ?_)
          · have zc_9 : ((i1 : Nat) : Int) ≥ ((sLen.getD i 0 : Nat) : Int) := i_le (nI_toInt (n := sLen.getD i 0) (by omega)) (nI_toInt (n := i1) (by omega)) c_9
            refine ww_iconst (v := 1) C dX10_isName_63 rfl ?_
            exact ww_zret (u := [(qt, .inr (10, [.ref tb, .int (nI tl), .int (nI ta), .int (nI tk), .int (nI ts)])), (tb, .inl (E.2.1 0, 160, .inl fb))]) C hT [0, 1] rfl rfl rfl rfl rfl dX10_isName_64 (Or.inl ⟨rfl, rfl, ⟨by omega, (by have h6 := (str_w i hsi).1; omega), (fun j hj => hm j (by have h6 := (str_w i hsi).1; omega))⟩⟩)
          · have zc_9 : ((i1 : Nat) : Int) < ((sLen.getD i 0 : Nat) : Int) := i_nle (nI_toInt (n := sLen.getD i 0) (by omega)) (nI_toInt (n := i1) (by omega)) c_9
            refine ww_aload_n C dX10_isName_36 1 rfl rfl ?_
            refine ww_get C fg_X10_9 0 rfl rfl dX10_isName_37 ?_
            refine ww_aload_n C dX10_isName_40 1 rfl rfl ?_
            refine ww_get C fg_X10_26 0 rfl rfl dX10_isName_41 ?_
            refine ww_iload_n C dX10_isName_44 0 rfl rfl ?_
            refine ww_iadd (v := (nI (ts + i1))) C dX10_isName_45 (nI_add ts i1) ?_
            obtain ⟨x_10, ex_10⟩ : ∃ z : Int32, fb (ts + i1) = z := ⟨_, rfl⟩
            refine ww_bald (v := x_10) C 1 rfl (vp_in_nI (by omega) (by omega)) (ldn (by omega) ex_10) dX10_isName_46 ?_
            refine ww_aload_n C dX10_isName_47 2 rfl rfl ?_
            refine ww_iload_n C dX10_isName_48 0 rfl rfl ?_
            refine ww_ci (wr := [(qt, .inr (10, [.ref tb, .int (nI tl), .int (nI ta), .int (nI tk), .int (nI ts)])), (tb, .inl (E.2.1 0, 160, .inl fb))]) (k' := 0) (n' := 0) C (run_VS (As := [.int (nI i1)]) (rest := [.int x_10]) C i hsi (j_chr0 X.2.1 E ro i1 i hsi (by omega)) mi_J0_charAt_5068e wl_X10_41 rfl rfl rfl rfl rfl dX10_isName_49) (roK hro) [] [0, 1] rfl rfl rfl rfl (fun r_11 uz hw => ?_)
            refine an1 hw ?_
            clear hw
            intro he_12 hw
            have he_13 := hw
            clear hw
            have he_12 := he_12.symm
            subst he_12
            subst he_13
            refine ww_eq (ws' := [(qt, .inr (10, [.ref tb, .int (nI tl), .int (nI ta), .int (nI tk), .int (nI ts)])), (tb, .inl (E.2.1 0, 160, .inl fb))]) ?_ rfl rfl rfl
            refine ww_icmp_eq (tgt := 57) C dX10_isName_52 (by decide) (fun c_14 => ?_) (fun c_14 => ?_)
            · have zc_14 : x_10.toInt = ((sByt.getD i []).getD i1 0).toInt := i_eq rfl rfl c_14
              refine ww_iinc (j := 0) (v := (nI (i1 + 1))) (lv' := [(2, .int (nI (i1 + 1))), (0, .ref qt), (1, .ref (E.2.2 (sIdx.getD i 0)))]) C dX10_isName_57 rfl (nI_add i1 1) rfl rfl ?_
              refine ww_goto (tgt := 28) C dX10_isName_60 (by decide) ?_
              exact ww_lv [0, 1, 2] rfl (ww_sub [0, 1] rfl rfl (ih_28 (i1 + 1) (by omega) (in_ext hsi hm (by omega) (by omega) ex_10 (by assumption)) (by omega)))
            · have zc_14 : x_10.toInt ≠ ((sByt.getD i []).getD i1 0).toInt := i_ne rfl rfl c_14
              refine ww_iconst (v := 0) C dX10_isName_55 rfl ?_
              exact ww_zret (u := [(qt, .inr (10, [.ref tb, .int (nI tl), .int (nI ta), .int (nI tk), .int (nI ts)])), (tb, .inl (E.2.1 0, 160, .inl fb))]) C hT [0, 1] rfl rfl rfl rfl rfl dX10_isName_56 (Or.inr ⟨rfl, rfl, (in_no hsi (by omega) (by omega) ex_10 (by assumption))⟩)
      exact ww_lv [0, 1, 2] rfl (ww_sub [0, 1] rfl rfl (loop_28 _ 0 (by omega) (fun j hj => absurd hj (by omega)) (Nat.lt_succ_self _)))
    · have zc_5 : ((ta - ts : Nat) : Int) ≠ ((sLen.getD i 0 : Nat) : Int) := i_ne (nI_toInt (n := ta - ts) (by omega)) (nI_toInt (n := sLen.getD i 0) (by omega)) c_5
      refine ww_iconst (v := 0) C dX10_isName_24 rfl ?_
      exact ww_zret (u := [(qt, .inr (10, [.ref tb, .int (nI tl), .int (nI ta), .int (nI tk), .int (nI ts)])), (tb, .inl (E.2.1 0, 160, .inl fb))]) C hT [0, 1] rfl rfl rfl rfl rfl dX10_isName_25 (Or.inr ⟨rfl, rfl, (fun h9 => by have h8 := h9.1; have h7 := h9.2.1; have h6 := (str_w i hsi).1; omega)⟩)
theorem dX10_group_0 : decode cX10_group 0 = .ok (.iconst 0, 1) := by decide +kernel
theorem dX10_group_1 : decode cX10_group 1 = .ok (.istore_n 1, 1) := by decide +kernel
theorem dX10_group_2 : decode cX10_group 2 = .ok (.aload_n 0, 1) := by decide +kernel
theorem dX10_group_3 : decode cX10_group 3 = .ok (.getfield 26, 3) := by decide +kernel
theorem dX10_group_6 : decode cX10_group 6 = .ok (.istore_n 2, 1) := by decide +kernel
theorem dX10_group_7 : decode cX10_group 7 = .ok (.aload_n 0, 1) := by decide +kernel
theorem dX10_group_8 : decode cX10_group 8 = .ok (.getfield 29, 3) := by decide +kernel
theorem dX10_group_11 : decode cX10_group 11 = .ok (.iconst 1, 1) := by decide +kernel
theorem dX10_group_12 : decode cX10_group 12 = .ok (.if_icmp .ne 48, 3) := by decide +kernel
theorem dX10_group_60 : decode cX10_group 60 = .ok (.iload_n 1, 1) := by decide +kernel
theorem dX10_group_61 : decode cX10_group 61 = .ok (.ireturn, 1) := by decide +kernel
theorem dX10_group_15 : decode cX10_group 15 = .ok (.iload_n 2, 1) := by decide +kernel
theorem dX10_group_16 : decode cX10_group 16 = .ok (.aload_n 0, 1) := by decide +kernel
theorem dX10_group_17 : decode cX10_group 17 = .ok (.getfield 19, 3) := by decide +kernel
theorem dX10_group_20 : decode cX10_group 20 = .ok (.if_icmp .ge 40, 3) := by decide +kernel
theorem dX10_group_23 : decode cX10_group 23 = .ok (.aload_n 0, 1) := by decide +kernel
theorem dX10_group_24 : decode cX10_group 24 = .ok (.getfield 9, 3) := by decide +kernel
theorem dX10_group_27 : decode cX10_group 27 = .ok (.iload_n 2, 1) := by decide +kernel
theorem dX10_group_28 : decode cX10_group 28 = .ok (.baload, 1) := by decide +kernel
theorem dX10_group_29 : decode cX10_group 29 = .ok (.bipush 97, 2) := by decide +kernel
theorem dX10_group_31 : decode cX10_group 31 = .ok (.isub, 1) := by decide +kernel
theorem dX10_group_32 : decode cX10_group 32 = .ok (.istore_n 3, 1) := by decide +kernel
theorem dX10_group_33 : decode cX10_group 33 = .ok (.iload_n 3, 1) := by decide +kernel
theorem dX10_group_34 : decode cX10_group 34 = .ok (.iconst 4, 1) := by decide +kernel
theorem dX10_group_35 : decode cX10_group 35 = .ok (.if_icmp .ge 11, 3) := by decide +kernel
theorem dX10_group_46 : decode cX10_group 46 = .ok (.iconst 0, 1) := by decide +kernel
theorem dX10_group_47 : decode cX10_group 47 = .ok (.ireturn, 1) := by decide +kernel
theorem dX10_group_38 : decode cX10_group 38 = .ok (.iload_n 1, 1) := by decide +kernel
theorem dX10_group_39 : decode cX10_group 39 = .ok (.iload_n 3, 1) := by decide +kernel
theorem dX10_group_40 : decode cX10_group 40 = .ok (.invokestatic 45, 3) := by decide +kernel
theorem dX10_group_43 : decode cX10_group 43 = .ok (.ifCond .eq 5, 3) := by decide +kernel
theorem dX10_group_48 : decode cX10_group 48 = .ok (.iload_n 1, 1) := by decide +kernel
theorem dX10_group_49 : decode cX10_group 49 = .ok (.iconst 1, 1) := by decide +kernel
theorem dX10_group_50 : decode cX10_group 50 = .ok (.iload_n 3, 1) := by decide +kernel
theorem dX10_group_51 : decode cX10_group 51 = .ok (.ishl, 1) := by decide +kernel
theorem dX10_group_52 : decode cX10_group 52 = .ok (.ior, 1) := by decide +kernel
theorem dX10_group_53 : decode cX10_group 53 = .ok (.istore_n 1, 1) := by decide +kernel
theorem dX10_group_54 : decode cX10_group 54 = .ok (.iinc 2 1, 3) := by decide +kernel
theorem dX10_group_57 : decode cX10_group 57 = .ok (.goto (-50), 3) := by decide +kernel
set_option maxRecDepth 100000 in
set_option maxHeartbeats 4000000 in
theorem t_group (l : Launch) (E : EV) (ro : va_W) (qt : Nat) (tb : Nat) (tl : Nat) (ta : Nat) (tk : Nat) (ts : Nat) (fb : Nat → Int32) (hts : ts ≤ ta) (hta : ta ≤ tl) (htl : tl ≤ 160) (htk : tk ≤ 3) (hfg : TX (cz fb tl) ts tk ta) : CT l yX10_group (Cond.code yX10_group cX10_group 4 (some .int) :: TB) ({ frames := 1, cells := 0, slots := 0, locals := 21 }) E ro [.ref qt] [(qt, .inr (10, [.ref tb, .int (nI tl), .int (nI ta), .int (nI tk), .int (nI ts)])), (tb, .inl (E.2.1 0, 160, .inl fb))] (Qi E (fun (rz : Int32) uz => (rz = (nI (gT (cz fb tl) ts tk ta)) ∧ uz = [(qt, .inr (10, [.ref tb, .int (nI tl), .int (nI ta), .int (nI tk), .int (nI ts)])), (tb, .inl (E.2.1 0, 160, .inl fb))] ∧ (gT (cz fb tl) ts tk ta < 16)))) 0 0 := by
  refine ct_of rfl rfl ?_
  intro X C hT hin hro
  show WW X 4 E 0 [(0, .ref qt)] [] [(qt, .inr (10, [.ref tb, .int (nI tl), .int (nI ta), .int (nI tk), .int (nI ts)])), (tb, .inl (E.2.1 0, 160, .inl fb))] 0 0
  refine ww_iconst (v := 0) C dX10_group_0 rfl ?_
  refine ww_istore_n (lv' := [(1, .int 0), (0, .ref qt)]) C dX10_group_1 rfl rfl rfl ?_
  refine ww_aload_n C dX10_group_2 1 rfl rfl ?_
  refine ww_get C fg_X10_26 0 rfl rfl dX10_group_3 ?_
  refine ww_istore_n (lv' := [(2, .int (nI ts)), (1, .int 0), (0, .ref qt)]) C dX10_group_6 rfl rfl rfl ?_
  have loop_7 : ∀ (fu : Nat) (i1 : Nat) (a1 : Nat), (ts ≤ i1) → (i1 ≤ ta) → (a1 < 16) → (tk = 1 → gr (cz fb tl) (ta - i1) i1 a1 = gT (cz fb tl) ts tk ta) → (tk ≠ 1 → a1 = 0) → ta - i1 < fu → WW X 4 E 7 [(2, .int (nI i1)), (1, .int (nI a1)), (0, .ref qt)] [] [(qt, .inr (10, [.ref tb, .int (nI tl), .int (nI ta), .int (nI tk), .int (nI ts)])), (tb, .inl (E.2.1 0, 160, .inl fb))] 0 0 := by
    intro fu
    induction fu with
    | zero => intro i1 a1 hi1 hi2 ha hg h0 hmeas; exact absurd hmeas (Nat.not_lt_zero _)
    | succ fu ih_7 =>
      intro i1 a1 hi1 hi2 ha hg h0 hmeas
      refine ww_aload_n C dX10_group_7 2 rfl rfl ?_
      refine ww_get C fg_X10_29 0 rfl rfl dX10_group_8 ?_
      refine ww_iconst (v := 1) C dX10_group_11 rfl ?_
      refine ww_icmp_ne (tgt := 60) C dX10_group_12 (by decide) (fun c_1 => ?_) (fun c_1 => ?_)
      · have zc_1 : ((tk : Nat) : Int) ≠ 1 := i_ne (nI_toInt (n := tk) (by omega)) rfl c_1
        refine ww_iload_n C dX10_group_60 1 rfl rfl ?_
        exact ww_iret (u := [(qt, .inr (10, [.ref tb, .int (nI tl), .int (nI ta), .int (nI tk), .int (nI ts)])), (tb, .inl (E.2.1 0, 160, .inl fb))]) C hT [0, 1] rfl rfl rfl rfl dX10_group_61 (⟨(by first | (rw [gT_0 (by omega), h0 (by omega)]; done) | (rw [← hg (by omega), gr_end (by omega)]; done)), rfl, (gT_lt _ _ _ _)⟩)
      · have zc_1 : ((tk : Nat) : Int) = 1 := i_eq (nI_toInt (n := tk) (by omega)) rfl c_1
        refine ww_iload_n C dX10_group_15 0 rfl rfl ?_
        refine ww_aload_n C dX10_group_16 2 rfl rfl ?_
        refine ww_get C fg_X10_19 0 rfl rfl dX10_group_17 ?_
        refine ww_icmp_ge (tgt := 60) C dX10_group_20 (by decide) (fun c_2 => ?_) (fun c_2 => ?_)
        · have zc_2 : ((i1 : Nat) : Int) ≥ ((ta : Nat) : Int) := i_le (nI_toInt (n := ta) (by omega)) (nI_toInt (n := i1) (by omega)) c_2
          refine ww_iload_n C dX10_group_60 1 rfl rfl ?_
          exact ww_iret (u := [(qt, .inr (10, [.ref tb, .int (nI tl), .int (nI ta), .int (nI tk), .int (nI ts)])), (tb, .inl (E.2.1 0, 160, .inl fb))]) C hT [0, 1] rfl rfl rfl rfl dX10_group_61 (⟨(by first | (rw [gT_0 (by omega), h0 (by omega)]; done) | (rw [← hg (by omega), gr_end (by omega)]; done)), rfl, (gT_lt _ _ _ _)⟩)
        · have zc_2 : ((i1 : Nat) : Int) < ((ta : Nat) : Int) := i_nle (nI_toInt (n := ta) (by omega)) (nI_toInt (n := i1) (by omega)) c_2
          refine ww_aload_n C dX10_group_23 2 rfl rfl ?_
          refine ww_get C fg_X10_9 0 rfl rfl dX10_group_24 ?_
          refine ww_iload_n C dX10_group_27 0 rfl rfl ?_
          obtain ⟨x_3, ex_3⟩ : ∃ z : Int32, fb i1 = z := ⟨_, rfl⟩
          refine ww_bald (v := x_3) C 1 rfl (vp_in_nI (by omega) (by omega)) (ldn (by omega) ex_3) dX10_group_28 ?_
          refine ww_bipush (v := 97) C dX10_group_29 rfl ?_
          have hcl := TX.cl hfg (by omega) (by omega) (show i1 < ta by omega) ex_3
          obtain ⟨j_4, ej_4, hj_4, hzj_4⟩ := letk (x := x_3) hcl.1 hcl.2.1
          refine ww_isub (v := (nI j_4)) C dX10_group_31 ej_4 ?_
          refine ww_istore_n (lv' := [(3, .int (nI j_4)), (2, .int (nI i1)), (1, .int (nI a1)), (0, .ref qt)]) C dX10_group_32 rfl rfl rfl ?_
          refine ww_iload_n C dX10_group_33 0 rfl rfl ?_
          refine ww_iconst (v := 4) C dX10_group_34 rfl ?_
          refine ww_icmp_ge (tgt := 46) C dX10_group_35 (by decide) (fun c_5 => ?_) (fun c_5 => ?_)
          · have zc_5 : ((j_4 : Nat) : Int) ≥ 4 := i_le rfl (nI_toInt (n := j_4) (by omega)) c_5
            refine ww_iconst (v := 0) C dX10_group_46 rfl ?_
            exact ww_iret (u := [(qt, .inr (10, [.ref tb, .int (nI tl), .int (nI ta), .int (nI tk), .int (nI ts)])), (tb, .inl (E.2.1 0, 160, .inl fb))]) C hT [0, 1] rfl rfl rfl rfl dX10_group_47 (⟨(by rw [← hg (by omega), gr_bad (j := j_4) (by omega) (by omega) (by first | (left; omega) | (right; exact tb_t ha (by assumption)))]; rfl), rfl, (gT_lt _ _ _ _)⟩)
          · have zc_5 : ((j_4 : Nat) : Int) < 4 := i_nle rfl (nI_toInt (n := j_4) (by omega)) c_5
            refine ww_iload_n C dX10_group_38 2 rfl rfl ?_
            refine ww_iload_n C dX10_group_39 0 rfl rfl ?_
            refine ww_ci (wr := [(qt, .inr (10, [.ref tb, .int (nI tl), .int (nI ta), .int (nI tk), .int (nI ts)])), (tb, .inl (E.2.1 0, 160, .inl fb))]) (k' := 0) (n' := 0) C (run_SN (As := [.int (nI a1), .int (nI j_4)]) (rest := []) C (c_hasN X.2.1 E ro (nI a1) j_4 (by omega)) ms_X11_has (List.mem_of_getElem? (i := 13) rfl) rfl rfl rfl rfl dX10_group_40) (roK hro) [] [0, 1] rfl rfl rfl rfl (fun r_6 uz hw => ?_)
            rcases hw with hw | hw
            · refine an2 hw ?_
              clear hw
              intro he_8 he_9 hw
              have h_7 := hw
              clear hw
              have he_8 := he_8.symm
              subst he_8
              subst he_9
              refine ww_eq (ws' := [(qt, .inr (10, [.ref tb, .int (nI tl), .int (nI ta), .int (nI tk), .int (nI ts)])), (tb, .inl (E.2.1 0, 160, .inl fb))]) ?_ rfl rfl rfl
              refine ww_if_eq_f (tgt := 48) C dX10_group_43 (by decide) (by decide) ?_
              refine ww_iconst (v := 0) C dX10_group_46 rfl ?_
              exact ww_iret (u := [(qt, .inr (10, [.ref tb, .int (nI tl), .int (nI ta), .int (nI tk), .int (nI ts)])), (tb, .inl (E.2.1 0, 160, .inl fb))]) C hT [0, 1] rfl rfl rfl rfl dX10_group_47 (⟨(by rw [← hg (by omega), gr_bad (j := j_4) (by omega) (by omega) (by first | (left; omega) | (right; exact tb_t ha (by assumption)))]; rfl), rfl, (gT_lt _ _ _ _)⟩)
            · refine an2 hw ?_
              clear hw
              intro he_11 he_12 hw
              have h_10 := hw
              clear hw
              have he_11 := he_11.symm
              subst he_11
              subst he_12
              refine ww_eq (ws' := [(qt, .inr (10, [.ref tb, .int (nI tl), .int (nI ta), .int (nI tk), .int (nI ts)])), (tb, .inl (E.2.1 0, 160, .inl fb))]) ?_ rfl rfl rfl
              refine ww_if_eq_t (tgt := 48) C dX10_group_43 (by decide) (rfl) ?_
              refine ww_iload_n C dX10_group_48 2 rfl rfl ?_
              refine ww_iconst (v := 1) C dX10_group_49 rfl ?_
              refine ww_iload_n C dX10_group_50 0 rfl rfl ?_
              refine ww_ishl (v := (nI (2 ^ j_4))) C dX10_group_51 (shl_1 (by omega)) ?_
              refine ww_ior (v := (nI (a1 ||| (2 ^ j_4)))) C dX10_group_52 (or4 _ ha _ (by omega)) ?_
              refine ww_istore_n (lv' := [(1, .int (nI (a1 ||| (2 ^ j_4)))), (3, .int (nI j_4)), (2, .int (nI i1)), (0, .ref qt)]) C dX10_group_53 rfl rfl rfl ?_
              refine ww_iinc (j := 2) (v := (nI (i1 + 1))) (lv' := [(2, .int (nI (i1 + 1))), (1, .int (nI (a1 ||| (2 ^ j_4)))), (3, .int (nI j_4)), (0, .ref qt)]) C dX10_group_54 rfl (nI_add i1 1) rfl rfl ?_
              refine ww_goto (tgt := 7) C dX10_group_57 (by decide) ?_
              exact ww_lv [0, 1, 3] rfl (ww_sub [0, 1] rfl rfl (ih_7 (i1 + 1) (a1 ||| (2 ^ j_4)) (by omega) (by omega) (or4l _ ha _ (by omega)) (fun h => by rw [← gr_go (j := j_4) (by omega) (by omega) (by omega) (tb_f ha (by assumption))]; exact hg h) (fun h => absurd (show tk = 1 by omega) h) (by omega)))
  exact ww_lv [0, 1, 2] rfl (ww_sub [0, 1] rfl rfl (loop_7 _ ts 0 (by omega) (by omega) (by omega) (fun h => (gT_1 h).symm) (fun _ => rfl) (Nat.lt_succ_self _)))
