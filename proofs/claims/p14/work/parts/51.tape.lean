section
theorem dX10_add_0 : decode cX10_add 0 = .ok (.aload_n 0, 1) := dl_42 (by decide +kernel)
theorem dX10_add_1 : decode cX10_add 1 = .ok (.getfield 15, 3) := dl_180 (by decide +kernel)
theorem uw_X10 : ∀ w ∈ u_ws RX10 TX10 5, w ∈ TB := uw_of [86, 88, 90, 92, 94] (by decide +kernel) (by decide +kernel)
theorem wf_X10_15 : Cond.fieldLink RX10 15 RX10 "length" "I" ∈ TB := tbm (tq1 (List.mem_of_getElem? (i := 79) (by decide +kernel))) (by decide +kernel)
theorem fg_X10_15 : FG RX10 15 10 1 := ⟨RX10, TX10, 5, uw_X10, wf_X10_15, rfl, by decide, rfl⟩
theorem dX10_add_4 : decode cX10_add 4 = .ok (.bipush 8, 2) := dl_16 (by decide +kernel)
theorem dX10_add_6 : decode cX10_add 6 = .ok (.iadd, 1) := dl_96 (by decide +kernel)
theorem dX10_add_7 : decode cX10_add 7 = .ok (.sipush 160, 3) := dl_17 (by decide +kernel)
theorem dX10_add_10 : decode cX10_add 10 = .ok (.if_icmp .le 5, 3) := dl_164 (by decide +kernel)
theorem dX10_add_15 : decode cX10_add 15 = .ok (.iconst 0, 1) := dl_3 (by decide +kernel)
theorem dX10_add_16 : decode cX10_add 16 = .ok (.istore_n 3, 1) := dl_62 (by decide +kernel)
theorem dX10_add_17 : decode cX10_add 17 = .ok (.iload_n 3, 1) := dl_29 (by decide +kernel)
theorem dX10_add_18 : decode cX10_add 18 = .ok (.bipush 8, 2) := dl_16 (by decide +kernel)
theorem dX10_add_20 : decode cX10_add 20 = .ok (.if_icmp .ge 31, 3) := dl_162 (by decide +kernel)
theorem dX10_add_51 : decode cX10_add 51 = .ok (.aload_n 0, 1) := dl_42 (by decide +kernel)
theorem dX10_add_52 : decode cX10_add 52 = .ok (.dup, 1) := dl_89 (by decide +kernel)
theorem dX10_add_53 : decode cX10_add 53 = .ok (.getfield 15, 3) := dl_180 (by decide +kernel)
theorem dX10_add_56 : decode cX10_add 56 = .ok (.bipush 8, 2) := dl_16 (by decide +kernel)
theorem dX10_add_58 : decode cX10_add 58 = .ok (.iadd, 1) := dl_96 (by decide +kernel)
theorem dX10_add_59 : decode cX10_add 59 = .ok (.putfield 15, 3) := dl_181 (by decide +kernel)
theorem fp_X10_15 : FP RX10 15 10 1 .int false := ⟨RX10, TX10, 5, tyX10, uw_X10, wf_X10_15, rfl, by decide, rfl, tyX10_ok, nmX10, rfl, by decide +kernel⟩
theorem dX10_add_62 : decode cX10_add 62 = .ok (.iconst 1, 1) := dl_4 (by decide +kernel)
theorem dX10_add_63 : decode cX10_add 63 = .ok (.ireturn, 1) := dl_172 (by decide +kernel)
theorem dX10_add_23 : decode cX10_add 23 = .ok (.aload_n 0, 1) := dl_42 (by decide +kernel)
theorem dX10_add_24 : decode cX10_add 24 = .ok (.getfield 9, 3) := dl_180 (by decide +kernel)
theorem wf_X10_9 : Cond.fieldLink RX10 9 RX10 "bytes" "[B" ∈ TB := tbm (tq1 (List.mem_of_getElem? (i := 78) (by decide +kernel))) (by decide +kernel)
theorem fg_X10_9 : FG RX10 9 10 0 := ⟨RX10, TX10, 5, uw_X10, wf_X10_9, rfl, by decide, rfl⟩
theorem dX10_add_27 : decode cX10_add 27 = .ok (.aload_n 0, 1) := dl_42 (by decide +kernel)
theorem dX10_add_28 : decode cX10_add 28 = .ok (.getfield 15, 3) := dl_180 (by decide +kernel)
theorem dX10_add_31 : decode cX10_add 31 = .ok (.iload_n 3, 1) := dl_29 (by decide +kernel)
theorem dX10_add_32 : decode cX10_add 32 = .ok (.iadd, 1) := dl_96 (by decide +kernel)
theorem dX10_add_33 : decode cX10_add 33 = .ok (.lload_n 1, 1) := dl_31 (by decide +kernel)
theorem dX10_add_34 : decode cX10_add 34 = .ok (.bipush 56, 2) := dl_16 (by decide +kernel)
theorem dX10_add_36 : decode cX10_add 36 = .ok (.bipush 8, 2) := dl_16 (by decide +kernel)
theorem dX10_add_38 : decode cX10_add 38 = .ok (.iload_n 3, 1) := dl_29 (by decide +kernel)
theorem dX10_add_39 : decode cX10_add 39 = .ok (.imul, 1) := dl_104 (by decide +kernel)
theorem dX10_add_40 : decode cX10_add 40 = .ok (.isub, 1) := dl_100 (by decide +kernel)
theorem dX10_add_41 : decode cX10_add 41 = .ok (.lushr, 1) := dl_125 (by decide +kernel)
theorem dX10_add_42 : decode cX10_add 42 = .ok (.l2i, 1) := dl_136 (by decide +kernel)
theorem dX10_add_43 : decode cX10_add 43 = .ok (.i2b, 1) := dl_145 (by decide +kernel)
theorem dX10_add_44 : decode cX10_add 44 = .ok (.bastore, 1) := dl_84 (by decide +kernel)
theorem dX10_add_45 : decode cX10_add 45 = .ok (.iinc 3 1, 3) := dl_132 (by decide +kernel)
theorem dX10_add_48 : decode cX10_add 48 = .ok (.goto (-31), 3) := dl_167 (by decide +kernel)
theorem dX10_add_13 : decode cX10_add 13 = .ok (.iconst 0, 1) := dl_3 (by decide +kernel)
theorem dX10_add_14 : decode cX10_add 14 = .ok (.ireturn, 1) := dl_172 (by decide +kernel)
set_option maxRecDepth 100000 in
set_option maxHeartbeats 4000000 in
theorem t_add (l : Launch) (E : EV) (ro : va_W) (qt : Nat) (v : Int64) (tb : Nat) (tl : Nat) (ta : Int32) (tk : Int32) (ts : Int32) (fb : Nat → Int32) (htl : tl ≤ 160) : CT l yX10_add (Cond.code yX10_add cX10_add 4 (some .boolean) :: TB) ({ frames := 0, cells := 0, slots := 0, locals := 0 }) E ro [.ref qt, .long v] [(qt, .inr (10, [.ref tb, .int (nI tl), .int ta, .int tk, .int ts])), (tb, .inl (E.2.1 0, 160, .inl fb))] (Qi E (fun (rz : Int32) uz => (∃ (fb2 : Nat → Int32), rz = 1 ∧ uz = [(qt, .inr (10, [.ref tb, .int (nI (tl + 8)), .int ta, .int tk, .int ts])), (tb, .inl (E.2.1 0, 160, .inl fb2))] ∧ (tl + 8 ≤ 160) ∧ (BYW fb fb2 tl 8 v)) ∨ (rz = 0 ∧ uz = [(qt, .inr (10, [.ref tb, .int (nI tl), .int ta, .int tk, .int ts])), (tb, .inl (E.2.1 0, 160, .inl fb))] ∧ (160 < tl + 8)))) 0 0 := by
  refine ct_of rfl rfl ?_
  intro X C hT hin hro
  show WW X 4 E 0 [(0, .ref qt), (1, .long v)] [] [(qt, .inr (10, [.ref tb, .int (nI tl), .int ta, .int tk, .int ts])), (tb, .inl (E.2.1 0, 160, .inl fb))] 0 0
  refine ww_aload_n C dX10_add_0 0 rfl rfl ?_
  refine ww_get C fg_X10_15 0 rfl rfl dX10_add_1 ?_
  refine ww_bipush (v := 8) C dX10_add_4 rfl ?_
  refine ww_iadd (v := (nI (tl + 8))) C dX10_add_6 (nI_add tl 8) ?_
  refine ww_sipush (v := 160) C dX10_add_7 rfl ?_
  refine ww_icmp_le (tgt := 15) C dX10_add_10 (by decide) (fun c_1 => ?_) (fun c_1 => ?_)
  · have zc_1 : ((tl + 8 : Nat) : Int) ≤ 160 := i_le (nI_toInt (n := tl + 8) (by omega)) rfl c_1
    refine ww_iconst (v := 0) C dX10_add_15 rfl ?_
    refine ww_istore_n (lv' := [(3, .int 0), (0, .ref qt), (1, .long v)]) C dX10_add_16 rfl rfl rfl ?_
    have loop_17 : ∀ (fu : Nat) (i1 : Nat) (fb1 : Nat → Int32), (i1 ≤ 8) → (BYW fb fb1 tl i1 v) → 8 - i1 < fu → WW X 4 E 17 [(3, .int (nI i1)), (0, .ref qt), (1, .long v)] [] [(qt, .inr (10, [.ref tb, .int (nI tl), .int ta, .int tk, .int ts])), (tb, .inl (E.2.1 0, 160, .inl fb1))] 0 0 := by
      intro fu
      induction fu with
      | zero => intro i1 fb1 hi1 hby hmeas; exact absurd hmeas (Nat.not_lt_zero _)
      | succ fu ih_17 =>
        intro i1 fb1 hi1 hby hmeas
        refine ww_iload_n C dX10_add_17 0 rfl rfl ?_
        refine ww_bipush (v := 8) C dX10_add_18 rfl ?_
        refine ww_icmp_ge (tgt := 51) C dX10_add_20 (by decide) (fun c_2 => ?_) (fun c_2 => ?_)
        · have zc_2 : ((i1 : Nat) : Int) ≥ 8 := i_le rfl (nI_toInt (n := i1) (by omega)) c_2
          refine ww_aload_n C dX10_add_51 1 rfl rfl ?_
          refine ww_dup C dX10_add_52 rfl ?_
          refine ww_get C fg_X10_15 0 rfl rfl dX10_add_53 ?_
          refine ww_bipush (v := 8) C dX10_add_56 rfl ?_
          refine ww_iadd (v := (nI (tl + 8))) C dX10_add_58 (nI_add tl 8) ?_
          refine ww_put (ws' := [(qt, .inr (10, [.ref tb, .int (nI (tl + 8)), .int ta, .int tk, .int ts])), (tb, .inl (E.2.1 0, 160, .inl fb1))]) C fp_X10_15 0 rfl rfl rfl rfl rfl dX10_add_59 ?_
          refine ww_iconst (v := 1) C dX10_add_62 rfl ?_
          exact ww_zret (u := [(qt, .inr (10, [.ref tb, .int (nI (tl + 8)), .int ta, .int tk, .int ts])), (tb, .inl (E.2.1 0, 160, .inl fb1))]) C hT [0, 1] rfl rfl rfl rfl rfl dX10_add_63 (Or.inl ⟨fb1, rfl, rfl, (by first | assumption | omega | decide), (by have h9 : i1 = 8 := (by omega); rw [h9] at hby; exact hby)⟩)
        · have zc_2 : ((i1 : Nat) : Int) < 8 := i_nle rfl (nI_toInt (n := i1) (by omega)) c_2
          refine ww_aload_n C dX10_add_23 1 rfl rfl ?_
          refine ww_get C fg_X10_9 0 rfl rfl dX10_add_24 ?_
          refine ww_aload_n C dX10_add_27 1 rfl rfl ?_
          refine ww_get C fg_X10_15 0 rfl rfl dX10_add_28 ?_
          refine ww_iload_n C dX10_add_31 0 rfl rfl ?_
          refine ww_iadd (v := (nI (tl + i1))) C dX10_add_32 (nI_add tl i1) ?_
          refine ww_lload_n C dX10_add_33 2 rfl rfl ?_
          refine ww_bipush (v := 56) C dX10_add_34 rfl ?_
          refine ww_bipush (v := 8) C dX10_add_36 rfl ?_
          refine ww_iload_n C dX10_add_38 0 rfl rfl ?_
          refine ww_imul (v := (nI (8 * i1))) C dX10_add_39 (pk_mul 8 i1) ?_
          refine ww_isub (v := (nI (56 - (8 * i1)))) C dX10_add_40 (pk_sub (a := 56) (b := (8 * i1)) (by omega)) ?_
          obtain ⟨l_3, el_3⟩ : ∃ z : Int64, (v.toUInt64 >>> ((nI (56 - (8 * i1))).toInt64.toUInt64 &&& Int64.toUInt64 63)).toInt64 = z := ⟨_, rfl⟩
          refine ww_lushr C dX10_add_41 el_3 ?_
          obtain ⟨x_4, ex_4⟩ : ∃ z : Int32, l_3.toInt32 = z := ⟨_, rfl⟩
          refine ww_l2i (v := x_4) C dX10_add_42 ex_4 ?_
          obtain ⟨x_5, ex_5⟩ : ∃ z : Int32, x_4.toInt8.toInt32 = z := ⟨_, rfl⟩
          refine ww_i2b (v := x_5) C dX10_add_43 ex_5 ?_
          obtain ⟨f_6, ef_6⟩ : ∃ z : Nat → Int32, upd fb1 (tl + i1) (vp_nar .byte x_5) = z := ⟨_, rfl⟩
          refine ww_bast (ws' := [(qt, .inr (10, [.ref tb, .int (nI tl), .int ta, .int tk, .int ts])), (tb, .inl (E.2.1 0, 160, .inl f_6))]) C 1 rfl (vp_in_nI (by omega) (by omega)) (ldn2 (by omega) ef_6) rfl dX10_add_44 ?_
          refine ww_iinc (j := 0) (v := (nI (i1 + 1))) (lv' := [(3, .int (nI (i1 + 1))), (0, .ref qt), (1, .long v)]) C dX10_add_45 rfl (nI_add i1 1) rfl rfl ?_
          refine ww_goto (tgt := 17) C dX10_add_48 (by decide) ?_
          exact ww_lv [0, 1, 2] rfl (ww_sub [0, 1] rfl rfl (ih_17 (i1 + 1) f_6 (by omega) (BYW.ext hby (by assumption) (by assumption) (by assumption) ef_6) (by omega)))
    exact ww_lv [0, 1, 2] rfl (ww_sub [0, 1] rfl rfl (loop_17 _ 0 fb (by omega) BYW.nil (Nat.lt_succ_self _)))
  · have zc_1 : ((tl + 8 : Nat) : Int) > 160 := i_nle (nI_toInt (n := tl + 8) (by omega)) rfl c_1
    refine ww_iconst (v := 0) C dX10_add_13 rfl ?_
    exact ww_zret (u := [(qt, .inr (10, [.ref tb, .int (nI tl), .int ta, .int tk, .int ts])), (tb, .inl (E.2.1 0, 160, .inl fb))]) C hT [0, 1] rfl rfl rfl rfl rfl dX10_add_14 (Or.inr ⟨rfl, rfl, (by first | assumption | omega | decide)⟩)
theorem dX10_rewind_0 : decode cX10_rewind 0 = .ok (.aload_n 0, 1) := dl_42 (by decide +kernel)
theorem dX10_rewind_1 : decode cX10_rewind 1 = .ok (.iconst 0, 1) := dl_3 (by decide +kernel)
theorem dX10_rewind_2 : decode cX10_rewind 2 = .ok (.putfield 19, 3) := dl_181 (by decide +kernel)
theorem wf_X10_19 : Cond.fieldLink RX10 19 RX10 "at" "I" ∈ TB := tbm (tq1 (List.mem_of_getElem? (i := 81) (by decide +kernel))) (by decide +kernel)
theorem fp_X10_19 : FP RX10 19 10 2 .int false := ⟨RX10, TX10, 5, tyX10, uw_X10, wf_X10_19, rfl, by decide, rfl, tyX10_ok, nmX10, rfl, by decide +kernel⟩
theorem dX10_rewind_5 : decode cX10_rewind 5 = .ok (.return_, 1) := dl_177 (by decide +kernel)
set_option maxRecDepth 100000 in
set_option maxHeartbeats 4000000 in
theorem t_rewind (l : Launch) (E : EV) (ro : va_W) (qt : Nat) (tb : Nat) (tl : Nat) (ta : Int32) (tk : Int32) (ts : Int32)  : CT l yX10_rewind (Cond.code yX10_rewind cX10_rewind 1 none :: TB) ({ frames := 0, cells := 0, slots := 0, locals := 0 }) E ro [.ref qt] [(qt, .inr (10, [.ref tb, .int (nI tl), .int ta, .int tk, .int ts]))] (Qv E (fun uz => (uz = [(qt, .inr (10, [.ref tb, .int (nI tl), .int 0, .int tk, .int ts]))]))) 0 0 := by
  refine ct_of rfl rfl ?_
  intro X C hT hin hro
  show WW X 1 E 0 [(0, .ref qt)] [] [(qt, .inr (10, [.ref tb, .int (nI tl), .int ta, .int tk, .int ts]))] 0 0
  refine ww_aload_n C dX10_rewind_0 0 rfl rfl ?_
  refine ww_iconst (v := 0) C dX10_rewind_1 rfl ?_
  refine ww_put (ws' := [(qt, .inr (10, [.ref tb, .int (nI tl), .int 0, .int tk, .int ts]))]) C fp_X10_19 0 rfl rfl rfl rfl rfl dX10_rewind_2 ?_
  exact ww_vret (u := [(qt, .inr (10, [.ref tb, .int (nI tl), .int 0, .int tk, .int ts]))]) C hT [0] rfl rfl rfl rfl dX10_rewind_5 (rfl)
theorem dX10_isLetter_0 : decode cX10_isLetter 0 = .ok (.iload_n 0, 1) := dl_26 (by decide +kernel)
theorem dX10_isLetter_1 : decode cX10_isLetter 1 = .ok (.bipush 97, 2) := dl_16 (by decide +kernel)
theorem dX10_isLetter_3 : decode cX10_isLetter 3 = .ok (.if_icmp .lt 13, 3) := dl_161 (by decide +kernel)
theorem dX10_isLetter_16 : decode cX10_isLetter 16 = .ok (.iconst 0, 1) := dl_3 (by decide +kernel)
theorem dX10_isLetter_17 : decode cX10_isLetter 17 = .ok (.ireturn, 1) := dl_172 (by decide +kernel)
theorem dX10_isLetter_6 : decode cX10_isLetter 6 = .ok (.iload_n 0, 1) := dl_26 (by decide +kernel)
theorem dX10_isLetter_7 : decode cX10_isLetter 7 = .ok (.bipush 122, 2) := dl_16 (by decide +kernel)
theorem dX10_isLetter_9 : decode cX10_isLetter 9 = .ok (.if_icmp .gt 7, 3) := dl_163 (by decide +kernel)
theorem dX10_isLetter_12 : decode cX10_isLetter 12 = .ok (.iconst 1, 1) := dl_4 (by decide +kernel)
theorem dX10_isLetter_13 : decode cX10_isLetter 13 = .ok (.goto 4, 3) := dl_167 (by decide +kernel)
set_option maxRecDepth 100000 in
set_option maxHeartbeats 4000000 in
theorem t_isLetter (l : Launch) (E : EV) (ro : va_W) (bb : Int32)  : CT l yX10_isLetter (Cond.code yX10_isLetter cX10_isLetter 1 (some .boolean) :: TB) ({ frames := 0, cells := 0, slots := 0, locals := 0 }) E ro [.int bb] [] (Qi E (fun (rz : Int32) uz => (rz = 1 ∧ uz = [] ∧ (97 ≤ bb.toInt ∧ bb.toInt ≤ 122)) ∨ (rz = 0 ∧ uz = [] ∧ (bb.toInt < 97 ∨ 122 < bb.toInt)))) 0 0 := by
  refine ct_of rfl rfl ?_
  intro X C hT hin hro
  show WW X 1 E 0 [(0, .int bb)] [] [] 0 0
  refine ww_iload_n C dX10_isLetter_0 0 rfl rfl ?_
  refine ww_bipush (v := 97) C dX10_isLetter_1 rfl ?_
  refine ww_icmp_lt (tgt := 16) C dX10_isLetter_3 (by decide) (fun c_1 => ?_) (fun c_1 => ?_)
  · have zc_1 : bb.toInt < 97 := i_lt rfl rfl c_1
    refine ww_iconst (v := 0) C dX10_isLetter_16 rfl ?_
    exact ww_zret (u := []) C hT [] rfl rfl rfl rfl rfl dX10_isLetter_17 (Or.inr ⟨rfl, rfl, (by omega)⟩)
  · have zc_1 : bb.toInt ≥ 97 := i_nlt rfl rfl c_1
    refine ww_iload_n C dX10_isLetter_6 0 rfl rfl ?_
    refine ww_bipush (v := 122) C dX10_isLetter_7 rfl ?_
    refine ww_icmp_gt (tgt := 16) C dX10_isLetter_9 (by decide) (fun c_2 => ?_) (fun c_2 => ?_)
    · have zc_2 : bb.toInt > 122 := i_lt rfl rfl c_2
      refine ww_iconst (v := 0) C dX10_isLetter_16 rfl ?_
      exact ww_zret (u := []) C hT [] rfl rfl rfl rfl rfl dX10_isLetter_17 (Or.inr ⟨rfl, rfl, (by omega)⟩)
    · have zc_2 : bb.toInt ≤ 122 := i_nlt rfl rfl c_2
      refine ww_iconst (v := 1) C dX10_isLetter_12 rfl ?_
      refine ww_goto (tgt := 17) C dX10_isLetter_13 (by decide) ?_
      exact ww_zret (u := []) C hT [] rfl rfl rfl rfl rfl dX10_isLetter_17 (Or.inl ⟨rfl, rfl, (by omega)⟩)
theorem dX10_behind_0 : decode cX10_behind 0 = .ok (.iload_n 1, 1) := dl_27 (by decide +kernel)
theorem dX10_behind_1 : decode cX10_behind 1 = .ok (.istore 4, 2) := dl_54 (by decide +kernel)
theorem dX10_behind_3 : decode cX10_behind 3 = .ok (.iload 4, 2) := dl_21 (by decide +kernel)
theorem dX10_behind_5 : decode cX10_behind 5 = .ok (.aload_n 0, 1) := dl_42 (by decide +kernel)
theorem dX10_behind_6 : decode cX10_behind 6 = .ok (.getfield 15, 3) := dl_180 (by decide +kernel)
theorem dX10_behind_9 : decode cX10_behind 9 = .ok (.if_icmp .ge 31, 3) := dl_162 (by decide +kernel)
theorem dX10_behind_40 : decode cX10_behind 40 = .ok (.iload 4, 2) := dl_21 (by decide +kernel)
theorem dX10_behind_42 : decode cX10_behind 42 = .ok (.ireturn, 1) := dl_172 (by decide +kernel)
theorem dX10_behind_12 : decode cX10_behind 12 = .ok (.aload_n 0, 1) := dl_42 (by decide +kernel)
theorem dX10_behind_13 : decode cX10_behind 13 = .ok (.getfield 9, 3) := dl_180 (by decide +kernel)
theorem dX10_behind_16 : decode cX10_behind 16 = .ok (.iload 4, 2) := dl_21 (by decide +kernel)
theorem dX10_behind_18 : decode cX10_behind 18 = .ok (.baload, 1) := dl_51 (by decide +kernel)
theorem dX10_behind_19 : decode cX10_behind 19 = .ok (.iload_n 2, 1) := dl_28 (by decide +kernel)
theorem dX10_behind_20 : decode cX10_behind 20 = .ok (.if_icmp .lt 20, 3) := dl_161 (by decide +kernel)
theorem dX10_behind_23 : decode cX10_behind 23 = .ok (.aload_n 0, 1) := dl_42 (by decide +kernel)
theorem dX10_behind_24 : decode cX10_behind 24 = .ok (.getfield 9, 3) := dl_180 (by decide +kernel)
theorem dX10_behind_27 : decode cX10_behind 27 = .ok (.iload 4, 2) := dl_21 (by decide +kernel)
theorem dX10_behind_29 : decode cX10_behind 29 = .ok (.baload, 1) := dl_51 (by decide +kernel)
theorem dX10_behind_30 : decode cX10_behind 30 = .ok (.iload_n 3, 1) := dl_29 (by decide +kernel)
theorem dX10_behind_31 : decode cX10_behind 31 = .ok (.if_icmp .gt 9, 3) := dl_163 (by decide +kernel)
theorem dX10_behind_34 : decode cX10_behind 34 = .ok (.iinc 4 1, 3) := dl_132 (by decide +kernel)
theorem dX10_behind_37 : decode cX10_behind 37 = .ok (.goto (-34), 3) := dl_167 (by decide +kernel)
set_option maxRecDepth 100000 in
set_option maxHeartbeats 4000000 in
theorem t_behind (l : Launch) (E : EV) (ro : va_W) (qt : Nat) (fr : Nat) (lo : Int32) (hi : Int32) (tb : Nat) (tl : Nat) (ta : Int32) (tk : Int32) (ts : Int32) (fb : Nat → Int32) (zl : Int) (zh : Int) (hz_zl : lo.toInt = zl) (hz_zh : hi.toInt = zh) (htl : tl ≤ 160) (hfr : fr ≤ tl) (hzl : 0 ≤ zl) (hzh : zh ≤ 127) : CT l yX10_behind (Cond.code yX10_behind cX10_behind 5 (some .int) :: TB) ({ frames := 0, cells := 0, slots := 0, locals := 0 }) E ro [.ref qt, .int (nI fr), .int lo, .int hi] [(qt, .inr (10, [.ref tb, .int (nI tl), .int ta, .int tk, .int ts])), (tb, .inl (E.2.1 0, 160, .inl fb))] (Qi E (fun (rz : Int32) uz => (∃ (j : Nat), rz = (nI j) ∧ uz = [(qt, .inr (10, [.ref tb, .int (nI tl), .int ta, .int tk, .int ts])), (tb, .inl (E.2.1 0, 160, .inl fb))] ∧ (fr ≤ j) ∧ (j ≤ tl) ∧ (RGX fb fr j zl zh) ∧ (bh (cz fb tl) zl zh fr = j)))) 0 0 := by
  refine ct_of rfl rfl ?_
  intro X C hT hin hro
  show WW X 5 E 0 [(0, .ref qt), (1, .int (nI fr)), (2, .int lo), (3, .int hi)] [] [(qt, .inr (10, [.ref tb, .int (nI tl), .int ta, .int tk, .int ts])), (tb, .inl (E.2.1 0, 160, .inl fb))] 0 0
  refine ww_iload_n C dX10_behind_0 1 rfl rfl ?_
  refine ww_istore (lv' := [(4, .int (nI fr)), (0, .ref qt), (1, .int (nI fr)), (2, .int lo), (3, .int hi)]) C dX10_behind_1 rfl rfl ?_
  have loop_3 : ∀ (fu : Nat) (i1 : Nat), (fr ≤ i1) → (i1 ≤ tl) → (RGX fb fr i1 zl zh) → tl - i1 < fu → WW X 5 E 3 [(4, .int (nI i1)), (0, .ref qt), (1, .int (nI fr)), (2, .int lo), (3, .int hi)] [] [(qt, .inr (10, [.ref tb, .int (nI tl), .int ta, .int tk, .int ts])), (tb, .inl (E.2.1 0, 160, .inl fb))] 0 0 := by
    intro fu
    induction fu with
    | zero => intro i1 hi0 hi1 hr hmeas; exact absurd hmeas (Nat.not_lt_zero _)
    | succ fu ih_3 =>
      intro i1 hi0 hi1 hr hmeas
      refine ww_iload C dX10_behind_3 0 rfl ?_
      refine ww_aload_n C dX10_behind_5 1 rfl rfl ?_
      refine ww_get C fg_X10_15 0 rfl rfl dX10_behind_6 ?_
      refine ww_icmp_ge (tgt := 40) C dX10_behind_9 (by decide) (fun c_1 => ?_) (fun c_1 => ?_)
      · have zc_1 : ((i1 : Nat) : Int) ≥ ((tl : Nat) : Int) := i_le (nI_toInt (n := tl) (by omega)) (nI_toInt (n := i1) (by omega)) c_1
        refine ww_iload C dX10_behind_40 0 rfl ?_
        exact ww_iret (u := [(qt, .inr (10, [.ref tb, .int (nI tl), .int ta, .int tk, .int ts])), (tb, .inl (E.2.1 0, 160, .inl fb))]) C hT [0, 1] rfl rfl rfl rfl dX10_behind_42 (⟨_, rfl, rfl, (by first | assumption | omega | decide), (by first | assumption | omega | decide), hr, (bh_c hr (by omega) (by omega) htl hzl hzh (fun _ => by omega))⟩)
      · have zc_1 : ((i1 : Nat) : Int) < ((tl : Nat) : Int) := i_nle (nI_toInt (n := tl) (by omega)) (nI_toInt (n := i1) (by omega)) c_1
        refine ww_aload_n C dX10_behind_12 1 rfl rfl ?_
        refine ww_get C fg_X10_9 0 rfl rfl dX10_behind_13 ?_
        refine ww_iload C dX10_behind_16 0 rfl ?_
        obtain ⟨x_2, ex_2⟩ : ∃ z : Int32, fb i1 = z := ⟨_, rfl⟩
        refine ww_bald (v := x_2) C 1 rfl (vp_in_nI (by omega) (by omega)) (ldn (by omega) ex_2) dX10_behind_18 ?_
        refine ww_iload_n C dX10_behind_19 3 rfl rfl ?_
        refine ww_icmp_lt (tgt := 40) C dX10_behind_20 (by decide) (fun c_3 => ?_) (fun c_3 => ?_)
        · have zc_3 : x_2.toInt < lo.toInt := i_lt rfl rfl c_3
          refine ww_iload C dX10_behind_40 0 rfl ?_
          exact ww_iret (u := [(qt, .inr (10, [.ref tb, .int (nI tl), .int ta, .int tk, .int ts])), (tb, .inl (E.2.1 0, 160, .inl fb))]) C hT [0, 1] rfl rfl rfl rfl dX10_behind_42 (⟨_, rfl, rfl, (by first | assumption | omega | decide), (by first | assumption | omega | decide), hr, (bh_c hr (by omega) (by omega) htl hzl hzh (fun _ => by rw [ex_2]; omega))⟩)
        · have zc_3 : x_2.toInt ≥ lo.toInt := i_nlt rfl rfl c_3
          refine ww_aload_n C dX10_behind_23 1 rfl rfl ?_
          refine ww_get C fg_X10_9 0 rfl rfl dX10_behind_24 ?_
          refine ww_iload C dX10_behind_27 0 rfl ?_
          refine ww_bald (v := x_2) C 1 rfl (vp_in_nI (by omega) (by omega)) (ldn (by omega) ex_2) dX10_behind_29 ?_
          refine ww_iload_n C dX10_behind_30 4 rfl rfl ?_
          refine ww_icmp_gt (tgt := 40) C dX10_behind_31 (by decide) (fun c_4 => ?_) (fun c_4 => ?_)
          · have zc_4 : x_2.toInt > hi.toInt := i_lt rfl rfl c_4
            refine ww_iload C dX10_behind_40 0 rfl ?_
            exact ww_iret (u := [(qt, .inr (10, [.ref tb, .int (nI tl), .int ta, .int tk, .int ts])), (tb, .inl (E.2.1 0, 160, .inl fb))]) C hT [0, 1] rfl rfl rfl rfl dX10_behind_42 (⟨_, rfl, rfl, (by first | assumption | omega | decide), (by first | assumption | omega | decide), hr, (bh_c hr (by omega) (by omega) htl hzl hzh (fun _ => by rw [ex_2]; omega))⟩)
          · have zc_4 : x_2.toInt ≤ hi.toInt := i_nlt rfl rfl c_4
            refine ww_iinc (j := 0) (v := (nI (i1 + 1))) (lv' := [(4, .int (nI (i1 + 1))), (0, .ref qt), (1, .int (nI fr)), (2, .int lo), (3, .int hi)]) C dX10_behind_34 rfl (nI_add i1 1) rfl rfl ?_
            refine ww_goto (tgt := 3) C dX10_behind_37 (by decide) ?_
            exact ww_lv [0, 1, 2, 3, 4] rfl (ww_sub [0, 1] rfl rfl (ih_3 (i1 + 1) (by omega) (by omega) (RGX.ext hr (by assumption) (by omega) (by omega)) (by omega)))
  exact ww_lv [0, 1, 2, 3, 4] rfl (ww_sub [0, 1] rfl rfl (loop_3 _ fr (by omega) (by omega) RGX.nil (Nat.lt_succ_self _)))
theorem dX10_readToken_0 : decode cX10_readToken 0 = .ok (.aload_n 0, 1) := dl_42 (by decide +kernel)
theorem dX10_readToken_1 : decode cX10_readToken 1 = .ok (.aload_n 0, 1) := dl_42 (by decide +kernel)
theorem dX10_readToken_2 : decode cX10_readToken 2 = .ok (.aload_n 0, 1) := dl_42 (by decide +kernel)
theorem dX10_readToken_3 : decode cX10_readToken 3 = .ok (.getfield 19, 3) := dl_180 (by decide +kernel)
theorem fg_X10_19 : FG RX10 19 10 2 := ⟨RX10, TX10, 5, uw_X10, wf_X10_19, rfl, by decide, rfl⟩
theorem dX10_readToken_6 : decode cX10_readToken 6 = .ok (.bipush 32, 2) := dl_16 (by decide +kernel)
theorem dX10_readToken_8 : decode cX10_readToken 8 = .ok (.bipush 32, 2) := dl_16 (by decide +kernel)
theorem dX10_readToken_10 : decode cX10_readToken 10 = .ok (.invokevirtual 22, 3) := dl_182 (by decide +kernel)
theorem wl_X10_22 : Cond.methodLink RX10 22 yX10_behind ∈ TB := tbm (tq3 (List.mem_of_getElem? (i := 22) (by decide +kernel))) (by decide +kernel)
theorem wc_X10_behind : Cond.code yX10_behind cX10_behind 5 (some .int) ∈ TB := tbm (tq3 (List.mem_of_getElem? (i := 25) (rfl))) (by decide +kernel)
theorem wn_X10 : Cond.initialized RX10 ∈ TB := tbm (tq1 (List.mem_of_getElem? (i := 4) (by decide +kernel))) (by decide +kernel)
theorem wi_X10_behind : Cond.instanceMethod yX10_behind ∈ TB := tbm (tq3 (List.mem_of_getElem? (i := 24) (by decide +kernel))) (by decide +kernel)
theorem ws_X10_behind : Cond.selects RX10 yX10_behind yX10_behind ∈ TB := tbm (tq0 (List.mem_of_getElem? (i := 4) (by decide +kernel))) (by decide +kernel)
theorem mi_X10_behind : MI yX10_behind cX10_behind 5 (some .int) 3 := ⟨wc_X10_behind, wn_X10, ⟨by decide +kernel, by decide +kernel, by decide +kernel⟩, wi_X10_behind, ws_X10_behind⟩
theorem dX10_readToken_13 : decode cX10_readToken 13 = .ok (.putfield 26, 3) := dl_181 (by decide +kernel)
theorem wf_X10_26 : Cond.fieldLink RX10 26 RX10 "start" "I" ∈ TB := tbm (tq1 (List.mem_of_getElem? (i := 85) (by decide +kernel))) (by decide +kernel)
theorem fp_X10_26 : FP RX10 26 10 4 .int false := ⟨RX10, TX10, 5, tyX10, uw_X10, wf_X10_26, rfl, by decide, rfl, tyX10_ok, nmX10, rfl, by decide +kernel⟩
theorem dX10_readToken_16 : decode cX10_readToken 16 = .ok (.aload_n 0, 1) := dl_42 (by decide +kernel)
theorem dX10_readToken_17 : decode cX10_readToken 17 = .ok (.aload_n 0, 1) := dl_42 (by decide +kernel)
theorem dX10_readToken_18 : decode cX10_readToken 18 = .ok (.getfield 26, 3) := dl_180 (by decide +kernel)
theorem fg_X10_26 : FG RX10 26 10 4 := ⟨RX10, TX10, 5, uw_X10, wf_X10_26, rfl, by decide, rfl⟩
theorem dX10_readToken_21 : decode cX10_readToken 21 = .ok (.putfield 19, 3) := dl_181 (by decide +kernel)
theorem dX10_readToken_24 : decode cX10_readToken 24 = .ok (.aload_n 0, 1) := dl_42 (by decide +kernel)
theorem dX10_readToken_25 : decode cX10_readToken 25 = .ok (.getfield 26, 3) := dl_180 (by decide +kernel)
theorem dX10_readToken_28 : decode cX10_readToken 28 = .ok (.aload_n 0, 1) := dl_42 (by decide +kernel)
theorem dX10_readToken_29 : decode cX10_readToken 29 = .ok (.getfield 15, 3) := dl_180 (by decide +kernel)
theorem dX10_readToken_32 : decode cX10_readToken 32 = .ok (.if_icmp .lt 11, 3) := dl_161 (by decide +kernel)
theorem dX10_readToken_43 : decode cX10_readToken 43 = .ok (.aload_n 0, 1) := dl_42 (by decide +kernel)
theorem dX10_readToken_44 : decode cX10_readToken 44 = .ok (.getfield 9, 3) := dl_180 (by decide +kernel)
theorem dX10_readToken_47 : decode cX10_readToken 47 = .ok (.aload_n 0, 1) := dl_42 (by decide +kernel)
theorem dX10_readToken_48 : decode cX10_readToken 48 = .ok (.getfield 26, 3) := dl_180 (by decide +kernel)
theorem dX10_readToken_51 : decode cX10_readToken 51 = .ok (.baload, 1) := dl_51 (by decide +kernel)
theorem dX10_readToken_52 : decode cX10_readToken 52 = .ok (.invokestatic 32, 3) := dl_184 (by decide +kernel)
theorem wl_X10_32 : Cond.methodLink RX10 32 yX10_isLetter ∈ TB := tbm (tq3 (List.mem_of_getElem? (i := 26) (by decide +kernel))) (by decide +kernel)
theorem wc_X10_isLetter : Cond.code yX10_isLetter cX10_isLetter 1 (some .boolean) ∈ TB := tbm (tq3 (List.mem_of_getElem? (i := 28) (rfl))) (by decide +kernel)
theorem wt_X10_isLetter : Cond.static yX10_isLetter ∈ TB := tbm (tq3 (List.mem_of_getElem? (i := 27) (by decide +kernel))) (by decide +kernel)
theorem ms_X10_isLetter : MS yX10_isLetter cX10_isLetter 1 (some .boolean) 1 := ⟨wc_X10_isLetter, wn_X10, ⟨by decide +kernel, by decide +kernel, by decide +kernel⟩, wt_X10_isLetter⟩
theorem dX10_readToken_55 : decode cX10_readToken 55 = .ok (.ifCond .eq 27, 3) := dl_153 (by decide +kernel)
theorem dX10_readToken_58 : decode cX10_readToken 58 = .ok (.aload_n 0, 1) := dl_42 (by decide +kernel)
theorem dX10_readToken_59 : decode cX10_readToken 59 = .ok (.aload_n 0, 1) := dl_42 (by decide +kernel)
theorem dX10_readToken_60 : decode cX10_readToken 60 = .ok (.aload_n 0, 1) := dl_42 (by decide +kernel)
theorem dX10_readToken_61 : decode cX10_readToken 61 = .ok (.getfield 26, 3) := dl_180 (by decide +kernel)
theorem dX10_readToken_64 : decode cX10_readToken 64 = .ok (.bipush 97, 2) := dl_16 (by decide +kernel)
theorem dX10_readToken_66 : decode cX10_readToken 66 = .ok (.bipush 122, 2) := dl_16 (by decide +kernel)
theorem dX10_readToken_68 : decode cX10_readToken 68 = .ok (.invokevirtual 22, 3) := dl_182 (by decide +kernel)
theorem dX10_readToken_71 : decode cX10_readToken 71 = .ok (.putfield 19, 3) := dl_181 (by decide +kernel)
theorem dX10_readToken_74 : decode cX10_readToken 74 = .ok (.aload_n 0, 1) := dl_42 (by decide +kernel)
theorem dX10_readToken_75 : decode cX10_readToken 75 = .ok (.iconst 1, 1) := dl_4 (by decide +kernel)
theorem dX10_readToken_76 : decode cX10_readToken 76 = .ok (.putfield 29, 3) := dl_181 (by decide +kernel)
theorem wf_X10_29 : Cond.fieldLink RX10 29 RX10 "kind" "I" ∈ TB := tbm (tq1 (List.mem_of_getElem? (i := 83) (by decide +kernel))) (by decide +kernel)
theorem fp_X10_29 : FP RX10 29 10 3 .int false := ⟨RX10, TX10, 5, tyX10, uw_X10, wf_X10_29, rfl, by decide, rfl, tyX10_ok, nmX10, rfl, by decide +kernel⟩
theorem dX10_readToken_79 : decode cX10_readToken 79 = .ok (.goto 41, 3) := dl_167 (by decide +kernel)
theorem dX10_readToken_120 : decode cX10_readToken 120 = .ok (.return_, 1) := dl_177 (by decide +kernel)
theorem dX10_readToken_82 : decode cX10_readToken 82 = .ok (.aload_n 0, 1) := dl_42 (by decide +kernel)
theorem dX10_readToken_83 : decode cX10_readToken 83 = .ok (.aload_n 0, 1) := dl_42 (by decide +kernel)
theorem dX10_readToken_84 : decode cX10_readToken 84 = .ok (.aload_n 0, 1) := dl_42 (by decide +kernel)
theorem dX10_readToken_85 : decode cX10_readToken 85 = .ok (.getfield 26, 3) := dl_180 (by decide +kernel)
theorem dX10_readToken_88 : decode cX10_readToken 88 = .ok (.bipush 48, 2) := dl_16 (by decide +kernel)
theorem dX10_readToken_90 : decode cX10_readToken 90 = .ok (.bipush 57, 2) := dl_16 (by decide +kernel)
theorem dX10_readToken_92 : decode cX10_readToken 92 = .ok (.invokevirtual 22, 3) := dl_182 (by decide +kernel)
theorem dX10_readToken_95 : decode cX10_readToken 95 = .ok (.putfield 19, 3) := dl_181 (by decide +kernel)
theorem dX10_readToken_98 : decode cX10_readToken 98 = .ok (.aload_n 0, 1) := dl_42 (by decide +kernel)
theorem dX10_readToken_99 : decode cX10_readToken 99 = .ok (.aload_n 0, 1) := dl_42 (by decide +kernel)
theorem dX10_readToken_100 : decode cX10_readToken 100 = .ok (.getfield 19, 3) := dl_180 (by decide +kernel)
theorem dX10_readToken_103 : decode cX10_readToken 103 = .ok (.aload_n 0, 1) := dl_42 (by decide +kernel)
theorem dX10_readToken_104 : decode cX10_readToken 104 = .ok (.getfield 26, 3) := dl_180 (by decide +kernel)
theorem dX10_readToken_107 : decode cX10_readToken 107 = .ok (.isub, 1) := dl_100 (by decide +kernel)
theorem dX10_readToken_108 : decode cX10_readToken 108 = .ok (.iconst 1, 1) := dl_4 (by decide +kernel)
theorem dX10_readToken_109 : decode cX10_readToken 109 = .ok (.if_icmp .ne 7, 3) := dl_160 (by decide +kernel)
theorem dX10_readToken_116 : decode cX10_readToken 116 = .ok (.iconst 3, 1) := dl_6 (by decide +kernel)
theorem dX10_readToken_117 : decode cX10_readToken 117 = .ok (.putfield 29, 3) := dl_181 (by decide +kernel)
theorem dX10_readToken_112 : decode cX10_readToken 112 = .ok (.iconst 2, 1) := dl_5 (by decide +kernel)
theorem dX10_readToken_113 : decode cX10_readToken 113 = .ok (.goto 4, 3) := dl_167 (by decide +kernel)
theorem dX10_readToken_35 : decode cX10_readToken 35 = .ok (.aload_n 0, 1) := dl_42 (by decide +kernel)
theorem dX10_readToken_36 : decode cX10_readToken 36 = .ok (.iconst 0, 1) := dl_3 (by decide +kernel)
theorem dX10_readToken_37 : decode cX10_readToken 37 = .ok (.putfield 29, 3) := dl_181 (by decide +kernel)
theorem dX10_readToken_40 : decode cX10_readToken 40 = .ok (.goto 80, 3) := dl_167 (by decide +kernel)
set_option maxRecDepth 100000 in
set_option maxHeartbeats 4000000 in
theorem t_readToken (l : Launch) (E : EV) (ro : va_W) (qt : Nat) (tb : Nat) (tl : Nat) (ta : Nat) (tk : Int32) (ts : Int32) (fb : Nat → Int32) (htl : tl ≤ 160) (hta : ta ≤ tl) : CT l yX10_readToken (Cond.code yX10_readToken cX10_readToken 1 none :: TB) ({ frames := 1, cells := 0, slots := 0, locals := 24 }) E ro [.ref qt] [(qt, .inr (10, [.ref tb, .int (nI tl), .int (nI ta), .int tk, .int ts])), (tb, .inl (E.2.1 0, 160, .inl fb))] (Qv E (fun uz => (∃ (ta2 : Nat) (tk2 : Nat) (ts2 : Nat), uz = [(qt, .inr (10, [.ref tb, .int (nI tl), .int (nI ta2), .int (nI tk2), .int (nI ts2)])), (tb, .inl (E.2.1 0, 160, .inl fb))] ∧ (ts2 ≤ ta2) ∧ (ta2 ≤ tl) ∧ (tk2 ≤ 3) ∧ (tk2 = 2 → ts2 < ta2) ∧ (TK (cz fb tl) ta ts2 tk2 ta2) ∧ (TX (cz fb tl) ts2 tk2 ta2)))) 0 0 := by
  refine ct_of rfl rfl ?_
  intro X C hT hin hro
  show WW X 1 E 0 [(0, .ref qt)] [] [(qt, .inr (10, [.ref tb, .int (nI tl), .int (nI ta), .int tk, .int ts])), (tb, .inl (E.2.1 0, 160, .inl fb))] 0 0
  refine ww_aload_n C dX10_readToken_0 0 rfl rfl ?_
  refine ww_aload_n C dX10_readToken_1 0 rfl rfl ?_
  refine ww_aload_n C dX10_readToken_2 0 rfl rfl ?_
  refine ww_get C fg_X10_19 0 rfl rfl dX10_readToken_3 ?_
  refine ww_bipush (v := 32) C dX10_readToken_6 rfl ?_
  refine ww_bipush (v := 32) C dX10_readToken_8 rfl ?_
  refine ww_ci (wr := []) (k' := 0) (n' := 0) C (run_V (As := [.int (nI ta), .int 32, .int 32]) (rest := [.ref qt]) C (t_behind X.2.1 E ro qt ta 32 32 tb tl (nI ta) tk ts fb 32 32 rfl rfl (by omega) (by omega) (by decide) (by decide)) mi_X10_behind wl_X10_22 rfl 0 10 rfl rfl rfl rfl rfl dX10_readToken_10) (roK hro) [0, 1] [] rfl rfl rfl rfl (fun r_1 uz hw => ?_)
  refine ex1 hw ?_
  clear hw
  intro j_2 hw
  refine an5 hw ?_
  clear hw
  intro he_7 he_8 h_3 h_4 h_5 hw
  have h_6 := hw
  clear hw
  have he_7 := he_7.symm
  subst he_7
  subst he_8
  refine ww_eq (ws' := [(qt, .inr (10, [.ref tb, .int (nI tl), .int (nI ta), .int tk, .int ts])), (tb, .inl (E.2.1 0, 160, .inl fb))]) ?_ rfl rfl rfl
  refine ww_put (ws' := [(qt, .inr (10, [.ref tb, .int (nI tl), .int (nI ta), .int tk, .int (nI j_2)])), (tb, .inl (E.2.1 0, 160, .inl fb))]) C fp_X10_26 0 rfl rfl rfl rfl rfl dX10_readToken_13 ?_
  refine ww_aload_n C dX10_readToken_16 0 rfl rfl ?_
  refine ww_aload_n C dX10_readToken_17 0 rfl rfl ?_
  refine ww_get C fg_X10_26 0 rfl rfl dX10_readToken_18 ?_
  refine ww_put (ws' := [(qt, .inr (10, [.ref tb, .int (nI tl), .int (nI j_2), .int tk, .int (nI j_2)])), (tb, .inl (E.2.1 0, 160, .inl fb))]) C fp_X10_19 0 rfl rfl rfl rfl rfl dX10_readToken_21 ?_
  refine ww_aload_n C dX10_readToken_24 0 rfl rfl ?_
  refine ww_get C fg_X10_26 0 rfl rfl dX10_readToken_25 ?_
  refine ww_aload_n C dX10_readToken_28 0 rfl rfl ?_
  refine ww_get C fg_X10_15 0 rfl rfl dX10_readToken_29 ?_
  refine ww_icmp_lt (tgt := 43) C dX10_readToken_32 (by decide) (fun c_9 => ?_) (fun c_9 => ?_)
  · have zc_9 : ((j_2 : Nat) : Int) < ((tl : Nat) : Int) := i_lt (nI_toInt (n := j_2) (by omega)) (nI_toInt (n := tl) (by omega)) c_9
    refine ww_aload_n C dX10_readToken_43 0 rfl rfl ?_
    refine ww_get C fg_X10_9 0 rfl rfl dX10_readToken_44 ?_
    refine ww_aload_n C dX10_readToken_47 0 rfl rfl ?_
    refine ww_get C fg_X10_26 0 rfl rfl dX10_readToken_48 ?_
    obtain ⟨x_10, ex_10⟩ : ∃ z : Int32, fb j_2 = z := ⟨_, rfl⟩
    refine ww_bald (v := x_10) C 1 rfl (vp_in_nI (by omega) (by omega)) (ldn (by omega) ex_10) dX10_readToken_51 ?_
    refine ww_ci (wr := [(qt, .inr (10, [.ref tb, .int (nI tl), .int (nI j_2), .int tk, .int (nI j_2)])), (tb, .inl (E.2.1 0, 160, .inl fb))]) (k' := 0) (n' := 0) C (run_S (As := [.int x_10]) (rest := []) C (t_isLetter X.2.1 E ro x_10) ms_X10_isLetter wl_X10_32 rfl rfl rfl rfl dX10_readToken_52) (roK hro) [] [0, 1] rfl rfl rfl rfl (fun r_11 uz hw => ?_)
    rcases hw with hw | hw
    · refine an2 hw ?_
      clear hw
      intro he_13 he_14 hw
      have h_12 := hw
      clear hw
      have he_13 := he_13.symm
      subst he_13
      subst he_14
      refine ww_eq (ws' := [(qt, .inr (10, [.ref tb, .int (nI tl), .int (nI j_2), .int tk, .int (nI j_2)])), (tb, .inl (E.2.1 0, 160, .inl fb))]) ?_ rfl rfl rfl
      refine ww_if_eq_f (tgt := 82) C dX10_readToken_55 (by decide) (by decide) ?_
      refine ww_aload_n C dX10_readToken_58 0 rfl rfl ?_
      refine ww_aload_n C dX10_readToken_59 0 rfl rfl ?_
      refine ww_aload_n C dX10_readToken_60 0 rfl rfl ?_
      refine ww_get C fg_X10_26 0 rfl rfl dX10_readToken_61 ?_
      refine ww_bipush (v := 97) C dX10_readToken_64 rfl ?_
      refine ww_bipush (v := 122) C dX10_readToken_66 rfl ?_
      refine ww_ci (wr := []) (k' := 0) (n' := 0) C (run_V (As := [.int (nI j_2), .int 97, .int 122]) (rest := [.ref qt]) C (t_behind X.2.1 E ro qt j_2 97 122 tb tl (nI j_2) tk (nI j_2) fb 97 122 rfl rfl (by omega) (by omega) (by decide) (by decide)) mi_X10_behind wl_X10_22 rfl 0 10 rfl rfl rfl rfl rfl dX10_readToken_68) (roK hro) [0, 1] [] rfl rfl rfl rfl (fun r_18 uz hw => ?_)
      refine ex1 hw ?_
      clear hw
      intro j_19 hw
      refine an5 hw ?_
      clear hw
      intro he_24 he_25 h_20 h_21 h_22 hw
      have h_23 := hw
      clear hw
      have he_24 := he_24.symm
      subst he_24
      subst he_25
      refine ww_eq (ws' := [(qt, .inr (10, [.ref tb, .int (nI tl), .int (nI j_2), .int tk, .int (nI j_2)])), (tb, .inl (E.2.1 0, 160, .inl fb))]) ?_ rfl rfl rfl
      refine ww_put (ws' := [(qt, .inr (10, [.ref tb, .int (nI tl), .int (nI j_19), .int tk, .int (nI j_2)])), (tb, .inl (E.2.1 0, 160, .inl fb))]) C fp_X10_19 0 rfl rfl rfl rfl rfl dX10_readToken_71 ?_
      refine ww_aload_n C dX10_readToken_74 0 rfl rfl ?_
      refine ww_iconst (v := 1) C dX10_readToken_75 rfl ?_
      refine ww_put (ws' := [(qt, .inr (10, [.ref tb, .int (nI tl), .int (nI j_19), .int 1, .int (nI j_2)])), (tb, .inl (E.2.1 0, 160, .inl fb))]) C fp_X10_29 0 rfl rfl rfl rfl rfl dX10_readToken_76 ?_
      refine ww_goto (tgt := 120) C dX10_readToken_79 (by decide) ?_
      exact ww_vret (u := [(qt, .inr (10, [.ref tb, .int (nI tl), .int (nI j_19), .int 1, .int (nI j_2)])), (tb, .inl (E.2.1 0, 160, .inl fb))]) C hT [0, 1] rfl rfl rfl rfl dX10_readToken_120 (⟨j_19, 1, j_2, rfl, (by first | assumption | omega | decide), (by first | assumption | omega | decide), (by first | assumption | omega | decide), (by omega), (tk_name h_6 ((cz_in (by omega) (by decide) (by decide)).mpr (by rw [ex_10]; exact h_12)) h_23), ⟨_, (tk_name h_6 ((cz_in (by omega) (by decide) (by decide)).mpr (by rw [ex_10]; exact h_12)) h_23)⟩⟩)
    · refine an2 hw ?_
      clear hw
      intro he_16 he_17 hw
      have h_15 := hw
      clear hw
      have he_16 := he_16.symm
      subst he_16
      subst he_17
      refine ww_eq (ws' := [(qt, .inr (10, [.ref tb, .int (nI tl), .int (nI j_2), .int tk, .int (nI j_2)])), (tb, .inl (E.2.1 0, 160, .inl fb))]) ?_ rfl rfl rfl
      refine ww_if_eq_t (tgt := 82) C dX10_readToken_55 (by decide) (rfl) ?_
      refine ww_aload_n C dX10_readToken_82 0 rfl rfl ?_
      refine ww_aload_n C dX10_readToken_83 0 rfl rfl ?_
      refine ww_aload_n C dX10_readToken_84 0 rfl rfl ?_
      refine ww_get C fg_X10_26 0 rfl rfl dX10_readToken_85 ?_
      refine ww_bipush (v := 48) C dX10_readToken_88 rfl ?_
      refine ww_bipush (v := 57) C dX10_readToken_90 rfl ?_
      refine ww_ci (wr := []) (k' := 0) (n' := 0) C (run_V (As := [.int (nI j_2), .int 48, .int 57]) (rest := [.ref qt]) C (t_behind X.2.1 E ro qt j_2 48 57 tb tl (nI j_2) tk (nI j_2) fb 48 57 rfl rfl (by omega) (by omega) (by decide) (by decide)) mi_X10_behind wl_X10_22 rfl 0 10 rfl rfl rfl rfl rfl dX10_readToken_92) (roK hro) [0, 1] [] rfl rfl rfl rfl (fun r_26 uz hw => ?_)
      refine ex1 hw ?_
      clear hw
      intro j_27 hw
      refine an5 hw ?_
      clear hw
      intro he_32 he_33 h_28 h_29 h_30 hw
      have h_31 := hw
      clear hw
      have he_32 := he_32.symm
      subst he_32
      subst he_33
      refine ww_eq (ws' := [(qt, .inr (10, [.ref tb, .int (nI tl), .int (nI j_2), .int tk, .int (nI j_2)])), (tb, .inl (E.2.1 0, 160, .inl fb))]) ?_ rfl rfl rfl
      refine ww_put (ws' := [(qt, .inr (10, [.ref tb, .int (nI tl), .int (nI j_27), .int tk, .int (nI j_2)])), (tb, .inl (E.2.1 0, 160, .inl fb))]) C fp_X10_19 0 rfl rfl rfl rfl rfl dX10_readToken_95 ?_
      refine ww_aload_n C dX10_readToken_98 0 rfl rfl ?_
      refine ww_aload_n C dX10_readToken_99 0 rfl rfl ?_
      refine ww_get C fg_X10_19 0 rfl rfl dX10_readToken_100 ?_
      refine ww_aload_n C dX10_readToken_103 0 rfl rfl ?_
      refine ww_get C fg_X10_26 0 rfl rfl dX10_readToken_104 ?_
      refine ww_isub (v := (nI (j_27 - j_2))) C dX10_readToken_107 (pk_sub (a := j_27) (b := j_2) (by omega)) ?_
      refine ww_iconst (v := 1) C dX10_readToken_108 rfl ?_
      refine ww_icmp_ne (tgt := 116) C dX10_readToken_109 (by decide) (fun c_34 => ?_) (fun c_34 => ?_)
      · have zc_34 : ((j_27 - j_2 : Nat) : Int) ≠ 1 := i_ne (nI_toInt (n := j_27 - j_2) (by omega)) rfl c_34
        refine ww_iconst (v := 3) C dX10_readToken_116 rfl ?_
        refine ww_put (ws' := [(qt, .inr (10, [.ref tb, .int (nI tl), .int (nI j_27), .int 3, .int (nI j_2)])), (tb, .inl (E.2.1 0, 160, .inl fb))]) C fp_X10_29 0 rfl rfl rfl rfl rfl dX10_readToken_117 ?_
        exact ww_vret (u := [(qt, .inr (10, [.ref tb, .int (nI tl), .int (nI j_27), .int 3, .int (nI j_2)])), (tb, .inl (E.2.1 0, 160, .inl fb))]) C hT [0, 1] rfl rfl rfl rfl dX10_readToken_120 (⟨j_27, 3, j_2, rfl, (by first | assumption | omega | decide), (by first | assumption | omega | decide), (by first | assumption | omega | decide), (by omega), (tk_no h_6 (cz_nn (by omega)) (fun h9 => by have h8 := (cz_in (by omega) (by decide) (by decide)).mp h9; rw [ex_10] at h8; omega) h_31 (by omega)), ⟨_, (tk_no h_6 (cz_nn (by omega)) (fun h9 => by have h8 := (cz_in (by omega) (by decide) (by decide)).mp h9; rw [ex_10] at h8; omega) h_31 (by omega))⟩⟩)
      · have zc_34 : ((j_27 - j_2 : Nat) : Int) = 1 := i_eq (nI_toInt (n := j_27 - j_2) (by omega)) rfl c_34
        refine ww_iconst (v := 2) C dX10_readToken_112 rfl ?_
        refine ww_goto (tgt := 117) C dX10_readToken_113 (by decide) ?_
        refine ww_put (ws' := [(qt, .inr (10, [.ref tb, .int (nI tl), .int (nI j_27), .int 2, .int (nI j_2)])), (tb, .inl (E.2.1 0, 160, .inl fb))]) C fp_X10_29 0 rfl rfl rfl rfl rfl dX10_readToken_117 ?_
        exact ww_vret (u := [(qt, .inr (10, [.ref tb, .int (nI tl), .int (nI j_27), .int 2, .int (nI j_2)])), (tb, .inl (E.2.1 0, 160, .inl fb))]) C hT [0, 1] rfl rfl rfl rfl dX10_readToken_120 (⟨j_27, 2, j_2, rfl, (by first | assumption | omega | decide), (by first | assumption | omega | decide), (by first | assumption | omega | decide), (by omega), (tk_num h_6 (cz_nn (by omega)) (fun h9 => by have h8 := (cz_in (by omega) (by decide) (by decide)).mp h9; rw [ex_10] at h8; omega) h_31 (by omega)), ⟨_, (tk_num h_6 (cz_nn (by omega)) (fun h9 => by have h8 := (cz_in (by omega) (by decide) (by decide)).mp h9; rw [ex_10] at h8; omega) h_31 (by omega))⟩⟩)
  · have zc_9 : ((j_2 : Nat) : Int) ≥ ((tl : Nat) : Int) := i_nlt (nI_toInt (n := j_2) (by omega)) (nI_toInt (n := tl) (by omega)) c_9
    refine ww_aload_n C dX10_readToken_35 0 rfl rfl ?_
    refine ww_iconst (v := 0) C dX10_readToken_36 rfl ?_
    refine ww_put (ws' := [(qt, .inr (10, [.ref tb, .int (nI tl), .int (nI j_2), .int 0, .int (nI j_2)])), (tb, .inl (E.2.1 0, 160, .inl fb))]) C fp_X10_29 0 rfl rfl rfl rfl rfl dX10_readToken_37 ?_
    refine ww_goto (tgt := 120) C dX10_readToken_40 (by decide) ?_
    exact ww_vret (u := [(qt, .inr (10, [.ref tb, .int (nI tl), .int (nI j_2), .int 0, .int (nI j_2)])), (tb, .inl (E.2.1 0, 160, .inl fb))]) C hT [0, 1] rfl rfl rfl rfl dX10_readToken_120 (⟨j_2, 0, j_2, rfl, (by first | assumption | omega | decide), (by first | assumption | omega | decide), (by first | assumption | omega | decide), (by omega), (tk_end h_6 (by rw [cz_0 (by omega)]; decide)), ⟨_, (tk_end h_6 (by rw [cz_0 (by omega)]; decide))⟩⟩)
theorem dX10_figure_0 : decode cX10_figure 0 = .ok (.aload_n 0, 1) := dl_42 (by decide +kernel)
theorem dX10_figure_1 : decode cX10_figure 1 = .ok (.getfield 29, 3) := dl_180 (by decide +kernel)
theorem fg_X10_29 : FG RX10 29 10 3 := ⟨RX10, TX10, 5, uw_X10, wf_X10_29, rfl, by decide, rfl⟩
theorem dX10_figure_4 : decode cX10_figure 4 = .ok (.iconst 2, 1) := dl_5 (by decide +kernel)
theorem dX10_figure_5 : decode cX10_figure 5 = .ok (.if_icmp .ne 18, 3) := dl_160 (by decide +kernel)
theorem dX10_figure_23 : decode cX10_figure 23 = .ok (.iconst 0, 1) := dl_3 (by decide +kernel)
theorem dX10_figure_24 : decode cX10_figure 24 = .ok (.ireturn, 1) := dl_172 (by decide +kernel)
theorem dX10_figure_8 : decode cX10_figure 8 = .ok (.aload_n 0, 1) := dl_42 (by decide +kernel)
theorem dX10_figure_9 : decode cX10_figure 9 = .ok (.getfield 9, 3) := dl_180 (by decide +kernel)
theorem dX10_figure_12 : decode cX10_figure 12 = .ok (.aload_n 0, 1) := dl_42 (by decide +kernel)
theorem dX10_figure_13 : decode cX10_figure 13 = .ok (.getfield 26, 3) := dl_180 (by decide +kernel)
theorem dX10_figure_16 : decode cX10_figure 16 = .ok (.baload, 1) := dl_51 (by decide +kernel)
theorem dX10_figure_17 : decode cX10_figure 17 = .ok (.bipush 48, 2) := dl_16 (by decide +kernel)
theorem dX10_figure_19 : decode cX10_figure 19 = .ok (.isub, 1) := dl_100 (by decide +kernel)
theorem dX10_figure_20 : decode cX10_figure 20 = .ok (.goto 4, 3) := dl_167 (by decide +kernel)
set_option maxRecDepth 100000 in
set_option maxHeartbeats 4000000 in
theorem t_figure (l : Launch) (E : EV) (ro : va_W) (qt : Nat) (tb : Nat) (tl : Nat) (ta : Nat) (tk : Nat) (ts : Nat) (fb : Nat → Int32) (hts : ts ≤ ta) (hta : ta ≤ tl) (htl : tl ≤ 160) (htk : tk ≤ 3) (hs9 : ts < 160) (hfg : TX (cz fb tl) ts tk ta) : CT l yX10_figure (Cond.code yX10_figure cX10_figure 1 (some .int) :: TB) ({ frames := 0, cells := 0, slots := 0, locals := 0 }) E ro [.ref qt] [(qt, .inr (10, [.ref tb, .int (nI tl), .int (nI ta), .int (nI tk), .int (nI ts)])), (tb, .inl (E.2.1 0, 160, .inl fb))] (Qi E (fun (rz : Int32) uz => (rz = (fgv tk fb ts) ∧ uz = [(qt, .inr (10, [.ref tb, .int (nI tl), .int (nI ta), .int (nI tk), .int (nI ts)])), (tb, .inl (E.2.1 0, 160, .inl fb))] ∧ (0 ≤ (fgv tk fb ts).toInt) ∧ ((fgv tk fb ts).toInt ≤ 9)))) 0 0 := by
  refine ct_of rfl rfl ?_
  intro X C hT hin hro
  show WW X 1 E 0 [(0, .ref qt)] [] [(qt, .inr (10, [.ref tb, .int (nI tl), .int (nI ta), .int (nI tk), .int (nI ts)])), (tb, .inl (E.2.1 0, 160, .inl fb))] 0 0
  refine ww_aload_n C dX10_figure_0 0 rfl rfl ?_
  refine ww_get C fg_X10_29 0 rfl rfl dX10_figure_1 ?_
  refine ww_iconst (v := 2) C dX10_figure_4 rfl ?_
  refine ww_icmp_ne (tgt := 23) C dX10_figure_5 (by decide) (fun c_1 => ?_) (fun c_1 => ?_)
  · have zc_1 : ((tk : Nat) : Int) ≠ 2 := i_ne (nI_toInt (n := tk) (by omega)) rfl c_1
    refine ww_iconst (v := 0) C dX10_figure_23 rfl ?_
    exact ww_iret (u := [(qt, .inr (10, [.ref tb, .int (nI tl), .int (nI ta), .int (nI tk), .int (nI ts)])), (tb, .inl (E.2.1 0, 160, .inl fb))]) C hT [0, 1] rfl rfl rfl rfl dX10_figure_24 (⟨(by first | exact fgv_0 (by omega) | exact fgv_1 (by omega) (by assumption) (by assumption)), rfl, (fgv_r hfg.fg2).1, (fgv_r hfg.fg2).2⟩)
  · have zc_1 : ((tk : Nat) : Int) = 2 := i_eq (nI_toInt (n := tk) (by omega)) rfl c_1
    refine ww_aload_n C dX10_figure_8 0 rfl rfl ?_
    refine ww_get C fg_X10_9 0 rfl rfl dX10_figure_9 ?_
    refine ww_aload_n C dX10_figure_12 0 rfl rfl ?_
    refine ww_get C fg_X10_26 0 rfl rfl dX10_figure_13 ?_
    obtain ⟨x_2, ex_2⟩ : ∃ z : Int32, fb ts = z := ⟨_, rfl⟩
    refine ww_bald (v := x_2) C 1 rfl (vp_in_nI (by omega) (by omega)) (ldn (by omega) ex_2) dX10_figure_16 ?_
    refine ww_bipush (v := 48) C dX10_figure_17 rfl ?_
    obtain ⟨x_3, ex_3⟩ : ∃ z : Int32, x_2 - (48 : Int32) = z := ⟨_, rfl⟩
    refine ww_isub (v := x_3) C dX10_figure_19 ex_3 ?_
    refine ww_goto (tgt := 24) C dX10_figure_20 (by decide) ?_
    exact ww_iret (u := [(qt, .inr (10, [.ref tb, .int (nI tl), .int (nI ta), .int (nI tk), .int (nI ts)])), (tb, .inl (E.2.1 0, 160, .inl fb))]) C hT [0, 1] rfl rfl rfl rfl dX10_figure_24 (⟨(by first | exact fgv_0 (by omega) | exact fgv_1 (by omega) (by assumption) (by assumption)), rfl, (fgv_r hfg.fg2).1, (fgv_r hfg.fg2).2⟩)
theorem dX10_isName_0 : decode cX10_isName 0 = .ok (.aload_n 0, 1) := dl_42 (by decide +kernel)
theorem dX10_isName_1 : decode cX10_isName 1 = .ok (.getfield 29, 3) := dl_180 (by decide +kernel)
theorem dX10_isName_4 : decode cX10_isName 4 = .ok (.iconst 1, 1) := dl_4 (by decide +kernel)
theorem dX10_isName_5 : decode cX10_isName 5 = .ok (.if_icmp .ne 19, 3) := dl_160 (by decide +kernel)
theorem dX10_isName_24 : decode cX10_isName 24 = .ok (.iconst 0, 1) := dl_3 (by decide +kernel)
theorem dX10_isName_25 : decode cX10_isName 25 = .ok (.ireturn, 1) := dl_172 (by decide +kernel)
theorem dX10_isName_8 : decode cX10_isName 8 = .ok (.aload_n 0, 1) := dl_42 (by decide +kernel)
theorem dX10_isName_9 : decode cX10_isName 9 = .ok (.getfield 19, 3) := dl_180 (by decide +kernel)
theorem dX10_isName_12 : decode cX10_isName 12 = .ok (.aload_n 0, 1) := dl_42 (by decide +kernel)
theorem dX10_isName_13 : decode cX10_isName 13 = .ok (.getfield 26, 3) := dl_180 (by decide +kernel)
theorem dX10_isName_16 : decode cX10_isName 16 = .ok (.isub, 1) := dl_100 (by decide +kernel)
theorem dX10_isName_17 : decode cX10_isName 17 = .ok (.aload_n 1, 1) := dl_43 (by decide +kernel)
theorem dX10_isName_18 : decode cX10_isName 18 = .ok (.invokevirtual 36, 3) := dl_182 (by decide +kernel)
theorem wl_X10_36 : Cond.methodLink RX10 36 yJ0_length_8abf5 ∈ TB := tbm (tq3 (List.mem_of_getElem? (i := 42) (by decide +kernel))) (by decide +kernel)
theorem wc_J0_length_8abf5 : Cond.code yJ0_length_8abf5 cJ0_length_8abf5 1 (some .int) ∈ TB := tbm (tq3 (List.mem_of_getElem? (i := 45) (rfl))) (by decide +kernel)
theorem wi_J0_length_8abf5 : Cond.instanceMethod yJ0_length_8abf5 ∈ TB := tbm (tq3 (List.mem_of_getElem? (i := 43) (by decide +kernel))) (by decide +kernel)
theorem ws_J0_length_8abf5 : Cond.selects RJ0 yJ0_length_8abf5 yJ0_length_8abf5 ∈ TB := tbm (tq3 (List.mem_of_getElem? (i := 44) (by decide +kernel))) (by decide +kernel)
theorem mi_J0_length_8abf5 : MI yJ0_length_8abf5 cJ0_length_8abf5 1 (some .int) 0 := ⟨wc_J0_length_8abf5, wn_J0, ⟨by decide +kernel, by decide +kernel, by decide +kernel⟩, wi_J0_length_8abf5, ws_J0_length_8abf5⟩
theorem dX10_isName_21 : decode cX10_isName 21 = .ok (.if_icmp .eq 5, 3) := dl_159 (by decide +kernel)
theorem dX10_isName_26 : decode cX10_isName 26 = .ok (.iconst 0, 1) := dl_3 (by decide +kernel)
theorem dX10_isName_27 : decode cX10_isName 27 = .ok (.istore_n 2, 1) := dl_61 (by decide +kernel)
theorem dX10_isName_28 : decode cX10_isName 28 = .ok (.iload_n 2, 1) := dl_28 (by decide +kernel)
theorem dX10_isName_29 : decode cX10_isName 29 = .ok (.aload_n 1, 1) := dl_43 (by decide +kernel)
theorem dX10_isName_30 : decode cX10_isName 30 = .ok (.invokevirtual 36, 3) := dl_182 (by decide +kernel)
theorem dX10_isName_33 : decode cX10_isName 33 = .ok (.if_icmp .ge 30, 3) := dl_162 (by decide +kernel)
theorem dX10_isName_63 : decode cX10_isName 63 = .ok (.iconst 1, 1) := dl_4 (by decide +kernel)
theorem dX10_isName_64 : decode cX10_isName 64 = .ok (.ireturn, 1) := dl_172 (by decide +kernel)
theorem dX10_isName_36 : decode cX10_isName 36 = .ok (.aload_n 0, 1) := dl_42 (by decide +kernel)
theorem dX10_isName_37 : decode cX10_isName 37 = .ok (.getfield 9, 3) := dl_180 (by decide +kernel)
theorem dX10_isName_40 : decode cX10_isName 40 = .ok (.aload_n 0, 1) := dl_42 (by decide +kernel)
theorem dX10_isName_41 : decode cX10_isName 41 = .ok (.getfield 26, 3) := dl_180 (by decide +kernel)
theorem dX10_isName_44 : decode cX10_isName 44 = .ok (.iload_n 2, 1) := dl_28 (by decide +kernel)
theorem dX10_isName_45 : decode cX10_isName 45 = .ok (.iadd, 1) := dl_96 (by decide +kernel)
theorem dX10_isName_46 : decode cX10_isName 46 = .ok (.baload, 1) := dl_51 (by decide +kernel)
theorem dX10_isName_47 : decode cX10_isName 47 = .ok (.aload_n 1, 1) := dl_43 (by decide +kernel)
theorem dX10_isName_48 : decode cX10_isName 48 = .ok (.iload_n 2, 1) := dl_28 (by decide +kernel)
theorem dX10_isName_49 : decode cX10_isName 49 = .ok (.invokevirtual 41, 3) := dl_182 (by decide +kernel)
theorem wl_X10_41 : Cond.methodLink RX10 41 yJ0_charAt_5068e ∈ TB := tbm (tq3 (List.mem_of_getElem? (i := 52) (by decide +kernel))) (by decide +kernel)
theorem wc_J0_charAt_5068e : Cond.code yJ0_charAt_5068e cJ0_charAt_5068e 2 (some .char) ∈ TB := tbm (tq3 (List.mem_of_getElem? (i := 55) (rfl))) (by decide +kernel)
theorem wi_J0_charAt_5068e : Cond.instanceMethod yJ0_charAt_5068e ∈ TB := tbm (tq3 (List.mem_of_getElem? (i := 53) (by decide +kernel))) (by decide +kernel)
theorem ws_J0_charAt_5068e : Cond.selects RJ0 yJ0_charAt_5068e yJ0_charAt_5068e ∈ TB := tbm (tq3 (List.mem_of_getElem? (i := 54) (by decide +kernel))) (by decide +kernel)
theorem mi_J0_charAt_5068e : MI yJ0_charAt_5068e cJ0_charAt_5068e 2 (some .char) 1 := ⟨wc_J0_charAt_5068e, wn_J0, ⟨by decide +kernel, by decide +kernel, by decide +kernel⟩, wi_J0_charAt_5068e, ws_J0_charAt_5068e⟩
theorem dX10_isName_52 : decode cX10_isName 52 = .ok (.if_icmp .eq 5, 3) := dl_159 (by decide +kernel)
theorem dX10_isName_57 : decode cX10_isName 57 = .ok (.iinc 2 1, 3) := dl_132 (by decide +kernel)
theorem dX10_isName_60 : decode cX10_isName 60 = .ok (.goto (-32), 3) := dl_167 (by decide +kernel)
theorem dX10_isName_55 : decode cX10_isName 55 = .ok (.iconst 0, 1) := dl_3 (by decide +kernel)
theorem dX10_isName_56 : decode cX10_isName 56 = .ok (.ireturn, 1) := dl_172 (by decide +kernel)
set_option maxRecDepth 100000 in
set_option maxHeartbeats 4000000 in
theorem t_isName (l : Launch) (E : EV) (ro : va_W) (qt : Nat) (tb : Nat) (tl : Nat) (ta : Nat) (tk : Nat) (ts : Nat) (fb : Nat → Int32) (i : Nat) (hsi : i < sLen.length) (hts : ts ≤ ta) (hta : ta ≤ tl) (htl : tl ≤ 160) (htk : tk ≤ 3) : CT l yX10_isName (Cond.code yX10_isName cX10_isName 3 (some .boolean) :: TB) ({ frames := 4, cells := 0, slots := 0, locals := 85 }) E ro [.ref qt, .ref (E.2.2 (sIdx.getD i 0))] [(qt, .inr (10, [.ref tb, .int (nI tl), .int (nI ta), .int (nI tk), .int (nI ts)])), (tb, .inl (E.2.1 0, 160, .inl fb))] (Qi E (fun (rz : Int32) uz => (rz = 1 ∧ uz = [(qt, .inr (10, [.ref tb, .int (nI tl), .int (nI ta), .int (nI tk), .int (nI ts)])), (tb, .inl (E.2.1 0, 160, .inl fb))] ∧ (IN (cz fb tl) ts tk ta (sgL.getD i 0))) ∨ (rz = 0 ∧ uz = [(qt, .inr (10, [.ref tb, .int (nI tl), .int (nI ta), .int (nI tk), .int (nI ts)])), (tb, .inl (E.2.1 0, 160, .inl fb))] ∧ (¬ IN (cz fb tl) ts tk ta (sgL.getD i 0))))) 0 0 := by
  refine ct_of rfl rfl ?_
  intro X C hT hin hro
  show WW X 3 E 0 [(0, .ref qt), (1, .ref (E.2.2 (sIdx.getD i 0)))] [] [(qt, .inr (10, [.ref tb, .int (nI tl), .int (nI ta), .int (nI tk), .int (nI ts)])), (tb, .inl (E.2.1 0, 160, .inl fb))] 0 0
  have hsl := sl_le i
  refine ww_aload_n C dX10_isName_0 0 rfl rfl ?_
  refine ww_get C fg_X10_29 0 rfl rfl dX10_isName_1 ?_
  refine ww_iconst (v := 1) C dX10_isName_4 rfl ?_
  refine ww_icmp_ne (tgt := 24) C dX10_isName_5 (by decide) (fun c_1 => ?_) (fun c_1 => ?_)
  · have zc_1 : ((tk : Nat) : Int) ≠ 1 := i_ne (nI_toInt (n := tk) (by omega)) rfl c_1
    refine ww_iconst (v := 0) C dX10_isName_24 rfl ?_
    exact ww_zret (u := [(qt, .inr (10, [.ref tb, .int (nI tl), .int (nI ta), .int (nI tk), .int (nI ts)])), (tb, .inl (E.2.1 0, 160, .inl fb))]) C hT [0, 1] rfl rfl rfl rfl rfl dX10_isName_25 (Or.inr ⟨rfl, rfl, (fun h9 => by have h8 := h9.1; have h7 := h9.2.1; have h6 := (str_w i hsi).1; omega)⟩)
  · have zc_1 : ((tk : Nat) : Int) = 1 := i_eq (nI_toInt (n := tk) (by omega)) rfl c_1
    refine ww_aload_n C dX10_isName_8 0 rfl rfl ?_
    refine ww_get C fg_X10_19 0 rfl rfl dX10_isName_9 ?_
    refine ww_aload_n C dX10_isName_12 0 rfl rfl ?_
    refine ww_get C fg_X10_26 0 rfl rfl dX10_isName_13 ?_
    refine ww_isub (v := (nI (ta - ts))) C dX10_isName_16 (pk_sub (a := ta) (b := ts) (by omega)) ?_
    refine ww_aload_n C dX10_isName_17 1 rfl rfl ?_
    refine ww_ci (wr := [(qt, .inr (10, [.ref tb, .int (nI tl), .int (nI ta), .int (nI tk), .int (nI ts)])), (tb, .inl (E.2.1 0, 160, .inl fb))]) (k' := 0) (n' := 0) C (run_VS (As := []) (rest := [.int (nI (ta - ts))]) C i hsi (j_length X.2.1 E ro i hsi) mi_J0_length_8abf5 wl_X10_36 rfl rfl rfl rfl rfl dX10_isName_18) (roK hro) [] [0, 1] rfl rfl rfl rfl (fun r_2 uz hw => ?_)
    refine an1 hw ?_
    clear hw
    intro he_3 hw
    have he_4 := hw
    clear hw
    have he_3 := he_3.symm
    subst he_3
    subst he_4
    refine ww_eq (ws' := [(qt, .inr (10, [.ref tb, .int (nI tl), .int (nI ta), .int (nI tk), .int (nI ts)])), (tb, .inl (E.2.1 0, 160, .inl fb))]) ?_ rfl rfl rfl
    refine ww_icmp_eq (tgt := 26) C dX10_isName_21 (by decide) (fun c_5 => ?_) (fun c_5 => ?_)
    · have zc_5 : ((ta - ts : Nat) : Int) = ((sLen.getD i 0 : Nat) : Int) := i_eq (nI_toInt (n := ta - ts) (by omega)) (nI_toInt (n := sLen.getD i 0) (by omega)) c_5
      refine ww_iconst (v := 0) C dX10_isName_26 rfl ?_
      refine ww_istore_n (lv' := [(2, .int 0), (0, .ref qt), (1, .ref (E.2.2 (sIdx.getD i 0)))]) C dX10_isName_27 rfl rfl rfl ?_
      have loop_28 : ∀ (fu : Nat) (i1 : Nat), (i1 ≤ sLen.getD i 0) → (∀ j, j < i1 → cz fb tl (ts + j) = wdB (sgL.getD i 0) j) → sLen.getD i 0 - i1 < fu → WW X 3 E 28 [(2, .int (nI i1)), (0, .ref qt), (1, .ref (E.2.2 (sIdx.getD i 0)))] [] [(qt, .inr (10, [.ref tb, .int (nI tl), .int (nI ta), .int (nI tk), .int (nI ts)])), (tb, .inl (E.2.1 0, 160, .inl fb))] 0 0 := by
        intro fu
        induction fu with
        | zero => intro i1 hi1 hm hmeas; exact absurd hmeas (Nat.not_lt_zero _)
        | succ fu ih_28 =>
          intro i1 hi1 hm hmeas
          refine ww_iload_n C dX10_isName_28 0 rfl rfl ?_
          refine ww_aload_n C dX10_isName_29 2 rfl rfl ?_
          refine ww_ci (wr := [(qt, .inr (10, [.ref tb, .int (nI tl), .int (nI ta), .int (nI tk), .int (nI ts)])), (tb, .inl (E.2.1 0, 160, .inl fb))]) (k' := 0) (n' := 0) C (run_VS (As := []) (rest := [.int (nI i1)]) C i hsi (j_length X.2.1 E ro i hsi) mi_J0_length_8abf5 wl_X10_36 rfl rfl rfl rfl rfl dX10_isName_30) (roK hro) [] [0, 1] rfl rfl rfl rfl (fun r_6 uz hw => ?_)
          refine an1 hw ?_
          clear hw
          intro he_7 hw
          have he_8 := hw
          clear hw
          have he_7 := he_7.symm
          subst he_7
          subst he_8
          refine ww_eq (ws' := [(qt, .inr (10, [.ref tb, .int (nI tl), .int (nI ta), .int (nI tk), .int (nI ts)])), (tb, .inl (E.2.1 0, 160, .inl fb))]) ?_ rfl rfl rfl
          refine ww_icmp_ge (tgt := 63) C dX10_isName_33 (by decide) (fun c_9 => ?_) (fun c_9 => ?_)
          · have zc_9 : ((i1 : Nat) : Int) ≥ ((sLen.getD i 0 : Nat) : Int) := i_le (nI_toInt (n := sLen.getD i 0) (by omega)) (nI_toInt (n := i1) (by omega)) c_9
            refine ww_iconst (v := 1) C dX10_isName_63 rfl ?_
            exact ww_zret (u := [(qt, .inr (10, [.ref tb, .int (nI tl), .int (nI ta), .int (nI tk), .int (nI ts)])), (tb, .inl (E.2.1 0, 160, .inl fb))]) C hT [0, 1] rfl rfl rfl rfl rfl dX10_isName_64 (Or.inl ⟨rfl, rfl, ⟨by omega, (by have h6 := (str_w i hsi).1; omega), (fun j hj => hm j (by have h6 := (str_w i hsi).1; omega))⟩⟩)
          · have zc_9 : ((i1 : Nat) : Int) < ((sLen.getD i 0 : Nat) : Int) := i_nle (nI_toInt (n := sLen.getD i 0) (by omega)) (nI_toInt (n := i1) (by omega)) c_9
            refine ww_aload_n C dX10_isName_36 1 rfl rfl ?_
            refine ww_get C fg_X10_9 0 rfl rfl dX10_isName_37 ?_
            refine ww_aload_n C dX10_isName_40 1 rfl rfl ?_
            refine ww_get C fg_X10_26 0 rfl rfl dX10_isName_41 ?_
            refine ww_iload_n C dX10_isName_44 0 rfl rfl ?_
            refine ww_iadd (v := (nI (ts + i1))) C dX10_isName_45 (nI_add ts i1) ?_
            obtain ⟨x_10, ex_10⟩ : ∃ z : Int32, fb (ts + i1) = z := ⟨_, rfl⟩
            refine ww_bald (v := x_10) C 1 rfl (vp_in_nI (by omega) (by omega)) (ldn (by omega) ex_10) dX10_isName_46 ?_
            refine ww_aload_n C dX10_isName_47 2 rfl rfl ?_
            refine ww_iload_n C dX10_isName_48 0 rfl rfl ?_
            refine ww_ci (wr := [(qt, .inr (10, [.ref tb, .int (nI tl), .int (nI ta), .int (nI tk), .int (nI ts)])), (tb, .inl (E.2.1 0, 160, .inl fb))]) (k' := 0) (n' := 0) C (run_VS (As := [.int (nI i1)]) (rest := [.int x_10]) C i hsi (j_chr0 X.2.1 E ro i1 i hsi (by omega)) mi_J0_charAt_5068e wl_X10_41 rfl rfl rfl rfl rfl dX10_isName_49) (roK hro) [] [0, 1] rfl rfl rfl rfl (fun r_11 uz hw => ?_)
            refine an1 hw ?_
            clear hw
            intro he_12 hw
            have he_13 := hw
            clear hw
            have he_12 := he_12.symm
            subst he_12
            subst he_13
            refine ww_eq (ws' := [(qt, .inr (10, [.ref tb, .int (nI tl), .int (nI ta), .int (nI tk), .int (nI ts)])), (tb, .inl (E.2.1 0, 160, .inl fb))]) ?_ rfl rfl rfl
            refine ww_icmp_eq (tgt := 57) C dX10_isName_52 (by decide) (fun c_14 => ?_) (fun c_14 => ?_)
            · have zc_14 : x_10.toInt = ((sByt.getD i []).getD i1 0).toInt := i_eq rfl rfl c_14
              refine ww_iinc (j := 0) (v := (nI (i1 + 1))) (lv' := [(2, .int (nI (i1 + 1))), (0, .ref qt), (1, .ref (E.2.2 (sIdx.getD i 0)))]) C dX10_isName_57 rfl (nI_add i1 1) rfl rfl ?_
              refine ww_goto (tgt := 28) C dX10_isName_60 (by decide) ?_
              exact ww_lv [0, 1, 2] rfl (ww_sub [0, 1] rfl rfl (ih_28 (i1 + 1) (by omega) (in_ext hsi hm (by omega) (by omega) ex_10 (by assumption)) (by omega)))
            · have zc_14 : x_10.toInt ≠ ((sByt.getD i []).getD i1 0).toInt := i_ne rfl rfl c_14
              refine ww_iconst (v := 0) C dX10_isName_55 rfl ?_
              exact ww_zret (u := [(qt, .inr (10, [.ref tb, .int (nI tl), .int (nI ta), .int (nI tk), .int (nI ts)])), (tb, .inl (E.2.1 0, 160, .inl fb))]) C hT [0, 1] rfl rfl rfl rfl rfl dX10_isName_56 (Or.inr ⟨rfl, rfl, (in_no hsi (by omega) (by omega) ex_10 (by assumption))⟩)
      exact ww_lv [0, 1, 2] rfl (ww_sub [0, 1] rfl rfl (loop_28 _ 0 (by omega) (fun j hj => absurd hj (by omega)) (Nat.lt_succ_self _)))
    · have zc_5 : ((ta - ts : Nat) : Int) ≠ ((sLen.getD i 0 : Nat) : Int) := i_ne (nI_toInt (n := ta - ts) (by omega)) (nI_toInt (n := sLen.getD i 0) (by omega)) c_5
      refine ww_iconst (v := 0) C dX10_isName_24 rfl ?_
      exact ww_zret (u := [(qt, .inr (10, [.ref tb, .int (nI tl), .int (nI ta), .int (nI tk), .int (nI ts)])), (tb, .inl (E.2.1 0, 160, .inl fb))]) C hT [0, 1] rfl rfl rfl rfl rfl dX10_isName_25 (Or.inr ⟨rfl, rfl, (fun h9 => by have h8 := h9.1; have h7 := h9.2.1; have h6 := (str_w i hsi).1; omega)⟩)
theorem dX10_group_0 : decode cX10_group 0 = .ok (.iconst 0, 1) := dl_3 (by decide +kernel)
theorem dX10_group_1 : decode cX10_group 1 = .ok (.istore_n 1, 1) := dl_60 (by decide +kernel)
theorem dX10_group_2 : decode cX10_group 2 = .ok (.aload_n 0, 1) := dl_42 (by decide +kernel)
theorem dX10_group_3 : decode cX10_group 3 = .ok (.getfield 26, 3) := dl_180 (by decide +kernel)
theorem dX10_group_6 : decode cX10_group 6 = .ok (.istore_n 2, 1) := dl_61 (by decide +kernel)
theorem dX10_group_7 : decode cX10_group 7 = .ok (.aload_n 0, 1) := dl_42 (by decide +kernel)
theorem dX10_group_8 : decode cX10_group 8 = .ok (.getfield 29, 3) := dl_180 (by decide +kernel)
theorem dX10_group_11 : decode cX10_group 11 = .ok (.iconst 1, 1) := dl_4 (by decide +kernel)
theorem dX10_group_12 : decode cX10_group 12 = .ok (.if_icmp .ne 48, 3) := dl_160 (by decide +kernel)
theorem dX10_group_60 : decode cX10_group 60 = .ok (.iload_n 1, 1) := dl_27 (by decide +kernel)
theorem dX10_group_61 : decode cX10_group 61 = .ok (.ireturn, 1) := dl_172 (by decide +kernel)
theorem dX10_group_15 : decode cX10_group 15 = .ok (.iload_n 2, 1) := dl_28 (by decide +kernel)
theorem dX10_group_16 : decode cX10_group 16 = .ok (.aload_n 0, 1) := dl_42 (by decide +kernel)
theorem dX10_group_17 : decode cX10_group 17 = .ok (.getfield 19, 3) := dl_180 (by decide +kernel)
theorem dX10_group_20 : decode cX10_group 20 = .ok (.if_icmp .ge 40, 3) := dl_162 (by decide +kernel)
theorem dX10_group_23 : decode cX10_group 23 = .ok (.aload_n 0, 1) := dl_42 (by decide +kernel)
theorem dX10_group_24 : decode cX10_group 24 = .ok (.getfield 9, 3) := dl_180 (by decide +kernel)
theorem dX10_group_27 : decode cX10_group 27 = .ok (.iload_n 2, 1) := dl_28 (by decide +kernel)
theorem dX10_group_28 : decode cX10_group 28 = .ok (.baload, 1) := dl_51 (by decide +kernel)
theorem dX10_group_29 : decode cX10_group 29 = .ok (.bipush 97, 2) := dl_16 (by decide +kernel)
theorem dX10_group_31 : decode cX10_group 31 = .ok (.isub, 1) := dl_100 (by decide +kernel)
theorem dX10_group_32 : decode cX10_group 32 = .ok (.istore_n 3, 1) := dl_62 (by decide +kernel)
theorem dX10_group_33 : decode cX10_group 33 = .ok (.iload_n 3, 1) := dl_29 (by decide +kernel)
theorem dX10_group_34 : decode cX10_group 34 = .ok (.iconst 4, 1) := dl_7 (by decide +kernel)
theorem dX10_group_35 : decode cX10_group 35 = .ok (.if_icmp .ge 11, 3) := dl_162 (by decide +kernel)
theorem dX10_group_46 : decode cX10_group 46 = .ok (.iconst 0, 1) := dl_3 (by decide +kernel)
theorem dX10_group_47 : decode cX10_group 47 = .ok (.ireturn, 1) := dl_172 (by decide +kernel)
theorem dX10_group_38 : decode cX10_group 38 = .ok (.iload_n 1, 1) := dl_27 (by decide +kernel)
theorem dX10_group_39 : decode cX10_group 39 = .ok (.iload_n 3, 1) := dl_29 (by decide +kernel)
theorem dX10_group_40 : decode cX10_group 40 = .ok (.invokestatic 45, 3) := dl_184 (by decide +kernel)
theorem dX10_group_43 : decode cX10_group 43 = .ok (.ifCond .eq 5, 3) := dl_153 (by decide +kernel)
theorem dX10_group_48 : decode cX10_group 48 = .ok (.iload_n 1, 1) := dl_27 (by decide +kernel)
theorem dX10_group_49 : decode cX10_group 49 = .ok (.iconst 1, 1) := dl_4 (by decide +kernel)
theorem dX10_group_50 : decode cX10_group 50 = .ok (.iload_n 3, 1) := dl_29 (by decide +kernel)
theorem dX10_group_51 : decode cX10_group 51 = .ok (.ishl, 1) := dl_120 (by decide +kernel)
theorem dX10_group_52 : decode cX10_group 52 = .ok (.ior, 1) := dl_128 (by decide +kernel)
theorem dX10_group_53 : decode cX10_group 53 = .ok (.istore_n 1, 1) := dl_60 (by decide +kernel)
theorem dX10_group_54 : decode cX10_group 54 = .ok (.iinc 2 1, 3) := dl_132 (by decide +kernel)
theorem dX10_group_57 : decode cX10_group 57 = .ok (.goto (-50), 3) := dl_167 (by decide +kernel)
set_option maxRecDepth 100000 in
set_option maxHeartbeats 4000000 in
theorem t_group (l : Launch) (E : EV) (ro : va_W) (qt : Nat) (tb : Nat) (tl : Nat) (ta : Nat) (tk : Nat) (ts : Nat) (fb : Nat → Int32) (hts : ts ≤ ta) (hta : ta ≤ tl) (htl : tl ≤ 160) (htk : tk ≤ 3) (hfg : TX (cz fb tl) ts tk ta) : CT l yX10_group (Cond.code yX10_group cX10_group 4 (some .int) :: TB) ({ frames := 1, cells := 0, slots := 0, locals := 21 }) E ro [.ref qt] [(qt, .inr (10, [.ref tb, .int (nI tl), .int (nI ta), .int (nI tk), .int (nI ts)])), (tb, .inl (E.2.1 0, 160, .inl fb))] (Qi E (fun (rz : Int32) uz => (rz = (nI (gT (cz fb tl) ts tk ta)) ∧ uz = [(qt, .inr (10, [.ref tb, .int (nI tl), .int (nI ta), .int (nI tk), .int (nI ts)])), (tb, .inl (E.2.1 0, 160, .inl fb))] ∧ (gT (cz fb tl) ts tk ta < 16)))) 0 0 := by
  refine ct_of rfl rfl ?_
  intro X C hT hin hro
  show WW X 4 E 0 [(0, .ref qt)] [] [(qt, .inr (10, [.ref tb, .int (nI tl), .int (nI ta), .int (nI tk), .int (nI ts)])), (tb, .inl (E.2.1 0, 160, .inl fb))] 0 0
  refine ww_iconst (v := 0) C dX10_group_0 rfl ?_
  refine ww_istore_n (lv' := [(1, .int 0), (0, .ref qt)]) C dX10_group_1 rfl rfl rfl ?_
  refine ww_aload_n C dX10_group_2 1 rfl rfl ?_
  refine ww_get C fg_X10_26 0 rfl rfl dX10_group_3 ?_
  refine ww_istore_n (lv' := [(2, .int (nI ts)), (1, .int 0), (0, .ref qt)]) C dX10_group_6 rfl rfl rfl ?_
  have loop_7 : ∀ (fu : Nat) (i1 : Nat) (a1 : Nat), (ts ≤ i1) → (i1 ≤ ta) → (a1 < 16) → (tk = 1 → gr (cz fb tl) (ta - i1) i1 a1 = gT (cz fb tl) ts tk ta) → (tk ≠ 1 → a1 = 0) → ta - i1 < fu → WW X 4 E 7 [(2, .int (nI i1)), (1, .int (nI a1)), (0, .ref qt)] [] [(qt, .inr (10, [.ref tb, .int (nI tl), .int (nI ta), .int (nI tk), .int (nI ts)])), (tb, .inl (E.2.1 0, 160, .inl fb))] 0 0 := by
    intro fu
    induction fu with
    | zero => intro i1 a1 hi1 hi2 ha hg h0 hmeas; exact absurd hmeas (Nat.not_lt_zero _)
    | succ fu ih_7 =>
      intro i1 a1 hi1 hi2 ha hg h0 hmeas
      refine ww_aload_n C dX10_group_7 2 rfl rfl ?_
      refine ww_get C fg_X10_29 0 rfl rfl dX10_group_8 ?_
      refine ww_iconst (v := 1) C dX10_group_11 rfl ?_
      refine ww_icmp_ne (tgt := 60) C dX10_group_12 (by decide) (fun c_1 => ?_) (fun c_1 => ?_)
      · have zc_1 : ((tk : Nat) : Int) ≠ 1 := i_ne (nI_toInt (n := tk) (by omega)) rfl c_1
        refine ww_iload_n C dX10_group_60 1 rfl rfl ?_
        exact ww_iret (u := [(qt, .inr (10, [.ref tb, .int (nI tl), .int (nI ta), .int (nI tk), .int (nI ts)])), (tb, .inl (E.2.1 0, 160, .inl fb))]) C hT [0, 1] rfl rfl rfl rfl dX10_group_61 (⟨(by first | (rw [gT_0 (by omega), h0 (by omega)]; done) | (rw [← hg (by omega), gr_end (by omega)]; done)), rfl, (gT_lt _ _ _ _)⟩)
      · have zc_1 : ((tk : Nat) : Int) = 1 := i_eq (nI_toInt (n := tk) (by omega)) rfl c_1
        refine ww_iload_n C dX10_group_15 0 rfl rfl ?_
        refine ww_aload_n C dX10_group_16 2 rfl rfl ?_
        refine ww_get C fg_X10_19 0 rfl rfl dX10_group_17 ?_
        refine ww_icmp_ge (tgt := 60) C dX10_group_20 (by decide) (fun c_2 => ?_) (fun c_2 => ?_)
        · have zc_2 : ((i1 : Nat) : Int) ≥ ((ta : Nat) : Int) := i_le (nI_toInt (n := ta) (by omega)) (nI_toInt (n := i1) (by omega)) c_2
          refine ww_iload_n C dX10_group_60 1 rfl rfl ?_
          exact ww_iret (u := [(qt, .inr (10, [.ref tb, .int (nI tl), .int (nI ta), .int (nI tk), .int (nI ts)])), (tb, .inl (E.2.1 0, 160, .inl fb))]) C hT [0, 1] rfl rfl rfl rfl dX10_group_61 (⟨(by first | (rw [gT_0 (by omega), h0 (by omega)]; done) | (rw [← hg (by omega), gr_end (by omega)]; done)), rfl, (gT_lt _ _ _ _)⟩)
        · have zc_2 : ((i1 : Nat) : Int) < ((ta : Nat) : Int) := i_nle (nI_toInt (n := ta) (by omega)) (nI_toInt (n := i1) (by omega)) c_2
          refine ww_aload_n C dX10_group_23 2 rfl rfl ?_
          refine ww_get C fg_X10_9 0 rfl rfl dX10_group_24 ?_
          refine ww_iload_n C dX10_group_27 0 rfl rfl ?_
          obtain ⟨x_3, ex_3⟩ : ∃ z : Int32, fb i1 = z := ⟨_, rfl⟩
          refine ww_bald (v := x_3) C 1 rfl (vp_in_nI (by omega) (by omega)) (ldn (by omega) ex_3) dX10_group_28 ?_
          refine ww_bipush (v := 97) C dX10_group_29 rfl ?_
          have hcl := TX.cl hfg (by omega) (by omega) (show i1 < ta by omega) ex_3
          obtain ⟨j_4, ej_4, hj_4, hzj_4⟩ := letk (x := x_3) hcl.1 hcl.2.1
          refine ww_isub (v := (nI j_4)) C dX10_group_31 ej_4 ?_
          refine ww_istore_n (lv' := [(3, .int (nI j_4)), (2, .int (nI i1)), (1, .int (nI a1)), (0, .ref qt)]) C dX10_group_32 rfl rfl rfl ?_
          refine ww_iload_n C dX10_group_33 0 rfl rfl ?_
          refine ww_iconst (v := 4) C dX10_group_34 rfl ?_
          refine ww_icmp_ge (tgt := 46) C dX10_group_35 (by decide) (fun c_5 => ?_) (fun c_5 => ?_)
          · have zc_5 : ((j_4 : Nat) : Int) ≥ 4 := i_le rfl (nI_toInt (n := j_4) (by omega)) c_5
            refine ww_iconst (v := 0) C dX10_group_46 rfl ?_
            exact ww_iret (u := [(qt, .inr (10, [.ref tb, .int (nI tl), .int (nI ta), .int (nI tk), .int (nI ts)])), (tb, .inl (E.2.1 0, 160, .inl fb))]) C hT [0, 1] rfl rfl rfl rfl dX10_group_47 (⟨(by rw [← hg (by omega), gr_bad (j := j_4) (by omega) (by omega) (by first | (left; omega) | (right; exact tb_t ha (by assumption)))]; rfl), rfl, (gT_lt _ _ _ _)⟩)
          · have zc_5 : ((j_4 : Nat) : Int) < 4 := i_nle rfl (nI_toInt (n := j_4) (by omega)) c_5
            refine ww_iload_n C dX10_group_38 2 rfl rfl ?_
            refine ww_iload_n C dX10_group_39 0 rfl rfl ?_
            refine ww_ci (wr := [(qt, .inr (10, [.ref tb, .int (nI tl), .int (nI ta), .int (nI tk), .int (nI ts)])), (tb, .inl (E.2.1 0, 160, .inl fb))]) (k' := 0) (n' := 0) C (run_SN (As := [.int (nI a1), .int (nI j_4)]) (rest := []) C (c_hasN X.2.1 E ro (nI a1) j_4 (by omega)) ms_X11_has (List.mem_of_getElem? (i := 13) rfl) rfl rfl rfl rfl dX10_group_40) (roK hro) [] [0, 1] rfl rfl rfl rfl (fun r_6 uz hw => ?_)
            rcases hw with hw | hw
            · refine an2 hw ?_
              clear hw
              intro he_8 he_9 hw
              have h_7 := hw
              clear hw
              have he_8 := he_8.symm
              subst he_8
              subst he_9
              refine ww_eq (ws' := [(qt, .inr (10, [.ref tb, .int (nI tl), .int (nI ta), .int (nI tk), .int (nI ts)])), (tb, .inl (E.2.1 0, 160, .inl fb))]) ?_ rfl rfl rfl
              refine ww_if_eq_f (tgt := 48) C dX10_group_43 (by decide) (by decide) ?_
              refine ww_iconst (v := 0) C dX10_group_46 rfl ?_
              exact ww_iret (u := [(qt, .inr (10, [.ref tb, .int (nI tl), .int (nI ta), .int (nI tk), .int (nI ts)])), (tb, .inl (E.2.1 0, 160, .inl fb))]) C hT [0, 1] rfl rfl rfl rfl dX10_group_47 (⟨(by rw [← hg (by omega), gr_bad (j := j_4) (by omega) (by omega) (by first | (left; omega) | (right; exact tb_t ha (by assumption)))]; rfl), rfl, (gT_lt _ _ _ _)⟩)
            · refine an2 hw ?_
              clear hw
              intro he_11 he_12 hw
              have h_10 := hw
              clear hw
              have he_11 := he_11.symm
              subst he_11
              subst he_12
              refine ww_eq (ws' := [(qt, .inr (10, [.ref tb, .int (nI tl), .int (nI ta), .int (nI tk), .int (nI ts)])), (tb, .inl (E.2.1 0, 160, .inl fb))]) ?_ rfl rfl rfl
              refine ww_if_eq_t (tgt := 48) C dX10_group_43 (by decide) (rfl) ?_
              refine ww_iload_n C dX10_group_48 2 rfl rfl ?_
              refine ww_iconst (v := 1) C dX10_group_49 rfl ?_
              refine ww_iload_n C dX10_group_50 0 rfl rfl ?_
              refine ww_ishl (v := (nI (2 ^ j_4))) C dX10_group_51 (shl_1 (by omega)) ?_
              refine ww_ior (v := (nI (a1 ||| (2 ^ j_4)))) C dX10_group_52 (or4 _ ha _ (by omega)) ?_
              refine ww_istore_n (lv' := [(1, .int (nI (a1 ||| (2 ^ j_4)))), (3, .int (nI j_4)), (2, .int (nI i1)), (0, .ref qt)]) C dX10_group_53 rfl rfl rfl ?_
              refine ww_iinc (j := 2) (v := (nI (i1 + 1))) (lv' := [(2, .int (nI (i1 + 1))), (1, .int (nI (a1 ||| (2 ^ j_4)))), (3, .int (nI j_4)), (0, .ref qt)]) C dX10_group_54 rfl (nI_add i1 1) rfl rfl ?_
              refine ww_goto (tgt := 7) C dX10_group_57 (by decide) ?_
              exact ww_lv [0, 1, 3] rfl (ww_sub [0, 1] rfl rfl (ih_7 (i1 + 1) (a1 ||| (2 ^ j_4)) (by omega) (by omega) (or4l _ ha _ (by omega)) (fun h => by rw [← gr_go (j := j_4) (by omega) (by omega) (by omega) (tb_f ha (by assumption))]; exact hg h) (fun h => absurd (show tk = 1 by omega) h) (by omega)))
  exact ww_lv [0, 1, 2] rfl (ww_sub [0, 1] rfl rfl (loop_7 _ ts 0 (by omega) (by omega) (by omega) (fun h => (gT_1 h).symm) (fun _ => rfl) (Nat.lt_succ_self _)))
end
section
theorem dX5_fail_0 : decode cX5_fail 0 = .ok (.aload_n 0, 1) := dl_42 (by decide +kernel)
theorem dX5_fail_1 : decode cX5_fail 1 = .ok (.iload_n 1, 1) := dl_27 (by decide +kernel)
theorem dX5_fail_2 : decode cX5_fail 2 = .ok (.putfield 41, 3) := dl_181 (by decide +kernel)
theorem uw_X5 : ∀ w ∈ u_ws RX5 TX5 10, w ∈ TB := uw_of [111, 113, 115, 117, 119, 121, 123, 125, 127, 129] (by decide +kernel) (by decide +kernel)
theorem wf_X5_41 : Cond.fieldLink RX5 41 RX5 "wrong" "I" ∈ TB := tbm (tq1 (List.mem_of_getElem? (i := 107) (by decide +kernel))) (by decide +kernel)
theorem fp_X5_41 : FP RX5 41 5 8 .int false := ⟨RX5, TX5, 10, tyX5, uw_X5, wf_X5_41, rfl, by decide, rfl, tyX5_ok, nmX5, rfl, by decide +kernel⟩
theorem dX5_fail_5 : decode cX5_fail 5 = .ok (.aload_n 0, 1) := dl_42 (by decide +kernel)
theorem dX5_fail_6 : decode cX5_fail 6 = .ok (.aload_n 0, 1) := dl_42 (by decide +kernel)
theorem dX5_fail_7 : decode cX5_fail 7 = .ok (.getfield 12, 3) := dl_180 (by decide +kernel)
theorem wf_X5_12 : Cond.fieldLink RX5 12 RX5 "tape" "LWhoKnows$Tape;" ∈ TB := tbm (tq1 (List.mem_of_getElem? (i := 98) (by decide +kernel))) (by decide +kernel)
theorem fg_X5_12 : FG RX5 12 5 0 := ⟨RX5, TX5, 10, uw_X5, wf_X5_12, rfl, by decide, rfl⟩
theorem dX5_fail_10 : decode cX5_fail 10 = .ok (.getfield 71, 3) := dl_180 (by decide +kernel)
theorem wf_X5_71 : Cond.fieldLink RX5 71 RX10 "start" "I" ∈ TB := tbm (tq1 (List.mem_of_getElem? (i := 84) (by decide +kernel))) (by decide +kernel)
theorem fg_X5_71 : FG RX5 71 10 4 := ⟨RX10, TX10, 5, uw_X10, wf_X5_71, rfl, by decide, rfl⟩
theorem dX5_fail_13 : decode cX5_fail 13 = .ok (.putfield 44, 3) := dl_181 (by decide +kernel)
theorem wf_X5_44 : Cond.fieldLink RX5 44 RX5 "place" "I" ∈ TB := tbm (tq1 (List.mem_of_getElem? (i := 109) (by decide +kernel))) (by decide +kernel)
theorem fp_X5_44 : FP RX5 44 5 9 .int false := ⟨RX5, TX5, 10, tyX5, uw_X5, wf_X5_44, rfl, by decide, rfl, tyX5_ok, nmX5, rfl, by decide +kernel⟩
theorem dX5_fail_16 : decode cX5_fail 16 = .ok (.iconst 0, 1) := dl_3 (by decide +kernel)
theorem dX5_fail_17 : decode cX5_fail 17 = .ok (.ireturn, 1) := dl_172 (by decide +kernel)
set_option maxRecDepth 100000 in
set_option maxHeartbeats 4000000 in
theorem q_fail (l : Launch) (E : EV) (ro : va_W) (qs : Nat) (ft : Int32) (qt : Nat) (po : Nat) (pa : Nat) (pf : Nat) (pd : Nat) (nd : Int32) (tn : Int32) (an : Int32) (wr : Int32) (pl : Int32) (tb : Nat) (tl : Nat) (ta : Int32) (tk : Nat) (ts : Nat) (hts : ts ≤ 160) : CT l yX5_fail (Cond.code yX5_fail cX5_fail 2 (some .boolean) :: TB) ({ frames := 0, cells := 0, slots := 0, locals := 0 }) E ro [.ref qs, .int ft] [(qs, .inr (5, [.ref qt, .ref po, .ref pa, .ref pf, .ref pd, .int nd, .int tn, .int an, .int wr, .int pl])), (qt, .inr (10, [.ref tb, .int (nI tl), .int ta, .int (nI tk), .int (nI ts)]))] (Qi E (fun (rz : Int32) uz => (rz = 0 ∧ uz = [(qs, .inr (5, [.ref qt, .ref po, .ref pa, .ref pf, .ref pd, .int nd, .int tn, .int an, .int ft, .int (nI ts)])), (qt, .inr (10, [.ref tb, .int (nI tl), .int ta, .int (nI tk), .int (nI ts)]))]))) 0 0 := by
  refine ct_of rfl rfl ?_
  intro X C hT hin hro
  show WW X 2 E 0 [(0, .ref qs), (1, .int ft)] [] [(qs, .inr (5, [.ref qt, .ref po, .ref pa, .ref pf, .ref pd, .int nd, .int tn, .int an, .int wr, .int pl])), (qt, .inr (10, [.ref tb, .int (nI tl), .int ta, .int (nI tk), .int (nI ts)]))] 0 0
  refine ww_aload_n C dX5_fail_0 0 rfl rfl ?_
  refine ww_iload_n C dX5_fail_1 1 rfl rfl ?_
  refine ww_put (ws' := [(qs, .inr (5, [.ref qt, .ref po, .ref pa, .ref pf, .ref pd, .int nd, .int tn, .int an, .int ft, .int pl])), (qt, .inr (10, [.ref tb, .int (nI tl), .int ta, .int (nI tk), .int (nI ts)]))]) C fp_X5_41 0 rfl rfl rfl rfl rfl dX5_fail_2 ?_
  refine ww_aload_n C dX5_fail_5 0 rfl rfl ?_
  refine ww_aload_n C dX5_fail_6 0 rfl rfl ?_
  refine ww_get C fg_X5_12 0 rfl rfl dX5_fail_7 ?_
  refine ww_get C fg_X5_71 1 rfl rfl dX5_fail_10 ?_
  refine ww_put (ws' := [(qs, .inr (5, [.ref qt, .ref po, .ref pa, .ref pf, .ref pd, .int nd, .int tn, .int an, .int ft, .int (nI ts)])), (qt, .inr (10, [.ref tb, .int (nI tl), .int ta, .int (nI tk), .int (nI ts)]))]) C fp_X5_44 0 rfl rfl rfl rfl rfl dX5_fail_13 ?_
  refine ww_iconst (v := 0) C dX5_fail_16 rfl ?_
  exact ww_zret (u := [(qs, .inr (5, [.ref qt, .ref po, .ref pa, .ref pf, .ref pd, .int nd, .int tn, .int an, .int ft, .int (nI ts)])), (qt, .inr (10, [.ref tb, .int (nI tl), .int ta, .int (nI tk), .int (nI ts)]))]) C hT [0, 1] rfl rfl rfl rfl rfl dX5_fail_17 (⟨rfl, rfl⟩)
theorem dX5_next_0 : decode cX5_next 0 = .ok (.aload_n 0, 1) := dl_42 (by decide +kernel)
theorem dX5_next_1 : decode cX5_next 1 = .ok (.getfield 12, 3) := dl_180 (by decide +kernel)
theorem dX5_next_4 : decode cX5_next 4 = .ok (.invokevirtual 74, 3) := dl_182 (by decide +kernel)
theorem wl_X5_74 : Cond.methodLink RX5 74 yX10_readToken ∈ TB := tbm (tq3 (List.mem_of_getElem? (i := 18) (by decide +kernel))) (by decide +kernel)
theorem wc_X10_readToken : Cond.code yX10_readToken cX10_readToken 1 none ∈ TB := tbm (tq3 (List.mem_of_getElem? (i := 21) (rfl))) (by decide +kernel)
theorem wi_X10_readToken : Cond.instanceMethod yX10_readToken ∈ TB := tbm (tq3 (List.mem_of_getElem? (i := 19) (by decide +kernel))) (by decide +kernel)
theorem ws_X10_readToken : Cond.selects RX10 yX10_readToken yX10_readToken ∈ TB := tbm (tq3 (List.mem_of_getElem? (i := 20) (by decide +kernel))) (by decide +kernel)
theorem mi_X10_readToken : MI yX10_readToken cX10_readToken 1 none 0 := ⟨wc_X10_readToken, wn_X10, ⟨by decide +kernel, by decide +kernel, by decide +kernel⟩, wi_X10_readToken, ws_X10_readToken⟩
theorem dX5_next_7 : decode cX5_next 7 = .ok (.aload_n 0, 1) := dl_42 (by decide +kernel)
theorem dX5_next_8 : decode cX5_next 8 = .ok (.getfield 12, 3) := dl_180 (by decide +kernel)
theorem dX5_next_11 : decode cX5_next 11 = .ok (.getfield 60, 3) := dl_180 (by decide +kernel)
theorem wf_X5_60 : Cond.fieldLink RX5 60 RX10 "kind" "I" ∈ TB := tbm (tq1 (List.mem_of_getElem? (i := 82) (by decide +kernel))) (by decide +kernel)
theorem fg_X5_60 : FG RX5 60 10 3 := ⟨RX10, TX10, 5, uw_X10, wf_X5_60, rfl, by decide, rfl⟩
theorem dX5_next_14 : decode cX5_next 14 = .ok (.iconst 3, 1) := dl_6 (by decide +kernel)
theorem dX5_next_15 : decode cX5_next 15 = .ok (.if_icmp .ne 11, 3) := dl_160 (by decide +kernel)
theorem dX5_next_26 : decode cX5_next 26 = .ok (.iconst 1, 1) := dl_4 (by decide +kernel)
theorem dX5_next_27 : decode cX5_next 27 = .ok (.goto 4, 3) := dl_167 (by decide +kernel)
theorem dX5_next_31 : decode cX5_next 31 = .ok (.ireturn, 1) := dl_172 (by decide +kernel)
theorem dX5_next_18 : decode cX5_next 18 = .ok (.aload_n 0, 1) := dl_42 (by decide +kernel)
theorem dX5_next_19 : decode cX5_next 19 = .ok (.iconst 1, 1) := dl_4 (by decide +kernel)
theorem dX5_next_20 : decode cX5_next 20 = .ok (.invokevirtual 63, 3) := dl_182 (by decide +kernel)
theorem wl_X5_63 : Cond.methodLink RX5 63 yX5_fail ∈ TB := tbm (tq3 (List.mem_of_getElem? (i := 29) (by decide +kernel))) (by decide +kernel)
theorem wc_X5_fail : Cond.code yX5_fail cX5_fail 2 (some .boolean) ∈ TB := tbm (tq3 (List.mem_of_getElem? (i := 32) (rfl))) (by decide +kernel)
theorem wn_X5 : Cond.initialized RX5 ∈ TB := tbm (tq1 (List.mem_of_getElem? (i := 3) (by decide +kernel))) (by decide +kernel)
theorem wi_X5_fail : Cond.instanceMethod yX5_fail ∈ TB := tbm (tq3 (List.mem_of_getElem? (i := 31) (by decide +kernel))) (by decide +kernel)
theorem ws_X5_fail : Cond.selects RX5 yX5_fail yX5_fail ∈ TB := tbm (tq0 (List.mem_of_getElem? (i := 5) (by decide +kernel))) (by decide +kernel)
theorem mi_X5_fail : MI yX5_fail cX5_fail 2 (some .boolean) 1 := ⟨wc_X5_fail, wn_X5, ⟨by decide +kernel, by decide +kernel, by decide +kernel⟩, wi_X5_fail, ws_X5_fail⟩
theorem dX5_next_23 : decode cX5_next 23 = .ok (.ifCond .eq 7, 3) := dl_153 (by decide +kernel)
theorem dX5_next_30 : decode cX5_next 30 = .ok (.iconst 0, 1) := dl_3 (by decide +kernel)
set_option maxRecDepth 100000 in
set_option maxHeartbeats 4000000 in
theorem q_next (l : Launch) (E : EV) (ro : va_W) (qs : Nat) (qt : Nat) (po : Nat) (pa : Nat) (pf : Nat) (pd : Nat) (nd : Int32) (tn : Int32) (an : Int32) (wr : Int32) (pl : Int32) (tb : Nat) (tl : Nat) (ta : Nat) (tk : Int32) (ts : Int32) (fb : Nat → Int32) (htl : tl ≤ 160) (hta : ta ≤ tl) : CT l yX5_next (Cond.code yX5_next cX5_next 1 (some .boolean) :: TB) ({ frames := 2, cells := 0, slots := 0, locals := 44 }) E ro [.ref qs] [(qs, .inr (5, [.ref qt, .ref po, .ref pa, .ref pf, .ref pd, .int nd, .int tn, .int an, .int wr, .int pl])), (qt, .inr (10, [.ref tb, .int (nI tl), .int (nI ta), .int tk, .int ts])), (tb, .inl (E.2.1 0, 160, .inl fb))] (Qi E (fun (rz : Int32) uz => (∃ (ta2 : Nat) (tk2 : Nat) (ts2 : Nat), rz = 1 ∧ uz = [(qs, .inr (5, [.ref qt, .ref po, .ref pa, .ref pf, .ref pd, .int nd, .int tn, .int an, .int wr, .int pl])), (qt, .inr (10, [.ref tb, .int (nI tl), .int (nI ta2), .int (nI tk2), .int (nI ts2)])), (tb, .inl (E.2.1 0, 160, .inl fb))] ∧ (ts2 ≤ ta2) ∧ (ta2 ≤ tl) ∧ (tk2 ≤ 3) ∧ (tk2 = 2 → ts2 < ta2) ∧ (TX (cz fb tl) ts2 tk2 ta2) ∧ (TK (cz fb tl) ta ts2 tk2 ta2) ∧ (tk2 ≠ 3)) ∨ (∃ (ta2 : Nat) (tk2 : Nat) (ts2 : Nat), rz = 0 ∧ uz = [(qs, .inr (5, [.ref qt, .ref po, .ref pa, .ref pf, .ref pd, .int nd, .int tn, .int an, .int 1, .int (nI ts2)])), (qt, .inr (10, [.ref tb, .int (nI tl), .int (nI ta2), .int (nI tk2), .int (nI ts2)])), (tb, .inl (E.2.1 0, 160, .inl fb))] ∧ (ts2 ≤ ta2) ∧ (ta2 ≤ tl) ∧ (tk2 ≤ 3) ∧ (tk2 = 2 → ts2 < ta2) ∧ (TX (cz fb tl) ts2 tk2 ta2) ∧ (TK (cz fb tl) ta ts2 tk2 ta2) ∧ (tk2 = 3)))) 0 0 := by
  refine ct_of rfl rfl ?_
  intro X C hT hin hro
  show WW X 1 E 0 [(0, .ref qs)] [] [(qs, .inr (5, [.ref qt, .ref po, .ref pa, .ref pf, .ref pd, .int nd, .int tn, .int an, .int wr, .int pl])), (qt, .inr (10, [.ref tb, .int (nI tl), .int (nI ta), .int tk, .int ts])), (tb, .inl (E.2.1 0, 160, .inl fb))] 0 0
  refine ww_aload_n C dX5_next_0 0 rfl rfl ?_
  refine ww_get C fg_X5_12 0 rfl rfl dX5_next_1 ?_
  refine ww_cv (wr := [(qs, .inr (5, [.ref qt, .ref po, .ref pa, .ref pf, .ref pd, .int nd, .int tn, .int an, .int wr, .int pl]))]) (k' := 0) (n' := 0) C (run_V (As := []) (rest := []) C (t_readToken X.2.1 E ro qt tb tl ta tk ts fb (by omega) (by omega)) mi_X10_readToken wl_X5_74 rfl 0 10 rfl rfl rfl rfl rfl dX5_next_4) (roK hro) [1, 2] [0] rfl rfl rfl rfl (fun uz hw => ?_)
  refine ex3 hw ?_
  clear hw
  intro ta2_2 tk2_3 ts2_4 hw
  refine an6 hw ?_
  clear hw
  intro he_11 h_5 h_6 h_7 h_8 h_9 hw
  have h_10 := hw
  clear hw
  subst he_11
  refine ww_eq (ws' := [(qs, .inr (5, [.ref qt, .ref po, .ref pa, .ref pf, .ref pd, .int nd, .int tn, .int an, .int wr, .int pl])), (qt, .inr (10, [.ref tb, .int (nI tl), .int (nI ta2_2), .int (nI tk2_3), .int (nI ts2_4)])), (tb, .inl (E.2.1 0, 160, .inl fb))]) ?_ rfl rfl rfl
  refine ww_aload_n C dX5_next_7 0 rfl rfl ?_
  refine ww_get C fg_X5_12 0 rfl rfl dX5_next_8 ?_
  refine ww_get C fg_X5_60 1 rfl rfl dX5_next_11 ?_
  refine ww_iconst (v := 3) C dX5_next_14 rfl ?_
  refine ww_icmp_ne (tgt := 26) C dX5_next_15 (by decide) (fun c_12 => ?_) (fun c_12 => ?_)
  · have zc_12 : ((tk2_3 : Nat) : Int) ≠ 3 := i_ne (nI_toInt (n := tk2_3) (by omega)) rfl c_12
    refine ww_iconst (v := 1) C dX5_next_26 rfl ?_
    refine ww_goto (tgt := 31) C dX5_next_27 (by decide) ?_
    exact ww_zret (u := [(qs, .inr (5, [.ref qt, .ref po, .ref pa, .ref pf, .ref pd, .int nd, .int tn, .int an, .int wr, .int pl])), (qt, .inr (10, [.ref tb, .int (nI tl), .int (nI ta2_2), .int (nI tk2_3), .int (nI ts2_4)])), (tb, .inl (E.2.1 0, 160, .inl fb))]) C hT [0, 1, 2] rfl rfl rfl rfl rfl dX5_next_31 (Or.inl ⟨ta2_2, tk2_3, ts2_4, rfl, rfl, (by first | assumption | omega | decide), (by first | assumption | omega | decide), (by first | assumption | omega | decide), (by omega), h_10, (by assumption), (by omega)⟩)
  · have zc_12 : ((tk2_3 : Nat) : Int) = 3 := i_eq (nI_toInt (n := tk2_3) (by omega)) rfl c_12
    refine ww_aload_n C dX5_next_18 0 rfl rfl ?_
    refine ww_iconst (v := 1) C dX5_next_19 rfl ?_
    refine ww_ci (wr := [(tb, .inl (E.2.1 0, 160, .inl fb))]) (k' := 0) (n' := 0) C (run_V (As := [.int 1]) (rest := []) C (q_fail X.2.1 E ro qs 1 qt po pa pf pd nd tn an wr pl tb tl (nI ta2_2) tk2_3 ts2_4 (by omega)) mi_X5_fail wl_X5_63 rfl 0 5 rfl rfl rfl rfl rfl dX5_next_20) (roK hro) [0, 1] [2] rfl rfl rfl rfl (fun r_13 uz hw => ?_)
    refine an1 hw ?_
    clear hw
    intro he_14 hw
    have he_15 := hw
    clear hw
    have he_14 := he_14.symm
    subst he_14
    subst he_15
    refine ww_eq (ws' := [(tb, .inl (E.2.1 0, 160, .inl fb)), (qs, .inr (5, [.ref qt, .ref po, .ref pa, .ref pf, .ref pd, .int nd, .int tn, .int an, .int 1, .int (nI ts2_4)])), (qt, .inr (10, [.ref tb, .int (nI tl), .int (nI ta2_2), .int (nI tk2_3), .int (nI ts2_4)]))]) ?_ rfl rfl rfl
    refine ww_if_eq_t (tgt := 30) C dX5_next_23 (by decide) (rfl) ?_
    refine ww_iconst (v := 0) C dX5_next_30 rfl ?_
    exact ww_zret (u := [(qs, .inr (5, [.ref qt, .ref po, .ref pa, .ref pf, .ref pd, .int nd, .int tn, .int an, .int 1, .int (nI ts2_4)])), (qt, .inr (10, [.ref tb, .int (nI tl), .int (nI ta2_2), .int (nI tk2_3), .int (nI ts2_4)])), (tb, .inl (E.2.1 0, 160, .inl fb))]) C hT [1, 2, 0] rfl rfl rfl rfl rfl dX5_next_31 (Or.inr ⟨ta2_2, tk2_3, ts2_4, rfl, rfl, (by first | assumption | omega | decide), (by first | assumption | omega | decide), (by first | assumption | omega | decide), (by omega), h_10, (by assumption), (by omega)⟩)
theorem dX5_take_0 : decode cX5_take 0 = .ok (.aload_n 0, 1) := dl_42 (by decide +kernel)
theorem dX5_take_1 : decode cX5_take 1 = .ok (.getfield 35, 3) := dl_180 (by decide +kernel)
theorem wf_X5_35 : Cond.fieldLink RX5 35 RX5 "tokens" "I" ∈ TB := tbm (tq1 (List.mem_of_getElem? (i := 105) (by decide +kernel))) (by decide +kernel)
theorem fg_X5_35 : FG RX5 35 5 6 := ⟨RX5, TX5, 10, uw_X5, wf_X5_35, rfl, by decide, rfl⟩
theorem dX5_take_4 : decode cX5_take 4 = .ok (.bipush 32, 2) := dl_16 (by decide +kernel)
theorem dX5_take_6 : decode cX5_take 6 = .ok (.if_icmp .lt 9, 3) := dl_161 (by decide +kernel)
theorem dX5_take_15 : decode cX5_take 15 = .ok (.aload_n 0, 1) := dl_42 (by decide +kernel)
theorem dX5_take_16 : decode cX5_take 16 = .ok (.dup, 1) := dl_89 (by decide +kernel)
theorem dX5_take_17 : decode cX5_take 17 = .ok (.getfield 35, 3) := dl_180 (by decide +kernel)
theorem dX5_take_20 : decode cX5_take 20 = .ok (.iconst 1, 1) := dl_4 (by decide +kernel)
theorem dX5_take_21 : decode cX5_take 21 = .ok (.iadd, 1) := dl_96 (by decide +kernel)
theorem dX5_take_22 : decode cX5_take 22 = .ok (.putfield 35, 3) := dl_181 (by decide +kernel)
theorem fp_X5_35 : FP RX5 35 5 6 .int false := ⟨RX5, TX5, 10, tyX5, uw_X5, wf_X5_35, rfl, by decide, rfl, tyX5_ok, nmX5, rfl, by decide +kernel⟩
theorem dX5_take_25 : decode cX5_take 25 = .ok (.aload_n 0, 1) := dl_42 (by decide +kernel)
theorem dX5_take_26 : decode cX5_take 26 = .ok (.invokevirtual 50, 3) := dl_182 (by decide +kernel)
theorem wl_X5_50 : Cond.methodLink RX5 50 yX5_next ∈ TB := tbm (tq3 (List.mem_of_getElem? (i := 14) (by decide +kernel))) (by decide +kernel)
theorem wc_X5_next : Cond.code yX5_next cX5_next 1 (some .boolean) ∈ TB := tbm (tq3 (List.mem_of_getElem? (i := 17) (rfl))) (by decide +kernel)
theorem wi_X5_next : Cond.instanceMethod yX5_next ∈ TB := tbm (tq3 (List.mem_of_getElem? (i := 16) (by decide +kernel))) (by decide +kernel)
theorem ws_X5_next : Cond.selects RX5 yX5_next yX5_next ∈ TB := tbm (tq0 (List.mem_of_getElem? (i := 3) (by decide +kernel))) (by decide +kernel)
theorem mi_X5_next : MI yX5_next cX5_next 1 (some .boolean) 0 := ⟨wc_X5_next, wn_X5, ⟨by decide +kernel, by decide +kernel, by decide +kernel⟩, wi_X5_next, ws_X5_next⟩
theorem dX5_take_29 : decode cX5_take 29 = .ok (.ireturn, 1) := dl_172 (by decide +kernel)
theorem dX5_take_9 : decode cX5_take 9 = .ok (.aload_n 0, 1) := dl_42 (by decide +kernel)
theorem dX5_take_10 : decode cX5_take 10 = .ok (.iconst 5, 1) := dl_8 (by decide +kernel)
theorem dX5_take_11 : decode cX5_take 11 = .ok (.invokevirtual 63, 3) := dl_182 (by decide +kernel)
theorem dX5_take_14 : decode cX5_take 14 = .ok (.ireturn, 1) := dl_172 (by decide +kernel)
set_option maxRecDepth 100000 in
set_option maxHeartbeats 4000000 in
theorem q_take (l : Launch) (E : EV) (ro : va_W) (qs : Nat) (qt : Nat) (po : Nat) (pa : Nat) (pf : Nat) (pd : Nat) (nd : Int32) (tn : Nat) (an : Int32) (wr : Int32) (pl : Int32) (tb : Nat) (tl : Nat) (ta : Nat) (tk : Nat) (ts : Nat) (fb : Nat → Int32) (hts : ts ≤ ta) (hta : ta ≤ tl) (htl : tl ≤ 160) (htk : tk ≤ 3) (hs9 : tk = 2 → ts < ta) (hfg : TX (cz fb tl) ts tk ta) (htn : tn ≤ 32) : CT l yX5_take (Cond.code yX5_take cX5_take 1 (some .boolean) :: TB) ({ frames := 3, cells := 0, slots := 0, locals := 64 }) E ro [.ref qs] [(qs, .inr (5, [.ref qt, .ref po, .ref pa, .ref pf, .ref pd, .int nd, .int (nI tn), .int an, .int wr, .int pl])), (qt, .inr (10, [.ref tb, .int (nI tl), .int (nI ta), .int (nI tk), .int (nI ts)])), (tb, .inl (E.2.1 0, 160, .inl fb))] (Qi E (fun (rz : Int32) uz => (∃ (ta2 : Nat) (tk2 : Nat) (ts2 : Nat), rz = 1 ∧ uz = [(qs, .inr (5, [.ref qt, .ref po, .ref pa, .ref pf, .ref pd, .int nd, .int (nI (tn + 1)), .int an, .int wr, .int pl])), (qt, .inr (10, [.ref tb, .int (nI tl), .int (nI ta2), .int (nI tk2), .int (nI ts2)])), (tb, .inl (E.2.1 0, 160, .inl fb))] ∧ (ts2 ≤ ta2) ∧ (ta2 ≤ tl) ∧ (tk2 ≤ 3) ∧ (tk2 = 2 → ts2 < ta2) ∧ (TX (cz fb tl) ts2 tk2 ta2) ∧ (TK (cz fb tl) ta ts2 tk2 ta2) ∧ (tk2 ≠ 3) ∧ (tn < 32)) ∨ (∃ (ta2 : Nat) (tk2 : Nat) (ts2 : Nat) (tn2 : Int32) (wr2 : Int32) (pl2 : Nat), rz = 0 ∧ uz = [(qs, .inr (5, [.ref qt, .ref po, .ref pa, .ref pf, .ref pd, .int nd, .int tn2, .int an, .int wr2, .int (nI pl2)])), (qt, .inr (10, [.ref tb, .int (nI tl), .int (nI ta2), .int (nI tk2), .int (nI ts2)])), (tb, .inl (E.2.1 0, 160, .inl fb))] ∧ (ts2 ≤ ta2) ∧ (ta2 ≤ tl) ∧ (tk2 ≤ 3) ∧ (tk2 = 2 → ts2 < ta2) ∧ (TX (cz fb tl) ts2 tk2 ta2) ∧ ((32 ≤ tn ∧ pl2 = ts) ∨ (tn < 32 ∧ sK (cz fb tl) ta = 3 ∧ pl2 = sS (cz fb tl) ta))))) 0 0 := by
  refine ct_of rfl rfl ?_
  intro X C hT hin hro
  show WW X 1 E 0 [(0, .ref qs)] [] [(qs, .inr (5, [.ref qt, .ref po, .ref pa, .ref pf, .ref pd, .int nd, .int (nI tn), .int an, .int wr, .int pl])), (qt, .inr (10, [.ref tb, .int (nI tl), .int (nI ta), .int (nI tk), .int (nI ts)])), (tb, .inl (E.2.1 0, 160, .inl fb))] 0 0
  refine ww_aload_n C dX5_take_0 0 rfl rfl ?_
  refine ww_get C fg_X5_35 0 rfl rfl dX5_take_1 ?_
  refine ww_bipush (v := 32) C dX5_take_4 rfl ?_
  refine ww_icmp_lt (tgt := 15) C dX5_take_6 (by decide) (fun c_1 => ?_) (fun c_1 => ?_)
  · have zc_1 : ((tn : Nat) : Int) < 32 := i_lt (nI_toInt (n := tn) (by omega)) rfl c_1
    refine ww_aload_n C dX5_take_15 0 rfl rfl ?_
    refine ww_dup C dX5_take_16 rfl ?_
    refine ww_get C fg_X5_35 0 rfl rfl dX5_take_17 ?_
    refine ww_iconst (v := 1) C dX5_take_20 rfl ?_
    refine ww_iadd (v := (nI (tn + 1))) C dX5_take_21 (nI_add tn 1) ?_
    refine ww_put (ws' := [(qs, .inr (5, [.ref qt, .ref po, .ref pa, .ref pf, .ref pd, .int nd, .int (nI (tn + 1)), .int an, .int wr, .int pl])), (qt, .inr (10, [.ref tb, .int (nI tl), .int (nI ta), .int (nI tk), .int (nI ts)])), (tb, .inl (E.2.1 0, 160, .inl fb))]) C fp_X5_35 0 rfl rfl rfl rfl rfl dX5_take_22 ?_
    refine ww_aload_n C dX5_take_25 0 rfl rfl ?_
    refine ww_ci (wr := []) (k' := 0) (n' := 0) C (run_V (As := []) (rest := []) C (q_next X.2.1 E ro qs qt po pa pf pd nd (nI (tn + 1)) an wr pl tb tl ta (nI tk) (nI ts) fb (by omega) (by omega)) mi_X5_next wl_X5_50 rfl 0 5 rfl rfl rfl rfl rfl dX5_take_26) (roK hro) [0, 1, 2] [] rfl rfl rfl rfl (fun r_2 uz hw => ?_)
    rcases hw with hw | hw
    · refine ex3 hw ?_
      clear hw
      intro ta2_3 tk2_4 ts2_5 hw
      refine an8 hw ?_
      clear hw
      intro he_13 he_14 h_6 h_7 h_8 h_9 h_10 h_11 hw
      have h_12 := hw
      clear hw
      have he_13 := he_13.symm
      subst he_13
      subst he_14
      refine ww_eq (ws' := [(qs, .inr (5, [.ref qt, .ref po, .ref pa, .ref pf, .ref pd, .int nd, .int (nI (tn + 1)), .int an, .int wr, .int pl])), (qt, .inr (10, [.ref tb, .int (nI tl), .int (nI ta2_3), .int (nI tk2_4), .int (nI ts2_5)])), (tb, .inl (E.2.1 0, 160, .inl fb))]) ?_ rfl rfl rfl
      exact ww_zret (u := [(qs, .inr (5, [.ref qt, .ref po, .ref pa, .ref pf, .ref pd, .int nd, .int (nI (tn + 1)), .int an, .int wr, .int pl])), (qt, .inr (10, [.ref tb, .int (nI tl), .int (nI ta2_3), .int (nI tk2_4), .int (nI ts2_5)])), (tb, .inl (E.2.1 0, 160, .inl fb))]) C hT [0, 1, 2] rfl rfl rfl rfl rfl dX5_take_29 (Or.inl ⟨ta2_3, tk2_4, ts2_5, rfl, rfl, (by first | assumption | omega | decide), (by first | assumption | omega | decide), (by first | assumption | omega | decide), (by omega), h_10, (by assumption), (by omega), (by first | assumption | omega | decide)⟩)
    · refine ex3 hw ?_
      clear hw
      intro ta2_15 tk2_16 ts2_17 hw
      refine an8 hw ?_
      clear hw
      intro he_25 he_26 h_18 h_19 h_20 h_21 h_22 h_23 hw
      have h_24 := hw
      clear hw
      have he_25 := he_25.symm
      subst he_25
      subst he_26
      refine ww_eq (ws' := [(qs, .inr (5, [.ref qt, .ref po, .ref pa, .ref pf, .ref pd, .int nd, .int (nI (tn + 1)), .int an, .int 1, .int (nI ts2_17)])), (qt, .inr (10, [.ref tb, .int (nI tl), .int (nI ta2_15), .int (nI tk2_16), .int (nI ts2_17)])), (tb, .inl (E.2.1 0, 160, .inl fb))]) ?_ rfl rfl rfl
      exact ww_zret (u := [(qs, .inr (5, [.ref qt, .ref po, .ref pa, .ref pf, .ref pd, .int nd, .int (nI (tn + 1)), .int an, .int 1, .int (nI ts2_17)])), (qt, .inr (10, [.ref tb, .int (nI tl), .int (nI ta2_15), .int (nI tk2_16), .int (nI ts2_17)])), (tb, .inl (E.2.1 0, 160, .inl fb))]) C hT [0, 1, 2] rfl rfl rfl rfl rfl dX5_take_29 (Or.inr ⟨ta2_15, tk2_16, ts2_17, (nI (tn + 1)), 1, ts2_17, rfl, rfl, (by first | assumption | omega | decide), (by first | assumption | omega | decide), (by first | assumption | omega | decide), (by omega), h_22, (Or.inr ⟨by omega, h_23.2.1.symm.trans h_24, h_23.1⟩)⟩)
  · have zc_1 : ((tn : Nat) : Int) ≥ 32 := i_nlt (nI_toInt (n := tn) (by omega)) rfl c_1
    refine ww_aload_n C dX5_take_9 0 rfl rfl ?_
    refine ww_iconst (v := 5) C dX5_take_10 rfl ?_
    refine ww_ci (wr := [(tb, .inl (E.2.1 0, 160, .inl fb))]) (k' := 0) (n' := 0) C (run_V (As := [.int 5]) (rest := []) C (q_fail X.2.1 E ro qs 5 qt po pa pf pd nd (nI tn) an wr pl tb tl (nI ta) tk ts (by omega)) mi_X5_fail wl_X5_63 rfl 0 5 rfl rfl rfl rfl rfl dX5_take_11) (roK hro) [0, 1] [2] rfl rfl rfl rfl (fun r_27 uz hw => ?_)
    refine an1 hw ?_
    clear hw
    intro he_28 hw
    have he_29 := hw
    clear hw
    have he_28 := he_28.symm
    subst he_28
    subst he_29
    refine ww_eq (ws' := [(tb, .inl (E.2.1 0, 160, .inl fb)), (qs, .inr (5, [.ref qt, .ref po, .ref pa, .ref pf, .ref pd, .int nd, .int (nI tn), .int an, .int 5, .int (nI ts)])), (qt, .inr (10, [.ref tb, .int (nI tl), .int (nI ta), .int (nI tk), .int (nI ts)]))]) ?_ rfl rfl rfl
    exact ww_zret (u := [(qs, .inr (5, [.ref qt, .ref po, .ref pa, .ref pf, .ref pd, .int nd, .int (nI tn), .int an, .int 5, .int (nI ts)])), (qt, .inr (10, [.ref tb, .int (nI tl), .int (nI ta), .int (nI tk), .int (nI ts)])), (tb, .inl (E.2.1 0, 160, .inl fb))]) C hT [1, 2, 0] rfl rfl rfl rfl rfl dX5_take_14 (Or.inr ⟨ta, tk, ts, (nI tn), 5, ts, rfl, rfl, (by first | assumption | omega | decide), (by first | assumption | omega | decide), (by first | assumption | omega | decide), (by omega), hfg, (Or.inl ⟨by omega, rfl⟩)⟩)
theorem dX5_readEventNumber_0 : decode cX5_readEventNumber 0 = .ok (.aload_n 0, 1) := dl_42 (by decide +kernel)
theorem dX5_readEventNumber_1 : decode cX5_readEventNumber 1 = .ok (.getfield 12, 3) := dl_180 (by decide +kernel)
theorem dX5_readEventNumber_4 : decode cX5_readEventNumber 4 = .ok (.getfield 60, 3) := dl_180 (by decide +kernel)
theorem dX5_readEventNumber_7 : decode cX5_readEventNumber 7 = .ok (.iconst 2, 1) := dl_5 (by decide +kernel)
theorem dX5_readEventNumber_8 : decode cX5_readEventNumber 8 = .ok (.if_icmp .eq 9, 3) := dl_159 (by decide +kernel)
theorem dX5_readEventNumber_17 : decode cX5_readEventNumber 17 = .ok (.aload_n 0, 1) := dl_42 (by decide +kernel)
theorem dX5_readEventNumber_18 : decode cX5_readEventNumber 18 = .ok (.getfield 12, 3) := dl_180 (by decide +kernel)
theorem dX5_readEventNumber_21 : decode cX5_readEventNumber 21 = .ok (.invokevirtual 85, 3) := dl_182 (by decide +kernel)
theorem wl_X5_85 : Cond.methodLink RX5 85 yX10_figure ∈ TB := tbm (tq3 (List.mem_of_getElem? (i := 94) (by decide +kernel))) (by decide +kernel)
theorem wc_X10_figure : Cond.code yX10_figure cX10_figure 1 (some .int) ∈ TB := tbm (tq3 (List.mem_of_getElem? (i := 97) (rfl))) (by decide +kernel)
theorem wi_X10_figure : Cond.instanceMethod yX10_figure ∈ TB := tbm (tq3 (List.mem_of_getElem? (i := 95) (by decide +kernel))) (by decide +kernel)
theorem ws_X10_figure : Cond.selects RX10 yX10_figure yX10_figure ∈ TB := tbm (tq3 (List.mem_of_getElem? (i := 96) (by decide +kernel))) (by decide +kernel)
theorem mi_X10_figure : MI yX10_figure cX10_figure 1 (some .int) 0 := ⟨wc_X10_figure, wn_X10, ⟨by decide +kernel, by decide +kernel, by decide +kernel⟩, wi_X10_figure, ws_X10_figure⟩
theorem dX5_readEventNumber_24 : decode cX5_readEventNumber 24 = .ok (.iconst 4, 1) := dl_7 (by decide +kernel)
theorem dX5_readEventNumber_25 : decode cX5_readEventNumber 25 = .ok (.if_icmp .lt 9, 3) := dl_161 (by decide +kernel)
theorem dX5_readEventNumber_34 : decode cX5_readEventNumber 34 = .ok (.aload_n 0, 1) := dl_42 (by decide +kernel)
theorem dX5_readEventNumber_35 : decode cX5_readEventNumber 35 = .ok (.getfield 25, 3) := dl_180 (by decide +kernel)
theorem wf_X5_25 : Cond.fieldLink RX5 25 RX5 "after" "[I" ∈ TB := tbm (tq1 (List.mem_of_getElem? (i := 102) (by decide +kernel))) (by decide +kernel)
theorem fg_X5_25 : FG RX5 25 5 3 := ⟨RX5, TX5, 10, uw_X5, wf_X5_25, rfl, by decide, rfl⟩
theorem dX5_readEventNumber_38 : decode cX5_readEventNumber 38 = .ok (.aload_n 0, 1) := dl_42 (by decide +kernel)
theorem dX5_readEventNumber_39 : decode cX5_readEventNumber 39 = .ok (.getfield 38, 3) := dl_180 (by decide +kernel)
theorem wf_X5_38 : Cond.fieldLink RX5 38 RX5 "afters" "I" ∈ TB := tbm (tq1 (List.mem_of_getElem? (i := 106) (by decide +kernel))) (by decide +kernel)
theorem fg_X5_38 : FG RX5 38 5 7 := ⟨RX5, TX5, 10, uw_X5, wf_X5_38, rfl, by decide, rfl⟩
theorem dX5_readEventNumber_42 : decode cX5_readEventNumber 42 = .ok (.aload_n 0, 1) := dl_42 (by decide +kernel)
theorem dX5_readEventNumber_43 : decode cX5_readEventNumber 43 = .ok (.getfield 12, 3) := dl_180 (by decide +kernel)
theorem dX5_readEventNumber_46 : decode cX5_readEventNumber 46 = .ok (.invokevirtual 85, 3) := dl_182 (by decide +kernel)
theorem dX5_readEventNumber_49 : decode cX5_readEventNumber 49 = .ok (.iastore, 1) := dl_79 (by decide +kernel)
theorem dX5_readEventNumber_50 : decode cX5_readEventNumber 50 = .ok (.aload_n 0, 1) := dl_42 (by decide +kernel)
theorem dX5_readEventNumber_51 : decode cX5_readEventNumber 51 = .ok (.dup, 1) := dl_89 (by decide +kernel)
theorem dX5_readEventNumber_52 : decode cX5_readEventNumber 52 = .ok (.getfield 38, 3) := dl_180 (by decide +kernel)
theorem dX5_readEventNumber_55 : decode cX5_readEventNumber 55 = .ok (.iconst 1, 1) := dl_4 (by decide +kernel)
theorem dX5_readEventNumber_56 : decode cX5_readEventNumber 56 = .ok (.iadd, 1) := dl_96 (by decide +kernel)
theorem dX5_readEventNumber_57 : decode cX5_readEventNumber 57 = .ok (.putfield 38, 3) := dl_181 (by decide +kernel)
theorem fp_X5_38 : FP RX5 38 5 7 .int false := ⟨RX5, TX5, 10, tyX5, uw_X5, wf_X5_38, rfl, by decide, rfl, tyX5_ok, nmX5, rfl, by decide +kernel⟩
theorem dX5_readEventNumber_60 : decode cX5_readEventNumber 60 = .ok (.aload_n 0, 1) := dl_42 (by decide +kernel)
theorem dX5_readEventNumber_61 : decode cX5_readEventNumber 61 = .ok (.invokevirtual 50, 3) := dl_182 (by decide +kernel)
theorem dX5_readEventNumber_64 : decode cX5_readEventNumber 64 = .ok (.ireturn, 1) := dl_172 (by decide +kernel)
theorem dX5_readEventNumber_28 : decode cX5_readEventNumber 28 = .ok (.aload_n 0, 1) := dl_42 (by decide +kernel)
theorem dX5_readEventNumber_29 : decode cX5_readEventNumber 29 = .ok (.iconst 3, 1) := dl_6 (by decide +kernel)
theorem dX5_readEventNumber_30 : decode cX5_readEventNumber 30 = .ok (.invokevirtual 63, 3) := dl_182 (by decide +kernel)
theorem dX5_readEventNumber_33 : decode cX5_readEventNumber 33 = .ok (.ireturn, 1) := dl_172 (by decide +kernel)
theorem dX5_readEventNumber_11 : decode cX5_readEventNumber 11 = .ok (.aload_n 0, 1) := dl_42 (by decide +kernel)
theorem dX5_readEventNumber_12 : decode cX5_readEventNumber 12 = .ok (.iconst 2, 1) := dl_5 (by decide +kernel)
theorem dX5_readEventNumber_13 : decode cX5_readEventNumber 13 = .ok (.invokevirtual 63, 3) := dl_182 (by decide +kernel)
theorem dX5_readEventNumber_16 : decode cX5_readEventNumber 16 = .ok (.ireturn, 1) := dl_172 (by decide +kernel)
set_option maxRecDepth 100000 in
set_option maxHeartbeats 4000000 in
theorem q_readEventNumber (l : Launch) (E : EV) (ro : va_W) (qs : Nat) (qt : Nat) (po : Nat) (pa : Nat) (pf : Nat) (pd : Nat) (nd : Int32) (tn : Int32) (an : Nat) (wr : Int32) (pl : Int32) (tb : Nat) (tl : Nat) (ta : Nat) (tk : Nat) (ts : Nat) (fb : Nat → Int32) (af : Nat → Int32) (hts : ts ≤ ta) (hta : ta ≤ tl) (htl : tl ≤ 160) (htk : tk ≤ 3) (hs9 : tk = 2 → ts < ta) (hfg : TX (cz fb tl) ts tk ta) (han : an < 2) (hafi : AFI an af) : CT l yX5_readEventNumber (Cond.code yX5_readEventNumber cX5_readEventNumber 1 (some .boolean) :: TB) ({ frames := 3, cells := 0, slots := 0, locals := 64 }) E ro [.ref qs] [(qs, .inr (5, [.ref qt, .ref po, .ref pa, .ref pf, .ref pd, .int nd, .int tn, .int (nI an), .int wr, .int pl])), (qt, .inr (10, [.ref tb, .int (nI tl), .int (nI ta), .int (nI tk), .int (nI ts)])), (tb, .inl (E.2.1 0, 160, .inl fb)), (pf, .inl (E.2.1 1, 2, .inl af))] (Qi E (fun (rz : Int32) uz => (∃ (ta2 : Nat) (tk2 : Nat) (ts2 : Nat) (af2 : Nat → Int32), rz = 1 ∧ uz = [(qs, .inr (5, [.ref qt, .ref po, .ref pa, .ref pf, .ref pd, .int nd, .int tn, .int (nI (an + 1)), .int wr, .int pl])), (qt, .inr (10, [.ref tb, .int (nI tl), .int (nI ta2), .int (nI tk2), .int (nI ts2)])), (tb, .inl (E.2.1 0, 160, .inl fb)), (pf, .inl (E.2.1 1, 2, .inl af2))] ∧ (ts2 ≤ ta2) ∧ (ta2 ≤ tl) ∧ (tk2 ≤ 3) ∧ (tk2 = 2 → ts2 < ta2) ∧ (TX (cz fb tl) ts2 tk2 ta2) ∧ (TK (cz fb tl) ta ts2 tk2 ta2) ∧ (tk2 ≠ 3) ∧ (tk = 2) ∧ (cz fb tl ts ≤ 51) ∧ (upd af an (nI (cz fb tl ts - 48).toNat) = af2) ∧ (AFI (an + 1) af2)) ∨ (∃ (ta2 : Nat) (tk2 : Nat) (ts2 : Nat) (an2 : Int32) (wr2 : Int32) (pl2 : Nat) (af2 : Nat → Int32), rz = 0 ∧ uz = [(qs, .inr (5, [.ref qt, .ref po, .ref pa, .ref pf, .ref pd, .int nd, .int tn, .int an2, .int wr2, .int (nI pl2)])), (qt, .inr (10, [.ref tb, .int (nI tl), .int (nI ta2), .int (nI tk2), .int (nI ts2)])), (tb, .inl (E.2.1 0, 160, .inl fb)), (pf, .inl (E.2.1 1, 2, .inl af2))] ∧ (ts2 ≤ ta2) ∧ (ta2 ≤ tl) ∧ (tk2 ≤ 3) ∧ (tk2 = 2 → ts2 < ta2) ∧ (TX (cz fb tl) ts2 tk2 ta2) ∧ (((tk ≠ 2 ∨ 51 < cz fb tl ts) ∧ pl2 = ts) ∨ (tk = 2 ∧ cz fb tl ts ≤ 51 ∧ sK (cz fb tl) ta = 3 ∧ pl2 = sS (cz fb tl) ta))))) 0 0 := by
  refine ct_of rfl rfl ?_
  intro X C hT hin hro
  show WW X 1 E 0 [(0, .ref qs)] [] [(qs, .inr (5, [.ref qt, .ref po, .ref pa, .ref pf, .ref pd, .int nd, .int tn, .int (nI an), .int wr, .int pl])), (qt, .inr (10, [.ref tb, .int (nI tl), .int (nI ta), .int (nI tk), .int (nI ts)])), (tb, .inl (E.2.1 0, 160, .inl fb)), (pf, .inl (E.2.1 1, 2, .inl af))] 0 0
  refine ww_aload_n C dX5_readEventNumber_0 0 rfl rfl ?_
  refine ww_get C fg_X5_12 0 rfl rfl dX5_readEventNumber_1 ?_
  refine ww_get C fg_X5_60 1 rfl rfl dX5_readEventNumber_4 ?_
  refine ww_iconst (v := 2) C dX5_readEventNumber_7 rfl ?_
  refine ww_icmp_eq (tgt := 17) C dX5_readEventNumber_8 (by decide) (fun c_1 => ?_) (fun c_1 => ?_)
  · have zc_1 : ((tk : Nat) : Int) = 2 := i_eq (nI_toInt (n := tk) (by omega)) rfl c_1
    refine ww_aload_n C dX5_readEventNumber_17 0 rfl rfl ?_
    refine ww_get C fg_X5_12 0 rfl rfl dX5_readEventNumber_18 ?_
    refine ww_ci (wr := [(qs, .inr (5, [.ref qt, .ref po, .ref pa, .ref pf, .ref pd, .int nd, .int tn, .int (nI an), .int wr, .int pl])), (pf, .inl (E.2.1 1, 2, .inl af))]) (k' := 0) (n' := 0) C (run_V (As := []) (rest := []) C (t_figure X.2.1 E ro qt tb tl ta tk ts fb (by omega) (by omega) (by omega) (by omega) (by omega) hfg) mi_X10_figure wl_X5_85 rfl 0 10 rfl rfl rfl rfl rfl dX5_readEventNumber_21) (roK hro) [1, 2] [0, 3] rfl rfl rfl rfl (fun r_2 uz hw => ?_)
    refine an3 hw ?_
    clear hw
    intro he_5 he_6 h_3 hw
    have h_4 := hw
    clear hw
    have he_5 := he_5.symm
    subst he_5
    subst he_6
    refine ww_eq (ws' := [(qs, .inr (5, [.ref qt, .ref po, .ref pa, .ref pf, .ref pd, .int nd, .int tn, .int (nI an), .int wr, .int pl])), (pf, .inl (E.2.1 1, 2, .inl af)), (qt, .inr (10, [.ref tb, .int (nI tl), .int (nI ta), .int (nI tk), .int (nI ts)])), (tb, .inl (E.2.1 0, 160, .inl fb))]) ?_ rfl rfl rfl
    refine ww_iconst (v := 4) C dX5_readEventNumber_24 rfl ?_
    refine ww_icmp_lt (tgt := 34) C dX5_readEventNumber_25 (by decide) (fun c_7 => ?_) (fun c_7 => ?_)
    · have zc_7 : (fgv tk fb ts).toInt < 4 := i_lt rfl rfl c_7
      refine ww_aload_n C dX5_readEventNumber_34 0 rfl rfl ?_
      refine ww_get C fg_X5_25 0 rfl rfl dX5_readEventNumber_35 ?_
      refine ww_aload_n C dX5_readEventNumber_38 0 rfl rfl ?_
      refine ww_get C fg_X5_38 0 rfl rfl dX5_readEventNumber_39 ?_
      refine ww_aload_n C dX5_readEventNumber_42 0 rfl rfl ?_
      refine ww_get C fg_X5_12 0 rfl rfl dX5_readEventNumber_43 ?_
      refine ww_ci (wr := [(qs, .inr (5, [.ref qt, .ref po, .ref pa, .ref pf, .ref pd, .int nd, .int tn, .int (nI an), .int wr, .int pl])), (pf, .inl (E.2.1 1, 2, .inl af))]) (k' := 0) (n' := 0) C (run_V (As := []) (rest := [.int (nI an), .ref pf]) C (t_figure X.2.1 E ro qt tb tl ta tk ts fb (by omega) (by omega) (by omega) (by omega) (by omega) hfg) mi_X10_figure wl_X5_85 rfl 0 10 rfl rfl rfl rfl rfl dX5_readEventNumber_46) (roK hro) [2, 3] [0, 1] rfl rfl rfl rfl (fun r_8 uz hw => ?_)
      refine an3 hw ?_
      clear hw
      intro he_11 he_12 h_9 hw
      have h_10 := hw
      clear hw
      have he_11 := he_11.symm
      subst he_11
      subst he_12
      refine ww_eq (ws' := [(qs, .inr (5, [.ref qt, .ref po, .ref pa, .ref pf, .ref pd, .int nd, .int tn, .int (nI an), .int wr, .int pl])), (pf, .inl (E.2.1 1, 2, .inl af)), (qt, .inr (10, [.ref tb, .int (nI tl), .int (nI ta), .int (nI tk), .int (nI ts)])), (tb, .inl (E.2.1 0, 160, .inl fb))]) ?_ rfl rfl rfl
      obtain ⟨f_13, ef_13⟩ : ∃ z : Nat → Int32, upd af an (fgv tk fb ts) = z := ⟨_, rfl⟩
      refine ww_iast (ws' := [(qs, .inr (5, [.ref qt, .ref po, .ref pa, .ref pf, .ref pd, .int nd, .int tn, .int (nI an), .int wr, .int pl])), (pf, .inl (E.2.1 1, 2, .inl f_13)), (qt, .inr (10, [.ref tb, .int (nI tl), .int (nI ta), .int (nI tk), .int (nI ts)])), (tb, .inl (E.2.1 0, 160, .inl fb))]) C 1 rfl (vp_in_nI (by omega) (by omega)) (ldn2 (by omega) ef_13) rfl dX5_readEventNumber_49 ?_
      refine ww_aload_n C dX5_readEventNumber_50 0 rfl rfl ?_
      refine ww_dup C dX5_readEventNumber_51 rfl ?_
      refine ww_get C fg_X5_38 0 rfl rfl dX5_readEventNumber_52 ?_
      refine ww_iconst (v := 1) C dX5_readEventNumber_55 rfl ?_
      refine ww_iadd (v := (nI (an + 1))) C dX5_readEventNumber_56 (nI_add an 1) ?_
      refine ww_put (ws' := [(qs, .inr (5, [.ref qt, .ref po, .ref pa, .ref pf, .ref pd, .int nd, .int tn, .int (nI (an + 1)), .int wr, .int pl])), (pf, .inl (E.2.1 1, 2, .inl f_13)), (qt, .inr (10, [.ref tb, .int (nI tl), .int (nI ta), .int (nI tk), .int (nI ts)])), (tb, .inl (E.2.1 0, 160, .inl fb))]) C fp_X5_38 0 rfl rfl rfl rfl rfl dX5_readEventNumber_57 ?_
      refine ww_aload_n C dX5_readEventNumber_60 0 rfl rfl ?_
      refine ww_ci (wr := [(pf, .inl (E.2.1 1, 2, .inl f_13))]) (k' := 0) (n' := 0) C (run_V (As := []) (rest := []) C (q_next X.2.1 E ro qs qt po pa pf pd nd tn (nI (an + 1)) wr pl tb tl ta (nI tk) (nI ts) fb (by omega) (by omega)) mi_X5_next wl_X5_50 rfl 0 5 rfl rfl rfl rfl rfl dX5_readEventNumber_61) (roK hro) [0, 2, 3] [1] rfl rfl rfl rfl (fun r_14 uz hw => ?_)
      rcases hw with hw | hw
      · refine ex3 hw ?_
        clear hw
        intro ta2_15 tk2_16 ts2_17 hw
        refine an8 hw ?_
        clear hw
        intro he_25 he_26 h_18 h_19 h_20 h_21 h_22 h_23 hw
        have h_24 := hw
        clear hw
        have he_25 := he_25.symm
        subst he_25
        subst he_26
        refine ww_eq (ws' := [(pf, .inl (E.2.1 1, 2, .inl f_13)), (qs, .inr (5, [.ref qt, .ref po, .ref pa, .ref pf, .ref pd, .int nd, .int tn, .int (nI (an + 1)), .int wr, .int pl])), (qt, .inr (10, [.ref tb, .int (nI tl), .int (nI ta2_15), .int (nI tk2_16), .int (nI ts2_17)])), (tb, .inl (E.2.1 0, 160, .inl fb))]) ?_ rfl rfl rfl
        exact ww_zret (u := [(qs, .inr (5, [.ref qt, .ref po, .ref pa, .ref pf, .ref pd, .int nd, .int tn, .int (nI (an + 1)), .int wr, .int pl])), (qt, .inr (10, [.ref tb, .int (nI tl), .int (nI ta2_15), .int (nI tk2_16), .int (nI ts2_17)])), (tb, .inl (E.2.1 0, 160, .inl fb)), (pf, .inl (E.2.1 1, 2, .inl f_13))]) C hT [1, 2, 3, 0] rfl rfl rfl rfl rfl dX5_readEventNumber_64 (Or.inl ⟨ta2_15, tk2_16, ts2_17, f_13, rfl, rfl, (by first | assumption | omega | decide), (by first | assumption | omega | decide), (by first | assumption | omega | decide), (by omega), h_22, (by assumption), (by omega), (by omega), (by have h9 := fgv_z hfg (by omega); omega), (by rw [← fgv_n hfg (by omega)]; exact ef_13), (AFI.ext hafi ef_13 (by omega) (by omega))⟩)
      · refine ex3 hw ?_
        clear hw
        intro ta2_27 tk2_28 ts2_29 hw
        refine an8 hw ?_
        clear hw
        intro he_37 he_38 h_30 h_31 h_32 h_33 h_34 h_35 hw
        have h_36 := hw
        clear hw
        have he_37 := he_37.symm
        subst he_37
        subst he_38
        refine ww_eq (ws' := [(pf, .inl (E.2.1 1, 2, .inl f_13)), (qs, .inr (5, [.ref qt, .ref po, .ref pa, .ref pf, .ref pd, .int nd, .int tn, .int (nI (an + 1)), .int 1, .int (nI ts2_29)])), (qt, .inr (10, [.ref tb, .int (nI tl), .int (nI ta2_27), .int (nI tk2_28), .int (nI ts2_29)])), (tb, .inl (E.2.1 0, 160, .inl fb))]) ?_ rfl rfl rfl
        exact ww_zret (u := [(qs, .inr (5, [.ref qt, .ref po, .ref pa, .ref pf, .ref pd, .int nd, .int tn, .int (nI (an + 1)), .int 1, .int (nI ts2_29)])), (qt, .inr (10, [.ref tb, .int (nI tl), .int (nI ta2_27), .int (nI tk2_28), .int (nI ts2_29)])), (tb, .inl (E.2.1 0, 160, .inl fb)), (pf, .inl (E.2.1 1, 2, .inl f_13))]) C hT [1, 2, 3, 0] rfl rfl rfl rfl rfl dX5_readEventNumber_64 (Or.inr ⟨ta2_27, tk2_28, ts2_29, (nI (an + 1)), 1, ts2_29, f_13, rfl, rfl, (by first | assumption | omega | decide), (by first | assumption | omega | decide), (by first | assumption | omega | decide), (by omega), h_34, (Or.inr ⟨by omega, by have h9 := fgv_z hfg (by omega); omega, h_35.2.1.symm.trans h_36, h_35.1⟩)⟩)
    · have zc_7 : (fgv tk fb ts).toInt ≥ 4 := i_nlt rfl rfl c_7
      refine ww_aload_n C dX5_readEventNumber_28 0 rfl rfl ?_
      refine ww_iconst (v := 3) C dX5_readEventNumber_29 rfl ?_
      refine ww_ci (wr := [(pf, .inl (E.2.1 1, 2, .inl af)), (tb, .inl (E.2.1 0, 160, .inl fb))]) (k' := 0) (n' := 0) C (run_V (As := [.int 3]) (rest := []) C (q_fail X.2.1 E ro qs 3 qt po pa pf pd nd tn (nI an) wr pl tb tl (nI ta) tk ts (by omega)) mi_X5_fail wl_X5_63 rfl 0 5 rfl rfl rfl rfl rfl dX5_readEventNumber_30) (roK hro) [0, 2] [1, 3] rfl rfl rfl rfl (fun r_39 uz hw => ?_)
      refine an1 hw ?_
      clear hw
      intro he_40 hw
      have he_41 := hw
      clear hw
      have he_40 := he_40.symm
      subst he_40
      subst he_41
      refine ww_eq (ws' := [(pf, .inl (E.2.1 1, 2, .inl af)), (tb, .inl (E.2.1 0, 160, .inl fb)), (qs, .inr (5, [.ref qt, .ref po, .ref pa, .ref pf, .ref pd, .int nd, .int tn, .int (nI an), .int 3, .int (nI ts)])), (qt, .inr (10, [.ref tb, .int (nI tl), .int (nI ta), .int (nI tk), .int (nI ts)]))]) ?_ rfl rfl rfl
      exact ww_zret (u := [(qs, .inr (5, [.ref qt, .ref po, .ref pa, .ref pf, .ref pd, .int nd, .int tn, .int (nI an), .int 3, .int (nI ts)])), (qt, .inr (10, [.ref tb, .int (nI tl), .int (nI ta), .int (nI tk), .int (nI ts)])), (tb, .inl (E.2.1 0, 160, .inl fb)), (pf, .inl (E.2.1 1, 2, .inl af))]) C hT [2, 3, 1, 0] rfl rfl rfl rfl rfl dX5_readEventNumber_33 (Or.inr ⟨ta, tk, ts, (nI an), 3, ts, af, rfl, rfl, (by first | assumption | omega | decide), (by first | assumption | omega | decide), (by first | assumption | omega | decide), (by omega), hfg, (Or.inl ⟨Or.inr (by have h9 := fgv_z hfg (by omega); omega), rfl⟩)⟩)
  · have zc_1 : ((tk : Nat) : Int) ≠ 2 := i_ne (nI_toInt (n := tk) (by omega)) rfl c_1
    refine ww_aload_n C dX5_readEventNumber_11 0 rfl rfl ?_
    refine ww_iconst (v := 2) C dX5_readEventNumber_12 rfl ?_
    refine ww_ci (wr := [(tb, .inl (E.2.1 0, 160, .inl fb)), (pf, .inl (E.2.1 1, 2, .inl af))]) (k' := 0) (n' := 0) C (run_V (As := [.int 2]) (rest := []) C (q_fail X.2.1 E ro qs 2 qt po pa pf pd nd tn (nI an) wr pl tb tl (nI ta) tk ts (by omega)) mi_X5_fail wl_X5_63 rfl 0 5 rfl rfl rfl rfl rfl dX5_readEventNumber_13) (roK hro) [0, 1] [2, 3] rfl rfl rfl rfl (fun r_42 uz hw => ?_)
    refine an1 hw ?_
    clear hw
    intro he_43 hw
    have he_44 := hw
    clear hw
    have he_43 := he_43.symm
    subst he_43
    subst he_44
    refine ww_eq (ws' := [(tb, .inl (E.2.1 0, 160, .inl fb)), (pf, .inl (E.2.1 1, 2, .inl af)), (qs, .inr (5, [.ref qt, .ref po, .ref pa, .ref pf, .ref pd, .int nd, .int tn, .int (nI an), .int 2, .int (nI ts)])), (qt, .inr (10, [.ref tb, .int (nI tl), .int (nI ta), .int (nI tk), .int (nI ts)]))]) ?_ rfl rfl rfl
    exact ww_zret (u := [(qs, .inr (5, [.ref qt, .ref po, .ref pa, .ref pf, .ref pd, .int nd, .int tn, .int (nI an), .int 2, .int (nI ts)])), (qt, .inr (10, [.ref tb, .int (nI tl), .int (nI ta), .int (nI tk), .int (nI ts)])), (tb, .inl (E.2.1 0, 160, .inl fb)), (pf, .inl (E.2.1 1, 2, .inl af))]) C hT [2, 3, 0, 1] rfl rfl rfl rfl rfl dX5_readEventNumber_16 (Or.inr ⟨ta, tk, ts, (nI an), 2, ts, af, rfl, rfl, (by first | assumption | omega | decide), (by first | assumption | omega | decide), (by first | assumption | omega | decide), (by omega), hfg, (Or.inl ⟨Or.inl (by omega), rfl⟩)⟩)
end
section
theorem dX5_readAfters_0 : decode cX5_readAfters 0 = .ok (.iconst 0, 1) := dl_3 (by decide +kernel)
theorem dX5_readAfters_1 : decode cX5_readAfters 1 = .ok (.istore_n 1, 1) := dl_60 (by decide +kernel)
theorem dX5_readAfters_2 : decode cX5_readAfters 2 = .ok (.iload_n 1, 1) := dl_27 (by decide +kernel)
theorem dX5_readAfters_3 : decode cX5_readAfters 3 = .ok (.iconst 2, 1) := dl_5 (by decide +kernel)
theorem dX5_readAfters_4 : decode cX5_readAfters 4 = .ok (.if_icmp .gt 48, 3) := dl_163 (by decide +kernel)
theorem dX5_readAfters_7 : decode cX5_readAfters 7 = .ok (.aload_n 0, 1) := dl_42 (by decide +kernel)
theorem dX5_readAfters_8 : decode cX5_readAfters 8 = .ok (.getfield 12, 3) := dl_180 (by decide +kernel)
theorem dX5_readAfters_11 : decode cX5_readAfters 11 = .ok (.ldc 77, 2) := dl_18 (by decide +kernel)
theorem dX5_readAfters_13 : decode cX5_readAfters 13 = .ok (.invokevirtual 78, 3) := dl_182 (by decide +kernel)
theorem wl_X5_78 : Cond.methodLink RX5 78 yX10_isName ∈ TB := tbm (tq3 (List.mem_of_getElem? (i := 38) (by decide +kernel))) (by decide +kernel)
theorem wc_X10_isName : Cond.code yX10_isName cX10_isName 3 (some .boolean) ∈ TB := tbm (tq3 (List.mem_of_getElem? (i := 41) (rfl))) (by decide +kernel)
theorem wi_X10_isName : Cond.instanceMethod yX10_isName ∈ TB := tbm (tq3 (List.mem_of_getElem? (i := 39) (by decide +kernel))) (by decide +kernel)
theorem ws_X10_isName : Cond.selects RX10 yX10_isName yX10_isName ∈ TB := tbm (tq3 (List.mem_of_getElem? (i := 40) (by decide +kernel))) (by decide +kernel)
theorem mi_X10_isName : MI yX10_isName cX10_isName 3 (some .boolean) 1 := ⟨wc_X10_isName, wn_X10, ⟨by decide +kernel, by decide +kernel, by decide +kernel⟩, wi_X10_isName, ws_X10_isName⟩
theorem dX5_readAfters_16 : decode cX5_readAfters 16 = .ok (.ifCond .eq 36, 3) := dl_153 (by decide +kernel)
theorem dX5_readAfters_19 : decode cX5_readAfters 19 = .ok (.iload_n 1, 1) := dl_27 (by decide +kernel)
theorem dX5_readAfters_20 : decode cX5_readAfters 20 = .ok (.iconst 2, 1) := dl_5 (by decide +kernel)
theorem dX5_readAfters_21 : decode cX5_readAfters 21 = .ok (.if_icmp .ne 9, 3) := dl_160 (by decide +kernel)
theorem dX5_readAfters_30 : decode cX5_readAfters 30 = .ok (.aload_n 0, 1) := dl_42 (by decide +kernel)
theorem dX5_readAfters_31 : decode cX5_readAfters 31 = .ok (.invokevirtual 50, 3) := dl_182 (by decide +kernel)
theorem dX5_readAfters_34 : decode cX5_readAfters 34 = .ok (.ifCond .eq 10, 3) := dl_153 (by decide +kernel)
theorem dX5_readAfters_37 : decode cX5_readAfters 37 = .ok (.aload_n 0, 1) := dl_42 (by decide +kernel)
theorem dX5_readAfters_38 : decode cX5_readAfters 38 = .ok (.invokevirtual 82, 3) := dl_182 (by decide +kernel)
theorem wl_X5_82 : Cond.methodLink RX5 82 yX5_readEventNumber ∈ TB := tbm (tq3 (List.mem_of_getElem? (i := 90) (by decide +kernel))) (by decide +kernel)
theorem wc_X5_readEventNumber : Cond.code yX5_readEventNumber cX5_readEventNumber 1 (some .boolean) ∈ TB := tbm (tq3 (List.mem_of_getElem? (i := 93) (rfl))) (by decide +kernel)
theorem wi_X5_readEventNumber : Cond.instanceMethod yX5_readEventNumber ∈ TB := tbm (tq3 (List.mem_of_getElem? (i := 92) (by decide +kernel))) (by decide +kernel)
theorem ws_X5_readEventNumber : Cond.selects RX5 yX5_readEventNumber yX5_readEventNumber ∈ TB := tbm (tq0 (List.mem_of_getElem? (i := 7) (by decide +kernel))) (by decide +kernel)
theorem mi_X5_readEventNumber : MI yX5_readEventNumber cX5_readEventNumber 1 (some .boolean) 0 := ⟨wc_X5_readEventNumber, wn_X5, ⟨by decide +kernel, by decide +kernel, by decide +kernel⟩, wi_X5_readEventNumber, ws_X5_readEventNumber⟩
theorem dX5_readAfters_41 : decode cX5_readAfters 41 = .ok (.ifCond .ne 5, 3) := dl_154 (by decide +kernel)
theorem dX5_readAfters_46 : decode cX5_readAfters 46 = .ok (.iinc 1 1, 3) := dl_132 (by decide +kernel)
theorem dX5_readAfters_49 : decode cX5_readAfters 49 = .ok (.goto (-47), 3) := dl_167 (by decide +kernel)
theorem dX5_readAfters_24 : decode cX5_readAfters 24 = .ok (.aload_n 0, 1) := dl_42 (by decide +kernel)
theorem dX5_readAfters_25 : decode cX5_readAfters 25 = .ok (.iconst 4, 1) := dl_7 (by decide +kernel)
theorem dX5_readAfters_26 : decode cX5_readAfters 26 = .ok (.invokevirtual 63, 3) := dl_182 (by decide +kernel)
theorem dX5_readAfters_29 : decode cX5_readAfters 29 = .ok (.ireturn, 1) := dl_172 (by decide +kernel)
theorem dX5_readAfters_52 : decode cX5_readAfters 52 = .ok (.iconst 1, 1) := dl_4 (by decide +kernel)
theorem dX5_readAfters_53 : decode cX5_readAfters 53 = .ok (.ireturn, 1) := dl_172 (by decide +kernel)
theorem dX5_readAfters_44 : decode cX5_readAfters 44 = .ok (.iconst 0, 1) := dl_3 (by decide +kernel)
theorem dX5_readAfters_45 : decode cX5_readAfters 45 = .ok (.ireturn, 1) := dl_172 (by decide +kernel)
set_option maxRecDepth 100000 in
set_option maxHeartbeats 4000000 in
theorem q_readAfters (l : Launch) (E : EV) (ro : va_W) (qs : Nat) (qt : Nat) (po : Nat) (pa : Nat) (pf : Nat) (pd : Nat) (nd : Int32) (tn : Int32) (wr : Int32) (pl : Int32) (tb : Nat) (tl : Nat) (ta : Nat) (tk : Nat) (ts : Nat) (fb : Nat → Int32) (af : Nat → Int32) (p_ : Nat) (hts : ts ≤ ta) (hta : ta ≤ tl) (htl : tl ≤ 160) (htk : tk ≤ 3) (hs9 : tk = 2 → ts < ta) (hfg : TX (cz fb tl) ts tk ta) (htok : TK (cz fb tl) p_ ts tk ta) : CT l yX5_readAfters (Cond.code yX5_readAfters cX5_readAfters 2 (some .boolean) :: TB) ({ frames := 5, cells := 0, slots := 0, locals := 107 }) E ro [.ref qs] [(qs, .inr (5, [.ref qt, .ref po, .ref pa, .ref pf, .ref pd, .int nd, .int tn, .int 0, .int wr, .int pl])), (qt, .inr (10, [.ref tb, .int (nI tl), .int (nI ta), .int (nI tk), .int (nI ts)])), (tb, .inl (E.2.1 0, 160, .inl fb)), (pf, .inl (E.2.1 1, 2, .inl af))] (Qi E (fun (rz : Int32) uz => (∃ (ta2 : Nat) (tk2 : Nat) (ts2 : Nat) (an2 : Nat) (p2 : Nat) (v_ : Nat) (w_ : Nat) (af2 : Nat → Int32), rz = 1 ∧ uz = [(qs, .inr (5, [.ref qt, .ref po, .ref pa, .ref pf, .ref pd, .int nd, .int tn, .int (nI an2), .int wr, .int pl])), (qt, .inr (10, [.ref tb, .int (nI tl), .int (nI ta2), .int (nI tk2), .int (nI ts2)])), (tb, .inl (E.2.1 0, 160, .inl fb)), (pf, .inl (E.2.1 1, 2, .inl af2))] ∧ (ts2 ≤ ta2) ∧ (ta2 ≤ tl) ∧ (tk2 ≤ 3) ∧ (tk2 = 2 → ts2 < ta2) ∧ (TX (cz fb tl) ts2 tk2 ta2) ∧ (TK (cz fb tl) p2 ts2 tk2 ta2) ∧ (an2 ≤ 2) ∧ (AFI an2 af2) ∧ (afC (cz fb tl) 3 p_ 0 0 0 = .inr (p2, an2, v_, w_)) ∧ ((0 < an2 → af2 0 = nI v_) ∧ (1 < an2 → af2 1 = nI w_))) ∨ (∃ (ta2 : Nat) (tk2 : Nat) (ts2 : Nat) (an2 : Int32) (wr2 : Int32) (pl2 : Nat) (af2 : Nat → Int32), rz = 0 ∧ uz = [(qs, .inr (5, [.ref qt, .ref po, .ref pa, .ref pf, .ref pd, .int nd, .int tn, .int an2, .int wr2, .int (nI pl2)])), (qt, .inr (10, [.ref tb, .int (nI tl), .int (nI ta2), .int (nI tk2), .int (nI ts2)])), (tb, .inl (E.2.1 0, 160, .inl fb)), (pf, .inl (E.2.1 1, 2, .inl af2))] ∧ (ts2 ≤ ta2) ∧ (ta2 ≤ tl) ∧ (tk2 ≤ 3) ∧ (tk2 = 2 → ts2 < ta2) ∧ (TX (cz fb tl) ts2 tk2 ta2) ∧ (afC (cz fb tl) 3 p_ 0 0 0 = .inl pl2)))) 0 0 := by
  refine ct_of rfl rfl ?_
  intro X C hT hin hro
  show WW X 2 E 0 [(0, .ref qs)] [] [(qs, .inr (5, [.ref qt, .ref po, .ref pa, .ref pf, .ref pd, .int nd, .int tn, .int 0, .int wr, .int pl])), (qt, .inr (10, [.ref tb, .int (nI tl), .int (nI ta), .int (nI tk), .int (nI ts)])), (tb, .inl (E.2.1 0, 160, .inl fb)), (pf, .inl (E.2.1 1, 2, .inl af))] 0 0
  refine ww_iconst (v := 0) C dX5_readAfters_0 rfl ?_
  refine ww_istore_n (lv' := [(1, .int 0), (0, .ref qs)]) C dX5_readAfters_1 rfl rfl rfl ?_
  refine ww_iload_n C dX5_readAfters_2 0 rfl rfl ?_
  refine ww_iconst (v := 2) C dX5_readAfters_3 rfl ?_
  refine ww_icmp_gt_f (tgt := 52) C dX5_readAfters_4 (by decide) (by decide) ?_
  refine ww_aload_n C dX5_readAfters_7 1 rfl rfl ?_
  refine ww_get C fg_X5_12 0 rfl rfl dX5_readAfters_8 ?_
  refine ww_ldcS (tx := "after") C (List.mem_of_getElem? (i := 0) rfl) rfl dX5_readAfters_11 ?_
  refine ww_ci (wr := [(qs, .inr (5, [.ref qt, .ref po, .ref pa, .ref pf, .ref pd, .int nd, .int tn, .int 0, .int wr, .int pl])), (pf, .inl (E.2.1 1, 2, .inl af))]) (k' := 0) (n' := 0) C (run_V (As := [.ref (E.2.2 77)]) (rest := []) C (t_isName X.2.1 E ro qt tb tl ta tk ts fb 0 (by decide) (by omega) (by omega) (by omega) (by omega)) mi_X10_isName wl_X5_78 rfl 0 10 rfl rfl rfl rfl rfl dX5_readAfters_13) (roK hro) [1, 2] [0, 3] rfl rfl rfl rfl (fun r_1 uz hw => ?_)
  rcases hw with hw | hw
  · refine an2 hw ?_
    clear hw
    intro he_3 he_4 hw
    have h_2 := hw
    clear hw
    have he_3 := he_3.symm
    subst he_3
    subst he_4
    refine ww_eq (ws' := [(qs, .inr (5, [.ref qt, .ref po, .ref pa, .ref pf, .ref pd, .int nd, .int tn, .int 0, .int wr, .int pl])), (pf, .inl (E.2.1 1, 2, .inl af)), (qt, .inr (10, [.ref tb, .int (nI tl), .int (nI ta), .int (nI tk), .int (nI ts)])), (tb, .inl (E.2.1 0, 160, .inl fb))]) ?_ rfl rfl rfl
    refine ww_if_eq_f (tgt := 52) C dX5_readAfters_16 (by decide) (by decide) ?_
    refine ww_iload_n C dX5_readAfters_19 0 rfl rfl ?_
    refine ww_iconst (v := 2) C dX5_readAfters_20 rfl ?_
    refine ww_icmp_ne_t (tgt := 30) C dX5_readAfters_21 (by decide) (by decide) ?_
    refine ww_aload_n C dX5_readAfters_30 1 rfl rfl ?_
    refine ww_ci (wr := [(pf, .inl (E.2.1 1, 2, .inl af))]) (k' := 0) (n' := 0) C (run_V (As := []) (rest := []) C (q_next X.2.1 E ro qs qt po pa pf pd nd tn 0 wr pl tb tl ta (nI tk) (nI ts) fb (by omega) (by omega)) mi_X5_next wl_X5_50 rfl 0 5 rfl rfl rfl rfl rfl dX5_readAfters_31) (roK hro) [0, 2, 3] [1] rfl rfl rfl rfl (fun r_8 uz hw => ?_)
    rcases hw with hw | hw
    · refine ex3 hw ?_
      clear hw
      intro ta2_9 tk2_10 ts2_11 hw
      refine an8 hw ?_
      clear hw
      intro he_19 he_20 h_12 h_13 h_14 h_15 h_16 h_17 hw
      have h_18 := hw
      clear hw
      have he_19 := he_19.symm
      subst he_19
      subst he_20
      refine ww_eq (ws' := [(pf, .inl (E.2.1 1, 2, .inl af)), (qs, .inr (5, [.ref qt, .ref po, .ref pa, .ref pf, .ref pd, .int nd, .int tn, .int 0, .int wr, .int pl])), (qt, .inr (10, [.ref tb, .int (nI tl), .int (nI ta2_9), .int (nI tk2_10), .int (nI ts2_11)])), (tb, .inl (E.2.1 0, 160, .inl fb))]) ?_ rfl rfl rfl
      refine ww_if_eq_f (tgt := 44) C dX5_readAfters_34 (by decide) (by decide) ?_
      refine ww_aload_n C dX5_readAfters_37 1 rfl rfl ?_
      refine ww_ci (wr := []) (k' := 0) (n' := 0) C (run_V (As := []) (rest := []) C (q_readEventNumber X.2.1 E ro qs qt po pa pf pd nd tn 0 wr pl tb tl ta2_9 tk2_10 ts2_11 fb af (by omega) (by omega) (by omega) (by omega) (by omega) h_16 (by omega) (by first | assumption | exact AFI.nil)) mi_X5_readEventNumber wl_X5_82 rfl 0 5 rfl rfl rfl rfl rfl dX5_readAfters_38) (roK hro) [1, 2, 3, 0] [] rfl rfl rfl rfl (fun r_33 uz hw => ?_)
      rcases hw with hw | hw
      · refine ex4 hw ?_
        clear hw
        intro ta2_34 tk2_35 ts2_36 af2_37 hw
        refine an8 hw ?_
        clear hw
        intro he_49 he_50 h_38 h_39 h_40 h_41 h_42 h_43 hw
        refine an4 hw ?_
        clear hw
        intro h_44 h_45 h_46 h_47 hw
        have h_48 := hw
        clear hw
        have he_49 := he_49.symm
        subst he_49
        subst he_50
        refine ww_eq (ws' := [(qs, .inr (5, [.ref qt, .ref po, .ref pa, .ref pf, .ref pd, .int nd, .int tn, .int (nI (0 + 1)), .int wr, .int pl])), (qt, .inr (10, [.ref tb, .int (nI tl), .int (nI ta2_34), .int (nI tk2_35), .int (nI ts2_36)])), (tb, .inl (E.2.1 0, 160, .inl fb)), (pf, .inl (E.2.1 1, 2, .inl af2_37))]) ?_ rfl rfl rfl
        refine ww_if_ne_t (tgt := 46) C dX5_readAfters_41 (by decide) (by decide) ?_
        have ch_66 := ag_go (f := 2) (v := 0) (w := 0) htok (show IN (cz fb tl) _ _ _ 13 from h_2) (by decide : 0 < 2) h_17 h_45 h_46 h_43 h_44
        simp only [if_true, Nat.zero_add] at ch_66
        have ch_66k := h_43
        refine ww_iinc (j := 0) (v := 1) (lv' := [(1, .int 1), (0, .ref qs)]) C dX5_readAfters_46 rfl rfl rfl rfl ?_
        refine ww_goto (tgt := 2) C dX5_readAfters_49 (by decide) ?_
        refine ww_iload_n C dX5_readAfters_2 0 rfl rfl ?_
        refine ww_iconst (v := 2) C dX5_readAfters_3 rfl ?_
        refine ww_icmp_gt_f (tgt := 52) C dX5_readAfters_4 (by decide) (by decide) ?_
        refine ww_aload_n C dX5_readAfters_7 1 rfl rfl ?_
        refine ww_get C fg_X5_12 0 rfl rfl dX5_readAfters_8 ?_
        refine ww_ldcS (tx := "after") C (List.mem_of_getElem? (i := 0) rfl) rfl dX5_readAfters_11 ?_
        refine ww_ci (wr := [(qs, .inr (5, [.ref qt, .ref po, .ref pa, .ref pf, .ref pd, .int nd, .int tn, .int (nI (0 + 1)), .int wr, .int pl])), (pf, .inl (E.2.1 1, 2, .inl af2_37))]) (k' := 0) (n' := 0) C (run_V (As := [.ref (E.2.2 77)]) (rest := []) C (t_isName X.2.1 E ro qt tb tl ta2_34 tk2_35 ts2_36 fb 0 (by decide) (by omega) (by omega) (by omega) (by omega)) mi_X10_isName wl_X5_78 rfl 0 10 rfl rfl rfl rfl rfl dX5_readAfters_13) (roK hro) [1, 2] [0, 3] rfl rfl rfl rfl (fun r_67 uz hw => ?_)
        rcases hw with hw | hw
        · refine an2 hw ?_
          clear hw
          intro he_69 he_70 hw
          have h_68 := hw
          clear hw
          have he_69 := he_69.symm
          subst he_69
          subst he_70
          refine ww_eq (ws' := [(qs, .inr (5, [.ref qt, .ref po, .ref pa, .ref pf, .ref pd, .int nd, .int tn, .int (nI (0 + 1)), .int wr, .int pl])), (pf, .inl (E.2.1 1, 2, .inl af2_37)), (qt, .inr (10, [.ref tb, .int (nI tl), .int (nI ta2_34), .int (nI tk2_35), .int (nI ts2_36)])), (tb, .inl (E.2.1 0, 160, .inl fb))]) ?_ rfl rfl rfl
          refine ww_if_eq_f (tgt := 52) C dX5_readAfters_16 (by decide) (by decide) ?_
          refine ww_iload_n C dX5_readAfters_19 0 rfl rfl ?_
          refine ww_iconst (v := 2) C dX5_readAfters_20 rfl ?_
          refine ww_icmp_ne_t (tgt := 30) C dX5_readAfters_21 (by decide) (by decide) ?_
          refine ww_aload_n C dX5_readAfters_30 1 rfl rfl ?_
          refine ww_ci (wr := [(pf, .inl (E.2.1 1, 2, .inl af2_37))]) (k' := 0) (n' := 0) C (run_V (As := []) (rest := []) C (q_next X.2.1 E ro qs qt po pa pf pd nd tn (nI (0 + 1)) wr pl tb tl ta2_34 (nI tk2_35) (nI ts2_36) fb (by omega) (by omega)) mi_X5_next wl_X5_50 rfl 0 5 rfl rfl rfl rfl rfl dX5_readAfters_31) (roK hro) [0, 2, 3] [1] rfl rfl rfl rfl (fun r_74 uz hw => ?_)
          rcases hw with hw | hw
          · refine ex3 hw ?_
            clear hw
            intro ta2_75 tk2_76 ts2_77 hw
            refine an8 hw ?_
            clear hw
            intro he_85 he_86 h_78 h_79 h_80 h_81 h_82 h_83 hw
            have h_84 := hw
            clear hw
            have he_85 := he_85.symm
            subst he_85
            subst he_86
            refine ww_eq (ws' := [(pf, .inl (E.2.1 1, 2, .inl af2_37)), (qs, .inr (5, [.ref qt, .ref po, .ref pa, .ref pf, .ref pd, .int nd, .int tn, .int (nI (0 + 1)), .int wr, .int pl])), (qt, .inr (10, [.ref tb, .int (nI tl), .int (nI ta2_75), .int (nI tk2_76), .int (nI ts2_77)])), (tb, .inl (E.2.1 0, 160, .inl fb))]) ?_ rfl rfl rfl
            refine ww_if_eq_f (tgt := 44) C dX5_readAfters_34 (by decide) (by decide) ?_
            refine ww_aload_n C dX5_readAfters_37 1 rfl rfl ?_
            refine ww_ci (wr := []) (k' := 0) (n' := 0) C (run_V (As := []) (rest := []) C (q_readEventNumber X.2.1 E ro qs qt po pa pf pd nd tn (0 + 1) wr pl tb tl ta2_75 tk2_76 ts2_77 fb af2_37 (by omega) (by omega) (by omega) (by omega) (by omega) h_82 (by omega) (by first | assumption | exact AFI.nil)) mi_X5_readEventNumber wl_X5_82 rfl 0 5 rfl rfl rfl rfl rfl dX5_readAfters_38) (roK hro) [1, 2, 3, 0] [] rfl rfl rfl rfl (fun r_99 uz hw => ?_)
            rcases hw with hw | hw
            · refine ex4 hw ?_
              clear hw
              intro ta2_100 tk2_101 ts2_102 af2_103 hw
              refine an8 hw ?_
              clear hw
              intro he_115 he_116 h_104 h_105 h_106 h_107 h_108 h_109 hw
              refine an4 hw ?_
              clear hw
              intro h_110 h_111 h_112 h_113 hw
              have h_114 := hw
              clear hw
              have he_115 := he_115.symm
              subst he_115
              subst he_116
              refine ww_eq (ws' := [(qs, .inr (5, [.ref qt, .ref po, .ref pa, .ref pf, .ref pd, .int nd, .int tn, .int (nI ((0 + 1) + 1)), .int wr, .int pl])), (qt, .inr (10, [.ref tb, .int (nI tl), .int (nI ta2_100), .int (nI tk2_101), .int (nI ts2_102)])), (tb, .inl (E.2.1 0, 160, .inl fb)), (pf, .inl (E.2.1 1, 2, .inl af2_103))]) ?_ rfl rfl rfl
              refine ww_if_ne_t (tgt := 46) C dX5_readAfters_41 (by decide) (by decide) ?_
              have ch_132 := ch_66.trans (ag_go (f := 1) (v := ((cz fb tl ts2_11 - 48).toNat)) (w := 0) ch_66k (show IN (cz fb tl) _ _ _ 13 from h_68) (by decide : 1 < 2) h_83 h_111 h_112 h_109 h_110)
              simp only [Nat.one_ne_zero, if_false, Nat.reduceAdd] at ch_132
              have ch_132k := h_109
              refine ww_iinc (j := 0) (v := 2) (lv' := [(1, .int 2), (0, .ref qs)]) C dX5_readAfters_46 rfl rfl rfl rfl ?_
              refine ww_goto (tgt := 2) C dX5_readAfters_49 (by decide) ?_
              refine ww_iload_n C dX5_readAfters_2 0 rfl rfl ?_
              refine ww_iconst (v := 2) C dX5_readAfters_3 rfl ?_
              refine ww_icmp_gt_f (tgt := 52) C dX5_readAfters_4 (by decide) (by decide) ?_
              refine ww_aload_n C dX5_readAfters_7 1 rfl rfl ?_
              refine ww_get C fg_X5_12 0 rfl rfl dX5_readAfters_8 ?_
              refine ww_ldcS (tx := "after") C (List.mem_of_getElem? (i := 0) rfl) rfl dX5_readAfters_11 ?_
              refine ww_ci (wr := [(qs, .inr (5, [.ref qt, .ref po, .ref pa, .ref pf, .ref pd, .int nd, .int tn, .int (nI ((0 + 1) + 1)), .int wr, .int pl])), (pf, .inl (E.2.1 1, 2, .inl af2_103))]) (k' := 0) (n' := 0) C (run_V (As := [.ref (E.2.2 77)]) (rest := []) C (t_isName X.2.1 E ro qt tb tl ta2_100 tk2_101 ts2_102 fb 0 (by decide) (by omega) (by omega) (by omega) (by omega)) mi_X10_isName wl_X5_78 rfl 0 10 rfl rfl rfl rfl rfl dX5_readAfters_13) (roK hro) [1, 2] [0, 3] rfl rfl rfl rfl (fun r_133 uz hw => ?_)
              rcases hw with hw | hw
              · refine an2 hw ?_
                clear hw
                intro he_135 he_136 hw
                have h_134 := hw
                clear hw
                have he_135 := he_135.symm
                subst he_135
                subst he_136
                refine ww_eq (ws' := [(qs, .inr (5, [.ref qt, .ref po, .ref pa, .ref pf, .ref pd, .int nd, .int tn, .int (nI ((0 + 1) + 1)), .int wr, .int pl])), (pf, .inl (E.2.1 1, 2, .inl af2_103)), (qt, .inr (10, [.ref tb, .int (nI tl), .int (nI ta2_100), .int (nI tk2_101), .int (nI ts2_102)])), (tb, .inl (E.2.1 0, 160, .inl fb))]) ?_ rfl rfl rfl
                refine ww_if_eq_f (tgt := 52) C dX5_readAfters_16 (by decide) (by decide) ?_
                refine ww_iload_n C dX5_readAfters_19 0 rfl rfl ?_
                refine ww_iconst (v := 2) C dX5_readAfters_20 rfl ?_
                refine ww_icmp_ne_f (tgt := 30) C dX5_readAfters_21 (by decide) (rfl) ?_
                refine ww_aload_n C dX5_readAfters_24 1 rfl rfl ?_
                refine ww_iconst (v := 4) C dX5_readAfters_25 rfl ?_
                refine ww_ci (wr := [(pf, .inl (E.2.1 1, 2, .inl af2_103)), (tb, .inl (E.2.1 0, 160, .inl fb))]) (k' := 0) (n' := 0) C (run_V (As := [.int 4]) (rest := []) C (q_fail X.2.1 E ro qs 4 qt po pa pf pd nd tn (nI ((0 + 1) + 1)) wr pl tb tl (nI ta2_100) tk2_101 ts2_102 (by omega)) mi_X5_fail wl_X5_63 rfl 0 5 rfl rfl rfl rfl rfl dX5_readAfters_26) (roK hro) [0, 2] [1, 3] rfl rfl rfl rfl (fun r_140 uz hw => ?_)
                refine an1 hw ?_
                clear hw
                intro he_141 hw
                have he_142 := hw
                clear hw
                have he_141 := he_141.symm
                subst he_141
                subst he_142
                refine ww_eq (ws' := [(pf, .inl (E.2.1 1, 2, .inl af2_103)), (tb, .inl (E.2.1 0, 160, .inl fb)), (qs, .inr (5, [.ref qt, .ref po, .ref pa, .ref pf, .ref pd, .int nd, .int tn, .int (nI ((0 + 1) + 1)), .int 4, .int (nI ts2_102)])), (qt, .inr (10, [.ref tb, .int (nI tl), .int (nI ta2_100), .int (nI tk2_101), .int (nI ts2_102)]))]) ?_ rfl rfl rfl
                exact ww_zret (u := [(qs, .inr (5, [.ref qt, .ref po, .ref pa, .ref pf, .ref pd, .int nd, .int tn, .int (nI ((0 + 1) + 1)), .int 4, .int (nI ts2_102)])), (qt, .inr (10, [.ref tb, .int (nI tl), .int (nI ta2_100), .int (nI tk2_101), .int (nI ts2_102)])), (tb, .inl (E.2.1 0, 160, .inl fb)), (pf, .inl (E.2.1 1, 2, .inl af2_103))]) C hT [2, 3, 1, 0] rfl rfl rfl rfl rfl dX5_readAfters_29 (Or.inr ⟨ta2_100, tk2_101, ts2_102, (nI ((0 + 1) + 1)), 4, ts2_102, af2_103, rfl, rfl, (by first | assumption | omega | decide), (by first | assumption | omega | decide), (by first | assumption | omega | decide), (by omega), h_108, (ch_132.trans (ag_b1 ch_132k (show IN (cz fb tl) _ _ _ 13 from h_134) (by decide)))⟩)
              · refine an2 hw ?_
                clear hw
                intro he_138 he_139 hw
                have h_137 := hw
                clear hw
                have he_138 := he_138.symm
                subst he_138
                subst he_139
                refine ww_eq (ws' := [(qs, .inr (5, [.ref qt, .ref po, .ref pa, .ref pf, .ref pd, .int nd, .int tn, .int (nI ((0 + 1) + 1)), .int wr, .int pl])), (pf, .inl (E.2.1 1, 2, .inl af2_103)), (qt, .inr (10, [.ref tb, .int (nI tl), .int (nI ta2_100), .int (nI tk2_101), .int (nI ts2_102)])), (tb, .inl (E.2.1 0, 160, .inl fb))]) ?_ rfl rfl rfl
                refine ww_if_eq_t (tgt := 52) C dX5_readAfters_16 (by decide) (rfl) ?_
                refine ww_iconst (v := 1) C dX5_readAfters_52 rfl ?_
                exact ww_zret (u := [(qs, .inr (5, [.ref qt, .ref po, .ref pa, .ref pf, .ref pd, .int nd, .int tn, .int (nI ((0 + 1) + 1)), .int wr, .int pl])), (qt, .inr (10, [.ref tb, .int (nI tl), .int (nI ta2_100), .int (nI tk2_101), .int (nI ts2_102)])), (tb, .inl (E.2.1 0, 160, .inl fb)), (pf, .inl (E.2.1 1, 2, .inl af2_103))]) C hT [0, 2, 3, 1] rfl rfl rfl rfl rfl dX5_readAfters_53 (Or.inl ⟨ta2_100, tk2_101, ts2_102, ((0 + 1) + 1), ta2_75, ((cz fb tl ts2_11 - 48).toNat), ((cz fb tl ts2_77 - 48).toNat), af2_103, rfl, rfl, (by first | assumption | omega | decide), (by first | assumption | omega | decide), (by first | assumption | omega | decide), (by omega), h_108, ch_132k, (by omega), (by first | assumption | exact AFI.nil), (ch_132.trans (ag_stop ch_132k (show ¬ IN (cz fb tl) _ _ _ 13 from h_137))), ⟨fun _ => by rw [← h_113, pk_un (by decide), ← h_47, pk_us], fun _ => by rw [← h_113, pk_us]⟩⟩)
            · refine ex7 hw ?_
              clear hw
              intro ta2_117 tk2_118 ts2_119 an2_120 wr2_121 pl2_122 af2_123 hw
              refine an7 hw ?_
              clear hw
              intro he_130 he_131 h_124 h_125 h_126 h_127 h_128 hw
              have h_129 := hw
              clear hw
              have he_130 := he_130.symm
              subst he_130
              subst he_131
              refine ww_eq (ws' := [(qs, .inr (5, [.ref qt, .ref po, .ref pa, .ref pf, .ref pd, .int nd, .int tn, .int an2_120, .int wr2_121, .int (nI pl2_122)])), (qt, .inr (10, [.ref tb, .int (nI tl), .int (nI ta2_117), .int (nI tk2_118), .int (nI ts2_119)])), (tb, .inl (E.2.1 0, 160, .inl fb)), (pf, .inl (E.2.1 1, 2, .inl af2_123))]) ?_ rfl rfl rfl
              refine ww_if_ne_f (tgt := 46) C dX5_readAfters_41 (by decide) (rfl) ?_
              refine ww_iconst (v := 0) C dX5_readAfters_44 rfl ?_
              exact ww_zret (u := [(qs, .inr (5, [.ref qt, .ref po, .ref pa, .ref pf, .ref pd, .int nd, .int tn, .int an2_120, .int wr2_121, .int (nI pl2_122)])), (qt, .inr (10, [.ref tb, .int (nI tl), .int (nI ta2_117), .int (nI tk2_118), .int (nI ts2_119)])), (tb, .inl (E.2.1 0, 160, .inl fb)), (pf, .inl (E.2.1 1, 2, .inl af2_123))]) C hT [0, 1, 2, 3] rfl rfl rfl rfl rfl dX5_readAfters_45 (Or.inr ⟨ta2_117, tk2_118, ts2_119, an2_120, wr2_121, pl2_122, af2_123, rfl, rfl, (by first | assumption | omega | decide), (by first | assumption | omega | decide), (by first | assumption | omega | decide), (by omega), h_128, (h_129.elim (fun q => by rw [q.2]; exact (ch_66.trans (ag_b2 ch_66k (show IN (cz fb tl) _ _ _ 13 from h_68) (by decide) h_83 q.1))) (fun q => by rw [q.2.2.2]; exact (ch_66.trans (ag_b3 ch_66k (show IN (cz fb tl) _ _ _ 13 from h_68) (by decide) h_83 q.1 q.2.1 q.2.2.1))))⟩)
          · refine ex3 hw ?_
            clear hw
            intro ta2_87 tk2_88 ts2_89 hw
            refine an8 hw ?_
            clear hw
            intro he_97 he_98 h_90 h_91 h_92 h_93 h_94 h_95 hw
            have h_96 := hw
            clear hw
            have he_97 := he_97.symm
            subst he_97
            subst he_98
            refine ww_eq (ws' := [(pf, .inl (E.2.1 1, 2, .inl af2_37)), (qs, .inr (5, [.ref qt, .ref po, .ref pa, .ref pf, .ref pd, .int nd, .int tn, .int (nI (0 + 1)), .int 1, .int (nI ts2_89)])), (qt, .inr (10, [.ref tb, .int (nI tl), .int (nI ta2_87), .int (nI tk2_88), .int (nI ts2_89)])), (tb, .inl (E.2.1 0, 160, .inl fb))]) ?_ rfl rfl rfl
            refine ww_if_eq_t (tgt := 44) C dX5_readAfters_34 (by decide) (rfl) ?_
            refine ww_iconst (v := 0) C dX5_readAfters_44 rfl ?_
            exact ww_zret (u := [(qs, .inr (5, [.ref qt, .ref po, .ref pa, .ref pf, .ref pd, .int nd, .int tn, .int (nI (0 + 1)), .int 1, .int (nI ts2_89)])), (qt, .inr (10, [.ref tb, .int (nI tl), .int (nI ta2_87), .int (nI tk2_88), .int (nI ts2_89)])), (tb, .inl (E.2.1 0, 160, .inl fb)), (pf, .inl (E.2.1 1, 2, .inl af2_37))]) C hT [1, 2, 3, 0] rfl rfl rfl rfl rfl dX5_readAfters_45 (Or.inr ⟨ta2_87, tk2_88, ts2_89, (nI (0 + 1)), 1, ts2_89, af2_37, rfl, rfl, (by first | assumption | omega | decide), (by first | assumption | omega | decide), (by first | assumption | omega | decide), (by omega), h_94, (ch_66.trans (ag_b2 ch_66k (show IN (cz fb tl) _ _ _ 13 from h_68) (by decide) h_95 (Or.inl (by omega))))⟩)
        · refine an2 hw ?_
          clear hw
          intro he_72 he_73 hw
          have h_71 := hw
          clear hw
          have he_72 := he_72.symm
          subst he_72
          subst he_73
          refine ww_eq (ws' := [(qs, .inr (5, [.ref qt, .ref po, .ref pa, .ref pf, .ref pd, .int nd, .int tn, .int (nI (0 + 1)), .int wr, .int pl])), (pf, .inl (E.2.1 1, 2, .inl af2_37)), (qt, .inr (10, [.ref tb, .int (nI tl), .int (nI ta2_34), .int (nI tk2_35), .int (nI ts2_36)])), (tb, .inl (E.2.1 0, 160, .inl fb))]) ?_ rfl rfl rfl
          refine ww_if_eq_t (tgt := 52) C dX5_readAfters_16 (by decide) (rfl) ?_
          refine ww_iconst (v := 1) C dX5_readAfters_52 rfl ?_
          exact ww_zret (u := [(qs, .inr (5, [.ref qt, .ref po, .ref pa, .ref pf, .ref pd, .int nd, .int tn, .int (nI (0 + 1)), .int wr, .int pl])), (qt, .inr (10, [.ref tb, .int (nI tl), .int (nI ta2_34), .int (nI tk2_35), .int (nI ts2_36)])), (tb, .inl (E.2.1 0, 160, .inl fb)), (pf, .inl (E.2.1 1, 2, .inl af2_37))]) C hT [0, 2, 3, 1] rfl rfl rfl rfl rfl dX5_readAfters_53 (Or.inl ⟨ta2_34, tk2_35, ts2_36, (0 + 1), ta2_9, ((cz fb tl ts2_11 - 48).toNat), 0, af2_37, rfl, rfl, (by first | assumption | omega | decide), (by first | assumption | omega | decide), (by first | assumption | omega | decide), (by omega), h_42, ch_66k, (by omega), (by first | assumption | exact AFI.nil), (ch_66.trans (ag_stop ch_66k (show ¬ IN (cz fb tl) _ _ _ 13 from h_71))), ⟨fun _ => by rw [← h_47, pk_us], fun h => absurd h (by omega)⟩⟩)
      · refine ex7 hw ?_
        clear hw
        intro ta2_51 tk2_52 ts2_53 an2_54 wr2_55 pl2_56 af2_57 hw
        refine an7 hw ?_
        clear hw
        intro he_64 he_65 h_58 h_59 h_60 h_61 h_62 hw
        have h_63 := hw
        clear hw
        have he_64 := he_64.symm
        subst he_64
        subst he_65
        refine ww_eq (ws' := [(qs, .inr (5, [.ref qt, .ref po, .ref pa, .ref pf, .ref pd, .int nd, .int tn, .int an2_54, .int wr2_55, .int (nI pl2_56)])), (qt, .inr (10, [.ref tb, .int (nI tl), .int (nI ta2_51), .int (nI tk2_52), .int (nI ts2_53)])), (tb, .inl (E.2.1 0, 160, .inl fb)), (pf, .inl (E.2.1 1, 2, .inl af2_57))]) ?_ rfl rfl rfl
        refine ww_if_ne_f (tgt := 46) C dX5_readAfters_41 (by decide) (rfl) ?_
        refine ww_iconst (v := 0) C dX5_readAfters_44 rfl ?_
        exact ww_zret (u := [(qs, .inr (5, [.ref qt, .ref po, .ref pa, .ref pf, .ref pd, .int nd, .int tn, .int an2_54, .int wr2_55, .int (nI pl2_56)])), (qt, .inr (10, [.ref tb, .int (nI tl), .int (nI ta2_51), .int (nI tk2_52), .int (nI ts2_53)])), (tb, .inl (E.2.1 0, 160, .inl fb)), (pf, .inl (E.2.1 1, 2, .inl af2_57))]) C hT [0, 1, 2, 3] rfl rfl rfl rfl rfl dX5_readAfters_45 (Or.inr ⟨ta2_51, tk2_52, ts2_53, an2_54, wr2_55, pl2_56, af2_57, rfl, rfl, (by first | assumption | omega | decide), (by first | assumption | omega | decide), (by first | assumption | omega | decide), (by omega), h_62, (h_63.elim (fun q => by rw [q.2]; exact (ag_b2 htok (show IN (cz fb tl) _ _ _ 13 from h_2) (by decide) h_17 q.1)) (fun q => by rw [q.2.2.2]; exact (ag_b3 htok (show IN (cz fb tl) _ _ _ 13 from h_2) (by decide) h_17 q.1 q.2.1 q.2.2.1)))⟩)
    · refine ex3 hw ?_
      clear hw
      intro ta2_21 tk2_22 ts2_23 hw
      refine an8 hw ?_
      clear hw
      intro he_31 he_32 h_24 h_25 h_26 h_27 h_28 h_29 hw
      have h_30 := hw
      clear hw
      have he_31 := he_31.symm
      subst he_31
      subst he_32
      refine ww_eq (ws' := [(pf, .inl (E.2.1 1, 2, .inl af)), (qs, .inr (5, [.ref qt, .ref po, .ref pa, .ref pf, .ref pd, .int nd, .int tn, .int 0, .int 1, .int (nI ts2_23)])), (qt, .inr (10, [.ref tb, .int (nI tl), .int (nI ta2_21), .int (nI tk2_22), .int (nI ts2_23)])), (tb, .inl (E.2.1 0, 160, .inl fb))]) ?_ rfl rfl rfl
      refine ww_if_eq_t (tgt := 44) C dX5_readAfters_34 (by decide) (rfl) ?_
      refine ww_iconst (v := 0) C dX5_readAfters_44 rfl ?_
      exact ww_zret (u := [(qs, .inr (5, [.ref qt, .ref po, .ref pa, .ref pf, .ref pd, .int nd, .int tn, .int 0, .int 1, .int (nI ts2_23)])), (qt, .inr (10, [.ref tb, .int (nI tl), .int (nI ta2_21), .int (nI tk2_22), .int (nI ts2_23)])), (tb, .inl (E.2.1 0, 160, .inl fb)), (pf, .inl (E.2.1 1, 2, .inl af))]) C hT [1, 2, 3, 0] rfl rfl rfl rfl rfl dX5_readAfters_45 (Or.inr ⟨ta2_21, tk2_22, ts2_23, 0, 1, ts2_23, af, rfl, rfl, (by first | assumption | omega | decide), (by first | assumption | omega | decide), (by first | assumption | omega | decide), (by omega), h_28, (ag_b2 htok (show IN (cz fb tl) _ _ _ 13 from h_2) (by decide) h_29 (Or.inl (by omega)))⟩)
  · refine an2 hw ?_
    clear hw
    intro he_6 he_7 hw
    have h_5 := hw
    clear hw
    have he_6 := he_6.symm
    subst he_6
    subst he_7
    refine ww_eq (ws' := [(qs, .inr (5, [.ref qt, .ref po, .ref pa, .ref pf, .ref pd, .int nd, .int tn, .int 0, .int wr, .int pl])), (pf, .inl (E.2.1 1, 2, .inl af)), (qt, .inr (10, [.ref tb, .int (nI tl), .int (nI ta), .int (nI tk), .int (nI ts)])), (tb, .inl (E.2.1 0, 160, .inl fb))]) ?_ rfl rfl rfl
    refine ww_if_eq_t (tgt := 52) C dX5_readAfters_16 (by decide) (rfl) ?_
    refine ww_iconst (v := 1) C dX5_readAfters_52 rfl ?_
    exact ww_zret (u := [(qs, .inr (5, [.ref qt, .ref po, .ref pa, .ref pf, .ref pd, .int nd, .int tn, .int 0, .int wr, .int pl])), (qt, .inr (10, [.ref tb, .int (nI tl), .int (nI ta), .int (nI tk), .int (nI ts)])), (tb, .inl (E.2.1 0, 160, .inl fb)), (pf, .inl (E.2.1 1, 2, .inl af))]) C hT [0, 2, 3, 1] rfl rfl rfl rfl rfl dX5_readAfters_53 (Or.inl ⟨ta, tk, ts, 0, p_, 0, 0, af, rfl, rfl, (by first | assumption | omega | decide), (by first | assumption | omega | decide), (by first | assumption | omega | decide), (by omega), hfg, htok, (by omega), (by first | assumption | exact AFI.nil), (ag_stop htok (show ¬ IN (cz fb tl) _ _ _ 13 from h_5)), ⟨fun h => absurd h (by omega), fun h => absurd h (by omega)⟩⟩)
theorem dX5_factOfName_0 : decode cX5_factOfName 0 = .ok (.aload_n 0, 1) := dl_42 (by decide +kernel)
theorem dX5_factOfName_1 : decode cX5_factOfName 1 = .ok (.getfield 12, 3) := dl_180 (by decide +kernel)
theorem dX5_factOfName_4 : decode cX5_factOfName 4 = .ok (.ldc 116, 2) := dl_18 (by decide +kernel)
theorem dX5_factOfName_6 : decode cX5_factOfName 6 = .ok (.invokevirtual 78, 3) := dl_182 (by decide +kernel)
theorem dX5_factOfName_9 : decode cX5_factOfName 9 = .ok (.ifCond .eq 5, 3) := dl_153 (by decide +kernel)
theorem dX5_factOfName_12 : decode cX5_factOfName 12 = .ok (.iconst 1, 1) := dl_4 (by decide +kernel)
theorem dX5_factOfName_13 : decode cX5_factOfName 13 = .ok (.ireturn, 1) := dl_172 (by decide +kernel)
theorem dX5_factOfName_14 : decode cX5_factOfName 14 = .ok (.aload_n 0, 1) := dl_42 (by decide +kernel)
theorem dX5_factOfName_15 : decode cX5_factOfName 15 = .ok (.getfield 12, 3) := dl_180 (by decide +kernel)
theorem dX5_factOfName_18 : decode cX5_factOfName 18 = .ok (.ldc 118, 2) := dl_18 (by decide +kernel)
theorem dX5_factOfName_20 : decode cX5_factOfName 20 = .ok (.invokevirtual 78, 3) := dl_182 (by decide +kernel)
theorem dX5_factOfName_23 : decode cX5_factOfName 23 = .ok (.ifCond .eq 5, 3) := dl_153 (by decide +kernel)
theorem dX5_factOfName_26 : decode cX5_factOfName 26 = .ok (.iconst 2, 1) := dl_5 (by decide +kernel)
theorem dX5_factOfName_27 : decode cX5_factOfName 27 = .ok (.ireturn, 1) := dl_172 (by decide +kernel)
theorem dX5_factOfName_28 : decode cX5_factOfName 28 = .ok (.aload_n 0, 1) := dl_42 (by decide +kernel)
theorem dX5_factOfName_29 : decode cX5_factOfName 29 = .ok (.getfield 12, 3) := dl_180 (by decide +kernel)
theorem dX5_factOfName_32 : decode cX5_factOfName 32 = .ok (.ldc 120, 2) := dl_18 (by decide +kernel)
theorem dX5_factOfName_34 : decode cX5_factOfName 34 = .ok (.invokevirtual 78, 3) := dl_182 (by decide +kernel)
theorem dX5_factOfName_37 : decode cX5_factOfName 37 = .ok (.ifCond .eq 5, 3) := dl_153 (by decide +kernel)
theorem dX5_factOfName_40 : decode cX5_factOfName 40 = .ok (.iconst 4, 1) := dl_7 (by decide +kernel)
theorem dX5_factOfName_41 : decode cX5_factOfName 41 = .ok (.ireturn, 1) := dl_172 (by decide +kernel)
theorem dX5_factOfName_42 : decode cX5_factOfName 42 = .ok (.aload_n 0, 1) := dl_42 (by decide +kernel)
theorem dX5_factOfName_43 : decode cX5_factOfName 43 = .ok (.getfield 12, 3) := dl_180 (by decide +kernel)
theorem dX5_factOfName_46 : decode cX5_factOfName 46 = .ok (.ldc 122, 2) := dl_18 (by decide +kernel)
theorem dX5_factOfName_48 : decode cX5_factOfName 48 = .ok (.invokevirtual 78, 3) := dl_182 (by decide +kernel)
theorem dX5_factOfName_51 : decode cX5_factOfName 51 = .ok (.ifCond .eq 8, 3) := dl_153 (by decide +kernel)
theorem dX5_factOfName_54 : decode cX5_factOfName 54 = .ok (.bipush 8, 2) := dl_16 (by decide +kernel)
theorem dX5_factOfName_56 : decode cX5_factOfName 56 = .ok (.goto 4, 3) := dl_167 (by decide +kernel)
theorem dX5_factOfName_60 : decode cX5_factOfName 60 = .ok (.ireturn, 1) := dl_172 (by decide +kernel)
theorem dX5_factOfName_59 : decode cX5_factOfName 59 = .ok (.iconst 0, 1) := dl_3 (by decide +kernel)
set_option maxRecDepth 100000 in
set_option maxHeartbeats 4000000 in
theorem q_factOfName (l : Launch) (E : EV) (ro : va_W) (qs : Nat) (qt : Nat) (po : Nat) (pa : Nat) (pf : Nat) (pd : Nat) (nd : Int32) (tn : Int32) (an : Int32) (wr : Int32) (pl : Int32) (tb : Nat) (tl : Nat) (ta : Nat) (tk : Nat) (ts : Nat) (fb : Nat → Int32) (hts : ts ≤ ta) (hta : ta ≤ tl) (htl : tl ≤ 160) (htk : tk ≤ 3) (hs9 : tk = 2 → ts < ta) (hfg : TX (cz fb tl) ts tk ta) : CT l yX5_factOfName (Cond.code yX5_factOfName cX5_factOfName 1 (some .int) :: TB) ({ frames := 5, cells := 0, slots := 0, locals := 107 }) E ro [.ref qs] [(qs, .inr (5, [.ref qt, .ref po, .ref pa, .ref pf, .ref pd, .int nd, .int tn, .int an, .int wr, .int pl])), (qt, .inr (10, [.ref tb, .int (nI tl), .int (nI ta), .int (nI tk), .int (nI ts)])), (tb, .inl (E.2.1 0, 160, .inl fb))] (Qi E (fun (rz : Int32) uz => (rz = (fv (aT (cz fb tl) ts tk ta)) ∧ uz = [(qs, .inr (5, [.ref qt, .ref po, .ref pa, .ref pf, .ref pd, .int nd, .int tn, .int an, .int wr, .int pl])), (qt, .inr (10, [.ref tb, .int (nI tl), .int (nI ta), .int (nI tk), .int (nI ts)])), (tb, .inl (E.2.1 0, 160, .inl fb))]))) 0 0 := by
  refine ct_of rfl rfl ?_
  intro X C hT hin hro
  show WW X 1 E 0 [(0, .ref qs)] [] [(qs, .inr (5, [.ref qt, .ref po, .ref pa, .ref pf, .ref pd, .int nd, .int tn, .int an, .int wr, .int pl])), (qt, .inr (10, [.ref tb, .int (nI tl), .int (nI ta), .int (nI tk), .int (nI ts)])), (tb, .inl (E.2.1 0, 160, .inl fb))] 0 0
  refine ww_aload_n C dX5_factOfName_0 0 rfl rfl ?_
  refine ww_get C fg_X5_12 0 rfl rfl dX5_factOfName_1 ?_
  refine ww_ldcS (tx := String.singleton 'p') C (List.mem_of_getElem? (i := 1) rfl) rfl dX5_factOfName_4 ?_
  refine ww_ci (wr := [(qs, .inr (5, [.ref qt, .ref po, .ref pa, .ref pf, .ref pd, .int nd, .int tn, .int an, .int wr, .int pl]))]) (k' := 0) (n' := 0) C (run_V (As := [.ref (E.2.2 116)]) (rest := []) C (t_isName X.2.1 E ro qt tb tl ta tk ts fb 1 (by decide) (by omega) (by omega) (by omega) (by omega)) mi_X10_isName wl_X5_78 rfl 0 10 rfl rfl rfl rfl rfl dX5_factOfName_6) (roK hro) [1, 2] [0] rfl rfl rfl rfl (fun r_1 uz hw => ?_)
  rcases hw with hw | hw
  · refine an2 hw ?_
    clear hw
    intro he_3 he_4 hw
    have h_2 := hw
    clear hw
    have he_3 := he_3.symm
    subst he_3
    subst he_4
    refine ww_eq (ws' := [(qs, .inr (5, [.ref qt, .ref po, .ref pa, .ref pf, .ref pd, .int nd, .int tn, .int an, .int wr, .int pl])), (qt, .inr (10, [.ref tb, .int (nI tl), .int (nI ta), .int (nI tk), .int (nI ts)])), (tb, .inl (E.2.1 0, 160, .inl fb))]) ?_ rfl rfl rfl
    refine ww_if_eq_f (tgt := 14) C dX5_factOfName_9 (by decide) (by decide) ?_
    refine ww_iconst (v := 1) C dX5_factOfName_12 rfl ?_
    exact ww_iret (u := [(qs, .inr (5, [.ref qt, .ref po, .ref pa, .ref pf, .ref pd, .int nd, .int tn, .int an, .int wr, .int pl])), (qt, .inr (10, [.ref tb, .int (nI tl), .int (nI ta), .int (nI tk), .int (nI ts)])), (tb, .inl (E.2.1 0, 160, .inl fb))]) C hT [0, 1, 2] rfl rfl rfl rfl dX5_factOfName_13 (⟨(by rw [aT_of (show IN (cz fb tl) ts tk ta 0 from h_2) (by decide)]; rfl), rfl⟩)
  · refine an2 hw ?_
    clear hw
    intro he_6 he_7 hw
    have h_5 := hw
    clear hw
    have he_6 := he_6.symm
    subst he_6
    subst he_7
    refine ww_eq (ws' := [(qs, .inr (5, [.ref qt, .ref po, .ref pa, .ref pf, .ref pd, .int nd, .int tn, .int an, .int wr, .int pl])), (qt, .inr (10, [.ref tb, .int (nI tl), .int (nI ta), .int (nI tk), .int (nI ts)])), (tb, .inl (E.2.1 0, 160, .inl fb))]) ?_ rfl rfl rfl
    refine ww_if_eq_t (tgt := 14) C dX5_factOfName_9 (by decide) (rfl) ?_
    refine ww_aload_n C dX5_factOfName_14 0 rfl rfl ?_
    refine ww_get C fg_X5_12 0 rfl rfl dX5_factOfName_15 ?_
    refine ww_ldcS (tx := String.singleton 'q') C (List.mem_of_getElem? (i := 2) rfl) rfl dX5_factOfName_18 ?_
    refine ww_ci (wr := [(qs, .inr (5, [.ref qt, .ref po, .ref pa, .ref pf, .ref pd, .int nd, .int tn, .int an, .int wr, .int pl]))]) (k' := 0) (n' := 0) C (run_V (As := [.ref (E.2.2 118)]) (rest := []) C (t_isName X.2.1 E ro qt tb tl ta tk ts fb 2 (by decide) (by omega) (by omega) (by omega) (by omega)) mi_X10_isName wl_X5_78 rfl 0 10 rfl rfl rfl rfl rfl dX5_factOfName_20) (roK hro) [1, 2] [0] rfl rfl rfl rfl (fun r_8 uz hw => ?_)
    rcases hw with hw | hw
    · refine an2 hw ?_
      clear hw
      intro he_10 he_11 hw
      have h_9 := hw
      clear hw
      have he_10 := he_10.symm
      subst he_10
      subst he_11
      refine ww_eq (ws' := [(qs, .inr (5, [.ref qt, .ref po, .ref pa, .ref pf, .ref pd, .int nd, .int tn, .int an, .int wr, .int pl])), (qt, .inr (10, [.ref tb, .int (nI tl), .int (nI ta), .int (nI tk), .int (nI ts)])), (tb, .inl (E.2.1 0, 160, .inl fb))]) ?_ rfl rfl rfl
      refine ww_if_eq_f (tgt := 28) C dX5_factOfName_23 (by decide) (by decide) ?_
      refine ww_iconst (v := 2) C dX5_factOfName_26 rfl ?_
      exact ww_iret (u := [(qs, .inr (5, [.ref qt, .ref po, .ref pa, .ref pf, .ref pd, .int nd, .int tn, .int an, .int wr, .int pl])), (qt, .inr (10, [.ref tb, .int (nI tl), .int (nI ta), .int (nI tk), .int (nI ts)])), (tb, .inl (E.2.1 0, 160, .inl fb))]) C hT [0, 1, 2] rfl rfl rfl rfl dX5_factOfName_27 (⟨(by rw [aT_of (show IN (cz fb tl) ts tk ta 1 from h_9) (by decide)]; rfl), rfl⟩)
    · refine an2 hw ?_
      clear hw
      intro he_13 he_14 hw
      have h_12 := hw
      clear hw
      have he_13 := he_13.symm
      subst he_13
      subst he_14
      refine ww_eq (ws' := [(qs, .inr (5, [.ref qt, .ref po, .ref pa, .ref pf, .ref pd, .int nd, .int tn, .int an, .int wr, .int pl])), (qt, .inr (10, [.ref tb, .int (nI tl), .int (nI ta), .int (nI tk), .int (nI ts)])), (tb, .inl (E.2.1 0, 160, .inl fb))]) ?_ rfl rfl rfl
      refine ww_if_eq_t (tgt := 28) C dX5_factOfName_23 (by decide) (rfl) ?_
      refine ww_aload_n C dX5_factOfName_28 0 rfl rfl ?_
      refine ww_get C fg_X5_12 0 rfl rfl dX5_factOfName_29 ?_
      refine ww_ldcS (tx := String.singleton 'r') C (List.mem_of_getElem? (i := 3) rfl) rfl dX5_factOfName_32 ?_
      refine ww_ci (wr := [(qs, .inr (5, [.ref qt, .ref po, .ref pa, .ref pf, .ref pd, .int nd, .int tn, .int an, .int wr, .int pl]))]) (k' := 0) (n' := 0) C (run_V (As := [.ref (E.2.2 120)]) (rest := []) C (t_isName X.2.1 E ro qt tb tl ta tk ts fb 3 (by decide) (by omega) (by omega) (by omega) (by omega)) mi_X10_isName wl_X5_78 rfl 0 10 rfl rfl rfl rfl rfl dX5_factOfName_34) (roK hro) [1, 2] [0] rfl rfl rfl rfl (fun r_15 uz hw => ?_)
      rcases hw with hw | hw
      · refine an2 hw ?_
        clear hw
        intro he_17 he_18 hw
        have h_16 := hw
        clear hw
        have he_17 := he_17.symm
        subst he_17
        subst he_18
        refine ww_eq (ws' := [(qs, .inr (5, [.ref qt, .ref po, .ref pa, .ref pf, .ref pd, .int nd, .int tn, .int an, .int wr, .int pl])), (qt, .inr (10, [.ref tb, .int (nI tl), .int (nI ta), .int (nI tk), .int (nI ts)])), (tb, .inl (E.2.1 0, 160, .inl fb))]) ?_ rfl rfl rfl
        refine ww_if_eq_f (tgt := 42) C dX5_factOfName_37 (by decide) (by decide) ?_
        refine ww_iconst (v := 4) C dX5_factOfName_40 rfl ?_
        exact ww_iret (u := [(qs, .inr (5, [.ref qt, .ref po, .ref pa, .ref pf, .ref pd, .int nd, .int tn, .int an, .int wr, .int pl])), (qt, .inr (10, [.ref tb, .int (nI tl), .int (nI ta), .int (nI tk), .int (nI ts)])), (tb, .inl (E.2.1 0, 160, .inl fb))]) C hT [0, 1, 2] rfl rfl rfl rfl dX5_factOfName_41 (⟨(by rw [aT_of (show IN (cz fb tl) ts tk ta 2 from h_16) (by decide)]; rfl), rfl⟩)
      · refine an2 hw ?_
        clear hw
        intro he_20 he_21 hw
        have h_19 := hw
        clear hw
        have he_20 := he_20.symm
        subst he_20
        subst he_21
        refine ww_eq (ws' := [(qs, .inr (5, [.ref qt, .ref po, .ref pa, .ref pf, .ref pd, .int nd, .int tn, .int an, .int wr, .int pl])), (qt, .inr (10, [.ref tb, .int (nI tl), .int (nI ta), .int (nI tk), .int (nI ts)])), (tb, .inl (E.2.1 0, 160, .inl fb))]) ?_ rfl rfl rfl
        refine ww_if_eq_t (tgt := 42) C dX5_factOfName_37 (by decide) (rfl) ?_
        refine ww_aload_n C dX5_factOfName_42 0 rfl rfl ?_
        refine ww_get C fg_X5_12 0 rfl rfl dX5_factOfName_43 ?_
        refine ww_ldcS (tx := String.singleton 's') C (List.mem_of_getElem? (i := 4) rfl) rfl dX5_factOfName_46 ?_
        refine ww_ci (wr := [(qs, .inr (5, [.ref qt, .ref po, .ref pa, .ref pf, .ref pd, .int nd, .int tn, .int an, .int wr, .int pl]))]) (k' := 0) (n' := 0) C (run_V (As := [.ref (E.2.2 122)]) (rest := []) C (t_isName X.2.1 E ro qt tb tl ta tk ts fb 4 (by decide) (by omega) (by omega) (by omega) (by omega)) mi_X10_isName wl_X5_78 rfl 0 10 rfl rfl rfl rfl rfl dX5_factOfName_48) (roK hro) [1, 2] [0] rfl rfl rfl rfl (fun r_22 uz hw => ?_)
        rcases hw with hw | hw
        · refine an2 hw ?_
          clear hw
          intro he_24 he_25 hw
          have h_23 := hw
          clear hw
          have he_24 := he_24.symm
          subst he_24
          subst he_25
          refine ww_eq (ws' := [(qs, .inr (5, [.ref qt, .ref po, .ref pa, .ref pf, .ref pd, .int nd, .int tn, .int an, .int wr, .int pl])), (qt, .inr (10, [.ref tb, .int (nI tl), .int (nI ta), .int (nI tk), .int (nI ts)])), (tb, .inl (E.2.1 0, 160, .inl fb))]) ?_ rfl rfl rfl
          refine ww_if_eq_f (tgt := 59) C dX5_factOfName_51 (by decide) (by decide) ?_
          refine ww_bipush (v := 8) C dX5_factOfName_54 rfl ?_
          refine ww_goto (tgt := 60) C dX5_factOfName_56 (by decide) ?_
          exact ww_iret (u := [(qs, .inr (5, [.ref qt, .ref po, .ref pa, .ref pf, .ref pd, .int nd, .int tn, .int an, .int wr, .int pl])), (qt, .inr (10, [.ref tb, .int (nI tl), .int (nI ta), .int (nI tk), .int (nI ts)])), (tb, .inl (E.2.1 0, 160, .inl fb))]) C hT [0, 1, 2] rfl rfl rfl rfl dX5_factOfName_60 (⟨(by rw [aT_of (show IN (cz fb tl) ts tk ta 3 from h_23) (by decide)]; rfl), rfl⟩)
        · refine an2 hw ?_
          clear hw
          intro he_27 he_28 hw
          have h_26 := hw
          clear hw
          have he_27 := he_27.symm
          subst he_27
          subst he_28
          refine ww_eq (ws' := [(qs, .inr (5, [.ref qt, .ref po, .ref pa, .ref pf, .ref pd, .int nd, .int tn, .int an, .int wr, .int pl])), (qt, .inr (10, [.ref tb, .int (nI tl), .int (nI ta), .int (nI tk), .int (nI ts)])), (tb, .inl (E.2.1 0, 160, .inl fb))]) ?_ rfl rfl rfl
          refine ww_if_eq_t (tgt := 59) C dX5_factOfName_51 (by decide) (rfl) ?_
          refine ww_iconst (v := 0) C dX5_factOfName_59 rfl ?_
          exact ww_iret (u := [(qs, .inr (5, [.ref qt, .ref po, .ref pa, .ref pf, .ref pd, .int nd, .int tn, .int an, .int wr, .int pl])), (qt, .inr (10, [.ref tb, .int (nI tl), .int (nI ta), .int (nI tk), .int (nI ts)])), (tb, .inl (E.2.1 0, 160, .inl fb))]) C hT [0, 1, 2] rfl rfl rfl rfl dX5_factOfName_60 (⟨(fv_no (aT_nn (show ¬ IN (cz fb tl) ts tk ta 0 from h_5) (by decide)) (aT_nn (show ¬ IN (cz fb tl) ts tk ta 1 from h_12) (by decide)) (aT_nn (show ¬ IN (cz fb tl) ts tk ta 2 from h_19) (by decide)) (aT_nn (show ¬ IN (cz fb tl) ts tk ta 3 from h_26) (by decide))), rfl⟩)
theorem dX5_opAboutKnowers_0 : decode cX5_opAboutKnowers 0 = .ok (.aload_n 0, 1) := dl_42 (by decide +kernel)
theorem dX5_opAboutKnowers_1 : decode cX5_opAboutKnowers 1 = .ok (.getfield 12, 3) := dl_180 (by decide +kernel)
theorem dX5_opAboutKnowers_4 : decode cX5_opAboutKnowers 4 = .ok (.ldc 95, 2) := dl_18 (by decide +kernel)
theorem dX5_opAboutKnowers_6 : decode cX5_opAboutKnowers 6 = .ok (.invokevirtual 78, 3) := dl_182 (by decide +kernel)
theorem dX5_opAboutKnowers_9 : decode cX5_opAboutKnowers 9 = .ok (.ifCond .ne 15, 3) := dl_154 (by decide +kernel)
theorem dX5_opAboutKnowers_24 : decode cX5_opAboutKnowers 24 = .ok (.bipush 6, 2) := dl_16 (by decide +kernel)
theorem dX5_opAboutKnowers_26 : decode cX5_opAboutKnowers 26 = .ok (.ireturn, 1) := dl_172 (by decide +kernel)
theorem dX5_opAboutKnowers_12 : decode cX5_opAboutKnowers 12 = .ok (.aload_n 0, 1) := dl_42 (by decide +kernel)
theorem dX5_opAboutKnowers_13 : decode cX5_opAboutKnowers 13 = .ok (.getfield 12, 3) := dl_180 (by decide +kernel)
theorem dX5_opAboutKnowers_16 : decode cX5_opAboutKnowers 16 = .ok (.ldc 135, 2) := dl_18 (by decide +kernel)
theorem dX5_opAboutKnowers_18 : decode cX5_opAboutKnowers 18 = .ok (.invokevirtual 78, 3) := dl_182 (by decide +kernel)
theorem dX5_opAboutKnowers_21 : decode cX5_opAboutKnowers 21 = .ok (.ifCond .eq 6, 3) := dl_153 (by decide +kernel)
theorem dX5_opAboutKnowers_27 : decode cX5_opAboutKnowers 27 = .ok (.aload_n 0, 1) := dl_42 (by decide +kernel)
theorem dX5_opAboutKnowers_28 : decode cX5_opAboutKnowers 28 = .ok (.getfield 12, 3) := dl_180 (by decide +kernel)
theorem dX5_opAboutKnowers_31 : decode cX5_opAboutKnowers 31 = .ok (.ldc 137, 2) := dl_18 (by decide +kernel)
theorem dX5_opAboutKnowers_33 : decode cX5_opAboutKnowers 33 = .ok (.invokevirtual 78, 3) := dl_182 (by decide +kernel)
theorem dX5_opAboutKnowers_36 : decode cX5_opAboutKnowers 36 = .ok (.ifCond .eq 5, 3) := dl_153 (by decide +kernel)
theorem dX5_opAboutKnowers_39 : decode cX5_opAboutKnowers 39 = .ok (.iconst 5, 1) := dl_8 (by decide +kernel)
theorem dX5_opAboutKnowers_40 : decode cX5_opAboutKnowers 40 = .ok (.ireturn, 1) := dl_172 (by decide +kernel)
theorem dX5_opAboutKnowers_41 : decode cX5_opAboutKnowers 41 = .ok (.aload_n 0, 1) := dl_42 (by decide +kernel)
theorem dX5_opAboutKnowers_42 : decode cX5_opAboutKnowers 42 = .ok (.getfield 12, 3) := dl_180 (by decide +kernel)
theorem dX5_opAboutKnowers_45 : decode cX5_opAboutKnowers 45 = .ok (.ldc 139, 2) := dl_18 (by decide +kernel)
theorem dX5_opAboutKnowers_47 : decode cX5_opAboutKnowers 47 = .ok (.invokevirtual 78, 3) := dl_182 (by decide +kernel)
theorem dX5_opAboutKnowers_50 : decode cX5_opAboutKnowers 50 = .ok (.ifCond .eq 6, 3) := dl_153 (by decide +kernel)
theorem dX5_opAboutKnowers_53 : decode cX5_opAboutKnowers 53 = .ok (.bipush 7, 2) := dl_16 (by decide +kernel)
theorem dX5_opAboutKnowers_55 : decode cX5_opAboutKnowers 55 = .ok (.ireturn, 1) := dl_172 (by decide +kernel)
theorem dX5_opAboutKnowers_56 : decode cX5_opAboutKnowers 56 = .ok (.aload_n 0, 1) := dl_42 (by decide +kernel)
theorem dX5_opAboutKnowers_57 : decode cX5_opAboutKnowers 57 = .ok (.getfield 12, 3) := dl_180 (by decide +kernel)
theorem dX5_opAboutKnowers_60 : decode cX5_opAboutKnowers 60 = .ok (.ldc 141, 2) := dl_18 (by decide +kernel)
theorem dX5_opAboutKnowers_62 : decode cX5_opAboutKnowers 62 = .ok (.invokevirtual 78, 3) := dl_182 (by decide +kernel)
theorem dX5_opAboutKnowers_65 : decode cX5_opAboutKnowers 65 = .ok (.ifCond .eq 8, 3) := dl_153 (by decide +kernel)
theorem dX5_opAboutKnowers_68 : decode cX5_opAboutKnowers 68 = .ok (.bipush 8, 2) := dl_16 (by decide +kernel)
theorem dX5_opAboutKnowers_70 : decode cX5_opAboutKnowers 70 = .ok (.goto 5, 3) := dl_167 (by decide +kernel)
theorem dX5_opAboutKnowers_75 : decode cX5_opAboutKnowers 75 = .ok (.ireturn, 1) := dl_172 (by decide +kernel)
theorem dX5_opAboutKnowers_73 : decode cX5_opAboutKnowers 73 = .ok (.bipush (-4), 2) := dl_16 (by decide +kernel)
set_option maxRecDepth 100000 in
set_option maxHeartbeats 4000000 in
theorem q_opAboutKnowers (l : Launch) (E : EV) (ro : va_W) (qs : Nat) (qt : Nat) (po : Nat) (pa : Nat) (pf : Nat) (pd : Nat) (nd : Int32) (tn : Int32) (an : Int32) (wr : Int32) (pl : Int32) (tb : Nat) (tl : Nat) (ta : Nat) (tk : Nat) (ts : Nat) (fb : Nat → Int32) (hts : ts ≤ ta) (hta : ta ≤ tl) (htl : tl ≤ 160) (htk : tk ≤ 3) (hs9 : tk = 2 → ts < ta) (hfg : TX (cz fb tl) ts tk ta) : CT l yX5_opAboutKnowers (Cond.code yX5_opAboutKnowers cX5_opAboutKnowers 1 (some .int) :: TB) ({ frames := 5, cells := 0, slots := 0, locals := 107 }) E ro [.ref qs] [(qs, .inr (5, [.ref qt, .ref po, .ref pa, .ref pf, .ref pd, .int nd, .int tn, .int an, .int wr, .int pl])), (qt, .inr (10, [.ref tb, .int (nI tl), .int (nI ta), .int (nI tk), .int (nI ts)])), (tb, .inl (E.2.1 0, 160, .inl fb))] (Qi E (fun (rz : Int32) uz => (rz = (-4) ∧ uz = [(qs, .inr (5, [.ref qt, .ref po, .ref pa, .ref pf, .ref pd, .int nd, .int tn, .int an, .int wr, .int pl])), (qt, .inr (10, [.ref tb, .int (nI tl), .int (nI ta), .int (nI tk), .int (nI ts)])), (tb, .inl (E.2.1 0, 160, .inl fb))] ∧ (aT (cz fb tl) ts tk ta ≠ 8 ∧ aT (cz fb tl) ts tk ta ≠ 9 ∧ aT (cz fb tl) ts tk ta ≠ 10 ∧ aT (cz fb tl) ts tk ta ≠ 11 ∧ aT (cz fb tl) ts tk ta ≠ 12)) ∨ (uz = [(qs, .inr (5, [.ref qt, .ref po, .ref pa, .ref pf, .ref pd, .int nd, .int tn, .int an, .int wr, .int pl])), (qt, .inr (10, [.ref tb, .int (nI tl), .int (nI ta), .int (nI tk), .int (nI ts)])), (tb, .inl (E.2.1 0, 160, .inl fb))] ∧ (0 ≤ rz.toInt) ∧ (rz.toInt ≤ 8) ∧ (rz = opV (aT (cz fb tl) ts tk ta) ∧ 8 ≤ aT (cz fb tl) ts tk ta ∧ aT (cz fb tl) ts tk ta < 13)))) 0 0 := by
  refine ct_of rfl rfl ?_
  intro X C hT hin hro
  show WW X 1 E 0 [(0, .ref qs)] [] [(qs, .inr (5, [.ref qt, .ref po, .ref pa, .ref pf, .ref pd, .int nd, .int tn, .int an, .int wr, .int pl])), (qt, .inr (10, [.ref tb, .int (nI tl), .int (nI ta), .int (nI tk), .int (nI ts)])), (tb, .inl (E.2.1 0, 160, .inl fb))] 0 0
  refine ww_aload_n C dX5_opAboutKnowers_0 0 rfl rfl ?_
  refine ww_get C fg_X5_12 0 rfl rfl dX5_opAboutKnowers_1 ?_
  refine ww_ldcS (tx := "know") C (List.mem_of_getElem? (i := 9) rfl) rfl dX5_opAboutKnowers_4 ?_
  refine ww_ci (wr := [(qs, .inr (5, [.ref qt, .ref po, .ref pa, .ref pf, .ref pd, .int nd, .int tn, .int an, .int wr, .int pl]))]) (k' := 0) (n' := 0) C (run_V (As := [.ref (E.2.2 95)]) (rest := []) C (t_isName X.2.1 E ro qt tb tl ta tk ts fb 9 (by decide) (by omega) (by omega) (by omega) (by omega)) mi_X10_isName wl_X5_78 rfl 0 10 rfl rfl rfl rfl rfl dX5_opAboutKnowers_6) (roK hro) [1, 2] [0] rfl rfl rfl rfl (fun r_1 uz hw => ?_)
  rcases hw with hw | hw
  · refine an2 hw ?_
    clear hw
    intro he_3 he_4 hw
    have h_2 := hw
    clear hw
    have he_3 := he_3.symm
    subst he_3
    subst he_4
    refine ww_eq (ws' := [(qs, .inr (5, [.ref qt, .ref po, .ref pa, .ref pf, .ref pd, .int nd, .int tn, .int an, .int wr, .int pl])), (qt, .inr (10, [.ref tb, .int (nI tl), .int (nI ta), .int (nI tk), .int (nI ts)])), (tb, .inl (E.2.1 0, 160, .inl fb))]) ?_ rfl rfl rfl
    refine ww_if_ne_t (tgt := 24) C dX5_opAboutKnowers_9 (by decide) (by decide) ?_
    refine ww_bipush (v := 6) C dX5_opAboutKnowers_24 rfl ?_
    exact ww_iret (u := [(qs, .inr (5, [.ref qt, .ref po, .ref pa, .ref pf, .ref pd, .int nd, .int tn, .int an, .int wr, .int pl])), (qt, .inr (10, [.ref tb, .int (nI tl), .int (nI ta), .int (nI tk), .int (nI ts)])), (tb, .inl (E.2.1 0, 160, .inl fb))]) C hT [0, 1, 2] rfl rfl rfl rfl dX5_opAboutKnowers_26 (Or.inr ⟨rfl, (by decide), (by decide), (by rw [aT_of (show IN (cz fb tl) ts tk ta 8 from h_2) (by decide)]; exact ⟨rfl, by decide, by decide⟩)⟩)
  · refine an2 hw ?_
    clear hw
    intro he_6 he_7 hw
    have h_5 := hw
    clear hw
    have he_6 := he_6.symm
    subst he_6
    subst he_7
    refine ww_eq (ws' := [(qs, .inr (5, [.ref qt, .ref po, .ref pa, .ref pf, .ref pd, .int nd, .int tn, .int an, .int wr, .int pl])), (qt, .inr (10, [.ref tb, .int (nI tl), .int (nI ta), .int (nI tk), .int (nI ts)])), (tb, .inl (E.2.1 0, 160, .inl fb))]) ?_ rfl rfl rfl
    refine ww_if_ne_f (tgt := 24) C dX5_opAboutKnowers_9 (by decide) (rfl) ?_
    refine ww_aload_n C dX5_opAboutKnowers_12 0 rfl rfl ?_
    refine ww_get C fg_X5_12 0 rfl rfl dX5_opAboutKnowers_13 ?_
    refine ww_ldcS (tx := "every") C (List.mem_of_getElem? (i := 10) rfl) rfl dX5_opAboutKnowers_16 ?_
    refine ww_ci (wr := [(qs, .inr (5, [.ref qt, .ref po, .ref pa, .ref pf, .ref pd, .int nd, .int tn, .int an, .int wr, .int pl]))]) (k' := 0) (n' := 0) C (run_V (As := [.ref (E.2.2 135)]) (rest := []) C (t_isName X.2.1 E ro qt tb tl ta tk ts fb 10 (by decide) (by omega) (by omega) (by omega) (by omega)) mi_X10_isName wl_X5_78 rfl 0 10 rfl rfl rfl rfl rfl dX5_opAboutKnowers_18) (roK hro) [1, 2] [0] rfl rfl rfl rfl (fun r_8 uz hw => ?_)
    rcases hw with hw | hw
    · refine an2 hw ?_
      clear hw
      intro he_10 he_11 hw
      have h_9 := hw
      clear hw
      have he_10 := he_10.symm
      subst he_10
      subst he_11
      refine ww_eq (ws' := [(qs, .inr (5, [.ref qt, .ref po, .ref pa, .ref pf, .ref pd, .int nd, .int tn, .int an, .int wr, .int pl])), (qt, .inr (10, [.ref tb, .int (nI tl), .int (nI ta), .int (nI tk), .int (nI ts)])), (tb, .inl (E.2.1 0, 160, .inl fb))]) ?_ rfl rfl rfl
      refine ww_if_eq_f (tgt := 27) C dX5_opAboutKnowers_21 (by decide) (by decide) ?_
      refine ww_bipush (v := 6) C dX5_opAboutKnowers_24 rfl ?_
      exact ww_iret (u := [(qs, .inr (5, [.ref qt, .ref po, .ref pa, .ref pf, .ref pd, .int nd, .int tn, .int an, .int wr, .int pl])), (qt, .inr (10, [.ref tb, .int (nI tl), .int (nI ta), .int (nI tk), .int (nI ts)])), (tb, .inl (E.2.1 0, 160, .inl fb))]) C hT [0, 1, 2] rfl rfl rfl rfl dX5_opAboutKnowers_26 (Or.inr ⟨rfl, (by decide), (by decide), (by rw [aT_of (show IN (cz fb tl) ts tk ta 10 from h_9) (by decide)]; exact ⟨rfl, by decide, by decide⟩)⟩)
    · refine an2 hw ?_
      clear hw
      intro he_13 he_14 hw
      have h_12 := hw
      clear hw
      have he_13 := he_13.symm
      subst he_13
      subst he_14
      refine ww_eq (ws' := [(qs, .inr (5, [.ref qt, .ref po, .ref pa, .ref pf, .ref pd, .int nd, .int tn, .int an, .int wr, .int pl])), (qt, .inr (10, [.ref tb, .int (nI tl), .int (nI ta), .int (nI tk), .int (nI ts)])), (tb, .inl (E.2.1 0, 160, .inl fb))]) ?_ rfl rfl rfl
      refine ww_if_eq_t (tgt := 27) C dX5_opAboutKnowers_21 (by decide) (rfl) ?_
      refine ww_aload_n C dX5_opAboutKnowers_27 0 rfl rfl ?_
      refine ww_get C fg_X5_12 0 rfl rfl dX5_opAboutKnowers_28 ?_
      refine ww_ldcS (tx := "whether") C (List.mem_of_getElem? (i := 11) rfl) rfl dX5_opAboutKnowers_31 ?_
      refine ww_ci (wr := [(qs, .inr (5, [.ref qt, .ref po, .ref pa, .ref pf, .ref pd, .int nd, .int tn, .int an, .int wr, .int pl]))]) (k' := 0) (n' := 0) C (run_V (As := [.ref (E.2.2 137)]) (rest := []) C (t_isName X.2.1 E ro qt tb tl ta tk ts fb 11 (by decide) (by omega) (by omega) (by omega) (by omega)) mi_X10_isName wl_X5_78 rfl 0 10 rfl rfl rfl rfl rfl dX5_opAboutKnowers_33) (roK hro) [1, 2] [0] rfl rfl rfl rfl (fun r_15 uz hw => ?_)
      rcases hw with hw | hw
      · refine an2 hw ?_
        clear hw
        intro he_17 he_18 hw
        have h_16 := hw
        clear hw
        have he_17 := he_17.symm
        subst he_17
        subst he_18
        refine ww_eq (ws' := [(qs, .inr (5, [.ref qt, .ref po, .ref pa, .ref pf, .ref pd, .int nd, .int tn, .int an, .int wr, .int pl])), (qt, .inr (10, [.ref tb, .int (nI tl), .int (nI ta), .int (nI tk), .int (nI ts)])), (tb, .inl (E.2.1 0, 160, .inl fb))]) ?_ rfl rfl rfl
        refine ww_if_eq_f (tgt := 41) C dX5_opAboutKnowers_36 (by decide) (by decide) ?_
        refine ww_iconst (v := 5) C dX5_opAboutKnowers_39 rfl ?_
        exact ww_iret (u := [(qs, .inr (5, [.ref qt, .ref po, .ref pa, .ref pf, .ref pd, .int nd, .int tn, .int an, .int wr, .int pl])), (qt, .inr (10, [.ref tb, .int (nI tl), .int (nI ta), .int (nI tk), .int (nI ts)])), (tb, .inl (E.2.1 0, 160, .inl fb))]) C hT [0, 1, 2] rfl rfl rfl rfl dX5_opAboutKnowers_40 (Or.inr ⟨rfl, (by decide), (by decide), (by rw [aT_of (show IN (cz fb tl) ts tk ta 9 from h_16) (by decide)]; exact ⟨rfl, by decide, by decide⟩)⟩)
      · refine an2 hw ?_
        clear hw
        intro he_20 he_21 hw
        have h_19 := hw
        clear hw
        have he_20 := he_20.symm
        subst he_20
        subst he_21
        refine ww_eq (ws' := [(qs, .inr (5, [.ref qt, .ref po, .ref pa, .ref pf, .ref pd, .int nd, .int tn, .int an, .int wr, .int pl])), (qt, .inr (10, [.ref tb, .int (nI tl), .int (nI ta), .int (nI tk), .int (nI ts)])), (tb, .inl (E.2.1 0, 160, .inl fb))]) ?_ rfl rfl rfl
        refine ww_if_eq_t (tgt := 41) C dX5_opAboutKnowers_36 (by decide) (rfl) ?_
        refine ww_aload_n C dX5_opAboutKnowers_41 0 rfl rfl ?_
        refine ww_get C fg_X5_12 0 rfl rfl dX5_opAboutKnowers_42 ?_
        refine ww_ldcS (tx := "common") C (List.mem_of_getElem? (i := 12) rfl) rfl dX5_opAboutKnowers_45 ?_
        refine ww_ci (wr := [(qs, .inr (5, [.ref qt, .ref po, .ref pa, .ref pf, .ref pd, .int nd, .int tn, .int an, .int wr, .int pl]))]) (k' := 0) (n' := 0) C (run_V (As := [.ref (E.2.2 139)]) (rest := []) C (t_isName X.2.1 E ro qt tb tl ta tk ts fb 12 (by decide) (by omega) (by omega) (by omega) (by omega)) mi_X10_isName wl_X5_78 rfl 0 10 rfl rfl rfl rfl rfl dX5_opAboutKnowers_47) (roK hro) [1, 2] [0] rfl rfl rfl rfl (fun r_22 uz hw => ?_)
        rcases hw with hw | hw
        · refine an2 hw ?_
          clear hw
          intro he_24 he_25 hw
          have h_23 := hw
          clear hw
          have he_24 := he_24.symm
          subst he_24
          subst he_25
          refine ww_eq (ws' := [(qs, .inr (5, [.ref qt, .ref po, .ref pa, .ref pf, .ref pd, .int nd, .int tn, .int an, .int wr, .int pl])), (qt, .inr (10, [.ref tb, .int (nI tl), .int (nI ta), .int (nI tk), .int (nI ts)])), (tb, .inl (E.2.1 0, 160, .inl fb))]) ?_ rfl rfl rfl
          refine ww_if_eq_f (tgt := 56) C dX5_opAboutKnowers_50 (by decide) (by decide) ?_
          refine ww_bipush (v := 7) C dX5_opAboutKnowers_53 rfl ?_
          exact ww_iret (u := [(qs, .inr (5, [.ref qt, .ref po, .ref pa, .ref pf, .ref pd, .int nd, .int tn, .int an, .int wr, .int pl])), (qt, .inr (10, [.ref tb, .int (nI tl), .int (nI ta), .int (nI tk), .int (nI ts)])), (tb, .inl (E.2.1 0, 160, .inl fb))]) C hT [0, 1, 2] rfl rfl rfl rfl dX5_opAboutKnowers_55 (Or.inr ⟨rfl, (by decide), (by decide), (by rw [aT_of (show IN (cz fb tl) ts tk ta 11 from h_23) (by decide)]; exact ⟨rfl, by decide, by decide⟩)⟩)
        · refine an2 hw ?_
          clear hw
          intro he_27 he_28 hw
          have h_26 := hw
          clear hw
          have he_27 := he_27.symm
          subst he_27
          subst he_28
          refine ww_eq (ws' := [(qs, .inr (5, [.ref qt, .ref po, .ref pa, .ref pf, .ref pd, .int nd, .int tn, .int an, .int wr, .int pl])), (qt, .inr (10, [.ref tb, .int (nI tl), .int (nI ta), .int (nI tk), .int (nI ts)])), (tb, .inl (E.2.1 0, 160, .inl fb))]) ?_ rfl rfl rfl
          refine ww_if_eq_t (tgt := 56) C dX5_opAboutKnowers_50 (by decide) (rfl) ?_
          refine ww_aload_n C dX5_opAboutKnowers_56 0 rfl rfl ?_
          refine ww_get C fg_X5_12 0 rfl rfl dX5_opAboutKnowers_57 ?_
          refine ww_ldcS (tx := "together") C (List.mem_of_getElem? (i := 13) rfl) rfl dX5_opAboutKnowers_60 ?_
          refine ww_ci (wr := [(qs, .inr (5, [.ref qt, .ref po, .ref pa, .ref pf, .ref pd, .int nd, .int tn, .int an, .int wr, .int pl]))]) (k' := 0) (n' := 0) C (run_V (As := [.ref (E.2.2 141)]) (rest := []) C (t_isName X.2.1 E ro qt tb tl ta tk ts fb 13 (by decide) (by omega) (by omega) (by omega) (by omega)) mi_X10_isName wl_X5_78 rfl 0 10 rfl rfl rfl rfl rfl dX5_opAboutKnowers_62) (roK hro) [1, 2] [0] rfl rfl rfl rfl (fun r_29 uz hw => ?_)
          rcases hw with hw | hw
          · refine an2 hw ?_
            clear hw
            intro he_31 he_32 hw
            have h_30 := hw
            clear hw
            have he_31 := he_31.symm
            subst he_31
            subst he_32
            refine ww_eq (ws' := [(qs, .inr (5, [.ref qt, .ref po, .ref pa, .ref pf, .ref pd, .int nd, .int tn, .int an, .int wr, .int pl])), (qt, .inr (10, [.ref tb, .int (nI tl), .int (nI ta), .int (nI tk), .int (nI ts)])), (tb, .inl (E.2.1 0, 160, .inl fb))]) ?_ rfl rfl rfl
            refine ww_if_eq_f (tgt := 73) C dX5_opAboutKnowers_65 (by decide) (by decide) ?_
            refine ww_bipush (v := 8) C dX5_opAboutKnowers_68 rfl ?_
            refine ww_goto (tgt := 75) C dX5_opAboutKnowers_70 (by decide) ?_
            exact ww_iret (u := [(qs, .inr (5, [.ref qt, .ref po, .ref pa, .ref pf, .ref pd, .int nd, .int tn, .int an, .int wr, .int pl])), (qt, .inr (10, [.ref tb, .int (nI tl), .int (nI ta), .int (nI tk), .int (nI ts)])), (tb, .inl (E.2.1 0, 160, .inl fb))]) C hT [0, 1, 2] rfl rfl rfl rfl dX5_opAboutKnowers_75 (Or.inr ⟨rfl, (by decide), (by decide), (by rw [aT_of (show IN (cz fb tl) ts tk ta 12 from h_30) (by decide)]; exact ⟨rfl, by decide, by decide⟩)⟩)
          · refine an2 hw ?_
            clear hw
            intro he_34 he_35 hw
            have h_33 := hw
            clear hw
            have he_34 := he_34.symm
            subst he_34
            subst he_35
            refine ww_eq (ws' := [(qs, .inr (5, [.ref qt, .ref po, .ref pa, .ref pf, .ref pd, .int nd, .int tn, .int an, .int wr, .int pl])), (qt, .inr (10, [.ref tb, .int (nI tl), .int (nI ta), .int (nI tk), .int (nI ts)])), (tb, .inl (E.2.1 0, 160, .inl fb))]) ?_ rfl rfl rfl
            refine ww_if_eq_t (tgt := 73) C dX5_opAboutKnowers_65 (by decide) (rfl) ?_
            refine ww_bipush (v := (-4)) C dX5_opAboutKnowers_73 rfl ?_
            exact ww_iret (u := [(qs, .inr (5, [.ref qt, .ref po, .ref pa, .ref pf, .ref pd, .int nd, .int tn, .int an, .int wr, .int pl])), (qt, .inr (10, [.ref tb, .int (nI tl), .int (nI ta), .int (nI tk), .int (nI ts)])), (tb, .inl (E.2.1 0, 160, .inl fb))]) C hT [0, 1, 2] rfl rfl rfl rfl dX5_opAboutKnowers_75 (Or.inl ⟨rfl, rfl, ⟨aT_nn (show ¬ IN (cz fb tl) ts tk ta 8 from h_5) (by decide), aT_nn (show ¬ IN (cz fb tl) ts tk ta 9 from h_19) (by decide), aT_nn (show ¬ IN (cz fb tl) ts tk ta 10 from h_12) (by decide), aT_nn (show ¬ IN (cz fb tl) ts tk ta 11 from h_26) (by decide), aT_nn (show ¬ IN (cz fb tl) ts tk ta 12 from h_33) (by decide)⟩⟩)
theorem opV_l {a : Nat} (h : a < 4) : opV a = 0 := by unfold opV; rw [if_pos h]
theorem dX5_opOfName_0 : decode cX5_opOfName 0 = .ok (.aload_n 0, 1) := dl_42 (by decide +kernel)
theorem dX5_opOfName_1 : decode cX5_opOfName 1 = .ok (.invokevirtual 92, 3) := dl_182 (by decide +kernel)
theorem wl_X5_92 : Cond.methodLink RX5 92 yX5_factOfName ∈ TB := tbm (tq3 (List.mem_of_getElem? (i := 106) (by decide +kernel))) (by decide +kernel)
theorem wc_X5_factOfName : Cond.code yX5_factOfName cX5_factOfName 1 (some .int) ∈ TB := tbm (tq3 (List.mem_of_getElem? (i := 109) (rfl))) (by decide +kernel)
theorem wi_X5_factOfName : Cond.instanceMethod yX5_factOfName ∈ TB := tbm (tq3 (List.mem_of_getElem? (i := 108) (by decide +kernel))) (by decide +kernel)
theorem ws_X5_factOfName : Cond.selects RX5 yX5_factOfName yX5_factOfName ∈ TB := tbm (tq0 (List.mem_of_getElem? (i := 10) (by decide +kernel))) (by decide +kernel)
theorem mi_X5_factOfName : MI yX5_factOfName cX5_factOfName 1 (some .int) 0 := ⟨wc_X5_factOfName, wn_X5, ⟨by decide +kernel, by decide +kernel, by decide +kernel⟩, wi_X5_factOfName, ws_X5_factOfName⟩
theorem dX5_opOfName_4 : decode cX5_opOfName 4 = .ok (.ifCond .eq 5, 3) := dl_153 (by decide +kernel)
theorem dX5_opOfName_9 : decode cX5_opOfName 9 = .ok (.aload_n 0, 1) := dl_42 (by decide +kernel)
theorem dX5_opOfName_10 : decode cX5_opOfName 10 = .ok (.getfield 12, 3) := dl_180 (by decide +kernel)
theorem dX5_opOfName_13 : decode cX5_opOfName 13 = .ok (.ldc 124, 2) := dl_18 (by decide +kernel)
theorem dX5_opOfName_15 : decode cX5_opOfName 15 = .ok (.invokevirtual 78, 3) := dl_182 (by decide +kernel)
theorem dX5_opOfName_18 : decode cX5_opOfName 18 = .ok (.ifCond .eq 5, 3) := dl_153 (by decide +kernel)
theorem dX5_opOfName_21 : decode cX5_opOfName 21 = .ok (.iconst 1, 1) := dl_4 (by decide +kernel)
theorem dX5_opOfName_22 : decode cX5_opOfName 22 = .ok (.ireturn, 1) := dl_172 (by decide +kernel)
theorem dX5_opOfName_23 : decode cX5_opOfName 23 = .ok (.aload_n 0, 1) := dl_42 (by decide +kernel)
theorem dX5_opOfName_24 : decode cX5_opOfName 24 = .ok (.getfield 12, 3) := dl_180 (by decide +kernel)
theorem dX5_opOfName_27 : decode cX5_opOfName 27 = .ok (.ldc 126, 2) := dl_18 (by decide +kernel)
theorem dX5_opOfName_29 : decode cX5_opOfName 29 = .ok (.invokevirtual 78, 3) := dl_182 (by decide +kernel)
theorem dX5_opOfName_32 : decode cX5_opOfName 32 = .ok (.ifCond .eq 5, 3) := dl_153 (by decide +kernel)
theorem dX5_opOfName_35 : decode cX5_opOfName 35 = .ok (.iconst 2, 1) := dl_5 (by decide +kernel)
theorem dX5_opOfName_36 : decode cX5_opOfName 36 = .ok (.ireturn, 1) := dl_172 (by decide +kernel)
theorem dX5_opOfName_37 : decode cX5_opOfName 37 = .ok (.aload_n 0, 1) := dl_42 (by decide +kernel)
theorem dX5_opOfName_38 : decode cX5_opOfName 38 = .ok (.getfield 12, 3) := dl_180 (by decide +kernel)
theorem dX5_opOfName_41 : decode cX5_opOfName 41 = .ok (.ldc 128, 2) := dl_18 (by decide +kernel)
theorem dX5_opOfName_43 : decode cX5_opOfName 43 = .ok (.invokevirtual 78, 3) := dl_182 (by decide +kernel)
theorem dX5_opOfName_46 : decode cX5_opOfName 46 = .ok (.ifCond .eq 5, 3) := dl_153 (by decide +kernel)
theorem dX5_opOfName_49 : decode cX5_opOfName 49 = .ok (.iconst 3, 1) := dl_6 (by decide +kernel)
theorem dX5_opOfName_50 : decode cX5_opOfName 50 = .ok (.ireturn, 1) := dl_172 (by decide +kernel)
theorem dX5_opOfName_51 : decode cX5_opOfName 51 = .ok (.aload_n 0, 1) := dl_42 (by decide +kernel)
theorem dX5_opOfName_52 : decode cX5_opOfName 52 = .ok (.getfield 12, 3) := dl_180 (by decide +kernel)
theorem dX5_opOfName_55 : decode cX5_opOfName 55 = .ok (.ldc 130, 2) := dl_18 (by decide +kernel)
theorem dX5_opOfName_57 : decode cX5_opOfName 57 = .ok (.invokevirtual 78, 3) := dl_182 (by decide +kernel)
theorem dX5_opOfName_60 : decode cX5_opOfName 60 = .ok (.ifCond .eq 5, 3) := dl_153 (by decide +kernel)
theorem dX5_opOfName_63 : decode cX5_opOfName 63 = .ok (.iconst 4, 1) := dl_7 (by decide +kernel)
theorem dX5_opOfName_64 : decode cX5_opOfName 64 = .ok (.ireturn, 1) := dl_172 (by decide +kernel)
theorem dX5_opOfName_65 : decode cX5_opOfName 65 = .ok (.aload_n 0, 1) := dl_42 (by decide +kernel)
theorem dX5_opOfName_66 : decode cX5_opOfName 66 = .ok (.invokevirtual 132, 3) := dl_182 (by decide +kernel)
theorem wl_X5_132 : Cond.methodLink RX5 132 yX5_opAboutKnowers ∈ TB := tbm (tq3 (List.mem_of_getElem? (i := 118) (by decide +kernel))) (by decide +kernel)
theorem wc_X5_opAboutKnowers : Cond.code yX5_opAboutKnowers cX5_opAboutKnowers 1 (some .int) ∈ TB := tbm (tq3 (List.mem_of_getElem? (i := 121) (rfl))) (by decide +kernel)
theorem wi_X5_opAboutKnowers : Cond.instanceMethod yX5_opAboutKnowers ∈ TB := tbm (tq3 (List.mem_of_getElem? (i := 120) (by decide +kernel))) (by decide +kernel)
theorem ws_X5_opAboutKnowers : Cond.selects RX5 yX5_opAboutKnowers yX5_opAboutKnowers ∈ TB := tbm (tq0 (List.mem_of_getElem? (i := 11) (by decide +kernel))) (by decide +kernel)
theorem mi_X5_opAboutKnowers : MI yX5_opAboutKnowers cX5_opAboutKnowers 1 (some .int) 0 := ⟨wc_X5_opAboutKnowers, wn_X5, ⟨by decide +kernel, by decide +kernel, by decide +kernel⟩, wi_X5_opAboutKnowers, ws_X5_opAboutKnowers⟩
theorem dX5_opOfName_69 : decode cX5_opOfName 69 = .ok (.ireturn, 1) := dl_172 (by decide +kernel)
theorem dX5_opOfName_7 : decode cX5_opOfName 7 = .ok (.iconst 0, 1) := dl_3 (by decide +kernel)
theorem dX5_opOfName_8 : decode cX5_opOfName 8 = .ok (.ireturn, 1) := dl_172 (by decide +kernel)
set_option maxRecDepth 100000 in
set_option maxHeartbeats 4000000 in
theorem q_opOfName (l : Launch) (E : EV) (ro : va_W) (qs : Nat) (qt : Nat) (po : Nat) (pa : Nat) (pf : Nat) (pd : Nat) (nd : Int32) (tn : Int32) (an : Int32) (wr : Int32) (pl : Int32) (tb : Nat) (tl : Nat) (ta : Nat) (tk : Nat) (ts : Nat) (fb : Nat → Int32) (hts : ts ≤ ta) (hta : ta ≤ tl) (htl : tl ≤ 160) (htk : tk ≤ 3) (hs9 : tk = 2 → ts < ta) (hfg : TX (cz fb tl) ts tk ta) : CT l yX5_opOfName (Cond.code yX5_opOfName cX5_opOfName 1 (some .int) :: TB) ({ frames := 6, cells := 0, slots := 0, locals := 127 }) E ro [.ref qs] [(qs, .inr (5, [.ref qt, .ref po, .ref pa, .ref pf, .ref pd, .int nd, .int tn, .int an, .int wr, .int pl])), (qt, .inr (10, [.ref tb, .int (nI tl), .int (nI ta), .int (nI tk), .int (nI ts)])), (tb, .inl (E.2.1 0, 160, .inl fb))] (Qi E (fun (rz : Int32) uz => (rz = (-4) ∧ uz = [(qs, .inr (5, [.ref qt, .ref po, .ref pa, .ref pf, .ref pd, .int nd, .int tn, .int an, .int wr, .int pl])), (qt, .inr (10, [.ref tb, .int (nI tl), .int (nI ta), .int (nI tk), .int (nI ts)])), (tb, .inl (E.2.1 0, 160, .inl fb))] ∧ (13 ≤ aT (cz fb tl) ts tk ta)) ∨ (uz = [(qs, .inr (5, [.ref qt, .ref po, .ref pa, .ref pf, .ref pd, .int nd, .int tn, .int an, .int wr, .int pl])), (qt, .inr (10, [.ref tb, .int (nI tl), .int (nI ta), .int (nI tk), .int (nI ts)])), (tb, .inl (E.2.1 0, 160, .inl fb))] ∧ (0 ≤ rz.toInt) ∧ (rz.toInt ≤ 8) ∧ (rz = opV (aT (cz fb tl) ts tk ta) ∧ aT (cz fb tl) ts tk ta < 13)))) 0 0 := by
  refine ct_of rfl rfl ?_
  intro X C hT hin hro
  show WW X 1 E 0 [(0, .ref qs)] [] [(qs, .inr (5, [.ref qt, .ref po, .ref pa, .ref pf, .ref pd, .int nd, .int tn, .int an, .int wr, .int pl])), (qt, .inr (10, [.ref tb, .int (nI tl), .int (nI ta), .int (nI tk), .int (nI ts)])), (tb, .inl (E.2.1 0, 160, .inl fb))] 0 0
  refine ww_aload_n C dX5_opOfName_0 0 rfl rfl ?_
  refine ww_ci (wr := []) (k' := 0) (n' := 0) C (run_V (As := []) (rest := []) C (q_factOfName X.2.1 E ro qs qt po pa pf pd nd tn an wr pl tb tl ta tk ts fb (by omega) (by omega) (by omega) (by omega) (by omega) hfg) mi_X5_factOfName wl_X5_92 rfl 0 5 rfl rfl rfl rfl rfl dX5_opOfName_1) (roK hro) [0, 1, 2] [] rfl rfl rfl rfl (fun r_1 uz hw => ?_)
  refine an1 hw ?_
  clear hw
  intro he_2 hw
  have he_3 := hw
  clear hw
  have he_2 := he_2.symm
  subst he_2
  subst he_3
  refine ww_eq (ws' := [(qs, .inr (5, [.ref qt, .ref po, .ref pa, .ref pf, .ref pd, .int nd, .int tn, .int an, .int wr, .int pl])), (qt, .inr (10, [.ref tb, .int (nI tl), .int (nI ta), .int (nI tk), .int (nI ts)])), (tb, .inl (E.2.1 0, 160, .inl fb))]) ?_ rfl rfl rfl
  refine ww_if_eq (tgt := 9) C dX5_opOfName_4 (by decide) (fun c_4 => ?_) (fun c_4 => ?_)
  · have zc_4 : (fv (aT (cz fb tl) ts tk ta)).toInt = 0 := i_eq rfl rfl c_4
    refine ww_aload_n C dX5_opOfName_9 0 rfl rfl ?_
    refine ww_get C fg_X5_12 0 rfl rfl dX5_opOfName_10 ?_
    refine ww_ldcS (tx := "yes") C (List.mem_of_getElem? (i := 5) rfl) rfl dX5_opOfName_13 ?_
    refine ww_ci (wr := [(qs, .inr (5, [.ref qt, .ref po, .ref pa, .ref pf, .ref pd, .int nd, .int tn, .int an, .int wr, .int pl]))]) (k' := 0) (n' := 0) C (run_V (As := [.ref (E.2.2 124)]) (rest := []) C (t_isName X.2.1 E ro qt tb tl ta tk ts fb 5 (by decide) (by omega) (by omega) (by omega) (by omega)) mi_X10_isName wl_X5_78 rfl 0 10 rfl rfl rfl rfl rfl dX5_opOfName_15) (roK hro) [1, 2] [0] rfl rfl rfl rfl (fun r_5 uz hw => ?_)
    rcases hw with hw | hw
    · refine an2 hw ?_
      clear hw
      intro he_7 he_8 hw
      have h_6 := hw
      clear hw
      have he_7 := he_7.symm
      subst he_7
      subst he_8
      refine ww_eq (ws' := [(qs, .inr (5, [.ref qt, .ref po, .ref pa, .ref pf, .ref pd, .int nd, .int tn, .int an, .int wr, .int pl])), (qt, .inr (10, [.ref tb, .int (nI tl), .int (nI ta), .int (nI tk), .int (nI ts)])), (tb, .inl (E.2.1 0, 160, .inl fb))]) ?_ rfl rfl rfl
      refine ww_if_eq_f (tgt := 23) C dX5_opOfName_18 (by decide) (by decide) ?_
      refine ww_iconst (v := 1) C dX5_opOfName_21 rfl ?_
      exact ww_iret (u := [(qs, .inr (5, [.ref qt, .ref po, .ref pa, .ref pf, .ref pd, .int nd, .int tn, .int an, .int wr, .int pl])), (qt, .inr (10, [.ref tb, .int (nI tl), .int (nI ta), .int (nI tk), .int (nI ts)])), (tb, .inl (E.2.1 0, 160, .inl fb))]) C hT [0, 1, 2] rfl rfl rfl rfl dX5_opOfName_22 (Or.inr ⟨rfl, (by first | decide | assumption), (by first | decide | assumption), (by rw [aT_of (show IN (cz fb tl) ts tk ta 4 from h_6) (by decide)]; exact ⟨rfl, by decide⟩)⟩)
    · refine an2 hw ?_
      clear hw
      intro he_10 he_11 hw
      have h_9 := hw
      clear hw
      have he_10 := he_10.symm
      subst he_10
      subst he_11
      refine ww_eq (ws' := [(qs, .inr (5, [.ref qt, .ref po, .ref pa, .ref pf, .ref pd, .int nd, .int tn, .int an, .int wr, .int pl])), (qt, .inr (10, [.ref tb, .int (nI tl), .int (nI ta), .int (nI tk), .int (nI ts)])), (tb, .inl (E.2.1 0, 160, .inl fb))]) ?_ rfl rfl rfl
      refine ww_if_eq_t (tgt := 23) C dX5_opOfName_18 (by decide) (rfl) ?_
      refine ww_aload_n C dX5_opOfName_23 0 rfl rfl ?_
      refine ww_get C fg_X5_12 0 rfl rfl dX5_opOfName_24 ?_
      refine ww_ldcS (tx := "not") C (List.mem_of_getElem? (i := 6) rfl) rfl dX5_opOfName_27 ?_
      refine ww_ci (wr := [(qs, .inr (5, [.ref qt, .ref po, .ref pa, .ref pf, .ref pd, .int nd, .int tn, .int an, .int wr, .int pl]))]) (k' := 0) (n' := 0) C (run_V (As := [.ref (E.2.2 126)]) (rest := []) C (t_isName X.2.1 E ro qt tb tl ta tk ts fb 6 (by decide) (by omega) (by omega) (by omega) (by omega)) mi_X10_isName wl_X5_78 rfl 0 10 rfl rfl rfl rfl rfl dX5_opOfName_29) (roK hro) [1, 2] [0] rfl rfl rfl rfl (fun r_12 uz hw => ?_)
      rcases hw with hw | hw
      · refine an2 hw ?_
        clear hw
        intro he_14 he_15 hw
        have h_13 := hw
        clear hw
        have he_14 := he_14.symm
        subst he_14
        subst he_15
        refine ww_eq (ws' := [(qs, .inr (5, [.ref qt, .ref po, .ref pa, .ref pf, .ref pd, .int nd, .int tn, .int an, .int wr, .int pl])), (qt, .inr (10, [.ref tb, .int (nI tl), .int (nI ta), .int (nI tk), .int (nI ts)])), (tb, .inl (E.2.1 0, 160, .inl fb))]) ?_ rfl rfl rfl
        refine ww_if_eq_f (tgt := 37) C dX5_opOfName_32 (by decide) (by decide) ?_
        refine ww_iconst (v := 2) C dX5_opOfName_35 rfl ?_
        exact ww_iret (u := [(qs, .inr (5, [.ref qt, .ref po, .ref pa, .ref pf, .ref pd, .int nd, .int tn, .int an, .int wr, .int pl])), (qt, .inr (10, [.ref tb, .int (nI tl), .int (nI ta), .int (nI tk), .int (nI ts)])), (tb, .inl (E.2.1 0, 160, .inl fb))]) C hT [0, 1, 2] rfl rfl rfl rfl dX5_opOfName_36 (Or.inr ⟨rfl, (by first | decide | assumption), (by first | decide | assumption), (by rw [aT_of (show IN (cz fb tl) ts tk ta 5 from h_13) (by decide)]; exact ⟨rfl, by decide⟩)⟩)
      · refine an2 hw ?_
        clear hw
        intro he_17 he_18 hw
        have h_16 := hw
        clear hw
        have he_17 := he_17.symm
        subst he_17
        subst he_18
        refine ww_eq (ws' := [(qs, .inr (5, [.ref qt, .ref po, .ref pa, .ref pf, .ref pd, .int nd, .int tn, .int an, .int wr, .int pl])), (qt, .inr (10, [.ref tb, .int (nI tl), .int (nI ta), .int (nI tk), .int (nI ts)])), (tb, .inl (E.2.1 0, 160, .inl fb))]) ?_ rfl rfl rfl
        refine ww_if_eq_t (tgt := 37) C dX5_opOfName_32 (by decide) (rfl) ?_
        refine ww_aload_n C dX5_opOfName_37 0 rfl rfl ?_
        refine ww_get C fg_X5_12 0 rfl rfl dX5_opOfName_38 ?_
        refine ww_ldcS (tx := "and") C (List.mem_of_getElem? (i := 7) rfl) rfl dX5_opOfName_41 ?_
        refine ww_ci (wr := [(qs, .inr (5, [.ref qt, .ref po, .ref pa, .ref pf, .ref pd, .int nd, .int tn, .int an, .int wr, .int pl]))]) (k' := 0) (n' := 0) C (run_V (As := [.ref (E.2.2 128)]) (rest := []) C (t_isName X.2.1 E ro qt tb tl ta tk ts fb 7 (by decide) (by omega) (by omega) (by omega) (by omega)) mi_X10_isName wl_X5_78 rfl 0 10 rfl rfl rfl rfl rfl dX5_opOfName_43) (roK hro) [1, 2] [0] rfl rfl rfl rfl (fun r_19 uz hw => ?_)
        rcases hw with hw | hw
        · refine an2 hw ?_
          clear hw
          intro he_21 he_22 hw
          have h_20 := hw
          clear hw
          have he_21 := he_21.symm
          subst he_21
          subst he_22
          refine ww_eq (ws' := [(qs, .inr (5, [.ref qt, .ref po, .ref pa, .ref pf, .ref pd, .int nd, .int tn, .int an, .int wr, .int pl])), (qt, .inr (10, [.ref tb, .int (nI tl), .int (nI ta), .int (nI tk), .int (nI ts)])), (tb, .inl (E.2.1 0, 160, .inl fb))]) ?_ rfl rfl rfl
          refine ww_if_eq_f (tgt := 51) C dX5_opOfName_46 (by decide) (by decide) ?_
          refine ww_iconst (v := 3) C dX5_opOfName_49 rfl ?_
          exact ww_iret (u := [(qs, .inr (5, [.ref qt, .ref po, .ref pa, .ref pf, .ref pd, .int nd, .int tn, .int an, .int wr, .int pl])), (qt, .inr (10, [.ref tb, .int (nI tl), .int (nI ta), .int (nI tk), .int (nI ts)])), (tb, .inl (E.2.1 0, 160, .inl fb))]) C hT [0, 1, 2] rfl rfl rfl rfl dX5_opOfName_50 (Or.inr ⟨rfl, (by first | decide | assumption), (by first | decide | assumption), (by rw [aT_of (show IN (cz fb tl) ts tk ta 6 from h_20) (by decide)]; exact ⟨rfl, by decide⟩)⟩)
        · refine an2 hw ?_
          clear hw
          intro he_24 he_25 hw
          have h_23 := hw
          clear hw
          have he_24 := he_24.symm
          subst he_24
          subst he_25
          refine ww_eq (ws' := [(qs, .inr (5, [.ref qt, .ref po, .ref pa, .ref pf, .ref pd, .int nd, .int tn, .int an, .int wr, .int pl])), (qt, .inr (10, [.ref tb, .int (nI tl), .int (nI ta), .int (nI tk), .int (nI ts)])), (tb, .inl (E.2.1 0, 160, .inl fb))]) ?_ rfl rfl rfl
          refine ww_if_eq_t (tgt := 51) C dX5_opOfName_46 (by decide) (rfl) ?_
          refine ww_aload_n C dX5_opOfName_51 0 rfl rfl ?_
          refine ww_get C fg_X5_12 0 rfl rfl dX5_opOfName_52 ?_
          refine ww_ldcS (tx := "or") C (List.mem_of_getElem? (i := 8) rfl) rfl dX5_opOfName_55 ?_
          refine ww_ci (wr := [(qs, .inr (5, [.ref qt, .ref po, .ref pa, .ref pf, .ref pd, .int nd, .int tn, .int an, .int wr, .int pl]))]) (k' := 0) (n' := 0) C (run_V (As := [.ref (E.2.2 130)]) (rest := []) C (t_isName X.2.1 E ro qt tb tl ta tk ts fb 8 (by decide) (by omega) (by omega) (by omega) (by omega)) mi_X10_isName wl_X5_78 rfl 0 10 rfl rfl rfl rfl rfl dX5_opOfName_57) (roK hro) [1, 2] [0] rfl rfl rfl rfl (fun r_26 uz hw => ?_)
          rcases hw with hw | hw
          · refine an2 hw ?_
            clear hw
            intro he_28 he_29 hw
            have h_27 := hw
            clear hw
            have he_28 := he_28.symm
            subst he_28
            subst he_29
            refine ww_eq (ws' := [(qs, .inr (5, [.ref qt, .ref po, .ref pa, .ref pf, .ref pd, .int nd, .int tn, .int an, .int wr, .int pl])), (qt, .inr (10, [.ref tb, .int (nI tl), .int (nI ta), .int (nI tk), .int (nI ts)])), (tb, .inl (E.2.1 0, 160, .inl fb))]) ?_ rfl rfl rfl
            refine ww_if_eq_f (tgt := 65) C dX5_opOfName_60 (by decide) (by decide) ?_
            refine ww_iconst (v := 4) C dX5_opOfName_63 rfl ?_
            exact ww_iret (u := [(qs, .inr (5, [.ref qt, .ref po, .ref pa, .ref pf, .ref pd, .int nd, .int tn, .int an, .int wr, .int pl])), (qt, .inr (10, [.ref tb, .int (nI tl), .int (nI ta), .int (nI tk), .int (nI ts)])), (tb, .inl (E.2.1 0, 160, .inl fb))]) C hT [0, 1, 2] rfl rfl rfl rfl dX5_opOfName_64 (Or.inr ⟨rfl, (by first | decide | assumption), (by first | decide | assumption), (by rw [aT_of (show IN (cz fb tl) ts tk ta 7 from h_27) (by decide)]; exact ⟨rfl, by decide⟩)⟩)
          · refine an2 hw ?_
            clear hw
            intro he_31 he_32 hw
            have h_30 := hw
            clear hw
            have he_31 := he_31.symm
            subst he_31
            subst he_32
            refine ww_eq (ws' := [(qs, .inr (5, [.ref qt, .ref po, .ref pa, .ref pf, .ref pd, .int nd, .int tn, .int an, .int wr, .int pl])), (qt, .inr (10, [.ref tb, .int (nI tl), .int (nI ta), .int (nI tk), .int (nI ts)])), (tb, .inl (E.2.1 0, 160, .inl fb))]) ?_ rfl rfl rfl
            refine ww_if_eq_t (tgt := 65) C dX5_opOfName_60 (by decide) (rfl) ?_
            refine ww_aload_n C dX5_opOfName_65 0 rfl rfl ?_
            refine ww_ci (wr := []) (k' := 0) (n' := 0) C (run_V (As := []) (rest := []) C (q_opAboutKnowers X.2.1 E ro qs qt po pa pf pd nd tn an wr pl tb tl ta tk ts fb (by omega) (by omega) (by omega) (by omega) (by omega) hfg) mi_X5_opAboutKnowers wl_X5_132 rfl 0 5 rfl rfl rfl rfl rfl dX5_opOfName_66) (roK hro) [0, 1, 2] [] rfl rfl rfl rfl (fun r_33 uz hw => ?_)
            rcases hw with hw | hw
            · refine an2 hw ?_
              clear hw
              intro he_35 he_36 hw
              have h_34 := hw
              clear hw
              have he_35 := he_35.symm
              subst he_35
              subst he_36
              refine ww_eq (ws' := [(qs, .inr (5, [.ref qt, .ref po, .ref pa, .ref pf, .ref pd, .int nd, .int tn, .int an, .int wr, .int pl])), (qt, .inr (10, [.ref tb, .int (nI tl), .int (nI ta), .int (nI tk), .int (nI ts)])), (tb, .inl (E.2.1 0, 160, .inl fb))]) ?_ rfl rfl rfl
              exact ww_iret (u := [(qs, .inr (5, [.ref qt, .ref po, .ref pa, .ref pf, .ref pd, .int nd, .int tn, .int an, .int wr, .int pl])), (qt, .inr (10, [.ref tb, .int (nI tl), .int (nI ta), .int (nI tk), .int (nI ts)])), (tb, .inl (E.2.1 0, 160, .inl fb))]) C hT [0, 1, 2] rfl rfl rfl rfl dX5_opOfName_69 (Or.inl ⟨rfl, rfl, (by have h9 := (fv_0 (aT (cz fb tl) ts tk ta) (by have := (aT_le (cz fb tl) ts tk ta).1; omega)); obtain ⟨q1, q2, q3, q4, q5⟩ := h_34; have n4 := aT_nn (show ¬ IN (cz fb tl) ts tk ta 4 from h_9) (by decide); have n5 := aT_nn (show ¬ IN (cz fb tl) ts tk ta 5 from h_16) (by decide); have n6 := aT_nn (show ¬ IN (cz fb tl) ts tk ta 6 from h_23) (by decide); have n7 := aT_nn (show ¬ IN (cz fb tl) ts tk ta 7 from h_30) (by decide); omega)⟩)
            · refine an3 hw ?_
              clear hw
              intro he_40 h_37 h_38 hw
              have h_39 := hw
              clear hw
              subst he_40
              refine ww_eq (ws' := [(qs, .inr (5, [.ref qt, .ref po, .ref pa, .ref pf, .ref pd, .int nd, .int tn, .int an, .int wr, .int pl])), (qt, .inr (10, [.ref tb, .int (nI tl), .int (nI ta), .int (nI tk), .int (nI ts)])), (tb, .inl (E.2.1 0, 160, .inl fb))]) ?_ rfl rfl rfl
              exact ww_iret (u := [(qs, .inr (5, [.ref qt, .ref po, .ref pa, .ref pf, .ref pd, .int nd, .int tn, .int an, .int wr, .int pl])), (qt, .inr (10, [.ref tb, .int (nI tl), .int (nI ta), .int (nI tk), .int (nI ts)])), (tb, .inl (E.2.1 0, 160, .inl fb))]) C hT [0, 1, 2] rfl rfl rfl rfl dX5_opOfName_69 (Or.inr ⟨rfl, (by first | decide | assumption), (by first | decide | assumption), ⟨h_39.1, h_39.2.2⟩⟩)
  · have zc_4 : (fv (aT (cz fb tl) ts tk ta)).toInt ≠ 0 := i_ne rfl rfl c_4
    refine ww_iconst (v := 0) C dX5_opOfName_7 rfl ?_
    exact ww_iret (u := [(qs, .inr (5, [.ref qt, .ref po, .ref pa, .ref pf, .ref pd, .int nd, .int tn, .int an, .int wr, .int pl])), (qt, .inr (10, [.ref tb, .int (nI tl), .int (nI ta), .int (nI tk), .int (nI ts)])), (tb, .inl (E.2.1 0, 160, .inl fb))]) C hT [0, 1, 2] rfl rfl rfl rfl dX5_opOfName_8 (Or.inr ⟨rfl, (by first | decide | assumption), (by first | decide | assumption), (by have h9 := (fv_0 (aT (cz fb tl) ts tk ta) (by have := (aT_le (cz fb tl) ts tk ta).1; omega)); have h8 : aT (cz fb tl) ts tk ta < 4 := (by omega); exact ⟨(opV_l h8).symm, by omega⟩)⟩)
theorem dX5_knowers_0 : decode cX5_knowers 0 = .ok (.aload_n 0, 1) := dl_42 (by decide +kernel)
theorem dX5_knowers_1 : decode cX5_knowers 1 = .ok (.getfield 12, 3) := dl_180 (by decide +kernel)
theorem dX5_knowers_4 : decode cX5_knowers 4 = .ok (.invokevirtual 108, 3) := dl_182 (by decide +kernel)
theorem wl_X5_108 : Cond.methodLink RX5 108 yX10_group ∈ TB := tbm (tq3 (List.mem_of_getElem? (i := 135) (by decide +kernel))) (by decide +kernel)
theorem wc_X10_group : Cond.code yX10_group cX10_group 4 (some .int) ∈ TB := tbm (tq3 (List.mem_of_getElem? (i := 138) (rfl))) (by decide +kernel)
theorem wi_X10_group : Cond.instanceMethod yX10_group ∈ TB := tbm (tq3 (List.mem_of_getElem? (i := 136) (by decide +kernel))) (by decide +kernel)
theorem ws_X10_group : Cond.selects RX10 yX10_group yX10_group ∈ TB := tbm (tq3 (List.mem_of_getElem? (i := 137) (by decide +kernel))) (by decide +kernel)
theorem mi_X10_group : MI yX10_group cX10_group 4 (some .int) 0 := ⟨wc_X10_group, wn_X10, ⟨by decide +kernel, by decide +kernel, by decide +kernel⟩, wi_X10_group, ws_X10_group⟩
theorem dX5_knowers_7 : decode cX5_knowers 7 = .ok (.istore_n 2, 1) := dl_61 (by decide +kernel)
theorem dX5_knowers_8 : decode cX5_knowers 8 = .ok (.iload_n 1, 1) := dl_27 (by decide +kernel)
theorem dX5_knowers_9 : decode cX5_knowers 9 = .ok (.ifCond .eq 15, 3) := dl_153 (by decide +kernel)
theorem dX5_knowers_12 : decode cX5_knowers 12 = .ok (.iload_n 2, 1) := dl_28 (by decide +kernel)
theorem dX5_knowers_13 : decode cX5_knowers 13 = .ok (.invokestatic 111, 3) := dl_184 (by decide +kernel)
theorem wl_X5_111 : Cond.methodLink RX5 111 yJ6_bitCount_0f7a4 ∈ TB := tbm (tq3 (List.mem_of_getElem? (i := 140) (by decide +kernel))) (by decide +kernel)
theorem dX5_knowers_16 : decode cX5_knowers 16 = .ok (.iconst 1, 1) := dl_4 (by decide +kernel)
theorem dX5_knowers_17 : decode cX5_knowers 17 = .ok (.if_icmp .eq 7, 3) := dl_159 (by decide +kernel)
theorem dX5_knowers_24 : decode cX5_knowers 24 = .ok (.iload_n 2, 1) := dl_28 (by decide +kernel)
theorem dX5_knowers_25 : decode cX5_knowers 25 = .ok (.ireturn, 1) := dl_172 (by decide +kernel)
theorem dX5_knowers_20 : decode cX5_knowers 20 = .ok (.iconst 0, 1) := dl_3 (by decide +kernel)
theorem dX5_knowers_21 : decode cX5_knowers 21 = .ok (.goto 4, 3) := dl_167 (by decide +kernel)
set_option maxRecDepth 100000 in
set_option maxHeartbeats 4000000 in
theorem q_knowers1 (l : Launch) (E : EV) (ro : va_W) (qs : Nat) (qt : Nat) (po : Nat) (pa : Nat) (pf : Nat) (pd : Nat) (nd : Int32) (tn : Int32) (an : Int32) (wr : Int32) (pl : Int32) (tb : Nat) (tl : Nat) (ta : Nat) (tk : Nat) (ts : Nat) (fb : Nat → Int32) (hts : ts ≤ ta) (hta : ta ≤ tl) (htl : tl ≤ 160) (htk : tk ≤ 3) (hs9 : tk = 2 → ts < ta) (hfg : TX (cz fb tl) ts tk ta) : CT l yX5_knowers (Cond.code yX5_knowers cX5_knowers 3 (some .int) :: TB) ({ frames := 2, cells := 0, slots := 0, locals := 44 }) E ro [.ref qs, .int 1] [(qs, .inr (5, [.ref qt, .ref po, .ref pa, .ref pf, .ref pd, .int nd, .int tn, .int an, .int wr, .int pl])), (qt, .inr (10, [.ref tb, .int (nI tl), .int (nI ta), .int (nI tk), .int (nI ts)])), (tb, .inl (E.2.1 0, 160, .inl fb))] (Qi E (fun (rz : Int32) uz => (rz = (nI (gO (gT (cz fb tl) ts tk ta))) ∧ uz = [(qs, .inr (5, [.ref qt, .ref po, .ref pa, .ref pf, .ref pd, .int nd, .int tn, .int an, .int wr, .int pl])), (qt, .inr (10, [.ref tb, .int (nI tl), .int (nI ta), .int (nI tk), .int (nI ts)])), (tb, .inl (E.2.1 0, 160, .inl fb))] ∧ (gO (gT (cz fb tl) ts tk ta) < 16)))) 0 0 := by
  refine ct_of rfl rfl ?_
  intro X C hT hin hro
  show WW X 3 E 0 [(0, .ref qs), (1, .int 1)] [] [(qs, .inr (5, [.ref qt, .ref po, .ref pa, .ref pf, .ref pd, .int nd, .int tn, .int an, .int wr, .int pl])), (qt, .inr (10, [.ref tb, .int (nI tl), .int (nI ta), .int (nI tk), .int (nI ts)])), (tb, .inl (E.2.1 0, 160, .inl fb))] 0 0
  refine ww_aload_n C dX5_knowers_0 0 rfl rfl ?_
  refine ww_get C fg_X5_12 0 rfl rfl dX5_knowers_1 ?_
  refine ww_ci (wr := [(qs, .inr (5, [.ref qt, .ref po, .ref pa, .ref pf, .ref pd, .int nd, .int tn, .int an, .int wr, .int pl]))]) (k' := 0) (n' := 0) C (run_V (As := []) (rest := []) C (t_group X.2.1 E ro qt tb tl ta tk ts fb (by omega) (by omega) (by omega) (by omega) hfg) mi_X10_group wl_X5_108 rfl 0 10 rfl rfl rfl rfl rfl dX5_knowers_4) (roK hro) [1, 2] [0] rfl rfl rfl rfl (fun r_1 uz hw => ?_)
  refine an2 hw ?_
  clear hw
  intro he_3 he_4 hw
  have h_2 := hw
  clear hw
  have he_3 := he_3.symm
  subst he_3
  subst he_4
  refine ww_eq (ws' := [(qs, .inr (5, [.ref qt, .ref po, .ref pa, .ref pf, .ref pd, .int nd, .int tn, .int an, .int wr, .int pl])), (qt, .inr (10, [.ref tb, .int (nI tl), .int (nI ta), .int (nI tk), .int (nI ts)])), (tb, .inl (E.2.1 0, 160, .inl fb))]) ?_ rfl rfl rfl
  refine ww_istore_n (lv' := [(2, .int (nI (gT (cz fb tl) ts tk ta))), (0, .ref qs), (1, .int 1)]) C dX5_knowers_7 rfl rfl rfl ?_
  refine ww_iload_n C dX5_knowers_8 2 rfl rfl ?_
  refine ww_if_eq_f (tgt := 24) C dX5_knowers_9 (by decide) (by decide) ?_
  refine ww_iload_n C dX5_knowers_12 0 rfl rfl ?_
  refine ww_ci (wr := [(qs, .inr (5, [.ref qt, .ref po, .ref pa, .ref pf, .ref pd, .int nd, .int tn, .int an, .int wr, .int pl])), (qt, .inr (10, [.ref tb, .int (nI tl), .int (nI ta), .int (nI tk), .int (nI ts)])), (tb, .inl (E.2.1 0, 160, .inl fb))]) (k' := 0) (n' := 0) C (run_S (As := [.int (nI (gT (cz fb tl) ts tk ta))]) (rest := []) C (c_bitCount X.2.1 E ro (nI (gT (cz fb tl) ts tk ta))) ms_J6_bitCount_0f7a4 wl_X5_111 rfl rfl rfl rfl dX5_knowers_13) (roK hro) [] [0, 1, 2] rfl rfl rfl rfl (fun r_5 uz hw => ?_)
  refine an1 hw ?_
  clear hw
  intro he_6 hw
  have he_7 := hw
  clear hw
  have he_6 := he_6.symm
  subst he_6
  subst he_7
  refine ww_eq (ws' := [(qs, .inr (5, [.ref qt, .ref po, .ref pa, .ref pf, .ref pd, .int nd, .int tn, .int an, .int wr, .int pl])), (qt, .inr (10, [.ref tb, .int (nI tl), .int (nI ta), .int (nI tk), .int (nI ts)])), (tb, .inl (E.2.1 0, 160, .inl fb))]) ?_ rfl rfl rfl
  refine ww_iconst (v := 1) C dX5_knowers_16 rfl ?_
  refine ww_icmp_eq (tgt := 24) C dX5_knowers_17 (by decide) (fun c_8 => ?_) (fun c_8 => ?_)
  · have zc_8 : (bcf (nI (gT (cz fb tl) ts tk ta))).toInt = 1 := i_eq rfl rfl c_8
    refine ww_iload_n C dX5_knowers_24 0 rfl rfl ?_
    exact ww_iret (u := [(qs, .inr (5, [.ref qt, .ref po, .ref pa, .ref pf, .ref pd, .int nd, .int tn, .int an, .int wr, .int pl])), (qt, .inr (10, [.ref tb, .int (nI tl), .int (nI ta), .int (nI tk), .int (nI ts)])), (tb, .inl (E.2.1 0, 160, .inl fb))]) C hT [0, 1, 2] rfl rfl rfl rfl dX5_knowers_25 (⟨(by first | (rw [gO_0 (gT_lt _ _ _ _) (by assumption)]; rfl) | rw [gO_1 (gT_lt _ _ _ _) (by assumption)]), rfl, (gO_lt (gT_lt _ _ _ _))⟩)
  · have zc_8 : (bcf (nI (gT (cz fb tl) ts tk ta))).toInt ≠ 1 := i_ne rfl rfl c_8
    refine ww_iconst (v := 0) C dX5_knowers_20 rfl ?_
    refine ww_goto (tgt := 25) C dX5_knowers_21 (by decide) ?_
    exact ww_iret (u := [(qs, .inr (5, [.ref qt, .ref po, .ref pa, .ref pf, .ref pd, .int nd, .int tn, .int an, .int wr, .int pl])), (qt, .inr (10, [.ref tb, .int (nI tl), .int (nI ta), .int (nI tk), .int (nI ts)])), (tb, .inl (E.2.1 0, 160, .inl fb))]) C hT [0, 1, 2] rfl rfl rfl rfl dX5_knowers_25 (⟨(by first | (rw [gO_0 (gT_lt _ _ _ _) (by assumption)]; rfl) | rw [gO_1 (gT_lt _ _ _ _) (by assumption)]), rfl, (gO_lt (gT_lt _ _ _ _))⟩)
set_option maxRecDepth 100000 in
set_option maxHeartbeats 4000000 in
theorem q_knowers0 (l : Launch) (E : EV) (ro : va_W) (qs : Nat) (qt : Nat) (po : Nat) (pa : Nat) (pf : Nat) (pd : Nat) (nd : Int32) (tn : Int32) (an : Int32) (wr : Int32) (pl : Int32) (tb : Nat) (tl : Nat) (ta : Nat) (tk : Nat) (ts : Nat) (fb : Nat → Int32) (hts : ts ≤ ta) (hta : ta ≤ tl) (htl : tl ≤ 160) (htk : tk ≤ 3) (hs9 : tk = 2 → ts < ta) (hfg : TX (cz fb tl) ts tk ta) : CT l yX5_knowers (Cond.code yX5_knowers cX5_knowers 3 (some .int) :: TB) ({ frames := 2, cells := 0, slots := 0, locals := 44 }) E ro [.ref qs, .int 0] [(qs, .inr (5, [.ref qt, .ref po, .ref pa, .ref pf, .ref pd, .int nd, .int tn, .int an, .int wr, .int pl])), (qt, .inr (10, [.ref tb, .int (nI tl), .int (nI ta), .int (nI tk), .int (nI ts)])), (tb, .inl (E.2.1 0, 160, .inl fb))] (Qi E (fun (rz : Int32) uz => (rz = (nI (gT (cz fb tl) ts tk ta)) ∧ uz = [(qs, .inr (5, [.ref qt, .ref po, .ref pa, .ref pf, .ref pd, .int nd, .int tn, .int an, .int wr, .int pl])), (qt, .inr (10, [.ref tb, .int (nI tl), .int (nI ta), .int (nI tk), .int (nI ts)])), (tb, .inl (E.2.1 0, 160, .inl fb))] ∧ (gT (cz fb tl) ts tk ta < 16)))) 0 0 := by
  refine ct_of rfl rfl ?_
  intro X C hT hin hro
  show WW X 3 E 0 [(0, .ref qs), (1, .int 0)] [] [(qs, .inr (5, [.ref qt, .ref po, .ref pa, .ref pf, .ref pd, .int nd, .int tn, .int an, .int wr, .int pl])), (qt, .inr (10, [.ref tb, .int (nI tl), .int (nI ta), .int (nI tk), .int (nI ts)])), (tb, .inl (E.2.1 0, 160, .inl fb))] 0 0
  refine ww_aload_n C dX5_knowers_0 0 rfl rfl ?_
  refine ww_get C fg_X5_12 0 rfl rfl dX5_knowers_1 ?_
  refine ww_ci (wr := [(qs, .inr (5, [.ref qt, .ref po, .ref pa, .ref pf, .ref pd, .int nd, .int tn, .int an, .int wr, .int pl]))]) (k' := 0) (n' := 0) C (run_V (As := []) (rest := []) C (t_group X.2.1 E ro qt tb tl ta tk ts fb (by omega) (by omega) (by omega) (by omega) hfg) mi_X10_group wl_X5_108 rfl 0 10 rfl rfl rfl rfl rfl dX5_knowers_4) (roK hro) [1, 2] [0] rfl rfl rfl rfl (fun r_1 uz hw => ?_)
  refine an2 hw ?_
  clear hw
  intro he_3 he_4 hw
  have h_2 := hw
  clear hw
  have he_3 := he_3.symm
  subst he_3
  subst he_4
  refine ww_eq (ws' := [(qs, .inr (5, [.ref qt, .ref po, .ref pa, .ref pf, .ref pd, .int nd, .int tn, .int an, .int wr, .int pl])), (qt, .inr (10, [.ref tb, .int (nI tl), .int (nI ta), .int (nI tk), .int (nI ts)])), (tb, .inl (E.2.1 0, 160, .inl fb))]) ?_ rfl rfl rfl
  refine ww_istore_n (lv' := [(2, .int (nI (gT (cz fb tl) ts tk ta))), (0, .ref qs), (1, .int 0)]) C dX5_knowers_7 rfl rfl rfl ?_
  refine ww_iload_n C dX5_knowers_8 2 rfl rfl ?_
  refine ww_if_eq_t (tgt := 24) C dX5_knowers_9 (by decide) (rfl) ?_
  refine ww_iload_n C dX5_knowers_24 0 rfl rfl ?_
  exact ww_iret (u := [(qs, .inr (5, [.ref qt, .ref po, .ref pa, .ref pf, .ref pd, .int nd, .int tn, .int an, .int wr, .int pl])), (qt, .inr (10, [.ref tb, .int (nI tl), .int (nI ta), .int (nI tk), .int (nI ts)])), (tb, .inl (E.2.1 0, 160, .inl fb))]) C hT [0, 1, 2] rfl rfl rfl rfl dX5_knowers_25 (⟨rfl, rfl, (gT_lt _ _ _ _)⟩)
end
