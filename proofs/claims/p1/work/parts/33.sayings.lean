theorem dX10_add_0 : decode cX10_add 0 = .ok (.aload_n 0, 1) := by decide +kernel
theorem dX10_add_1 : decode cX10_add 1 = .ok (.getfield 15, 3) := by decide +kernel
theorem wf_X10_15 : Cond.fieldLink RX10 15 RX10 "length" "I" ∈ TB := tbm (tq1 (List.mem_of_getElem? (i := 79) (by decide +kernel))) (by decide +kernel)
theorem fg_X10_15 : FG RX10 15 10 1 := ⟨RX10, TX10, 5, uw_X10, wf_X10_15, rfl, by decide, rfl⟩
theorem dX10_add_4 : decode cX10_add 4 = .ok (.bipush 8, 2) := by decide +kernel
theorem dX10_add_6 : decode cX10_add 6 = .ok (.iadd, 1) := by decide +kernel
theorem dX10_add_7 : decode cX10_add 7 = .ok (.sipush 160, 3) := by decide +kernel
theorem dX10_add_10 : decode cX10_add 10 = .ok (.if_icmp .le 5, 3) := by decide +kernel
theorem dX10_add_15 : decode cX10_add 15 = .ok (.iconst 0, 1) := by decide +kernel
theorem dX10_add_16 : decode cX10_add 16 = .ok (.istore_n 3, 1) := by decide +kernel
theorem dX10_add_17 : decode cX10_add 17 = .ok (.iload_n 3, 1) := by decide +kernel
theorem dX10_add_18 : decode cX10_add 18 = .ok (.bipush 8, 2) := by decide +kernel
theorem dX10_add_20 : decode cX10_add 20 = .ok (.if_icmp .ge 31, 3) := by decide +kernel
theorem dX10_add_23 : decode cX10_add 23 = .ok (.aload_n 0, 1) := by decide +kernel
theorem dX10_add_24 : decode cX10_add 24 = .ok (.getfield 9, 3) := by decide +kernel
theorem fg_X10_9 : FG RX10 9 10 0 := ⟨RX10, TX10, 5, uw_X10, wf_X10_9, rfl, by decide, rfl⟩
theorem dX10_add_27 : decode cX10_add 27 = .ok (.aload_n 0, 1) := by decide +kernel
theorem dX10_add_28 : decode cX10_add 28 = .ok (.getfield 15, 3) := by decide +kernel
theorem dX10_add_31 : decode cX10_add 31 = .ok (.iload_n 3, 1) := by decide +kernel
theorem dX10_add_32 : decode cX10_add 32 = .ok (.iadd, 1) := by decide +kernel
theorem dX10_add_33 : decode cX10_add 33 = .ok (.lload_n 1, 1) := by decide +kernel
theorem dX10_add_34 : decode cX10_add 34 = .ok (.bipush 56, 2) := by decide +kernel
theorem dX10_add_36 : decode cX10_add 36 = .ok (.bipush 8, 2) := by decide +kernel
theorem dX10_add_38 : decode cX10_add 38 = .ok (.iload_n 3, 1) := by decide +kernel
theorem dX10_add_39 : decode cX10_add 39 = .ok (.imul, 1) := by decide +kernel
theorem dX10_add_40 : decode cX10_add 40 = .ok (.isub, 1) := by decide +kernel
theorem dX10_add_41 : decode cX10_add 41 = .ok (.lushr, 1) := by decide +kernel
theorem dX10_add_42 : decode cX10_add 42 = .ok (.l2i, 1) := by decide +kernel
theorem dX10_add_43 : decode cX10_add 43 = .ok (.i2b, 1) := by decide +kernel
theorem dX10_add_44 : decode cX10_add 44 = .ok (.bastore, 1) := by decide +kernel
theorem dX10_add_45 : decode cX10_add 45 = .ok (.iinc 3 1, 3) := by decide +kernel
theorem dX10_add_48 : decode cX10_add 48 = .ok (.goto (-31), 3) := by decide +kernel
theorem dX10_add_51 : decode cX10_add 51 = .ok (.aload_n 0, 1) := by decide +kernel
theorem dX10_add_52 : decode cX10_add 52 = .ok (.dup, 1) := by decide +kernel
theorem dX10_add_53 : decode cX10_add 53 = .ok (.getfield 15, 3) := by decide +kernel
theorem dX10_add_56 : decode cX10_add 56 = .ok (.bipush 8, 2) := by decide +kernel
theorem dX10_add_58 : decode cX10_add 58 = .ok (.iadd, 1) := by decide +kernel
theorem dX10_add_59 : decode cX10_add 59 = .ok (.putfield 15, 3) := by decide +kernel
theorem fp_X10_15 : FP RX10 15 10 1 .int false := ⟨RX10, TX10, 5, tyX10, uw_X10, wf_X10_15, rfl, by decide, rfl, tyX10_ok, nmX10, rfl, by decide +kernel⟩
theorem dX10_add_62 : decode cX10_add 62 = .ok (.iconst 1, 1) := by decide +kernel
theorem dX10_add_63 : decode cX10_add 63 = .ok (.ireturn, 1) := by decide +kernel
set_option maxRecDepth 100000 in
set_option maxHeartbeats 4000000 in
theorem c_tadd (l : Launch) (E : EV) (qt : Nat) (v : Int64) (tb : Nat)  : CT l yX10_add (Cond.code yX10_add cX10_add 4 (some .boolean) :: TB) ({ frames := 0, cells := 0, slots := 0, locals := 0 }) E [.ref qt, .long v] [(qt, .inr (10, [.ref tb, .int 0, .int 0, .int 0, .int 0])), (tb, .inl (E.2.1 0, 160, .inl (fun _ => 0)))] (Qi E (fun (r : Int32) u => (r = 1 ∧ u = [(qt, .inr (10, [.ref tb, .int 8, .int 0, .int 0, .int 0]))]))) 0 0 := by
  refine ct_of rfl rfl ?_
  intro X C hT hin
  show WW X 4 E 0 [(0, .ref qt), (1, .long v)] [] [(qt, .inr (10, [.ref tb, .int 0, .int 0, .int 0, .int 0])), (tb, .inl (E.2.1 0, 160, .inl (fun _ => 0)))] 0 0
  refine ww_aload_n C dX10_add_0 0 rfl rfl ?_
  refine ww_get C fg_X10_15 0 rfl rfl dX10_add_1 ?_
  refine ww_bipush (v := 8) C dX10_add_4 rfl ?_
  refine ww_iadd (v := 8) C dX10_add_6 (by decide) ?_
  refine ww_sipush (v := 160) C dX10_add_7 rfl ?_
  refine ww_icmp_le_t (tgt := 15) C dX10_add_10 (by decide) (by decide) ?_
  refine ww_iconst (v := 0) C dX10_add_15 rfl ?_
  refine ww_istore_n (lv' := [(3, .int 0), (0, .ref qt), (1, .long v)]) C dX10_add_16 rfl rfl rfl ?_
  refine ww_iload_n C dX10_add_17 0 rfl rfl ?_
  refine ww_bipush (v := 8) C dX10_add_18 rfl ?_
  refine ww_icmp_ge_f (tgt := 51) C dX10_add_20 (by decide) (by decide) ?_
  refine ww_aload_n C dX10_add_23 1 rfl rfl ?_
  refine ww_get C fg_X10_9 0 rfl rfl dX10_add_24 ?_
  refine ww_aload_n C dX10_add_27 1 rfl rfl ?_
  refine ww_get C fg_X10_15 0 rfl rfl dX10_add_28 ?_
  refine ww_iload_n C dX10_add_31 0 rfl rfl ?_
  refine ww_iadd (v := 0) C dX10_add_32 (by decide) ?_
  refine ww_lload_n C dX10_add_33 2 rfl rfl ?_
  refine ww_bipush (v := 56) C dX10_add_34 rfl ?_
  refine ww_bipush (v := 8) C dX10_add_36 rfl ?_
  refine ww_iload_n C dX10_add_38 0 rfl rfl ?_
  refine ww_imul (v := 0) C dX10_add_39 (by decide) ?_
  refine ww_isub (v := 56) C dX10_add_40 (by decide) ?_
  obtain ⟨l_1, el_1⟩ : ∃ z : Int64, (v.toUInt64 >>> ((56 : Int32).toInt64.toUInt64 &&& Int64.toUInt64 63)).toInt64 = z := ⟨_, rfl⟩
  refine ww_lushr C dX10_add_41 el_1 ?_
  obtain ⟨x_2, ex_2⟩ : ∃ z : Int32, l_1.toInt32 = z := ⟨_, rfl⟩
  refine ww_l2i (v := x_2) C dX10_add_42 ex_2 ?_
  obtain ⟨x_3, ex_3⟩ : ∃ z : Int32, x_2.toInt8.toInt32 = z := ⟨_, rfl⟩
  refine ww_i2b (v := x_3) C dX10_add_43 ex_3 ?_
  obtain ⟨f_4, ef_4⟩ : ∃ z : Nat → Int32, upd (fun _ => 0) 0 (vp_nar .byte x_3) = z := ⟨_, rfl⟩
  refine ww_bast (ws' := [(qt, .inr (10, [.ref tb, .int 0, .int 0, .int 0, .int 0])), (tb, .inl (E.2.1 0, 160, .inl f_4))]) C 1 rfl (vin rfl) ef_4 rfl dX10_add_44 ?_
  refine ww_iinc (j := 0) (v := 1) (lv' := [(3, .int 1), (0, .ref qt), (1, .long v)]) C dX10_add_45 rfl rfl rfl rfl ?_
  refine ww_goto (tgt := 17) C dX10_add_48 (by decide) ?_
  refine ww_iload_n C dX10_add_17 0 rfl rfl ?_
  refine ww_bipush (v := 8) C dX10_add_18 rfl ?_
  refine ww_icmp_ge_f (tgt := 51) C dX10_add_20 (by decide) (by decide) ?_
  refine ww_aload_n C dX10_add_23 1 rfl rfl ?_
  refine ww_get C fg_X10_9 0 rfl rfl dX10_add_24 ?_
  refine ww_aload_n C dX10_add_27 1 rfl rfl ?_
  refine ww_get C fg_X10_15 0 rfl rfl dX10_add_28 ?_
  refine ww_iload_n C dX10_add_31 0 rfl rfl ?_
  refine ww_iadd (v := 1) C dX10_add_32 (by decide) ?_
  refine ww_lload_n C dX10_add_33 2 rfl rfl ?_
  refine ww_bipush (v := 56) C dX10_add_34 rfl ?_
  refine ww_bipush (v := 8) C dX10_add_36 rfl ?_
  refine ww_iload_n C dX10_add_38 0 rfl rfl ?_
  refine ww_imul (v := 8) C dX10_add_39 (by decide) ?_
  refine ww_isub (v := 48) C dX10_add_40 (by decide) ?_
  obtain ⟨l_5, el_5⟩ : ∃ z : Int64, (v.toUInt64 >>> ((48 : Int32).toInt64.toUInt64 &&& Int64.toUInt64 63)).toInt64 = z := ⟨_, rfl⟩
  refine ww_lushr C dX10_add_41 el_5 ?_
  obtain ⟨x_6, ex_6⟩ : ∃ z : Int32, l_5.toInt32 = z := ⟨_, rfl⟩
  refine ww_l2i (v := x_6) C dX10_add_42 ex_6 ?_
  obtain ⟨x_7, ex_7⟩ : ∃ z : Int32, x_6.toInt8.toInt32 = z := ⟨_, rfl⟩
  refine ww_i2b (v := x_7) C dX10_add_43 ex_7 ?_
  obtain ⟨f_8, ef_8⟩ : ∃ z : Nat → Int32, upd f_4 1 (vp_nar .byte x_7) = z := ⟨_, rfl⟩
  refine ww_bast (ws' := [(qt, .inr (10, [.ref tb, .int 0, .int 0, .int 0, .int 0])), (tb, .inl (E.2.1 0, 160, .inl f_8))]) C 1 rfl (vin rfl) ef_8 rfl dX10_add_44 ?_
  refine ww_iinc (j := 0) (v := 2) (lv' := [(3, .int 2), (0, .ref qt), (1, .long v)]) C dX10_add_45 rfl rfl rfl rfl ?_
  refine ww_goto (tgt := 17) C dX10_add_48 (by decide) ?_
  refine ww_iload_n C dX10_add_17 0 rfl rfl ?_
  refine ww_bipush (v := 8) C dX10_add_18 rfl ?_
  refine ww_icmp_ge_f (tgt := 51) C dX10_add_20 (by decide) (by decide) ?_
  refine ww_aload_n C dX10_add_23 1 rfl rfl ?_
  refine ww_get C fg_X10_9 0 rfl rfl dX10_add_24 ?_
  refine ww_aload_n C dX10_add_27 1 rfl rfl ?_
  refine ww_get C fg_X10_15 0 rfl rfl dX10_add_28 ?_
  refine ww_iload_n C dX10_add_31 0 rfl rfl ?_
  refine ww_iadd (v := 2) C dX10_add_32 (by decide) ?_
  refine ww_lload_n C dX10_add_33 2 rfl rfl ?_
  refine ww_bipush (v := 56) C dX10_add_34 rfl ?_
  refine ww_bipush (v := 8) C dX10_add_36 rfl ?_
  refine ww_iload_n C dX10_add_38 0 rfl rfl ?_
  refine ww_imul (v := 16) C dX10_add_39 (by decide) ?_
  refine ww_isub (v := 40) C dX10_add_40 (by decide) ?_
  obtain ⟨l_9, el_9⟩ : ∃ z : Int64, (v.toUInt64 >>> ((40 : Int32).toInt64.toUInt64 &&& Int64.toUInt64 63)).toInt64 = z := ⟨_, rfl⟩
  refine ww_lushr C dX10_add_41 el_9 ?_
  obtain ⟨x_10, ex_10⟩ : ∃ z : Int32, l_9.toInt32 = z := ⟨_, rfl⟩
  refine ww_l2i (v := x_10) C dX10_add_42 ex_10 ?_
  obtain ⟨x_11, ex_11⟩ : ∃ z : Int32, x_10.toInt8.toInt32 = z := ⟨_, rfl⟩
  refine ww_i2b (v := x_11) C dX10_add_43 ex_11 ?_
  obtain ⟨f_12, ef_12⟩ : ∃ z : Nat → Int32, upd f_8 2 (vp_nar .byte x_11) = z := ⟨_, rfl⟩
  refine ww_bast (ws' := [(qt, .inr (10, [.ref tb, .int 0, .int 0, .int 0, .int 0])), (tb, .inl (E.2.1 0, 160, .inl f_12))]) C 1 rfl (vin rfl) ef_12 rfl dX10_add_44 ?_
  refine ww_iinc (j := 0) (v := 3) (lv' := [(3, .int 3), (0, .ref qt), (1, .long v)]) C dX10_add_45 rfl rfl rfl rfl ?_
  refine ww_goto (tgt := 17) C dX10_add_48 (by decide) ?_
  refine ww_iload_n C dX10_add_17 0 rfl rfl ?_
  refine ww_bipush (v := 8) C dX10_add_18 rfl ?_
  refine ww_icmp_ge_f (tgt := 51) C dX10_add_20 (by decide) (by decide) ?_
  refine ww_aload_n C dX10_add_23 1 rfl rfl ?_
  refine ww_get C fg_X10_9 0 rfl rfl dX10_add_24 ?_
  refine ww_aload_n C dX10_add_27 1 rfl rfl ?_
  refine ww_get C fg_X10_15 0 rfl rfl dX10_add_28 ?_
  refine ww_iload_n C dX10_add_31 0 rfl rfl ?_
  refine ww_iadd (v := 3) C dX10_add_32 (by decide) ?_
  refine ww_lload_n C dX10_add_33 2 rfl rfl ?_
  refine ww_bipush (v := 56) C dX10_add_34 rfl ?_
  refine ww_bipush (v := 8) C dX10_add_36 rfl ?_
  refine ww_iload_n C dX10_add_38 0 rfl rfl ?_
  refine ww_imul (v := 24) C dX10_add_39 (by decide) ?_
  refine ww_isub (v := 32) C dX10_add_40 (by decide) ?_
  obtain ⟨l_13, el_13⟩ : ∃ z : Int64, (v.toUInt64 >>> ((32 : Int32).toInt64.toUInt64 &&& Int64.toUInt64 63)).toInt64 = z := ⟨_, rfl⟩
  refine ww_lushr C dX10_add_41 el_13 ?_
  obtain ⟨x_14, ex_14⟩ : ∃ z : Int32, l_13.toInt32 = z := ⟨_, rfl⟩
  refine ww_l2i (v := x_14) C dX10_add_42 ex_14 ?_
  obtain ⟨x_15, ex_15⟩ : ∃ z : Int32, x_14.toInt8.toInt32 = z := ⟨_, rfl⟩
  refine ww_i2b (v := x_15) C dX10_add_43 ex_15 ?_
  obtain ⟨f_16, ef_16⟩ : ∃ z : Nat → Int32, upd f_12 3 (vp_nar .byte x_15) = z := ⟨_, rfl⟩
  refine ww_bast (ws' := [(qt, .inr (10, [.ref tb, .int 0, .int 0, .int 0, .int 0])), (tb, .inl (E.2.1 0, 160, .inl f_16))]) C 1 rfl (vin rfl) ef_16 rfl dX10_add_44 ?_
  refine ww_iinc (j := 0) (v := 4) (lv' := [(3, .int 4), (0, .ref qt), (1, .long v)]) C dX10_add_45 rfl rfl rfl rfl ?_
  refine ww_goto (tgt := 17) C dX10_add_48 (by decide) ?_
  refine ww_iload_n C dX10_add_17 0 rfl rfl ?_
  refine ww_bipush (v := 8) C dX10_add_18 rfl ?_
  refine ww_icmp_ge_f (tgt := 51) C dX10_add_20 (by decide) (by decide) ?_
  refine ww_aload_n C dX10_add_23 1 rfl rfl ?_
  refine ww_get C fg_X10_9 0 rfl rfl dX10_add_24 ?_
  refine ww_aload_n C dX10_add_27 1 rfl rfl ?_
  refine ww_get C fg_X10_15 0 rfl rfl dX10_add_28 ?_
  refine ww_iload_n C dX10_add_31 0 rfl rfl ?_
  refine ww_iadd (v := 4) C dX10_add_32 (by decide) ?_
  refine ww_lload_n C dX10_add_33 2 rfl rfl ?_
  refine ww_bipush (v := 56) C dX10_add_34 rfl ?_
  refine ww_bipush (v := 8) C dX10_add_36 rfl ?_
  refine ww_iload_n C dX10_add_38 0 rfl rfl ?_
  refine ww_imul (v := 32) C dX10_add_39 (by decide) ?_
  refine ww_isub (v := 24) C dX10_add_40 (by decide) ?_
  obtain ⟨l_17, el_17⟩ : ∃ z : Int64, (v.toUInt64 >>> ((24 : Int32).toInt64.toUInt64 &&& Int64.toUInt64 63)).toInt64 = z := ⟨_, rfl⟩
  refine ww_lushr C dX10_add_41 el_17 ?_
  obtain ⟨x_18, ex_18⟩ : ∃ z : Int32, l_17.toInt32 = z := ⟨_, rfl⟩
  refine ww_l2i (v := x_18) C dX10_add_42 ex_18 ?_
  obtain ⟨x_19, ex_19⟩ : ∃ z : Int32, x_18.toInt8.toInt32 = z := ⟨_, rfl⟩
  refine ww_i2b (v := x_19) C dX10_add_43 ex_19 ?_
  obtain ⟨f_20, ef_20⟩ : ∃ z : Nat → Int32, upd f_16 4 (vp_nar .byte x_19) = z := ⟨_, rfl⟩
  refine ww_bast (ws' := [(qt, .inr (10, [.ref tb, .int 0, .int 0, .int 0, .int 0])), (tb, .inl (E.2.1 0, 160, .inl f_20))]) C 1 rfl (vin rfl) ef_20 rfl dX10_add_44 ?_
  refine ww_iinc (j := 0) (v := 5) (lv' := [(3, .int 5), (0, .ref qt), (1, .long v)]) C dX10_add_45 rfl rfl rfl rfl ?_
  refine ww_goto (tgt := 17) C dX10_add_48 (by decide) ?_
  refine ww_iload_n C dX10_add_17 0 rfl rfl ?_
  refine ww_bipush (v := 8) C dX10_add_18 rfl ?_
  refine ww_icmp_ge_f (tgt := 51) C dX10_add_20 (by decide) (by decide) ?_
  refine ww_aload_n C dX10_add_23 1 rfl rfl ?_
  refine ww_get C fg_X10_9 0 rfl rfl dX10_add_24 ?_
  refine ww_aload_n C dX10_add_27 1 rfl rfl ?_
  refine ww_get C fg_X10_15 0 rfl rfl dX10_add_28 ?_
  refine ww_iload_n C dX10_add_31 0 rfl rfl ?_
  refine ww_iadd (v := 5) C dX10_add_32 (by decide) ?_
  refine ww_lload_n C dX10_add_33 2 rfl rfl ?_
  refine ww_bipush (v := 56) C dX10_add_34 rfl ?_
  refine ww_bipush (v := 8) C dX10_add_36 rfl ?_
  refine ww_iload_n C dX10_add_38 0 rfl rfl ?_
  refine ww_imul (v := 40) C dX10_add_39 (by decide) ?_
  refine ww_isub (v := 16) C dX10_add_40 (by decide) ?_
  obtain ⟨l_21, el_21⟩ : ∃ z : Int64, (v.toUInt64 >>> ((16 : Int32).toInt64.toUInt64 &&& Int64.toUInt64 63)).toInt64 = z := ⟨_, rfl⟩
  refine ww_lushr C dX10_add_41 el_21 ?_
  obtain ⟨x_22, ex_22⟩ : ∃ z : Int32, l_21.toInt32 = z := ⟨_, rfl⟩
  refine ww_l2i (v := x_22) C dX10_add_42 ex_22 ?_
  obtain ⟨x_23, ex_23⟩ : ∃ z : Int32, x_22.toInt8.toInt32 = z := ⟨_, rfl⟩
  refine ww_i2b (v := x_23) C dX10_add_43 ex_23 ?_
  obtain ⟨f_24, ef_24⟩ : ∃ z : Nat → Int32, upd f_20 5 (vp_nar .byte x_23) = z := ⟨_, rfl⟩
  refine ww_bast (ws' := [(qt, .inr (10, [.ref tb, .int 0, .int 0, .int 0, .int 0])), (tb, .inl (E.2.1 0, 160, .inl f_24))]) C 1 rfl (vin rfl) ef_24 rfl dX10_add_44 ?_
  refine ww_iinc (j := 0) (v := 6) (lv' := [(3, .int 6), (0, .ref qt), (1, .long v)]) C dX10_add_45 rfl rfl rfl rfl ?_
  refine ww_goto (tgt := 17) C dX10_add_48 (by decide) ?_
  refine ww_iload_n C dX10_add_17 0 rfl rfl ?_
  refine ww_bipush (v := 8) C dX10_add_18 rfl ?_
  refine ww_icmp_ge_f (tgt := 51) C dX10_add_20 (by decide) (by decide) ?_
  refine ww_aload_n C dX10_add_23 1 rfl rfl ?_
  refine ww_get C fg_X10_9 0 rfl rfl dX10_add_24 ?_
  refine ww_aload_n C dX10_add_27 1 rfl rfl ?_
  refine ww_get C fg_X10_15 0 rfl rfl dX10_add_28 ?_
  refine ww_iload_n C dX10_add_31 0 rfl rfl ?_
  refine ww_iadd (v := 6) C dX10_add_32 (by decide) ?_
  refine ww_lload_n C dX10_add_33 2 rfl rfl ?_
  refine ww_bipush (v := 56) C dX10_add_34 rfl ?_
  refine ww_bipush (v := 8) C dX10_add_36 rfl ?_
  refine ww_iload_n C dX10_add_38 0 rfl rfl ?_
  refine ww_imul (v := 48) C dX10_add_39 (by decide) ?_
  refine ww_isub (v := 8) C dX10_add_40 (by decide) ?_
  obtain ⟨l_25, el_25⟩ : ∃ z : Int64, (v.toUInt64 >>> ((8 : Int32).toInt64.toUInt64 &&& Int64.toUInt64 63)).toInt64 = z := ⟨_, rfl⟩
  refine ww_lushr C dX10_add_41 el_25 ?_
  obtain ⟨x_26, ex_26⟩ : ∃ z : Int32, l_25.toInt32 = z := ⟨_, rfl⟩
  refine ww_l2i (v := x_26) C dX10_add_42 ex_26 ?_
  obtain ⟨x_27, ex_27⟩ : ∃ z : Int32, x_26.toInt8.toInt32 = z := ⟨_, rfl⟩
  refine ww_i2b (v := x_27) C dX10_add_43 ex_27 ?_
  obtain ⟨f_28, ef_28⟩ : ∃ z : Nat → Int32, upd f_24 6 (vp_nar .byte x_27) = z := ⟨_, rfl⟩
  refine ww_bast (ws' := [(qt, .inr (10, [.ref tb, .int 0, .int 0, .int 0, .int 0])), (tb, .inl (E.2.1 0, 160, .inl f_28))]) C 1 rfl (vin rfl) ef_28 rfl dX10_add_44 ?_
  refine ww_iinc (j := 0) (v := 7) (lv' := [(3, .int 7), (0, .ref qt), (1, .long v)]) C dX10_add_45 rfl rfl rfl rfl ?_
  refine ww_goto (tgt := 17) C dX10_add_48 (by decide) ?_
  refine ww_iload_n C dX10_add_17 0 rfl rfl ?_
  refine ww_bipush (v := 8) C dX10_add_18 rfl ?_
  refine ww_icmp_ge_f (tgt := 51) C dX10_add_20 (by decide) (by decide) ?_
  refine ww_aload_n C dX10_add_23 1 rfl rfl ?_
  refine ww_get C fg_X10_9 0 rfl rfl dX10_add_24 ?_
  refine ww_aload_n C dX10_add_27 1 rfl rfl ?_
  refine ww_get C fg_X10_15 0 rfl rfl dX10_add_28 ?_
  refine ww_iload_n C dX10_add_31 0 rfl rfl ?_
  refine ww_iadd (v := 7) C dX10_add_32 (by decide) ?_
  refine ww_lload_n C dX10_add_33 2 rfl rfl ?_
  refine ww_bipush (v := 56) C dX10_add_34 rfl ?_
  refine ww_bipush (v := 8) C dX10_add_36 rfl ?_
  refine ww_iload_n C dX10_add_38 0 rfl rfl ?_
  refine ww_imul (v := 56) C dX10_add_39 (by decide) ?_
  refine ww_isub (v := 0) C dX10_add_40 (by decide) ?_
  obtain ⟨l_29, el_29⟩ : ∃ z : Int64, (v.toUInt64 >>> ((0 : Int32).toInt64.toUInt64 &&& Int64.toUInt64 63)).toInt64 = z := ⟨_, rfl⟩
  refine ww_lushr C dX10_add_41 el_29 ?_
  obtain ⟨x_30, ex_30⟩ : ∃ z : Int32, l_29.toInt32 = z := ⟨_, rfl⟩
  refine ww_l2i (v := x_30) C dX10_add_42 ex_30 ?_
  obtain ⟨x_31, ex_31⟩ : ∃ z : Int32, x_30.toInt8.toInt32 = z := ⟨_, rfl⟩
  refine ww_i2b (v := x_31) C dX10_add_43 ex_31 ?_
  obtain ⟨f_32, ef_32⟩ : ∃ z : Nat → Int32, upd f_28 7 (vp_nar .byte x_31) = z := ⟨_, rfl⟩
  refine ww_bast (ws' := [(qt, .inr (10, [.ref tb, .int 0, .int 0, .int 0, .int 0])), (tb, .inl (E.2.1 0, 160, .inl f_32))]) C 1 rfl (vin rfl) ef_32 rfl dX10_add_44 ?_
  refine ww_iinc (j := 0) (v := 8) (lv' := [(3, .int 8), (0, .ref qt), (1, .long v)]) C dX10_add_45 rfl rfl rfl rfl ?_
  refine ww_goto (tgt := 17) C dX10_add_48 (by decide) ?_
  refine ww_iload_n C dX10_add_17 0 rfl rfl ?_
  refine ww_bipush (v := 8) C dX10_add_18 rfl ?_
  refine ww_icmp_ge_t (tgt := 51) C dX10_add_20 (by decide) (by decide) ?_
  refine ww_aload_n C dX10_add_51 1 rfl rfl ?_
  refine ww_dup C dX10_add_52 rfl ?_
  refine ww_get C fg_X10_15 0 rfl rfl dX10_add_53 ?_
  refine ww_bipush (v := 8) C dX10_add_56 rfl ?_
  refine ww_iadd (v := 8) C dX10_add_58 (by decide) ?_
  refine ww_put (ws' := [(qt, .inr (10, [.ref tb, .int 8, .int 0, .int 0, .int 0])), (tb, .inl (E.2.1 0, 160, .inl f_32))]) C fp_X10_15 0 rfl rfl rfl rfl rfl dX10_add_59 ?_
  refine ww_iconst (v := 1) C dX10_add_62 rfl ?_
  exact ww_zret (u := [(qt, .inr (10, [.ref tb, .int 8, .int 0, .int 0, .int 0]))]) C hT [0] rfl rfl rfl rfl rfl dX10_add_63 (⟨rfl, rfl⟩)
theorem dX11_feed_0 : decode cX11_feed 0 = .ok (.aload_n 0, 1) := by decide +kernel
theorem dX11_feed_1 : decode cX11_feed 1 = .ok (.getfield 27, 3) := by decide +kernel
theorem fg_X11_27 : FG RX11 27 11 4 := ⟨RX11, TX11, 15, uw_X11, wf_X11_27, rfl, by decide, rfl⟩
theorem dX11_feed_4 : decode cX11_feed 4 = .ok (.getfield 162, 3) := by decide +kernel
theorem wf_X11_162 : Cond.fieldLink RX11 162 RX5 "tape" "LWhoKnows$Tape;" ∈ TB := tbm (tq1 (List.mem_of_getElem? (i := 99) (by decide +kernel))) (by decide +kernel)
theorem fg_X11_162 : FG RX11 162 5 0 := ⟨RX5, TX5, 10, uw_X5, wf_X11_162, rfl, by decide, rfl⟩
theorem dX11_feed_7 : decode cX11_feed 7 = .ok (.lload_n 1, 1) := by decide +kernel
theorem dX11_feed_8 : decode cX11_feed 8 = .ok (.invokevirtual 166, 3) := by decide +kernel
theorem wl_X11_166 : Cond.methodLink RX11 166 yX10_add ∈ TB := tbm (tq2 (List.mem_of_getElem? (i := 234) (by decide +kernel))) (by decide +kernel)
theorem wc_X10_add : Cond.code yX10_add cX10_add 4 (some .boolean) ∈ TB := tbm (tq2 (List.mem_of_getElem? (i := 237) (rfl))) (by decide +kernel)
theorem wi_X10_add : Cond.instanceMethod yX10_add ∈ TB := tbm (tq2 (List.mem_of_getElem? (i := 235) (by decide +kernel))) (by decide +kernel)
theorem ws_X10_add : Cond.selects RX10 yX10_add yX10_add ∈ TB := tbm (tq2 (List.mem_of_getElem? (i := 236) (by decide +kernel))) (by decide +kernel)
theorem mi_X10_add : MI yX10_add cX10_add 4 (some .boolean) 1 := ⟨wc_X10_add, wn_X10, ⟨by decide +kernel, by decide +kernel, by decide +kernel⟩, wi_X10_add, ws_X10_add⟩
theorem dX11_feed_11 : decode cX11_feed 11 = .ok (.ifCond .eq 16, 3) := by decide +kernel
theorem dX11_feed_14 : decode cX11_feed 14 = .ok (.aload_n 0, 1) := by decide +kernel
theorem dX11_feed_15 : decode cX11_feed 15 = .ok (.getfield 27, 3) := by decide +kernel
theorem dX11_feed_18 : decode cX11_feed 18 = .ok (.getfield 162, 3) := by decide +kernel
theorem dX11_feed_21 : decode cX11_feed 21 = .ok (.getfield 171, 3) := by decide +kernel
theorem wf_X11_171 : Cond.fieldLink RX11 171 RX10 "length" "I" ∈ TB := tbm (tq1 (List.mem_of_getElem? (i := 80) (by decide +kernel))) (by decide +kernel)
theorem fg_X11_171 : FG RX11 171 10 1 := ⟨RX10, TX10, 5, uw_X10, wf_X11_171, rfl, by decide, rfl⟩
theorem dX11_feed_24 : decode cX11_feed 24 = .ok (.goto 5, 3) := by decide +kernel
theorem dX11_feed_29 : decode cX11_feed 29 = .ok (.ireturn, 1) := by decide +kernel
set_option maxRecDepth 100000 in
set_option maxHeartbeats 4000000 in
theorem x_feed (l : Launch) (E : EV) (hx : Nat) (p0 : Int64) (qn : Nat) (qp : Nat) (qs : Nat) (qj : Nat) (ql : Nat) (qh : Nat) (qk : Nat) (qr : Nat) (qg : Nat) (qsh : Nat) (qt : Nat) (sa : Nat) (sb : Nat) (sc : Nat) (sd : Nat) (tb : Nat)  : CT l yX11_feed (Cond.code yX11_feed cX11_feed 3 (some .int) :: TB) ({ frames := 1, cells := 0, slots := 0, locals := 23 }) E [.ref hx, .long p0] [(hx, .inr (11, [.ref qn, .ref qp, .int 0, .int 0, .ref qs, .ref qj, .ref ql, .ref qh, .ref qk, .int 0, .ref qr, .ref qg, .int 0, .int 0, .ref qsh])), (qs, .inr (5, [.ref qt, .ref sa, .ref sb, .ref sc, .ref sd, .int 0, .int 0, .int 0, .int 0, .int 0])), (qt, .inr (10, [.ref tb, .int 0, .int 0, .int 0, .int 0])), (tb, .inl (E.2.1 0, 160, .inl (fun _ => 0)))] (Qi E (fun (r : Int32) u => (r = 8 ∧ u = []))) 0 0 := by
  refine ct_of rfl rfl ?_
  intro X C hT hin
  show WW X 3 E 0 [(0, .ref hx), (1, .long p0)] [] [(hx, .inr (11, [.ref qn, .ref qp, .int 0, .int 0, .ref qs, .ref qj, .ref ql, .ref qh, .ref qk, .int 0, .ref qr, .ref qg, .int 0, .int 0, .ref qsh])), (qs, .inr (5, [.ref qt, .ref sa, .ref sb, .ref sc, .ref sd, .int 0, .int 0, .int 0, .int 0, .int 0])), (qt, .inr (10, [.ref tb, .int 0, .int 0, .int 0, .int 0])), (tb, .inl (E.2.1 0, 160, .inl (fun _ => 0)))] 0 0
  refine ww_aload_n C dX11_feed_0 0 rfl rfl ?_
  refine ww_get C fg_X11_27 0 rfl rfl dX11_feed_1 ?_
  refine ww_get C fg_X11_162 1 rfl rfl dX11_feed_4 ?_
  refine ww_lload_n C dX11_feed_7 1 rfl rfl ?_
  refine ww_ci (wr := [(hx, .inr (11, [.ref qn, .ref qp, .int 0, .int 0, .ref qs, .ref qj, .ref ql, .ref qh, .ref qk, .int 0, .ref qr, .ref qg, .int 0, .int 0, .ref qsh])), (qs, .inr (5, [.ref qt, .ref sa, .ref sb, .ref sc, .ref sd, .int 0, .int 0, .int 0, .int 0, .int 0]))]) (k' := 0) (n' := 0) C (run_V (As := [.long p0]) (rest := []) C (c_tadd X.2.1 E qt p0 tb) mi_X10_add wl_X11_166 rfl 0 10 rfl rfl rfl rfl rfl dX11_feed_8) [2, 3] [0, 1] rfl rfl rfl rfl (fun r u hw => ?_)
  obtain ⟨rfl, rfl⟩ := hw
  refine ww_eq (ws' := [(hx, .inr (11, [.ref qn, .ref qp, .int 0, .int 0, .ref qs, .ref qj, .ref ql, .ref qh, .ref qk, .int 0, .ref qr, .ref qg, .int 0, .int 0, .ref qsh])), (qs, .inr (5, [.ref qt, .ref sa, .ref sb, .ref sc, .ref sd, .int 0, .int 0, .int 0, .int 0, .int 0])), (qt, .inr (10, [.ref tb, .int 8, .int 0, .int 0, .int 0]))]) ?_ rfl rfl rfl
  refine ww_if_eq_f (tgt := 27) C dX11_feed_11 (by decide) (by decide) ?_
  refine ww_aload_n C dX11_feed_14 0 rfl rfl ?_
  refine ww_get C fg_X11_27 0 rfl rfl dX11_feed_15 ?_
  refine ww_get C fg_X11_162 1 rfl rfl dX11_feed_18 ?_
  refine ww_get C fg_X11_171 2 rfl rfl dX11_feed_21 ?_
  refine ww_goto (tgt := 29) C dX11_feed_24 (by decide) ?_
  exact ww_iret (u := []) C hT [] rfl rfl rfl rfl dX11_feed_29 (⟨rfl, rfl⟩)
theorem dX11_end_0 : decode cX11_end 0 = .ok (.iload_n 1, 1) := by decide +kernel
theorem dX11_end_1 : decode cX11_end 1 = .ok (.iconst 0, 1) := by decide +kernel
theorem dX11_end_2 : decode cX11_end 2 = .ok (.aload_n 0, 1) := by decide +kernel
theorem dX11_end_3 : decode cX11_end 3 = .ok (.getfield 27, 3) := by decide +kernel
theorem dX11_end_6 : decode cX11_end 6 = .ok (.getfield 162, 3) := by decide +kernel
theorem dX11_end_9 : decode cX11_end 9 = .ok (.getfield 171, 3) := by decide +kernel
theorem dX11_end_12 : decode cX11_end 12 = .ok (.invokestatic 76, 3) := by decide +kernel
theorem dX11_end_15 : decode cX11_end 15 = .ok (.ifCond .ne 5, 3) := by decide +kernel
theorem dX11_end_20 : decode cX11_end 20 = .ok (.aload_n 0, 1) := by decide +kernel
theorem dX11_end_21 : decode cX11_end 21 = .ok (.getfield 27, 3) := by decide +kernel
theorem dX11_end_24 : decode cX11_end 24 = .ok (.getfield 162, 3) := by decide +kernel
theorem dX11_end_27 : decode cX11_end 27 = .ok (.getfield 171, 3) := by decide +kernel
theorem dX11_end_30 : decode cX11_end 30 = .ok (.istore_n 2, 1) := by decide +kernel
theorem dX11_end_31 : decode cX11_end 31 = .ok (.aload_n 0, 1) := by decide +kernel
theorem dX11_end_32 : decode cX11_end 32 = .ok (.getfield 27, 3) := by decide +kernel
theorem dX11_end_35 : decode cX11_end 35 = .ok (.getfield 162, 3) := by decide +kernel
theorem dX11_end_38 : decode cX11_end 38 = .ok (.iload_n 1, 1) := by decide +kernel
theorem dX11_end_39 : decode cX11_end 39 = .ok (.putfield 171, 3) := by decide +kernel
theorem fp_X11_171 : FP RX11 171 10 1 .int false := ⟨RX10, TX10, 5, tyX10, uw_X10, wf_X11_171, rfl, by decide, rfl, tyX10_ok, nmX10, rfl, by decide +kernel⟩
theorem dX11_end_42 : decode cX11_end 42 = .ok (.iload_n 2, 1) := by decide +kernel
theorem dX11_end_43 : decode cX11_end 43 = .ok (.ireturn, 1) := by decide +kernel
theorem dX11_end_18 : decode cX11_end 18 = .ok (.iconst (-1), 1) := by decide +kernel
theorem dX11_end_19 : decode cX11_end 19 = .ok (.ireturn, 1) := by decide +kernel
set_option maxRecDepth 100000 in
set_option maxHeartbeats 4000000 in
theorem x_end (l : Launch) (E : EV) (hx : Nat) (p0 : Int32) (qn : Nat) (qp : Nat) (qs : Nat) (qj : Nat) (ql : Nat) (qh : Nat) (qk : Nat) (qr : Nat) (qg : Nat) (qsh : Nat) (qt : Nat) (sa : Nat) (sb : Nat) (sc : Nat) (sd : Nat) (tb : Nat)  : CT l yX11_end (Cond.code yX11_end cX11_end 3 (some .int) :: TB) ({ frames := 1, cells := 0, slots := 0, locals := 22 }) E [.ref hx, .int p0] [(hx, .inr (11, [.ref qn, .ref qp, .int 0, .int 0, .ref qs, .ref qj, .ref ql, .ref qh, .ref qk, .int 0, .ref qr, .ref qg, .int 0, .int 0, .ref qsh])), (qs, .inr (5, [.ref qt, .ref sa, .ref sb, .ref sc, .ref sd, .int 0, .int 0, .int 0, .int 0, .int 0])), (qt, .inr (10, [.ref tb, .int 0, .int 0, .int 0, .int 0])), (tb, .inl (E.2.1 0, 160, .inl (fun _ => 0)))] (Qi E (fun (r : Int32) u => (r = 0 ∧ u = [] ∧ (p0.toInt = 0)) ∨ (r = (-1) ∧ u = [] ∧ (p0.toInt < 0 ∨ 0 < p0.toInt)))) 0 0 := by
  refine ct_of rfl rfl ?_
  intro X C hT hin
  show WW X 3 E 0 [(0, .ref hx), (1, .int p0)] [] [(hx, .inr (11, [.ref qn, .ref qp, .int 0, .int 0, .ref qs, .ref qj, .ref ql, .ref qh, .ref qk, .int 0, .ref qr, .ref qg, .int 0, .int 0, .ref qsh])), (qs, .inr (5, [.ref qt, .ref sa, .ref sb, .ref sc, .ref sd, .int 0, .int 0, .int 0, .int 0, .int 0])), (qt, .inr (10, [.ref tb, .int 0, .int 0, .int 0, .int 0])), (tb, .inl (E.2.1 0, 160, .inl (fun _ => 0)))] 0 0
  refine ww_iload_n C dX11_end_0 1 rfl rfl ?_
  refine ww_iconst (v := 0) C dX11_end_1 rfl ?_
  refine ww_aload_n C dX11_end_2 0 rfl rfl ?_
  refine ww_get C fg_X11_27 0 rfl rfl dX11_end_3 ?_
  refine ww_get C fg_X11_162 1 rfl rfl dX11_end_6 ?_
  refine ww_get C fg_X11_171 2 rfl rfl dX11_end_9 ?_
  refine ww_ci (wr := [(hx, .inr (11, [.ref qn, .ref qp, .int 0, .int 0, .ref qs, .ref qj, .ref ql, .ref qh, .ref qk, .int 0, .ref qr, .ref qg, .int 0, .int 0, .ref qsh])), (qs, .inr (5, [.ref qt, .ref sa, .ref sb, .ref sc, .ref sd, .int 0, .int 0, .int 0, .int 0, .int 0])), (qt, .inr (10, [.ref tb, .int 0, .int 0, .int 0, .int 0])), (tb, .inl (E.2.1 0, 160, .inl (fun _ => 0)))]) (k' := 0) (n' := 0) C (run_S (As := [.int p0, .int 0, .int 0]) (rest := []) C (c_within X.2.1 E p0 0 0 p0.toInt 0 0 rfl rfl rfl) ms_X11_within wl_X11_76 rfl rfl rfl rfl dX11_end_12) [] [0, 1, 2, 3] rfl rfl rfl rfl (fun r u hw => ?_)
  rcases hw with ⟨rfl, rfl, h_1, h_2⟩ | ⟨rfl, rfl, h_3⟩
  · refine ww_eq (ws' := [(hx, .inr (11, [.ref qn, .ref qp, .int 0, .int 0, .ref qs, .ref qj, .ref ql, .ref qh, .ref qk, .int 0, .ref qr, .ref qg, .int 0, .int 0, .ref qsh])), (qs, .inr (5, [.ref qt, .ref sa, .ref sb, .ref sc, .ref sd, .int 0, .int 0, .int 0, .int 0, .int 0])), (qt, .inr (10, [.ref tb, .int 0, .int 0, .int 0, .int 0])), (tb, .inl (E.2.1 0, 160, .inl (fun _ => 0)))]) ?_ rfl rfl rfl
    refine ww_if_ne_t (tgt := 20) C dX11_end_15 (by decide) (by decide) ?_
    refine ww_aload_n C dX11_end_20 0 rfl rfl ?_
    refine ww_get C fg_X11_27 0 rfl rfl dX11_end_21 ?_
    refine ww_get C fg_X11_162 1 rfl rfl dX11_end_24 ?_
    refine ww_get C fg_X11_171 2 rfl rfl dX11_end_27 ?_
    refine ww_istore_n (lv' := [(2, .int 0), (0, .ref hx), (1, .int p0)]) C dX11_end_30 rfl rfl rfl ?_
    refine ww_aload_n C dX11_end_31 1 rfl rfl ?_
    refine ww_get C fg_X11_27 0 rfl rfl dX11_end_32 ?_
    refine ww_get C fg_X11_162 1 rfl rfl dX11_end_35 ?_
    refine ww_iload_n C dX11_end_38 2 rfl rfl ?_
    refine ww_put (ws' := [(hx, .inr (11, [.ref qn, .ref qp, .int 0, .int 0, .ref qs, .ref qj, .ref ql, .ref qh, .ref qk, .int 0, .ref qr, .ref qg, .int 0, .int 0, .ref qsh])), (qs, .inr (5, [.ref qt, .ref sa, .ref sb, .ref sc, .ref sd, .int 0, .int 0, .int 0, .int 0, .int 0])), (qt, .inr (10, [.ref tb, .int p0, .int 0, .int 0, .int 0])), (tb, .inl (E.2.1 0, 160, .inl (fun _ => 0)))]) C fp_X11_171 2 rfl rfl rfl rfl rfl dX11_end_39 ?_
    refine ww_iload_n C dX11_end_42 0 rfl rfl ?_
    exact ww_iret (u := []) C hT [] rfl rfl rfl rfl dX11_end_43 (Or.inl ⟨rfl, rfl, (by first | assumption | omega | decide)⟩)
  · refine ww_eq (ws' := [(hx, .inr (11, [.ref qn, .ref qp, .int 0, .int 0, .ref qs, .ref qj, .ref ql, .ref qh, .ref qk, .int 0, .ref qr, .ref qg, .int 0, .int 0, .ref qsh])), (qs, .inr (5, [.ref qt, .ref sa, .ref sb, .ref sc, .ref sd, .int 0, .int 0, .int 0, .int 0, .int 0])), (qt, .inr (10, [.ref tb, .int 0, .int 0, .int 0, .int 0])), (tb, .inl (E.2.1 0, 160, .inl (fun _ => 0)))]) ?_ rfl rfl rfl
    refine ww_if_ne_f (tgt := 20) C dX11_end_15 (by decide) (rfl) ?_
    refine ww_iconst (v := (-1)) C dX11_end_18 rfl ?_
    exact ww_iret (u := []) C hT [] rfl rfl rfl rfl dX11_end_19 (Or.inr ⟨rfl, rfl, (by first | assumption | omega | decide)⟩)
theorem dX10_behind_0 : decode cX10_behind 0 = .ok (.iload_n 1, 1) := by decide +kernel
theorem dX10_behind_1 : decode cX10_behind 1 = .ok (.istore 4, 2) := by decide +kernel
theorem dX10_behind_3 : decode cX10_behind 3 = .ok (.iload 4, 2) := by decide +kernel
theorem dX10_behind_5 : decode cX10_behind 5 = .ok (.aload_n 0, 1) := by decide +kernel
theorem dX10_behind_6 : decode cX10_behind 6 = .ok (.getfield 15, 3) := by decide +kernel
theorem dX10_behind_9 : decode cX10_behind 9 = .ok (.if_icmp .ge 31, 3) := by decide +kernel
theorem dX10_behind_40 : decode cX10_behind 40 = .ok (.iload 4, 2) := by decide +kernel
theorem dX10_behind_42 : decode cX10_behind 42 = .ok (.ireturn, 1) := by decide +kernel
set_option maxRecDepth 100000 in
set_option maxHeartbeats 4000000 in
theorem c_behind (l : Launch) (E : EV) (qt : Nat) (u : Int32) (v : Int32) (tb : Nat)  : CT l yX10_behind (Cond.code yX10_behind cX10_behind 5 (some .int) :: TB) ({ frames := 0, cells := 0, slots := 0, locals := 0 }) E [.ref qt, .int 0, .int u, .int v] [(qt, .inr (10, [.ref tb, .int 0, .int 0, .int 0, .int 0])), (tb, .inl (E.2.1 0, 160, .inl (fun _ => 0)))] (Qi E (fun (r : Int32) u => (r = 0 ∧ u = [(qt, .inr (10, [.ref tb, .int 0, .int 0, .int 0, .int 0])), (tb, .inl (E.2.1 0, 160, .inl (fun _ => 0)))]))) 0 0 := by
  refine ct_of rfl rfl ?_
  intro X C hT hin
  show WW X 5 E 0 [(0, .ref qt), (1, .int 0), (2, .int u), (3, .int v)] [] [(qt, .inr (10, [.ref tb, .int 0, .int 0, .int 0, .int 0])), (tb, .inl (E.2.1 0, 160, .inl (fun _ => 0)))] 0 0
  refine ww_iload_n C dX10_behind_0 1 rfl rfl ?_
  refine ww_istore (lv' := [(4, .int 0), (0, .ref qt), (1, .int 0), (2, .int u), (3, .int v)]) C dX10_behind_1 rfl rfl ?_
  refine ww_iload C dX10_behind_3 0 rfl ?_
  refine ww_aload_n C dX10_behind_5 1 rfl rfl ?_
  refine ww_get C fg_X10_15 0 rfl rfl dX10_behind_6 ?_
  refine ww_icmp_ge_t (tgt := 40) C dX10_behind_9 (by decide) (by decide) ?_
  refine ww_iload C dX10_behind_40 0 rfl ?_
  exact ww_iret (u := [(qt, .inr (10, [.ref tb, .int 0, .int 0, .int 0, .int 0])), (tb, .inl (E.2.1 0, 160, .inl (fun _ => 0)))]) C hT [0, 1] rfl rfl rfl rfl dX10_behind_42 (⟨rfl, rfl⟩)
theorem dX10_readToken_0 : decode cX10_readToken 0 = .ok (.aload_n 0, 1) := by decide +kernel
theorem dX10_readToken_1 : decode cX10_readToken 1 = .ok (.aload_n 0, 1) := by decide +kernel
theorem dX10_readToken_2 : decode cX10_readToken 2 = .ok (.aload_n 0, 1) := by decide +kernel
theorem dX10_readToken_3 : decode cX10_readToken 3 = .ok (.getfield 19, 3) := by decide +kernel
theorem wf_X10_19 : Cond.fieldLink RX10 19 RX10 "at" "I" ∈ TB := tbm (tq1 (List.mem_of_getElem? (i := 81) (by decide +kernel))) (by decide +kernel)
theorem fg_X10_19 : FG RX10 19 10 2 := ⟨RX10, TX10, 5, uw_X10, wf_X10_19, rfl, by decide, rfl⟩
theorem dX10_readToken_6 : decode cX10_readToken 6 = .ok (.bipush 32, 2) := by decide +kernel
theorem dX10_readToken_8 : decode cX10_readToken 8 = .ok (.bipush 32, 2) := by decide +kernel
theorem dX10_readToken_10 : decode cX10_readToken 10 = .ok (.invokevirtual 22, 3) := by decide +kernel
theorem wl_X10_22 : Cond.methodLink RX10 22 yX10_behind ∈ TB := tbm (tq3 (List.mem_of_getElem? (i := 22) (by decide +kernel))) (by decide +kernel)
theorem wc_X10_behind : Cond.code yX10_behind cX10_behind 5 (some .int) ∈ TB := tbm (tq3 (List.mem_of_getElem? (i := 25) (rfl))) (by decide +kernel)
theorem wi_X10_behind : Cond.instanceMethod yX10_behind ∈ TB := tbm (tq3 (List.mem_of_getElem? (i := 24) (by decide +kernel))) (by decide +kernel)
theorem ws_X10_behind : Cond.selects RX10 yX10_behind yX10_behind ∈ TB := tbm (tq0 (List.mem_of_getElem? (i := 4) (by decide +kernel))) (by decide +kernel)
theorem mi_X10_behind : MI yX10_behind cX10_behind 5 (some .int) 3 := ⟨wc_X10_behind, wn_X10, ⟨by decide +kernel, by decide +kernel, by decide +kernel⟩, wi_X10_behind, ws_X10_behind⟩
theorem dX10_readToken_13 : decode cX10_readToken 13 = .ok (.putfield 26, 3) := by decide +kernel
theorem wf_X10_26 : Cond.fieldLink RX10 26 RX10 "start" "I" ∈ TB := tbm (tq1 (List.mem_of_getElem? (i := 85) (by decide +kernel))) (by decide +kernel)
theorem fp_X10_26 : FP RX10 26 10 4 .int false := ⟨RX10, TX10, 5, tyX10, uw_X10, wf_X10_26, rfl, by decide, rfl, tyX10_ok, nmX10, rfl, by decide +kernel⟩
theorem dX10_readToken_16 : decode cX10_readToken 16 = .ok (.aload_n 0, 1) := by decide +kernel
theorem dX10_readToken_17 : decode cX10_readToken 17 = .ok (.aload_n 0, 1) := by decide +kernel
theorem dX10_readToken_18 : decode cX10_readToken 18 = .ok (.getfield 26, 3) := by decide +kernel
theorem fg_X10_26 : FG RX10 26 10 4 := ⟨RX10, TX10, 5, uw_X10, wf_X10_26, rfl, by decide, rfl⟩
theorem dX10_readToken_21 : decode cX10_readToken 21 = .ok (.putfield 19, 3) := by decide +kernel
theorem fp_X10_19 : FP RX10 19 10 2 .int false := ⟨RX10, TX10, 5, tyX10, uw_X10, wf_X10_19, rfl, by decide, rfl, tyX10_ok, nmX10, rfl, by decide +kernel⟩
theorem dX10_readToken_24 : decode cX10_readToken 24 = .ok (.aload_n 0, 1) := by decide +kernel
theorem dX10_readToken_25 : decode cX10_readToken 25 = .ok (.getfield 26, 3) := by decide +kernel
theorem dX10_readToken_28 : decode cX10_readToken 28 = .ok (.aload_n 0, 1) := by decide +kernel
theorem dX10_readToken_29 : decode cX10_readToken 29 = .ok (.getfield 15, 3) := by decide +kernel
theorem dX10_readToken_32 : decode cX10_readToken 32 = .ok (.if_icmp .lt 11, 3) := by decide +kernel
theorem dX10_readToken_35 : decode cX10_readToken 35 = .ok (.aload_n 0, 1) := by decide +kernel
theorem dX10_readToken_36 : decode cX10_readToken 36 = .ok (.iconst 0, 1) := by decide +kernel
theorem dX10_readToken_37 : decode cX10_readToken 37 = .ok (.putfield 29, 3) := by decide +kernel
theorem wf_X10_29 : Cond.fieldLink RX10 29 RX10 "kind" "I" ∈ TB := tbm (tq1 (List.mem_of_getElem? (i := 83) (by decide +kernel))) (by decide +kernel)
theorem fp_X10_29 : FP RX10 29 10 3 .int false := ⟨RX10, TX10, 5, tyX10, uw_X10, wf_X10_29, rfl, by decide, rfl, tyX10_ok, nmX10, rfl, by decide +kernel⟩
theorem dX10_readToken_40 : decode cX10_readToken 40 = .ok (.goto 80, 3) := by decide +kernel
theorem dX10_readToken_120 : decode cX10_readToken 120 = .ok (.return_, 1) := by decide +kernel
set_option maxRecDepth 100000 in
set_option maxHeartbeats 4000000 in
theorem c_readToken (l : Launch) (E : EV) (qt : Nat) (tb : Nat)  : CT l yX10_readToken (Cond.code yX10_readToken cX10_readToken 1 none :: TB) ({ frames := 1, cells := 0, slots := 0, locals := 24 }) E [.ref qt] [(qt, .inr (10, [.ref tb, .int 0, .int 0, .int 0, .int 0])), (tb, .inl (E.2.1 0, 160, .inl (fun _ => 0)))] (Qv E (fun u => (u = [(qt, .inr (10, [.ref tb, .int 0, .int 0, .int 0, .int 0])), (tb, .inl (E.2.1 0, 160, .inl (fun _ => 0)))]))) 0 0 := by
  refine ct_of rfl rfl ?_
  intro X C hT hin
  show WW X 1 E 0 [(0, .ref qt)] [] [(qt, .inr (10, [.ref tb, .int 0, .int 0, .int 0, .int 0])), (tb, .inl (E.2.1 0, 160, .inl (fun _ => 0)))] 0 0
  refine ww_aload_n C dX10_readToken_0 0 rfl rfl ?_
  refine ww_aload_n C dX10_readToken_1 0 rfl rfl ?_
  refine ww_aload_n C dX10_readToken_2 0 rfl rfl ?_
  refine ww_get C fg_X10_19 0 rfl rfl dX10_readToken_3 ?_
  refine ww_bipush (v := 32) C dX10_readToken_6 rfl ?_
  refine ww_bipush (v := 32) C dX10_readToken_8 rfl ?_
  refine ww_ci (wr := []) (k' := 0) (n' := 0) C (run_V (As := [.int 0, .int 32, .int 32]) (rest := [.ref qt]) C (c_behind X.2.1 E qt 32 32 tb) mi_X10_behind wl_X10_22 rfl 0 10 rfl rfl rfl rfl rfl dX10_readToken_10) [0, 1] [] rfl rfl rfl rfl (fun r u hw => ?_)
  obtain ⟨rfl, rfl⟩ := hw
  refine ww_eq (ws' := [(qt, .inr (10, [.ref tb, .int 0, .int 0, .int 0, .int 0])), (tb, .inl (E.2.1 0, 160, .inl (fun _ => 0)))]) ?_ rfl rfl rfl
  refine ww_put (ws' := [(qt, .inr (10, [.ref tb, .int 0, .int 0, .int 0, .int 0])), (tb, .inl (E.2.1 0, 160, .inl (fun _ => 0)))]) C fp_X10_26 0 rfl rfl rfl rfl rfl dX10_readToken_13 ?_
  refine ww_aload_n C dX10_readToken_16 0 rfl rfl ?_
  refine ww_aload_n C dX10_readToken_17 0 rfl rfl ?_
  refine ww_get C fg_X10_26 0 rfl rfl dX10_readToken_18 ?_
  refine ww_put (ws' := [(qt, .inr (10, [.ref tb, .int 0, .int 0, .int 0, .int 0])), (tb, .inl (E.2.1 0, 160, .inl (fun _ => 0)))]) C fp_X10_19 0 rfl rfl rfl rfl rfl dX10_readToken_21 ?_
  refine ww_aload_n C dX10_readToken_24 0 rfl rfl ?_
  refine ww_get C fg_X10_26 0 rfl rfl dX10_readToken_25 ?_
  refine ww_aload_n C dX10_readToken_28 0 rfl rfl ?_
  refine ww_get C fg_X10_15 0 rfl rfl dX10_readToken_29 ?_
  refine ww_icmp_lt_f (tgt := 43) C dX10_readToken_32 (by decide) (by decide) ?_
  refine ww_aload_n C dX10_readToken_35 0 rfl rfl ?_
  refine ww_iconst (v := 0) C dX10_readToken_36 rfl ?_
  refine ww_put (ws' := [(qt, .inr (10, [.ref tb, .int 0, .int 0, .int 0, .int 0])), (tb, .inl (E.2.1 0, 160, .inl (fun _ => 0)))]) C fp_X10_29 0 rfl rfl rfl rfl rfl dX10_readToken_37 ?_
  refine ww_goto (tgt := 120) C dX10_readToken_40 (by decide) ?_
  exact ww_vret (u := [(qt, .inr (10, [.ref tb, .int 0, .int 0, .int 0, .int 0])), (tb, .inl (E.2.1 0, 160, .inl (fun _ => 0)))]) C hT [0, 1] rfl rfl rfl rfl dX10_readToken_120 (rfl)
theorem dX10_isName_0 : decode cX10_isName 0 = .ok (.aload_n 0, 1) := by decide +kernel
theorem dX10_isName_1 : decode cX10_isName 1 = .ok (.getfield 29, 3) := by decide +kernel
theorem fg_X10_29 : FG RX10 29 10 3 := ⟨RX10, TX10, 5, uw_X10, wf_X10_29, rfl, by decide, rfl⟩
theorem dX10_isName_4 : decode cX10_isName 4 = .ok (.iconst 1, 1) := by decide +kernel
theorem dX10_isName_5 : decode cX10_isName 5 = .ok (.if_icmp .ne 19, 3) := by decide +kernel
theorem dX10_isName_24 : decode cX10_isName 24 = .ok (.iconst 0, 1) := by decide +kernel
theorem dX10_isName_25 : decode cX10_isName 25 = .ok (.ireturn, 1) := by decide +kernel
set_option maxRecDepth 100000 in
set_option maxHeartbeats 4000000 in
theorem c_isName (l : Launch) (E : EV) (qt : Nat) (wd : Nat) (tb : Nat)  : CT l yX10_isName (Cond.code yX10_isName cX10_isName 3 (some .boolean) :: TB) ({ frames := 0, cells := 0, slots := 0, locals := 0 }) E [.ref qt, .ref wd] [(qt, .inr (10, [.ref tb, .int 0, .int 0, .int 0, .int 0])), (tb, .inl (E.2.1 0, 160, .inl (fun _ => 0)))] (Qi E (fun (r : Int32) u => (r = 0 ∧ u = [(qt, .inr (10, [.ref tb, .int 0, .int 0, .int 0, .int 0])), (tb, .inl (E.2.1 0, 160, .inl (fun _ => 0)))]))) 0 0 := by
  refine ct_of rfl rfl ?_
  intro X C hT hin
  show WW X 3 E 0 [(0, .ref qt), (1, .ref wd)] [] [(qt, .inr (10, [.ref tb, .int 0, .int 0, .int 0, .int 0])), (tb, .inl (E.2.1 0, 160, .inl (fun _ => 0)))] 0 0
  refine ww_aload_n C dX10_isName_0 0 rfl rfl ?_
  refine ww_get C fg_X10_29 0 rfl rfl dX10_isName_1 ?_
  refine ww_iconst (v := 1) C dX10_isName_4 rfl ?_
  refine ww_icmp_ne_t (tgt := 24) C dX10_isName_5 (by decide) (by decide) ?_
  refine ww_iconst (v := 0) C dX10_isName_24 rfl ?_
  exact ww_zret (u := [(qt, .inr (10, [.ref tb, .int 0, .int 0, .int 0, .int 0])), (tb, .inl (E.2.1 0, 160, .inl (fun _ => 0)))]) C hT [0, 1] rfl rfl rfl rfl rfl dX10_isName_25 (⟨rfl, rfl⟩)
theorem dX10_rewind_0 : decode cX10_rewind 0 = .ok (.aload_n 0, 1) := by decide +kernel
theorem dX10_rewind_1 : decode cX10_rewind 1 = .ok (.iconst 0, 1) := by decide +kernel
theorem dX10_rewind_2 : decode cX10_rewind 2 = .ok (.putfield 19, 3) := by decide +kernel
theorem dX10_rewind_5 : decode cX10_rewind 5 = .ok (.return_, 1) := by decide +kernel
set_option maxRecDepth 100000 in
set_option maxHeartbeats 4000000 in
theorem c_rewind (l : Launch) (E : EV) (qt : Nat) (tb : Nat)  : CT l yX10_rewind (Cond.code yX10_rewind cX10_rewind 1 none :: TB) ({ frames := 0, cells := 0, slots := 0, locals := 0 }) E [.ref qt] [(qt, .inr (10, [.ref tb, .int 0, .int 0, .int 0, .int 0])), (tb, .inl (E.2.1 0, 160, .inl (fun _ => 0)))] (Qv E (fun u => (u = [(qt, .inr (10, [.ref tb, .int 0, .int 0, .int 0, .int 0])), (tb, .inl (E.2.1 0, 160, .inl (fun _ => 0)))]))) 0 0 := by
  refine ct_of rfl rfl ?_
  intro X C hT hin
  show WW X 1 E 0 [(0, .ref qt)] [] [(qt, .inr (10, [.ref tb, .int 0, .int 0, .int 0, .int 0])), (tb, .inl (E.2.1 0, 160, .inl (fun _ => 0)))] 0 0
  refine ww_aload_n C dX10_rewind_0 0 rfl rfl ?_
  refine ww_iconst (v := 0) C dX10_rewind_1 rfl ?_
  refine ww_put (ws' := [(qt, .inr (10, [.ref tb, .int 0, .int 0, .int 0, .int 0])), (tb, .inl (E.2.1 0, 160, .inl (fun _ => 0)))]) C fp_X10_19 0 rfl rfl rfl rfl rfl dX10_rewind_2 ?_
  exact ww_vret (u := [(qt, .inr (10, [.ref tb, .int 0, .int 0, .int 0, .int 0])), (tb, .inl (E.2.1 0, 160, .inl (fun _ => 0)))]) C hT [0, 1] rfl rfl rfl rfl dX10_rewind_5 (rfl)
theorem dX5_fail_0 : decode cX5_fail 0 = .ok (.aload_n 0, 1) := by decide +kernel
theorem dX5_fail_1 : decode cX5_fail 1 = .ok (.iload_n 1, 1) := by decide +kernel
theorem dX5_fail_2 : decode cX5_fail 2 = .ok (.putfield 41, 3) := by decide +kernel
theorem wf_X5_41 : Cond.fieldLink RX5 41 RX5 "wrong" "I" ∈ TB := tbm (tq1 (List.mem_of_getElem? (i := 107) (by decide +kernel))) (by decide +kernel)
theorem fp_X5_41 : FP RX5 41 5 8 .int false := ⟨RX5, TX5, 10, tyX5, uw_X5, wf_X5_41, rfl, by decide, rfl, tyX5_ok, nmX5, rfl, by decide +kernel⟩
theorem dX5_fail_5 : decode cX5_fail 5 = .ok (.aload_n 0, 1) := by decide +kernel
theorem dX5_fail_6 : decode cX5_fail 6 = .ok (.aload_n 0, 1) := by decide +kernel
theorem dX5_fail_7 : decode cX5_fail 7 = .ok (.getfield 12, 3) := by decide +kernel
theorem fg_X5_12 : FG RX5 12 5 0 := ⟨RX5, TX5, 10, uw_X5, wf_X5_12, rfl, by decide, rfl⟩
theorem dX5_fail_10 : decode cX5_fail 10 = .ok (.getfield 71, 3) := by decide +kernel
theorem wf_X5_71 : Cond.fieldLink RX5 71 RX10 "start" "I" ∈ TB := tbm (tq1 (List.mem_of_getElem? (i := 84) (by decide +kernel))) (by decide +kernel)
theorem fg_X5_71 : FG RX5 71 10 4 := ⟨RX10, TX10, 5, uw_X10, wf_X5_71, rfl, by decide, rfl⟩
theorem dX5_fail_13 : decode cX5_fail 13 = .ok (.putfield 44, 3) := by decide +kernel
theorem wf_X5_44 : Cond.fieldLink RX5 44 RX5 "place" "I" ∈ TB := tbm (tq1 (List.mem_of_getElem? (i := 109) (by decide +kernel))) (by decide +kernel)
theorem fp_X5_44 : FP RX5 44 5 9 .int false := ⟨RX5, TX5, 10, tyX5, uw_X5, wf_X5_44, rfl, by decide, rfl, tyX5_ok, nmX5, rfl, by decide +kernel⟩
theorem dX5_fail_16 : decode cX5_fail 16 = .ok (.iconst 0, 1) := by decide +kernel
theorem dX5_fail_17 : decode cX5_fail 17 = .ok (.ireturn, 1) := by decide +kernel
set_option maxRecDepth 100000 in
set_option maxHeartbeats 4000000 in
theorem c_fail2 (l : Launch) (E : EV) (qs : Nat) (qt : Nat) (sa : Nat) (sb : Nat) (sc : Nat) (sd : Nat) (tb : Nat)  : CT l yX5_fail (Cond.code yX5_fail cX5_fail 2 (some .boolean) :: TB) ({ frames := 0, cells := 0, slots := 0, locals := 0 }) E [.ref qs, .int 2] [(qs, .inr (5, [.ref qt, .ref sa, .ref sb, .ref sc, .ref sd, .int 0, .int 0, .int 0, .int 0, .int 0])), (qt, .inr (10, [.ref tb, .int 0, .int 0, .int 0, .int 0])), (tb, .inl (E.2.1 0, 160, .inl (fun _ => 0)))] (Qi E (fun (r : Int32) u => (r = 0 ∧ u = [(qs, .inr (5, [.ref qt, .ref sa, .ref sb, .ref sc, .ref sd, .int 0, .int 0, .int 0, .int 2, .int 0])), (qt, .inr (10, [.ref tb, .int 0, .int 0, .int 0, .int 0])), (tb, .inl (E.2.1 0, 160, .inl (fun _ => 0)))]))) 0 0 := by
  refine ct_of rfl rfl ?_
  intro X C hT hin
  show WW X 2 E 0 [(0, .ref qs), (1, .int 2)] [] [(qs, .inr (5, [.ref qt, .ref sa, .ref sb, .ref sc, .ref sd, .int 0, .int 0, .int 0, .int 0, .int 0])), (qt, .inr (10, [.ref tb, .int 0, .int 0, .int 0, .int 0])), (tb, .inl (E.2.1 0, 160, .inl (fun _ => 0)))] 0 0
  refine ww_aload_n C dX5_fail_0 0 rfl rfl ?_
  refine ww_iload_n C dX5_fail_1 1 rfl rfl ?_
  refine ww_put (ws' := [(qs, .inr (5, [.ref qt, .ref sa, .ref sb, .ref sc, .ref sd, .int 0, .int 0, .int 0, .int 2, .int 0])), (qt, .inr (10, [.ref tb, .int 0, .int 0, .int 0, .int 0])), (tb, .inl (E.2.1 0, 160, .inl (fun _ => 0)))]) C fp_X5_41 0 rfl rfl rfl rfl rfl dX5_fail_2 ?_
  refine ww_aload_n C dX5_fail_5 0 rfl rfl ?_
  refine ww_aload_n C dX5_fail_6 0 rfl rfl ?_
  refine ww_get C fg_X5_12 0 rfl rfl dX5_fail_7 ?_
  refine ww_get C fg_X5_71 1 rfl rfl dX5_fail_10 ?_
  refine ww_put (ws' := [(qs, .inr (5, [.ref qt, .ref sa, .ref sb, .ref sc, .ref sd, .int 0, .int 0, .int 0, .int 2, .int 0])), (qt, .inr (10, [.ref tb, .int 0, .int 0, .int 0, .int 0])), (tb, .inl (E.2.1 0, 160, .inl (fun _ => 0)))]) C fp_X5_44 0 rfl rfl rfl rfl rfl dX5_fail_13 ?_
  refine ww_iconst (v := 0) C dX5_fail_16 rfl ?_
  exact ww_zret (u := [(qs, .inr (5, [.ref qt, .ref sa, .ref sb, .ref sc, .ref sd, .int 0, .int 0, .int 0, .int 2, .int 0])), (qt, .inr (10, [.ref tb, .int 0, .int 0, .int 0, .int 0])), (tb, .inl (E.2.1 0, 160, .inl (fun _ => 0)))]) C hT [0, 1, 2] rfl rfl rfl rfl rfl dX5_fail_17 (⟨rfl, rfl⟩)
theorem dX5_next_0 : decode cX5_next 0 = .ok (.aload_n 0, 1) := by decide +kernel
theorem dX5_next_1 : decode cX5_next 1 = .ok (.getfield 12, 3) := by decide +kernel
theorem dX5_next_4 : decode cX5_next 4 = .ok (.invokevirtual 74, 3) := by decide +kernel
theorem wl_X5_74 : Cond.methodLink RX5 74 yX10_readToken ∈ TB := tbm (tq3 (List.mem_of_getElem? (i := 18) (by decide +kernel))) (by decide +kernel)
theorem wc_X10_readToken : Cond.code yX10_readToken cX10_readToken 1 none ∈ TB := tbm (tq3 (List.mem_of_getElem? (i := 21) (rfl))) (by decide +kernel)
theorem wi_X10_readToken : Cond.instanceMethod yX10_readToken ∈ TB := tbm (tq3 (List.mem_of_getElem? (i := 19) (by decide +kernel))) (by decide +kernel)
theorem ws_X10_readToken : Cond.selects RX10 yX10_readToken yX10_readToken ∈ TB := tbm (tq3 (List.mem_of_getElem? (i := 20) (by decide +kernel))) (by decide +kernel)
theorem mi_X10_readToken : MI yX10_readToken cX10_readToken 1 none 0 := ⟨wc_X10_readToken, wn_X10, ⟨by decide +kernel, by decide +kernel, by decide +kernel⟩, wi_X10_readToken, ws_X10_readToken⟩
theorem dX5_next_7 : decode cX5_next 7 = .ok (.aload_n 0, 1) := by decide +kernel
theorem dX5_next_8 : decode cX5_next 8 = .ok (.getfield 12, 3) := by decide +kernel
theorem dX5_next_11 : decode cX5_next 11 = .ok (.getfield 60, 3) := by decide +kernel
theorem wf_X5_60 : Cond.fieldLink RX5 60 RX10 "kind" "I" ∈ TB := tbm (tq1 (List.mem_of_getElem? (i := 82) (by decide +kernel))) (by decide +kernel)
theorem fg_X5_60 : FG RX5 60 10 3 := ⟨RX10, TX10, 5, uw_X10, wf_X5_60, rfl, by decide, rfl⟩
theorem dX5_next_14 : decode cX5_next 14 = .ok (.iconst 3, 1) := by decide +kernel
theorem dX5_next_15 : decode cX5_next 15 = .ok (.if_icmp .ne 11, 3) := by decide +kernel
theorem dX5_next_26 : decode cX5_next 26 = .ok (.iconst 1, 1) := by decide +kernel
theorem dX5_next_27 : decode cX5_next 27 = .ok (.goto 4, 3) := by decide +kernel
theorem dX5_next_31 : decode cX5_next 31 = .ok (.ireturn, 1) := by decide +kernel
set_option maxRecDepth 100000 in
set_option maxHeartbeats 4000000 in
theorem c_next (l : Launch) (E : EV) (qs : Nat) (qt : Nat) (sa : Nat) (sb : Nat) (sc : Nat) (sd : Nat) (tb : Nat)  : CT l yX5_next (Cond.code yX5_next cX5_next 1 (some .boolean) :: TB) ({ frames := 2, cells := 0, slots := 0, locals := 44 }) E [.ref qs] [(qs, .inr (5, [.ref qt, .ref sa, .ref sb, .ref sc, .ref sd, .int 0, .int 0, .int 0, .int 0, .int 0])), (qt, .inr (10, [.ref tb, .int 0, .int 0, .int 0, .int 0])), (tb, .inl (E.2.1 0, 160, .inl (fun _ => 0)))] (Qi E (fun (r : Int32) u => (r = 1 ∧ u = [(qs, .inr (5, [.ref qt, .ref sa, .ref sb, .ref sc, .ref sd, .int 0, .int 0, .int 0, .int 0, .int 0])), (qt, .inr (10, [.ref tb, .int 0, .int 0, .int 0, .int 0])), (tb, .inl (E.2.1 0, 160, .inl (fun _ => 0)))]))) 0 0 := by
  refine ct_of rfl rfl ?_
  intro X C hT hin
  show WW X 1 E 0 [(0, .ref qs)] [] [(qs, .inr (5, [.ref qt, .ref sa, .ref sb, .ref sc, .ref sd, .int 0, .int 0, .int 0, .int 0, .int 0])), (qt, .inr (10, [.ref tb, .int 0, .int 0, .int 0, .int 0])), (tb, .inl (E.2.1 0, 160, .inl (fun _ => 0)))] 0 0
  refine ww_aload_n C dX5_next_0 0 rfl rfl ?_
  refine ww_get C fg_X5_12 0 rfl rfl dX5_next_1 ?_
  refine ww_cv (wr := [(qs, .inr (5, [.ref qt, .ref sa, .ref sb, .ref sc, .ref sd, .int 0, .int 0, .int 0, .int 0, .int 0]))]) (k' := 0) (n' := 0) C (run_V (As := []) (rest := []) C (c_readToken X.2.1 E qt tb) mi_X10_readToken wl_X5_74 rfl 0 10 rfl rfl rfl rfl rfl dX5_next_4) [1, 2] [0] rfl rfl rfl rfl (fun u hw => ?_)
  obtain ⟨rfl⟩ := hw
  refine ww_eq (ws' := [(qs, .inr (5, [.ref qt, .ref sa, .ref sb, .ref sc, .ref sd, .int 0, .int 0, .int 0, .int 0, .int 0])), (qt, .inr (10, [.ref tb, .int 0, .int 0, .int 0, .int 0])), (tb, .inl (E.2.1 0, 160, .inl (fun _ => 0)))]) ?_ rfl rfl rfl
  refine ww_aload_n C dX5_next_7 0 rfl rfl ?_
  refine ww_get C fg_X5_12 0 rfl rfl dX5_next_8 ?_
  refine ww_get C fg_X5_60 1 rfl rfl dX5_next_11 ?_
  refine ww_iconst (v := 3) C dX5_next_14 rfl ?_
  refine ww_icmp_ne_t (tgt := 26) C dX5_next_15 (by decide) (by decide) ?_
  refine ww_iconst (v := 1) C dX5_next_26 rfl ?_
  refine ww_goto (tgt := 31) C dX5_next_27 (by decide) ?_
  exact ww_zret (u := [(qs, .inr (5, [.ref qt, .ref sa, .ref sb, .ref sc, .ref sd, .int 0, .int 0, .int 0, .int 0, .int 0])), (qt, .inr (10, [.ref tb, .int 0, .int 0, .int 0, .int 0])), (tb, .inl (E.2.1 0, 160, .inl (fun _ => 0)))]) C hT [0, 1, 2] rfl rfl rfl rfl rfl dX5_next_31 (⟨rfl, rfl⟩)
theorem dX5_readAfters_0 : decode cX5_readAfters 0 = .ok (.iconst 0, 1) := by decide +kernel
theorem dX5_readAfters_1 : decode cX5_readAfters 1 = .ok (.istore_n 1, 1) := by decide +kernel
theorem dX5_readAfters_2 : decode cX5_readAfters 2 = .ok (.iload_n 1, 1) := by decide +kernel
theorem dX5_readAfters_3 : decode cX5_readAfters 3 = .ok (.iconst 2, 1) := by decide +kernel
theorem dX5_readAfters_4 : decode cX5_readAfters 4 = .ok (.if_icmp .gt 48, 3) := by decide +kernel
theorem dX5_readAfters_7 : decode cX5_readAfters 7 = .ok (.aload_n 0, 1) := by decide +kernel
theorem dX5_readAfters_8 : decode cX5_readAfters 8 = .ok (.getfield 12, 3) := by decide +kernel
theorem dX5_readAfters_11 : decode cX5_readAfters 11 = .ok (.ldc 77, 2) := by decide +kernel
theorem dX5_readAfters_13 : decode cX5_readAfters 13 = .ok (.invokevirtual 78, 3) := by decide +kernel
theorem wl_X5_78 : Cond.methodLink RX5 78 yX10_isName ∈ TB := tbm (tq3 (List.mem_of_getElem? (i := 38) (by decide +kernel))) (by decide +kernel)
theorem wc_X10_isName : Cond.code yX10_isName cX10_isName 3 (some .boolean) ∈ TB := tbm (tq3 (List.mem_of_getElem? (i := 41) (rfl))) (by decide +kernel)
theorem wi_X10_isName : Cond.instanceMethod yX10_isName ∈ TB := tbm (tq3 (List.mem_of_getElem? (i := 39) (by decide +kernel))) (by decide +kernel)
theorem ws_X10_isName : Cond.selects RX10 yX10_isName yX10_isName ∈ TB := tbm (tq3 (List.mem_of_getElem? (i := 40) (by decide +kernel))) (by decide +kernel)
theorem mi_X10_isName : MI yX10_isName cX10_isName 3 (some .boolean) 1 := ⟨wc_X10_isName, wn_X10, ⟨by decide +kernel, by decide +kernel, by decide +kernel⟩, wi_X10_isName, ws_X10_isName⟩
theorem dX5_readAfters_16 : decode cX5_readAfters 16 = .ok (.ifCond .eq 36, 3) := by decide +kernel
theorem dX5_readAfters_52 : decode cX5_readAfters 52 = .ok (.iconst 1, 1) := by decide +kernel
theorem dX5_readAfters_53 : decode cX5_readAfters 53 = .ok (.ireturn, 1) := by decide +kernel
set_option maxRecDepth 100000 in
set_option maxHeartbeats 4000000 in
theorem c_readAfters (l : Launch) (E : EV) (qs : Nat) (qt : Nat) (sa : Nat) (sb : Nat) (sc : Nat) (sd : Nat) (tb : Nat)  : CT l yX5_readAfters (Cond.code yX5_readAfters cX5_readAfters 2 (some .boolean) :: TB) ({ frames := 1, cells := 0, slots := 0, locals := 22 }) E [.ref qs] [(qs, .inr (5, [.ref qt, .ref sa, .ref sb, .ref sc, .ref sd, .int 0, .int 0, .int 0, .int 0, .int 0])), (qt, .inr (10, [.ref tb, .int 0, .int 0, .int 0, .int 0])), (tb, .inl (E.2.1 0, 160, .inl (fun _ => 0)))] (Qi E (fun (r : Int32) u => (r = 1 ∧ u = [(qs, .inr (5, [.ref qt, .ref sa, .ref sb, .ref sc, .ref sd, .int 0, .int 0, .int 0, .int 0, .int 0])), (qt, .inr (10, [.ref tb, .int 0, .int 0, .int 0, .int 0])), (tb, .inl (E.2.1 0, 160, .inl (fun _ => 0)))]))) 0 0 := by
  refine ct_of rfl rfl ?_
  intro X C hT hin
  show WW X 2 E 0 [(0, .ref qs)] [] [(qs, .inr (5, [.ref qt, .ref sa, .ref sb, .ref sc, .ref sd, .int 0, .int 0, .int 0, .int 0, .int 0])), (qt, .inr (10, [.ref tb, .int 0, .int 0, .int 0, .int 0])), (tb, .inl (E.2.1 0, 160, .inl (fun _ => 0)))] 0 0
  refine ww_iconst (v := 0) C dX5_readAfters_0 rfl ?_
  refine ww_istore_n (lv' := [(1, .int 0), (0, .ref qs)]) C dX5_readAfters_1 rfl rfl rfl ?_
  refine ww_iload_n C dX5_readAfters_2 0 rfl rfl ?_
  refine ww_iconst (v := 2) C dX5_readAfters_3 rfl ?_
  refine ww_icmp_gt_f (tgt := 52) C dX5_readAfters_4 (by decide) (by decide) ?_
  refine ww_aload_n C dX5_readAfters_7 1 rfl rfl ?_
  refine ww_get C fg_X5_12 0 rfl rfl dX5_readAfters_8 ?_
  refine ww_ldcS (tx := "after") C (List.mem_of_getElem? (i := 0) rfl) rfl dX5_readAfters_11 ?_
  refine ww_ci (wr := [(qs, .inr (5, [.ref qt, .ref sa, .ref sb, .ref sc, .ref sd, .int 0, .int 0, .int 0, .int 0, .int 0]))]) (k' := 0) (n' := 0) C (run_V (As := [.ref (E.2.2 77)]) (rest := []) C (c_isName X.2.1 E qt (E.2.2 77) tb) mi_X10_isName wl_X5_78 rfl 0 10 rfl rfl rfl rfl rfl dX5_readAfters_13) [1, 2] [0] rfl rfl rfl rfl (fun r u hw => ?_)
  obtain ⟨rfl, rfl⟩ := hw
  refine ww_eq (ws' := [(qs, .inr (5, [.ref qt, .ref sa, .ref sb, .ref sc, .ref sd, .int 0, .int 0, .int 0, .int 0, .int 0])), (qt, .inr (10, [.ref tb, .int 0, .int 0, .int 0, .int 0])), (tb, .inl (E.2.1 0, 160, .inl (fun _ => 0)))]) ?_ rfl rfl rfl
  refine ww_if_eq_t (tgt := 52) C dX5_readAfters_16 (by decide) (rfl) ?_
  refine ww_iconst (v := 1) C dX5_readAfters_52 rfl ?_
  exact ww_zret (u := [(qs, .inr (5, [.ref qt, .ref sa, .ref sb, .ref sc, .ref sd, .int 0, .int 0, .int 0, .int 0, .int 0])), (qt, .inr (10, [.ref tb, .int 0, .int 0, .int 0, .int 0])), (tb, .inl (E.2.1 0, 160, .inl (fun _ => 0)))]) C hT [0, 1, 2] rfl rfl rfl rfl rfl dX5_readAfters_53 (⟨rfl, rfl⟩)
theorem dX5_factOfName_0 : decode cX5_factOfName 0 = .ok (.aload_n 0, 1) := by decide +kernel
theorem dX5_factOfName_1 : decode cX5_factOfName 1 = .ok (.getfield 12, 3) := by decide +kernel
theorem dX5_factOfName_4 : decode cX5_factOfName 4 = .ok (.ldc 116, 2) := by decide +kernel
theorem dX5_factOfName_6 : decode cX5_factOfName 6 = .ok (.invokevirtual 78, 3) := by decide +kernel
theorem dX5_factOfName_9 : decode cX5_factOfName 9 = .ok (.ifCond .eq 5, 3) := by decide +kernel
theorem dX5_factOfName_14 : decode cX5_factOfName 14 = .ok (.aload_n 0, 1) := by decide +kernel
theorem dX5_factOfName_15 : decode cX5_factOfName 15 = .ok (.getfield 12, 3) := by decide +kernel
theorem dX5_factOfName_18 : decode cX5_factOfName 18 = .ok (.ldc 118, 2) := by decide +kernel
theorem dX5_factOfName_20 : decode cX5_factOfName 20 = .ok (.invokevirtual 78, 3) := by decide +kernel
theorem dX5_factOfName_23 : decode cX5_factOfName 23 = .ok (.ifCond .eq 5, 3) := by decide +kernel
theorem dX5_factOfName_28 : decode cX5_factOfName 28 = .ok (.aload_n 0, 1) := by decide +kernel
theorem dX5_factOfName_29 : decode cX5_factOfName 29 = .ok (.getfield 12, 3) := by decide +kernel
theorem dX5_factOfName_32 : decode cX5_factOfName 32 = .ok (.ldc 120, 2) := by decide +kernel
theorem dX5_factOfName_34 : decode cX5_factOfName 34 = .ok (.invokevirtual 78, 3) := by decide +kernel
theorem dX5_factOfName_37 : decode cX5_factOfName 37 = .ok (.ifCond .eq 5, 3) := by decide +kernel
theorem dX5_factOfName_42 : decode cX5_factOfName 42 = .ok (.aload_n 0, 1) := by decide +kernel
theorem dX5_factOfName_43 : decode cX5_factOfName 43 = .ok (.getfield 12, 3) := by decide +kernel
theorem dX5_factOfName_46 : decode cX5_factOfName 46 = .ok (.ldc 122, 2) := by decide +kernel
theorem dX5_factOfName_48 : decode cX5_factOfName 48 = .ok (.invokevirtual 78, 3) := by decide +kernel
theorem dX5_factOfName_51 : decode cX5_factOfName 51 = .ok (.ifCond .eq 8, 3) := by decide +kernel
theorem dX5_factOfName_59 : decode cX5_factOfName 59 = .ok (.iconst 0, 1) := by decide +kernel
theorem dX5_factOfName_60 : decode cX5_factOfName 60 = .ok (.ireturn, 1) := by decide +kernel
set_option maxRecDepth 100000 in
set_option maxHeartbeats 4000000 in
theorem c_factOfName (l : Launch) (E : EV) (qs : Nat) (qt : Nat) (sa : Nat) (sb : Nat) (sc : Nat) (sd : Nat) (tb : Nat)  : CT l yX5_factOfName (Cond.code yX5_factOfName cX5_factOfName 1 (some .int) :: TB) ({ frames := 1, cells := 0, slots := 0, locals := 22 }) E [.ref qs] [(qs, .inr (5, [.ref qt, .ref sa, .ref sb, .ref sc, .ref sd, .int 0, .int 0, .int 0, .int 0, .int 0])), (qt, .inr (10, [.ref tb, .int 0, .int 0, .int 0, .int 0])), (tb, .inl (E.2.1 0, 160, .inl (fun _ => 0)))] (Qi E (fun (r : Int32) u => (r = 0 ∧ u = [(qs, .inr (5, [.ref qt, .ref sa, .ref sb, .ref sc, .ref sd, .int 0, .int 0, .int 0, .int 0, .int 0])), (qt, .inr (10, [.ref tb, .int 0, .int 0, .int 0, .int 0])), (tb, .inl (E.2.1 0, 160, .inl (fun _ => 0)))]))) 0 0 := by
  refine ct_of rfl rfl ?_
  intro X C hT hin
  show WW X 1 E 0 [(0, .ref qs)] [] [(qs, .inr (5, [.ref qt, .ref sa, .ref sb, .ref sc, .ref sd, .int 0, .int 0, .int 0, .int 0, .int 0])), (qt, .inr (10, [.ref tb, .int 0, .int 0, .int 0, .int 0])), (tb, .inl (E.2.1 0, 160, .inl (fun _ => 0)))] 0 0
  refine ww_aload_n C dX5_factOfName_0 0 rfl rfl ?_
  refine ww_get C fg_X5_12 0 rfl rfl dX5_factOfName_1 ?_
  refine ww_ldcS (tx := String.singleton 'p') C (List.mem_of_getElem? (i := 1) rfl) rfl dX5_factOfName_4 ?_
  refine ww_ci (wr := [(qs, .inr (5, [.ref qt, .ref sa, .ref sb, .ref sc, .ref sd, .int 0, .int 0, .int 0, .int 0, .int 0]))]) (k' := 0) (n' := 0) C (run_V (As := [.ref (E.2.2 116)]) (rest := []) C (c_isName X.2.1 E qt (E.2.2 116) tb) mi_X10_isName wl_X5_78 rfl 0 10 rfl rfl rfl rfl rfl dX5_factOfName_6) [1, 2] [0] rfl rfl rfl rfl (fun r u hw => ?_)
  obtain ⟨rfl, rfl⟩ := hw
  refine ww_eq (ws' := [(qs, .inr (5, [.ref qt, .ref sa, .ref sb, .ref sc, .ref sd, .int 0, .int 0, .int 0, .int 0, .int 0])), (qt, .inr (10, [.ref tb, .int 0, .int 0, .int 0, .int 0])), (tb, .inl (E.2.1 0, 160, .inl (fun _ => 0)))]) ?_ rfl rfl rfl
  refine ww_if_eq_t (tgt := 14) C dX5_factOfName_9 (by decide) (rfl) ?_
  refine ww_aload_n C dX5_factOfName_14 0 rfl rfl ?_
  refine ww_get C fg_X5_12 0 rfl rfl dX5_factOfName_15 ?_
  refine ww_ldcS (tx := String.singleton 'q') C (List.mem_of_getElem? (i := 2) rfl) rfl dX5_factOfName_18 ?_
  refine ww_ci (wr := [(qs, .inr (5, [.ref qt, .ref sa, .ref sb, .ref sc, .ref sd, .int 0, .int 0, .int 0, .int 0, .int 0]))]) (k' := 0) (n' := 0) C (run_V (As := [.ref (E.2.2 118)]) (rest := []) C (c_isName X.2.1 E qt (E.2.2 118) tb) mi_X10_isName wl_X5_78 rfl 0 10 rfl rfl rfl rfl rfl dX5_factOfName_20) [1, 2] [0] rfl rfl rfl rfl (fun r u hw => ?_)
  obtain ⟨rfl, rfl⟩ := hw
  refine ww_eq (ws' := [(qs, .inr (5, [.ref qt, .ref sa, .ref sb, .ref sc, .ref sd, .int 0, .int 0, .int 0, .int 0, .int 0])), (qt, .inr (10, [.ref tb, .int 0, .int 0, .int 0, .int 0])), (tb, .inl (E.2.1 0, 160, .inl (fun _ => 0)))]) ?_ rfl rfl rfl
  refine ww_if_eq_t (tgt := 28) C dX5_factOfName_23 (by decide) (rfl) ?_
  refine ww_aload_n C dX5_factOfName_28 0 rfl rfl ?_
  refine ww_get C fg_X5_12 0 rfl rfl dX5_factOfName_29 ?_
  refine ww_ldcS (tx := String.singleton 'r') C (List.mem_of_getElem? (i := 3) rfl) rfl dX5_factOfName_32 ?_
  refine ww_ci (wr := [(qs, .inr (5, [.ref qt, .ref sa, .ref sb, .ref sc, .ref sd, .int 0, .int 0, .int 0, .int 0, .int 0]))]) (k' := 0) (n' := 0) C (run_V (As := [.ref (E.2.2 120)]) (rest := []) C (c_isName X.2.1 E qt (E.2.2 120) tb) mi_X10_isName wl_X5_78 rfl 0 10 rfl rfl rfl rfl rfl dX5_factOfName_34) [1, 2] [0] rfl rfl rfl rfl (fun r u hw => ?_)
  obtain ⟨rfl, rfl⟩ := hw
  refine ww_eq (ws' := [(qs, .inr (5, [.ref qt, .ref sa, .ref sb, .ref sc, .ref sd, .int 0, .int 0, .int 0, .int 0, .int 0])), (qt, .inr (10, [.ref tb, .int 0, .int 0, .int 0, .int 0])), (tb, .inl (E.2.1 0, 160, .inl (fun _ => 0)))]) ?_ rfl rfl rfl
  refine ww_if_eq_t (tgt := 42) C dX5_factOfName_37 (by decide) (rfl) ?_
  refine ww_aload_n C dX5_factOfName_42 0 rfl rfl ?_
  refine ww_get C fg_X5_12 0 rfl rfl dX5_factOfName_43 ?_
  refine ww_ldcS (tx := String.singleton 's') C (List.mem_of_getElem? (i := 4) rfl) rfl dX5_factOfName_46 ?_
  refine ww_ci (wr := [(qs, .inr (5, [.ref qt, .ref sa, .ref sb, .ref sc, .ref sd, .int 0, .int 0, .int 0, .int 0, .int 0]))]) (k' := 0) (n' := 0) C (run_V (As := [.ref (E.2.2 122)]) (rest := []) C (c_isName X.2.1 E qt (E.2.2 122) tb) mi_X10_isName wl_X5_78 rfl 0 10 rfl rfl rfl rfl rfl dX5_factOfName_48) [1, 2] [0] rfl rfl rfl rfl (fun r u hw => ?_)
  obtain ⟨rfl, rfl⟩ := hw
  refine ww_eq (ws' := [(qs, .inr (5, [.ref qt, .ref sa, .ref sb, .ref sc, .ref sd, .int 0, .int 0, .int 0, .int 0, .int 0])), (qt, .inr (10, [.ref tb, .int 0, .int 0, .int 0, .int 0])), (tb, .inl (E.2.1 0, 160, .inl (fun _ => 0)))]) ?_ rfl rfl rfl
  refine ww_if_eq_t (tgt := 59) C dX5_factOfName_51 (by decide) (rfl) ?_
  refine ww_iconst (v := 0) C dX5_factOfName_59 rfl ?_
  exact ww_iret (u := [(qs, .inr (5, [.ref qt, .ref sa, .ref sb, .ref sc, .ref sd, .int 0, .int 0, .int 0, .int 0, .int 0])), (qt, .inr (10, [.ref tb, .int 0, .int 0, .int 0, .int 0])), (tb, .inl (E.2.1 0, 160, .inl (fun _ => 0)))]) C hT [0, 1, 2] rfl rfl rfl rfl dX5_factOfName_60 (⟨rfl, rfl⟩)
theorem dX5_opAboutKnowers_0 : decode cX5_opAboutKnowers 0 = .ok (.aload_n 0, 1) := by decide +kernel
theorem dX5_opAboutKnowers_1 : decode cX5_opAboutKnowers 1 = .ok (.getfield 12, 3) := by decide +kernel
theorem dX5_opAboutKnowers_4 : decode cX5_opAboutKnowers 4 = .ok (.ldc 95, 2) := by decide +kernel
theorem dX5_opAboutKnowers_6 : decode cX5_opAboutKnowers 6 = .ok (.invokevirtual 78, 3) := by decide +kernel
theorem dX5_opAboutKnowers_9 : decode cX5_opAboutKnowers 9 = .ok (.ifCond .ne 15, 3) := by decide +kernel
theorem dX5_opAboutKnowers_12 : decode cX5_opAboutKnowers 12 = .ok (.aload_n 0, 1) := by decide +kernel
theorem dX5_opAboutKnowers_13 : decode cX5_opAboutKnowers 13 = .ok (.getfield 12, 3) := by decide +kernel
theorem dX5_opAboutKnowers_16 : decode cX5_opAboutKnowers 16 = .ok (.ldc 135, 2) := by decide +kernel
theorem dX5_opAboutKnowers_18 : decode cX5_opAboutKnowers 18 = .ok (.invokevirtual 78, 3) := by decide +kernel
theorem dX5_opAboutKnowers_21 : decode cX5_opAboutKnowers 21 = .ok (.ifCond .eq 6, 3) := by decide +kernel
theorem dX5_opAboutKnowers_27 : decode cX5_opAboutKnowers 27 = .ok (.aload_n 0, 1) := by decide +kernel
theorem dX5_opAboutKnowers_28 : decode cX5_opAboutKnowers 28 = .ok (.getfield 12, 3) := by decide +kernel
theorem dX5_opAboutKnowers_31 : decode cX5_opAboutKnowers 31 = .ok (.ldc 137, 2) := by decide +kernel
theorem dX5_opAboutKnowers_33 : decode cX5_opAboutKnowers 33 = .ok (.invokevirtual 78, 3) := by decide +kernel
theorem dX5_opAboutKnowers_36 : decode cX5_opAboutKnowers 36 = .ok (.ifCond .eq 5, 3) := by decide +kernel
theorem dX5_opAboutKnowers_41 : decode cX5_opAboutKnowers 41 = .ok (.aload_n 0, 1) := by decide +kernel
theorem dX5_opAboutKnowers_42 : decode cX5_opAboutKnowers 42 = .ok (.getfield 12, 3) := by decide +kernel
theorem dX5_opAboutKnowers_45 : decode cX5_opAboutKnowers 45 = .ok (.ldc 139, 2) := by decide +kernel
theorem dX5_opAboutKnowers_47 : decode cX5_opAboutKnowers 47 = .ok (.invokevirtual 78, 3) := by decide +kernel
theorem dX5_opAboutKnowers_50 : decode cX5_opAboutKnowers 50 = .ok (.ifCond .eq 6, 3) := by decide +kernel
theorem dX5_opAboutKnowers_56 : decode cX5_opAboutKnowers 56 = .ok (.aload_n 0, 1) := by decide +kernel
theorem dX5_opAboutKnowers_57 : decode cX5_opAboutKnowers 57 = .ok (.getfield 12, 3) := by decide +kernel
theorem dX5_opAboutKnowers_60 : decode cX5_opAboutKnowers 60 = .ok (.ldc 141, 2) := by decide +kernel
theorem dX5_opAboutKnowers_62 : decode cX5_opAboutKnowers 62 = .ok (.invokevirtual 78, 3) := by decide +kernel
theorem dX5_opAboutKnowers_65 : decode cX5_opAboutKnowers 65 = .ok (.ifCond .eq 8, 3) := by decide +kernel
theorem dX5_opAboutKnowers_73 : decode cX5_opAboutKnowers 73 = .ok (.bipush (-4), 2) := by decide +kernel
theorem dX5_opAboutKnowers_75 : decode cX5_opAboutKnowers 75 = .ok (.ireturn, 1) := by decide +kernel
set_option maxRecDepth 100000 in
set_option maxHeartbeats 4000000 in
theorem c_opAboutKnowers (l : Launch) (E : EV) (qs : Nat) (qt : Nat) (sa : Nat) (sb : Nat) (sc : Nat) (sd : Nat) (tb : Nat)  : CT l yX5_opAboutKnowers (Cond.code yX5_opAboutKnowers cX5_opAboutKnowers 1 (some .int) :: TB) ({ frames := 1, cells := 0, slots := 0, locals := 22 }) E [.ref qs] [(qs, .inr (5, [.ref qt, .ref sa, .ref sb, .ref sc, .ref sd, .int 0, .int 0, .int 0, .int 0, .int 0])), (qt, .inr (10, [.ref tb, .int 0, .int 0, .int 0, .int 0])), (tb, .inl (E.2.1 0, 160, .inl (fun _ => 0)))] (Qi E (fun (r : Int32) u => (r = (-4) ∧ u = [(qs, .inr (5, [.ref qt, .ref sa, .ref sb, .ref sc, .ref sd, .int 0, .int 0, .int 0, .int 0, .int 0])), (qt, .inr (10, [.ref tb, .int 0, .int 0, .int 0, .int 0])), (tb, .inl (E.2.1 0, 160, .inl (fun _ => 0)))]))) 0 0 := by
  refine ct_of rfl rfl ?_
  intro X C hT hin
  show WW X 1 E 0 [(0, .ref qs)] [] [(qs, .inr (5, [.ref qt, .ref sa, .ref sb, .ref sc, .ref sd, .int 0, .int 0, .int 0, .int 0, .int 0])), (qt, .inr (10, [.ref tb, .int 0, .int 0, .int 0, .int 0])), (tb, .inl (E.2.1 0, 160, .inl (fun _ => 0)))] 0 0
  refine ww_aload_n C dX5_opAboutKnowers_0 0 rfl rfl ?_
  refine ww_get C fg_X5_12 0 rfl rfl dX5_opAboutKnowers_1 ?_
  refine ww_ldcS (tx := "know") C (List.mem_of_getElem? (i := 9) rfl) rfl dX5_opAboutKnowers_4 ?_
  refine ww_ci (wr := [(qs, .inr (5, [.ref qt, .ref sa, .ref sb, .ref sc, .ref sd, .int 0, .int 0, .int 0, .int 0, .int 0]))]) (k' := 0) (n' := 0) C (run_V (As := [.ref (E.2.2 95)]) (rest := []) C (c_isName X.2.1 E qt (E.2.2 95) tb) mi_X10_isName wl_X5_78 rfl 0 10 rfl rfl rfl rfl rfl dX5_opAboutKnowers_6) [1, 2] [0] rfl rfl rfl rfl (fun r u hw => ?_)
  obtain ⟨rfl, rfl⟩ := hw
  refine ww_eq (ws' := [(qs, .inr (5, [.ref qt, .ref sa, .ref sb, .ref sc, .ref sd, .int 0, .int 0, .int 0, .int 0, .int 0])), (qt, .inr (10, [.ref tb, .int 0, .int 0, .int 0, .int 0])), (tb, .inl (E.2.1 0, 160, .inl (fun _ => 0)))]) ?_ rfl rfl rfl
  refine ww_if_ne_f (tgt := 24) C dX5_opAboutKnowers_9 (by decide) (rfl) ?_
  refine ww_aload_n C dX5_opAboutKnowers_12 0 rfl rfl ?_
  refine ww_get C fg_X5_12 0 rfl rfl dX5_opAboutKnowers_13 ?_
  refine ww_ldcS (tx := "every") C (List.mem_of_getElem? (i := 10) rfl) rfl dX5_opAboutKnowers_16 ?_
  refine ww_ci (wr := [(qs, .inr (5, [.ref qt, .ref sa, .ref sb, .ref sc, .ref sd, .int 0, .int 0, .int 0, .int 0, .int 0]))]) (k' := 0) (n' := 0) C (run_V (As := [.ref (E.2.2 135)]) (rest := []) C (c_isName X.2.1 E qt (E.2.2 135) tb) mi_X10_isName wl_X5_78 rfl 0 10 rfl rfl rfl rfl rfl dX5_opAboutKnowers_18) [1, 2] [0] rfl rfl rfl rfl (fun r u hw => ?_)
  obtain ⟨rfl, rfl⟩ := hw
  refine ww_eq (ws' := [(qs, .inr (5, [.ref qt, .ref sa, .ref sb, .ref sc, .ref sd, .int 0, .int 0, .int 0, .int 0, .int 0])), (qt, .inr (10, [.ref tb, .int 0, .int 0, .int 0, .int 0])), (tb, .inl (E.2.1 0, 160, .inl (fun _ => 0)))]) ?_ rfl rfl rfl
  refine ww_if_eq_t (tgt := 27) C dX5_opAboutKnowers_21 (by decide) (rfl) ?_
  refine ww_aload_n C dX5_opAboutKnowers_27 0 rfl rfl ?_
  refine ww_get C fg_X5_12 0 rfl rfl dX5_opAboutKnowers_28 ?_
  refine ww_ldcS (tx := "whether") C (List.mem_of_getElem? (i := 11) rfl) rfl dX5_opAboutKnowers_31 ?_
  refine ww_ci (wr := [(qs, .inr (5, [.ref qt, .ref sa, .ref sb, .ref sc, .ref sd, .int 0, .int 0, .int 0, .int 0, .int 0]))]) (k' := 0) (n' := 0) C (run_V (As := [.ref (E.2.2 137)]) (rest := []) C (c_isName X.2.1 E qt (E.2.2 137) tb) mi_X10_isName wl_X5_78 rfl 0 10 rfl rfl rfl rfl rfl dX5_opAboutKnowers_33) [1, 2] [0] rfl rfl rfl rfl (fun r u hw => ?_)
  obtain ⟨rfl, rfl⟩ := hw
  refine ww_eq (ws' := [(qs, .inr (5, [.ref qt, .ref sa, .ref sb, .ref sc, .ref sd, .int 0, .int 0, .int 0, .int 0, .int 0])), (qt, .inr (10, [.ref tb, .int 0, .int 0, .int 0, .int 0])), (tb, .inl (E.2.1 0, 160, .inl (fun _ => 0)))]) ?_ rfl rfl rfl
  refine ww_if_eq_t (tgt := 41) C dX5_opAboutKnowers_36 (by decide) (rfl) ?_
  refine ww_aload_n C dX5_opAboutKnowers_41 0 rfl rfl ?_
  refine ww_get C fg_X5_12 0 rfl rfl dX5_opAboutKnowers_42 ?_
  refine ww_ldcS (tx := "common") C (List.mem_of_getElem? (i := 12) rfl) rfl dX5_opAboutKnowers_45 ?_
  refine ww_ci (wr := [(qs, .inr (5, [.ref qt, .ref sa, .ref sb, .ref sc, .ref sd, .int 0, .int 0, .int 0, .int 0, .int 0]))]) (k' := 0) (n' := 0) C (run_V (As := [.ref (E.2.2 139)]) (rest := []) C (c_isName X.2.1 E qt (E.2.2 139) tb) mi_X10_isName wl_X5_78 rfl 0 10 rfl rfl rfl rfl rfl dX5_opAboutKnowers_47) [1, 2] [0] rfl rfl rfl rfl (fun r u hw => ?_)
  obtain ⟨rfl, rfl⟩ := hw
  refine ww_eq (ws' := [(qs, .inr (5, [.ref qt, .ref sa, .ref sb, .ref sc, .ref sd, .int 0, .int 0, .int 0, .int 0, .int 0])), (qt, .inr (10, [.ref tb, .int 0, .int 0, .int 0, .int 0])), (tb, .inl (E.2.1 0, 160, .inl (fun _ => 0)))]) ?_ rfl rfl rfl
  refine ww_if_eq_t (tgt := 56) C dX5_opAboutKnowers_50 (by decide) (rfl) ?_
  refine ww_aload_n C dX5_opAboutKnowers_56 0 rfl rfl ?_
  refine ww_get C fg_X5_12 0 rfl rfl dX5_opAboutKnowers_57 ?_
  refine ww_ldcS (tx := "together") C (List.mem_of_getElem? (i := 13) rfl) rfl dX5_opAboutKnowers_60 ?_
  refine ww_ci (wr := [(qs, .inr (5, [.ref qt, .ref sa, .ref sb, .ref sc, .ref sd, .int 0, .int 0, .int 0, .int 0, .int 0]))]) (k' := 0) (n' := 0) C (run_V (As := [.ref (E.2.2 141)]) (rest := []) C (c_isName X.2.1 E qt (E.2.2 141) tb) mi_X10_isName wl_X5_78 rfl 0 10 rfl rfl rfl rfl rfl dX5_opAboutKnowers_62) [1, 2] [0] rfl rfl rfl rfl (fun r u hw => ?_)
  obtain ⟨rfl, rfl⟩ := hw
  refine ww_eq (ws' := [(qs, .inr (5, [.ref qt, .ref sa, .ref sb, .ref sc, .ref sd, .int 0, .int 0, .int 0, .int 0, .int 0])), (qt, .inr (10, [.ref tb, .int 0, .int 0, .int 0, .int 0])), (tb, .inl (E.2.1 0, 160, .inl (fun _ => 0)))]) ?_ rfl rfl rfl
  refine ww_if_eq_t (tgt := 73) C dX5_opAboutKnowers_65 (by decide) (rfl) ?_
  refine ww_bipush (v := (-4)) C dX5_opAboutKnowers_73 rfl ?_
  exact ww_iret (u := [(qs, .inr (5, [.ref qt, .ref sa, .ref sb, .ref sc, .ref sd, .int 0, .int 0, .int 0, .int 0, .int 0])), (qt, .inr (10, [.ref tb, .int 0, .int 0, .int 0, .int 0])), (tb, .inl (E.2.1 0, 160, .inl (fun _ => 0)))]) C hT [0, 1, 2] rfl rfl rfl rfl dX5_opAboutKnowers_75 (⟨rfl, rfl⟩)
theorem dX5_opOfName_0 : decode cX5_opOfName 0 = .ok (.aload_n 0, 1) := by decide +kernel
theorem dX5_opOfName_1 : decode cX5_opOfName 1 = .ok (.invokevirtual 92, 3) := by decide +kernel
theorem wl_X5_92 : Cond.methodLink RX5 92 yX5_factOfName ∈ TB := tbm (tq3 (List.mem_of_getElem? (i := 106) (by decide +kernel))) (by decide +kernel)
theorem wc_X5_factOfName : Cond.code yX5_factOfName cX5_factOfName 1 (some .int) ∈ TB := tbm (tq3 (List.mem_of_getElem? (i := 109) (rfl))) (by decide +kernel)
theorem wi_X5_factOfName : Cond.instanceMethod yX5_factOfName ∈ TB := tbm (tq3 (List.mem_of_getElem? (i := 108) (by decide +kernel))) (by decide +kernel)
theorem ws_X5_factOfName : Cond.selects RX5 yX5_factOfName yX5_factOfName ∈ TB := tbm (tq0 (List.mem_of_getElem? (i := 10) (by decide +kernel))) (by decide +kernel)
theorem mi_X5_factOfName : MI yX5_factOfName cX5_factOfName 1 (some .int) 0 := ⟨wc_X5_factOfName, wn_X5, ⟨by decide +kernel, by decide +kernel, by decide +kernel⟩, wi_X5_factOfName, ws_X5_factOfName⟩
theorem dX5_opOfName_4 : decode cX5_opOfName 4 = .ok (.ifCond .eq 5, 3) := by decide +kernel
theorem dX5_opOfName_9 : decode cX5_opOfName 9 = .ok (.aload_n 0, 1) := by decide +kernel
theorem dX5_opOfName_10 : decode cX5_opOfName 10 = .ok (.getfield 12, 3) := by decide +kernel
theorem dX5_opOfName_13 : decode cX5_opOfName 13 = .ok (.ldc 124, 2) := by decide +kernel
theorem dX5_opOfName_15 : decode cX5_opOfName 15 = .ok (.invokevirtual 78, 3) := by decide +kernel
theorem dX5_opOfName_18 : decode cX5_opOfName 18 = .ok (.ifCond .eq 5, 3) := by decide +kernel
theorem dX5_opOfName_23 : decode cX5_opOfName 23 = .ok (.aload_n 0, 1) := by decide +kernel
theorem dX5_opOfName_24 : decode cX5_opOfName 24 = .ok (.getfield 12, 3) := by decide +kernel
theorem dX5_opOfName_27 : decode cX5_opOfName 27 = .ok (.ldc 126, 2) := by decide +kernel
theorem dX5_opOfName_29 : decode cX5_opOfName 29 = .ok (.invokevirtual 78, 3) := by decide +kernel
theorem dX5_opOfName_32 : decode cX5_opOfName 32 = .ok (.ifCond .eq 5, 3) := by decide +kernel
theorem dX5_opOfName_37 : decode cX5_opOfName 37 = .ok (.aload_n 0, 1) := by decide +kernel
theorem dX5_opOfName_38 : decode cX5_opOfName 38 = .ok (.getfield 12, 3) := by decide +kernel
theorem dX5_opOfName_41 : decode cX5_opOfName 41 = .ok (.ldc 128, 2) := by decide +kernel
theorem dX5_opOfName_43 : decode cX5_opOfName 43 = .ok (.invokevirtual 78, 3) := by decide +kernel
theorem dX5_opOfName_46 : decode cX5_opOfName 46 = .ok (.ifCond .eq 5, 3) := by decide +kernel
theorem dX5_opOfName_51 : decode cX5_opOfName 51 = .ok (.aload_n 0, 1) := by decide +kernel
theorem dX5_opOfName_52 : decode cX5_opOfName 52 = .ok (.getfield 12, 3) := by decide +kernel
theorem dX5_opOfName_55 : decode cX5_opOfName 55 = .ok (.ldc 130, 2) := by decide +kernel
theorem dX5_opOfName_57 : decode cX5_opOfName 57 = .ok (.invokevirtual 78, 3) := by decide +kernel
theorem dX5_opOfName_60 : decode cX5_opOfName 60 = .ok (.ifCond .eq 5, 3) := by decide +kernel
theorem dX5_opOfName_65 : decode cX5_opOfName 65 = .ok (.aload_n 0, 1) := by decide +kernel
theorem dX5_opOfName_66 : decode cX5_opOfName 66 = .ok (.invokevirtual 132, 3) := by decide +kernel
theorem wl_X5_132 : Cond.methodLink RX5 132 yX5_opAboutKnowers ∈ TB := tbm (tq3 (List.mem_of_getElem? (i := 118) (by decide +kernel))) (by decide +kernel)
theorem wc_X5_opAboutKnowers : Cond.code yX5_opAboutKnowers cX5_opAboutKnowers 1 (some .int) ∈ TB := tbm (tq3 (List.mem_of_getElem? (i := 121) (rfl))) (by decide +kernel)
theorem wi_X5_opAboutKnowers : Cond.instanceMethod yX5_opAboutKnowers ∈ TB := tbm (tq3 (List.mem_of_getElem? (i := 120) (by decide +kernel))) (by decide +kernel)
theorem ws_X5_opAboutKnowers : Cond.selects RX5 yX5_opAboutKnowers yX5_opAboutKnowers ∈ TB := tbm (tq0 (List.mem_of_getElem? (i := 11) (by decide +kernel))) (by decide +kernel)
theorem mi_X5_opAboutKnowers : MI yX5_opAboutKnowers cX5_opAboutKnowers 1 (some .int) 0 := ⟨wc_X5_opAboutKnowers, wn_X5, ⟨by decide +kernel, by decide +kernel, by decide +kernel⟩, wi_X5_opAboutKnowers, ws_X5_opAboutKnowers⟩
theorem dX5_opOfName_69 : decode cX5_opOfName 69 = .ok (.ireturn, 1) := by decide +kernel
set_option maxRecDepth 100000 in
set_option maxHeartbeats 4000000 in
theorem c_opOfName (l : Launch) (E : EV) (qs : Nat) (qt : Nat) (sa : Nat) (sb : Nat) (sc : Nat) (sd : Nat) (tb : Nat)  : CT l yX5_opOfName (Cond.code yX5_opOfName cX5_opOfName 1 (some .int) :: TB) ({ frames := 2, cells := 0, slots := 0, locals := 42 }) E [.ref qs] [(qs, .inr (5, [.ref qt, .ref sa, .ref sb, .ref sc, .ref sd, .int 0, .int 0, .int 0, .int 0, .int 0])), (qt, .inr (10, [.ref tb, .int 0, .int 0, .int 0, .int 0])), (tb, .inl (E.2.1 0, 160, .inl (fun _ => 0)))] (Qi E (fun (r : Int32) u => (r = (-4) ∧ u = [(qs, .inr (5, [.ref qt, .ref sa, .ref sb, .ref sc, .ref sd, .int 0, .int 0, .int 0, .int 0, .int 0])), (qt, .inr (10, [.ref tb, .int 0, .int 0, .int 0, .int 0])), (tb, .inl (E.2.1 0, 160, .inl (fun _ => 0)))]))) 0 0 := by
  refine ct_of rfl rfl ?_
  intro X C hT hin
  show WW X 1 E 0 [(0, .ref qs)] [] [(qs, .inr (5, [.ref qt, .ref sa, .ref sb, .ref sc, .ref sd, .int 0, .int 0, .int 0, .int 0, .int 0])), (qt, .inr (10, [.ref tb, .int 0, .int 0, .int 0, .int 0])), (tb, .inl (E.2.1 0, 160, .inl (fun _ => 0)))] 0 0
  refine ww_aload_n C dX5_opOfName_0 0 rfl rfl ?_
  refine ww_ci (wr := []) (k' := 0) (n' := 0) C (run_V (As := []) (rest := []) C (c_factOfName X.2.1 E qs qt sa sb sc sd tb) mi_X5_factOfName wl_X5_92 rfl 0 5 rfl rfl rfl rfl rfl dX5_opOfName_1) [0, 1, 2] [] rfl rfl rfl rfl (fun r u hw => ?_)
  obtain ⟨rfl, rfl⟩ := hw
  refine ww_eq (ws' := [(qs, .inr (5, [.ref qt, .ref sa, .ref sb, .ref sc, .ref sd, .int 0, .int 0, .int 0, .int 0, .int 0])), (qt, .inr (10, [.ref tb, .int 0, .int 0, .int 0, .int 0])), (tb, .inl (E.2.1 0, 160, .inl (fun _ => 0)))]) ?_ rfl rfl rfl
  refine ww_if_eq_t (tgt := 9) C dX5_opOfName_4 (by decide) (rfl) ?_
  refine ww_aload_n C dX5_opOfName_9 0 rfl rfl ?_
  refine ww_get C fg_X5_12 0 rfl rfl dX5_opOfName_10 ?_
  refine ww_ldcS (tx := "yes") C (List.mem_of_getElem? (i := 5) rfl) rfl dX5_opOfName_13 ?_
  refine ww_ci (wr := [(qs, .inr (5, [.ref qt, .ref sa, .ref sb, .ref sc, .ref sd, .int 0, .int 0, .int 0, .int 0, .int 0]))]) (k' := 0) (n' := 0) C (run_V (As := [.ref (E.2.2 124)]) (rest := []) C (c_isName X.2.1 E qt (E.2.2 124) tb) mi_X10_isName wl_X5_78 rfl 0 10 rfl rfl rfl rfl rfl dX5_opOfName_15) [1, 2] [0] rfl rfl rfl rfl (fun r u hw => ?_)
  obtain ⟨rfl, rfl⟩ := hw
  refine ww_eq (ws' := [(qs, .inr (5, [.ref qt, .ref sa, .ref sb, .ref sc, .ref sd, .int 0, .int 0, .int 0, .int 0, .int 0])), (qt, .inr (10, [.ref tb, .int 0, .int 0, .int 0, .int 0])), (tb, .inl (E.2.1 0, 160, .inl (fun _ => 0)))]) ?_ rfl rfl rfl
  refine ww_if_eq_t (tgt := 23) C dX5_opOfName_18 (by decide) (rfl) ?_
  refine ww_aload_n C dX5_opOfName_23 0 rfl rfl ?_
  refine ww_get C fg_X5_12 0 rfl rfl dX5_opOfName_24 ?_
  refine ww_ldcS (tx := "not") C (List.mem_of_getElem? (i := 6) rfl) rfl dX5_opOfName_27 ?_
  refine ww_ci (wr := [(qs, .inr (5, [.ref qt, .ref sa, .ref sb, .ref sc, .ref sd, .int 0, .int 0, .int 0, .int 0, .int 0]))]) (k' := 0) (n' := 0) C (run_V (As := [.ref (E.2.2 126)]) (rest := []) C (c_isName X.2.1 E qt (E.2.2 126) tb) mi_X10_isName wl_X5_78 rfl 0 10 rfl rfl rfl rfl rfl dX5_opOfName_29) [1, 2] [0] rfl rfl rfl rfl (fun r u hw => ?_)
  obtain ⟨rfl, rfl⟩ := hw
  refine ww_eq (ws' := [(qs, .inr (5, [.ref qt, .ref sa, .ref sb, .ref sc, .ref sd, .int 0, .int 0, .int 0, .int 0, .int 0])), (qt, .inr (10, [.ref tb, .int 0, .int 0, .int 0, .int 0])), (tb, .inl (E.2.1 0, 160, .inl (fun _ => 0)))]) ?_ rfl rfl rfl
  refine ww_if_eq_t (tgt := 37) C dX5_opOfName_32 (by decide) (rfl) ?_
  refine ww_aload_n C dX5_opOfName_37 0 rfl rfl ?_
  refine ww_get C fg_X5_12 0 rfl rfl dX5_opOfName_38 ?_
  refine ww_ldcS (tx := "and") C (List.mem_of_getElem? (i := 7) rfl) rfl dX5_opOfName_41 ?_
  refine ww_ci (wr := [(qs, .inr (5, [.ref qt, .ref sa, .ref sb, .ref sc, .ref sd, .int 0, .int 0, .int 0, .int 0, .int 0]))]) (k' := 0) (n' := 0) C (run_V (As := [.ref (E.2.2 128)]) (rest := []) C (c_isName X.2.1 E qt (E.2.2 128) tb) mi_X10_isName wl_X5_78 rfl 0 10 rfl rfl rfl rfl rfl dX5_opOfName_43) [1, 2] [0] rfl rfl rfl rfl (fun r u hw => ?_)
  obtain ⟨rfl, rfl⟩ := hw
  refine ww_eq (ws' := [(qs, .inr (5, [.ref qt, .ref sa, .ref sb, .ref sc, .ref sd, .int 0, .int 0, .int 0, .int 0, .int 0])), (qt, .inr (10, [.ref tb, .int 0, .int 0, .int 0, .int 0])), (tb, .inl (E.2.1 0, 160, .inl (fun _ => 0)))]) ?_ rfl rfl rfl
  refine ww_if_eq_t (tgt := 51) C dX5_opOfName_46 (by decide) (rfl) ?_
  refine ww_aload_n C dX5_opOfName_51 0 rfl rfl ?_
  refine ww_get C fg_X5_12 0 rfl rfl dX5_opOfName_52 ?_
  refine ww_ldcS (tx := "or") C (List.mem_of_getElem? (i := 8) rfl) rfl dX5_opOfName_55 ?_
  refine ww_ci (wr := [(qs, .inr (5, [.ref qt, .ref sa, .ref sb, .ref sc, .ref sd, .int 0, .int 0, .int 0, .int 0, .int 0]))]) (k' := 0) (n' := 0) C (run_V (As := [.ref (E.2.2 130)]) (rest := []) C (c_isName X.2.1 E qt (E.2.2 130) tb) mi_X10_isName wl_X5_78 rfl 0 10 rfl rfl rfl rfl rfl dX5_opOfName_57) [1, 2] [0] rfl rfl rfl rfl (fun r u hw => ?_)
  obtain ⟨rfl, rfl⟩ := hw
  refine ww_eq (ws' := [(qs, .inr (5, [.ref qt, .ref sa, .ref sb, .ref sc, .ref sd, .int 0, .int 0, .int 0, .int 0, .int 0])), (qt, .inr (10, [.ref tb, .int 0, .int 0, .int 0, .int 0])), (tb, .inl (E.2.1 0, 160, .inl (fun _ => 0)))]) ?_ rfl rfl rfl
  refine ww_if_eq_t (tgt := 65) C dX5_opOfName_60 (by decide) (rfl) ?_
  refine ww_aload_n C dX5_opOfName_65 0 rfl rfl ?_
  refine ww_ci (wr := []) (k' := 0) (n' := 0) C (run_V (As := []) (rest := []) C (c_opAboutKnowers X.2.1 E qs qt sa sb sc sd tb) mi_X5_opAboutKnowers wl_X5_132 rfl 0 5 rfl rfl rfl rfl rfl dX5_opOfName_66) [0, 1, 2] [] rfl rfl rfl rfl (fun r u hw => ?_)
  obtain ⟨rfl, rfl⟩ := hw
  refine ww_eq (ws' := [(qs, .inr (5, [.ref qt, .ref sa, .ref sb, .ref sc, .ref sd, .int 0, .int 0, .int 0, .int 0, .int 0])), (qt, .inr (10, [.ref tb, .int 0, .int 0, .int 0, .int 0])), (tb, .inl (E.2.1 0, 160, .inl (fun _ => 0)))]) ?_ rfl rfl rfl
  exact ww_iret (u := [(qs, .inr (5, [.ref qt, .ref sa, .ref sb, .ref sc, .ref sd, .int 0, .int 0, .int 0, .int 0, .int 0])), (qt, .inr (10, [.ref tb, .int 0, .int 0, .int 0, .int 0])), (tb, .inl (E.2.1 0, 160, .inl (fun _ => 0)))]) C hT [0, 1, 2] rfl rfl rfl rfl dX5_opOfName_69 (⟨rfl, rfl⟩)
theorem dX5_readSaying_0 : decode cX5_readSaying 0 = .ok (.iconst 1, 1) := by decide +kernel
theorem dX5_readSaying_1 : decode cX5_readSaying 1 = .ok (.istore_n 1, 1) := by decide +kernel
theorem dX5_readSaying_2 : decode cX5_readSaying 2 = .ok (.iconst 0, 1) := by decide +kernel
theorem dX5_readSaying_3 : decode cX5_readSaying 3 = .ok (.istore_n 2, 1) := by decide +kernel
theorem dX5_readSaying_4 : decode cX5_readSaying 4 = .ok (.iload_n 2, 1) := by decide +kernel
theorem dX5_readSaying_5 : decode cX5_readSaying 5 = .ok (.bipush 32, 2) := by decide +kernel
theorem dX5_readSaying_7 : decode cX5_readSaying 7 = .ok (.if_icmp .gt 141, 3) := by decide +kernel
theorem dX5_readSaying_10 : decode cX5_readSaying 10 = .ok (.iload_n 1, 1) := by decide +kernel
theorem dX5_readSaying_11 : decode cX5_readSaying 11 = .ok (.ifCond .le 137, 3) := by decide +kernel
theorem dX5_readSaying_14 : decode cX5_readSaying 14 = .ok (.aload_n 0, 1) := by decide +kernel
theorem dX5_readSaying_15 : decode cX5_readSaying 15 = .ok (.invokevirtual 89, 3) := by decide +kernel
theorem wl_X5_89 : Cond.methodLink RX5 89 yX5_opOfName ∈ TB := tbm (tq3 (List.mem_of_getElem? (i := 102) (by decide +kernel))) (by decide +kernel)
theorem wc_X5_opOfName : Cond.code yX5_opOfName cX5_opOfName 1 (some .int) ∈ TB := tbm (tq3 (List.mem_of_getElem? (i := 105) (rfl))) (by decide +kernel)
theorem wi_X5_opOfName : Cond.instanceMethod yX5_opOfName ∈ TB := tbm (tq3 (List.mem_of_getElem? (i := 104) (by decide +kernel))) (by decide +kernel)
theorem ws_X5_opOfName : Cond.selects RX5 yX5_opOfName yX5_opOfName ∈ TB := tbm (tq0 (List.mem_of_getElem? (i := 9) (by decide +kernel))) (by decide +kernel)
theorem mi_X5_opOfName : MI yX5_opOfName cX5_opOfName 1 (some .int) 0 := ⟨wc_X5_opOfName, wn_X5, ⟨by decide +kernel, by decide +kernel, by decide +kernel⟩, wi_X5_opOfName, ws_X5_opOfName⟩
theorem dX5_readSaying_18 : decode cX5_readSaying 18 = .ok (.istore_n 3, 1) := by decide +kernel
theorem dX5_readSaying_19 : decode cX5_readSaying 19 = .ok (.iload_n 3, 1) := by decide +kernel
theorem dX5_readSaying_20 : decode cX5_readSaying 20 = .ok (.bipush (-4), 2) := by decide +kernel
theorem dX5_readSaying_22 : decode cX5_readSaying 22 = .ok (.if_icmp .ne 9, 3) := by decide +kernel
theorem dX5_readSaying_25 : decode cX5_readSaying 25 = .ok (.aload_n 0, 1) := by decide +kernel
theorem dX5_readSaying_26 : decode cX5_readSaying 26 = .ok (.iconst 2, 1) := by decide +kernel
theorem dX5_readSaying_27 : decode cX5_readSaying 27 = .ok (.invokevirtual 63, 3) := by decide +kernel
theorem wl_X5_63 : Cond.methodLink RX5 63 yX5_fail ∈ TB := tbm (tq3 (List.mem_of_getElem? (i := 29) (by decide +kernel))) (by decide +kernel)
theorem wc_X5_fail : Cond.code yX5_fail cX5_fail 2 (some .boolean) ∈ TB := tbm (tq3 (List.mem_of_getElem? (i := 32) (rfl))) (by decide +kernel)
theorem wi_X5_fail : Cond.instanceMethod yX5_fail ∈ TB := tbm (tq3 (List.mem_of_getElem? (i := 31) (by decide +kernel))) (by decide +kernel)
theorem ws_X5_fail : Cond.selects RX5 yX5_fail yX5_fail ∈ TB := tbm (tq0 (List.mem_of_getElem? (i := 5) (by decide +kernel))) (by decide +kernel)
theorem mi_X5_fail : MI yX5_fail cX5_fail 2 (some .boolean) 1 := ⟨wc_X5_fail, wn_X5, ⟨by decide +kernel, by decide +kernel, by decide +kernel⟩, wi_X5_fail, ws_X5_fail⟩
theorem dX5_readSaying_30 : decode cX5_readSaying 30 = .ok (.ireturn, 1) := by decide +kernel
set_option maxRecDepth 100000 in
set_option maxHeartbeats 4000000 in
theorem c_readSaying (l : Launch) (E : EV) (qs : Nat) (qt : Nat) (sa : Nat) (sb : Nat) (sc : Nat) (sd : Nat) (tb : Nat)  : CT l yX5_readSaying (Cond.code yX5_readSaying cX5_readSaying 6 (some .boolean) :: TB) ({ frames := 3, cells := 0, slots := 0, locals := 62 }) E [.ref qs] [(qs, .inr (5, [.ref qt, .ref sa, .ref sb, .ref sc, .ref sd, .int 0, .int 0, .int 0, .int 0, .int 0])), (qt, .inr (10, [.ref tb, .int 0, .int 0, .int 0, .int 0])), (tb, .inl (E.2.1 0, 160, .inl (fun _ => 0)))] (Qi E (fun (r : Int32) u => (r = 0 ∧ u = [(qs, .inr (5, [.ref qt, .ref sa, .ref sb, .ref sc, .ref sd, .int 0, .int 0, .int 0, .int 2, .int 0])), (qt, .inr (10, [.ref tb, .int 0, .int 0, .int 0, .int 0])), (tb, .inl (E.2.1 0, 160, .inl (fun _ => 0)))]))) 0 0 := by
  refine ct_of rfl rfl ?_
  intro X C hT hin
  show WW X 6 E 0 [(0, .ref qs)] [] [(qs, .inr (5, [.ref qt, .ref sa, .ref sb, .ref sc, .ref sd, .int 0, .int 0, .int 0, .int 0, .int 0])), (qt, .inr (10, [.ref tb, .int 0, .int 0, .int 0, .int 0])), (tb, .inl (E.2.1 0, 160, .inl (fun _ => 0)))] 0 0
  refine ww_iconst (v := 1) C dX5_readSaying_0 rfl ?_
  refine ww_istore_n (lv' := [(1, .int 1), (0, .ref qs)]) C dX5_readSaying_1 rfl rfl rfl ?_
  refine ww_iconst (v := 0) C dX5_readSaying_2 rfl ?_
  refine ww_istore_n (lv' := [(2, .int 0), (1, .int 1), (0, .ref qs)]) C dX5_readSaying_3 rfl rfl rfl ?_
  refine ww_iload_n C dX5_readSaying_4 0 rfl rfl ?_
  refine ww_bipush (v := 32) C dX5_readSaying_5 rfl ?_
  refine ww_icmp_gt_f (tgt := 148) C dX5_readSaying_7 (by decide) (by decide) ?_
  refine ww_iload_n C dX5_readSaying_10 1 rfl rfl ?_
  refine ww_if_le_f (tgt := 148) C dX5_readSaying_11 (by decide) (by decide) ?_
  refine ww_aload_n C dX5_readSaying_14 2 rfl rfl ?_
  refine ww_ci (wr := []) (k' := 0) (n' := 0) C (run_V (As := []) (rest := []) C (c_opOfName X.2.1 E qs qt sa sb sc sd tb) mi_X5_opOfName wl_X5_89 rfl 0 5 rfl rfl rfl rfl rfl dX5_readSaying_15) [0, 1, 2] [] rfl rfl rfl rfl (fun r u hw => ?_)
  obtain ⟨rfl, rfl⟩ := hw
  refine ww_eq (ws' := [(qs, .inr (5, [.ref qt, .ref sa, .ref sb, .ref sc, .ref sd, .int 0, .int 0, .int 0, .int 0, .int 0])), (qt, .inr (10, [.ref tb, .int 0, .int 0, .int 0, .int 0])), (tb, .inl (E.2.1 0, 160, .inl (fun _ => 0)))]) ?_ rfl rfl rfl
  refine ww_istore_n (lv' := [(3, .int (-4)), (2, .int 0), (1, .int 1), (0, .ref qs)]) C dX5_readSaying_18 rfl rfl rfl ?_
  refine ww_iload_n C dX5_readSaying_19 0 rfl rfl ?_
  refine ww_bipush (v := (-4)) C dX5_readSaying_20 rfl ?_
  refine ww_icmp_ne_f (tgt := 31) C dX5_readSaying_22 (by decide) (rfl) ?_
  refine ww_aload_n C dX5_readSaying_25 3 rfl rfl ?_
  refine ww_iconst (v := 2) C dX5_readSaying_26 rfl ?_
  refine ww_ci (wr := []) (k' := 0) (n' := 0) C (run_V (As := [.int 2]) (rest := []) C (c_fail2 X.2.1 E qs qt sa sb sc sd tb) mi_X5_fail wl_X5_63 rfl 0 5 rfl rfl rfl rfl rfl dX5_readSaying_27) [0, 1, 2] [] rfl rfl rfl rfl (fun r u hw => ?_)
  obtain ⟨rfl, rfl⟩ := hw
  refine ww_eq (ws' := [(qs, .inr (5, [.ref qt, .ref sa, .ref sb, .ref sc, .ref sd, .int 0, .int 0, .int 0, .int 2, .int 0])), (qt, .inr (10, [.ref tb, .int 0, .int 0, .int 0, .int 0])), (tb, .inl (E.2.1 0, 160, .inl (fun _ => 0)))]) ?_ rfl rfl rfl
  exact ww_zret (u := [(qs, .inr (5, [.ref qt, .ref sa, .ref sb, .ref sc, .ref sd, .int 0, .int 0, .int 0, .int 2, .int 0])), (qt, .inr (10, [.ref tb, .int 0, .int 0, .int 0, .int 0])), (tb, .inl (E.2.1 0, 160, .inl (fun _ => 0)))]) C hT [0, 1, 2] rfl rfl rfl rfl rfl dX5_readSaying_30 (⟨rfl, rfl⟩)
theorem dX5_parse_0 : decode cX5_parse 0 = .ok (.aload_n 0, 1) := by decide +kernel
theorem dX5_parse_1 : decode cX5_parse 1 = .ok (.iconst 0, 1) := by decide +kernel
theorem dX5_parse_2 : decode cX5_parse 2 = .ok (.putfield 31, 3) := by decide +kernel
theorem wf_X5_31 : Cond.fieldLink RX5 31 RX5 "nodes" "I" ∈ TB := tbm (tq1 (List.mem_of_getElem? (i := 104) (by decide +kernel))) (by decide +kernel)
theorem fp_X5_31 : FP RX5 31 5 5 .int false := ⟨RX5, TX5, 10, tyX5, uw_X5, wf_X5_31, rfl, by decide, rfl, tyX5_ok, nmX5, rfl, by decide +kernel⟩
theorem dX5_parse_5 : decode cX5_parse 5 = .ok (.aload_n 0, 1) := by decide +kernel
theorem dX5_parse_6 : decode cX5_parse 6 = .ok (.iconst 0, 1) := by decide +kernel
theorem dX5_parse_7 : decode cX5_parse 7 = .ok (.putfield 35, 3) := by decide +kernel
theorem wf_X5_35 : Cond.fieldLink RX5 35 RX5 "tokens" "I" ∈ TB := tbm (tq1 (List.mem_of_getElem? (i := 105) (by decide +kernel))) (by decide +kernel)
theorem fp_X5_35 : FP RX5 35 5 6 .int false := ⟨RX5, TX5, 10, tyX5, uw_X5, wf_X5_35, rfl, by decide, rfl, tyX5_ok, nmX5, rfl, by decide +kernel⟩
theorem dX5_parse_10 : decode cX5_parse 10 = .ok (.aload_n 0, 1) := by decide +kernel
theorem dX5_parse_11 : decode cX5_parse 11 = .ok (.iconst 0, 1) := by decide +kernel
theorem dX5_parse_12 : decode cX5_parse 12 = .ok (.putfield 38, 3) := by decide +kernel
theorem wf_X5_38 : Cond.fieldLink RX5 38 RX5 "afters" "I" ∈ TB := tbm (tq1 (List.mem_of_getElem? (i := 106) (by decide +kernel))) (by decide +kernel)
theorem fp_X5_38 : FP RX5 38 5 7 .int false := ⟨RX5, TX5, 10, tyX5, uw_X5, wf_X5_38, rfl, by decide, rfl, tyX5_ok, nmX5, rfl, by decide +kernel⟩
theorem dX5_parse_15 : decode cX5_parse 15 = .ok (.aload_n 0, 1) := by decide +kernel
theorem dX5_parse_16 : decode cX5_parse 16 = .ok (.iconst 0, 1) := by decide +kernel
theorem dX5_parse_17 : decode cX5_parse 17 = .ok (.putfield 41, 3) := by decide +kernel
theorem dX5_parse_20 : decode cX5_parse 20 = .ok (.aload_n 0, 1) := by decide +kernel
theorem dX5_parse_21 : decode cX5_parse 21 = .ok (.iconst 0, 1) := by decide +kernel
theorem dX5_parse_22 : decode cX5_parse 22 = .ok (.putfield 44, 3) := by decide +kernel
theorem dX5_parse_25 : decode cX5_parse 25 = .ok (.aload_n 0, 1) := by decide +kernel
theorem dX5_parse_26 : decode cX5_parse 26 = .ok (.getfield 12, 3) := by decide +kernel
theorem dX5_parse_29 : decode cX5_parse 29 = .ok (.invokevirtual 47, 3) := by decide +kernel
theorem wl_X5_47 : Cond.methodLink RX5 47 yX10_rewind ∈ TB := tbm (tq3 (List.mem_of_getElem? (i := 10) (by decide +kernel))) (by decide +kernel)
theorem wc_X10_rewind : Cond.code yX10_rewind cX10_rewind 1 none ∈ TB := tbm (tq3 (List.mem_of_getElem? (i := 13) (rfl))) (by decide +kernel)
theorem wi_X10_rewind : Cond.instanceMethod yX10_rewind ∈ TB := tbm (tq3 (List.mem_of_getElem? (i := 11) (by decide +kernel))) (by decide +kernel)
theorem ws_X10_rewind : Cond.selects RX10 yX10_rewind yX10_rewind ∈ TB := tbm (tq3 (List.mem_of_getElem? (i := 12) (by decide +kernel))) (by decide +kernel)
theorem mi_X10_rewind : MI yX10_rewind cX10_rewind 1 none 0 := ⟨wc_X10_rewind, wn_X10, ⟨by decide +kernel, by decide +kernel, by decide +kernel⟩, wi_X10_rewind, ws_X10_rewind⟩
theorem dX5_parse_32 : decode cX5_parse 32 = .ok (.aload_n 0, 1) := by decide +kernel
theorem dX5_parse_33 : decode cX5_parse 33 = .ok (.invokevirtual 50, 3) := by decide +kernel
theorem wl_X5_50 : Cond.methodLink RX5 50 yX5_next ∈ TB := tbm (tq3 (List.mem_of_getElem? (i := 14) (by decide +kernel))) (by decide +kernel)
theorem wc_X5_next : Cond.code yX5_next cX5_next 1 (some .boolean) ∈ TB := tbm (tq3 (List.mem_of_getElem? (i := 17) (rfl))) (by decide +kernel)
theorem wi_X5_next : Cond.instanceMethod yX5_next ∈ TB := tbm (tq3 (List.mem_of_getElem? (i := 16) (by decide +kernel))) (by decide +kernel)
theorem ws_X5_next : Cond.selects RX5 yX5_next yX5_next ∈ TB := tbm (tq0 (List.mem_of_getElem? (i := 3) (by decide +kernel))) (by decide +kernel)
theorem mi_X5_next : MI yX5_next cX5_next 1 (some .boolean) 0 := ⟨wc_X5_next, wn_X5, ⟨by decide +kernel, by decide +kernel, by decide +kernel⟩, wi_X5_next, ws_X5_next⟩
theorem dX5_parse_36 : decode cX5_parse 36 = .ok (.ifCond .eq 17, 3) := by decide +kernel
theorem dX5_parse_39 : decode cX5_parse 39 = .ok (.aload_n 0, 1) := by decide +kernel
theorem dX5_parse_40 : decode cX5_parse 40 = .ok (.invokevirtual 54, 3) := by decide +kernel
theorem wl_X5_54 : Cond.methodLink RX5 54 yX5_readAfters ∈ TB := tbm (tq3 (List.mem_of_getElem? (i := 33) (by decide +kernel))) (by decide +kernel)
theorem wc_X5_readAfters : Cond.code yX5_readAfters cX5_readAfters 2 (some .boolean) ∈ TB := tbm (tq3 (List.mem_of_getElem? (i := 36) (rfl))) (by decide +kernel)
theorem wi_X5_readAfters : Cond.instanceMethod yX5_readAfters ∈ TB := tbm (tq3 (List.mem_of_getElem? (i := 35) (by decide +kernel))) (by decide +kernel)
theorem ws_X5_readAfters : Cond.selects RX5 yX5_readAfters yX5_readAfters ∈ TB := tbm (tq0 (List.mem_of_getElem? (i := 6) (by decide +kernel))) (by decide +kernel)
theorem mi_X5_readAfters : MI yX5_readAfters cX5_readAfters 2 (some .boolean) 0 := ⟨wc_X5_readAfters, wn_X5, ⟨by decide +kernel, by decide +kernel, by decide +kernel⟩, wi_X5_readAfters, ws_X5_readAfters⟩
theorem dX5_parse_43 : decode cX5_parse 43 = .ok (.ifCond .eq 10, 3) := by decide +kernel
theorem dX5_parse_46 : decode cX5_parse 46 = .ok (.aload_n 0, 1) := by decide +kernel
theorem dX5_parse_47 : decode cX5_parse 47 = .ok (.invokevirtual 57, 3) := by decide +kernel
theorem wl_X5_57 : Cond.methodLink RX5 57 yX5_readSaying ∈ TB := tbm (tq3 (List.mem_of_getElem? (i := 98) (by decide +kernel))) (by decide +kernel)
theorem wc_X5_readSaying : Cond.code yX5_readSaying cX5_readSaying 6 (some .boolean) ∈ TB := tbm (tq3 (List.mem_of_getElem? (i := 101) (rfl))) (by decide +kernel)
theorem wi_X5_readSaying : Cond.instanceMethod yX5_readSaying ∈ TB := tbm (tq3 (List.mem_of_getElem? (i := 100) (by decide +kernel))) (by decide +kernel)
theorem ws_X5_readSaying : Cond.selects RX5 yX5_readSaying yX5_readSaying ∈ TB := tbm (tq0 (List.mem_of_getElem? (i := 8) (by decide +kernel))) (by decide +kernel)
theorem mi_X5_readSaying : MI yX5_readSaying cX5_readSaying 6 (some .boolean) 0 := ⟨wc_X5_readSaying, wn_X5, ⟨by decide +kernel, by decide +kernel, by decide +kernel⟩, wi_X5_readSaying, ws_X5_readSaying⟩
theorem dX5_parse_50 : decode cX5_parse 50 = .ok (.ifCond .ne 5, 3) := by decide +kernel
theorem dX5_parse_53 : decode cX5_parse 53 = .ok (.aconst_null, 1) := by decide +kernel
theorem dX5_parse_54 : decode cX5_parse 54 = .ok (.areturn, 1) := by decide +kernel
set_option maxRecDepth 100000 in
set_option maxHeartbeats 4000000 in
theorem c_parse (l : Launch) (E : EV) (qs : Nat) (qt : Nat) (sa : Nat) (sb : Nat) (sc : Nat) (sd : Nat) (tb : Nat)  : CT l yX5_parse (Cond.code yX5_parse cX5_parse 1 (some (.object "WhoKnows$Saying")) :: TB) ({ frames := 4, cells := 0, slots := 0, locals := 87 }) E [.ref qs] [(qs, .inr (5, [.ref qt, .ref sa, .ref sb, .ref sc, .ref sd, .int 0, .int 0, .int 0, .int 0, .int 0])), (qt, .inr (10, [.ref tb, .int 0, .int 0, .int 0, .int 0])), (tb, .inl (E.2.1 0, 160, .inl (fun _ => 0)))] (Qq E (fun (r : Option Nat) u => (r = none ∧ u = [(qs, .inr (5, [.ref qt, .ref sa, .ref sb, .ref sc, .ref sd, .int 0, .int 0, .int 0, .int 2, .int 0])), (qt, .inr (10, [.ref tb, .int 0, .int 0, .int 0, .int 0])), (tb, .inl (E.2.1 0, 160, .inl (fun _ => 0)))]))) 0 0 := by
  refine ct_of rfl rfl ?_
  intro X C hT hin
  show WW X 1 E 0 [(0, .ref qs)] [] [(qs, .inr (5, [.ref qt, .ref sa, .ref sb, .ref sc, .ref sd, .int 0, .int 0, .int 0, .int 0, .int 0])), (qt, .inr (10, [.ref tb, .int 0, .int 0, .int 0, .int 0])), (tb, .inl (E.2.1 0, 160, .inl (fun _ => 0)))] 0 0
  refine ww_aload_n C dX5_parse_0 0 rfl rfl ?_
  refine ww_iconst (v := 0) C dX5_parse_1 rfl ?_
  refine ww_put (ws' := [(qs, .inr (5, [.ref qt, .ref sa, .ref sb, .ref sc, .ref sd, .int 0, .int 0, .int 0, .int 0, .int 0])), (qt, .inr (10, [.ref tb, .int 0, .int 0, .int 0, .int 0])), (tb, .inl (E.2.1 0, 160, .inl (fun _ => 0)))]) C fp_X5_31 0 rfl rfl rfl rfl rfl dX5_parse_2 ?_
  refine ww_aload_n C dX5_parse_5 0 rfl rfl ?_
  refine ww_iconst (v := 0) C dX5_parse_6 rfl ?_
  refine ww_put (ws' := [(qs, .inr (5, [.ref qt, .ref sa, .ref sb, .ref sc, .ref sd, .int 0, .int 0, .int 0, .int 0, .int 0])), (qt, .inr (10, [.ref tb, .int 0, .int 0, .int 0, .int 0])), (tb, .inl (E.2.1 0, 160, .inl (fun _ => 0)))]) C fp_X5_35 0 rfl rfl rfl rfl rfl dX5_parse_7 ?_
  refine ww_aload_n C dX5_parse_10 0 rfl rfl ?_
  refine ww_iconst (v := 0) C dX5_parse_11 rfl ?_
  refine ww_put (ws' := [(qs, .inr (5, [.ref qt, .ref sa, .ref sb, .ref sc, .ref sd, .int 0, .int 0, .int 0, .int 0, .int 0])), (qt, .inr (10, [.ref tb, .int 0, .int 0, .int 0, .int 0])), (tb, .inl (E.2.1 0, 160, .inl (fun _ => 0)))]) C fp_X5_38 0 rfl rfl rfl rfl rfl dX5_parse_12 ?_
  refine ww_aload_n C dX5_parse_15 0 rfl rfl ?_
  refine ww_iconst (v := 0) C dX5_parse_16 rfl ?_
  refine ww_put (ws' := [(qs, .inr (5, [.ref qt, .ref sa, .ref sb, .ref sc, .ref sd, .int 0, .int 0, .int 0, .int 0, .int 0])), (qt, .inr (10, [.ref tb, .int 0, .int 0, .int 0, .int 0])), (tb, .inl (E.2.1 0, 160, .inl (fun _ => 0)))]) C fp_X5_41 0 rfl rfl rfl rfl rfl dX5_parse_17 ?_
  refine ww_aload_n C dX5_parse_20 0 rfl rfl ?_
  refine ww_iconst (v := 0) C dX5_parse_21 rfl ?_
  refine ww_put (ws' := [(qs, .inr (5, [.ref qt, .ref sa, .ref sb, .ref sc, .ref sd, .int 0, .int 0, .int 0, .int 0, .int 0])), (qt, .inr (10, [.ref tb, .int 0, .int 0, .int 0, .int 0])), (tb, .inl (E.2.1 0, 160, .inl (fun _ => 0)))]) C fp_X5_44 0 rfl rfl rfl rfl rfl dX5_parse_22 ?_
  refine ww_aload_n C dX5_parse_25 0 rfl rfl ?_
  refine ww_get C fg_X5_12 0 rfl rfl dX5_parse_26 ?_
  refine ww_cv (wr := [(qs, .inr (5, [.ref qt, .ref sa, .ref sb, .ref sc, .ref sd, .int 0, .int 0, .int 0, .int 0, .int 0]))]) (k' := 0) (n' := 0) C (run_V (As := []) (rest := []) C (c_rewind X.2.1 E qt tb) mi_X10_rewind wl_X5_47 rfl 0 10 rfl rfl rfl rfl rfl dX5_parse_29) [1, 2] [0] rfl rfl rfl rfl (fun u hw => ?_)
  obtain ⟨rfl⟩ := hw
  refine ww_eq (ws' := [(qs, .inr (5, [.ref qt, .ref sa, .ref sb, .ref sc, .ref sd, .int 0, .int 0, .int 0, .int 0, .int 0])), (qt, .inr (10, [.ref tb, .int 0, .int 0, .int 0, .int 0])), (tb, .inl (E.2.1 0, 160, .inl (fun _ => 0)))]) ?_ rfl rfl rfl
  refine ww_aload_n C dX5_parse_32 0 rfl rfl ?_
  refine ww_ci (wr := []) (k' := 0) (n' := 0) C (run_V (As := []) (rest := []) C (c_next X.2.1 E qs qt sa sb sc sd tb) mi_X5_next wl_X5_50 rfl 0 5 rfl rfl rfl rfl rfl dX5_parse_33) [0, 1, 2] [] rfl rfl rfl rfl (fun r u hw => ?_)
  obtain ⟨rfl, rfl⟩ := hw
  refine ww_eq (ws' := [(qs, .inr (5, [.ref qt, .ref sa, .ref sb, .ref sc, .ref sd, .int 0, .int 0, .int 0, .int 0, .int 0])), (qt, .inr (10, [.ref tb, .int 0, .int 0, .int 0, .int 0])), (tb, .inl (E.2.1 0, 160, .inl (fun _ => 0)))]) ?_ rfl rfl rfl
  refine ww_if_eq_f (tgt := 53) C dX5_parse_36 (by decide) (by decide) ?_
  refine ww_aload_n C dX5_parse_39 0 rfl rfl ?_
  refine ww_ci (wr := []) (k' := 0) (n' := 0) C (run_V (As := []) (rest := []) C (c_readAfters X.2.1 E qs qt sa sb sc sd tb) mi_X5_readAfters wl_X5_54 rfl 0 5 rfl rfl rfl rfl rfl dX5_parse_40) [0, 1, 2] [] rfl rfl rfl rfl (fun r u hw => ?_)
  obtain ⟨rfl, rfl⟩ := hw
  refine ww_eq (ws' := [(qs, .inr (5, [.ref qt, .ref sa, .ref sb, .ref sc, .ref sd, .int 0, .int 0, .int 0, .int 0, .int 0])), (qt, .inr (10, [.ref tb, .int 0, .int 0, .int 0, .int 0])), (tb, .inl (E.2.1 0, 160, .inl (fun _ => 0)))]) ?_ rfl rfl rfl
  refine ww_if_eq_f (tgt := 53) C dX5_parse_43 (by decide) (by decide) ?_
  refine ww_aload_n C dX5_parse_46 0 rfl rfl ?_
  refine ww_ci (wr := []) (k' := 0) (n' := 0) C (run_V (As := []) (rest := []) C (c_readSaying X.2.1 E qs qt sa sb sc sd tb) mi_X5_readSaying wl_X5_57 rfl 0 5 rfl rfl rfl rfl rfl dX5_parse_47) [0, 1, 2] [] rfl rfl rfl rfl (fun r u hw => ?_)
  obtain ⟨rfl, rfl⟩ := hw
  refine ww_eq (ws' := [(qs, .inr (5, [.ref qt, .ref sa, .ref sb, .ref sc, .ref sd, .int 0, .int 0, .int 0, .int 2, .int 0])), (qt, .inr (10, [.ref tb, .int 0, .int 0, .int 0, .int 0])), (tb, .inl (E.2.1 0, 160, .inl (fun _ => 0)))]) ?_ rfl rfl rfl
  refine ww_if_ne_f (tgt := 55) C dX5_parse_50 (by decide) (rfl) ?_
  refine ww_null C dX5_parse_53 ?_
  refine ww_eq (st' := [va_rf none]) ?_ rfl rfl rfl
  exact ww_qret (u := [(qs, .inr (5, [.ref qt, .ref sa, .ref sb, .ref sc, .ref sd, .int 0, .int 0, .int 0, .int 2, .int 0])), (qt, .inr (10, [.ref tb, .int 0, .int 0, .int 0, .int 0])), (tb, .inl (E.2.1 0, 160, .inl (fun _ => 0)))]) C hT (Or.inl ⟨_, rfl⟩) [0, 1, 2] rfl rfl rfl rfl dX5_parse_54 (⟨rfl, rfl⟩)
theorem dX11_say_0 : decode cX11_say 0 = .ok (.iload_n 1, 1) := by decide +kernel
theorem dX11_say_1 : decode cX11_say 1 = .ok (.iconst 0, 1) := by decide +kernel
theorem dX11_say_2 : decode cX11_say 2 = .ok (.bipush 7, 2) := by decide +kernel
theorem dX11_say_4 : decode cX11_say 4 = .ok (.invokestatic 76, 3) := by decide +kernel
theorem dX11_say_7 : decode cX11_say 7 = .ok (.ifCond .ne 5, 3) := by decide +kernel
theorem dX11_say_12 : decode cX11_say 12 = .ok (.aload_n 0, 1) := by decide +kernel
theorem dX11_say_13 : decode cX11_say 13 = .ok (.getfield 27, 3) := by decide +kernel
theorem dX11_say_16 : decode cX11_say 16 = .ok (.invokevirtual 174, 3) := by decide +kernel
theorem wl_X11_174 : Cond.methodLink RX11 174 yX5_parse ∈ TB := tbm (tq3 (List.mem_of_getElem? (i := 6) (by decide +kernel))) (by decide +kernel)
theorem wc_X5_parse : Cond.code yX5_parse cX5_parse 1 (some (.object "WhoKnows$Saying")) ∈ TB := tbm (tq3 (List.mem_of_getElem? (i := 9) (rfl))) (by decide +kernel)
theorem wi_X5_parse : Cond.instanceMethod yX5_parse ∈ TB := tbm (tq3 (List.mem_of_getElem? (i := 7) (by decide +kernel))) (by decide +kernel)
theorem ws_X5_parse : Cond.selects RX5 yX5_parse yX5_parse ∈ TB := tbm (tq3 (List.mem_of_getElem? (i := 8) (by decide +kernel))) (by decide +kernel)
theorem mi_X5_parse : MI yX5_parse cX5_parse 1 (some (.object "WhoKnows$Saying")) 0 := ⟨wc_X5_parse, wn_X5, ⟨by decide +kernel, by decide +kernel, by decide +kernel⟩, wi_X5_parse, ws_X5_parse⟩
theorem dX11_say_19 : decode cX11_say 19 = .ok (.astore_n 2, 1) := by decide +kernel
theorem dX11_say_20 : decode cX11_say 20 = .ok (.aload_n 0, 1) := by decide +kernel
theorem dX11_say_21 : decode cX11_say 21 = .ok (.getfield 27, 3) := by decide +kernel
theorem dX11_say_24 : decode cX11_say 24 = .ok (.getfield 162, 3) := by decide +kernel
theorem dX11_say_27 : decode cX11_say 27 = .ok (.iconst 0, 1) := by decide +kernel
theorem dX11_say_28 : decode cX11_say 28 = .ok (.putfield 171, 3) := by decide +kernel
theorem dX11_say_31 : decode cX11_say 31 = .ok (.aload_n 2, 1) := by decide +kernel
theorem dX11_say_32 : decode cX11_say 32 = .ok (.ifnonnull 14, 3) := by decide +kernel
theorem dX11_say_35 : decode cX11_say 35 = .ok (.bipush (-10), 2) := by decide +kernel
theorem dX11_say_37 : decode cX11_say 37 = .ok (.aload_n 0, 1) := by decide +kernel
theorem dX11_say_38 : decode cX11_say 38 = .ok (.getfield 27, 3) := by decide +kernel
theorem dX11_say_41 : decode cX11_say 41 = .ok (.getfield 178, 3) := by decide +kernel
theorem wf_X11_178 : Cond.fieldLink RX11 178 RX5 "place" "I" ∈ TB := tbm (tq1 (List.mem_of_getElem? (i := 110) (by decide +kernel))) (by decide +kernel)
theorem fg_X11_178 : FG RX11 178 5 9 := ⟨RX5, TX5, 10, uw_X5, wf_X11_178, rfl, by decide, rfl⟩
theorem dX11_say_44 : decode cX11_say 44 = .ok (.isub, 1) := by decide +kernel
theorem dX11_say_45 : decode cX11_say 45 = .ok (.ireturn, 1) := by decide +kernel
theorem dX11_say_10 : decode cX11_say 10 = .ok (.iconst (-1), 1) := by decide +kernel
theorem dX11_say_11 : decode cX11_say 11 = .ok (.ireturn, 1) := by decide +kernel
set_option maxRecDepth 100000 in
set_option maxHeartbeats 4000000 in
theorem x_say (l : Launch) (E : EV) (hx : Nat) (p0 : Int32) (qn : Nat) (qp : Nat) (qs : Nat) (qj : Nat) (ql : Nat) (qh : Nat) (qk : Nat) (qr : Nat) (qg : Nat) (qsh : Nat) (qt : Nat) (sa : Nat) (sb : Nat) (sc : Nat) (sd : Nat) (tb : Nat)  : CT l yX11_say (Cond.code yX11_say cX11_say 3 (some .int) :: TB) ({ frames := 5, cells := 0, slots := 0, locals := 107 }) E [.ref hx, .int p0] [(hx, .inr (11, [.ref qn, .ref qp, .int 0, .int 0, .ref qs, .ref qj, .ref ql, .ref qh, .ref qk, .int 0, .ref qr, .ref qg, .int 0, .int 0, .ref qsh])), (qs, .inr (5, [.ref qt, .ref sa, .ref sb, .ref sc, .ref sd, .int 0, .int 0, .int 0, .int 0, .int 0])), (qt, .inr (10, [.ref tb, .int 0, .int 0, .int 0, .int 0])), (tb, .inl (E.2.1 0, 160, .inl (fun _ => 0)))] (Qi E (fun (r : Int32) u => (r = (-1) ∧ u = [] ∧ (p0.toInt < 0 ∨ 7 < p0.toInt)) ∨ (r = (-10) ∧ u = [] ∧ (0 ≤ p0.toInt) ∧ (p0.toInt ≤ 7)))) 0 0 := by
  refine ct_of rfl rfl ?_
  intro X C hT hin
  show WW X 3 E 0 [(0, .ref hx), (1, .int p0)] [] [(hx, .inr (11, [.ref qn, .ref qp, .int 0, .int 0, .ref qs, .ref qj, .ref ql, .ref qh, .ref qk, .int 0, .ref qr, .ref qg, .int 0, .int 0, .ref qsh])), (qs, .inr (5, [.ref qt, .ref sa, .ref sb, .ref sc, .ref sd, .int 0, .int 0, .int 0, .int 0, .int 0])), (qt, .inr (10, [.ref tb, .int 0, .int 0, .int 0, .int 0])), (tb, .inl (E.2.1 0, 160, .inl (fun _ => 0)))] 0 0
  refine ww_iload_n C dX11_say_0 1 rfl rfl ?_
  refine ww_iconst (v := 0) C dX11_say_1 rfl ?_
  refine ww_bipush (v := 7) C dX11_say_2 rfl ?_
  refine ww_ci (wr := [(hx, .inr (11, [.ref qn, .ref qp, .int 0, .int 0, .ref qs, .ref qj, .ref ql, .ref qh, .ref qk, .int 0, .ref qr, .ref qg, .int 0, .int 0, .ref qsh])), (qs, .inr (5, [.ref qt, .ref sa, .ref sb, .ref sc, .ref sd, .int 0, .int 0, .int 0, .int 0, .int 0])), (qt, .inr (10, [.ref tb, .int 0, .int 0, .int 0, .int 0])), (tb, .inl (E.2.1 0, 160, .inl (fun _ => 0)))]) (k' := 0) (n' := 0) C (run_S (As := [.int p0, .int 0, .int 7]) (rest := []) C (c_within X.2.1 E p0 0 7 p0.toInt 0 7 rfl rfl rfl) ms_X11_within wl_X11_76 rfl rfl rfl rfl dX11_say_4) [] [0, 1, 2, 3] rfl rfl rfl rfl (fun r u hw => ?_)
  rcases hw with ⟨rfl, rfl, h_1, h_2⟩ | ⟨rfl, rfl, h_3⟩
  · refine ww_eq (ws' := [(hx, .inr (11, [.ref qn, .ref qp, .int 0, .int 0, .ref qs, .ref qj, .ref ql, .ref qh, .ref qk, .int 0, .ref qr, .ref qg, .int 0, .int 0, .ref qsh])), (qs, .inr (5, [.ref qt, .ref sa, .ref sb, .ref sc, .ref sd, .int 0, .int 0, .int 0, .int 0, .int 0])), (qt, .inr (10, [.ref tb, .int 0, .int 0, .int 0, .int 0])), (tb, .inl (E.2.1 0, 160, .inl (fun _ => 0)))]) ?_ rfl rfl rfl
    refine ww_if_ne_t (tgt := 12) C dX11_say_7 (by decide) (by decide) ?_
    refine ww_aload_n C dX11_say_12 0 rfl rfl ?_
    refine ww_get C fg_X11_27 0 rfl rfl dX11_say_13 ?_
    refine ww_cq (wr := [(hx, .inr (11, [.ref qn, .ref qp, .int 0, .int 0, .ref qs, .ref qj, .ref ql, .ref qh, .ref qk, .int 0, .ref qr, .ref qg, .int 0, .int 0, .ref qsh]))]) (k' := 0) (n' := 0) C (run_V (As := []) (rest := []) C (c_parse X.2.1 E qs qt sa sb sc sd tb) mi_X5_parse wl_X11_174 rfl 0 5 rfl rfl rfl rfl rfl dX11_say_16) [1, 2, 3] [0] rfl rfl rfl rfl (fun r u hw => ?_)
    obtain ⟨rfl, rfl⟩ := hw
    refine ww_eq (st' := [.null]) (ws' := [(hx, .inr (11, [.ref qn, .ref qp, .int 0, .int 0, .ref qs, .ref qj, .ref ql, .ref qh, .ref qk, .int 0, .ref qr, .ref qg, .int 0, .int 0, .ref qsh])), (qs, .inr (5, [.ref qt, .ref sa, .ref sb, .ref sc, .ref sd, .int 0, .int 0, .int 0, .int 2, .int 0])), (qt, .inr (10, [.ref tb, .int 0, .int 0, .int 0, .int 0])), (tb, .inl (E.2.1 0, 160, .inl (fun _ => 0)))]) ?_ rfl rfl rfl
    refine ww_astore_nN (lv' := [(2, .null), (0, .ref hx), (1, .int p0)]) C dX11_say_19 rfl rfl rfl ?_
    refine ww_aload_n C dX11_say_20 1 rfl rfl ?_
    refine ww_get C fg_X11_27 0 rfl rfl dX11_say_21 ?_
    refine ww_get C fg_X11_162 1 rfl rfl dX11_say_24 ?_
    refine ww_iconst (v := 0) C dX11_say_27 rfl ?_
    refine ww_put (ws' := [(hx, .inr (11, [.ref qn, .ref qp, .int 0, .int 0, .ref qs, .ref qj, .ref ql, .ref qh, .ref qk, .int 0, .ref qr, .ref qg, .int 0, .int 0, .ref qsh])), (qs, .inr (5, [.ref qt, .ref sa, .ref sb, .ref sc, .ref sd, .int 0, .int 0, .int 0, .int 2, .int 0])), (qt, .inr (10, [.ref tb, .int 0, .int 0, .int 0, .int 0])), (tb, .inl (E.2.1 0, 160, .inl (fun _ => 0)))]) C fp_X11_171 2 rfl rfl rfl rfl rfl dX11_say_28 ?_
    refine ww_aload_nN C dX11_say_31 0 rfl rfl ?_
    refine ww_ifnonnullN C dX11_say_32 ?_
    refine ww_bipush (v := (-10)) C dX11_say_35 rfl ?_
    refine ww_aload_n C dX11_say_37 1 rfl rfl ?_
    refine ww_get C fg_X11_27 0 rfl rfl dX11_say_38 ?_
    refine ww_get C fg_X11_178 1 rfl rfl dX11_say_41 ?_
    refine ww_isub (v := (-10)) C dX11_say_44 (by decide) ?_
    exact ww_iret (u := []) C hT [] rfl rfl rfl rfl dX11_say_45 (Or.inr ⟨rfl, rfl, (by first | assumption | omega | decide), (by first | assumption | omega | decide)⟩)
  · refine ww_eq (ws' := [(hx, .inr (11, [.ref qn, .ref qp, .int 0, .int 0, .ref qs, .ref qj, .ref ql, .ref qh, .ref qk, .int 0, .ref qr, .ref qg, .int 0, .int 0, .ref qsh])), (qs, .inr (5, [.ref qt, .ref sa, .ref sb, .ref sc, .ref sd, .int 0, .int 0, .int 0, .int 0, .int 0])), (qt, .inr (10, [.ref tb, .int 0, .int 0, .int 0, .int 0])), (tb, .inl (E.2.1 0, 160, .inl (fun _ => 0)))]) ?_ rfl rfl rfl
    refine ww_if_ne_f (tgt := 12) C dX11_say_7 (by decide) (rfl) ?_
    refine ww_iconst (v := (-1)) C dX11_say_10 rfl ?_
    exact ww_iret (u := []) C hT [] rfl rfl rfl rfl dX11_say_11 (Or.inl ⟨rfl, rfl, (by first | assumption | omega | decide)⟩)
theorem dX11_fault_0 : decode cX11_fault 0 = .ok (.aload_n 0, 1) := by decide +kernel
theorem dX11_fault_1 : decode cX11_fault 1 = .ok (.getfield 27, 3) := by decide +kernel
theorem dX11_fault_4 : decode cX11_fault 4 = .ok (.getfield 184, 3) := by decide +kernel
theorem wf_X11_184 : Cond.fieldLink RX11 184 RX5 "wrong" "I" ∈ TB := tbm (tq1 (List.mem_of_getElem? (i := 108) (by decide +kernel))) (by decide +kernel)
theorem fg_X11_184 : FG RX11 184 5 8 := ⟨RX5, TX5, 10, uw_X5, wf_X11_184, rfl, by decide, rfl⟩
theorem dX11_fault_7 : decode cX11_fault 7 = .ok (.ireturn, 1) := by decide +kernel
set_option maxRecDepth 100000 in
set_option maxHeartbeats 4000000 in
theorem x_fault (l : Launch) (E : EV) (hx : Nat) (qn : Nat) (qp : Nat) (qs : Nat) (qj : Nat) (ql : Nat) (qh : Nat) (qk : Nat) (qr : Nat) (qg : Nat) (qsh : Nat) (qt : Nat) (sa : Nat) (sb : Nat) (sc : Nat) (sd : Nat) (tb : Nat)  : CT l yX11_fault (Cond.code yX11_fault cX11_fault 1 (some .int) :: TB) ({ frames := 0, cells := 0, slots := 0, locals := 0 }) E [.ref hx] [(hx, .inr (11, [.ref qn, .ref qp, .int 0, .int 0, .ref qs, .ref qj, .ref ql, .ref qh, .ref qk, .int 0, .ref qr, .ref qg, .int 0, .int 0, .ref qsh])), (qs, .inr (5, [.ref qt, .ref sa, .ref sb, .ref sc, .ref sd, .int 0, .int 0, .int 0, .int 0, .int 0])), (qt, .inr (10, [.ref tb, .int 0, .int 0, .int 0, .int 0])), (tb, .inl (E.2.1 0, 160, .inl (fun _ => 0)))] (Qi E (fun (r : Int32) u => (r = 0 ∧ u = []))) 0 0 := by
  refine ct_of rfl rfl ?_
  intro X C hT hin
  show WW X 1 E 0 [(0, .ref hx)] [] [(hx, .inr (11, [.ref qn, .ref qp, .int 0, .int 0, .ref qs, .ref qj, .ref ql, .ref qh, .ref qk, .int 0, .ref qr, .ref qg, .int 0, .int 0, .ref qsh])), (qs, .inr (5, [.ref qt, .ref sa, .ref sb, .ref sc, .ref sd, .int 0, .int 0, .int 0, .int 0, .int 0])), (qt, .inr (10, [.ref tb, .int 0, .int 0, .int 0, .int 0])), (tb, .inl (E.2.1 0, 160, .inl (fun _ => 0)))] 0 0
  refine ww_aload_n C dX11_fault_0 0 rfl rfl ?_
  refine ww_get C fg_X11_27 0 rfl rfl dX11_fault_1 ?_
  refine ww_get C fg_X11_184 1 rfl rfl dX11_fault_4 ?_
  exact ww_iret (u := []) C hT [] rfl rfl rfl rfl dX11_fault_7 (⟨rfl, rfl⟩)
theorem dX11_isTold_0 : decode cX11_isTold 0 = .ok (.iload_n 1, 1) := by decide +kernel
theorem dX11_isTold_1 : decode cX11_isTold 1 = .ok (.iconst 0, 1) := by decide +kernel
theorem dX11_isTold_2 : decode cX11_isTold 2 = .ok (.bipush 7, 2) := by decide +kernel
theorem dX11_isTold_4 : decode cX11_isTold 4 = .ok (.invokestatic 76, 3) := by decide +kernel
theorem dX11_isTold_7 : decode cX11_isTold 7 = .ok (.ifCond .eq 19, 3) := by decide +kernel
theorem dX11_isTold_10 : decode cX11_isTold 10 = .ok (.aload_n 0, 1) := by decide +kernel
theorem dX11_isTold_11 : decode cX11_isTold 11 = .ok (.getfield 34, 3) := by decide +kernel
theorem fg_X11_34 : FG RX11 34 11 5 := ⟨RX11, TX11, 15, uw_X11, wf_X11_34, rfl, by decide, rfl⟩
theorem dX11_isTold_14 : decode cX11_isTold 14 = .ok (.getfield 80, 3) := by decide +kernel
theorem wf_X11_80 : Cond.fieldLink RX11 80 RX2 "told" "[LWhoKnows$Saying;" ∈ TB := tbm (tq1 (List.mem_of_getElem? (i := 214) (by decide +kernel))) (by decide +kernel)
theorem fg_X11_80 : FG RX11 80 2 0 := ⟨RX2, TX2, 4, uw_X2, wf_X11_80, rfl, by decide, rfl⟩
theorem dX11_isTold_17 : decode cX11_isTold 17 = .ok (.iload_n 1, 1) := by decide +kernel
theorem dX11_isTold_18 : decode cX11_isTold 18 = .ok (.aaload, 1) := by decide +kernel
theorem dX11_isTold_19 : decode cX11_isTold 19 = .ok (.ifnull 7, 3) := by decide +kernel
theorem dX11_isTold_26 : decode cX11_isTold 26 = .ok (.iconst 0, 1) := by decide +kernel
theorem dX11_isTold_27 : decode cX11_isTold 27 = .ok (.ireturn, 1) := by decide +kernel
set_option maxRecDepth 100000 in
set_option maxHeartbeats 4000000 in
theorem c_isTold (l : Launch) (E : EV) (hx : Nat) (p0 : Int32) (qn : Nat) (qp : Nat) (qs : Nat) (qj : Nat) (ql : Nat) (qh : Nat) (qk : Nat) (qr : Nat) (qg : Nat) (qsh : Nat) (jt : Nat) (je : Nat) (ju : Nat) (ja : Nat)  : CT l yX11_isTold (Cond.code yX11_isTold cX11_isTold 2 (some .boolean) :: TB) ({ frames := 1, cells := 0, slots := 0, locals := 22 }) E [.ref hx, .int p0] [(hx, .inr (11, [.ref qn, .ref qp, .int 0, .int 0, .ref qs, .ref qj, .ref ql, .ref qh, .ref qk, .int 0, .ref qr, .ref qg, .int 0, .int 0, .ref qsh])), (qj, .inr (2, [.ref jt, .ref je, .ref ju, .ref ja])), (jt, .inl (E.2.1 7, 8, .inr (.inr (.inr (.inr (fun _ => none))))))] (Qi E (fun (r : Int32) u => (r = 0 ∧ u = [(hx, .inr (11, [.ref qn, .ref qp, .int 0, .int 0, .ref qs, .ref qj, .ref ql, .ref qh, .ref qk, .int 0, .ref qr, .ref qg, .int 0, .int 0, .ref qsh])), (qj, .inr (2, [.ref jt, .ref je, .ref ju, .ref ja])), (jt, .inl (E.2.1 7, 8, .inr (.inr (.inr (.inr (fun _ => none))))))]))) 0 0 := by
  refine ct_of rfl rfl ?_
  intro X C hT hin
  show WW X 2 E 0 [(0, .ref hx), (1, .int p0)] [] [(hx, .inr (11, [.ref qn, .ref qp, .int 0, .int 0, .ref qs, .ref qj, .ref ql, .ref qh, .ref qk, .int 0, .ref qr, .ref qg, .int 0, .int 0, .ref qsh])), (qj, .inr (2, [.ref jt, .ref je, .ref ju, .ref ja])), (jt, .inl (E.2.1 7, 8, .inr (.inr (.inr (.inr (fun _ => none))))))] 0 0
  refine ww_iload_n C dX11_isTold_0 1 rfl rfl ?_
  refine ww_iconst (v := 0) C dX11_isTold_1 rfl ?_
  refine ww_bipush (v := 7) C dX11_isTold_2 rfl ?_
  refine ww_ci (wr := [(hx, .inr (11, [.ref qn, .ref qp, .int 0, .int 0, .ref qs, .ref qj, .ref ql, .ref qh, .ref qk, .int 0, .ref qr, .ref qg, .int 0, .int 0, .ref qsh])), (qj, .inr (2, [.ref jt, .ref je, .ref ju, .ref ja])), (jt, .inl (E.2.1 7, 8, .inr (.inr (.inr (.inr (fun _ => none))))))]) (k' := 0) (n' := 0) C (run_S (As := [.int p0, .int 0, .int 7]) (rest := []) C (c_within X.2.1 E p0 0 7 p0.toInt 0 7 rfl rfl rfl) ms_X11_within wl_X11_76 rfl rfl rfl rfl dX11_isTold_4) [] [0, 1, 2] rfl rfl rfl rfl (fun r u hw => ?_)
  rcases hw with ⟨rfl, rfl, h_1, h_2⟩ | ⟨rfl, rfl, h_3⟩
  · refine ww_eq (ws' := [(hx, .inr (11, [.ref qn, .ref qp, .int 0, .int 0, .ref qs, .ref qj, .ref ql, .ref qh, .ref qk, .int 0, .ref qr, .ref qg, .int 0, .int 0, .ref qsh])), (qj, .inr (2, [.ref jt, .ref je, .ref ju, .ref ja])), (jt, .inl (E.2.1 7, 8, .inr (.inr (.inr (.inr (fun _ => none))))))]) ?_ rfl rfl rfl
    refine ww_if_eq_f (tgt := 26) C dX11_isTold_7 (by decide) (by decide) ?_
    refine ww_aload_n C dX11_isTold_10 0 rfl rfl ?_
    refine ww_get C fg_X11_34 0 rfl rfl dX11_isTold_11 ?_
    refine ww_get C fg_X11_80 1 rfl rfl dX11_isTold_14 ?_
    refine ww_iload_n C dX11_isTold_17 1 rfl rfl ?_
    refine ww_ald (v := none) (t0 := 7) C 2 rfl rfl (vp_in_iff.mpr ⟨by omega, by omega⟩) rfl dX11_isTold_18 ?_
    refine ww_eq (st' := [.null]) ?_ rfl rfl rfl
    refine ww_ifnullN (tgt := 26) C dX11_isTold_19 (by decide) ?_
    refine ww_iconst (v := 0) C dX11_isTold_26 rfl ?_
    exact ww_zret (u := [(hx, .inr (11, [.ref qn, .ref qp, .int 0, .int 0, .ref qs, .ref qj, .ref ql, .ref qh, .ref qk, .int 0, .ref qr, .ref qg, .int 0, .int 0, .ref qsh])), (qj, .inr (2, [.ref jt, .ref je, .ref ju, .ref ja])), (jt, .inl (E.2.1 7, 8, .inr (.inr (.inr (.inr (fun _ => none))))))]) C hT [0, 1, 2] rfl rfl rfl rfl rfl dX11_isTold_27 (⟨rfl, rfl⟩)
  · refine ww_eq (ws' := [(hx, .inr (11, [.ref qn, .ref qp, .int 0, .int 0, .ref qs, .ref qj, .ref ql, .ref qh, .ref qk, .int 0, .ref qr, .ref qg, .int 0, .int 0, .ref qsh])), (qj, .inr (2, [.ref jt, .ref je, .ref ju, .ref ja])), (jt, .inl (E.2.1 7, 8, .inr (.inr (.inr (.inr (fun _ => none))))))]) ?_ rfl rfl rfl
    refine ww_if_eq_t (tgt := 26) C dX11_isTold_7 (by decide) (rfl) ?_
    refine ww_iconst (v := 0) C dX11_isTold_26 rfl ?_
    exact ww_zret (u := [(hx, .inr (11, [.ref qn, .ref qp, .int 0, .int 0, .ref qs, .ref qj, .ref ql, .ref qh, .ref qk, .int 0, .ref qr, .ref qg, .int 0, .int 0, .ref qsh])), (qj, .inr (2, [.ref jt, .ref je, .ref ju, .ref ja])), (jt, .inl (E.2.1 7, 8, .inr (.inr (.inr (.inr (fun _ => none))))))]) C hT [0, 1, 2] rfl rfl rfl rfl rfl dX11_isTold_27 (⟨rfl, rfl⟩)
theorem dX11_saying_0 : decode cX11_saying 0 = .ok (.aload_n 0, 1) := by decide +kernel
theorem dX11_saying_1 : decode cX11_saying 1 = .ok (.iload_n 1, 1) := by decide +kernel
theorem dX11_saying_2 : decode cX11_saying 2 = .ok (.invokevirtual 98, 3) := by decide +kernel
theorem wl_X11_98 : Cond.methodLink RX11 98 yX11_isTold ∈ TB := tbm (tq3 (List.mem_of_getElem? (i := 203) (by decide +kernel))) (by decide +kernel)
theorem wc_X11_isTold : Cond.code yX11_isTold cX11_isTold 2 (some .boolean) ∈ TB := tbm (tq3 (List.mem_of_getElem? (i := 206) (rfl))) (by decide +kernel)
theorem wi_X11_isTold : Cond.instanceMethod yX11_isTold ∈ TB := tbm (tq3 (List.mem_of_getElem? (i := 205) (by decide +kernel))) (by decide +kernel)
theorem ws_X11_isTold : Cond.selects RX11 yX11_isTold yX11_isTold ∈ TB := tbm (tq0 (List.mem_of_getElem? (i := 16) (by decide +kernel))) (by decide +kernel)
theorem mi_X11_isTold : MI yX11_isTold cX11_isTold 2 (some .boolean) 1 := ⟨wc_X11_isTold, wn_X11, ⟨by decide +kernel, by decide +kernel, by decide +kernel⟩, wi_X11_isTold, ws_X11_isTold⟩
theorem dX11_saying_5 : decode cX11_saying 5 = .ok (.ifCond .ne 5, 3) := by decide +kernel
theorem dX11_saying_8 : decode cX11_saying 8 = .ok (.iconst (-1), 1) := by decide +kernel
theorem dX11_saying_9 : decode cX11_saying 9 = .ok (.ireturn, 1) := by decide +kernel
set_option maxRecDepth 100000 in
set_option maxHeartbeats 4000000 in
theorem x_saying (l : Launch) (E : EV) (hx : Nat) (p0 : Int32) (p1 : Int32) (qn : Nat) (qp : Nat) (qs : Nat) (qj : Nat) (ql : Nat) (qh : Nat) (qk : Nat) (qr : Nat) (qg : Nat) (qsh : Nat) (jt : Nat) (je : Nat) (ju : Nat) (ja : Nat)  : CT l yX11_saying (Cond.code yX11_saying cX11_saying 3 (some .int) :: TB) ({ frames := 2, cells := 0, slots := 0, locals := 43 }) E [.ref hx, .int p0, .int p1] [(hx, .inr (11, [.ref qn, .ref qp, .int 0, .int 0, .ref qs, .ref qj, .ref ql, .ref qh, .ref qk, .int 0, .ref qr, .ref qg, .int 0, .int 0, .ref qsh])), (qj, .inr (2, [.ref jt, .ref je, .ref ju, .ref ja])), (jt, .inl (E.2.1 7, 8, .inr (.inr (.inr (.inr (fun _ => none))))))] (Qi E (fun (r : Int32) u => (r = (-1) ∧ u = []))) 0 0 := by
  refine ct_of rfl rfl ?_
  intro X C hT hin
  show WW X 3 E 0 [(0, .ref hx), (1, .int p0), (2, .int p1)] [] [(hx, .inr (11, [.ref qn, .ref qp, .int 0, .int 0, .ref qs, .ref qj, .ref ql, .ref qh, .ref qk, .int 0, .ref qr, .ref qg, .int 0, .int 0, .ref qsh])), (qj, .inr (2, [.ref jt, .ref je, .ref ju, .ref ja])), (jt, .inl (E.2.1 7, 8, .inr (.inr (.inr (.inr (fun _ => none))))))] 0 0
  refine ww_aload_n C dX11_saying_0 0 rfl rfl ?_
  refine ww_iload_n C dX11_saying_1 1 rfl rfl ?_
  refine ww_ci (wr := []) (k' := 0) (n' := 0) C (run_V (As := [.int p0]) (rest := []) C (c_isTold X.2.1 E hx p0 qn qp qs qj ql qh qk qr qg qsh jt je ju ja) mi_X11_isTold wl_X11_98 rfl 0 11 rfl rfl rfl rfl rfl dX11_saying_2) [0, 1, 2] [] rfl rfl rfl rfl (fun r u hw => ?_)
  obtain ⟨rfl, rfl⟩ := hw
  refine ww_eq (ws' := [(hx, .inr (11, [.ref qn, .ref qp, .int 0, .int 0, .ref qs, .ref qj, .ref ql, .ref qh, .ref qk, .int 0, .ref qr, .ref qg, .int 0, .int 0, .ref qsh])), (qj, .inr (2, [.ref jt, .ref je, .ref ju, .ref ja])), (jt, .inl (E.2.1 7, 8, .inr (.inr (.inr (.inr (fun _ => none))))))]) ?_ rfl rfl rfl
  refine ww_if_ne_f (tgt := 10) C dX11_saying_5 (by decide) (rfl) ?_
  refine ww_iconst (v := (-1)) C dX11_saying_8 rfl ?_
  exact ww_iret (u := []) C hT [] rfl rfl rfl rfl dX11_saying_9 (⟨rfl, rfl⟩)
theorem dX11_truth_0 : decode cX11_truth 0 = .ok (.aload_n 0, 1) := by decide +kernel
theorem dX11_truth_1 : decode cX11_truth 1 = .ok (.iload_n 1, 1) := by decide +kernel
theorem dX11_truth_2 : decode cX11_truth 2 = .ok (.invokevirtual 98, 3) := by decide +kernel
theorem dX11_truth_5 : decode cX11_truth 5 = .ok (.ifCond .eq 26, 3) := by decide +kernel
theorem dX11_truth_31 : decode cX11_truth 31 = .ok (.iconst (-1), 1) := by decide +kernel
theorem dX11_truth_32 : decode cX11_truth 32 = .ok (.ireturn, 1) := by decide +kernel
set_option maxRecDepth 100000 in
set_option maxHeartbeats 4000000 in
theorem x_truth (l : Launch) (E : EV) (hx : Nat) (p0 : Int32) (qn : Nat) (qp : Nat) (qs : Nat) (qj : Nat) (ql : Nat) (qh : Nat) (qk : Nat) (qr : Nat) (qg : Nat) (qsh : Nat) (jt : Nat) (je : Nat) (ju : Nat) (ja : Nat)  : CT l yX11_truth (Cond.code yX11_truth cX11_truth 2 (some .int) :: TB) ({ frames := 2, cells := 0, slots := 0, locals := 43 }) E [.ref hx, .int p0] [(hx, .inr (11, [.ref qn, .ref qp, .int 0, .int 0, .ref qs, .ref qj, .ref ql, .ref qh, .ref qk, .int 0, .ref qr, .ref qg, .int 0, .int 0, .ref qsh])), (qj, .inr (2, [.ref jt, .ref je, .ref ju, .ref ja])), (jt, .inl (E.2.1 7, 8, .inr (.inr (.inr (.inr (fun _ => none))))))] (Qi E (fun (r : Int32) u => (r = (-1) ∧ u = []))) 0 0 := by
  refine ct_of rfl rfl ?_
  intro X C hT hin
  show WW X 2 E 0 [(0, .ref hx), (1, .int p0)] [] [(hx, .inr (11, [.ref qn, .ref qp, .int 0, .int 0, .ref qs, .ref qj, .ref ql, .ref qh, .ref qk, .int 0, .ref qr, .ref qg, .int 0, .int 0, .ref qsh])), (qj, .inr (2, [.ref jt, .ref je, .ref ju, .ref ja])), (jt, .inl (E.2.1 7, 8, .inr (.inr (.inr (.inr (fun _ => none))))))] 0 0
  refine ww_aload_n C dX11_truth_0 0 rfl rfl ?_
  refine ww_iload_n C dX11_truth_1 1 rfl rfl ?_
  refine ww_ci (wr := []) (k' := 0) (n' := 0) C (run_V (As := [.int p0]) (rest := []) C (c_isTold X.2.1 E hx p0 qn qp qs qj ql qh qk qr qg qsh jt je ju ja) mi_X11_isTold wl_X11_98 rfl 0 11 rfl rfl rfl rfl rfl dX11_truth_2) [0, 1, 2] [] rfl rfl rfl rfl (fun r u hw => ?_)
  obtain ⟨rfl, rfl⟩ := hw
  refine ww_eq (ws' := [(hx, .inr (11, [.ref qn, .ref qp, .int 0, .int 0, .ref qs, .ref qj, .ref ql, .ref qh, .ref qk, .int 0, .ref qr, .ref qg, .int 0, .int 0, .ref qsh])), (qj, .inr (2, [.ref jt, .ref je, .ref ju, .ref ja])), (jt, .inl (E.2.1 7, 8, .inr (.inr (.inr (.inr (fun _ => none))))))]) ?_ rfl rfl rfl
  refine ww_if_eq_t (tgt := 31) C dX11_truth_5 (by decide) (rfl) ?_
  refine ww_iconst (v := (-1)) C dX11_truth_31 rfl ?_
  exact ww_iret (u := []) C hT [] rfl rfl rfl rfl dX11_truth_32 (⟨rfl, rfl⟩)
theorem dX11_holds_0 : decode cX11_holds 0 = .ok (.aload_n 0, 1) := by decide +kernel
theorem dX11_holds_1 : decode cX11_holds 1 = .ok (.iload_n 1, 1) := by decide +kernel
theorem dX11_holds_2 : decode cX11_holds 2 = .ok (.invokevirtual 98, 3) := by decide +kernel
theorem dX11_holds_5 : decode cX11_holds 5 = .ok (.ifCond .ne 5, 3) := by decide +kernel
theorem dX11_holds_8 : decode cX11_holds 8 = .ok (.iconst (-1), 1) := by decide +kernel
theorem dX11_holds_9 : decode cX11_holds 9 = .ok (.ireturn, 1) := by decide +kernel
set_option maxRecDepth 100000 in
set_option maxHeartbeats 4000000 in
theorem x_holds (l : Launch) (E : EV) (hx : Nat) (p0 : Int32) (qn : Nat) (qp : Nat) (qs : Nat) (qj : Nat) (ql : Nat) (qh : Nat) (qk : Nat) (qr : Nat) (qg : Nat) (qsh : Nat) (jt : Nat) (je : Nat) (ju : Nat) (ja : Nat)  : CT l yX11_holds (Cond.code yX11_holds cX11_holds 2 (some .int) :: TB) ({ frames := 2, cells := 0, slots := 0, locals := 43 }) E [.ref hx, .int p0] [(hx, .inr (11, [.ref qn, .ref qp, .int 0, .int 0, .ref qs, .ref qj, .ref ql, .ref qh, .ref qk, .int 0, .ref qr, .ref qg, .int 0, .int 0, .ref qsh])), (qj, .inr (2, [.ref jt, .ref je, .ref ju, .ref ja])), (jt, .inl (E.2.1 7, 8, .inr (.inr (.inr (.inr (fun _ => none))))))] (Qi E (fun (r : Int32) u => (r = (-1) ∧ u = []))) 0 0 := by
  refine ct_of rfl rfl ?_
  intro X C hT hin
  show WW X 2 E 0 [(0, .ref hx), (1, .int p0)] [] [(hx, .inr (11, [.ref qn, .ref qp, .int 0, .int 0, .ref qs, .ref qj, .ref ql, .ref qh, .ref qk, .int 0, .ref qr, .ref qg, .int 0, .int 0, .ref qsh])), (qj, .inr (2, [.ref jt, .ref je, .ref ju, .ref ja])), (jt, .inl (E.2.1 7, 8, .inr (.inr (.inr (.inr (fun _ => none))))))] 0 0
  refine ww_aload_n C dX11_holds_0 0 rfl rfl ?_
  refine ww_iload_n C dX11_holds_1 1 rfl rfl ?_
  refine ww_ci (wr := []) (k' := 0) (n' := 0) C (run_V (As := [.int p0]) (rest := []) C (c_isTold X.2.1 E hx p0 qn qp qs qj ql qh qk qr qg qsh jt je ju ja) mi_X11_isTold wl_X11_98 rfl 0 11 rfl rfl rfl rfl rfl dX11_holds_2) [0, 1, 2] [] rfl rfl rfl rfl (fun r u hw => ?_)
  obtain ⟨rfl, rfl⟩ := hw
  refine ww_eq (ws' := [(hx, .inr (11, [.ref qn, .ref qp, .int 0, .int 0, .ref qs, .ref qj, .ref ql, .ref qh, .ref qk, .int 0, .ref qr, .ref qg, .int 0, .int 0, .ref qsh])), (qj, .inr (2, [.ref jt, .ref je, .ref ju, .ref ja])), (jt, .inl (E.2.1 7, 8, .inr (.inr (.inr (.inr (fun _ => none))))))]) ?_ rfl rfl rfl
  refine ww_if_ne_f (tgt := 10) C dX11_holds_5 (by decide) (rfl) ?_
  refine ww_iconst (v := (-1)) C dX11_holds_8 rfl ?_
  exact ww_iret (u := []) C hT [] rfl rfl rfl rfl dX11_holds_9 (⟨rfl, rfl⟩)
