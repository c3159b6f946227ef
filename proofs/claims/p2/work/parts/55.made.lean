theorem dX8_init_0 : decode cX8_init 0 = .ok (.aload_n 0, 1) := by decide +kernel
theorem dX8_init_1 : decode cX8_init 1 = .ok (.invokespecial 3, 3) := by decide +kernel
theorem wl_X8_3 : Cond.methodLink RX8 3 objectInit ∈ TB := tbm (tq3 (List.mem_of_getElem? (i := 153) (by decide +kernel))) (by decide +kernel)
theorem wi_obj : Cond.instanceMethod objectInit ∈ TB := tbm (tq1 (List.mem_of_getElem? (i := 27) (by decide +kernel))) (by decide +kernel)
theorem wc_obj : Cond.code objectInit ⟨#[0xb1]⟩ 1 none ∈ TB := tbm (tq1 (List.mem_of_getElem? (i := 28) (by decide +kernel))) (by decide +kernel)
theorem dX8_init_4 : decode cX8_init 4 = .ok (.aload_n 0, 1) := by decide +kernel
theorem dX8_init_5 : decode cX8_init 5 = .ok (.iload_n 1, 1) := by decide +kernel
theorem dX8_init_6 : decode cX8_init 6 = .ok (.newarray .int, 2) := by decide +kernel
theorem wa_int : Cond.arrayClass .int ∈ TB := tbm (tq1 (List.mem_of_getElem? (i := 61) (by decide +kernel))) (by decide +kernel)
theorem dX8_init_8 : decode cX8_init 8 = .ok (.putfield 9, 3) := by decide +kernel
theorem wf_X8_9 : Cond.fieldLink RX8 9 RX8 "ops" "[I" ∈ TB := tbm (tq3 (List.mem_of_getElem? (i := 154) (by decide +kernel))) (by decide +kernel)
theorem fp_X8_9 : FP RX8 9 8 0 (.array .int) true := ⟨RX8, TX8, 7, tyX8, uw_X8, wf_X8_9, rfl, by decide, rfl, tyX8_ok, nmX8, rfl, by decide +kernel⟩
theorem dX8_init_11 : decode cX8_init 11 = .ok (.aload_n 0, 1) := by decide +kernel
theorem dX8_init_12 : decode cX8_init 12 = .ok (.iload_n 1, 1) := by decide +kernel
theorem dX8_init_13 : decode cX8_init 13 = .ok (.newarray .int, 2) := by decide +kernel
theorem dX8_init_15 : decode cX8_init 15 = .ok (.putfield 15, 3) := by decide +kernel
theorem wf_X8_15 : Cond.fieldLink RX8 15 RX8 "args" "[I" ∈ TB := tbm (tq3 (List.mem_of_getElem? (i := 157) (by decide +kernel))) (by decide +kernel)
theorem fp_X8_15 : FP RX8 15 8 1 (.array .int) true := ⟨RX8, TX8, 7, tyX8, uw_X8, wf_X8_15, rfl, by decide, rfl, tyX8_ok, nmX8, rfl, by decide +kernel⟩
theorem dX8_init_18 : decode cX8_init 18 = .ok (.aload_n 0, 1) := by decide +kernel
theorem dX8_init_19 : decode cX8_init 19 = .ok (.iload_n 2, 1) := by decide +kernel
theorem dX8_init_20 : decode cX8_init 20 = .ok (.putfield 18, 3) := by decide +kernel
theorem wf_X8_18 : Cond.fieldLink RX8 18 RX8 "tokens" "I" ∈ TB := tbm (tq3 (List.mem_of_getElem? (i := 160) (by decide +kernel))) (by decide +kernel)
theorem fp_X8_18 : FP RX8 18 8 2 .int true := ⟨RX8, TX8, 7, tyX8, uw_X8, wf_X8_18, rfl, by decide, rfl, tyX8_ok, nmX8, rfl, by decide +kernel⟩
theorem dX8_init_23 : decode cX8_init 23 = .ok (.aload_n 0, 1) := by decide +kernel
theorem dX8_init_24 : decode cX8_init 24 = .ok (.iload_n 3, 1) := by decide +kernel
theorem dX8_init_25 : decode cX8_init 25 = .ok (.putfield 22, 3) := by decide +kernel
theorem wf_X8_22 : Cond.fieldLink RX8 22 RX8 "afters" "I" ∈ TB := tbm (tq3 (List.mem_of_getElem? (i := 162) (by decide +kernel))) (by decide +kernel)
theorem fp_X8_22 : FP RX8 22 8 3 .int true := ⟨RX8, TX8, 7, tyX8, uw_X8, wf_X8_22, rfl, by decide, rfl, tyX8_ok, nmX8, rfl, by decide +kernel⟩
theorem dX8_init_28 : decode cX8_init 28 = .ok (.aload_n 0, 1) := by decide +kernel
theorem dX8_init_29 : decode cX8_init 29 = .ok (.iconst 2, 1) := by decide +kernel
theorem dX8_init_30 : decode cX8_init 30 = .ok (.newarray .int, 2) := by decide +kernel
theorem dX8_init_32 : decode cX8_init 32 = .ok (.putfield 25, 3) := by decide +kernel
theorem wf_X8_25 : Cond.fieldLink RX8 25 RX8 "after" "[I" ∈ TB := tbm (tq3 (List.mem_of_getElem? (i := 165) (by decide +kernel))) (by decide +kernel)
theorem fp_X8_25 : FP RX8 25 8 4 (.array .int) true := ⟨RX8, TX8, 7, tyX8, uw_X8, wf_X8_25, rfl, by decide, rfl, tyX8_ok, nmX8, rfl, by decide +kernel⟩
theorem dX8_init_35 : decode cX8_init 35 = .ok (.return_, 1) := by decide +kernel
set_option maxRecDepth 100000 in
set_option maxHeartbeats 4000000 in
theorem k_Saying (l : Launch) (E : EV) (ro : va_W) (sg : Nat) (nn : Nat) (tk : Int32) (na : Nat) (hnn : nn ≤ 32) : CT l yX8_init (Cond.code yX8_init cX8_init 4 none :: TB) ({ frames := 1, cells := 3, slots := 66, locals := 12 }) E ro [.ref sg, .int (nI nn), .int tk, .int (nI na)] [(sg, .inr (8, [.null, .null, .int 0, .int 0, .null, .int 0, .int 0]))] (Qv E (fun uz => (∃ (sx : Nat) (sy : Nat) (sz : Nat), uz = [(sg, .inr (8, [.ref sx, .ref sy, .int tk, .int (nI na), .ref sz, .int 0, .int 0])), (sx, .inl (E.2.1 1, nn, .inl (fun _ => 0))), (sy, .inl (E.2.1 1, nn, .inl (fun _ => 0))), (sz, .inl (E.2.1 1, 2, .inl (fun _ => 0)))]))) 3 66 := by
  refine ct_of rfl rfl ?_
  intro X C hT hin hro
  show WW X 4 E 0 [(0, .ref sg), (1, .int (nI nn)), (2, .int tk), (3, .int (nI na))] [] [(sg, .inr (8, [.null, .null, .int 0, .int 0, .null, .int 0, .int 0]))] 0 0
  refine ww_aload_n C dX8_init_0 0 rfl rfl ?_
  refine ww_objInit C wl_X8_3 wi_obj wc_obj rfl dX8_init_1 ?_
  refine ww_aload_n C dX8_init_4 0 rfl rfl ?_
  refine ww_iload_n C dX8_init_5 1 rfl rfl ?_
  refine ww_newi (N := nn) (k' := 1) (n' := 32) C wa_int (nI_nn (by omega)) (nI_clamp (by omega)) (ble4 (by omega)) (cnN_le (s := 32) (by omega) rfl) dX8_init_6 (fun q_1 => ?_)
  refine ww_eq (ws' := [(sg, .inr (8, [.null, .null, .int 0, .int 0, .null, .int 0, .int 0])), (q_1, .inl (E.2.1 1, nn, .inl (fun _ => 0)))]) ?_ rfl rfl rfl
  refine ww_putF (ws' := [(sg, .inr (8, [.ref q_1, .null, .int 0, .int 0, .null, .int 0, .int 0])), (q_1, .inl (E.2.1 1, nn, .inl (fun _ => 0)))]) C fp_X8_9 hin ⟨_, _, rfl⟩ 0 rfl rfl rfl rfl rfl dX8_init_8 ?_
  refine ww_aload_n C dX8_init_11 0 rfl rfl ?_
  refine ww_iload_n C dX8_init_12 1 rfl rfl ?_
  refine ww_newi (N := nn) (k' := 2) (n' := 64) C wa_int (nI_nn (by omega)) (nI_clamp (by omega)) (ble4 (by omega)) (cnN_le (s := 32) (by omega) rfl) dX8_init_13 (fun q_2 => ?_)
  refine ww_eq (ws' := [(sg, .inr (8, [.ref q_1, .null, .int 0, .int 0, .null, .int 0, .int 0])), (q_1, .inl (E.2.1 1, nn, .inl (fun _ => 0))), (q_2, .inl (E.2.1 1, nn, .inl (fun _ => 0)))]) ?_ rfl rfl rfl
  refine ww_putF (ws' := [(sg, .inr (8, [.ref q_1, .ref q_2, .int 0, .int 0, .null, .int 0, .int 0])), (q_1, .inl (E.2.1 1, nn, .inl (fun _ => 0))), (q_2, .inl (E.2.1 1, nn, .inl (fun _ => 0)))]) C fp_X8_15 hin ⟨_, _, rfl⟩ 0 rfl rfl rfl rfl rfl dX8_init_15 ?_
  refine ww_aload_n C dX8_init_18 0 rfl rfl ?_
  refine ww_iload_n C dX8_init_19 2 rfl rfl ?_
  refine ww_putF (ws' := [(sg, .inr (8, [.ref q_1, .ref q_2, .int tk, .int 0, .null, .int 0, .int 0])), (q_1, .inl (E.2.1 1, nn, .inl (fun _ => 0))), (q_2, .inl (E.2.1 1, nn, .inl (fun _ => 0)))]) C fp_X8_18 hin ⟨_, _, rfl⟩ 0 rfl rfl rfl rfl rfl dX8_init_20 ?_
  refine ww_aload_n C dX8_init_23 0 rfl rfl ?_
  refine ww_iload_n C dX8_init_24 3 rfl rfl ?_
  refine ww_putF (ws' := [(sg, .inr (8, [.ref q_1, .ref q_2, .int tk, .int (nI na), .null, .int 0, .int 0])), (q_1, .inl (E.2.1 1, nn, .inl (fun _ => 0))), (q_2, .inl (E.2.1 1, nn, .inl (fun _ => 0)))]) C fp_X8_22 hin ⟨_, _, rfl⟩ 0 rfl rfl rfl rfl rfl dX8_init_25 ?_
  refine ww_aload_n C dX8_init_28 0 rfl rfl ?_
  refine ww_iconst (v := 2) C dX8_init_29 rfl ?_
  refine ww_newi (N := 2) (k' := 3) (n' := 66) C wa_int (by decide) rfl rfl rfl dX8_init_30 (fun q_3 => ?_)
  refine ww_eq (ws' := [(sg, .inr (8, [.ref q_1, .ref q_2, .int tk, .int (nI na), .null, .int 0, .int 0])), (q_1, .inl (E.2.1 1, nn, .inl (fun _ => 0))), (q_2, .inl (E.2.1 1, nn, .inl (fun _ => 0))), (q_3, .inl (E.2.1 1, 2, .inl (fun _ => 0)))]) ?_ rfl rfl rfl
  refine ww_putF (ws' := [(sg, .inr (8, [.ref q_1, .ref q_2, .int tk, .int (nI na), .ref q_3, .int 0, .int 0])), (q_1, .inl (E.2.1 1, nn, .inl (fun _ => 0))), (q_2, .inl (E.2.1 1, nn, .inl (fun _ => 0))), (q_3, .inl (E.2.1 1, 2, .inl (fun _ => 0)))]) C fp_X8_25 hin ⟨_, _, rfl⟩ 0 rfl rfl rfl rfl rfl dX8_init_32 ?_
  exact ww_vret (u := [(sg, .inr (8, [.ref q_1, .ref q_2, .int tk, .int (nI na), .ref q_3, .int 0, .int 0])), (q_1, .inl (E.2.1 1, nn, .inl (fun _ => 0))), (q_2, .inl (E.2.1 1, nn, .inl (fun _ => 0))), (q_3, .inl (E.2.1 1, 2, .inl (fun _ => 0)))]) C hT [0, 1, 2, 3] rfl rfl rfl rfl dX8_init_35 (⟨q_1, q_2, q_3, rfl⟩)
theorem dX5_deepest_0 : decode cX5_deepest 0 = .ok (.iconst 0, 1) := by decide +kernel
theorem dX5_deepest_1 : decode cX5_deepest 1 = .ok (.istore_n 1, 1) := by decide +kernel
theorem dX5_deepest_2 : decode cX5_deepest 2 = .ok (.aload_n 0, 1) := by decide +kernel
theorem dX5_deepest_3 : decode cX5_deepest 3 = .ok (.getfield 31, 3) := by decide +kernel
theorem fg_X5_31 : FG RX5 31 5 5 := ⟨RX5, TX5, 10, uw_X5, wf_X5_31, rfl, by decide, rfl⟩
theorem dX5_deepest_6 : decode cX5_deepest 6 = .ok (.iconst 1, 1) := by decide +kernel
theorem dX5_deepest_7 : decode cX5_deepest 7 = .ok (.isub, 1) := by decide +kernel
theorem dX5_deepest_8 : decode cX5_deepest 8 = .ok (.istore_n 2, 1) := by decide +kernel
theorem dX5_deepest_9 : decode cX5_deepest 9 = .ok (.iload_n 2, 1) := by decide +kernel
theorem dX5_deepest_10 : decode cX5_deepest 10 = .ok (.ifCond .lt 88, 3) := by decide +kernel
theorem dX5_deepest_98 : decode cX5_deepest 98 = .ok (.aload_n 0, 1) := by decide +kernel
theorem dX5_deepest_99 : decode cX5_deepest 99 = .ok (.getfield 28, 3) := by decide +kernel
theorem wf_X5_28 : Cond.fieldLink RX5 28 RX5 "depths" "[I" ∈ TB := tbm (tq1 (List.mem_of_getElem? (i := 103) (by decide +kernel))) (by decide +kernel)
theorem fg_X5_28 : FG RX5 28 5 4 := ⟨RX5, TX5, 10, uw_X5, wf_X5_28, rfl, by decide, rfl⟩
theorem dX5_deepest_102 : decode cX5_deepest 102 = .ok (.iconst 0, 1) := by decide +kernel
theorem dX5_deepest_103 : decode cX5_deepest 103 = .ok (.iaload, 1) := by decide +kernel
theorem dX5_deepest_104 : decode cX5_deepest 104 = .ok (.ireturn, 1) := by decide +kernel
theorem dX5_deepest_13 : decode cX5_deepest 13 = .ok (.aload_n 0, 1) := by decide +kernel
theorem dX5_deepest_14 : decode cX5_deepest 14 = .ok (.getfield 18, 3) := by decide +kernel
theorem dX5_deepest_17 : decode cX5_deepest 17 = .ok (.iload_n 2, 1) := by decide +kernel
theorem dX5_deepest_18 : decode cX5_deepest 18 = .ok (.iaload, 1) := by decide +kernel
theorem dX5_deepest_19 : decode cX5_deepest 19 = .ok (.invokestatic 104, 3) := by decide +kernel
theorem dX5_deepest_22 : decode cX5_deepest 22 = .ok (.istore_n 3, 1) := by decide +kernel
theorem dX5_deepest_23 : decode cX5_deepest 23 = .ok (.iload_n 1, 1) := by decide +kernel
theorem dX5_deepest_24 : decode cX5_deepest 24 = .ok (.iconst 1, 1) := by decide +kernel
theorem dX5_deepest_25 : decode cX5_deepest 25 = .ok (.iload_n 3, 1) := by decide +kernel
theorem dX5_deepest_26 : decode cX5_deepest 26 = .ok (.isub, 1) := by decide +kernel
theorem dX5_deepest_27 : decode cX5_deepest 27 = .ok (.iadd, 1) := by decide +kernel
theorem dX5_deepest_28 : decode cX5_deepest 28 = .ok (.istore_n 1, 1) := by decide +kernel
theorem dX5_deepest_29 : decode cX5_deepest 29 = .ok (.iload_n 3, 1) := by decide +kernel
theorem dX5_deepest_30 : decode cX5_deepest 30 = .ok (.ifCond .le 14, 3) := by decide +kernel
theorem dX5_deepest_44 : decode cX5_deepest 44 = .ok (.iconst 0, 1) := by decide +kernel
theorem dX5_deepest_45 : decode cX5_deepest 45 = .ok (.istore 4, 2) := by decide +kernel
theorem dX5_deepest_47 : decode cX5_deepest 47 = .ok (.iload_n 3, 1) := by decide +kernel
theorem dX5_deepest_48 : decode cX5_deepest 48 = .ok (.iconst 2, 1) := by decide +kernel
theorem dX5_deepest_49 : decode cX5_deepest 49 = .ok (.if_icmp .ne 16, 3) := by decide +kernel
theorem dX5_deepest_65 : decode cX5_deepest 65 = .ok (.aload_n 0, 1) := by decide +kernel
theorem dX5_deepest_66 : decode cX5_deepest 66 = .ok (.getfield 28, 3) := by decide +kernel
theorem dX5_deepest_69 : decode cX5_deepest 69 = .ok (.iload_n 1, 1) := by decide +kernel
theorem dX5_deepest_70 : decode cX5_deepest 70 = .ok (.iconst 1, 1) := by decide +kernel
theorem dX5_deepest_71 : decode cX5_deepest 71 = .ok (.isub, 1) := by decide +kernel
theorem dX5_deepest_72 : decode cX5_deepest 72 = .ok (.aload_n 0, 1) := by decide +kernel
theorem dX5_deepest_73 : decode cX5_deepest 73 = .ok (.getfield 18, 3) := by decide +kernel
theorem dX5_deepest_76 : decode cX5_deepest 76 = .ok (.iload_n 2, 1) := by decide +kernel
theorem dX5_deepest_77 : decode cX5_deepest 77 = .ok (.iaload, 1) := by decide +kernel
theorem dX5_deepest_78 : decode cX5_deepest 78 = .ok (.iconst 5, 1) := by decide +kernel
theorem dX5_deepest_79 : decode cX5_deepest 79 = .ok (.if_icmp .lt 10, 3) := by decide +kernel
theorem dX5_deepest_89 : decode cX5_deepest 89 = .ok (.iload 4, 2) := by decide +kernel
theorem dX5_deepest_91 : decode cX5_deepest 91 = .ok (.iastore, 1) := by decide +kernel
theorem dX5_deepest_92 : decode cX5_deepest 92 = .ok (.iinc 2 (-1), 3) := by decide +kernel
theorem dX5_deepest_95 : decode cX5_deepest 95 = .ok (.goto (-86), 3) := by decide +kernel
theorem dX5_deepest_82 : decode cX5_deepest 82 = .ok (.iload 4, 2) := by decide +kernel
theorem dX5_deepest_84 : decode cX5_deepest 84 = .ok (.iconst 1, 1) := by decide +kernel
theorem dX5_deepest_85 : decode cX5_deepest 85 = .ok (.iadd, 1) := by decide +kernel
theorem dX5_deepest_86 : decode cX5_deepest 86 = .ok (.goto 5, 3) := by decide +kernel
theorem dX5_deepest_33 : decode cX5_deepest 33 = .ok (.aload_n 0, 1) := by decide +kernel
theorem dX5_deepest_34 : decode cX5_deepest 34 = .ok (.getfield 28, 3) := by decide +kernel
theorem dX5_deepest_37 : decode cX5_deepest 37 = .ok (.iload_n 1, 1) := by decide +kernel
theorem dX5_deepest_38 : decode cX5_deepest 38 = .ok (.iconst 1, 1) := by decide +kernel
theorem dX5_deepest_39 : decode cX5_deepest 39 = .ok (.isub, 1) := by decide +kernel
theorem dX5_deepest_40 : decode cX5_deepest 40 = .ok (.iaload, 1) := by decide +kernel
theorem dX5_deepest_41 : decode cX5_deepest 41 = .ok (.goto 4, 3) := by decide +kernel
theorem dX5_deepest_52 : decode cX5_deepest 52 = .ok (.iload 4, 2) := by decide +kernel
theorem dX5_deepest_54 : decode cX5_deepest 54 = .ok (.aload_n 0, 1) := by decide +kernel
theorem dX5_deepest_55 : decode cX5_deepest 55 = .ok (.getfield 28, 3) := by decide +kernel
theorem dX5_deepest_58 : decode cX5_deepest 58 = .ok (.iload_n 1, 1) := by decide +kernel
theorem dX5_deepest_59 : decode cX5_deepest 59 = .ok (.iaload, 1) := by decide +kernel
theorem dX5_deepest_60 : decode cX5_deepest 60 = .ok (.invokestatic 166, 3) := by decide +kernel
theorem wl_X5_166 : Cond.methodLink RX5 166 Lib.Math.max.name ∈ TB := tbm (tq3 (List.mem_of_getElem? (i := 192) (by decide +kernel))) (by decide +kernel)
theorem wt_Mmax : Cond.static Lib.Math.max.name ∈ TB := tbm (tq3 (List.mem_of_getElem? (i := 193) (by decide +kernel))) (by decide +kernel)
theorem wn_Math : Cond.initialized "java/lang/Math" ∈ TB := tbm (tq1 (List.mem_of_getElem? (i := 14) (by decide +kernel))) (by decide +kernel)
theorem wc_Mmax : Cond.code Lib.Math.max.name Lib.Math.max.code 2 (some .int) ∈ TB := tbm (tq3 (List.mem_of_getElem? (i := 194) (rfl))) (by decide +kernel)
theorem dX5_deepest_63 : decode cX5_deepest 63 = .ok (.istore 4, 2) := by decide +kernel
set_option maxRecDepth 100000 in
set_option maxHeartbeats 4000000 in
theorem q_deepest (l : Launch) (E : EV) (ro : va_W) (qs : Nat) (qt : Nat) (po : Nat) (pa : Nat) (pf : Nat) (pd : Nat) (nn : Nat) (tn : Int32) (an : Int32) (wr : Int32) (pl : Int32) (fo : Nat → Int32) (fd : Nat → Int32) (hwf : WFs nn fo) : CT l yX5_deepest (Cond.code yX5_deepest cX5_deepest 5 (some .int) :: TB) ({ frames := 1, cells := 0, slots := 0, locals := 24 }) E ro [.ref qs] [(qs, .inr (5, [.ref qt, .ref po, .ref pa, .ref pf, .ref pd, .int (nI nn), .int tn, .int an, .int wr, .int pl])), (po, .inl (E.2.1 1, 32, .inl fo)), (pd, .inl (E.2.1 1, 32, .inl fd))] (Qi E (fun (rz : Int32) uz => (∃ (fd2 : Nat → Int32), uz = [(qs, .inr (5, [.ref qt, .ref po, .ref pa, .ref pf, .ref pd, .int (nI nn), .int tn, .int an, .int wr, .int pl])), (po, .inl (E.2.1 1, 32, .inl fo)), (pd, .inl (E.2.1 1, 32, .inl fd2))]))) 0 0 := by
  refine ct_of rfl rfl ?_
  intro X C hT hin hro
  show WW X 5 E 0 [(0, .ref qs)] [] [(qs, .inr (5, [.ref qt, .ref po, .ref pa, .ref pf, .ref pd, .int (nI nn), .int tn, .int an, .int wr, .int pl])), (po, .inl (E.2.1 1, 32, .inl fo)), (pd, .inl (E.2.1 1, 32, .inl fd))] 0 0
  have hwn : 1 ≤ nn ∧ nn ≤ 32 := ⟨hwf.1, hwf.2.1⟩
  refine ww_iconst (v := 0) C dX5_deepest_0 rfl ?_
  refine ww_istore_n (lv' := [(1, .int 0), (0, .ref qs)]) C dX5_deepest_1 rfl rfl rfl ?_
  refine ww_aload_n C dX5_deepest_2 1 rfl rfl ?_
  refine ww_get C fg_X5_31 0 rfl rfl dX5_deepest_3 ?_
  refine ww_iconst (v := 1) C dX5_deepest_6 rfl ?_
  obtain ⟨x_1, ex_1⟩ : ∃ z : Int32, (nI nn) - (1 : Int32) = z := ⟨_, rfl⟩
  have zx_1 : x_1.toInt = ((nn : Nat) : Int) - 1 := by rw [← ex_1]; exact i_sub (nI_toInt (n := nn) (by omega)) rfl (by omega) (by omega)
  refine ww_isub (v := x_1) C dX5_deepest_7 ex_1 ?_
  refine ww_istore_n (lv' := [(2, .int x_1), (1, .int 0), (0, .ref qs)]) C dX5_deepest_8 rfl rfl rfl ?_
  have loop_9 : ∀ (fu : Nat) (xi : Int32) (ii : Nat) (tt : Nat) (f1 : Nat → Int32), (xi.toInt = (ii : Int) - 1) → (ii ≤ nn) → ((tt : Int) = opn fo ii) → ii < fu → WW X 5 E 9 [(2, .int xi), (1, .int (nI tt)), (0, .ref qs)] [] [(qs, .inr (5, [.ref qt, .ref po, .ref pa, .ref pf, .ref pd, .int (nI nn), .int tn, .int an, .int wr, .int pl])), (po, .inl (E.2.1 1, 32, .inl fo)), (pd, .inl (E.2.1 1, 32, .inl f1))] 0 0 := by
    intro fu
    induction fu with
    | zero => intro xi ii tt f1 hxi hii htt hmeas; exact absurd hmeas (Nat.not_lt_zero _)
    | succ fu ih_9 =>
      intro xi ii tt f1 hxi hii htt hmeas
      refine ww_iload_n C dX5_deepest_9 0 rfl rfl ?_
      refine ww_if_lt (tgt := 98) C dX5_deepest_10 (by decide) (fun c_2 => ?_) (fun c_2 => ?_)
      · have zc_2 : ((ii : Int) - 1) < 0 := i_lt hxi rfl c_2
        refine ww_aload_n C dX5_deepest_98 2 rfl rfl ?_
        refine ww_get C fg_X5_28 0 rfl rfl dX5_deepest_99 ?_
        refine ww_iconst (v := 0) C dX5_deepest_102 rfl ?_
        obtain ⟨x_3, ex_3⟩ : ∃ z : Int32, f1 0 = z := ⟨_, rfl⟩
        refine ww_iald (v := x_3) C 2 rfl (vin rfl) ex_3 dX5_deepest_103 ?_
        exact ww_iret (u := [(qs, .inr (5, [.ref qt, .ref po, .ref pa, .ref pf, .ref pd, .int (nI nn), .int tn, .int an, .int wr, .int pl])), (po, .inl (E.2.1 1, 32, .inl fo)), (pd, .inl (E.2.1 1, 32, .inl f1))]) C hT [0, 1, 2] rfl rfl rfl rfl dX5_deepest_104 (⟨f1, rfl⟩)
      · have zc_2 : ((ii : Int) - 1) ≥ 0 := i_nlt hxi rfl c_2
        obtain ⟨j_4, hj_4, rfl⟩ := i_nat (x := xi) (N := 31) (by omega) (by omega)
        have hzj_4 := nI_toInt (n := j_4) (by omega)
        refine ww_aload_n C dX5_deepest_13 2 rfl rfl ?_
        refine ww_get C fg_X5_18 0 rfl rfl dX5_deepest_14 ?_
        refine ww_iload_n C dX5_deepest_17 0 rfl rfl ?_
        obtain ⟨x_5, ex_5⟩ : ∃ z : Int32, fo j_4 = z := ⟨_, rfl⟩
        refine ww_iald (v := x_5) C 1 rfl (vp_in_nI (by omega) (by omega)) (ldn (by omega) ex_5) dX5_deepest_18 ?_
        refine ww_ci (wr := [(qs, .inr (5, [.ref qt, .ref po, .ref pa, .ref pf, .ref pd, .int (nI nn), .int tn, .int an, .int wr, .int pl])), (po, .inl (E.2.1 1, 32, .inl fo)), (pd, .inl (E.2.1 1, 32, .inl f1))]) (k' := 0) (n' := 0) C (run_SN (As := [.int x_5]) (rest := []) C (c_under X.2.1 E ro x_5) ms_X11_under (List.mem_of_getElem? (i := 14) rfl) rfl rfl rfl rfl dX5_deepest_19) (roK hro) [] [0, 1, 2] rfl rfl rfl rfl (fun r_6 uz hw => ?_)
        rcases hw with hw | hw | hw
        · refine an2 hw ?_
          clear hw
          intro he_8 he_9 hw
          have h_7 := hw
          clear hw
          have he_8 := he_8.symm
          subst he_8
          subst he_9
          refine ww_eq (ws' := [(qs, .inr (5, [.ref qt, .ref po, .ref pa, .ref pf, .ref pd, .int (nI nn), .int tn, .int an, .int wr, .int pl])), (po, .inl (E.2.1 1, 32, .inl fo)), (pd, .inl (E.2.1 1, 32, .inl f1))]) ?_ rfl rfl rfl
          have hun := uN_a0 (by assumption)
          have hoj_4 := opn_s fo j_4
          have h1j_4 := hwf.2.2.2.1 j_4 (by omega)
          have h2j_4 := opn_le hwf (i := j_4 + 1) (by omega)
          have h3j_4 := opn_le hwf (i := j_4) (by omega)
          have h4j_4 : ii = j_4 + 1 := by omega
          rw [h4j_4] at htt
          rw [ex_5, hun] at hoj_4
          refine ww_istore_n (lv' := [(3, .int 0), (2, .int (nI j_4)), (1, .int (nI tt)), (0, .ref qs)]) C dX5_deepest_22 rfl rfl rfl ?_
          refine ww_iload_n C dX5_deepest_23 2 rfl rfl ?_
          refine ww_iconst (v := 1) C dX5_deepest_24 rfl ?_
          refine ww_iload_n C dX5_deepest_25 0 rfl rfl ?_
          refine ww_isub (v := 1) C dX5_deepest_26 (by decide) ?_
          refine ww_iadd (v := (nI (tt + 1))) C dX5_deepest_27 (nI_add tt 1) ?_
          refine ww_istore_n (lv' := [(1, .int (nI (tt + 1))), (3, .int 0), (2, .int (nI j_4)), (0, .ref qs)]) C dX5_deepest_28 rfl rfl rfl ?_
          refine ww_iload_n C dX5_deepest_29 1 rfl rfl ?_
          refine ww_if_le_t (tgt := 44) C dX5_deepest_30 (by decide) (by decide) ?_
          refine ww_iconst (v := 0) C dX5_deepest_44 rfl ?_
          refine ww_istore (lv' := [(4, .int 0), (1, .int (nI (tt + 1))), (3, .int 0), (2, .int (nI j_4)), (0, .ref qs)]) C dX5_deepest_45 rfl rfl ?_
          refine ww_iload_n C dX5_deepest_47 2 rfl rfl ?_
          refine ww_iconst (v := 2) C dX5_deepest_48 rfl ?_
          refine ww_icmp_ne_t (tgt := 65) C dX5_deepest_49 (by decide) (by decide) ?_
          refine ww_aload_n C dX5_deepest_65 4 rfl rfl ?_
          refine ww_get C fg_X5_28 0 rfl rfl dX5_deepest_66 ?_
          refine ww_iload_n C dX5_deepest_69 1 rfl rfl ?_
          refine ww_iconst (v := 1) C dX5_deepest_70 rfl ?_
          refine ww_isub (v := (nI ((tt + 1) - 1))) C dX5_deepest_71 (pk_sub (a := (tt + 1)) (b := 1) (by omega)) ?_
          refine ww_aload_n C dX5_deepest_72 4 rfl rfl ?_
          refine ww_get C fg_X5_18 0 rfl rfl dX5_deepest_73 ?_
          refine ww_iload_n C dX5_deepest_76 3 rfl rfl ?_
          obtain ⟨x_16, ex_16⟩ : ∃ z : Int32, fo j_4 = z := ⟨_, rfl⟩
          refine ww_iald (v := x_16) C 1 rfl (vp_in_nI (by omega) (by omega)) (ldn (by omega) ex_16) dX5_deepest_77 ?_
          refine ww_iconst (v := 5) C dX5_deepest_78 rfl ?_
          refine ww_icmp_lt (tgt := 89) C dX5_deepest_79 (by decide) (fun c_17 => ?_) (fun c_17 => ?_)
          · have zc_17 : x_16.toInt < 5 := i_lt rfl rfl c_17
            refine ww_iload C dX5_deepest_89 0 rfl ?_
            obtain ⟨f_18, ef_18⟩ : ∃ z : Nat → Int32, upd f1 ((tt + 1) - 1) 0 = z := ⟨_, rfl⟩
            refine ww_iast (ws' := [(qs, .inr (5, [.ref qt, .ref po, .ref pa, .ref pf, .ref pd, .int (nI nn), .int tn, .int an, .int wr, .int pl])), (po, .inl (E.2.1 1, 32, .inl fo)), (pd, .inl (E.2.1 1, 32, .inl f_18))]) C 2 rfl (vp_in_nI (by omega) (by omega)) (ldn2 (by omega) ef_18) rfl dX5_deepest_91 ?_
            obtain ⟨x_19, ex_19⟩ : ∃ z : Int32, (nI j_4) + Int32.ofInt (-1) = z := ⟨_, rfl⟩
            have zx_19 : x_19.toInt = ((j_4 : Nat) : Int) - 1 := by rw [← ex_19]; exact i_dec (c := 1) (nI_toInt (n := j_4) (by omega)) rfl (by omega) (by omega)
            refine ww_iinc (j := 3) (v := x_19) (lv' := [(2, .int x_19), (4, .int 0), (1, .int (nI (tt + 1))), (3, .int 0), (0, .ref qs)]) C dX5_deepest_92 rfl ex_19 rfl rfl ?_
            refine ww_goto (tgt := 9) C dX5_deepest_95 (by decide) ?_
            exact ww_lv [0, 2, 4] rfl (ww_sub [0, 1, 2] rfl rfl (ih_9 x_19 j_4 (tt + 1) f_18 (by omega) (by omega) (by omega) (by omega)))
          · have zc_17 : x_16.toInt ≥ 5 := i_nlt rfl rfl c_17
            refine ww_iload C dX5_deepest_82 0 rfl ?_
            refine ww_iconst (v := 1) C dX5_deepest_84 rfl ?_
            refine ww_iadd (v := 1) C dX5_deepest_85 (by decide) ?_
            refine ww_goto (tgt := 91) C dX5_deepest_86 (by decide) ?_
            obtain ⟨f_20, ef_20⟩ : ∃ z : Nat → Int32, upd f1 ((tt + 1) - 1) 1 = z := ⟨_, rfl⟩
            refine ww_iast (ws' := [(qs, .inr (5, [.ref qt, .ref po, .ref pa, .ref pf, .ref pd, .int (nI nn), .int tn, .int an, .int wr, .int pl])), (po, .inl (E.2.1 1, 32, .inl fo)), (pd, .inl (E.2.1 1, 32, .inl f_20))]) C 2 rfl (vp_in_nI (by omega) (by omega)) (ldn2 (by omega) ef_20) rfl dX5_deepest_91 ?_
            obtain ⟨x_21, ex_21⟩ : ∃ z : Int32, (nI j_4) + Int32.ofInt (-1) = z := ⟨_, rfl⟩
            have zx_21 : x_21.toInt = ((j_4 : Nat) : Int) - 1 := by rw [← ex_21]; exact i_dec (c := 1) (nI_toInt (n := j_4) (by omega)) rfl (by omega) (by omega)
            refine ww_iinc (j := 3) (v := x_21) (lv' := [(2, .int x_21), (4, .int 0), (1, .int (nI (tt + 1))), (3, .int 0), (0, .ref qs)]) C dX5_deepest_92 rfl ex_21 rfl rfl ?_
            refine ww_goto (tgt := 9) C dX5_deepest_95 (by decide) ?_
            exact ww_lv [0, 2, 4] rfl (ww_sub [0, 1, 2] rfl rfl (ih_9 x_21 j_4 (tt + 1) f_20 (by omega) (by omega) (by omega) (by omega)))
        · refine an2 hw ?_
          clear hw
          intro he_11 he_12 hw
          have h_10 := hw
          clear hw
          have he_11 := he_11.symm
          subst he_11
          subst he_12
          refine ww_eq (ws' := [(qs, .inr (5, [.ref qt, .ref po, .ref pa, .ref pf, .ref pd, .int (nI nn), .int tn, .int an, .int wr, .int pl])), (po, .inl (E.2.1 1, 32, .inl fo)), (pd, .inl (E.2.1 1, 32, .inl f1))]) ?_ rfl rfl rfl
          have hun := uN_a2 (by assumption)
          have hoj_4 := opn_s fo j_4
          have h1j_4 := hwf.2.2.2.1 j_4 (by omega)
          have h2j_4 := opn_le hwf (i := j_4 + 1) (by omega)
          have h3j_4 := opn_le hwf (i := j_4) (by omega)
          have h4j_4 : ii = j_4 + 1 := by omega
          rw [h4j_4] at htt
          rw [ex_5, hun] at hoj_4
          refine ww_istore_n (lv' := [(3, .int 2), (2, .int (nI j_4)), (1, .int (nI tt)), (0, .ref qs)]) C dX5_deepest_22 rfl rfl rfl ?_
          refine ww_iload_n C dX5_deepest_23 2 rfl rfl ?_
          refine ww_iconst (v := 1) C dX5_deepest_24 rfl ?_
          refine ww_iload_n C dX5_deepest_25 0 rfl rfl ?_
          refine ww_isub (v := (-1)) C dX5_deepest_26 (by decide) ?_
          refine ww_iadd (v := (nI (tt - 1))) C dX5_deepest_27 (nI_subc (a := tt) (c := 1) (by omega) rfl) ?_
          refine ww_istore_n (lv' := [(1, .int (nI (tt - 1))), (3, .int 2), (2, .int (nI j_4)), (0, .ref qs)]) C dX5_deepest_28 rfl rfl rfl ?_
          refine ww_iload_n C dX5_deepest_29 1 rfl rfl ?_
          refine ww_if_le_f (tgt := 44) C dX5_deepest_30 (by decide) (by decide) ?_
          refine ww_aload_n C dX5_deepest_33 3 rfl rfl ?_
          refine ww_get C fg_X5_28 0 rfl rfl dX5_deepest_34 ?_
          refine ww_iload_n C dX5_deepest_37 0 rfl rfl ?_
          refine ww_iconst (v := 1) C dX5_deepest_38 rfl ?_
          refine ww_isub (v := (nI ((tt - 1) - 1))) C dX5_deepest_39 (pk_sub (a := (tt - 1)) (b := 1) (by omega)) ?_
          obtain ⟨x_22, ex_22⟩ : ∃ z : Int32, f1 ((tt - 1) - 1) = z := ⟨_, rfl⟩
          refine ww_iald (v := x_22) C 2 rfl (vp_in_nI (by omega) (by omega)) (ldn (by omega) ex_22) dX5_deepest_40 ?_
          refine ww_goto (tgt := 45) C dX5_deepest_41 (by decide) ?_
          refine ww_istore (lv' := [(4, .int x_22), (1, .int (nI (tt - 1))), (3, .int 2), (2, .int (nI j_4)), (0, .ref qs)]) C dX5_deepest_45 rfl rfl ?_
          refine ww_iload_n C dX5_deepest_47 2 rfl rfl ?_
          refine ww_iconst (v := 2) C dX5_deepest_48 rfl ?_
          refine ww_icmp_ne_f (tgt := 65) C dX5_deepest_49 (by decide) (rfl) ?_
          refine ww_iload C dX5_deepest_52 0 rfl ?_
          refine ww_aload_n C dX5_deepest_54 4 rfl rfl ?_
          refine ww_get C fg_X5_28 0 rfl rfl dX5_deepest_55 ?_
          refine ww_iload_n C dX5_deepest_58 1 rfl rfl ?_
          obtain ⟨x_23, ex_23⟩ : ∃ z : Int32, f1 (tt - 1) = z := ⟨_, rfl⟩
          refine ww_iald (v := x_23) C 2 rfl (vp_in_nI (by omega) (by omega)) (ldn (by omega) ex_23) dX5_deepest_59 ?_
          obtain ⟨x_24, ex_24⟩ : ∃ z : Int32, (if x_22 < x_23 then x_23 else x_22) = z := ⟨_, rfl⟩
          refine ww_mmax (v := x_24) C wl_X5_166 wt_Mmax wn_Math wc_Mmax rfl ex_24 dX5_deepest_60 ?_
          refine ww_istore (lv' := [(4, .int x_24), (1, .int (nI (tt - 1))), (3, .int 2), (2, .int (nI j_4)), (0, .ref qs)]) C dX5_deepest_63 rfl rfl ?_
          refine ww_aload_n C dX5_deepest_65 4 rfl rfl ?_
          refine ww_get C fg_X5_28 0 rfl rfl dX5_deepest_66 ?_
          refine ww_iload_n C dX5_deepest_69 1 rfl rfl ?_
          refine ww_iconst (v := 1) C dX5_deepest_70 rfl ?_
          refine ww_isub (v := (nI ((tt - 1) - 1))) C dX5_deepest_71 (pk_sub (a := (tt - 1)) (b := 1) (by omega)) ?_
          refine ww_aload_n C dX5_deepest_72 4 rfl rfl ?_
          refine ww_get C fg_X5_18 0 rfl rfl dX5_deepest_73 ?_
          refine ww_iload_n C dX5_deepest_76 3 rfl rfl ?_
          obtain ⟨x_25, ex_25⟩ : ∃ z : Int32, fo j_4 = z := ⟨_, rfl⟩
          refine ww_iald (v := x_25) C 1 rfl (vp_in_nI (by omega) (by omega)) (ldn (by omega) ex_25) dX5_deepest_77 ?_
          refine ww_iconst (v := 5) C dX5_deepest_78 rfl ?_
          refine ww_icmp_lt (tgt := 89) C dX5_deepest_79 (by decide) (fun c_26 => ?_) (fun c_26 => ?_)
          · have zc_26 : x_25.toInt < 5 := i_lt rfl rfl c_26
            refine ww_iload C dX5_deepest_89 0 rfl ?_
            obtain ⟨f_27, ef_27⟩ : ∃ z : Nat → Int32, upd f1 ((tt - 1) - 1) x_24 = z := ⟨_, rfl⟩
            refine ww_iast (ws' := [(qs, .inr (5, [.ref qt, .ref po, .ref pa, .ref pf, .ref pd, .int (nI nn), .int tn, .int an, .int wr, .int pl])), (po, .inl (E.2.1 1, 32, .inl fo)), (pd, .inl (E.2.1 1, 32, .inl f_27))]) C 2 rfl (vp_in_nI (by omega) (by omega)) (ldn2 (by omega) ef_27) rfl dX5_deepest_91 ?_
            obtain ⟨x_28, ex_28⟩ : ∃ z : Int32, (nI j_4) + Int32.ofInt (-1) = z := ⟨_, rfl⟩
            have zx_28 : x_28.toInt = ((j_4 : Nat) : Int) - 1 := by rw [← ex_28]; exact i_dec (c := 1) (nI_toInt (n := j_4) (by omega)) rfl (by omega) (by omega)
            refine ww_iinc (j := 3) (v := x_28) (lv' := [(2, .int x_28), (4, .int x_24), (1, .int (nI (tt - 1))), (3, .int 2), (0, .ref qs)]) C dX5_deepest_92 rfl ex_28 rfl rfl ?_
            refine ww_goto (tgt := 9) C dX5_deepest_95 (by decide) ?_
            exact ww_lv [0, 2, 4] rfl (ww_sub [0, 1, 2] rfl rfl (ih_9 x_28 j_4 (tt - 1) f_27 (by omega) (by omega) (by omega) (by omega)))
          · have zc_26 : x_25.toInt ≥ 5 := i_nlt rfl rfl c_26
            refine ww_iload C dX5_deepest_82 0 rfl ?_
            refine ww_iconst (v := 1) C dX5_deepest_84 rfl ?_
            obtain ⟨x_29, ex_29⟩ : ∃ z : Int32, x_24 + (1 : Int32) = z := ⟨_, rfl⟩
            refine ww_iadd (v := x_29) C dX5_deepest_85 ex_29 ?_
            refine ww_goto (tgt := 91) C dX5_deepest_86 (by decide) ?_
            obtain ⟨f_30, ef_30⟩ : ∃ z : Nat → Int32, upd f1 ((tt - 1) - 1) x_29 = z := ⟨_, rfl⟩
            refine ww_iast (ws' := [(qs, .inr (5, [.ref qt, .ref po, .ref pa, .ref pf, .ref pd, .int (nI nn), .int tn, .int an, .int wr, .int pl])), (po, .inl (E.2.1 1, 32, .inl fo)), (pd, .inl (E.2.1 1, 32, .inl f_30))]) C 2 rfl (vp_in_nI (by omega) (by omega)) (ldn2 (by omega) ef_30) rfl dX5_deepest_91 ?_
            obtain ⟨x_31, ex_31⟩ : ∃ z : Int32, (nI j_4) + Int32.ofInt (-1) = z := ⟨_, rfl⟩
            have zx_31 : x_31.toInt = ((j_4 : Nat) : Int) - 1 := by rw [← ex_31]; exact i_dec (c := 1) (nI_toInt (n := j_4) (by omega)) rfl (by omega) (by omega)
            refine ww_iinc (j := 3) (v := x_31) (lv' := [(2, .int x_31), (4, .int x_24), (1, .int (nI (tt - 1))), (3, .int 2), (0, .ref qs)]) C dX5_deepest_92 rfl ex_31 rfl rfl ?_
            refine ww_goto (tgt := 9) C dX5_deepest_95 (by decide) ?_
            exact ww_lv [0, 2, 4] rfl (ww_sub [0, 1, 2] rfl rfl (ih_9 x_31 j_4 (tt - 1) f_30 (by omega) (by omega) (by omega) (by omega)))
        · refine an2 hw ?_
          clear hw
          intro he_14 he_15 hw
          have h_13 := hw
          clear hw
          have he_14 := he_14.symm
          subst he_14
          subst he_15
          refine ww_eq (ws' := [(qs, .inr (5, [.ref qt, .ref po, .ref pa, .ref pf, .ref pd, .int (nI nn), .int tn, .int an, .int wr, .int pl])), (po, .inl (E.2.1 1, 32, .inl fo)), (pd, .inl (E.2.1 1, 32, .inl f1))]) ?_ rfl rfl rfl
          have hun := uN_a1 (by assumption)
          have hoj_4 := opn_s fo j_4
          have h1j_4 := hwf.2.2.2.1 j_4 (by omega)
          have h2j_4 := opn_le hwf (i := j_4 + 1) (by omega)
          have h3j_4 := opn_le hwf (i := j_4) (by omega)
          have h4j_4 : ii = j_4 + 1 := by omega
          rw [h4j_4] at htt
          rw [ex_5, hun] at hoj_4
          refine ww_istore_n (lv' := [(3, .int 1), (2, .int (nI j_4)), (1, .int (nI tt)), (0, .ref qs)]) C dX5_deepest_22 rfl rfl rfl ?_
          refine ww_iload_n C dX5_deepest_23 2 rfl rfl ?_
          refine ww_iconst (v := 1) C dX5_deepest_24 rfl ?_
          refine ww_iload_n C dX5_deepest_25 0 rfl rfl ?_
          refine ww_isub (v := 0) C dX5_deepest_26 (by decide) ?_
          refine ww_iadd (v := (nI tt)) C dX5_deepest_27 (nI_add tt 0) ?_
          refine ww_istore_n (lv' := [(1, .int (nI tt)), (3, .int 1), (2, .int (nI j_4)), (0, .ref qs)]) C dX5_deepest_28 rfl rfl rfl ?_
          refine ww_iload_n C dX5_deepest_29 1 rfl rfl ?_
          refine ww_if_le_f (tgt := 44) C dX5_deepest_30 (by decide) (by decide) ?_
          refine ww_aload_n C dX5_deepest_33 3 rfl rfl ?_
          refine ww_get C fg_X5_28 0 rfl rfl dX5_deepest_34 ?_
          refine ww_iload_n C dX5_deepest_37 0 rfl rfl ?_
          refine ww_iconst (v := 1) C dX5_deepest_38 rfl ?_
          refine ww_isub (v := (nI (tt - 1))) C dX5_deepest_39 (pk_sub (a := tt) (b := 1) (by omega)) ?_
          obtain ⟨x_32, ex_32⟩ : ∃ z : Int32, f1 (tt - 1) = z := ⟨_, rfl⟩
          refine ww_iald (v := x_32) C 2 rfl (vp_in_nI (by omega) (by omega)) (ldn (by omega) ex_32) dX5_deepest_40 ?_
          refine ww_goto (tgt := 45) C dX5_deepest_41 (by decide) ?_
          refine ww_istore (lv' := [(4, .int x_32), (1, .int (nI tt)), (3, .int 1), (2, .int (nI j_4)), (0, .ref qs)]) C dX5_deepest_45 rfl rfl ?_
          refine ww_iload_n C dX5_deepest_47 2 rfl rfl ?_
          refine ww_iconst (v := 2) C dX5_deepest_48 rfl ?_
          refine ww_icmp_ne_t (tgt := 65) C dX5_deepest_49 (by decide) (by decide) ?_
          refine ww_aload_n C dX5_deepest_65 4 rfl rfl ?_
          refine ww_get C fg_X5_28 0 rfl rfl dX5_deepest_66 ?_
          refine ww_iload_n C dX5_deepest_69 1 rfl rfl ?_
          refine ww_iconst (v := 1) C dX5_deepest_70 rfl ?_
          refine ww_isub (v := (nI (tt - 1))) C dX5_deepest_71 (pk_sub (a := tt) (b := 1) (by omega)) ?_
          refine ww_aload_n C dX5_deepest_72 4 rfl rfl ?_
          refine ww_get C fg_X5_18 0 rfl rfl dX5_deepest_73 ?_
          refine ww_iload_n C dX5_deepest_76 3 rfl rfl ?_
          obtain ⟨x_33, ex_33⟩ : ∃ z : Int32, fo j_4 = z := ⟨_, rfl⟩
          refine ww_iald (v := x_33) C 1 rfl (vp_in_nI (by omega) (by omega)) (ldn (by omega) ex_33) dX5_deepest_77 ?_
          refine ww_iconst (v := 5) C dX5_deepest_78 rfl ?_
          refine ww_icmp_lt (tgt := 89) C dX5_deepest_79 (by decide) (fun c_34 => ?_) (fun c_34 => ?_)
          · have zc_34 : x_33.toInt < 5 := i_lt rfl rfl c_34
            refine ww_iload C dX5_deepest_89 0 rfl ?_
            obtain ⟨f_35, ef_35⟩ : ∃ z : Nat → Int32, upd f1 (tt - 1) x_32 = z := ⟨_, rfl⟩
            refine ww_iast (ws' := [(qs, .inr (5, [.ref qt, .ref po, .ref pa, .ref pf, .ref pd, .int (nI nn), .int tn, .int an, .int wr, .int pl])), (po, .inl (E.2.1 1, 32, .inl fo)), (pd, .inl (E.2.1 1, 32, .inl f_35))]) C 2 rfl (vp_in_nI (by omega) (by omega)) (ldn2 (by omega) ef_35) rfl dX5_deepest_91 ?_
            obtain ⟨x_36, ex_36⟩ : ∃ z : Int32, (nI j_4) + Int32.ofInt (-1) = z := ⟨_, rfl⟩
            have zx_36 : x_36.toInt = ((j_4 : Nat) : Int) - 1 := by rw [← ex_36]; exact i_dec (c := 1) (nI_toInt (n := j_4) (by omega)) rfl (by omega) (by omega)
            refine ww_iinc (j := 3) (v := x_36) (lv' := [(2, .int x_36), (4, .int x_32), (1, .int (nI tt)), (3, .int 1), (0, .ref qs)]) C dX5_deepest_92 rfl ex_36 rfl rfl ?_
            refine ww_goto (tgt := 9) C dX5_deepest_95 (by decide) ?_
            exact ww_lv [0, 2, 4] rfl (ww_sub [0, 1, 2] rfl rfl (ih_9 x_36 j_4 tt f_35 (by omega) (by omega) (by omega) (by omega)))
          · have zc_34 : x_33.toInt ≥ 5 := i_nlt rfl rfl c_34
            refine ww_iload C dX5_deepest_82 0 rfl ?_
            refine ww_iconst (v := 1) C dX5_deepest_84 rfl ?_
            obtain ⟨x_37, ex_37⟩ : ∃ z : Int32, x_32 + (1 : Int32) = z := ⟨_, rfl⟩
            refine ww_iadd (v := x_37) C dX5_deepest_85 ex_37 ?_
            refine ww_goto (tgt := 91) C dX5_deepest_86 (by decide) ?_
            obtain ⟨f_38, ef_38⟩ : ∃ z : Nat → Int32, upd f1 (tt - 1) x_37 = z := ⟨_, rfl⟩
            refine ww_iast (ws' := [(qs, .inr (5, [.ref qt, .ref po, .ref pa, .ref pf, .ref pd, .int (nI nn), .int tn, .int an, .int wr, .int pl])), (po, .inl (E.2.1 1, 32, .inl fo)), (pd, .inl (E.2.1 1, 32, .inl f_38))]) C 2 rfl (vp_in_nI (by omega) (by omega)) (ldn2 (by omega) ef_38) rfl dX5_deepest_91 ?_
            obtain ⟨x_39, ex_39⟩ : ∃ z : Int32, (nI j_4) + Int32.ofInt (-1) = z := ⟨_, rfl⟩
            have zx_39 : x_39.toInt = ((j_4 : Nat) : Int) - 1 := by rw [← ex_39]; exact i_dec (c := 1) (nI_toInt (n := j_4) (by omega)) rfl (by omega) (by omega)
            refine ww_iinc (j := 3) (v := x_39) (lv' := [(2, .int x_39), (4, .int x_32), (1, .int (nI tt)), (3, .int 1), (0, .ref qs)]) C dX5_deepest_92 rfl ex_39 rfl rfl ?_
            refine ww_goto (tgt := 9) C dX5_deepest_95 (by decide) ?_
            exact ww_lv [0, 2, 4] rfl (ww_sub [0, 1, 2] rfl rfl (ih_9 x_39 j_4 tt f_38 (by omega) (by omega) (by omega) (by omega)))
  exact ww_lv [0, 1, 2] rfl (ww_sub [0, 1, 2] rfl rfl (loop_9 _ x_1 nn 0 fd (by omega) (by omega) (by have := hwf.2.2.2.2; omega) (Nat.lt_succ_self _)))
theorem cpy_at {f g h : Nat → Int32} {n i : Nat} (e : va_cpy f g 0 0 n = h) (hi : i < n) : h i = f i := by
  rw [← e]; unfold va_cpy; rw [if_pos (by omega)]; congr 1; omega
theorem OPX.cpy {c : Nat → Int} {p n : Nat} {fo fa so sr : Nat → Int32} (h : OPX c p n fo fa) (e : ∀ i, i < n → so i = fo i ∧ sr i = fa i) : OPX c p n so sr := fun i hi => by
  rw [(e i hi).1, (e i hi).2]; exact h i hi
theorem dX5_made_0 : decode cX5_made 0 = .ok (.new 143, 3) := by decide +kernel
theorem wk_X5_143 : Cond.classLink RX5 143 RX8 ∈ TB := tbm (tq3 (List.mem_of_getElem? (i := 148) (by decide +kernel))) (by decide +kernel)
theorem wq_X8 : Cond.instantiable RX8 7 ∈ TB := tbm (tq3 (List.mem_of_getElem? (i := 149) (by decide +kernel))) (by decide +kernel)
theorem wn_X8 : Cond.initialized RX8 ∈ TB := tbm (tq1 (List.mem_of_getElem? (i := 20) (by decide +kernel))) (by decide +kernel)
theorem cn_X5_143 : CN RX5 143 8 7 [.null, .null, .int 0, .int 0, .null, .int 0, .int 0] := ⟨RX8, TX8, tyX8, uw_X8, wk_X5_143, wq_X8, wn_X8, rfl, tyX8_ok, by decide +kernel⟩
theorem dX5_made_3 : decode cX5_made 3 = .ok (.dup, 1) := by decide +kernel
theorem dX5_made_4 : decode cX5_made 4 = .ok (.aload_n 0, 1) := by decide +kernel
theorem dX5_made_5 : decode cX5_made 5 = .ok (.getfield 31, 3) := by decide +kernel
theorem dX5_made_8 : decode cX5_made 8 = .ok (.aload_n 0, 1) := by decide +kernel
theorem dX5_made_9 : decode cX5_made 9 = .ok (.getfield 35, 3) := by decide +kernel
theorem dX5_made_12 : decode cX5_made 12 = .ok (.aload_n 0, 1) := by decide +kernel
theorem dX5_made_13 : decode cX5_made 13 = .ok (.getfield 38, 3) := by decide +kernel
theorem dX5_made_16 : decode cX5_made 16 = .ok (.invokespecial 145, 3) := by decide +kernel
theorem wl_X5_145 : Cond.methodLink RX5 145 yX8_init ∈ TB := tbm (tq3 (List.mem_of_getElem? (i := 150) (by decide +kernel))) (by decide +kernel)
theorem wc_X8_init : Cond.code yX8_init cX8_init 4 none ∈ TB := tbm (tq3 (List.mem_of_getElem? (i := 152) (rfl))) (by decide +kernel)
theorem wi_X8_init : Cond.instanceMethod yX8_init ∈ TB := tbm (tq3 (List.mem_of_getElem? (i := 151) (by decide +kernel))) (by decide +kernel)
theorem mn_X8_init : MN yX8_init cX8_init 4 3 := ⟨wc_X8_init, wn_X8, ⟨by decide +kernel, by decide +kernel, by decide +kernel⟩, wi_X8_init, rfl⟩
theorem dX5_made_19 : decode cX5_made 19 = .ok (.astore_n 1, 1) := by decide +kernel
theorem dX5_made_20 : decode cX5_made 20 = .ok (.aload_n 0, 1) := by decide +kernel
theorem dX5_made_21 : decode cX5_made 21 = .ok (.getfield 18, 3) := by decide +kernel
theorem dX5_made_24 : decode cX5_made 24 = .ok (.iconst 0, 1) := by decide +kernel
theorem dX5_made_25 : decode cX5_made 25 = .ok (.aload_n 1, 1) := by decide +kernel
theorem dX5_made_26 : decode cX5_made 26 = .ok (.getfield 148, 3) := by decide +kernel
theorem wf_X5_148 : Cond.fieldLink RX5 148 RX8 "ops" "[I" ∈ TB := tbm (tq3 (List.mem_of_getElem? (i := 156) (by decide +kernel))) (by decide +kernel)
theorem fg_X5_148 : FG RX5 148 8 0 := ⟨RX8, TX8, 7, uw_X8, wf_X5_148, rfl, by decide, rfl⟩
theorem dX5_made_29 : decode cX5_made 29 = .ok (.iconst 0, 1) := by decide +kernel
theorem dX5_made_30 : decode cX5_made 30 = .ok (.aload_n 0, 1) := by decide +kernel
theorem dX5_made_31 : decode cX5_made 31 = .ok (.getfield 31, 3) := by decide +kernel
theorem dX5_made_34 : decode cX5_made 34 = .ok (.invokestatic 149, 3) := by decide +kernel
theorem wl_X5_149 : Cond.methodLink RX5 149 arraycopyName ∈ TB := tbm (tq3 (List.mem_of_getElem? (i := 187) (by decide +kernel))) (by decide +kernel)
theorem dX5_made_37 : decode cX5_made 37 = .ok (.aload_n 0, 1) := by decide +kernel
theorem dX5_made_38 : decode cX5_made 38 = .ok (.getfield 22, 3) := by decide +kernel
theorem dX5_made_41 : decode cX5_made 41 = .ok (.iconst 0, 1) := by decide +kernel
theorem dX5_made_42 : decode cX5_made 42 = .ok (.aload_n 1, 1) := by decide +kernel
theorem dX5_made_43 : decode cX5_made 43 = .ok (.getfield 155, 3) := by decide +kernel
theorem wf_X5_155 : Cond.fieldLink RX5 155 RX8 "args" "[I" ∈ TB := tbm (tq3 (List.mem_of_getElem? (i := 159) (by decide +kernel))) (by decide +kernel)
theorem fg_X5_155 : FG RX5 155 8 1 := ⟨RX8, TX8, 7, uw_X8, wf_X5_155, rfl, by decide, rfl⟩
theorem dX5_made_46 : decode cX5_made 46 = .ok (.iconst 0, 1) := by decide +kernel
theorem dX5_made_47 : decode cX5_made 47 = .ok (.aload_n 0, 1) := by decide +kernel
theorem dX5_made_48 : decode cX5_made 48 = .ok (.getfield 31, 3) := by decide +kernel
theorem dX5_made_51 : decode cX5_made 51 = .ok (.invokestatic 149, 3) := by decide +kernel
theorem dX5_made_54 : decode cX5_made 54 = .ok (.aload_n 0, 1) := by decide +kernel
theorem dX5_made_55 : decode cX5_made 55 = .ok (.getfield 25, 3) := by decide +kernel
theorem dX5_made_58 : decode cX5_made 58 = .ok (.iconst 0, 1) := by decide +kernel
theorem dX5_made_59 : decode cX5_made 59 = .ok (.aload_n 1, 1) := by decide +kernel
theorem dX5_made_60 : decode cX5_made 60 = .ok (.getfield 156, 3) := by decide +kernel
theorem wf_X5_156 : Cond.fieldLink RX5 156 RX8 "after" "[I" ∈ TB := tbm (tq3 (List.mem_of_getElem? (i := 167) (by decide +kernel))) (by decide +kernel)
theorem fg_X5_156 : FG RX5 156 8 4 := ⟨RX8, TX8, 7, uw_X8, wf_X5_156, rfl, by decide, rfl⟩
theorem dX5_made_63 : decode cX5_made 63 = .ok (.iconst 0, 1) := by decide +kernel
theorem dX5_made_64 : decode cX5_made 64 = .ok (.aload_n 0, 1) := by decide +kernel
theorem dX5_made_65 : decode cX5_made 65 = .ok (.getfield 38, 3) := by decide +kernel
theorem dX5_made_68 : decode cX5_made 68 = .ok (.invokestatic 149, 3) := by decide +kernel
theorem dX5_made_71 : decode cX5_made 71 = .ok (.aload_n 1, 1) := by decide +kernel
theorem dX5_made_72 : decode cX5_made 72 = .ok (.aload_n 0, 1) := by decide +kernel
theorem dX5_made_73 : decode cX5_made 73 = .ok (.invokevirtual 157, 3) := by decide +kernel
theorem wl_X5_157 : Cond.methodLink RX5 157 yX5_deepest ∈ TB := tbm (tq3 (List.mem_of_getElem? (i := 188) (by decide +kernel))) (by decide +kernel)
theorem wc_X5_deepest : Cond.code yX5_deepest cX5_deepest 5 (some .int) ∈ TB := tbm (tq3 (List.mem_of_getElem? (i := 191) (rfl))) (by decide +kernel)
theorem wi_X5_deepest : Cond.instanceMethod yX5_deepest ∈ TB := tbm (tq3 (List.mem_of_getElem? (i := 190) (by decide +kernel))) (by decide +kernel)
theorem ws_X5_deepest : Cond.selects RX5 yX5_deepest yX5_deepest ∈ TB := tbm (tq0 (List.mem_of_getElem? (i := 15) (by decide +kernel))) (by decide +kernel)
theorem mi_X5_deepest : MI yX5_deepest cX5_deepest 5 (some .int) 0 := ⟨wc_X5_deepest, wn_X5, ⟨by decide +kernel, by decide +kernel, by decide +kernel⟩, wi_X5_deepest, ws_X5_deepest⟩
theorem dX5_made_76 : decode cX5_made 76 = .ok (.putfield 160, 3) := by decide +kernel
theorem wf_X5_160 : Cond.fieldLink RX5 160 RX8 "deep" "I" ∈ TB := tbm (tq3 (List.mem_of_getElem? (i := 168) (by decide +kernel))) (by decide +kernel)
theorem fp_X5_160 : FP RX5 160 8 5 .int false := ⟨RX8, TX8, 7, tyX8, uw_X8, wf_X5_160, rfl, by decide, rfl, tyX8_ok, nmX8, rfl, by decide +kernel⟩
theorem dX5_made_79 : decode cX5_made 79 = .ok (.iconst 0, 1) := by decide +kernel
theorem dX5_made_80 : decode cX5_made 80 = .ok (.istore_n 2, 1) := by decide +kernel
theorem dX5_made_81 : decode cX5_made 81 = .ok (.iload_n 2, 1) := by decide +kernel
theorem dX5_made_82 : decode cX5_made 82 = .ok (.aload_n 0, 1) := by decide +kernel
theorem dX5_made_83 : decode cX5_made 83 = .ok (.getfield 31, 3) := by decide +kernel
theorem dX5_made_86 : decode cX5_made 86 = .ok (.if_icmp .ge 33, 3) := by decide +kernel
theorem dX5_made_119 : decode cX5_made 119 = .ok (.aload_n 1, 1) := by decide +kernel
theorem dX5_made_120 : decode cX5_made 120 = .ok (.areturn, 1) := by decide +kernel
theorem dX5_made_89 : decode cX5_made 89 = .ok (.aload_n 0, 1) := by decide +kernel
theorem dX5_made_90 : decode cX5_made 90 = .ok (.getfield 18, 3) := by decide +kernel
theorem dX5_made_93 : decode cX5_made 93 = .ok (.iload_n 2, 1) := by decide +kernel
theorem dX5_made_94 : decode cX5_made 94 = .ok (.iaload, 1) := by decide +kernel
theorem dX5_made_95 : decode cX5_made 95 = .ok (.ifCond .ne 18, 3) := by decide +kernel
theorem dX5_made_113 : decode cX5_made 113 = .ok (.iinc 2 1, 3) := by decide +kernel
theorem dX5_made_116 : decode cX5_made 116 = .ok (.goto (-35), 3) := by decide +kernel
theorem dX5_made_98 : decode cX5_made 98 = .ok (.aload_n 1, 1) := by decide +kernel
theorem dX5_made_99 : decode cX5_made 99 = .ok (.dup, 1) := by decide +kernel
theorem dX5_made_100 : decode cX5_made 100 = .ok (.getfield 163, 3) := by decide +kernel
theorem wf_X5_163 : Cond.fieldLink RX5 163 RX8 "names" "I" ∈ TB := tbm (tq3 (List.mem_of_getElem? (i := 170) (by decide +kernel))) (by decide +kernel)
theorem fg_X5_163 : FG RX5 163 8 6 := ⟨RX8, TX8, 7, uw_X8, wf_X5_163, rfl, by decide, rfl⟩
theorem dX5_made_103 : decode cX5_made 103 = .ok (.aload_n 0, 1) := by decide +kernel
theorem dX5_made_104 : decode cX5_made 104 = .ok (.getfield 22, 3) := by decide +kernel
theorem dX5_made_107 : decode cX5_made 107 = .ok (.iload_n 2, 1) := by decide +kernel
theorem dX5_made_108 : decode cX5_made 108 = .ok (.iaload, 1) := by decide +kernel
theorem dX5_made_109 : decode cX5_made 109 = .ok (.ior, 1) := by decide +kernel
theorem dX5_made_110 : decode cX5_made 110 = .ok (.putfield 163, 3) := by decide +kernel
theorem fp_X5_163 : FP RX5 163 8 6 .int false := ⟨RX8, TX8, 7, tyX8, uw_X8, wf_X5_163, rfl, by decide, rfl, tyX8_ok, nmX8, rfl, by decide +kernel⟩
set_option maxRecDepth 100000 in
set_option maxHeartbeats 4000000 in
theorem q_made (l : Launch) (E : EV) (ro : va_W) (qs : Nat) (qt : Nat) (po : Nat) (pa : Nat) (pf : Nat) (pd : Nat) (nn : Nat) (tn : Int32) (na : Nat) (wr : Int32) (pl : Int32) (fo : Nat → Int32) (fa : Nat → Int32) (af : Nat → Int32) (fd : Nat → Int32) (hwf : WFs nn fo) (hafi : AFI na af) (hna : na ≤ 2) : CT l yX5_made (Cond.code yX5_made cX5_made 3 (some (.object "WhoKnows$Saying")) :: TB) ({ frames := 2, cells := 4, slots := 73, locals := 64 }) E ro [.ref qs] [(qs, .inr (5, [.ref qt, .ref po, .ref pa, .ref pf, .ref pd, .int (nI nn), .int tn, .int (nI na), .int wr, .int pl])), (po, .inl (E.2.1 1, 32, .inl fo)), (pa, .inl (E.2.1 1, 32, .inl fa)), (pf, .inl (E.2.1 1, 2, .inl af)), (pd, .inl (E.2.1 1, 32, .inl fd))] (Qq E (fun (rz : Option Nat) uz => (∃ (sg : Nat) (sx : Nat) (sy : Nat) (sz : Nat) (dp : Int32) (nm : Int32) (fd2 : Nat → Int32) (so : Nat → Int32) (sr : Nat → Int32) (sf : Nat → Int32), rz = some sg ∧ uz = [(qs, .inr (5, [.ref qt, .ref po, .ref pa, .ref pf, .ref pd, .int (nI nn), .int tn, .int (nI na), .int wr, .int pl])), (po, .inl (E.2.1 1, 32, .inl fo)), (pa, .inl (E.2.1 1, 32, .inl fa)), (pf, .inl (E.2.1 1, 2, .inl af)), (pd, .inl (E.2.1 1, 32, .inl fd2)), (sg, .inr (8, [.ref sx, .ref sy, .int tn, .int (nI na), .ref sz, .int dp, .int nm])), (sx, .inl (E.2.1 1, nn, .inl so)), (sy, .inl (E.2.1 1, nn, .inl sr)), (sz, .inl (E.2.1 1, 2, .inl sf))] ∧ (WFs nn so ∧ AFI na sf) ∧ (∀ i, i < nn → so i = fo i ∧ sr i = fa i) ∧ (∀ i, i < na → sf i = af i)))) 4 73 := by
  refine ct_of rfl rfl ?_
  intro X C hT hin hro
  show WW X 3 E 0 [(0, .ref qs)] [] [(qs, .inr (5, [.ref qt, .ref po, .ref pa, .ref pf, .ref pd, .int (nI nn), .int tn, .int (nI na), .int wr, .int pl])), (po, .inl (E.2.1 1, 32, .inl fo)), (pa, .inl (E.2.1 1, 32, .inl fa)), (pf, .inl (E.2.1 1, 2, .inl af)), (pd, .inl (E.2.1 1, 32, .inl fd))] 0 0
  have hwn : 1 ≤ nn ∧ nn ≤ 32 := ⟨hwf.1, hwf.2.1⟩
  refine ww_new (k' := 1) (n' := 7) C cn_X5_143 rfl dX5_made_0 (fun q_1 => ?_)
  refine ww_eq (ws' := [(qs, .inr (5, [.ref qt, .ref po, .ref pa, .ref pf, .ref pd, .int (nI nn), .int tn, .int (nI na), .int wr, .int pl])), (po, .inl (E.2.1 1, 32, .inl fo)), (pa, .inl (E.2.1 1, 32, .inl fa)), (pf, .inl (E.2.1 1, 2, .inl af)), (pd, .inl (E.2.1 1, 32, .inl fd)), (q_1, .inr (8, [.null, .null, .int 0, .int 0, .null, .int 0, .int 0]))]) ?_ rfl rfl rfl
  refine ww_dup C dX5_made_3 rfl ?_
  refine ww_aload_n C dX5_made_4 0 rfl rfl ?_
  refine ww_get C fg_X5_31 0 rfl rfl dX5_made_5 ?_
  refine ww_aload_n C dX5_made_8 0 rfl rfl ?_
  refine ww_get C fg_X5_35 0 rfl rfl dX5_made_9 ?_
  refine ww_aload_n C dX5_made_12 0 rfl rfl ?_
  refine ww_get C fg_X5_38 0 rfl rfl dX5_made_13 ?_
  refine ww_cv (wr := [(qs, .inr (5, [.ref qt, .ref po, .ref pa, .ref pf, .ref pd, .int (nI nn), .int tn, .int (nI na), .int wr, .int pl])), (po, .inl (E.2.1 1, 32, .inl fo)), (pa, .inl (E.2.1 1, 32, .inl fa)), (pf, .inl (E.2.1 1, 2, .inl af)), (pd, .inl (E.2.1 1, 32, .inl fd))]) (k' := 4) (n' := 73) C (run_I (As := [.int (nI nn), .int tn, .int (nI na)]) (rest := [.ref q_1]) C (k_Saying X.2.1 E ro q_1 nn tn na (by omega)) mn_X8_init wl_X5_145 rfl rfl rfl rfl dX5_made_16) (roK hro) [5] [0, 1, 2, 3, 4] rfl rfl rfl rfl (fun uz hw => ?_)
  refine ex3 hw ?_
  clear hw
  intro sx_3 sy_4 sz_5 hw
  have he_6 := hw
  clear hw
  subst he_6
  refine ww_eq (ws' := [(qs, .inr (5, [.ref qt, .ref po, .ref pa, .ref pf, .ref pd, .int (nI nn), .int tn, .int (nI na), .int wr, .int pl])), (po, .inl (E.2.1 1, 32, .inl fo)), (pa, .inl (E.2.1 1, 32, .inl fa)), (pf, .inl (E.2.1 1, 2, .inl af)), (pd, .inl (E.2.1 1, 32, .inl fd)), (q_1, .inr (8, [.ref sx_3, .ref sy_4, .int tn, .int (nI na), .ref sz_5, .int 0, .int 0])), (sx_3, .inl (E.2.1 1, nn, .inl (fun _ => 0))), (sy_4, .inl (E.2.1 1, nn, .inl (fun _ => 0))), (sz_5, .inl (E.2.1 1, 2, .inl (fun _ => 0)))]) ?_ rfl rfl rfl
  refine ww_astore_n (lv' := [(1, .ref q_1), (0, .ref qs)]) C dX5_made_19 rfl rfl rfl ?_
  refine ww_aload_n C dX5_made_20 1 rfl rfl ?_
  refine ww_get C fg_X5_18 0 rfl rfl dX5_made_21 ?_
  refine ww_iconst (v := 0) C dX5_made_24 rfl ?_
  refine ww_aload_n C dX5_made_25 0 rfl rfl ?_
  refine ww_get C fg_X5_148 5 rfl rfl dX5_made_26 ?_
  refine ww_iconst (v := 0) C dX5_made_29 rfl ?_
  refine ww_aload_n C dX5_made_30 1 rfl rfl ?_
  refine ww_get C fg_X5_31 0 rfl rfl dX5_made_31 ?_
  obtain ⟨f_7, ef_7⟩ : ∃ z : Nat → Int32, va_cpy fo (fun _ => 0) 0 0 nn = z := ⟨_, rfl⟩
  refine ww_copyi (ws' := [(qs, .inr (5, [.ref qt, .ref po, .ref pa, .ref pf, .ref pd, .int (nI nn), .int tn, .int (nI na), .int wr, .int pl])), (po, .inl (E.2.1 1, 32, .inl fo)), (pa, .inl (E.2.1 1, 32, .inl fa)), (pf, .inl (E.2.1 1, 2, .inl af)), (pd, .inl (E.2.1 1, 32, .inl fd)), (q_1, .inr (8, [.ref sx_3, .ref sy_4, .int tn, .int (nI na), .ref sz_5, .int 0, .int 0])), (sx_3, .inl (E.2.1 1, nn, .inl f_7)), (sy_4, .inl (E.2.1 1, nn, .inl (fun _ => 0))), (sz_5, .inl (E.2.1 1, 2, .inl (fun _ => 0)))]) C wl_X5_149 wn_ac wt_ac wn_Sys 1 6 rfl rfl (by decide) (by decide) (nI_nn (by omega)) (by rw [nI_clamp (by omega)]; show 0 + nn ≤ 32; omega) (by rw [nI_clamp (by omega)]; show 0 + nn ≤ nn; omega) rfl (by rw [nI_clamp (by omega)]; exact ef_7) rfl dX5_made_34 ?_
  refine ww_aload_n C dX5_made_37 1 rfl rfl ?_
  refine ww_get C fg_X5_22 0 rfl rfl dX5_made_38 ?_
  refine ww_iconst (v := 0) C dX5_made_41 rfl ?_
  refine ww_aload_n C dX5_made_42 0 rfl rfl ?_
  refine ww_get C fg_X5_155 5 rfl rfl dX5_made_43 ?_
  refine ww_iconst (v := 0) C dX5_made_46 rfl ?_
  refine ww_aload_n C dX5_made_47 1 rfl rfl ?_
  refine ww_get C fg_X5_31 0 rfl rfl dX5_made_48 ?_
  obtain ⟨f_8, ef_8⟩ : ∃ z : Nat → Int32, va_cpy fa (fun _ => 0) 0 0 nn = z := ⟨_, rfl⟩
  refine ww_copyi (ws' := [(qs, .inr (5, [.ref qt, .ref po, .ref pa, .ref pf, .ref pd, .int (nI nn), .int tn, .int (nI na), .int wr, .int pl])), (po, .inl (E.2.1 1, 32, .inl fo)), (pa, .inl (E.2.1 1, 32, .inl fa)), (pf, .inl (E.2.1 1, 2, .inl af)), (pd, .inl (E.2.1 1, 32, .inl fd)), (q_1, .inr (8, [.ref sx_3, .ref sy_4, .int tn, .int (nI na), .ref sz_5, .int 0, .int 0])), (sx_3, .inl (E.2.1 1, nn, .inl f_7)), (sy_4, .inl (E.2.1 1, nn, .inl f_8)), (sz_5, .inl (E.2.1 1, 2, .inl (fun _ => 0)))]) C wl_X5_149 wn_ac wt_ac wn_Sys 2 7 rfl rfl (by decide) (by decide) (nI_nn (by omega)) (by rw [nI_clamp (by omega)]; show 0 + nn ≤ 32; omega) (by rw [nI_clamp (by omega)]; show 0 + nn ≤ nn; omega) rfl (by rw [nI_clamp (by omega)]; exact ef_8) rfl dX5_made_51 ?_
  refine ww_aload_n C dX5_made_54 1 rfl rfl ?_
  refine ww_get C fg_X5_25 0 rfl rfl dX5_made_55 ?_
  refine ww_iconst (v := 0) C dX5_made_58 rfl ?_
  refine ww_aload_n C dX5_made_59 0 rfl rfl ?_
  refine ww_get C fg_X5_156 5 rfl rfl dX5_made_60 ?_
  refine ww_iconst (v := 0) C dX5_made_63 rfl ?_
  refine ww_aload_n C dX5_made_64 1 rfl rfl ?_
  refine ww_get C fg_X5_38 0 rfl rfl dX5_made_65 ?_
  obtain ⟨f_9, ef_9⟩ : ∃ z : Nat → Int32, va_cpy af (fun _ => 0) 0 0 na = z := ⟨_, rfl⟩
  refine ww_copyi (ws' := [(qs, .inr (5, [.ref qt, .ref po, .ref pa, .ref pf, .ref pd, .int (nI nn), .int tn, .int (nI na), .int wr, .int pl])), (po, .inl (E.2.1 1, 32, .inl fo)), (pa, .inl (E.2.1 1, 32, .inl fa)), (pf, .inl (E.2.1 1, 2, .inl af)), (pd, .inl (E.2.1 1, 32, .inl fd)), (q_1, .inr (8, [.ref sx_3, .ref sy_4, .int tn, .int (nI na), .ref sz_5, .int 0, .int 0])), (sx_3, .inl (E.2.1 1, nn, .inl f_7)), (sy_4, .inl (E.2.1 1, nn, .inl f_8)), (sz_5, .inl (E.2.1 1, 2, .inl f_9))]) C wl_X5_149 wn_ac wt_ac wn_Sys 3 8 rfl rfl (by decide) (by decide) (nI_nn (by omega)) (by rw [nI_clamp (by omega)]; show 0 + na ≤ 2; omega) (by rw [nI_clamp (by omega)]; show 0 + na ≤ 2; omega) rfl (by rw [nI_clamp (by omega)]; exact ef_9) rfl dX5_made_68 ?_
  refine ww_aload_n C dX5_made_71 0 rfl rfl ?_
  refine ww_aload_n C dX5_made_72 1 rfl rfl ?_
  refine ww_ci (wr := [(pa, .inl (E.2.1 1, 32, .inl fa)), (pf, .inl (E.2.1 1, 2, .inl af)), (q_1, .inr (8, [.ref sx_3, .ref sy_4, .int tn, .int (nI na), .ref sz_5, .int 0, .int 0])), (sx_3, .inl (E.2.1 1, nn, .inl f_7)), (sy_4, .inl (E.2.1 1, nn, .inl f_8)), (sz_5, .inl (E.2.1 1, 2, .inl f_9))]) (k' := 4) (n' := 73) C (run_V (As := []) (rest := [.ref q_1]) C (q_deepest X.2.1 E ro qs qt po pa pf pd nn tn (nI na) wr pl fo fd (by omega)) mi_X5_deepest wl_X5_157 rfl 0 5 rfl rfl rfl rfl rfl dX5_made_73) (roK hro) [0, 1, 4] [2, 3, 5, 6, 7, 8] rfl rfl rfl rfl (fun r_10 uz hw => ?_)
  refine ex1 hw ?_
  clear hw
  intro fd2_11 hw
  have he_12 := hw
  clear hw
  subst he_12
  refine ww_eq (ws' := [(pa, .inl (E.2.1 1, 32, .inl fa)), (pf, .inl (E.2.1 1, 2, .inl af)), (q_1, .inr (8, [.ref sx_3, .ref sy_4, .int tn, .int (nI na), .ref sz_5, .int 0, .int 0])), (sx_3, .inl (E.2.1 1, nn, .inl f_7)), (sy_4, .inl (E.2.1 1, nn, .inl f_8)), (sz_5, .inl (E.2.1 1, 2, .inl f_9)), (qs, .inr (5, [.ref qt, .ref po, .ref pa, .ref pf, .ref pd, .int (nI nn), .int tn, .int (nI na), .int wr, .int pl])), (po, .inl (E.2.1 1, 32, .inl fo)), (pd, .inl (E.2.1 1, 32, .inl fd2_11))]) ?_ rfl rfl rfl
  refine ww_put (ws' := [(pa, .inl (E.2.1 1, 32, .inl fa)), (pf, .inl (E.2.1 1, 2, .inl af)), (q_1, .inr (8, [.ref sx_3, .ref sy_4, .int tn, .int (nI na), .ref sz_5, .int r_10, .int 0])), (sx_3, .inl (E.2.1 1, nn, .inl f_7)), (sy_4, .inl (E.2.1 1, nn, .inl f_8)), (sz_5, .inl (E.2.1 1, 2, .inl f_9)), (qs, .inr (5, [.ref qt, .ref po, .ref pa, .ref pf, .ref pd, .int (nI nn), .int tn, .int (nI na), .int wr, .int pl])), (po, .inl (E.2.1 1, 32, .inl fo)), (pd, .inl (E.2.1 1, 32, .inl fd2_11))]) C fp_X5_160 2 rfl rfl rfl rfl rfl dX5_made_76 ?_
  refine ww_iconst (v := 0) C dX5_made_79 rfl ?_
  refine ww_istore_n (lv' := [(2, .int 0), (1, .ref q_1), (0, .ref qs)]) C dX5_made_80 rfl rfl rfl ?_
  have loop_81 : ∀ (fu : Nat) (i1 : Nat) (nm1 : Int32), (i1 ≤ nn) → nn - i1 < fu → WW X 3 E 81 [(2, .int (nI i1)), (1, .ref q_1), (0, .ref qs)] [] [(pa, .inl (E.2.1 1, 32, .inl fa)), (pf, .inl (E.2.1 1, 2, .inl af)), (q_1, .inr (8, [.ref sx_3, .ref sy_4, .int tn, .int (nI na), .ref sz_5, .int r_10, .int nm1])), (sx_3, .inl (E.2.1 1, nn, .inl f_7)), (sy_4, .inl (E.2.1 1, nn, .inl f_8)), (sz_5, .inl (E.2.1 1, 2, .inl f_9)), (qs, .inr (5, [.ref qt, .ref po, .ref pa, .ref pf, .ref pd, .int (nI nn), .int tn, .int (nI na), .int wr, .int pl])), (po, .inl (E.2.1 1, 32, .inl fo)), (pd, .inl (E.2.1 1, 32, .inl fd2_11))] 4 73 := by
    intro fu
    induction fu with
    | zero => intro i1 nm1 hi1 hmeas; exact absurd hmeas (Nat.not_lt_zero _)
    | succ fu ih_81 =>
      intro i1 nm1 hi1 hmeas
      refine ww_iload_n C dX5_made_81 0 rfl rfl ?_
      refine ww_aload_n C dX5_made_82 2 rfl rfl ?_
      refine ww_get C fg_X5_31 6 rfl rfl dX5_made_83 ?_
      refine ww_icmp_ge (tgt := 119) C dX5_made_86 (by decide) (fun c_13 => ?_) (fun c_13 => ?_)
      · have zc_13 : ((i1 : Nat) : Int) ≥ ((nn : Nat) : Int) := i_le (nI_toInt (n := nn) (by omega)) (nI_toInt (n := i1) (by omega)) c_13
        refine ww_aload_n C dX5_made_119 1 rfl rfl ?_
        refine ww_eq (st' := [va_rf (some q_1)]) ?_ rfl rfl rfl
        exact ww_qret (u := [(qs, .inr (5, [.ref qt, .ref po, .ref pa, .ref pf, .ref pd, .int (nI nn), .int tn, .int (nI na), .int wr, .int pl])), (po, .inl (E.2.1 1, 32, .inl fo)), (pa, .inl (E.2.1 1, 32, .inl fa)), (pf, .inl (E.2.1 1, 2, .inl af)), (pd, .inl (E.2.1 1, 32, .inl fd2_11)), (q_1, .inr (8, [.ref sx_3, .ref sy_4, .int tn, .int (nI na), .ref sz_5, .int r_10, .int nm1])), (sx_3, .inl (E.2.1 1, nn, .inl f_7)), (sy_4, .inl (E.2.1 1, nn, .inl f_8)), (sz_5, .inl (E.2.1 1, 2, .inl f_9))]) C hT (Or.inl ⟨_, rfl⟩) [6, 7, 0, 1, 8, 2, 3, 4, 5] rfl rfl rfl rfl dX5_made_120 (⟨q_1, sx_3, sy_4, sz_5, r_10, nm1, fd2_11, f_7, f_8, f_9, rfl, rfl, ⟨WFs.cpy hwf ef_7, AFI.cpy hafi ef_9⟩, (fun i hi => ⟨cpy_at ef_7 hi, cpy_at ef_8 hi⟩), (fun i hi => cpy_at ef_9 hi)⟩)
      · have zc_13 : ((i1 : Nat) : Int) < ((nn : Nat) : Int) := i_nle (nI_toInt (n := nn) (by omega)) (nI_toInt (n := i1) (by omega)) c_13
        refine ww_aload_n C dX5_made_89 2 rfl rfl ?_
        refine ww_get C fg_X5_18 6 rfl rfl dX5_made_90 ?_
        refine ww_iload_n C dX5_made_93 0 rfl rfl ?_
        obtain ⟨x_14, ex_14⟩ : ∃ z : Int32, fo i1 = z := ⟨_, rfl⟩
        refine ww_iald (v := x_14) C 7 rfl (vp_in_nI (by omega) (by omega)) (ldn (by omega) ex_14) dX5_made_94 ?_
        refine ww_if_ne (tgt := 113) C dX5_made_95 (by decide) (fun c_15 => ?_) (fun c_15 => ?_)
        · have zc_15 : x_14.toInt ≠ 0 := i_ne rfl rfl c_15
          refine ww_iinc (j := 0) (v := (nI (i1 + 1))) (lv' := [(2, .int (nI (i1 + 1))), (1, .ref q_1), (0, .ref qs)]) C dX5_made_113 rfl (nI_add i1 1) rfl rfl ?_
          refine ww_goto (tgt := 81) C dX5_made_116 (by decide) ?_
          exact ww_lv [0, 1, 2] rfl (ww_sub [0, 1, 2, 3, 4, 5, 6, 7, 8] rfl rfl (ih_81 (i1 + 1) nm1 (by omega) (by omega)))
        · have zc_15 : x_14.toInt = 0 := i_eq rfl rfl c_15
          refine ww_aload_n C dX5_made_98 1 rfl rfl ?_
          refine ww_dup C dX5_made_99 rfl ?_
          refine ww_get C fg_X5_163 2 rfl rfl dX5_made_100 ?_
          refine ww_aload_n C dX5_made_103 2 rfl rfl ?_
          refine ww_get C fg_X5_22 6 rfl rfl dX5_made_104 ?_
          refine ww_iload_n C dX5_made_107 0 rfl rfl ?_
          obtain ⟨x_16, ex_16⟩ : ∃ z : Int32, fa i1 = z := ⟨_, rfl⟩
          refine ww_iald (v := x_16) C 0 rfl (vp_in_nI (by omega) (by omega)) (ldn (by omega) ex_16) dX5_made_108 ?_
          obtain ⟨x_17, ex_17⟩ : ∃ z : Int32, nm1 ||| x_16 = z := ⟨_, rfl⟩
          refine ww_ior (v := x_17) C dX5_made_109 ex_17 ?_
          refine ww_put (ws' := [(pa, .inl (E.2.1 1, 32, .inl fa)), (pf, .inl (E.2.1 1, 2, .inl af)), (q_1, .inr (8, [.ref sx_3, .ref sy_4, .int tn, .int (nI na), .ref sz_5, .int r_10, .int x_17])), (sx_3, .inl (E.2.1 1, nn, .inl f_7)), (sy_4, .inl (E.2.1 1, nn, .inl f_8)), (sz_5, .inl (E.2.1 1, 2, .inl f_9)), (qs, .inr (5, [.ref qt, .ref po, .ref pa, .ref pf, .ref pd, .int (nI nn), .int tn, .int (nI na), .int wr, .int pl])), (po, .inl (E.2.1 1, 32, .inl fo)), (pd, .inl (E.2.1 1, 32, .inl fd2_11))]) C fp_X5_163 2 rfl rfl rfl rfl rfl dX5_made_110 ?_
          refine ww_iinc (j := 0) (v := (nI (i1 + 1))) (lv' := [(2, .int (nI (i1 + 1))), (1, .ref q_1), (0, .ref qs)]) C dX5_made_113 rfl (nI_add i1 1) rfl rfl ?_
          refine ww_goto (tgt := 81) C dX5_made_116 (by decide) ?_
          exact ww_lv [0, 1, 2] rfl (ww_sub [0, 1, 2, 3, 4, 5, 6, 7, 8] rfl rfl (ih_81 (i1 + 1) x_17 (by omega) (by omega)))
  exact ww_lv [0, 1, 2] rfl (ww_sub [0, 1, 2, 3, 4, 5, 6, 7, 8] rfl rfl (loop_81 _ 0 0 (by omega) (Nat.lt_succ_self _)))
