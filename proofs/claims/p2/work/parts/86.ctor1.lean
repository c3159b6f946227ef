theorem dX4_init_0 : decode cX4_init 0 = .ok (.aload_n 0, 1) := by decide +kernel
theorem dX4_init_1 : decode cX4_init 1 = .ok (.invokespecial 3, 3) := by decide +kernel
theorem wl_X4_3 : Cond.methodLink RX4 3 objectInit ∈ TB := tbm (tq1 (List.mem_of_getElem? (i := 34) (by decide +kernel))) (by decide +kernel)
theorem dX4_init_4 : decode cX4_init 4 = .ok (.aload_n 0, 1) := by decide +kernel
theorem dX4_init_5 : decode cX4_init 5 = .ok (.bipush 24, 2) := by decide +kernel
theorem dX4_init_7 : decode cX4_init 7 = .ok (.newarray .int, 2) := by decide +kernel
theorem dX4_init_9 : decode cX4_init 9 = .ok (.putfield 9, 3) := by decide +kernel
theorem fp_X4_9 : FP RX4 9 4 2 (.array .int) true := ⟨RX4, TX4, 4, tyX4, uw_X4, wf_X4_9, rfl, by decide, rfl, tyX4_ok, nmX4, rfl, by decide +kernel⟩
theorem dX4_init_12 : decode cX4_init 12 = .ok (.aload_n 0, 1) := by decide +kernel
theorem dX4_init_13 : decode cX4_init 13 = .ok (.bipush 96, 2) := by decide +kernel
theorem dX4_init_15 : decode cX4_init 15 = .ok (.newarray .int, 2) := by decide +kernel
theorem dX4_init_17 : decode cX4_init 17 = .ok (.putfield 15, 3) := by decide +kernel
theorem fp_X4_15 : FP RX4 15 4 3 (.array .int) true := ⟨RX4, TX4, 4, tyX4, uw_X4, wf_X4_15, rfl, by decide, rfl, tyX4_ok, nmX4, rfl, by decide +kernel⟩
theorem dX4_init_20 : decode cX4_init 20 = .ok (.return_, 1) := by decide +kernel
set_option maxRecDepth 100000 in
set_option maxHeartbeats 4000000 in
theorem k_Model (l : Launch) (E : EV) (ro : va_W) (h : Nat)  : CT l yX4_init (Cond.code yX4_init cX4_init 1 none :: TB) ({ frames := 1, cells := 2, slots := 120, locals := 12 }) E ro [.ref h] [(h, .inr (4, [.int 0, .int 0, .null, .null]))] (Qv E (fun uz => (∃ (a : Nat) (b : Nat), uz = [(h, .inr (4, [.int 0, .int 0, .ref a, .ref b])), (a, .inl (E.2.1 1, 24, .inl (fun _ => 0))), (b, .inl (E.2.1 1, 96, .inl (fun _ => 0)))]))) 2 120 := by
  refine ct_of rfl rfl ?_
  intro X C hT hin hro
  show WW X 1 E 0 [(0, .ref h)] [] [(h, .inr (4, [.int 0, .int 0, .null, .null]))] 0 0
  refine ww_aload_n C dX4_init_0 0 rfl rfl ?_
  refine ww_objInit C wl_X4_3 wi_obj wc_obj rfl dX4_init_1 ?_
  refine ww_aload_n C dX4_init_4 0 rfl rfl ?_
  refine ww_bipush (v := 24) C dX4_init_5 rfl ?_
  refine ww_newi (N := 24) (k' := 1) (n' := 24) C wa_int (by decide) rfl rfl rfl dX4_init_7 (fun q_1 => ?_)
  refine ww_eq (ws' := [(h, .inr (4, [.int 0, .int 0, .null, .null])), (q_1, .inl (E.2.1 1, 24, .inl (fun _ => 0)))]) ?_ rfl rfl rfl
  refine ww_putF (ws' := [(h, .inr (4, [.int 0, .int 0, .ref q_1, .null])), (q_1, .inl (E.2.1 1, 24, .inl (fun _ => 0)))]) C fp_X4_9 hin ⟨_, _, rfl⟩ 0 rfl rfl rfl rfl rfl dX4_init_9 ?_
  refine ww_aload_n C dX4_init_12 0 rfl rfl ?_
  refine ww_bipush (v := 96) C dX4_init_13 rfl ?_
  refine ww_newi (N := 96) (k' := 2) (n' := 120) C wa_int (by decide) rfl rfl rfl dX4_init_15 (fun q_2 => ?_)
  refine ww_eq (ws' := [(h, .inr (4, [.int 0, .int 0, .ref q_1, .null])), (q_1, .inl (E.2.1 1, 24, .inl (fun _ => 0))), (q_2, .inl (E.2.1 1, 96, .inl (fun _ => 0)))]) ?_ rfl rfl rfl
  refine ww_putF (ws' := [(h, .inr (4, [.int 0, .int 0, .ref q_1, .ref q_2])), (q_1, .inl (E.2.1 1, 24, .inl (fun _ => 0))), (q_2, .inl (E.2.1 1, 96, .inl (fun _ => 0)))]) C fp_X4_15 hin ⟨_, _, rfl⟩ 0 rfl rfl rfl rfl rfl dX4_init_17 ?_
  exact ww_vret (u := [(h, .inr (4, [.int 0, .int 0, .ref q_1, .ref q_2])), (q_1, .inl (E.2.1 1, 24, .inl (fun _ => 0))), (q_2, .inl (E.2.1 1, 96, .inl (fun _ => 0)))]) C hT [0, 1, 2] rfl rfl rfl rfl dX4_init_20 (⟨q_1, q_2, rfl⟩)
theorem dX10_init_0 : decode cX10_init 0 = .ok (.aload_n 0, 1) := by decide +kernel
theorem dX10_init_1 : decode cX10_init 1 = .ok (.invokespecial 3, 3) := by decide +kernel
theorem wl_X10_3 : Cond.methodLink RX10 3 objectInit ∈ TB := tbm (tq1 (List.mem_of_getElem? (i := 77) (by decide +kernel))) (by decide +kernel)
theorem dX10_init_4 : decode cX10_init 4 = .ok (.aload_n 0, 1) := by decide +kernel
theorem dX10_init_5 : decode cX10_init 5 = .ok (.sipush 160, 3) := by decide +kernel
theorem dX10_init_8 : decode cX10_init 8 = .ok (.newarray .byte, 2) := by decide +kernel
theorem wa_byte : Cond.arrayClass .byte ∈ TB := tbm (tq1 (List.mem_of_getElem? (i := 97) (by decide +kernel))) (by decide +kernel)
theorem dX10_init_10 : decode cX10_init 10 = .ok (.putfield 9, 3) := by decide +kernel
theorem fp_X10_9 : FP RX10 9 10 0 (.array .byte) true := ⟨RX10, TX10, 5, tyX10, uw_X10, wf_X10_9, rfl, by decide, rfl, tyX10_ok, nmX10, rfl, by decide +kernel⟩
theorem dX10_init_13 : decode cX10_init 13 = .ok (.return_, 1) := by decide +kernel
set_option maxRecDepth 100000 in
set_option maxHeartbeats 4000000 in
theorem k_Tape (l : Launch) (E : EV) (ro : va_W) (h : Nat)  : CT l yX10_init (Cond.code yX10_init cX10_init 1 none :: TB) ({ frames := 1, cells := 1, slots := 160, locals := 12 }) E ro [.ref h] [(h, .inr (10, [.null, .int 0, .int 0, .int 0, .int 0]))] (Qv E (fun uz => (∃ (a : Nat), uz = [(h, .inr (10, [.ref a, .int 0, .int 0, .int 0, .int 0])), (a, .inl (E.2.1 0, 160, .inl (fun _ => 0)))]))) 1 160 := by
  refine ct_of rfl rfl ?_
  intro X C hT hin hro
  show WW X 1 E 0 [(0, .ref h)] [] [(h, .inr (10, [.null, .int 0, .int 0, .int 0, .int 0]))] 0 0
  refine ww_aload_n C dX10_init_0 0 rfl rfl ?_
  refine ww_objInit C wl_X10_3 wi_obj wc_obj rfl dX10_init_1 ?_
  refine ww_aload_n C dX10_init_4 0 rfl rfl ?_
  refine ww_sipush (v := 160) C dX10_init_5 rfl ?_
  refine ww_newb (N := 160) (k' := 1) (n' := 160) C wa_byte (by decide) rfl rfl rfl dX10_init_8 (fun q_1 => ?_)
  refine ww_eq (ws' := [(h, .inr (10, [.null, .int 0, .int 0, .int 0, .int 0])), (q_1, .inl (E.2.1 0, 160, .inl (fun _ => 0)))]) ?_ rfl rfl rfl
  refine ww_putF (ws' := [(h, .inr (10, [.ref q_1, .int 0, .int 0, .int 0, .int 0])), (q_1, .inl (E.2.1 0, 160, .inl (fun _ => 0)))]) C fp_X10_9 hin ⟨_, _, rfl⟩ 0 rfl rfl rfl rfl rfl dX10_init_10 ?_
  exact ww_vret (u := [(h, .inr (10, [.ref q_1, .int 0, .int 0, .int 0, .int 0])), (q_1, .inl (E.2.1 0, 160, .inl (fun _ => 0)))]) C hT [0, 1] rfl rfl rfl rfl dX10_init_13 (⟨q_1, rfl⟩)
theorem dX5_init_0 : decode cX5_init 0 = .ok (.aload_n 0, 1) := by decide +kernel
theorem dX5_init_1 : decode cX5_init 1 = .ok (.invokespecial 3, 3) := by decide +kernel
theorem wl_X5_3 : Cond.methodLink RX5 3 objectInit ∈ TB := tbm (tq1 (List.mem_of_getElem? (i := 71) (by decide +kernel))) (by decide +kernel)
theorem dX5_init_4 : decode cX5_init 4 = .ok (.aload_n 0, 1) := by decide +kernel
theorem dX5_init_5 : decode cX5_init 5 = .ok (.new 9, 3) := by decide +kernel
theorem wk_X5_9 : Cond.classLink RX5 9 RX10 ∈ TB := tbm (tq1 (List.mem_of_getElem? (i := 72) (by decide +kernel))) (by decide +kernel)
theorem wq_X10 : Cond.instantiable RX10 5 ∈ TB := tbm (tq1 (List.mem_of_getElem? (i := 73) (by decide +kernel))) (by decide +kernel)
theorem cn_X5_9 : CN RX5 9 10 5 [.null, .int 0, .int 0, .int 0, .int 0] := ⟨RX10, TX10, tyX10, uw_X10, wk_X5_9, wq_X10, wn_X10, rfl, tyX10_ok, by decide +kernel⟩
theorem dX5_init_8 : decode cX5_init 8 = .ok (.dup, 1) := by decide +kernel
theorem dX5_init_9 : decode cX5_init 9 = .ok (.invokespecial 11, 3) := by decide +kernel
theorem wc_X10_init : Cond.code yX10_init cX10_init 1 none ∈ TB := tbm (tq1 (List.mem_of_getElem? (i := 76) (rfl))) (by decide +kernel)
theorem wi_X10_init : Cond.instanceMethod yX10_init ∈ TB := tbm (tq1 (List.mem_of_getElem? (i := 75) (by decide +kernel))) (by decide +kernel)
theorem mn_X10_init : MN yX10_init cX10_init 1 0 := ⟨wc_X10_init, wn_X10, ⟨by decide +kernel, by decide +kernel, by decide +kernel⟩, wi_X10_init, rfl⟩
theorem dX5_init_12 : decode cX5_init 12 = .ok (.putfield 12, 3) := by decide +kernel
theorem fp_X5_12 : FP RX5 12 5 0 (.object "WhoKnows$Tape") true := ⟨RX5, TX5, 10, tyX5, uw_X5, wf_X5_12, rfl, by decide, rfl, tyX5_ok, nmX5, rfl, by decide +kernel⟩
theorem dX5_init_15 : decode cX5_init 15 = .ok (.aload_n 0, 1) := by decide +kernel
theorem dX5_init_16 : decode cX5_init 16 = .ok (.bipush 32, 2) := by decide +kernel
theorem dX5_init_18 : decode cX5_init 18 = .ok (.newarray .int, 2) := by decide +kernel
theorem dX5_init_20 : decode cX5_init 20 = .ok (.putfield 18, 3) := by decide +kernel
theorem fp_X5_18 : FP RX5 18 5 1 (.array .int) true := ⟨RX5, TX5, 10, tyX5, uw_X5, wf_X5_18, rfl, by decide, rfl, tyX5_ok, nmX5, rfl, by decide +kernel⟩
theorem dX5_init_23 : decode cX5_init 23 = .ok (.aload_n 0, 1) := by decide +kernel
theorem dX5_init_24 : decode cX5_init 24 = .ok (.bipush 32, 2) := by decide +kernel
theorem dX5_init_26 : decode cX5_init 26 = .ok (.newarray .int, 2) := by decide +kernel
theorem dX5_init_28 : decode cX5_init 28 = .ok (.putfield 22, 3) := by decide +kernel
theorem fp_X5_22 : FP RX5 22 5 2 (.array .int) true := ⟨RX5, TX5, 10, tyX5, uw_X5, wf_X5_22, rfl, by decide, rfl, tyX5_ok, nmX5, rfl, by decide +kernel⟩
theorem dX5_init_31 : decode cX5_init 31 = .ok (.aload_n 0, 1) := by decide +kernel
theorem dX5_init_32 : decode cX5_init 32 = .ok (.iconst 2, 1) := by decide +kernel
theorem dX5_init_33 : decode cX5_init 33 = .ok (.newarray .int, 2) := by decide +kernel
theorem dX5_init_35 : decode cX5_init 35 = .ok (.putfield 25, 3) := by decide +kernel
theorem fp_X5_25 : FP RX5 25 5 3 (.array .int) true := ⟨RX5, TX5, 10, tyX5, uw_X5, wf_X5_25, rfl, by decide, rfl, tyX5_ok, nmX5, rfl, by decide +kernel⟩
theorem dX5_init_38 : decode cX5_init 38 = .ok (.aload_n 0, 1) := by decide +kernel
theorem dX5_init_39 : decode cX5_init 39 = .ok (.bipush 32, 2) := by decide +kernel
theorem dX5_init_41 : decode cX5_init 41 = .ok (.newarray .int, 2) := by decide +kernel
theorem dX5_init_43 : decode cX5_init 43 = .ok (.putfield 28, 3) := by decide +kernel
theorem fp_X5_28 : FP RX5 28 5 4 (.array .int) true := ⟨RX5, TX5, 10, tyX5, uw_X5, wf_X5_28, rfl, by decide, rfl, tyX5_ok, nmX5, rfl, by decide +kernel⟩
theorem dX5_init_46 : decode cX5_init 46 = .ok (.return_, 1) := by decide +kernel
set_option maxRecDepth 100000 in
set_option maxHeartbeats 4000000 in
theorem k_Parser (l : Launch) (E : EV) (ro : va_W) (qs : Nat)  : CT l yX5_init (Cond.code yX5_init cX5_init 1 none :: TB) ({ frames := 2, cells := 6, slots := 263, locals := 32 }) E ro [.ref qs] [(qs, .inr (5, [.null, .null, .null, .null, .null, .int 0, .int 0, .int 0, .int 0, .int 0]))] (Qv E (fun uz => (∃ (qt : Nat) (po : Nat) (pa : Nat) (pf : Nat) (pd : Nat) (tb : Nat), uz = [(qs, .inr (5, [.ref qt, .ref po, .ref pa, .ref pf, .ref pd, .int 0, .int 0, .int 0, .int 0, .int 0])), (qt, .inr (10, [.ref tb, .int 0, .int 0, .int 0, .int 0])), (tb, .inl (E.2.1 0, 160, .inl (fun _ => 0))), (po, .inl (E.2.1 1, 32, .inl (fun _ => 0))), (pa, .inl (E.2.1 1, 32, .inl (fun _ => 0))), (pf, .inl (E.2.1 1, 2, .inl (fun _ => 0))), (pd, .inl (E.2.1 1, 32, .inl (fun _ => 0)))]))) 6 263 := by
  refine ct_of rfl rfl ?_
  intro X C hT hin hro
  show WW X 1 E 0 [(0, .ref qs)] [] [(qs, .inr (5, [.null, .null, .null, .null, .null, .int 0, .int 0, .int 0, .int 0, .int 0]))] 0 0
  refine ww_aload_n C dX5_init_0 0 rfl rfl ?_
  refine ww_objInit C wl_X5_3 wi_obj wc_obj rfl dX5_init_1 ?_
  refine ww_aload_n C dX5_init_4 0 rfl rfl ?_
  refine ww_new (k' := 1) (n' := 5) C cn_X5_9 rfl dX5_init_5 (fun q_1 => ?_)
  refine ww_eq (ws' := [(qs, .inr (5, [.null, .null, .null, .null, .null, .int 0, .int 0, .int 0, .int 0, .int 0])), (q_1, .inr (10, [.null, .int 0, .int 0, .int 0, .int 0]))]) ?_ rfl rfl rfl
  refine ww_dup C dX5_init_8 rfl ?_
  refine ww_cv (wr := [(qs, .inr (5, [.null, .null, .null, .null, .null, .int 0, .int 0, .int 0, .int 0, .int 0]))]) (k' := 2) (n' := 165) C (run_IN (As := []) (rest := [.ref q_1, .ref qs]) C (k_Tape X.2.1 E ro q_1) mn_X10_init (List.mem_of_getElem? (i := 2) rfl) rfl rfl rfl rfl dX5_init_9) (roK hro) [1] [0] rfl rfl rfl rfl (fun uz hw => ?_)
  refine ex1 hw ?_
  clear hw
  intro a_3 hw
  have he_4 := hw
  clear hw
  subst he_4
  refine ww_eq (ws' := [(qs, .inr (5, [.null, .null, .null, .null, .null, .int 0, .int 0, .int 0, .int 0, .int 0])), (q_1, .inr (10, [.ref a_3, .int 0, .int 0, .int 0, .int 0])), (a_3, .inl (E.2.1 0, 160, .inl (fun _ => 0)))]) ?_ rfl rfl rfl
  refine ww_putF (ws' := [(qs, .inr (5, [.ref q_1, .null, .null, .null, .null, .int 0, .int 0, .int 0, .int 0, .int 0])), (q_1, .inr (10, [.ref a_3, .int 0, .int 0, .int 0, .int 0])), (a_3, .inl (E.2.1 0, 160, .inl (fun _ => 0)))]) C fp_X5_12 hin ⟨_, _, rfl⟩ 0 rfl rfl rfl rfl rfl dX5_init_12 ?_
  refine ww_aload_n C dX5_init_15 0 rfl rfl ?_
  refine ww_bipush (v := 32) C dX5_init_16 rfl ?_
  refine ww_newi (N := 32) (k' := 3) (n' := 197) C wa_int (by decide) rfl rfl rfl dX5_init_18 (fun q_5 => ?_)
  refine ww_eq (ws' := [(qs, .inr (5, [.ref q_1, .null, .null, .null, .null, .int 0, .int 0, .int 0, .int 0, .int 0])), (q_1, .inr (10, [.ref a_3, .int 0, .int 0, .int 0, .int 0])), (a_3, .inl (E.2.1 0, 160, .inl (fun _ => 0))), (q_5, .inl (E.2.1 1, 32, .inl (fun _ => 0)))]) ?_ rfl rfl rfl
  refine ww_putF (ws' := [(qs, .inr (5, [.ref q_1, .ref q_5, .null, .null, .null, .int 0, .int 0, .int 0, .int 0, .int 0])), (q_1, .inr (10, [.ref a_3, .int 0, .int 0, .int 0, .int 0])), (a_3, .inl (E.2.1 0, 160, .inl (fun _ => 0))), (q_5, .inl (E.2.1 1, 32, .inl (fun _ => 0)))]) C fp_X5_18 hin ⟨_, _, rfl⟩ 0 rfl rfl rfl rfl rfl dX5_init_20 ?_
  refine ww_aload_n C dX5_init_23 0 rfl rfl ?_
  refine ww_bipush (v := 32) C dX5_init_24 rfl ?_
  refine ww_newi (N := 32) (k' := 4) (n' := 229) C wa_int (by decide) rfl rfl rfl dX5_init_26 (fun q_6 => ?_)
  refine ww_eq (ws' := [(qs, .inr (5, [.ref q_1, .ref q_5, .null, .null, .null, .int 0, .int 0, .int 0, .int 0, .int 0])), (q_1, .inr (10, [.ref a_3, .int 0, .int 0, .int 0, .int 0])), (a_3, .inl (E.2.1 0, 160, .inl (fun _ => 0))), (q_5, .inl (E.2.1 1, 32, .inl (fun _ => 0))), (q_6, .inl (E.2.1 1, 32, .inl (fun _ => 0)))]) ?_ rfl rfl rfl
  refine ww_putF (ws' := [(qs, .inr (5, [.ref q_1, .ref q_5, .ref q_6, .null, .null, .int 0, .int 0, .int 0, .int 0, .int 0])), (q_1, .inr (10, [.ref a_3, .int 0, .int 0, .int 0, .int 0])), (a_3, .inl (E.2.1 0, 160, .inl (fun _ => 0))), (q_5, .inl (E.2.1 1, 32, .inl (fun _ => 0))), (q_6, .inl (E.2.1 1, 32, .inl (fun _ => 0)))]) C fp_X5_22 hin ⟨_, _, rfl⟩ 0 rfl rfl rfl rfl rfl dX5_init_28 ?_
  refine ww_aload_n C dX5_init_31 0 rfl rfl ?_
  refine ww_iconst (v := 2) C dX5_init_32 rfl ?_
  refine ww_newi (N := 2) (k' := 5) (n' := 231) C wa_int (by decide) rfl rfl rfl dX5_init_33 (fun q_7 => ?_)
  refine ww_eq (ws' := [(qs, .inr (5, [.ref q_1, .ref q_5, .ref q_6, .null, .null, .int 0, .int 0, .int 0, .int 0, .int 0])), (q_1, .inr (10, [.ref a_3, .int 0, .int 0, .int 0, .int 0])), (a_3, .inl (E.2.1 0, 160, .inl (fun _ => 0))), (q_5, .inl (E.2.1 1, 32, .inl (fun _ => 0))), (q_6, .inl (E.2.1 1, 32, .inl (fun _ => 0))), (q_7, .inl (E.2.1 1, 2, .inl (fun _ => 0)))]) ?_ rfl rfl rfl
  refine ww_putF (ws' := [(qs, .inr (5, [.ref q_1, .ref q_5, .ref q_6, .ref q_7, .null, .int 0, .int 0, .int 0, .int 0, .int 0])), (q_1, .inr (10, [.ref a_3, .int 0, .int 0, .int 0, .int 0])), (a_3, .inl (E.2.1 0, 160, .inl (fun _ => 0))), (q_5, .inl (E.2.1 1, 32, .inl (fun _ => 0))), (q_6, .inl (E.2.1 1, 32, .inl (fun _ => 0))), (q_7, .inl (E.2.1 1, 2, .inl (fun _ => 0)))]) C fp_X5_25 hin ⟨_, _, rfl⟩ 0 rfl rfl rfl rfl rfl dX5_init_35 ?_
  refine ww_aload_n C dX5_init_38 0 rfl rfl ?_
  refine ww_bipush (v := 32) C dX5_init_39 rfl ?_
  refine ww_newi (N := 32) (k' := 6) (n' := 263) C wa_int (by decide) rfl rfl rfl dX5_init_41 (fun q_8 => ?_)
  refine ww_eq (ws' := [(qs, .inr (5, [.ref q_1, .ref q_5, .ref q_6, .ref q_7, .null, .int 0, .int 0, .int 0, .int 0, .int 0])), (q_1, .inr (10, [.ref a_3, .int 0, .int 0, .int 0, .int 0])), (a_3, .inl (E.2.1 0, 160, .inl (fun _ => 0))), (q_5, .inl (E.2.1 1, 32, .inl (fun _ => 0))), (q_6, .inl (E.2.1 1, 32, .inl (fun _ => 0))), (q_7, .inl (E.2.1 1, 2, .inl (fun _ => 0))), (q_8, .inl (E.2.1 1, 32, .inl (fun _ => 0)))]) ?_ rfl rfl rfl
  refine ww_putF (ws' := [(qs, .inr (5, [.ref q_1, .ref q_5, .ref q_6, .ref q_7, .ref q_8, .int 0, .int 0, .int 0, .int 0, .int 0])), (q_1, .inr (10, [.ref a_3, .int 0, .int 0, .int 0, .int 0])), (a_3, .inl (E.2.1 0, 160, .inl (fun _ => 0))), (q_5, .inl (E.2.1 1, 32, .inl (fun _ => 0))), (q_6, .inl (E.2.1 1, 32, .inl (fun _ => 0))), (q_7, .inl (E.2.1 1, 2, .inl (fun _ => 0))), (q_8, .inl (E.2.1 1, 32, .inl (fun _ => 0)))]) C fp_X5_28 hin ⟨_, _, rfl⟩ 0 rfl rfl rfl rfl rfl dX5_init_43 ?_
  exact ww_vret (u := [(qs, .inr (5, [.ref q_1, .ref q_5, .ref q_6, .ref q_7, .ref q_8, .int 0, .int 0, .int 0, .int 0, .int 0])), (q_1, .inr (10, [.ref a_3, .int 0, .int 0, .int 0, .int 0])), (a_3, .inl (E.2.1 0, 160, .inl (fun _ => 0))), (q_5, .inl (E.2.1 1, 32, .inl (fun _ => 0))), (q_6, .inl (E.2.1 1, 32, .inl (fun _ => 0))), (q_7, .inl (E.2.1 1, 2, .inl (fun _ => 0))), (q_8, .inl (E.2.1 1, 32, .inl (fun _ => 0)))]) C hT [0, 1, 2, 3, 4, 5, 6] rfl rfl rfl rfl dX5_init_46 (⟨q_1, q_5, q_6, q_7, q_8, a_3, rfl⟩)
theorem dX0_init_0 : decode cX0_init 0 = .ok (.aload_n 0, 1) := by decide +kernel
theorem dX0_init_1 : decode cX0_init 1 = .ok (.invokespecial 3, 3) := by decide +kernel
theorem wl_X0_3 : Cond.methodLink RX0 3 objectInit ∈ TB := tbm (tq1 (List.mem_of_getElem? (i := 148) (by decide +kernel))) (by decide +kernel)
theorem dX0_init_4 : decode cX0_init 4 = .ok (.aload_n 0, 1) := by decide +kernel
theorem dX0_init_5 : decode cX0_init 5 = .ok (.iconst 4, 1) := by decide +kernel
theorem dX0_init_6 : decode cX0_init 6 = .ok (.anewarray 9, 3) := by decide +kernel
theorem wk_X0_9 : Cond.classLink RX0 9 RX8 ∈ TB := tbm (tq1 (List.mem_of_getElem? (i := 149) (by decide +kernel))) (by decide +kernel)
theorem dX0_init_9 : decode cX0_init 9 = .ok (.putfield 11, 3) := by decide +kernel
theorem fp_X0_11 : FP RX0 11 0 2 (.array (.object "WhoKnows$Saying")) true := ⟨RX0, TX0, 6, tyX0, uw_X0, wf_X0_11, rfl, by decide, rfl, tyX0_ok, nmX0, rfl, by decide +kernel⟩
theorem dX0_init_12 : decode cX0_init 12 = .ok (.aload_n 0, 1) := by decide +kernel
theorem dX0_init_13 : decode cX0_init 13 = .ok (.iconst 4, 1) := by decide +kernel
theorem dX0_init_14 : decode cX0_init 14 = .ok (.newarray .int, 2) := by decide +kernel
theorem dX0_init_16 : decode cX0_init 16 = .ok (.putfield 17, 3) := by decide +kernel
theorem fp_X0_17 : FP RX0 17 0 3 (.array .int) true := ⟨RX0, TX0, 6, tyX0, uw_X0, wf_X0_17, rfl, by decide, rfl, tyX0_ok, nmX0, rfl, by decide +kernel⟩
theorem dX0_init_19 : decode cX0_init 19 = .ok (.aload_n 0, 1) := by decide +kernel
theorem dX0_init_20 : decode cX0_init 20 = .ok (.iconst 4, 1) := by decide +kernel
theorem dX0_init_21 : decode cX0_init 21 = .ok (.newarray .int, 2) := by decide +kernel
theorem dX0_init_23 : decode cX0_init 23 = .ok (.putfield 21, 3) := by decide +kernel
theorem fp_X0_21 : FP RX0 21 0 4 (.array .int) true := ⟨RX0, TX0, 6, tyX0, uw_X0, wf_X0_21, rfl, by decide, rfl, tyX0_ok, nmX0, rfl, by decide +kernel⟩
theorem dX0_init_26 : decode cX0_init 26 = .ok (.aload_n 0, 1) := by decide +kernel
theorem dX0_init_27 : decode cX0_init 27 = .ok (.bipush 16, 2) := by decide +kernel
theorem dX0_init_29 : decode cX0_init 29 = .ok (.newarray .int, 2) := by decide +kernel
theorem dX0_init_31 : decode cX0_init 31 = .ok (.putfield 24, 3) := by decide +kernel
theorem fp_X0_24 : FP RX0 24 0 5 (.array .int) true := ⟨RX0, TX0, 6, tyX0, uw_X0, wf_X0_24, rfl, by decide, rfl, tyX0_ok, nmX0, rfl, by decide +kernel⟩
theorem dX0_init_34 : decode cX0_init 34 = .ok (.return_, 1) := by decide +kernel
set_option maxRecDepth 100000 in
set_option maxHeartbeats 4000000 in
theorem k_Event (l : Launch) (E : EV) (ro : va_W) (q : Nat)  : CT l yX0_init (Cond.code yX0_init cX0_init 1 none :: TB) ({ frames := 1, cells := 4, slots := 28, locals := 12 }) E ro [.ref q] [(q, .inr (0, [.int 0, .int 0, .null, .null, .null, .null]))] (Qv E (fun uz => (∃ (qa : Nat) (qb : Nat) (qc : Nat) (qd : Nat), uz = [(q, .inr (0, [.int 0, .int 0, .ref qa, .ref qb, .ref qc, .ref qd])), (qa, .inl (E.2.1 7, 4, .inr (.inr (.inr (.inr (fun _ => none)))))), (qb, .inl (E.2.1 1, 4, .inl (fun _ => 0))), (qc, .inl (E.2.1 1, 4, .inl (fun _ => 0))), (qd, .inl (E.2.1 1, 16, .inl (fun _ => 0)))]))) 4 28 := by
  refine ct_of rfl rfl ?_
  intro X C hT hin hro
  show WW X 1 E 0 [(0, .ref q)] [] [(q, .inr (0, [.int 0, .int 0, .null, .null, .null, .null]))] 0 0
  refine ww_aload_n C dX0_init_0 0 rfl rfl ?_
  refine ww_objInit C wl_X0_3 wi_obj wc_obj rfl dX0_init_1 ?_
  refine ww_aload_n C dX0_init_4 0 rfl rfl ?_
  refine ww_iconst (v := 4) C dX0_init_5 rfl ?_
  refine ww_newq (N := 4) (t0 := 7) (Cn := "WhoKnows$Saying") (k' := 1) (n' := 4) C wk_X0_9 (by decide) rfl (by decide) rfl rfl rfl dX0_init_6 (fun q_1 => ?_)
  refine ww_eq (ws' := [(q, .inr (0, [.int 0, .int 0, .null, .null, .null, .null])), (q_1, .inl (E.2.1 7, 4, .inr (.inr (.inr (.inr (fun _ => none))))))]) ?_ rfl rfl rfl
  refine ww_putF (ws' := [(q, .inr (0, [.int 0, .int 0, .ref q_1, .null, .null, .null])), (q_1, .inl (E.2.1 7, 4, .inr (.inr (.inr (.inr (fun _ => none))))))]) C fp_X0_11 hin ⟨_, _, rfl⟩ 0 rfl rfl rfl rfl rfl dX0_init_9 ?_
  refine ww_aload_n C dX0_init_12 0 rfl rfl ?_
  refine ww_iconst (v := 4) C dX0_init_13 rfl ?_
  refine ww_newi (N := 4) (k' := 2) (n' := 8) C wa_int (by decide) rfl rfl rfl dX0_init_14 (fun q_2 => ?_)
  refine ww_eq (ws' := [(q, .inr (0, [.int 0, .int 0, .ref q_1, .null, .null, .null])), (q_1, .inl (E.2.1 7, 4, .inr (.inr (.inr (.inr (fun _ => none)))))), (q_2, .inl (E.2.1 1, 4, .inl (fun _ => 0)))]) ?_ rfl rfl rfl
  refine ww_putF (ws' := [(q, .inr (0, [.int 0, .int 0, .ref q_1, .ref q_2, .null, .null])), (q_1, .inl (E.2.1 7, 4, .inr (.inr (.inr (.inr (fun _ => none)))))), (q_2, .inl (E.2.1 1, 4, .inl (fun _ => 0)))]) C fp_X0_17 hin ⟨_, _, rfl⟩ 0 rfl rfl rfl rfl rfl dX0_init_16 ?_
  refine ww_aload_n C dX0_init_19 0 rfl rfl ?_
  refine ww_iconst (v := 4) C dX0_init_20 rfl ?_
  refine ww_newi (N := 4) (k' := 3) (n' := 12) C wa_int (by decide) rfl rfl rfl dX0_init_21 (fun q_3 => ?_)
  refine ww_eq (ws' := [(q, .inr (0, [.int 0, .int 0, .ref q_1, .ref q_2, .null, .null])), (q_1, .inl (E.2.1 7, 4, .inr (.inr (.inr (.inr (fun _ => none)))))), (q_2, .inl (E.2.1 1, 4, .inl (fun _ => 0))), (q_3, .inl (E.2.1 1, 4, .inl (fun _ => 0)))]) ?_ rfl rfl rfl
  refine ww_putF (ws' := [(q, .inr (0, [.int 0, .int 0, .ref q_1, .ref q_2, .ref q_3, .null])), (q_1, .inl (E.2.1 7, 4, .inr (.inr (.inr (.inr (fun _ => none)))))), (q_2, .inl (E.2.1 1, 4, .inl (fun _ => 0))), (q_3, .inl (E.2.1 1, 4, .inl (fun _ => 0)))]) C fp_X0_21 hin ⟨_, _, rfl⟩ 0 rfl rfl rfl rfl rfl dX0_init_23 ?_
  refine ww_aload_n C dX0_init_26 0 rfl rfl ?_
  refine ww_bipush (v := 16) C dX0_init_27 rfl ?_
  refine ww_newi (N := 16) (k' := 4) (n' := 28) C wa_int (by decide) rfl rfl rfl dX0_init_29 (fun q_4 => ?_)
  refine ww_eq (ws' := [(q, .inr (0, [.int 0, .int 0, .ref q_1, .ref q_2, .ref q_3, .null])), (q_1, .inl (E.2.1 7, 4, .inr (.inr (.inr (.inr (fun _ => none)))))), (q_2, .inl (E.2.1 1, 4, .inl (fun _ => 0))), (q_3, .inl (E.2.1 1, 4, .inl (fun _ => 0))), (q_4, .inl (E.2.1 1, 16, .inl (fun _ => 0)))]) ?_ rfl rfl rfl
  refine ww_putF (ws' := [(q, .inr (0, [.int 0, .int 0, .ref q_1, .ref q_2, .ref q_3, .ref q_4])), (q_1, .inl (E.2.1 7, 4, .inr (.inr (.inr (.inr (fun _ => none)))))), (q_2, .inl (E.2.1 1, 4, .inl (fun _ => 0))), (q_3, .inl (E.2.1 1, 4, .inl (fun _ => 0))), (q_4, .inl (E.2.1 1, 16, .inl (fun _ => 0)))]) C fp_X0_24 hin ⟨_, _, rfl⟩ 0 rfl rfl rfl rfl rfl dX0_init_31 ?_
  exact ww_vret (u := [(q, .inr (0, [.int 0, .int 0, .ref q_1, .ref q_2, .ref q_3, .ref q_4])), (q_1, .inl (E.2.1 7, 4, .inr (.inr (.inr (.inr (fun _ => none)))))), (q_2, .inl (E.2.1 1, 4, .inl (fun _ => 0))), (q_3, .inl (E.2.1 1, 4, .inl (fun _ => 0))), (q_4, .inl (E.2.1 1, 16, .inl (fun _ => 0)))]) C hT [0, 1, 2, 3, 4] rfl rfl rfl rfl dX0_init_34 (⟨q_1, q_2, q_3, q_4, rfl⟩)
theorem dX3_init_0 : decode cX3_init 0 = .ok (.aload_n 0, 1) := by decide +kernel
theorem dX3_init_1 : decode cX3_init 1 = .ok (.invokespecial 3, 3) := by decide +kernel
theorem wl_X3_3 : Cond.methodLink RX3 3 objectInit ∈ TB := tbm (tq1 (List.mem_of_getElem? (i := 184) (by decide +kernel))) (by decide +kernel)
theorem dX3_init_4 : decode cX3_init 4 = .ok (.aload_n 0, 1) := by decide +kernel
theorem dX3_init_5 : decode cX3_init 5 = .ok (.new 9, 3) := by decide +kernel
theorem wk_X3_9 : Cond.classLink RX3 9 RX4 ∈ TB := tbm (tq1 (List.mem_of_getElem? (i := 185) (by decide +kernel))) (by decide +kernel)
theorem wq_X4 : Cond.instantiable RX4 4 ∈ TB := tbm (tq1 (List.mem_of_getElem? (i := 30) (by decide +kernel))) (by decide +kernel)
theorem cn_X3_9 : CN RX3 9 4 4 [.int 0, .int 0, .null, .null] := ⟨RX4, TX4, tyX4, uw_X4, wk_X3_9, wq_X4, wn_X4, rfl, tyX4_ok, by decide +kernel⟩
theorem dX3_init_8 : decode cX3_init 8 = .ok (.dup, 1) := by decide +kernel
theorem dX3_init_9 : decode cX3_init 9 = .ok (.invokespecial 11, 3) := by decide +kernel
theorem wc_X4_init : Cond.code yX4_init cX4_init 1 none ∈ TB := tbm (tq1 (List.mem_of_getElem? (i := 33) (rfl))) (by decide +kernel)
theorem wi_X4_init : Cond.instanceMethod yX4_init ∈ TB := tbm (tq1 (List.mem_of_getElem? (i := 32) (by decide +kernel))) (by decide +kernel)
theorem mn_X4_init : MN yX4_init cX4_init 1 0 := ⟨wc_X4_init, wn_X4, ⟨by decide +kernel, by decide +kernel, by decide +kernel⟩, wi_X4_init, rfl⟩
theorem dX3_init_12 : decode cX3_init 12 = .ok (.putfield 12, 3) := by decide +kernel
theorem fp_X3_12 : FP RX3 12 3 0 (.object "WhoKnows$Model") true := ⟨RX3, TX3, 6, tyX3, uw_X3, wf_X3_12, rfl, by decide, rfl, tyX3_ok, nmX3, rfl, by decide +kernel⟩
theorem dX3_init_15 : decode cX3_init 15 = .ok (.aload_n 0, 1) := by decide +kernel
theorem dX3_init_16 : decode cX3_init 16 = .ok (.bipush 24, 2) := by decide +kernel
theorem dX3_init_18 : decode cX3_init 18 = .ok (.newarray .int, 2) := by decide +kernel
theorem dX3_init_20 : decode cX3_init 20 = .ok (.putfield 18, 3) := by decide +kernel
theorem fp_X3_18 : FP RX3 18 3 3 (.array .int) true := ⟨RX3, TX3, 6, tyX3, uw_X3, wf_X3_18, rfl, by decide, rfl, tyX3_ok, nmX3, rfl, by decide +kernel⟩
theorem dX3_init_23 : decode cX3_init 23 = .ok (.aload_n 0, 1) := by decide +kernel
theorem dX3_init_24 : decode cX3_init 24 = .ok (.bipush 24, 2) := by decide +kernel
theorem dX3_init_26 : decode cX3_init 26 = .ok (.newarray .int, 2) := by decide +kernel
theorem dX3_init_28 : decode cX3_init 28 = .ok (.putfield 22, 3) := by decide +kernel
theorem fp_X3_22 : FP RX3 22 3 4 (.array .int) true := ⟨RX3, TX3, 6, tyX3, uw_X3, wf_X3_22, rfl, by decide, rfl, tyX3_ok, nmX3, rfl, by decide +kernel⟩
theorem dX3_init_31 : decode cX3_init 31 = .ok (.aload_n 0, 1) := by decide +kernel
theorem dX3_init_32 : decode cX3_init 32 = .ok (.iconst 4, 1) := by decide +kernel
theorem dX3_init_33 : decode cX3_init 33 = .ok (.newarray .int, 2) := by decide +kernel
theorem dX3_init_35 : decode cX3_init 35 = .ok (.putfield 25, 3) := by decide +kernel
theorem fp_X3_25 : FP RX3 25 3 5 (.array .int) true := ⟨RX3, TX3, 6, tyX3, uw_X3, wf_X3_25, rfl, by decide, rfl, tyX3_ok, nmX3, rfl, by decide +kernel⟩
theorem dX3_init_38 : decode cX3_init 38 = .ok (.return_, 1) := by decide +kernel
set_option maxRecDepth 100000 in
set_option maxHeartbeats 4000000 in
theorem k_Layer (l : Launch) (E : EV) (ro : va_W) (ly : Nat)  : CT l yX3_init (Cond.code yX3_init cX3_init 1 none :: TB) ({ frames := 2, cells := 6, slots := 176, locals := 32 }) E ro [.ref ly] [(ly, .inr (3, [.null, .int 0, .int 0, .null, .null, .null]))] (Qv E (fun uz => (∃ (lym : Nat) (lyx : Nat) (lyy : Nat) (lyc : Nat) (lyf : Nat) (lyq : Nat), uz = [(ly, .inr (3, [.ref lym, .int 0, .int 0, .ref lyc, .ref lyf, .ref lyq])), (lyc, .inl (E.2.1 1, 24, .inl (fun _ => 0))), (lyf, .inl (E.2.1 1, 24, .inl (fun _ => 0))), (lyq, .inl (E.2.1 1, 4, .inl (fun _ => 0))), (lym, .inr (4, [.int 0, .int 0, .ref lyx, .ref lyy])), (lyx, .inl (E.2.1 1, 24, .inl (fun _ => 0))), (lyy, .inl (E.2.1 1, 96, .inl (fun _ => 0)))]))) 6 176 := by
  refine ct_of rfl rfl ?_
  intro X C hT hin hro
  show WW X 1 E 0 [(0, .ref ly)] [] [(ly, .inr (3, [.null, .int 0, .int 0, .null, .null, .null]))] 0 0
  refine ww_aload_n C dX3_init_0 0 rfl rfl ?_
  refine ww_objInit C wl_X3_3 wi_obj wc_obj rfl dX3_init_1 ?_
  refine ww_aload_n C dX3_init_4 0 rfl rfl ?_
  refine ww_new (k' := 1) (n' := 4) C cn_X3_9 rfl dX3_init_5 (fun q_1 => ?_)
  refine ww_eq (ws' := [(ly, .inr (3, [.null, .int 0, .int 0, .null, .null, .null])), (q_1, .inr (4, [.int 0, .int 0, .null, .null]))]) ?_ rfl rfl rfl
  refine ww_dup C dX3_init_8 rfl ?_
  refine ww_cv (wr := [(ly, .inr (3, [.null, .int 0, .int 0, .null, .null, .null]))]) (k' := 3) (n' := 124) C (run_IN (As := []) (rest := [.ref q_1, .ref ly]) C (k_Model X.2.1 E ro q_1) mn_X4_init (List.mem_of_getElem? (i := 5) rfl) rfl rfl rfl rfl dX3_init_9) (roK hro) [1] [0] rfl rfl rfl rfl (fun uz hw => ?_)
  refine ex2 hw ?_
  clear hw
  intro a_3 b_4 hw
  have he_5 := hw
  clear hw
  subst he_5
  refine ww_eq (ws' := [(ly, .inr (3, [.null, .int 0, .int 0, .null, .null, .null])), (q_1, .inr (4, [.int 0, .int 0, .ref a_3, .ref b_4])), (a_3, .inl (E.2.1 1, 24, .inl (fun _ => 0))), (b_4, .inl (E.2.1 1, 96, .inl (fun _ => 0)))]) ?_ rfl rfl rfl
  refine ww_putF (ws' := [(ly, .inr (3, [.ref q_1, .int 0, .int 0, .null, .null, .null])), (q_1, .inr (4, [.int 0, .int 0, .ref a_3, .ref b_4])), (a_3, .inl (E.2.1 1, 24, .inl (fun _ => 0))), (b_4, .inl (E.2.1 1, 96, .inl (fun _ => 0)))]) C fp_X3_12 hin ⟨_, _, rfl⟩ 0 rfl rfl rfl rfl rfl dX3_init_12 ?_
  refine ww_aload_n C dX3_init_15 0 rfl rfl ?_
  refine ww_bipush (v := 24) C dX3_init_16 rfl ?_
  refine ww_newi (N := 24) (k' := 4) (n' := 148) C wa_int (by decide) rfl rfl rfl dX3_init_18 (fun q_6 => ?_)
  refine ww_eq (ws' := [(ly, .inr (3, [.ref q_1, .int 0, .int 0, .null, .null, .null])), (q_1, .inr (4, [.int 0, .int 0, .ref a_3, .ref b_4])), (a_3, .inl (E.2.1 1, 24, .inl (fun _ => 0))), (b_4, .inl (E.2.1 1, 96, .inl (fun _ => 0))), (q_6, .inl (E.2.1 1, 24, .inl (fun _ => 0)))]) ?_ rfl rfl rfl
  refine ww_putF (ws' := [(ly, .inr (3, [.ref q_1, .int 0, .int 0, .ref q_6, .null, .null])), (q_1, .inr (4, [.int 0, .int 0, .ref a_3, .ref b_4])), (a_3, .inl (E.2.1 1, 24, .inl (fun _ => 0))), (b_4, .inl (E.2.1 1, 96, .inl (fun _ => 0))), (q_6, .inl (E.2.1 1, 24, .inl (fun _ => 0)))]) C fp_X3_18 hin ⟨_, _, rfl⟩ 0 rfl rfl rfl rfl rfl dX3_init_20 ?_
  refine ww_aload_n C dX3_init_23 0 rfl rfl ?_
  refine ww_bipush (v := 24) C dX3_init_24 rfl ?_
  refine ww_newi (N := 24) (k' := 5) (n' := 172) C wa_int (by decide) rfl rfl rfl dX3_init_26 (fun q_7 => ?_)
  refine ww_eq (ws' := [(ly, .inr (3, [.ref q_1, .int 0, .int 0, .ref q_6, .null, .null])), (q_1, .inr (4, [.int 0, .int 0, .ref a_3, .ref b_4])), (a_3, .inl (E.2.1 1, 24, .inl (fun _ => 0))), (b_4, .inl (E.2.1 1, 96, .inl (fun _ => 0))), (q_6, .inl (E.2.1 1, 24, .inl (fun _ => 0))), (q_7, .inl (E.2.1 1, 24, .inl (fun _ => 0)))]) ?_ rfl rfl rfl
  refine ww_putF (ws' := [(ly, .inr (3, [.ref q_1, .int 0, .int 0, .ref q_6, .ref q_7, .null])), (q_1, .inr (4, [.int 0, .int 0, .ref a_3, .ref b_4])), (a_3, .inl (E.2.1 1, 24, .inl (fun _ => 0))), (b_4, .inl (E.2.1 1, 96, .inl (fun _ => 0))), (q_6, .inl (E.2.1 1, 24, .inl (fun _ => 0))), (q_7, .inl (E.2.1 1, 24, .inl (fun _ => 0)))]) C fp_X3_22 hin ⟨_, _, rfl⟩ 0 rfl rfl rfl rfl rfl dX3_init_28 ?_
  refine ww_aload_n C dX3_init_31 0 rfl rfl ?_
  refine ww_iconst (v := 4) C dX3_init_32 rfl ?_
  refine ww_newi (N := 4) (k' := 6) (n' := 176) C wa_int (by decide) rfl rfl rfl dX3_init_33 (fun q_8 => ?_)
  refine ww_eq (ws' := [(ly, .inr (3, [.ref q_1, .int 0, .int 0, .ref q_6, .ref q_7, .null])), (q_1, .inr (4, [.int 0, .int 0, .ref a_3, .ref b_4])), (a_3, .inl (E.2.1 1, 24, .inl (fun _ => 0))), (b_4, .inl (E.2.1 1, 96, .inl (fun _ => 0))), (q_6, .inl (E.2.1 1, 24, .inl (fun _ => 0))), (q_7, .inl (E.2.1 1, 24, .inl (fun _ => 0))), (q_8, .inl (E.2.1 1, 4, .inl (fun _ => 0)))]) ?_ rfl rfl rfl
  refine ww_putF (ws' := [(ly, .inr (3, [.ref q_1, .int 0, .int 0, .ref q_6, .ref q_7, .ref q_8])), (q_1, .inr (4, [.int 0, .int 0, .ref a_3, .ref b_4])), (a_3, .inl (E.2.1 1, 24, .inl (fun _ => 0))), (b_4, .inl (E.2.1 1, 96, .inl (fun _ => 0))), (q_6, .inl (E.2.1 1, 24, .inl (fun _ => 0))), (q_7, .inl (E.2.1 1, 24, .inl (fun _ => 0))), (q_8, .inl (E.2.1 1, 4, .inl (fun _ => 0)))]) C fp_X3_25 hin ⟨_, _, rfl⟩ 0 rfl rfl rfl rfl rfl dX3_init_35 ?_
  exact ww_vret (u := [(ly, .inr (3, [.ref q_1, .int 0, .int 0, .ref q_6, .ref q_7, .ref q_8])), (q_6, .inl (E.2.1 1, 24, .inl (fun _ => 0))), (q_7, .inl (E.2.1 1, 24, .inl (fun _ => 0))), (q_8, .inl (E.2.1 1, 4, .inl (fun _ => 0))), (q_1, .inr (4, [.int 0, .int 0, .ref a_3, .ref b_4])), (a_3, .inl (E.2.1 1, 24, .inl (fun _ => 0))), (b_4, .inl (E.2.1 1, 96, .inl (fun _ => 0)))]) C hT [0, 4, 5, 6, 1, 2, 3] rfl rfl rfl rfl dX3_init_38 (⟨q_1, a_3, b_4, q_6, q_7, q_8, rfl⟩)
theorem dX1_init_0 : decode cX1_init 0 = .ok (.aload_n 0, 1) := by decide +kernel
theorem dX1_init_1 : decode cX1_init 1 = .ok (.invokespecial 3, 3) := by decide +kernel
theorem wl_X1_3 : Cond.methodLink RX1 3 objectInit ∈ TB := tbm (tq1 (List.mem_of_getElem? (i := 236) (by decide +kernel))) (by decide +kernel)
theorem dX1_init_4 : decode cX1_init 4 = .ok (.aload_n 0, 1) := by decide +kernel
theorem dX1_init_5 : decode cX1_init 5 = .ok (.bipush 48, 2) := by decide +kernel
theorem dX1_init_7 : decode cX1_init 7 = .ok (.newarray .int, 2) := by decide +kernel
theorem dX1_init_9 : decode cX1_init 9 = .ok (.putfield 9, 3) := by decide +kernel
theorem fp_X1_9 : FP RX1 9 1 3 (.array .int) true := ⟨RX1, TX1, 6, tyX1, uw_X1, wf_X1_9, rfl, by decide, rfl, tyX1_ok, nmX1, rfl, by decide +kernel⟩
theorem dX1_init_12 : decode cX1_init 12 = .ok (.aload_n 0, 1) := by decide +kernel
theorem dX1_init_13 : decode cX1_init 13 = .ok (.bipush 48, 2) := by decide +kernel
theorem dX1_init_15 : decode cX1_init 15 = .ok (.newarray .int, 2) := by decide +kernel
theorem dX1_init_17 : decode cX1_init 17 = .ok (.putfield 15, 3) := by decide +kernel
theorem fp_X1_15 : FP RX1 15 1 4 (.array .int) true := ⟨RX1, TX1, 6, tyX1, uw_X1, wf_X1_15, rfl, by decide, rfl, tyX1_ok, nmX1, rfl, by decide +kernel⟩
theorem dX1_init_20 : decode cX1_init 20 = .ok (.aload_n 0, 1) := by decide +kernel
theorem dX1_init_21 : decode cX1_init 21 = .ok (.sipush 192, 3) := by decide +kernel
theorem dX1_init_24 : decode cX1_init 24 = .ok (.newarray .long, 2) := by decide +kernel
theorem wa_long : Cond.arrayClass .long ∈ TB := tbm (tq2 (List.mem_of_getElem? (i := 17) (by decide +kernel))) (by decide +kernel)
theorem dX1_init_26 : decode cX1_init 26 = .ok (.putfield 18, 3) := by decide +kernel
theorem fp_X1_18 : FP RX1 18 1 5 (.array .long) true := ⟨RX1, TX1, 6, tyX1, uw_X1, wf_X1_18, rfl, by decide, rfl, tyX1_ok, nmX1, rfl, by decide +kernel⟩
theorem dX1_init_29 : decode cX1_init 29 = .ok (.return_, 1) := by decide +kernel
set_option maxRecDepth 100000 in
set_option maxHeartbeats 4000000 in
theorem k_Heaps (l : Launch) (E : EV) (ro : va_W) (qh : Nat)  : CT l yX1_init (Cond.code yX1_init cX1_init 1 none :: TB) ({ frames := 1, cells := 3, slots := 288, locals := 12 }) E ro [.ref qh] [(qh, .inr (1, [.null, .null, .int 0, .null, .null, .null]))] (Qv E (fun uz => (∃ (ha : Nat) (hb : Nat) (hc : Nat), uz = [(qh, .inr (1, [.null, .null, .int 0, .ref ha, .ref hb, .ref hc])), (ha, .inl (E.2.1 1, 48, .inl (fun _ => 0))), (hb, .inl (E.2.1 1, 48, .inl (fun _ => 0))), (hc, .inl (E.2.1 2, 192, .inr (.inl (fun _ => 0))))]))) 3 288 := by
  refine ct_of rfl rfl ?_
  intro X C hT hin hro
  show WW X 1 E 0 [(0, .ref qh)] [] [(qh, .inr (1, [.null, .null, .int 0, .null, .null, .null]))] 0 0
  refine ww_aload_n C dX1_init_0 0 rfl rfl ?_
  refine ww_objInit C wl_X1_3 wi_obj wc_obj rfl dX1_init_1 ?_
  refine ww_aload_n C dX1_init_4 0 rfl rfl ?_
  refine ww_bipush (v := 48) C dX1_init_5 rfl ?_
  refine ww_newi (N := 48) (k' := 1) (n' := 48) C wa_int (by decide) rfl rfl rfl dX1_init_7 (fun q_1 => ?_)
  refine ww_eq (ws' := [(qh, .inr (1, [.null, .null, .int 0, .null, .null, .null])), (q_1, .inl (E.2.1 1, 48, .inl (fun _ => 0)))]) ?_ rfl rfl rfl
  refine ww_putF (ws' := [(qh, .inr (1, [.null, .null, .int 0, .ref q_1, .null, .null])), (q_1, .inl (E.2.1 1, 48, .inl (fun _ => 0)))]) C fp_X1_9 hin ⟨_, _, rfl⟩ 0 rfl rfl rfl rfl rfl dX1_init_9 ?_
  refine ww_aload_n C dX1_init_12 0 rfl rfl ?_
  refine ww_bipush (v := 48) C dX1_init_13 rfl ?_
  refine ww_newi (N := 48) (k' := 2) (n' := 96) C wa_int (by decide) rfl rfl rfl dX1_init_15 (fun q_2 => ?_)
  refine ww_eq (ws' := [(qh, .inr (1, [.null, .null, .int 0, .ref q_1, .null, .null])), (q_1, .inl (E.2.1 1, 48, .inl (fun _ => 0))), (q_2, .inl (E.2.1 1, 48, .inl (fun _ => 0)))]) ?_ rfl rfl rfl
  refine ww_putF (ws' := [(qh, .inr (1, [.null, .null, .int 0, .ref q_1, .ref q_2, .null])), (q_1, .inl (E.2.1 1, 48, .inl (fun _ => 0))), (q_2, .inl (E.2.1 1, 48, .inl (fun _ => 0)))]) C fp_X1_15 hin ⟨_, _, rfl⟩ 0 rfl rfl rfl rfl rfl dX1_init_17 ?_
  refine ww_aload_n C dX1_init_20 0 rfl rfl ?_
  refine ww_sipush (v := 192) C dX1_init_21 rfl ?_
  refine ww_newl (N := 192) (k' := 3) (n' := 288) C wa_long (by decide) rfl rfl rfl dX1_init_24 (fun q_3 => ?_)
  refine ww_eq (ws' := [(qh, .inr (1, [.null, .null, .int 0, .ref q_1, .ref q_2, .null])), (q_1, .inl (E.2.1 1, 48, .inl (fun _ => 0))), (q_2, .inl (E.2.1 1, 48, .inl (fun _ => 0))), (q_3, .inl (E.2.1 2, 192, .inr (.inl (fun _ => 0))))]) ?_ rfl rfl rfl
  refine ww_putF (ws' := [(qh, .inr (1, [.null, .null, .int 0, .ref q_1, .ref q_2, .ref q_3])), (q_1, .inl (E.2.1 1, 48, .inl (fun _ => 0))), (q_2, .inl (E.2.1 1, 48, .inl (fun _ => 0))), (q_3, .inl (E.2.1 2, 192, .inr (.inl (fun _ => 0))))]) C fp_X1_18 hin ⟨_, _, rfl⟩ 0 rfl rfl rfl rfl rfl dX1_init_26 ?_
  exact ww_vret (u := [(qh, .inr (1, [.null, .null, .int 0, .ref q_1, .ref q_2, .ref q_3])), (q_1, .inl (E.2.1 1, 48, .inl (fun _ => 0))), (q_2, .inl (E.2.1 1, 48, .inl (fun _ => 0))), (q_3, .inl (E.2.1 2, 192, .inr (.inl (fun _ => 0))))]) C hT [0, 1, 2, 3] rfl rfl rfl rfl dX1_init_29 (⟨q_1, q_2, q_3, rfl⟩)
theorem dX7_init_0 : decode cX7_init 0 = .ok (.aload_n 0, 1) := by decide +kernel
theorem dX7_init_1 : decode cX7_init 1 = .ok (.invokespecial 3, 3) := by decide +kernel
theorem wl_X7_3 : Cond.methodLink RX7 3 objectInit ∈ TB := tbm (tq2 (List.mem_of_getElem? (i := 23) (by decide +kernel))) (by decide +kernel)
theorem dX7_init_4 : decode cX7_init 4 = .ok (.aload_n 0, 1) := by decide +kernel
theorem dX7_init_5 : decode cX7_init 5 = .ok (.new 9, 3) := by decide +kernel
theorem wk_X7_9 : Cond.classLink RX7 9 RX4 ∈ TB := tbm (tq2 (List.mem_of_getElem? (i := 24) (by decide +kernel))) (by decide +kernel)
theorem cn_X7_9 : CN RX7 9 4 4 [.int 0, .int 0, .null, .null] := ⟨RX4, TX4, tyX4, uw_X4, wk_X7_9, wq_X4, wn_X4, rfl, tyX4_ok, by decide +kernel⟩
theorem dX7_init_8 : decode cX7_init 8 = .ok (.dup, 1) := by decide +kernel
theorem dX7_init_9 : decode cX7_init 9 = .ok (.invokespecial 11, 3) := by decide +kernel
theorem dX7_init_12 : decode cX7_init 12 = .ok (.putfield 12, 3) := by decide +kernel
theorem fp_X7_12 : FP RX7 12 7 0 (.object "WhoKnows$Model") true := ⟨RX7, TX7, 5, tyX7, uw_X7, wf_X7_12, rfl, by decide, rfl, tyX7_ok, nmX7, rfl, by decide +kernel⟩
theorem dX7_init_15 : decode cX7_init 15 = .ok (.aload_n 0, 1) := by decide +kernel
theorem dX7_init_16 : decode cX7_init 16 = .ok (.iconst 4, 1) := by decide +kernel
theorem dX7_init_17 : decode cX7_init 17 = .ok (.newarray .int, 2) := by decide +kernel
theorem dX7_init_19 : decode cX7_init 19 = .ok (.putfield 18, 3) := by decide +kernel
theorem fp_X7_18 : FP RX7 18 7 1 (.array .int) true := ⟨RX7, TX7, 5, tyX7, uw_X7, wf_X7_18, rfl, by decide, rfl, tyX7_ok, nmX7, rfl, by decide +kernel⟩
theorem dX7_init_22 : decode cX7_init 22 = .ok (.return_, 1) := by decide +kernel
set_option maxRecDepth 100000 in
set_option maxHeartbeats 4000000 in
theorem k_Rounds (l : Launch) (E : EV) (ro : va_W) (rd : Nat)  : CT l yX7_init (Cond.code yX7_init cX7_init 1 none :: TB) ({ frames := 2, cells := 4, slots := 128, locals := 32 }) E ro [.ref rd] [(rd, .inr (7, [.null, .null, .int 0, .int 0, .int 0]))] (Qv E (fun uz => (∃ (rt : Nat) (rf : Nat) (rx : Nat) (ry : Nat), uz = [(rd, .inr (7, [.ref rt, .ref rf, .int 0, .int 0, .int 0])), (rf, .inl (E.2.1 1, 4, .inl (fun _ => 0))), (rt, .inr (4, [.int 0, .int 0, .ref rx, .ref ry])), (rx, .inl (E.2.1 1, 24, .inl (fun _ => 0))), (ry, .inl (E.2.1 1, 96, .inl (fun _ => 0)))]))) 4 128 := by
  refine ct_of rfl rfl ?_
  intro X C hT hin hro
  show WW X 1 E 0 [(0, .ref rd)] [] [(rd, .inr (7, [.null, .null, .int 0, .int 0, .int 0]))] 0 0
  refine ww_aload_n C dX7_init_0 0 rfl rfl ?_
  refine ww_objInit C wl_X7_3 wi_obj wc_obj rfl dX7_init_1 ?_
  refine ww_aload_n C dX7_init_4 0 rfl rfl ?_
  refine ww_new (k' := 1) (n' := 4) C cn_X7_9 rfl dX7_init_5 (fun q_1 => ?_)
  refine ww_eq (ws' := [(rd, .inr (7, [.null, .null, .int 0, .int 0, .int 0])), (q_1, .inr (4, [.int 0, .int 0, .null, .null]))]) ?_ rfl rfl rfl
  refine ww_dup C dX7_init_8 rfl ?_
  refine ww_cv (wr := [(rd, .inr (7, [.null, .null, .int 0, .int 0, .int 0]))]) (k' := 3) (n' := 124) C (run_IN (As := []) (rest := [.ref q_1, .ref rd]) C (k_Model X.2.1 E ro q_1) mn_X4_init (List.mem_of_getElem? (i := 9) rfl) rfl rfl rfl rfl dX7_init_9) (roK hro) [1] [0] rfl rfl rfl rfl (fun uz hw => ?_)
  refine ex2 hw ?_
  clear hw
  intro a_3 b_4 hw
  have he_5 := hw
  clear hw
  subst he_5
  refine ww_eq (ws' := [(rd, .inr (7, [.null, .null, .int 0, .int 0, .int 0])), (q_1, .inr (4, [.int 0, .int 0, .ref a_3, .ref b_4])), (a_3, .inl (E.2.1 1, 24, .inl (fun _ => 0))), (b_4, .inl (E.2.1 1, 96, .inl (fun _ => 0)))]) ?_ rfl rfl rfl
  refine ww_putF (ws' := [(rd, .inr (7, [.ref q_1, .null, .int 0, .int 0, .int 0])), (q_1, .inr (4, [.int 0, .int 0, .ref a_3, .ref b_4])), (a_3, .inl (E.2.1 1, 24, .inl (fun _ => 0))), (b_4, .inl (E.2.1 1, 96, .inl (fun _ => 0)))]) C fp_X7_12 hin ⟨_, _, rfl⟩ 0 rfl rfl rfl rfl rfl dX7_init_12 ?_
  refine ww_aload_n C dX7_init_15 0 rfl rfl ?_
  refine ww_iconst (v := 4) C dX7_init_16 rfl ?_
  refine ww_newi (N := 4) (k' := 4) (n' := 128) C wa_int (by decide) rfl rfl rfl dX7_init_17 (fun q_6 => ?_)
  refine ww_eq (ws' := [(rd, .inr (7, [.ref q_1, .null, .int 0, .int 0, .int 0])), (q_1, .inr (4, [.int 0, .int 0, .ref a_3, .ref b_4])), (a_3, .inl (E.2.1 1, 24, .inl (fun _ => 0))), (b_4, .inl (E.2.1 1, 96, .inl (fun _ => 0))), (q_6, .inl (E.2.1 1, 4, .inl (fun _ => 0)))]) ?_ rfl rfl rfl
  refine ww_putF (ws' := [(rd, .inr (7, [.ref q_1, .ref q_6, .int 0, .int 0, .int 0])), (q_1, .inr (4, [.int 0, .int 0, .ref a_3, .ref b_4])), (a_3, .inl (E.2.1 1, 24, .inl (fun _ => 0))), (b_4, .inl (E.2.1 1, 96, .inl (fun _ => 0))), (q_6, .inl (E.2.1 1, 4, .inl (fun _ => 0)))]) C fp_X7_18 hin ⟨_, _, rfl⟩ 0 rfl rfl rfl rfl rfl dX7_init_19 ?_
  exact ww_vret (u := [(rd, .inr (7, [.ref q_1, .ref q_6, .int 0, .int 0, .int 0])), (q_6, .inl (E.2.1 1, 4, .inl (fun _ => 0))), (q_1, .inr (4, [.int 0, .int 0, .ref a_3, .ref b_4])), (a_3, .inl (E.2.1 1, 24, .inl (fun _ => 0))), (b_4, .inl (E.2.1 1, 96, .inl (fun _ => 0)))]) C hT [0, 4, 1, 2, 3] rfl rfl rfl rfl dX7_init_22 (⟨q_1, q_6, a_3, b_4, rfl⟩)
theorem dX9_init_0 : decode cX9_init 0 = .ok (.aload_n 0, 1) := by decide +kernel
theorem dX9_init_1 : decode cX9_init 1 = .ok (.invokespecial 3, 3) := by decide +kernel
theorem wl_X9_3 : Cond.methodLink RX9 3 objectInit ∈ TB := tbm (tq2 (List.mem_of_getElem? (i := 79) (by decide +kernel))) (by decide +kernel)
theorem dX9_init_4 : decode cX9_init 4 = .ok (.aload_n 0, 1) := by decide +kernel
theorem dX9_init_5 : decode cX9_init 5 = .ok (.bipush 48, 2) := by decide +kernel
theorem dX9_init_7 : decode cX9_init 7 = .ok (.newarray .int, 2) := by decide +kernel
theorem dX9_init_9 : decode cX9_init 9 = .ok (.putfield 9, 3) := by decide +kernel
theorem fp_X9_9 : FP RX9 9 9 3 (.array .int) true := ⟨RX9, TX9, 4, tyX9, uw_X9, wf_X9_9, rfl, by decide, rfl, tyX9_ok, nmX9, rfl, by decide +kernel⟩
theorem dX9_init_12 : decode cX9_init 12 = .ok (.return_, 1) := by decide +kernel
set_option maxRecDepth 100000 in
set_option maxHeartbeats 4000000 in
theorem k_Sheet (l : Launch) (E : EV) (ro : va_W) (q : Nat)  : CT l yX9_init (Cond.code yX9_init cX9_init 1 none :: TB) ({ frames := 1, cells := 1, slots := 48, locals := 12 }) E ro [.ref q] [(q, .inr (9, [.int 0, .int 0, .int 0, .null]))] (Qv E (fun uz => (∃ (qc : Nat), uz = [(q, .inr (9, [.int 0, .int 0, .int 0, .ref qc])), (qc, .inl (E.2.1 1, 48, .inl (fun _ => 0)))]))) 1 48 := by
  refine ct_of rfl rfl ?_
  intro X C hT hin hro
  show WW X 1 E 0 [(0, .ref q)] [] [(q, .inr (9, [.int 0, .int 0, .int 0, .null]))] 0 0
  refine ww_aload_n C dX9_init_0 0 rfl rfl ?_
  refine ww_objInit C wl_X9_3 wi_obj wc_obj rfl dX9_init_1 ?_
  refine ww_aload_n C dX9_init_4 0 rfl rfl ?_
  refine ww_bipush (v := 48) C dX9_init_5 rfl ?_
  refine ww_newi (N := 48) (k' := 1) (n' := 48) C wa_int (by decide) rfl rfl rfl dX9_init_7 (fun q_1 => ?_)
  refine ww_eq (ws' := [(q, .inr (9, [.int 0, .int 0, .int 0, .null])), (q_1, .inl (E.2.1 1, 48, .inl (fun _ => 0)))]) ?_ rfl rfl rfl
  refine ww_putF (ws' := [(q, .inr (9, [.int 0, .int 0, .int 0, .ref q_1])), (q_1, .inl (E.2.1 1, 48, .inl (fun _ => 0)))]) C fp_X9_9 hin ⟨_, _, rfl⟩ 0 rfl rfl rfl rfl rfl dX9_init_9 ?_
  exact ww_vret (u := [(q, .inr (9, [.int 0, .int 0, .int 0, .ref q_1])), (q_1, .inl (E.2.1 1, 48, .inl (fun _ => 0)))]) C hT [0, 1] rfl rfl rfl rfl dX9_init_12 (⟨q_1, rfl⟩)
