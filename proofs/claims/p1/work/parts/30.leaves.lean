theorem dX11_within_0 : decode cX11_within 0 = .ok (.iload_n 0, 1) := by decide +kernel
theorem dX11_within_1 : decode cX11_within 1 = .ok (.iload_n 1, 1) := by decide +kernel
theorem dX11_within_2 : decode cX11_within 2 = .ok (.if_icmp .lt 12, 3) := by decide +kernel
theorem dX11_within_14 : decode cX11_within 14 = .ok (.iconst 0, 1) := by decide +kernel
theorem dX11_within_15 : decode cX11_within 15 = .ok (.ireturn, 1) := by decide +kernel
theorem dX11_within_5 : decode cX11_within 5 = .ok (.iload_n 0, 1) := by decide +kernel
theorem dX11_within_6 : decode cX11_within 6 = .ok (.iload_n 2, 1) := by decide +kernel
theorem dX11_within_7 : decode cX11_within 7 = .ok (.if_icmp .gt 7, 3) := by decide +kernel
theorem dX11_within_10 : decode cX11_within 10 = .ok (.iconst 1, 1) := by decide +kernel
theorem dX11_within_11 : decode cX11_within 11 = .ok (.goto 4, 3) := by decide +kernel
set_option maxRecDepth 100000 in
set_option maxHeartbeats 4000000 in
theorem c_within (l : Launch) (E : EV) (v : Int32) (lo : Int32) (hi : Int32) (zv : Int) (zl : Int) (zh : Int) (hz_zv : v.toInt = zv) (hz_zl : lo.toInt = zl) (hz_zh : hi.toInt = zh) : CT l yX11_within (Cond.code yX11_within cX11_within 3 (some .boolean) :: TB) ({ frames := 0, cells := 0, slots := 0, locals := 0 }) E [.int v, .int lo, .int hi] [] (Qi E (fun (r : Int32) u => (r = 1 ∧ u = [] ∧ (zl ≤ zv) ∧ (zv ≤ zh)) ∨ (r = 0 ∧ u = [] ∧ (zv < zl ∨ zh < zv)))) 0 0 := by
  refine ct_of rfl rfl ?_
  intro X C hT hin
  show WW X 3 E 0 [(0, .int v), (1, .int lo), (2, .int hi)] [] [] 0 0
  refine ww_iload_n C dX11_within_0 0 rfl rfl ?_
  refine ww_iload_n C dX11_within_1 1 rfl rfl ?_
  refine ww_icmp_lt (tgt := 14) C dX11_within_2 (by decide) (fun c_1 => ?_) (fun c_1 => ?_)
  · have zc_1 : v.toInt < lo.toInt := i_lt rfl rfl c_1
    refine ww_iconst (v := 0) C dX11_within_14 rfl ?_
    exact ww_zret (u := []) C hT [] rfl rfl rfl rfl rfl dX11_within_15 (Or.inr ⟨rfl, rfl, (by first | assumption | omega | decide)⟩)
  · have zc_1 : v.toInt ≥ lo.toInt := i_nlt rfl rfl c_1
    refine ww_iload_n C dX11_within_5 0 rfl rfl ?_
    refine ww_iload_n C dX11_within_6 2 rfl rfl ?_
    refine ww_icmp_gt (tgt := 14) C dX11_within_7 (by decide) (fun c_2 => ?_) (fun c_2 => ?_)
    · have zc_2 : v.toInt > hi.toInt := i_lt rfl rfl c_2
      refine ww_iconst (v := 0) C dX11_within_14 rfl ?_
      exact ww_zret (u := []) C hT [] rfl rfl rfl rfl rfl dX11_within_15 (Or.inr ⟨rfl, rfl, (by first | assumption | omega | decide)⟩)
    · have zc_2 : v.toInt ≤ hi.toInt := i_nlt rfl rfl c_2
      refine ww_iconst (v := 1) C dX11_within_10 rfl ?_
      refine ww_goto (tgt := 15) C dX11_within_11 (by decide) ?_
      exact ww_zret (u := []) C hT [] rfl rfl rfl rfl rfl dX11_within_15 (Or.inl ⟨rfl, rfl, (by first | assumption | omega | decide), (by first | assumption | omega | decide)⟩)
theorem dX11_has_0 : decode cX11_has 0 = .ok (.iload_n 0, 1) := by decide +kernel
theorem dX11_has_1 : decode cX11_has 1 = .ok (.iload_n 1, 1) := by decide +kernel
theorem dX11_has_2 : decode cX11_has 2 = .ok (.ishr, 1) := by decide +kernel
theorem dX11_has_3 : decode cX11_has 3 = .ok (.iconst 1, 1) := by decide +kernel
theorem dX11_has_4 : decode cX11_has 4 = .ok (.iand, 1) := by decide +kernel
theorem dX11_has_5 : decode cX11_has 5 = .ok (.ifCond .eq 7, 3) := by decide +kernel
theorem dX11_has_12 : decode cX11_has 12 = .ok (.iconst 0, 1) := by decide +kernel
theorem dX11_has_13 : decode cX11_has 13 = .ok (.ireturn, 1) := by decide +kernel
theorem dX11_has_8 : decode cX11_has 8 = .ok (.iconst 1, 1) := by decide +kernel
theorem dX11_has_9 : decode cX11_has 9 = .ok (.goto 4, 3) := by decide +kernel
set_option maxRecDepth 100000 in
set_option maxHeartbeats 4000000 in
theorem c_has (l : Launch) (E : EV) (b : Int32) (p : Int32)  : CT l yX11_has (Cond.code yX11_has cX11_has 2 (some .boolean) :: TB) ({ frames := 0, cells := 0, slots := 0, locals := 0 }) E [.int b, .int p] [] (Qi E (fun (r : Int32) u => (r = 1 ∧ u = [] ∧ (¬ (b >>> (p &&& 31) &&& 1 = 0))) ∨ (r = 0 ∧ u = [] ∧ (b >>> (p &&& 31) &&& 1 = 0)))) 0 0 := by
  refine ct_of rfl rfl ?_
  intro X C hT hin
  show WW X 2 E 0 [(0, .int b), (1, .int p)] [] [] 0 0
  refine ww_iload_n C dX11_has_0 0 rfl rfl ?_
  refine ww_iload_n C dX11_has_1 1 rfl rfl ?_
  obtain ⟨x_1, ex_1⟩ : ∃ z : Int32, b >>> (p &&& 31) = z := ⟨_, rfl⟩
  refine ww_ishr (v := x_1) C dX11_has_2 ex_1 ?_
  refine ww_iconst (v := 1) C dX11_has_3 rfl ?_
  obtain ⟨x_2, ex_2⟩ : ∃ z : Int32, x_1 &&& (1 : Int32) = z := ⟨_, rfl⟩
  refine ww_iand (v := x_2) C dX11_has_4 ex_2 ?_
  refine ww_if_eq (tgt := 12) C dX11_has_5 (by decide) (fun c_3 => ?_) (fun c_3 => ?_)
  · have zc_3 : x_2.toInt = 0 := i_eq rfl rfl c_3
    refine ww_iconst (v := 0) C dX11_has_12 rfl ?_
    exact ww_zret (u := []) C hT [] rfl rfl rfl rfl rfl dX11_has_13 (Or.inr ⟨rfl, rfl, (by subst_vars; assumption)⟩)
  · have zc_3 : x_2.toInt ≠ 0 := i_ne rfl rfl c_3
    refine ww_iconst (v := 1) C dX11_has_8 rfl ?_
    refine ww_goto (tgt := 13) C dX11_has_9 (by decide) ?_
    exact ww_zret (u := []) C hT [] rfl rfl rfl rfl rfl dX11_has_13 (Or.inl ⟨rfl, rfl, (by subst_vars; assumption)⟩)
theorem dX4_contains_0 : decode cX4_contains 0 = .ok (.iload_n 1, 1) := by decide +kernel
theorem dX4_contains_1 : decode cX4_contains 1 = .ok (.ifCond .lt 15, 3) := by decide +kernel
theorem dX4_contains_16 : decode cX4_contains 16 = .ok (.iconst 0, 1) := by decide +kernel
theorem dX4_contains_17 : decode cX4_contains 17 = .ok (.ireturn, 1) := by decide +kernel
theorem dX4_contains_4 : decode cX4_contains 4 = .ok (.iload_n 1, 1) := by decide +kernel
theorem dX4_contains_5 : decode cX4_contains 5 = .ok (.aload_n 0, 1) := by decide +kernel
theorem dX4_contains_6 : decode cX4_contains 6 = .ok (.getfield 18, 3) := by decide +kernel
theorem uw_X4 : ∀ w ∈ u_ws RX4 TX4 4, w ∈ TB := uw_of [52, 54, 56, 58] (by decide +kernel) (by decide +kernel)
theorem wf_X4_18 : Cond.fieldLink RX4 18 RX4 "size" "I" ∈ TB := tbm (tq1 (List.mem_of_getElem? (i := 36) (by decide +kernel))) (by decide +kernel)
theorem fg_X4_18 : FG RX4 18 4 0 := ⟨RX4, TX4, 4, uw_X4, wf_X4_18, rfl, by decide, rfl⟩
theorem dX4_contains_9 : decode cX4_contains 9 = .ok (.if_icmp .ge 7, 3) := by decide +kernel
set_option maxRecDepth 100000 in
set_option maxHeartbeats 4000000 in
theorem c_contains0 (l : Launch) (E : EV) (h : Nat) (a : Nat) (b : Nat) (w : Int32)  : CT l yX4_contains (Cond.code yX4_contains cX4_contains 2 (some .boolean) :: TB) ({ frames := 0, cells := 0, slots := 0, locals := 0 }) E [.ref h, .int w] [(h, .inr (4, [.int 0, .int 0, .ref a, .ref b]))] (Qi E (fun (r : Int32) u => (r = 0 ∧ u = [(h, .inr (4, [.int 0, .int 0, .ref a, .ref b]))]))) 0 0 := by
  refine ct_of rfl rfl ?_
  intro X C hT hin
  show WW X 2 E 0 [(0, .ref h), (1, .int w)] [] [(h, .inr (4, [.int 0, .int 0, .ref a, .ref b]))] 0 0
  refine ww_iload_n C dX4_contains_0 1 rfl rfl ?_
  refine ww_if_lt (tgt := 16) C dX4_contains_1 (by decide) (fun c_1 => ?_) (fun c_1 => ?_)
  · have zc_1 : w.toInt < 0 := i_lt rfl rfl c_1
    refine ww_iconst (v := 0) C dX4_contains_16 rfl ?_
    exact ww_zret (u := [(h, .inr (4, [.int 0, .int 0, .ref a, .ref b]))]) C hT [0] rfl rfl rfl rfl rfl dX4_contains_17 (⟨rfl, rfl⟩)
  · have zc_1 : w.toInt ≥ 0 := i_nlt rfl rfl c_1
    refine ww_iload_n C dX4_contains_4 1 rfl rfl ?_
    refine ww_aload_n C dX4_contains_5 0 rfl rfl ?_
    refine ww_get C fg_X4_18 0 rfl rfl dX4_contains_6 ?_
    refine ww_icmp_ge (tgt := 16) C dX4_contains_9 (by decide) (fun c_2 => ?_) (fun c_2 => ?_)
    · have zc_2 : w.toInt ≥ 0 := i_le rfl rfl c_2
      refine ww_iconst (v := 0) C dX4_contains_16 rfl ?_
      exact ww_zret (u := [(h, .inr (4, [.int 0, .int 0, .ref a, .ref b]))]) C hT [0] rfl rfl rfl rfl rfl dX4_contains_17 (⟨rfl, rfl⟩)
    · have zc_2 : w.toInt < 0 := i_nle rfl rfl c_2
      omega
theorem dX4_init_0 : decode cX4_init 0 = .ok (.aload_n 0, 1) := by decide +kernel
theorem dX4_init_1 : decode cX4_init 1 = .ok (.invokespecial 3, 3) := by decide +kernel
theorem wl_X4_3 : Cond.methodLink RX4 3 objectInit ∈ TB := tbm (tq1 (List.mem_of_getElem? (i := 34) (by decide +kernel))) (by decide +kernel)
theorem wi_obj : Cond.instanceMethod objectInit ∈ TB := tbm (tq1 (List.mem_of_getElem? (i := 27) (by decide +kernel))) (by decide +kernel)
theorem wc_obj : Cond.code objectInit ⟨#[0xb1]⟩ 1 none ∈ TB := tbm (tq1 (List.mem_of_getElem? (i := 28) (by decide +kernel))) (by decide +kernel)
theorem dX4_init_4 : decode cX4_init 4 = .ok (.aload_n 0, 1) := by decide +kernel
theorem dX4_init_5 : decode cX4_init 5 = .ok (.bipush 24, 2) := by decide +kernel
theorem dX4_init_7 : decode cX4_init 7 = .ok (.newarray .int, 2) := by decide +kernel
theorem wa_int : Cond.arrayClass .int ∈ TB := tbm (tq1 (List.mem_of_getElem? (i := 61) (by decide +kernel))) (by decide +kernel)
theorem dX4_init_9 : decode cX4_init 9 = .ok (.putfield 9, 3) := by decide +kernel
theorem wf_X4_9 : Cond.fieldLink RX4 9 RX4 "facts" "[I" ∈ TB := tbm (tq1 (List.mem_of_getElem? (i := 45) (by decide +kernel))) (by decide +kernel)
theorem fp_X4_9 : FP RX4 9 4 2 (.array .int) true := ⟨RX4, TX4, 4, tyX4, uw_X4, wf_X4_9, rfl, by decide, rfl, tyX4_ok, nmX4, rfl, by decide +kernel⟩
theorem dX4_init_12 : decode cX4_init 12 = .ok (.aload_n 0, 1) := by decide +kernel
theorem dX4_init_13 : decode cX4_init 13 = .ok (.bipush 96, 2) := by decide +kernel
theorem dX4_init_15 : decode cX4_init 15 = .ok (.newarray .int, 2) := by decide +kernel
theorem dX4_init_17 : decode cX4_init 17 = .ok (.putfield 15, 3) := by decide +kernel
theorem wf_X4_15 : Cond.fieldLink RX4 15 RX4 "possible" "[I" ∈ TB := tbm (tq1 (List.mem_of_getElem? (i := 49) (by decide +kernel))) (by decide +kernel)
theorem fp_X4_15 : FP RX4 15 4 3 (.array .int) true := ⟨RX4, TX4, 4, tyX4, uw_X4, wf_X4_15, rfl, by decide, rfl, tyX4_ok, nmX4, rfl, by decide +kernel⟩
theorem dX4_init_20 : decode cX4_init 20 = .ok (.return_, 1) := by decide +kernel
set_option maxRecDepth 100000 in
set_option maxHeartbeats 4000000 in
theorem k_Model (l : Launch) (E : EV) (h : Nat)  : CT l yX4_init (Cond.code yX4_init cX4_init 1 none :: TB) ({ frames := 1, cells := 2, slots := 120, locals := 12 }) E [.ref h] [(h, .inr (4, [.int 0, .int 0, .null, .null]))] (Qv E (fun u => (∃ (a : Nat) (b : Nat), u = [(h, .inr (4, [.int 0, .int 0, .ref a, .ref b])), (a, .inl (E.2.1 1, 24, .inl (fun _ => 0))), (b, .inl (E.2.1 1, 96, .inl (fun _ => 0)))]))) 2 120 := by
  refine ct_of rfl rfl ?_
  intro X C hT hin
  show WW X 1 E 0 [(0, .ref h)] [] [(h, .inr (4, [.int 0, .int 0, .null, .null]))] 0 0
  refine ww_aload_n C dX4_init_0 0 rfl rfl ?_
  refine ww_objInit C wl_X4_3 wi_obj wc_obj rfl dX4_init_1 ?_
  refine ww_aload_n C dX4_init_4 0 rfl rfl ?_
  refine ww_bipush (v := 24) C dX4_init_5 rfl ?_
  refine ww_newi (N := 24) (k' := 1) (n' := 24) C wa_int (by decide) rfl rfl rfl dX4_init_7 (fun q_1 => ?_)
  refine ww_eq (ws' := [(h, .inr (4, [.int 0, .int 0, .null, .null])), (q_1, .inl (E.2.1 1, 24, .inl (fun _ => 0)))]) ?_ rfl rfl rfl
  refine ww_putF (ws' := [(h, .inr (4, [.int 0, .int 0, .ref q_1, .null])), (q_1, .inl (E.2.1 1, 24, .inl (fun _ => 0)))]) C fp_X4_9 hin ⟨_, _, rfl⟩ 0 rfl rfl rfl rfl rfl dX4_init_9 ?_
  refine ww_aload_n C dX4_init_12 0 rfl rfl ?_
  refine ww_bipush (v := 96) C dX4_init_13 rfl ?_
  refine ww_newi (N := 96) (k' := 2) (n' := 120) C wa_int (by decide) rfl rfl rfl dX4_init_15 (fun q_2 => ?_)
  refine ww_eq (ws' := [(h, .inr (4, [.int 0, .int 0, .ref q_1, .null])), (q_1, .inl (E.2.1 1, 24, .inl (fun _ => 0))), (q_2, .inl (E.2.1 1, 96, .inl (fun _ => 0)))]) ?_ rfl rfl rfl
  refine ww_putF (ws' := [(h, .inr (4, [.int 0, .int 0, .ref q_1, .ref q_2])), (q_1, .inl (E.2.1 1, 24, .inl (fun _ => 0))), (q_2, .inl (E.2.1 1, 96, .inl (fun _ => 0)))]) C fp_X4_15 hin ⟨_, _, rfl⟩ 0 rfl rfl rfl rfl rfl dX4_init_17 ?_
  exact ww_vret (u := [(h, .inr (4, [.int 0, .int 0, .ref q_1, .ref q_2])), (q_1, .inl (E.2.1 1, 24, .inl (fun _ => 0))), (q_2, .inl (E.2.1 1, 96, .inl (fun _ => 0)))]) C hT [0, 1, 2] rfl rfl rfl rfl dX4_init_20 (⟨q_1, q_2, rfl⟩)
theorem dX10_init_0 : decode cX10_init 0 = .ok (.aload_n 0, 1) := by decide +kernel
theorem dX10_init_1 : decode cX10_init 1 = .ok (.invokespecial 3, 3) := by decide +kernel
theorem wl_X10_3 : Cond.methodLink RX10 3 objectInit ∈ TB := tbm (tq1 (List.mem_of_getElem? (i := 77) (by decide +kernel))) (by decide +kernel)
theorem dX10_init_4 : decode cX10_init 4 = .ok (.aload_n 0, 1) := by decide +kernel
theorem dX10_init_5 : decode cX10_init 5 = .ok (.sipush 160, 3) := by decide +kernel
theorem dX10_init_8 : decode cX10_init 8 = .ok (.newarray .byte, 2) := by decide +kernel
theorem wa_byte : Cond.arrayClass .byte ∈ TB := tbm (tq1 (List.mem_of_getElem? (i := 97) (by decide +kernel))) (by decide +kernel)
theorem dX10_init_10 : decode cX10_init 10 = .ok (.putfield 9, 3) := by decide +kernel
theorem uw_X10 : ∀ w ∈ u_ws RX10 TX10 5, w ∈ TB := uw_of [86, 88, 90, 92, 94] (by decide +kernel) (by decide +kernel)
theorem wf_X10_9 : Cond.fieldLink RX10 9 RX10 "bytes" "[B" ∈ TB := tbm (tq1 (List.mem_of_getElem? (i := 78) (by decide +kernel))) (by decide +kernel)
theorem fp_X10_9 : FP RX10 9 10 0 (.array .byte) true := ⟨RX10, TX10, 5, tyX10, uw_X10, wf_X10_9, rfl, by decide, rfl, tyX10_ok, nmX10, rfl, by decide +kernel⟩
theorem dX10_init_13 : decode cX10_init 13 = .ok (.return_, 1) := by decide +kernel
set_option maxRecDepth 100000 in
set_option maxHeartbeats 4000000 in
theorem k_Tape (l : Launch) (E : EV) (h : Nat)  : CT l yX10_init (Cond.code yX10_init cX10_init 1 none :: TB) ({ frames := 1, cells := 1, slots := 160, locals := 12 }) E [.ref h] [(h, .inr (10, [.null, .int 0, .int 0, .int 0, .int 0]))] (Qv E (fun u => (∃ (a : Nat), u = [(h, .inr (10, [.ref a, .int 0, .int 0, .int 0, .int 0])), (a, .inl (E.2.1 0, 160, .inl (fun _ => 0)))]))) 1 160 := by
  refine ct_of rfl rfl ?_
  intro X C hT hin
  show WW X 1 E 0 [(0, .ref h)] [] [(h, .inr (10, [.null, .int 0, .int 0, .int 0, .int 0]))] 0 0
  refine ww_aload_n C dX10_init_0 0 rfl rfl ?_
  refine ww_objInit C wl_X10_3 wi_obj wc_obj rfl dX10_init_1 ?_
  refine ww_aload_n C dX10_init_4 0 rfl rfl ?_
  refine ww_sipush (v := 160) C dX10_init_5 rfl ?_
  refine ww_newb (N := 160) (k' := 1) (n' := 160) C wa_byte (by decide) rfl rfl rfl dX10_init_8 (fun q_1 => ?_)
  refine ww_eq (ws' := [(h, .inr (10, [.null, .int 0, .int 0, .int 0, .int 0])), (q_1, .inl (E.2.1 0, 160, .inl (fun _ => 0)))]) ?_ rfl rfl rfl
  refine ww_putF (ws' := [(h, .inr (10, [.ref q_1, .int 0, .int 0, .int 0, .int 0])), (q_1, .inl (E.2.1 0, 160, .inl (fun _ => 0)))]) C fp_X10_9 hin ⟨_, _, rfl⟩ 0 rfl rfl rfl rfl rfl dX10_init_10 ?_
  exact ww_vret (u := [(h, .inr (10, [.ref q_1, .int 0, .int 0, .int 0, .int 0])), (q_1, .inl (E.2.1 0, 160, .inl (fun _ => 0)))]) C hT [0, 1] rfl rfl rfl rfl dX10_init_13 (⟨q_1, rfl⟩)
theorem dX5_init_0 : decode cX5_init 0 = .ok (.aload_n 0, 1) := by decide +kernel
theorem dX5_init_1 : decode cX5_init 1 = .ok (.invokespecial 3, 3) := by decide +kernel
theorem wl_X5_3 : Cond.methodLink RX5 3 objectInit ∈ TB := tbm (tq1 (List.mem_of_getElem? (i := 71) (by decide +kernel))) (by decide +kernel)
theorem dX5_init_4 : decode cX5_init 4 = .ok (.aload_n 0, 1) := by decide +kernel
theorem dX5_init_5 : decode cX5_init 5 = .ok (.new 9, 3) := by decide +kernel
theorem wk_X5_9 : Cond.classLink RX5 9 RX10 ∈ TB := tbm (tq1 (List.mem_of_getElem? (i := 72) (by decide +kernel))) (by decide +kernel)
theorem wq_X10 : Cond.instantiable RX10 5 ∈ TB := tbm (tq1 (List.mem_of_getElem? (i := 73) (by decide +kernel))) (by decide +kernel)
theorem wn_X10 : Cond.initialized RX10 ∈ TB := tbm (tq1 (List.mem_of_getElem? (i := 4) (by decide +kernel))) (by decide +kernel)
theorem cn_X5_9 : CN RX5 9 10 5 [.null, .int 0, .int 0, .int 0, .int 0] := ⟨RX10, TX10, tyX10, uw_X10, wk_X5_9, wq_X10, wn_X10, rfl, tyX10_ok, by decide +kernel⟩
theorem dX5_init_8 : decode cX5_init 8 = .ok (.dup, 1) := by decide +kernel
theorem dX5_init_9 : decode cX5_init 9 = .ok (.invokespecial 11, 3) := by decide +kernel
theorem wc_X10_init : Cond.code yX10_init cX10_init 1 none ∈ TB := tbm (tq1 (List.mem_of_getElem? (i := 76) (rfl))) (by decide +kernel)
theorem wi_X10_init : Cond.instanceMethod yX10_init ∈ TB := tbm (tq1 (List.mem_of_getElem? (i := 75) (by decide +kernel))) (by decide +kernel)
theorem mn_X10_init : MN yX10_init cX10_init 1 0 := ⟨wc_X10_init, wn_X10, ⟨by decide +kernel, by decide +kernel, by decide +kernel⟩, wi_X10_init, rfl⟩
theorem dX5_init_12 : decode cX5_init 12 = .ok (.putfield 12, 3) := by decide +kernel
theorem uw_X5 : ∀ w ∈ u_ws RX5 TX5 10, w ∈ TB := uw_of [111, 113, 115, 117, 119, 121, 123, 125, 127, 129] (by decide +kernel) (by decide +kernel)
theorem wf_X5_12 : Cond.fieldLink RX5 12 RX5 "tape" "LWhoKnows$Tape;" ∈ TB := tbm (tq1 (List.mem_of_getElem? (i := 98) (by decide +kernel))) (by decide +kernel)
theorem fp_X5_12 : FP RX5 12 5 0 (.object "WhoKnows$Tape") true := ⟨RX5, TX5, 10, tyX5, uw_X5, wf_X5_12, rfl, by decide, rfl, tyX5_ok, nmX5, rfl, by decide +kernel⟩
theorem dX5_init_15 : decode cX5_init 15 = .ok (.aload_n 0, 1) := by decide +kernel
theorem dX5_init_16 : decode cX5_init 16 = .ok (.bipush 32, 2) := by decide +kernel
theorem dX5_init_18 : decode cX5_init 18 = .ok (.newarray .int, 2) := by decide +kernel
theorem dX5_init_20 : decode cX5_init 20 = .ok (.putfield 18, 3) := by decide +kernel
theorem wf_X5_18 : Cond.fieldLink RX5 18 RX5 "ops" "[I" ∈ TB := tbm (tq1 (List.mem_of_getElem? (i := 100) (by decide +kernel))) (by decide +kernel)
theorem fp_X5_18 : FP RX5 18 5 1 (.array .int) true := ⟨RX5, TX5, 10, tyX5, uw_X5, wf_X5_18, rfl, by decide, rfl, tyX5_ok, nmX5, rfl, by decide +kernel⟩
theorem dX5_init_23 : decode cX5_init 23 = .ok (.aload_n 0, 1) := by decide +kernel
theorem dX5_init_24 : decode cX5_init 24 = .ok (.bipush 32, 2) := by decide +kernel
theorem dX5_init_26 : decode cX5_init 26 = .ok (.newarray .int, 2) := by decide +kernel
theorem dX5_init_28 : decode cX5_init 28 = .ok (.putfield 22, 3) := by decide +kernel
theorem wf_X5_22 : Cond.fieldLink RX5 22 RX5 "args" "[I" ∈ TB := tbm (tq1 (List.mem_of_getElem? (i := 101) (by decide +kernel))) (by decide +kernel)
theorem fp_X5_22 : FP RX5 22 5 2 (.array .int) true := ⟨RX5, TX5, 10, tyX5, uw_X5, wf_X5_22, rfl, by decide, rfl, tyX5_ok, nmX5, rfl, by decide +kernel⟩
theorem dX5_init_31 : decode cX5_init 31 = .ok (.aload_n 0, 1) := by decide +kernel
theorem dX5_init_32 : decode cX5_init 32 = .ok (.iconst 2, 1) := by decide +kernel
theorem dX5_init_33 : decode cX5_init 33 = .ok (.newarray .int, 2) := by decide +kernel
theorem dX5_init_35 : decode cX5_init 35 = .ok (.putfield 25, 3) := by decide +kernel
theorem wf_X5_25 : Cond.fieldLink RX5 25 RX5 "after" "[I" ∈ TB := tbm (tq1 (List.mem_of_getElem? (i := 102) (by decide +kernel))) (by decide +kernel)
theorem fp_X5_25 : FP RX5 25 5 3 (.array .int) true := ⟨RX5, TX5, 10, tyX5, uw_X5, wf_X5_25, rfl, by decide, rfl, tyX5_ok, nmX5, rfl, by decide +kernel⟩
theorem dX5_init_38 : decode cX5_init 38 = .ok (.aload_n 0, 1) := by decide +kernel
theorem dX5_init_39 : decode cX5_init 39 = .ok (.bipush 32, 2) := by decide +kernel
theorem dX5_init_41 : decode cX5_init 41 = .ok (.newarray .int, 2) := by decide +kernel
theorem dX5_init_43 : decode cX5_init 43 = .ok (.putfield 28, 3) := by decide +kernel
theorem wf_X5_28 : Cond.fieldLink RX5 28 RX5 "depths" "[I" ∈ TB := tbm (tq1 (List.mem_of_getElem? (i := 103) (by decide +kernel))) (by decide +kernel)
theorem fp_X5_28 : FP RX5 28 5 4 (.array .int) true := ⟨RX5, TX5, 10, tyX5, uw_X5, wf_X5_28, rfl, by decide, rfl, tyX5_ok, nmX5, rfl, by decide +kernel⟩
theorem dX5_init_46 : decode cX5_init 46 = .ok (.return_, 1) := by decide +kernel
set_option maxRecDepth 100000 in
set_option maxHeartbeats 4000000 in
theorem k_Parser (l : Launch) (E : EV) (h : Nat)  : CT l yX5_init (Cond.code yX5_init cX5_init 1 none :: TB) ({ frames := 2, cells := 6, slots := 263, locals := 32 }) E [.ref h] [(h, .inr (5, [.null, .null, .null, .null, .null, .int 0, .int 0, .int 0, .int 0, .int 0]))] (Qv E (fun u => (∃ (t : Nat) (a : Nat) (b : Nat) (c : Nat) (d : Nat) (tb : Nat), u = [(h, .inr (5, [.ref t, .ref a, .ref b, .ref c, .ref d, .int 0, .int 0, .int 0, .int 0, .int 0])), (t, .inr (10, [.ref tb, .int 0, .int 0, .int 0, .int 0])), (tb, .inl (E.2.1 0, 160, .inl (fun _ => 0)))]))) 6 263 := by
  refine ct_of rfl rfl ?_
  intro X C hT hin
  show WW X 1 E 0 [(0, .ref h)] [] [(h, .inr (5, [.null, .null, .null, .null, .null, .int 0, .int 0, .int 0, .int 0, .int 0]))] 0 0
  refine ww_aload_n C dX5_init_0 0 rfl rfl ?_
  refine ww_objInit C wl_X5_3 wi_obj wc_obj rfl dX5_init_1 ?_
  refine ww_aload_n C dX5_init_4 0 rfl rfl ?_
  refine ww_new (k' := 1) (n' := 5) C cn_X5_9 rfl dX5_init_5 (fun q_1 => ?_)
  refine ww_eq (ws' := [(h, .inr (5, [.null, .null, .null, .null, .null, .int 0, .int 0, .int 0, .int 0, .int 0])), (q_1, .inr (10, [.null, .int 0, .int 0, .int 0, .int 0]))]) ?_ rfl rfl rfl
  refine ww_dup C dX5_init_8 rfl ?_
  refine ww_cv (wr := [(h, .inr (5, [.null, .null, .null, .null, .null, .int 0, .int 0, .int 0, .int 0, .int 0]))]) (k' := 2) (n' := 165) C (run_IN (As := []) (rest := [.ref q_1, .ref h]) C (k_Tape X.2.1 E q_1) mn_X10_init (List.mem_of_getElem? (i := 2) rfl) rfl rfl rfl rfl dX5_init_9) [1] [0] rfl rfl rfl rfl (fun u hw => ?_)
  obtain ⟨a_2, rfl⟩ := hw
  refine ww_eq (ws' := [(h, .inr (5, [.null, .null, .null, .null, .null, .int 0, .int 0, .int 0, .int 0, .int 0])), (q_1, .inr (10, [.ref a_2, .int 0, .int 0, .int 0, .int 0])), (a_2, .inl (E.2.1 0, 160, .inl (fun _ => 0)))]) ?_ rfl rfl rfl
  refine ww_putF (ws' := [(h, .inr (5, [.ref q_1, .null, .null, .null, .null, .int 0, .int 0, .int 0, .int 0, .int 0])), (q_1, .inr (10, [.ref a_2, .int 0, .int 0, .int 0, .int 0])), (a_2, .inl (E.2.1 0, 160, .inl (fun _ => 0)))]) C fp_X5_12 hin ⟨_, _, rfl⟩ 0 rfl rfl rfl rfl rfl dX5_init_12 ?_
  refine ww_aload_n C dX5_init_15 0 rfl rfl ?_
  refine ww_bipush (v := 32) C dX5_init_16 rfl ?_
  refine ww_newi (N := 32) (k' := 3) (n' := 197) C wa_int (by decide) rfl rfl rfl dX5_init_18 (fun q_3 => ?_)
  refine ww_eq (ws' := [(h, .inr (5, [.ref q_1, .null, .null, .null, .null, .int 0, .int 0, .int 0, .int 0, .int 0])), (q_1, .inr (10, [.ref a_2, .int 0, .int 0, .int 0, .int 0])), (a_2, .inl (E.2.1 0, 160, .inl (fun _ => 0))), (q_3, .inl (E.2.1 1, 32, .inl (fun _ => 0)))]) ?_ rfl rfl rfl
  refine ww_putF (ws' := [(h, .inr (5, [.ref q_1, .ref q_3, .null, .null, .null, .int 0, .int 0, .int 0, .int 0, .int 0])), (q_1, .inr (10, [.ref a_2, .int 0, .int 0, .int 0, .int 0])), (a_2, .inl (E.2.1 0, 160, .inl (fun _ => 0))), (q_3, .inl (E.2.1 1, 32, .inl (fun _ => 0)))]) C fp_X5_18 hin ⟨_, _, rfl⟩ 0 rfl rfl rfl rfl rfl dX5_init_20 ?_
  refine ww_aload_n C dX5_init_23 0 rfl rfl ?_
  refine ww_bipush (v := 32) C dX5_init_24 rfl ?_
  refine ww_newi (N := 32) (k' := 4) (n' := 229) C wa_int (by decide) rfl rfl rfl dX5_init_26 (fun q_4 => ?_)
  refine ww_eq (ws' := [(h, .inr (5, [.ref q_1, .ref q_3, .null, .null, .null, .int 0, .int 0, .int 0, .int 0, .int 0])), (q_1, .inr (10, [.ref a_2, .int 0, .int 0, .int 0, .int 0])), (a_2, .inl (E.2.1 0, 160, .inl (fun _ => 0))), (q_3, .inl (E.2.1 1, 32, .inl (fun _ => 0))), (q_4, .inl (E.2.1 1, 32, .inl (fun _ => 0)))]) ?_ rfl rfl rfl
  refine ww_putF (ws' := [(h, .inr (5, [.ref q_1, .ref q_3, .ref q_4, .null, .null, .int 0, .int 0, .int 0, .int 0, .int 0])), (q_1, .inr (10, [.ref a_2, .int 0, .int 0, .int 0, .int 0])), (a_2, .inl (E.2.1 0, 160, .inl (fun _ => 0))), (q_3, .inl (E.2.1 1, 32, .inl (fun _ => 0))), (q_4, .inl (E.2.1 1, 32, .inl (fun _ => 0)))]) C fp_X5_22 hin ⟨_, _, rfl⟩ 0 rfl rfl rfl rfl rfl dX5_init_28 ?_
  refine ww_aload_n C dX5_init_31 0 rfl rfl ?_
  refine ww_iconst (v := 2) C dX5_init_32 rfl ?_
  refine ww_newi (N := 2) (k' := 5) (n' := 231) C wa_int (by decide) rfl rfl rfl dX5_init_33 (fun q_5 => ?_)
  refine ww_eq (ws' := [(h, .inr (5, [.ref q_1, .ref q_3, .ref q_4, .null, .null, .int 0, .int 0, .int 0, .int 0, .int 0])), (q_1, .inr (10, [.ref a_2, .int 0, .int 0, .int 0, .int 0])), (a_2, .inl (E.2.1 0, 160, .inl (fun _ => 0))), (q_3, .inl (E.2.1 1, 32, .inl (fun _ => 0))), (q_4, .inl (E.2.1 1, 32, .inl (fun _ => 0))), (q_5, .inl (E.2.1 1, 2, .inl (fun _ => 0)))]) ?_ rfl rfl rfl
  refine ww_putF (ws' := [(h, .inr (5, [.ref q_1, .ref q_3, .ref q_4, .ref q_5, .null, .int 0, .int 0, .int 0, .int 0, .int 0])), (q_1, .inr (10, [.ref a_2, .int 0, .int 0, .int 0, .int 0])), (a_2, .inl (E.2.1 0, 160, .inl (fun _ => 0))), (q_3, .inl (E.2.1 1, 32, .inl (fun _ => 0))), (q_4, .inl (E.2.1 1, 32, .inl (fun _ => 0))), (q_5, .inl (E.2.1 1, 2, .inl (fun _ => 0)))]) C fp_X5_25 hin ⟨_, _, rfl⟩ 0 rfl rfl rfl rfl rfl dX5_init_35 ?_
  refine ww_aload_n C dX5_init_38 0 rfl rfl ?_
  refine ww_bipush (v := 32) C dX5_init_39 rfl ?_
  refine ww_newi (N := 32) (k' := 6) (n' := 263) C wa_int (by decide) rfl rfl rfl dX5_init_41 (fun q_6 => ?_)
  refine ww_eq (ws' := [(h, .inr (5, [.ref q_1, .ref q_3, .ref q_4, .ref q_5, .null, .int 0, .int 0, .int 0, .int 0, .int 0])), (q_1, .inr (10, [.ref a_2, .int 0, .int 0, .int 0, .int 0])), (a_2, .inl (E.2.1 0, 160, .inl (fun _ => 0))), (q_3, .inl (E.2.1 1, 32, .inl (fun _ => 0))), (q_4, .inl (E.2.1 1, 32, .inl (fun _ => 0))), (q_5, .inl (E.2.1 1, 2, .inl (fun _ => 0))), (q_6, .inl (E.2.1 1, 32, .inl (fun _ => 0)))]) ?_ rfl rfl rfl
  refine ww_putF (ws' := [(h, .inr (5, [.ref q_1, .ref q_3, .ref q_4, .ref q_5, .ref q_6, .int 0, .int 0, .int 0, .int 0, .int 0])), (q_1, .inr (10, [.ref a_2, .int 0, .int 0, .int 0, .int 0])), (a_2, .inl (E.2.1 0, 160, .inl (fun _ => 0))), (q_3, .inl (E.2.1 1, 32, .inl (fun _ => 0))), (q_4, .inl (E.2.1 1, 32, .inl (fun _ => 0))), (q_5, .inl (E.2.1 1, 2, .inl (fun _ => 0))), (q_6, .inl (E.2.1 1, 32, .inl (fun _ => 0)))]) C fp_X5_28 hin ⟨_, _, rfl⟩ 0 rfl rfl rfl rfl rfl dX5_init_43 ?_
  exact ww_vret (u := [(h, .inr (5, [.ref q_1, .ref q_3, .ref q_4, .ref q_5, .ref q_6, .int 0, .int 0, .int 0, .int 0, .int 0])), (q_1, .inr (10, [.ref a_2, .int 0, .int 0, .int 0, .int 0])), (a_2, .inl (E.2.1 0, 160, .inl (fun _ => 0)))]) C hT [0, 1, 2] rfl rfl rfl rfl dX5_init_46 (⟨q_1, q_3, q_4, q_5, q_6, a_2, rfl⟩)
theorem dX0_init_0 : decode cX0_init 0 = .ok (.aload_n 0, 1) := by decide +kernel
theorem dX0_init_1 : decode cX0_init 1 = .ok (.invokespecial 3, 3) := by decide +kernel
theorem wl_X0_3 : Cond.methodLink RX0 3 objectInit ∈ TB := tbm (tq1 (List.mem_of_getElem? (i := 148) (by decide +kernel))) (by decide +kernel)
theorem dX0_init_4 : decode cX0_init 4 = .ok (.aload_n 0, 1) := by decide +kernel
theorem dX0_init_5 : decode cX0_init 5 = .ok (.iconst 4, 1) := by decide +kernel
theorem dX0_init_6 : decode cX0_init 6 = .ok (.anewarray 9, 3) := by decide +kernel
theorem wk_X0_9 : Cond.classLink RX0 9 RX8 ∈ TB := tbm (tq1 (List.mem_of_getElem? (i := 149) (by decide +kernel))) (by decide +kernel)
theorem dX0_init_9 : decode cX0_init 9 = .ok (.putfield 11, 3) := by decide +kernel
theorem uw_X0 : ∀ w ∈ u_ws RX0 TX0 6, w ∈ TB := uw_of [167, 169, 171, 173, 175, 177] (by decide +kernel) (by decide +kernel)
theorem wf_X0_11 : Cond.fieldLink RX0 11 RX0 "ifs" "[LWhoKnows$Saying;" ∈ TB := tbm (tq1 (List.mem_of_getElem? (i := 158) (by decide +kernel))) (by decide +kernel)
theorem fp_X0_11 : FP RX0 11 0 2 (.array (.object "WhoKnows$Saying")) true := ⟨RX0, TX0, 6, tyX0, uw_X0, wf_X0_11, rfl, by decide, rfl, tyX0_ok, nmX0, rfl, by decide +kernel⟩
theorem dX0_init_12 : decode cX0_init 12 = .ok (.aload_n 0, 1) := by decide +kernel
theorem dX0_init_13 : decode cX0_init 13 = .ok (.iconst 4, 1) := by decide +kernel
theorem dX0_init_14 : decode cX0_init 14 = .ok (.newarray .int, 2) := by decide +kernel
theorem dX0_init_16 : decode cX0_init 16 = .ok (.putfield 17, 3) := by decide +kernel
theorem wf_X0_17 : Cond.fieldLink RX0 17 RX0 "so" "[I" ∈ TB := tbm (tq1 (List.mem_of_getElem? (i := 161) (by decide +kernel))) (by decide +kernel)
theorem fp_X0_17 : FP RX0 17 0 3 (.array .int) true := ⟨RX0, TX0, 6, tyX0, uw_X0, wf_X0_17, rfl, by decide, rfl, tyX0_ok, nmX0, rfl, by decide +kernel⟩
theorem dX0_init_19 : decode cX0_init 19 = .ok (.aload_n 0, 1) := by decide +kernel
theorem dX0_init_20 : decode cX0_init 20 = .ok (.iconst 4, 1) := by decide +kernel
theorem dX0_init_21 : decode cX0_init 21 = .ok (.newarray .int, 2) := by decide +kernel
theorem dX0_init_23 : decode cX0_init 23 = .ok (.putfield 21, 3) := by decide +kernel
theorem wf_X0_21 : Cond.fieldLink RX0 21 RX0 "not" "[I" ∈ TB := tbm (tq1 (List.mem_of_getElem? (i := 163) (by decide +kernel))) (by decide +kernel)
theorem fp_X0_21 : FP RX0 21 0 4 (.array .int) true := ⟨RX0, TX0, 6, tyX0, uw_X0, wf_X0_21, rfl, by decide, rfl, tyX0_ok, nmX0, rfl, by decide +kernel⟩
theorem dX0_init_26 : decode cX0_init 26 = .ok (.aload_n 0, 1) := by decide +kernel
theorem dX0_init_27 : decode cX0_init 27 = .ok (.bipush 16, 2) := by decide +kernel
theorem dX0_init_29 : decode cX0_init 29 = .ok (.newarray .int, 2) := by decide +kernel
theorem dX0_init_31 : decode cX0_init 31 = .ok (.putfield 24, 3) := by decide +kernel
theorem wf_X0_24 : Cond.fieldLink RX0 24 RX0 "possible" "[I" ∈ TB := tbm (tq1 (List.mem_of_getElem? (i := 165) (by decide +kernel))) (by decide +kernel)
theorem fp_X0_24 : FP RX0 24 0 5 (.array .int) true := ⟨RX0, TX0, 6, tyX0, uw_X0, wf_X0_24, rfl, by decide, rfl, tyX0_ok, nmX0, rfl, by decide +kernel⟩
theorem dX0_init_34 : decode cX0_init 34 = .ok (.return_, 1) := by decide +kernel
set_option maxRecDepth 100000 in
set_option maxHeartbeats 4000000 in
theorem k_Event (l : Launch) (E : EV) (h : Nat)  : CT l yX0_init (Cond.code yX0_init cX0_init 1 none :: TB) ({ frames := 1, cells := 4, slots := 28, locals := 12 }) E [.ref h] [(h, .inr (0, [.int 0, .int 0, .null, .null, .null, .null]))] (Qv E (fun u => (∃ (a : Nat) (b : Nat) (c : Nat) (d : Nat), u = [(h, .inr (0, [.int 0, .int 0, .ref a, .ref b, .ref c, .ref d])), (a, .inl (E.2.1 7, 4, .inr (.inr (.inr (.inr (fun _ => none)))))), (b, .inl (E.2.1 1, 4, .inl (fun _ => 0))), (c, .inl (E.2.1 1, 4, .inl (fun _ => 0))), (d, .inl (E.2.1 1, 16, .inl (fun _ => 0)))]))) 4 28 := by
  refine ct_of rfl rfl ?_
  intro X C hT hin
  show WW X 1 E 0 [(0, .ref h)] [] [(h, .inr (0, [.int 0, .int 0, .null, .null, .null, .null]))] 0 0
  refine ww_aload_n C dX0_init_0 0 rfl rfl ?_
  refine ww_objInit C wl_X0_3 wi_obj wc_obj rfl dX0_init_1 ?_
  refine ww_aload_n C dX0_init_4 0 rfl rfl ?_
  refine ww_iconst (v := 4) C dX0_init_5 rfl ?_
  refine ww_newq (N := 4) (t0 := 7) (Cn := "WhoKnows$Saying") (k' := 1) (n' := 4) C wk_X0_9 (by decide) rfl (by decide) rfl rfl rfl dX0_init_6 (fun q_1 => ?_)
  refine ww_eq (ws' := [(h, .inr (0, [.int 0, .int 0, .null, .null, .null, .null])), (q_1, .inl (E.2.1 7, 4, .inr (.inr (.inr (.inr (fun _ => none))))))]) ?_ rfl rfl rfl
  refine ww_putF (ws' := [(h, .inr (0, [.int 0, .int 0, .ref q_1, .null, .null, .null])), (q_1, .inl (E.2.1 7, 4, .inr (.inr (.inr (.inr (fun _ => none))))))]) C fp_X0_11 hin ⟨_, _, rfl⟩ 0 rfl rfl rfl rfl rfl dX0_init_9 ?_
  refine ww_aload_n C dX0_init_12 0 rfl rfl ?_
  refine ww_iconst (v := 4) C dX0_init_13 rfl ?_
  refine ww_newi (N := 4) (k' := 2) (n' := 8) C wa_int (by decide) rfl rfl rfl dX0_init_14 (fun q_2 => ?_)
  refine ww_eq (ws' := [(h, .inr (0, [.int 0, .int 0, .ref q_1, .null, .null, .null])), (q_1, .inl (E.2.1 7, 4, .inr (.inr (.inr (.inr (fun _ => none)))))), (q_2, .inl (E.2.1 1, 4, .inl (fun _ => 0)))]) ?_ rfl rfl rfl
  refine ww_putF (ws' := [(h, .inr (0, [.int 0, .int 0, .ref q_1, .ref q_2, .null, .null])), (q_1, .inl (E.2.1 7, 4, .inr (.inr (.inr (.inr (fun _ => none)))))), (q_2, .inl (E.2.1 1, 4, .inl (fun _ => 0)))]) C fp_X0_17 hin ⟨_, _, rfl⟩ 0 rfl rfl rfl rfl rfl dX0_init_16 ?_
  refine ww_aload_n C dX0_init_19 0 rfl rfl ?_
  refine ww_iconst (v := 4) C dX0_init_20 rfl ?_
  refine ww_newi (N := 4) (k' := 3) (n' := 12) C wa_int (by decide) rfl rfl rfl dX0_init_21 (fun q_3 => ?_)
  refine ww_eq (ws' := [(h, .inr (0, [.int 0, .int 0, .ref q_1, .ref q_2, .null, .null])), (q_1, .inl (E.2.1 7, 4, .inr (.inr (.inr (.inr (fun _ => none)))))), (q_2, .inl (E.2.1 1, 4, .inl (fun _ => 0))), (q_3, .inl (E.2.1 1, 4, .inl (fun _ => 0)))]) ?_ rfl rfl rfl
  refine ww_putF (ws' := [(h, .inr (0, [.int 0, .int 0, .ref q_1, .ref q_2, .ref q_3, .null])), (q_1, .inl (E.2.1 7, 4, .inr (.inr (.inr (.inr (fun _ => none)))))), (q_2, .inl (E.2.1 1, 4, .inl (fun _ => 0))), (q_3, .inl (E.2.1 1, 4, .inl (fun _ => 0)))]) C fp_X0_21 hin ⟨_, _, rfl⟩ 0 rfl rfl rfl rfl rfl dX0_init_23 ?_
  refine ww_aload_n C dX0_init_26 0 rfl rfl ?_
  refine ww_bipush (v := 16) C dX0_init_27 rfl ?_
  refine ww_newi (N := 16) (k' := 4) (n' := 28) C wa_int (by decide) rfl rfl rfl dX0_init_29 (fun q_4 => ?_)
  refine ww_eq (ws' := [(h, .inr (0, [.int 0, .int 0, .ref q_1, .ref q_2, .ref q_3, .null])), (q_1, .inl (E.2.1 7, 4, .inr (.inr (.inr (.inr (fun _ => none)))))), (q_2, .inl (E.2.1 1, 4, .inl (fun _ => 0))), (q_3, .inl (E.2.1 1, 4, .inl (fun _ => 0))), (q_4, .inl (E.2.1 1, 16, .inl (fun _ => 0)))]) ?_ rfl rfl rfl
  refine ww_putF (ws' := [(h, .inr (0, [.int 0, .int 0, .ref q_1, .ref q_2, .ref q_3, .ref q_4])), (q_1, .inl (E.2.1 7, 4, .inr (.inr (.inr (.inr (fun _ => none)))))), (q_2, .inl (E.2.1 1, 4, .inl (fun _ => 0))), (q_3, .inl (E.2.1 1, 4, .inl (fun _ => 0))), (q_4, .inl (E.2.1 1, 16, .inl (fun _ => 0)))]) C fp_X0_24 hin ⟨_, _, rfl⟩ 0 rfl rfl rfl rfl rfl dX0_init_31 ?_
  exact ww_vret (u := [(h, .inr (0, [.int 0, .int 0, .ref q_1, .ref q_2, .ref q_3, .ref q_4])), (q_1, .inl (E.2.1 7, 4, .inr (.inr (.inr (.inr (fun _ => none)))))), (q_2, .inl (E.2.1 1, 4, .inl (fun _ => 0))), (q_3, .inl (E.2.1 1, 4, .inl (fun _ => 0))), (q_4, .inl (E.2.1 1, 16, .inl (fun _ => 0)))]) C hT [0, 1, 2, 3, 4] rfl rfl rfl rfl dX0_init_34 (⟨q_1, q_2, q_3, q_4, rfl⟩)
theorem dX3_init_0 : decode cX3_init 0 = .ok (.aload_n 0, 1) := by decide +kernel
theorem dX3_init_1 : decode cX3_init 1 = .ok (.invokespecial 3, 3) := by decide +kernel
theorem wl_X3_3 : Cond.methodLink RX3 3 objectInit ∈ TB := tbm (tq1 (List.mem_of_getElem? (i := 184) (by decide +kernel))) (by decide +kernel)
theorem dX3_init_4 : decode cX3_init 4 = .ok (.aload_n 0, 1) := by decide +kernel
theorem dX3_init_5 : decode cX3_init 5 = .ok (.new 9, 3) := by decide +kernel
theorem wk_X3_9 : Cond.classLink RX3 9 RX4 ∈ TB := tbm (tq1 (List.mem_of_getElem? (i := 185) (by decide +kernel))) (by decide +kernel)
theorem wq_X4 : Cond.instantiable RX4 4 ∈ TB := tbm (tq1 (List.mem_of_getElem? (i := 30) (by decide +kernel))) (by decide +kernel)
theorem wn_X4 : Cond.initialized RX4 ∈ TB := tbm (tq1 (List.mem_of_getElem? (i := 2) (by decide +kernel))) (by decide +kernel)
theorem cn_X3_9 : CN RX3 9 4 4 [.int 0, .int 0, .null, .null] := ⟨RX4, TX4, tyX4, uw_X4, wk_X3_9, wq_X4, wn_X4, rfl, tyX4_ok, by decide +kernel⟩
theorem dX3_init_8 : decode cX3_init 8 = .ok (.dup, 1) := by decide +kernel
theorem dX3_init_9 : decode cX3_init 9 = .ok (.invokespecial 11, 3) := by decide +kernel
theorem wc_X4_init : Cond.code yX4_init cX4_init 1 none ∈ TB := tbm (tq1 (List.mem_of_getElem? (i := 33) (rfl))) (by decide +kernel)
theorem wi_X4_init : Cond.instanceMethod yX4_init ∈ TB := tbm (tq1 (List.mem_of_getElem? (i := 32) (by decide +kernel))) (by decide +kernel)
theorem mn_X4_init : MN yX4_init cX4_init 1 0 := ⟨wc_X4_init, wn_X4, ⟨by decide +kernel, by decide +kernel, by decide +kernel⟩, wi_X4_init, rfl⟩
theorem dX3_init_12 : decode cX3_init 12 = .ok (.putfield 12, 3) := by decide +kernel
theorem uw_X3 : ∀ w ∈ u_ws RX3 TX3 6, w ∈ TB := uw_of [199, 201, 203, 205, 207, 209] (by decide +kernel) (by decide +kernel)
theorem wf_X3_12 : Cond.fieldLink RX3 12 RX3 "behind" "LWhoKnows$Model;" ∈ TB := tbm (tq1 (List.mem_of_getElem? (i := 187) (by decide +kernel))) (by decide +kernel)
theorem fp_X3_12 : FP RX3 12 3 0 (.object "WhoKnows$Model") true := ⟨RX3, TX3, 6, tyX3, uw_X3, wf_X3_12, rfl, by decide, rfl, tyX3_ok, nmX3, rfl, by decide +kernel⟩
theorem dX3_init_15 : decode cX3_init 15 = .ok (.aload_n 0, 1) := by decide +kernel
theorem dX3_init_16 : decode cX3_init 16 = .ok (.bipush 24, 2) := by decide +kernel
theorem dX3_init_18 : decode cX3_init 18 = .ok (.newarray .int, 2) := by decide +kernel
theorem dX3_init_20 : decode cX3_init 20 = .ok (.putfield 18, 3) := by decide +kernel
theorem wf_X3_18 : Cond.fieldLink RX3 18 RX3 "canBe" "[I" ∈ TB := tbm (tq1 (List.mem_of_getElem? (i := 196) (by decide +kernel))) (by decide +kernel)
theorem fp_X3_18 : FP RX3 18 3 3 (.array .int) true := ⟨RX3, TX3, 6, tyX3, uw_X3, wf_X3_18, rfl, by decide, rfl, tyX3_ok, nmX3, rfl, by decide +kernel⟩
theorem dX3_init_23 : decode cX3_init 23 = .ok (.aload_n 0, 1) := by decide +kernel
theorem dX3_init_24 : decode cX3_init 24 = .ok (.bipush 24, 2) := by decide +kernel
theorem dX3_init_26 : decode cX3_init 26 = .ok (.newarray .int, 2) := by decide +kernel
theorem dX3_init_28 : decode cX3_init 28 = .ok (.putfield 22, 3) := by decide +kernel
theorem wf_X3_22 : Cond.fieldLink RX3 22 RX3 "firstPair" "[I" ∈ TB := tbm (tq1 (List.mem_of_getElem? (i := 197) (by decide +kernel))) (by decide +kernel)
theorem fp_X3_22 : FP RX3 22 3 4 (.array .int) true := ⟨RX3, TX3, 6, tyX3, uw_X3, wf_X3_22, rfl, by decide, rfl, tyX3_ok, nmX3, rfl, by decide +kernel⟩
theorem dX3_init_31 : decode cX3_init 31 = .ok (.aload_n 0, 1) := by decide +kernel
theorem dX3_init_32 : decode cX3_init 32 = .ok (.iconst 4, 1) := by decide +kernel
theorem dX3_init_33 : decode cX3_init 33 = .ok (.newarray .int, 2) := by decide +kernel
theorem dX3_init_35 : decode cX3_init 35 = .ok (.putfield 25, 3) := by decide +kernel
theorem wf_X3_25 : Cond.fieldLink RX3 25 RX3 "pairsOfCase" "[I" ∈ TB := tbm (tq1 (List.mem_of_getElem? (i := 198) (by decide +kernel))) (by decide +kernel)
theorem fp_X3_25 : FP RX3 25 3 5 (.array .int) true := ⟨RX3, TX3, 6, tyX3, uw_X3, wf_X3_25, rfl, by decide, rfl, tyX3_ok, nmX3, rfl, by decide +kernel⟩
theorem dX3_init_38 : decode cX3_init 38 = .ok (.return_, 1) := by decide +kernel
set_option maxRecDepth 100000 in
set_option maxHeartbeats 4000000 in
theorem k_Layer (l : Launch) (E : EV) (h : Nat)  : CT l yX3_init (Cond.code yX3_init cX3_init 1 none :: TB) ({ frames := 2, cells := 6, slots := 176, locals := 32 }) E [.ref h] [(h, .inr (3, [.null, .int 0, .int 0, .null, .null, .null]))] (Qv E (fun u => (∃ (m : Nat) (a : Nat) (b : Nat) (c : Nat), u = [(h, .inr (3, [.ref m, .int 0, .int 0, .ref a, .ref b, .ref c]))]))) 6 176 := by
  refine ct_of rfl rfl ?_
  intro X C hT hin
  show WW X 1 E 0 [(0, .ref h)] [] [(h, .inr (3, [.null, .int 0, .int 0, .null, .null, .null]))] 0 0
  refine ww_aload_n C dX3_init_0 0 rfl rfl ?_
  refine ww_objInit C wl_X3_3 wi_obj wc_obj rfl dX3_init_1 ?_
  refine ww_aload_n C dX3_init_4 0 rfl rfl ?_
  refine ww_new (k' := 1) (n' := 4) C cn_X3_9 rfl dX3_init_5 (fun q_1 => ?_)
  refine ww_eq (ws' := [(h, .inr (3, [.null, .int 0, .int 0, .null, .null, .null])), (q_1, .inr (4, [.int 0, .int 0, .null, .null]))]) ?_ rfl rfl rfl
  refine ww_dup C dX3_init_8 rfl ?_
  refine ww_cv (wr := [(h, .inr (3, [.null, .int 0, .int 0, .null, .null, .null]))]) (k' := 3) (n' := 124) C (run_IN (As := []) (rest := [.ref q_1, .ref h]) C (k_Model X.2.1 E q_1) mn_X4_init (List.mem_of_getElem? (i := 5) rfl) rfl rfl rfl rfl dX3_init_9) [1] [0] rfl rfl rfl rfl (fun u hw => ?_)
  obtain ⟨a_2, b_3, rfl⟩ := hw
  refine ww_eq (ws' := [(h, .inr (3, [.null, .int 0, .int 0, .null, .null, .null])), (q_1, .inr (4, [.int 0, .int 0, .ref a_2, .ref b_3])), (a_2, .inl (E.2.1 1, 24, .inl (fun _ => 0))), (b_3, .inl (E.2.1 1, 96, .inl (fun _ => 0)))]) ?_ rfl rfl rfl
  refine ww_putF (ws' := [(h, .inr (3, [.ref q_1, .int 0, .int 0, .null, .null, .null])), (q_1, .inr (4, [.int 0, .int 0, .ref a_2, .ref b_3])), (a_2, .inl (E.2.1 1, 24, .inl (fun _ => 0))), (b_3, .inl (E.2.1 1, 96, .inl (fun _ => 0)))]) C fp_X3_12 hin ⟨_, _, rfl⟩ 0 rfl rfl rfl rfl rfl dX3_init_12 ?_
  refine ww_aload_n C dX3_init_15 0 rfl rfl ?_
  refine ww_bipush (v := 24) C dX3_init_16 rfl ?_
  refine ww_newi (N := 24) (k' := 4) (n' := 148) C wa_int (by decide) rfl rfl rfl dX3_init_18 (fun q_4 => ?_)
  refine ww_eq (ws' := [(h, .inr (3, [.ref q_1, .int 0, .int 0, .null, .null, .null])), (q_1, .inr (4, [.int 0, .int 0, .ref a_2, .ref b_3])), (a_2, .inl (E.2.1 1, 24, .inl (fun _ => 0))), (b_3, .inl (E.2.1 1, 96, .inl (fun _ => 0))), (q_4, .inl (E.2.1 1, 24, .inl (fun _ => 0)))]) ?_ rfl rfl rfl
  refine ww_putF (ws' := [(h, .inr (3, [.ref q_1, .int 0, .int 0, .ref q_4, .null, .null])), (q_1, .inr (4, [.int 0, .int 0, .ref a_2, .ref b_3])), (a_2, .inl (E.2.1 1, 24, .inl (fun _ => 0))), (b_3, .inl (E.2.1 1, 96, .inl (fun _ => 0))), (q_4, .inl (E.2.1 1, 24, .inl (fun _ => 0)))]) C fp_X3_18 hin ⟨_, _, rfl⟩ 0 rfl rfl rfl rfl rfl dX3_init_20 ?_
  refine ww_aload_n C dX3_init_23 0 rfl rfl ?_
  refine ww_bipush (v := 24) C dX3_init_24 rfl ?_
  refine ww_newi (N := 24) (k' := 5) (n' := 172) C wa_int (by decide) rfl rfl rfl dX3_init_26 (fun q_5 => ?_)
  refine ww_eq (ws' := [(h, .inr (3, [.ref q_1, .int 0, .int 0, .ref q_4, .null, .null])), (q_1, .inr (4, [.int 0, .int 0, .ref a_2, .ref b_3])), (a_2, .inl (E.2.1 1, 24, .inl (fun _ => 0))), (b_3, .inl (E.2.1 1, 96, .inl (fun _ => 0))), (q_4, .inl (E.2.1 1, 24, .inl (fun _ => 0))), (q_5, .inl (E.2.1 1, 24, .inl (fun _ => 0)))]) ?_ rfl rfl rfl
  refine ww_putF (ws' := [(h, .inr (3, [.ref q_1, .int 0, .int 0, .ref q_4, .ref q_5, .null])), (q_1, .inr (4, [.int 0, .int 0, .ref a_2, .ref b_3])), (a_2, .inl (E.2.1 1, 24, .inl (fun _ => 0))), (b_3, .inl (E.2.1 1, 96, .inl (fun _ => 0))), (q_4, .inl (E.2.1 1, 24, .inl (fun _ => 0))), (q_5, .inl (E.2.1 1, 24, .inl (fun _ => 0)))]) C fp_X3_22 hin ⟨_, _, rfl⟩ 0 rfl rfl rfl rfl rfl dX3_init_28 ?_
  refine ww_aload_n C dX3_init_31 0 rfl rfl ?_
  refine ww_iconst (v := 4) C dX3_init_32 rfl ?_
  refine ww_newi (N := 4) (k' := 6) (n' := 176) C wa_int (by decide) rfl rfl rfl dX3_init_33 (fun q_6 => ?_)
  refine ww_eq (ws' := [(h, .inr (3, [.ref q_1, .int 0, .int 0, .ref q_4, .ref q_5, .null])), (q_1, .inr (4, [.int 0, .int 0, .ref a_2, .ref b_3])), (a_2, .inl (E.2.1 1, 24, .inl (fun _ => 0))), (b_3, .inl (E.2.1 1, 96, .inl (fun _ => 0))), (q_4, .inl (E.2.1 1, 24, .inl (fun _ => 0))), (q_5, .inl (E.2.1 1, 24, .inl (fun _ => 0))), (q_6, .inl (E.2.1 1, 4, .inl (fun _ => 0)))]) ?_ rfl rfl rfl
  refine ww_putF (ws' := [(h, .inr (3, [.ref q_1, .int 0, .int 0, .ref q_4, .ref q_5, .ref q_6])), (q_1, .inr (4, [.int 0, .int 0, .ref a_2, .ref b_3])), (a_2, .inl (E.2.1 1, 24, .inl (fun _ => 0))), (b_3, .inl (E.2.1 1, 96, .inl (fun _ => 0))), (q_4, .inl (E.2.1 1, 24, .inl (fun _ => 0))), (q_5, .inl (E.2.1 1, 24, .inl (fun _ => 0))), (q_6, .inl (E.2.1 1, 4, .inl (fun _ => 0)))]) C fp_X3_25 hin ⟨_, _, rfl⟩ 0 rfl rfl rfl rfl rfl dX3_init_35 ?_
  exact ww_vret (u := [(h, .inr (3, [.ref q_1, .int 0, .int 0, .ref q_4, .ref q_5, .ref q_6]))]) C hT [0] rfl rfl rfl rfl dX3_init_38 (⟨q_1, q_4, q_5, q_6, rfl⟩)
theorem dX1_init_0 : decode cX1_init 0 = .ok (.aload_n 0, 1) := by decide +kernel
theorem dX1_init_1 : decode cX1_init 1 = .ok (.invokespecial 3, 3) := by decide +kernel
theorem wl_X1_3 : Cond.methodLink RX1 3 objectInit ∈ TB := tbm (tq1 (List.mem_of_getElem? (i := 236) (by decide +kernel))) (by decide +kernel)
theorem dX1_init_4 : decode cX1_init 4 = .ok (.aload_n 0, 1) := by decide +kernel
theorem dX1_init_5 : decode cX1_init 5 = .ok (.bipush 48, 2) := by decide +kernel
theorem dX1_init_7 : decode cX1_init 7 = .ok (.newarray .int, 2) := by decide +kernel
theorem dX1_init_9 : decode cX1_init 9 = .ok (.putfield 9, 3) := by decide +kernel
theorem uw_X1 : ∀ w ∈ u_ws RX1 TX1 6, w ∈ TB := uw_of [244, 246, 248, 250, 252, 254] (by decide +kernel) (by decide +kernel)
theorem wf_X1_9 : Cond.fieldLink RX1 9 RX1 "least" "[I" ∈ TB := tbm (tq2 (List.mem_of_getElem? (i := 0) (by decide +kernel))) (by decide +kernel)
theorem fp_X1_9 : FP RX1 9 1 3 (.array .int) true := ⟨RX1, TX1, 6, tyX1, uw_X1, wf_X1_9, rfl, by decide, rfl, tyX1_ok, nmX1, rfl, by decide +kernel⟩
theorem dX1_init_12 : decode cX1_init 12 = .ok (.aload_n 0, 1) := by decide +kernel
theorem dX1_init_13 : decode cX1_init 13 = .ok (.bipush 48, 2) := by decide +kernel
theorem dX1_init_15 : decode cX1_init 15 = .ok (.newarray .int, 2) := by decide +kernel
theorem dX1_init_17 : decode cX1_init 17 = .ok (.putfield 15, 3) := by decide +kernel
theorem wf_X1_15 : Cond.fieldLink RX1 15 RX1 "next" "[I" ∈ TB := tbm (tq2 (List.mem_of_getElem? (i := 2) (by decide +kernel))) (by decide +kernel)
theorem fp_X1_15 : FP RX1 15 1 4 (.array .int) true := ⟨RX1, TX1, 6, tyX1, uw_X1, wf_X1_15, rfl, by decide, rfl, tyX1_ok, nmX1, rfl, by decide +kernel⟩
theorem dX1_init_20 : decode cX1_init 20 = .ok (.aload_n 0, 1) := by decide +kernel
theorem dX1_init_21 : decode cX1_init 21 = .ok (.sipush 192, 3) := by decide +kernel
theorem dX1_init_24 : decode cX1_init 24 = .ok (.newarray .long, 2) := by decide +kernel
theorem wa_long : Cond.arrayClass .long ∈ TB := tbm (tq2 (List.mem_of_getElem? (i := 17) (by decide +kernel))) (by decide +kernel)
theorem dX1_init_26 : decode cX1_init 26 = .ok (.putfield 18, 3) := by decide +kernel
theorem wf_X1_18 : Cond.fieldLink RX1 18 RX1 "seen" "[J" ∈ TB := tbm (tq2 (List.mem_of_getElem? (i := 3) (by decide +kernel))) (by decide +kernel)
theorem fp_X1_18 : FP RX1 18 1 5 (.array .long) true := ⟨RX1, TX1, 6, tyX1, uw_X1, wf_X1_18, rfl, by decide, rfl, tyX1_ok, nmX1, rfl, by decide +kernel⟩
theorem dX1_init_29 : decode cX1_init 29 = .ok (.return_, 1) := by decide +kernel
set_option maxRecDepth 100000 in
set_option maxHeartbeats 4000000 in
theorem k_Heaps (l : Launch) (E : EV) (h : Nat)  : CT l yX1_init (Cond.code yX1_init cX1_init 1 none :: TB) ({ frames := 1, cells := 3, slots := 288, locals := 12 }) E [.ref h] [(h, .inr (1, [.null, .null, .int 0, .null, .null, .null]))] (Qv E (fun u => (∃ (a : Nat) (b : Nat) (c : Nat), u = [(h, .inr (1, [.null, .null, .int 0, .ref a, .ref b, .ref c]))]))) 3 288 := by
  refine ct_of rfl rfl ?_
  intro X C hT hin
  show WW X 1 E 0 [(0, .ref h)] [] [(h, .inr (1, [.null, .null, .int 0, .null, .null, .null]))] 0 0
  refine ww_aload_n C dX1_init_0 0 rfl rfl ?_
  refine ww_objInit C wl_X1_3 wi_obj wc_obj rfl dX1_init_1 ?_
  refine ww_aload_n C dX1_init_4 0 rfl rfl ?_
  refine ww_bipush (v := 48) C dX1_init_5 rfl ?_
  refine ww_newi (N := 48) (k' := 1) (n' := 48) C wa_int (by decide) rfl rfl rfl dX1_init_7 (fun q_1 => ?_)
  refine ww_eq (ws' := [(h, .inr (1, [.null, .null, .int 0, .null, .null, .null])), (q_1, .inl (E.2.1 1, 48, .inl (fun _ => 0)))]) ?_ rfl rfl rfl
  refine ww_putF (ws' := [(h, .inr (1, [.null, .null, .int 0, .ref q_1, .null, .null])), (q_1, .inl (E.2.1 1, 48, .inl (fun _ => 0)))]) C fp_X1_9 hin ⟨_, _, rfl⟩ 0 rfl rfl rfl rfl rfl dX1_init_9 ?_
  refine ww_aload_n C dX1_init_12 0 rfl rfl ?_
  refine ww_bipush (v := 48) C dX1_init_13 rfl ?_
  refine ww_newi (N := 48) (k' := 2) (n' := 96) C wa_int (by decide) rfl rfl rfl dX1_init_15 (fun q_2 => ?_)
  refine ww_eq (ws' := [(h, .inr (1, [.null, .null, .int 0, .ref q_1, .null, .null])), (q_1, .inl (E.2.1 1, 48, .inl (fun _ => 0))), (q_2, .inl (E.2.1 1, 48, .inl (fun _ => 0)))]) ?_ rfl rfl rfl
  refine ww_putF (ws' := [(h, .inr (1, [.null, .null, .int 0, .ref q_1, .ref q_2, .null])), (q_1, .inl (E.2.1 1, 48, .inl (fun _ => 0))), (q_2, .inl (E.2.1 1, 48, .inl (fun _ => 0)))]) C fp_X1_15 hin ⟨_, _, rfl⟩ 0 rfl rfl rfl rfl rfl dX1_init_17 ?_
  refine ww_aload_n C dX1_init_20 0 rfl rfl ?_
  refine ww_sipush (v := 192) C dX1_init_21 rfl ?_
  refine ww_newl (N := 192) (k' := 3) (n' := 288) C wa_long (by decide) rfl rfl rfl dX1_init_24 (fun q_3 => ?_)
  refine ww_eq (ws' := [(h, .inr (1, [.null, .null, .int 0, .ref q_1, .ref q_2, .null])), (q_1, .inl (E.2.1 1, 48, .inl (fun _ => 0))), (q_2, .inl (E.2.1 1, 48, .inl (fun _ => 0))), (q_3, .inl (E.2.1 2, 192, .inr (.inl (fun _ => 0))))]) ?_ rfl rfl rfl
  refine ww_putF (ws' := [(h, .inr (1, [.null, .null, .int 0, .ref q_1, .ref q_2, .ref q_3])), (q_1, .inl (E.2.1 1, 48, .inl (fun _ => 0))), (q_2, .inl (E.2.1 1, 48, .inl (fun _ => 0))), (q_3, .inl (E.2.1 2, 192, .inr (.inl (fun _ => 0))))]) C fp_X1_18 hin ⟨_, _, rfl⟩ 0 rfl rfl rfl rfl rfl dX1_init_26 ?_
  exact ww_vret (u := [(h, .inr (1, [.null, .null, .int 0, .ref q_1, .ref q_2, .ref q_3]))]) C hT [0] rfl rfl rfl rfl dX1_init_29 (⟨q_1, q_2, q_3, rfl⟩)
theorem dX7_init_0 : decode cX7_init 0 = .ok (.aload_n 0, 1) := by decide +kernel
theorem dX7_init_1 : decode cX7_init 1 = .ok (.invokespecial 3, 3) := by decide +kernel
theorem wl_X7_3 : Cond.methodLink RX7 3 objectInit ∈ TB := tbm (tq2 (List.mem_of_getElem? (i := 23) (by decide +kernel))) (by decide +kernel)
theorem dX7_init_4 : decode cX7_init 4 = .ok (.aload_n 0, 1) := by decide +kernel
theorem dX7_init_5 : decode cX7_init 5 = .ok (.new 9, 3) := by decide +kernel
theorem wk_X7_9 : Cond.classLink RX7 9 RX4 ∈ TB := tbm (tq2 (List.mem_of_getElem? (i := 24) (by decide +kernel))) (by decide +kernel)
theorem cn_X7_9 : CN RX7 9 4 4 [.int 0, .int 0, .null, .null] := ⟨RX4, TX4, tyX4, uw_X4, wk_X7_9, wq_X4, wn_X4, rfl, tyX4_ok, by decide +kernel⟩
theorem dX7_init_8 : decode cX7_init 8 = .ok (.dup, 1) := by decide +kernel
theorem dX7_init_9 : decode cX7_init 9 = .ok (.invokespecial 11, 3) := by decide +kernel
theorem dX7_init_12 : decode cX7_init 12 = .ok (.putfield 12, 3) := by decide +kernel
theorem uw_X7 : ∀ w ∈ u_ws RX7 TX7 5, w ∈ TB := uw_of [276, 278, 280, 282, 284] (by decide +kernel) (by decide +kernel)
theorem wf_X7_12 : Cond.fieldLink RX7 12 RX7 "trial" "LWhoKnows$Model;" ∈ TB := tbm (tq2 (List.mem_of_getElem? (i := 26) (by decide +kernel))) (by decide +kernel)
theorem fp_X7_12 : FP RX7 12 7 0 (.object "WhoKnows$Model") true := ⟨RX7, TX7, 5, tyX7, uw_X7, wf_X7_12, rfl, by decide, rfl, tyX7_ok, nmX7, rfl, by decide +kernel⟩
theorem dX7_init_15 : decode cX7_init 15 = .ok (.aload_n 0, 1) := by decide +kernel
theorem dX7_init_16 : decode cX7_init 16 = .ok (.iconst 4, 1) := by decide +kernel
theorem dX7_init_17 : decode cX7_init 17 = .ok (.newarray .int, 2) := by decide +kernel
theorem dX7_init_19 : decode cX7_init 19 = .ok (.putfield 18, 3) := by decide +kernel
theorem wf_X7_18 : Cond.fieldLink RX7 18 RX7 "first" "[I" ∈ TB := tbm (tq2 (List.mem_of_getElem? (i := 28) (by decide +kernel))) (by decide +kernel)
theorem fp_X7_18 : FP RX7 18 7 1 (.array .int) true := ⟨RX7, TX7, 5, tyX7, uw_X7, wf_X7_18, rfl, by decide, rfl, tyX7_ok, nmX7, rfl, by decide +kernel⟩
theorem dX7_init_22 : decode cX7_init 22 = .ok (.return_, 1) := by decide +kernel
set_option maxRecDepth 100000 in
set_option maxHeartbeats 4000000 in
theorem k_Rounds (l : Launch) (E : EV) (h : Nat)  : CT l yX7_init (Cond.code yX7_init cX7_init 1 none :: TB) ({ frames := 2, cells := 4, slots := 128, locals := 32 }) E [.ref h] [(h, .inr (7, [.null, .null, .int 0, .int 0, .int 0]))] (Qv E (fun u => (u = []))) 4 128 := by
  refine ct_of rfl rfl ?_
  intro X C hT hin
  show WW X 1 E 0 [(0, .ref h)] [] [(h, .inr (7, [.null, .null, .int 0, .int 0, .int 0]))] 0 0
  refine ww_aload_n C dX7_init_0 0 rfl rfl ?_
  refine ww_objInit C wl_X7_3 wi_obj wc_obj rfl dX7_init_1 ?_
  refine ww_aload_n C dX7_init_4 0 rfl rfl ?_
  refine ww_new (k' := 1) (n' := 4) C cn_X7_9 rfl dX7_init_5 (fun q_1 => ?_)
  refine ww_eq (ws' := [(h, .inr (7, [.null, .null, .int 0, .int 0, .int 0])), (q_1, .inr (4, [.int 0, .int 0, .null, .null]))]) ?_ rfl rfl rfl
  refine ww_dup C dX7_init_8 rfl ?_
  refine ww_cv (wr := [(h, .inr (7, [.null, .null, .int 0, .int 0, .int 0]))]) (k' := 3) (n' := 124) C (run_IN (As := []) (rest := [.ref q_1, .ref h]) C (k_Model X.2.1 E q_1) mn_X4_init (List.mem_of_getElem? (i := 9) rfl) rfl rfl rfl rfl dX7_init_9) [1] [0] rfl rfl rfl rfl (fun u hw => ?_)
  obtain ⟨a_2, b_3, rfl⟩ := hw
  refine ww_eq (ws' := [(h, .inr (7, [.null, .null, .int 0, .int 0, .int 0])), (q_1, .inr (4, [.int 0, .int 0, .ref a_2, .ref b_3])), (a_2, .inl (E.2.1 1, 24, .inl (fun _ => 0))), (b_3, .inl (E.2.1 1, 96, .inl (fun _ => 0)))]) ?_ rfl rfl rfl
  refine ww_putF (ws' := [(h, .inr (7, [.ref q_1, .null, .int 0, .int 0, .int 0])), (q_1, .inr (4, [.int 0, .int 0, .ref a_2, .ref b_3])), (a_2, .inl (E.2.1 1, 24, .inl (fun _ => 0))), (b_3, .inl (E.2.1 1, 96, .inl (fun _ => 0)))]) C fp_X7_12 hin ⟨_, _, rfl⟩ 0 rfl rfl rfl rfl rfl dX7_init_12 ?_
  refine ww_aload_n C dX7_init_15 0 rfl rfl ?_
  refine ww_iconst (v := 4) C dX7_init_16 rfl ?_
  refine ww_newi (N := 4) (k' := 4) (n' := 128) C wa_int (by decide) rfl rfl rfl dX7_init_17 (fun q_4 => ?_)
  refine ww_eq (ws' := [(h, .inr (7, [.ref q_1, .null, .int 0, .int 0, .int 0])), (q_1, .inr (4, [.int 0, .int 0, .ref a_2, .ref b_3])), (a_2, .inl (E.2.1 1, 24, .inl (fun _ => 0))), (b_3, .inl (E.2.1 1, 96, .inl (fun _ => 0))), (q_4, .inl (E.2.1 1, 4, .inl (fun _ => 0)))]) ?_ rfl rfl rfl
  refine ww_putF (ws' := [(h, .inr (7, [.ref q_1, .ref q_4, .int 0, .int 0, .int 0])), (q_1, .inr (4, [.int 0, .int 0, .ref a_2, .ref b_3])), (a_2, .inl (E.2.1 1, 24, .inl (fun _ => 0))), (b_3, .inl (E.2.1 1, 96, .inl (fun _ => 0))), (q_4, .inl (E.2.1 1, 4, .inl (fun _ => 0)))]) C fp_X7_18 hin ⟨_, _, rfl⟩ 0 rfl rfl rfl rfl rfl dX7_init_19 ?_
  exact ww_vret (u := []) C hT [] rfl rfl rfl rfl dX7_init_22 (rfl)
theorem dX9_init_0 : decode cX9_init 0 = .ok (.aload_n 0, 1) := by decide +kernel
theorem dX9_init_1 : decode cX9_init 1 = .ok (.invokespecial 3, 3) := by decide +kernel
theorem wl_X9_3 : Cond.methodLink RX9 3 objectInit ∈ TB := tbm (tq2 (List.mem_of_getElem? (i := 79) (by decide +kernel))) (by decide +kernel)
theorem dX9_init_4 : decode cX9_init 4 = .ok (.aload_n 0, 1) := by decide +kernel
theorem dX9_init_5 : decode cX9_init 5 = .ok (.bipush 48, 2) := by decide +kernel
theorem dX9_init_7 : decode cX9_init 7 = .ok (.newarray .int, 2) := by decide +kernel
theorem dX9_init_9 : decode cX9_init 9 = .ok (.putfield 9, 3) := by decide +kernel
theorem uw_X9 : ∀ w ∈ u_ws RX9 TX9 4, w ∈ TB := uw_of [327, 329, 331, 333] (by decide +kernel) (by decide +kernel)
theorem wf_X9_9 : Cond.fieldLink RX9 9 RX9 "cells" "[I" ∈ TB := tbm (tq2 (List.mem_of_getElem? (i := 85) (by decide +kernel))) (by decide +kernel)
theorem fp_X9_9 : FP RX9 9 9 3 (.array .int) true := ⟨RX9, TX9, 4, tyX9, uw_X9, wf_X9_9, rfl, by decide, rfl, tyX9_ok, nmX9, rfl, by decide +kernel⟩
theorem dX9_init_12 : decode cX9_init 12 = .ok (.return_, 1) := by decide +kernel
set_option maxRecDepth 100000 in
set_option maxHeartbeats 4000000 in
theorem k_Sheet (l : Launch) (E : EV) (h : Nat)  : CT l yX9_init (Cond.code yX9_init cX9_init 1 none :: TB) ({ frames := 1, cells := 1, slots := 48, locals := 12 }) E [.ref h] [(h, .inr (9, [.int 0, .int 0, .int 0, .null]))] (Qv E (fun u => (∃ (a : Nat), u = [(h, .inr (9, [.int 0, .int 0, .int 0, .ref a])), (a, .inl (E.2.1 1, 48, .inl (fun _ => 0)))]))) 1 48 := by
  refine ct_of rfl rfl ?_
  intro X C hT hin
  show WW X 1 E 0 [(0, .ref h)] [] [(h, .inr (9, [.int 0, .int 0, .int 0, .null]))] 0 0
  refine ww_aload_n C dX9_init_0 0 rfl rfl ?_
  refine ww_objInit C wl_X9_3 wi_obj wc_obj rfl dX9_init_1 ?_
  refine ww_aload_n C dX9_init_4 0 rfl rfl ?_
  refine ww_bipush (v := 48) C dX9_init_5 rfl ?_
  refine ww_newi (N := 48) (k' := 1) (n' := 48) C wa_int (by decide) rfl rfl rfl dX9_init_7 (fun q_1 => ?_)
  refine ww_eq (ws' := [(h, .inr (9, [.int 0, .int 0, .int 0, .null])), (q_1, .inl (E.2.1 1, 48, .inl (fun _ => 0)))]) ?_ rfl rfl rfl
  refine ww_putF (ws' := [(h, .inr (9, [.int 0, .int 0, .int 0, .ref q_1])), (q_1, .inl (E.2.1 1, 48, .inl (fun _ => 0)))]) C fp_X9_9 hin ⟨_, _, rfl⟩ 0 rfl rfl rfl rfl rfl dX9_init_9 ?_
  exact ww_vret (u := [(h, .inr (9, [.int 0, .int 0, .int 0, .ref q_1])), (q_1, .inl (E.2.1 1, 48, .inl (fun _ => 0)))]) C hT [0, 1] rfl rfl rfl rfl dX9_init_12 (⟨q_1, rfl⟩)
theorem dX6_init_0 : decode cX6_init 0 = .ok (.aload_n 0, 1) := by decide +kernel
theorem dX6_init_1 : decode cX6_init 1 = .ok (.invokespecial 3, 3) := by decide +kernel
theorem wl_X6_3 : Cond.methodLink RX6 3 objectInit ∈ TB := tbm (tq2 (List.mem_of_getElem? (i := 52) (by decide +kernel))) (by decide +kernel)
theorem dX6_init_4 : decode cX6_init 4 = .ok (.aload_n 0, 1) := by decide +kernel
theorem dX6_init_5 : decode cX6_init 5 = .ok (.iconst 3, 1) := by decide +kernel
theorem dX6_init_6 : decode cX6_init 6 = .ok (.anewarray 9, 3) := by decide +kernel
theorem wk_X6_9 : Cond.classLink RX6 9 RX3 ∈ TB := tbm (tq2 (List.mem_of_getElem? (i := 53) (by decide +kernel))) (by decide +kernel)
theorem dX6_init_9 : decode cX6_init 9 = .ok (.putfield 11, 3) := by decide +kernel
theorem uw_X6 : ∀ w ∈ u_ws RX6 TX6 5, w ∈ TB := uw_of [302, 304, 306, 308, 310] (by decide +kernel) (by decide +kernel)
theorem wf_X6_11 : Cond.fieldLink RX6 11 RX6 "steps" "[LWhoKnows$Layer;" ∈ TB := tbm (tq2 (List.mem_of_getElem? (i := 55) (by decide +kernel))) (by decide +kernel)
theorem fp_X6_11 : FP RX6 11 6 0 (.array (.object "WhoKnows$Layer")) true := ⟨RX6, TX6, 5, tyX6, uw_X6, wf_X6_11, rfl, by decide, rfl, tyX6_ok, nmX6, rfl, by decide +kernel⟩
theorem dX6_init_12 : decode cX6_init 12 = .ok (.iconst 0, 1) := by decide +kernel
theorem dX6_init_13 : decode cX6_init 13 = .ok (.istore_n 1, 1) := by decide +kernel
theorem dX6_init_14 : decode cX6_init 14 = .ok (.iload_n 1, 1) := by decide +kernel
theorem dX6_init_15 : decode cX6_init 15 = .ok (.iconst 3, 1) := by decide +kernel
theorem dX6_init_16 : decode cX6_init 16 = .ok (.if_icmp .ge 22, 3) := by decide +kernel
theorem dX6_init_19 : decode cX6_init 19 = .ok (.aload_n 0, 1) := by decide +kernel
theorem dX6_init_20 : decode cX6_init 20 = .ok (.getfield 11, 3) := by decide +kernel
theorem fg_X6_11 : FG RX6 11 6 0 := ⟨RX6, TX6, 5, uw_X6, wf_X6_11, rfl, by decide, rfl⟩
theorem dX6_init_23 : decode cX6_init 23 = .ok (.iload_n 1, 1) := by decide +kernel
theorem dX6_init_24 : decode cX6_init 24 = .ok (.new 9, 3) := by decide +kernel
theorem wq_X3 : Cond.instantiable RX3 6 ∈ TB := tbm (tq1 (List.mem_of_getElem? (i := 180) (by decide +kernel))) (by decide +kernel)
theorem wn_X3 : Cond.initialized RX3 ∈ TB := tbm (tq1 (List.mem_of_getElem? (i := 7) (by decide +kernel))) (by decide +kernel)
theorem cn_X6_9 : CN RX6 9 3 6 [.null, .int 0, .int 0, .null, .null, .null] := ⟨RX3, TX3, tyX3, uw_X3, wk_X6_9, wq_X3, wn_X3, rfl, tyX3_ok, by decide +kernel⟩
theorem dX6_init_27 : decode cX6_init 27 = .ok (.dup, 1) := by decide +kernel
theorem dX6_init_28 : decode cX6_init 28 = .ok (.invokespecial 17, 3) := by decide +kernel
theorem wc_X3_init : Cond.code yX3_init cX3_init 1 none ∈ TB := tbm (tq1 (List.mem_of_getElem? (i := 183) (rfl))) (by decide +kernel)
theorem wi_X3_init : Cond.instanceMethod yX3_init ∈ TB := tbm (tq1 (List.mem_of_getElem? (i := 182) (by decide +kernel))) (by decide +kernel)
theorem mn_X3_init : MN yX3_init cX3_init 1 0 := ⟨wc_X3_init, wn_X3, ⟨by decide +kernel, by decide +kernel, by decide +kernel⟩, wi_X3_init, rfl⟩
theorem dX6_init_31 : decode cX6_init 31 = .ok (.aastore, 1) := by decide +kernel
theorem dX6_init_32 : decode cX6_init 32 = .ok (.iinc 1 1, 3) := by decide +kernel
theorem dX6_init_35 : decode cX6_init 35 = .ok (.goto (-21), 3) := by decide +kernel
theorem dX6_init_38 : decode cX6_init 38 = .ok (.return_, 1) := by decide +kernel
set_option maxRecDepth 100000 in
set_option maxHeartbeats 4000000 in
theorem k_Planner (l : Launch) (E : EV) (h : Nat)  : CT l yX6_init (Cond.code yX6_init cX6_init 2 none :: TB) ({ frames := 3, cells := 22, slots := 549, locals := 52 }) E [.ref h] [(h, .inr (6, [.null, .null, .null, .int 0, .int 0]))] (Qv E (fun u => (u = []))) 22 549 := by
  refine ct_of rfl rfl ?_
  intro X C hT hin
  show WW X 2 E 0 [(0, .ref h)] [] [(h, .inr (6, [.null, .null, .null, .int 0, .int 0]))] 0 0
  refine ww_aload_n C dX6_init_0 0 rfl rfl ?_
  refine ww_objInit C wl_X6_3 wi_obj wc_obj rfl dX6_init_1 ?_
  refine ww_aload_n C dX6_init_4 0 rfl rfl ?_
  refine ww_iconst (v := 3) C dX6_init_5 rfl ?_
  refine ww_newq (N := 3) (t0 := 5) (Cn := "WhoKnows$Layer") (k' := 1) (n' := 3) C wk_X6_9 (by decide) rfl (by decide) rfl rfl rfl dX6_init_6 (fun q_1 => ?_)
  refine ww_eq (ws' := [(h, .inr (6, [.null, .null, .null, .int 0, .int 0])), (q_1, .inl (E.2.1 5, 3, .inr (.inr (.inr (.inr (fun _ => none))))))]) ?_ rfl rfl rfl
  refine ww_putF (ws' := [(h, .inr (6, [.ref q_1, .null, .null, .int 0, .int 0])), (q_1, .inl (E.2.1 5, 3, .inr (.inr (.inr (.inr (fun _ => none))))))]) C fp_X6_11 hin ⟨_, _, rfl⟩ 0 rfl rfl rfl rfl rfl dX6_init_9 ?_
  refine ww_iconst (v := 0) C dX6_init_12 rfl ?_
  refine ww_istore_n (lv' := [(1, .int 0), (0, .ref h)]) C dX6_init_13 rfl rfl rfl ?_
  refine ww_iload_n C dX6_init_14 0 rfl rfl ?_
  refine ww_iconst (v := 3) C dX6_init_15 rfl ?_
  refine ww_icmp_ge_f (tgt := 38) C dX6_init_16 (by decide) (by decide) ?_
  refine ww_aload_n C dX6_init_19 1 rfl rfl ?_
  refine ww_get C fg_X6_11 0 rfl rfl dX6_init_20 ?_
  refine ww_iload_n C dX6_init_23 0 rfl rfl ?_
  refine ww_new (k' := 2) (n' := 9) C cn_X6_9 rfl dX6_init_24 (fun q_2 => ?_)
  refine ww_eq (ws' := [(h, .inr (6, [.ref q_1, .null, .null, .int 0, .int 0])), (q_1, .inl (E.2.1 5, 3, .inr (.inr (.inr (.inr (fun _ => none)))))), (q_2, .inr (3, [.null, .int 0, .int 0, .null, .null, .null]))]) ?_ rfl rfl rfl
  refine ww_dup C dX6_init_27 rfl ?_
  refine ww_cv (wr := [(h, .inr (6, [.ref q_1, .null, .null, .int 0, .int 0])), (q_1, .inl (E.2.1 5, 3, .inr (.inr (.inr (.inr (fun _ => none))))))]) (k' := 8) (n' := 185) C (run_IN (As := []) (rest := [.ref q_2, .int 0, .ref q_1]) C (k_Layer X.2.1 E q_2) mn_X3_init (List.mem_of_getElem? (i := 10) rfl) rfl rfl rfl rfl dX6_init_28) [2] [0, 1] rfl rfl rfl rfl (fun u hw => ?_)
  obtain ⟨m_3, a_4, b_5, c_6, rfl⟩ := hw
  refine ww_eq (ws' := [(h, .inr (6, [.ref q_1, .null, .null, .int 0, .int 0])), (q_1, .inl (E.2.1 5, 3, .inr (.inr (.inr (.inr (fun _ => none)))))), (q_2, .inr (3, [.ref m_3, .int 0, .int 0, .ref a_4, .ref b_5, .ref c_6]))]) ?_ rfl rfl rfl
  obtain ⟨f_7, ef_7⟩ : ∃ z : Nat → Option Nat, va_up (fun _ => none) 0 (some q_2) = z := ⟨_, rfl⟩
  refine ww_ast (t0 := 5) (ws' := [(h, .inr (6, [.ref q_1, .null, .null, .int 0, .int 0])), (q_1, .inl (E.2.1 5, 3, .inr (.inr (.inr (.inr f_7))))), (q_2, .inr (3, [.ref m_3, .int 0, .int 0, .ref a_4, .ref b_5, .ref c_6]))]) C 1 2 rfl rfl rfl rfl (vin rfl) ef_7 rfl dX6_init_31 ?_
  refine ww_iinc (j := 0) (v := 1) (lv' := [(1, .int 1), (0, .ref h)]) C dX6_init_32 rfl rfl rfl rfl ?_
  refine ww_goto (tgt := 14) C dX6_init_35 (by decide) ?_
  refine ww_iload_n C dX6_init_14 0 rfl rfl ?_
  refine ww_iconst (v := 3) C dX6_init_15 rfl ?_
  refine ww_icmp_ge_f (tgt := 38) C dX6_init_16 (by decide) (by decide) ?_
  refine ww_aload_n C dX6_init_19 1 rfl rfl ?_
  refine ww_get C fg_X6_11 0 rfl rfl dX6_init_20 ?_
  refine ww_iload_n C dX6_init_23 0 rfl rfl ?_
  refine ww_new (k' := 9) (n' := 191) C cn_X6_9 rfl dX6_init_24 (fun q_8 => ?_)
  refine ww_eq (ws' := [(h, .inr (6, [.ref q_1, .null, .null, .int 0, .int 0])), (q_1, .inl (E.2.1 5, 3, .inr (.inr (.inr (.inr f_7))))), (q_2, .inr (3, [.ref m_3, .int 0, .int 0, .ref a_4, .ref b_5, .ref c_6])), (q_8, .inr (3, [.null, .int 0, .int 0, .null, .null, .null]))]) ?_ rfl rfl rfl
  refine ww_dup C dX6_init_27 rfl ?_
  refine ww_cv (wr := [(h, .inr (6, [.ref q_1, .null, .null, .int 0, .int 0])), (q_1, .inl (E.2.1 5, 3, .inr (.inr (.inr (.inr f_7))))), (q_2, .inr (3, [.ref m_3, .int 0, .int 0, .ref a_4, .ref b_5, .ref c_6]))]) (k' := 15) (n' := 367) C (run_IN (As := []) (rest := [.ref q_8, .int 1, .ref q_1]) C (k_Layer X.2.1 E q_8) mn_X3_init (List.mem_of_getElem? (i := 10) rfl) rfl rfl rfl rfl dX6_init_28) [3] [0, 1, 2] rfl rfl rfl rfl (fun u hw => ?_)
  obtain ⟨m_9, a_10, b_11, c_12, rfl⟩ := hw
  refine ww_eq (ws' := [(h, .inr (6, [.ref q_1, .null, .null, .int 0, .int 0])), (q_1, .inl (E.2.1 5, 3, .inr (.inr (.inr (.inr f_7))))), (q_2, .inr (3, [.ref m_3, .int 0, .int 0, .ref a_4, .ref b_5, .ref c_6])), (q_8, .inr (3, [.ref m_9, .int 0, .int 0, .ref a_10, .ref b_11, .ref c_12]))]) ?_ rfl rfl rfl
  obtain ⟨f_13, ef_13⟩ : ∃ z : Nat → Option Nat, va_up f_7 1 (some q_8) = z := ⟨_, rfl⟩
  refine ww_ast (t0 := 5) (ws' := [(h, .inr (6, [.ref q_1, .null, .null, .int 0, .int 0])), (q_1, .inl (E.2.1 5, 3, .inr (.inr (.inr (.inr f_13))))), (q_2, .inr (3, [.ref m_3, .int 0, .int 0, .ref a_4, .ref b_5, .ref c_6])), (q_8, .inr (3, [.ref m_9, .int 0, .int 0, .ref a_10, .ref b_11, .ref c_12]))]) C 1 3 rfl rfl rfl rfl (vin rfl) ef_13 rfl dX6_init_31 ?_
  refine ww_iinc (j := 0) (v := 2) (lv' := [(1, .int 2), (0, .ref h)]) C dX6_init_32 rfl rfl rfl rfl ?_
  refine ww_goto (tgt := 14) C dX6_init_35 (by decide) ?_
  refine ww_iload_n C dX6_init_14 0 rfl rfl ?_
  refine ww_iconst (v := 3) C dX6_init_15 rfl ?_
  refine ww_icmp_ge_f (tgt := 38) C dX6_init_16 (by decide) (by decide) ?_
  refine ww_aload_n C dX6_init_19 1 rfl rfl ?_
  refine ww_get C fg_X6_11 0 rfl rfl dX6_init_20 ?_
  refine ww_iload_n C dX6_init_23 0 rfl rfl ?_
  refine ww_new (k' := 16) (n' := 373) C cn_X6_9 rfl dX6_init_24 (fun q_14 => ?_)
  refine ww_eq (ws' := [(h, .inr (6, [.ref q_1, .null, .null, .int 0, .int 0])), (q_1, .inl (E.2.1 5, 3, .inr (.inr (.inr (.inr f_13))))), (q_2, .inr (3, [.ref m_3, .int 0, .int 0, .ref a_4, .ref b_5, .ref c_6])), (q_8, .inr (3, [.ref m_9, .int 0, .int 0, .ref a_10, .ref b_11, .ref c_12])), (q_14, .inr (3, [.null, .int 0, .int 0, .null, .null, .null]))]) ?_ rfl rfl rfl
  refine ww_dup C dX6_init_27 rfl ?_
  refine ww_cv (wr := [(h, .inr (6, [.ref q_1, .null, .null, .int 0, .int 0])), (q_1, .inl (E.2.1 5, 3, .inr (.inr (.inr (.inr f_13))))), (q_2, .inr (3, [.ref m_3, .int 0, .int 0, .ref a_4, .ref b_5, .ref c_6])), (q_8, .inr (3, [.ref m_9, .int 0, .int 0, .ref a_10, .ref b_11, .ref c_12]))]) (k' := 22) (n' := 549) C (run_IN (As := []) (rest := [.ref q_14, .int 2, .ref q_1]) C (k_Layer X.2.1 E q_14) mn_X3_init (List.mem_of_getElem? (i := 10) rfl) rfl rfl rfl rfl dX6_init_28) [4] [0, 1, 2, 3] rfl rfl rfl rfl (fun u hw => ?_)
  obtain ⟨m_15, a_16, b_17, c_18, rfl⟩ := hw
  refine ww_eq (ws' := [(h, .inr (6, [.ref q_1, .null, .null, .int 0, .int 0])), (q_1, .inl (E.2.1 5, 3, .inr (.inr (.inr (.inr f_13))))), (q_2, .inr (3, [.ref m_3, .int 0, .int 0, .ref a_4, .ref b_5, .ref c_6])), (q_8, .inr (3, [.ref m_9, .int 0, .int 0, .ref a_10, .ref b_11, .ref c_12])), (q_14, .inr (3, [.ref m_15, .int 0, .int 0, .ref a_16, .ref b_17, .ref c_18]))]) ?_ rfl rfl rfl
  obtain ⟨f_19, ef_19⟩ : ∃ z : Nat → Option Nat, va_up f_13 2 (some q_14) = z := ⟨_, rfl⟩
  refine ww_ast (t0 := 5) (ws' := [(h, .inr (6, [.ref q_1, .null, .null, .int 0, .int 0])), (q_1, .inl (E.2.1 5, 3, .inr (.inr (.inr (.inr f_19))))), (q_2, .inr (3, [.ref m_3, .int 0, .int 0, .ref a_4, .ref b_5, .ref c_6])), (q_8, .inr (3, [.ref m_9, .int 0, .int 0, .ref a_10, .ref b_11, .ref c_12])), (q_14, .inr (3, [.ref m_15, .int 0, .int 0, .ref a_16, .ref b_17, .ref c_18]))]) C 1 4 rfl rfl rfl rfl (vin rfl) ef_19 rfl dX6_init_31 ?_
  refine ww_iinc (j := 0) (v := 3) (lv' := [(1, .int 3), (0, .ref h)]) C dX6_init_32 rfl rfl rfl rfl ?_
  refine ww_goto (tgt := 14) C dX6_init_35 (by decide) ?_
  refine ww_iload_n C dX6_init_14 0 rfl rfl ?_
  refine ww_iconst (v := 3) C dX6_init_15 rfl ?_
  refine ww_icmp_ge_t (tgt := 38) C dX6_init_16 (by decide) (by decide) ?_
  exact ww_vret (u := []) C hT [] rfl rfl rfl rfl dX6_init_38 (rfl)
