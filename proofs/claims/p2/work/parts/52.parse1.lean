theorem dX5_fail_0 : decode cX5_fail 0 = .ok (.aload_n 0, 1) := by decide +kernel
theorem dX5_fail_1 : decode cX5_fail 1 = .ok (.iload_n 1, 1) := by decide +kernel
theorem dX5_fail_2 : decode cX5_fail 2 = .ok (.putfield 41, 3) := by decide +kernel
theorem uw_X5 : ∀ w ∈ u_ws RX5 TX5 10, w ∈ TB := uw_of [111, 113, 115, 117, 119, 121, 123, 125, 127, 129] (by decide +kernel) (by decide +kernel)
theorem wf_X5_41 : Cond.fieldLink RX5 41 RX5 "wrong" "I" ∈ TB := tbm (tq1 (List.mem_of_getElem? (i := 107) (by decide +kernel))) (by decide +kernel)
theorem fp_X5_41 : FP RX5 41 5 8 .int false := ⟨RX5, TX5, 10, tyX5, uw_X5, wf_X5_41, rfl, by decide, rfl, tyX5_ok, nmX5, rfl, by decide +kernel⟩
theorem dX5_fail_5 : decode cX5_fail 5 = .ok (.aload_n 0, 1) := by decide +kernel
theorem dX5_fail_6 : decode cX5_fail 6 = .ok (.aload_n 0, 1) := by decide +kernel
theorem dX5_fail_7 : decode cX5_fail 7 = .ok (.getfield 12, 3) := by decide +kernel
theorem wf_X5_12 : Cond.fieldLink RX5 12 RX5 "tape" "LWhoKnows$Tape;" ∈ TB := tbm (tq1 (List.mem_of_getElem? (i := 98) (by decide +kernel))) (by decide +kernel)
theorem fg_X5_12 : FG RX5 12 5 0 := ⟨RX5, TX5, 10, uw_X5, wf_X5_12, rfl, by decide, rfl⟩
theorem dX5_fail_10 : decode cX5_fail 10 = .ok (.getfield 71, 3) := by decide +kernel
theorem wf_X5_71 : Cond.fieldLink RX5 71 RX10 "start" "I" ∈ TB := tbm (tq1 (List.mem_of_getElem? (i := 84) (by decide +kernel))) (by decide +kernel)
theorem fg_X5_71 : FG RX5 71 10 4 := ⟨RX10, TX10, 5, uw_X10, wf_X5_71, rfl, by decide, rfl⟩
theorem dX5_fail_13 : decode cX5_fail 13 = .ok (.putfield 44, 3) := by decide +kernel
theorem wf_X5_44 : Cond.fieldLink RX5 44 RX5 "place" "I" ∈ TB := tbm (tq1 (List.mem_of_getElem? (i := 109) (by decide +kernel))) (by decide +kernel)
theorem fp_X5_44 : FP RX5 44 5 9 .int false := ⟨RX5, TX5, 10, tyX5, uw_X5, wf_X5_44, rfl, by decide, rfl, tyX5_ok, nmX5, rfl, by decide +kernel⟩
theorem dX5_fail_16 : decode cX5_fail 16 = .ok (.iconst 0, 1) := by decide +kernel
theorem dX5_fail_17 : decode cX5_fail 17 = .ok (.ireturn, 1) := by decide +kernel
set_option maxRecDepth 100000 in
set_option maxHeartbeats 4000000 in
theorem q_fail (l : Launch) (E : EV) (ro : va_W) (qs : Nat) (ft : Int32) (qt : Nat) (po : Nat) (pa : Nat) (pf : Nat) (pd : Nat) (nd : Int32) (tn : Int32) (an : Int32) (wr : Int32) (pl : Int32) (tb : Nat) (tl : Nat) (ta : Int32) (tk : Nat) (ts : Nat) (hts : ts ≤ 160) : CT l yX5_fail (Cond.code yX5_fail cX5_fail 2 (some .boolean) :: TB) ({ frames := 0, cells := 0, slots := 0, locals := 0 }) E ro [.ref qs, .int ft] [(qs, .inr (5, [.ref qt, .ref po, .ref pa, .ref pf, .ref pd, .int nd, .int tn, .int an, .int wr, .int pl])), (qt, .inr (10, [.ref tb, .int (nI tl), .int ta, .int (nI tk), .int (nI ts)]))] (Qi E (fun (rz : Int32) uz => (rz = 0 ∧ uz = [(qs, .inr (5, [.ref qt, .ref po, .ref pa, .ref pf, .ref pd, .int nd, .int tn, .int an, .int ft, .int (nI ts)])), (qt, .inr (10, [.ref tb, .int (nI tl), .int ta, .int (nI tk), .int (nI ts)]))]))) 0 0 := by
  refine ct_of rfl rfl ?_
  intro X C hT hin hro
  show WW X 2 E 0 [(0, .ref qs), (1, .int ft)] [] [(qs, .inr (5, [.ref qt, .ref po, .ref pa, .ref pf, .ref pd, .int nd, .int tn, .int an, .int wr, .int pl])), (qt, .inr (10, [.ref tb, .int (nI tl), .int ta, .int (nI tk), .int (nI ts)]))] 0 0
  refine ww_aload_n C dX5_fail_0 0 rfl rfl ?_
  refine ww_iload_n C dX5_fail_1 1 rfl rfl ?_
  refine ww_put (ws' := [(qs, .inr (5, [.ref qt, .ref po, .ref pa, .ref pf, .ref pd, .int nd, .int tn, .int an, .int ft, .int pl])), (qt, .inr (10, [.ref tb, .int (nI tl), .int ta, .int (nI tk), .int (nI ts)]))]) C fp_X5_41 0 rfl rfl rfl rfl rfl dX5_fail_2 ?_
  refine ww_aload_n C dX5_fail_5 0 rfl rfl ?_
  refine ww_aload_n C dX5_fail_6 0 rfl rfl ?_
  refine ww_get C fg_X5_12 0 rfl rfl dX5_fail_7 ?_
  refine ww_get C fg_X5_71 1 rfl rfl dX5_fail_10 ?_
  refine ww_put (ws' := [(qs, .inr (5, [.ref qt, .ref po, .ref pa, .ref pf, .ref pd, .int nd, .int tn, .int an, .int ft, .int (nI ts)])), (qt, .inr (10, [.ref tb, .int (nI tl), .int ta, .int (nI tk), .int (nI ts)]))]) C fp_X5_44 0 rfl rfl rfl rfl rfl dX5_fail_13 ?_
  refine ww_iconst (v := 0) C dX5_fail_16 rfl ?_
  exact ww_zret (u := [(qs, .inr (5, [.ref qt, .ref po, .ref pa, .ref pf, .ref pd, .int nd, .int tn, .int an, .int ft, .int (nI ts)])), (qt, .inr (10, [.ref tb, .int (nI tl), .int ta, .int (nI tk), .int (nI ts)]))]) C hT [0, 1] rfl rfl rfl rfl rfl dX5_fail_17 (⟨rfl, rfl⟩)
theorem dX5_next_0 : decode cX5_next 0 = .ok (.aload_n 0, 1) := by decide +kernel
theorem dX5_next_1 : decode cX5_next 1 = .ok (.getfield 12, 3) := by decide +kernel
theorem dX5_next_4 : decode cX5_next 4 = .ok (.invokevirtual 74, 3) := by decide +kernel
theorem wl_X5_74 : Cond.methodLink RX5 74 yX10_readToken ∈ TB := tbm (tq3 (List.mem_of_getElem? (i := 18) (by decide +kernel))) (by decide +kernel)
theorem wc_X10_readToken : Cond.code yX10_readToken cX10_readToken 1 none ∈ TB := tbm (tq3 (List.mem_of_getElem? (i := 21) (rfl))) (by decide +kernel)
theorem wi_X10_readToken : Cond.instanceMethod yX10_readToken ∈ TB := tbm (tq3 (List.mem_of_getElem? (i := 19) (by decide +kernel))) (by decide +kernel)
theorem ws_X10_readToken : Cond.selects RX10 yX10_readToken yX10_readToken ∈ TB := tbm (tq3 (List.mem_of_getElem? (i := 20) (by decide +kernel))) (by decide +kernel)
theorem mi_X10_readToken : MI yX10_readToken cX10_readToken 1 none 0 := ⟨wc_X10_readToken, wn_X10, ⟨by decide +kernel, by decide +kernel, by decide +kernel⟩, wi_X10_readToken, ws_X10_readToken⟩
theorem dX5_next_7 : decode cX5_next 7 = .ok (.aload_n 0, 1) := by decide +kernel
theorem dX5_next_8 : decode cX5_next 8 = .ok (.getfield 12, 3) := by decide +kernel
theorem dX5_next_11 : decode cX5_next 11 = .ok (.getfield 60, 3) := by decide +kernel
theorem wf_X5_60 : Cond.fieldLink RX5 60 RX10 "kind" "I" ∈ TB := tbm (tq1 (List.mem_of_getElem? (i := 82) (by decide +kernel))) (by decide +kernel)
theorem fg_X5_60 : FG RX5 60 10 3 := ⟨RX10, TX10, 5, uw_X10, wf_X5_60, rfl, by decide, rfl⟩
theorem dX5_next_14 : decode cX5_next 14 = .ok (.iconst 3, 1) := by decide +kernel
theorem dX5_next_15 : decode cX5_next 15 = .ok (.if_icmp .ne 11, 3) := by decide +kernel
theorem dX5_next_26 : decode cX5_next 26 = .ok (.iconst 1, 1) := by decide +kernel
theorem dX5_next_27 : decode cX5_next 27 = .ok (.goto 4, 3) := by decide +kernel
theorem dX5_next_31 : decode cX5_next 31 = .ok (.ireturn, 1) := by decide +kernel
theorem dX5_next_18 : decode cX5_next 18 = .ok (.aload_n 0, 1) := by decide +kernel
theorem dX5_next_19 : decode cX5_next 19 = .ok (.iconst 1, 1) := by decide +kernel
theorem dX5_next_20 : decode cX5_next 20 = .ok (.invokevirtual 63, 3) := by decide +kernel
theorem wl_X5_63 : Cond.methodLink RX5 63 yX5_fail ∈ TB := tbm (tq3 (List.mem_of_getElem? (i := 29) (by decide +kernel))) (by decide +kernel)
theorem wc_X5_fail : Cond.code yX5_fail cX5_fail 2 (some .boolean) ∈ TB := tbm (tq3 (List.mem_of_getElem? (i := 32) (rfl))) (by decide +kernel)
theorem wn_X5 : Cond.initialized RX5 ∈ TB := tbm (tq1 (List.mem_of_getElem? (i := 3) (by decide +kernel))) (by decide +kernel)
theorem wi_X5_fail : Cond.instanceMethod yX5_fail ∈ TB := tbm (tq3 (List.mem_of_getElem? (i := 31) (by decide +kernel))) (by decide +kernel)
theorem ws_X5_fail : Cond.selects RX5 yX5_fail yX5_fail ∈ TB := tbm (tq0 (List.mem_of_getElem? (i := 5) (by decide +kernel))) (by decide +kernel)
theorem mi_X5_fail : MI yX5_fail cX5_fail 2 (some .boolean) 1 := ⟨wc_X5_fail, wn_X5, ⟨by decide +kernel, by decide +kernel, by decide +kernel⟩, wi_X5_fail, ws_X5_fail⟩
theorem dX5_next_23 : decode cX5_next 23 = .ok (.ifCond .eq 7, 3) := by decide +kernel
theorem dX5_next_30 : decode cX5_next 30 = .ok (.iconst 0, 1) := by decide +kernel
set_option maxRecDepth 100000 in
set_option maxHeartbeats 4000000 in
theorem q_next (l : Launch) (E : EV) (ro : va_W) (qs : Nat) (qt : Nat) (po : Nat) (pa : Nat) (pf : Nat) (pd : Nat) (nd : Int32) (tn : Int32) (an : Int32) (wr : Int32) (pl : Int32) (tb : Nat) (tl : Nat) (ta : Nat) (tk : Int32) (ts : Int32) (fb : Nat → Int32) (htl : tl ≤ 160) (hta : ta ≤ tl) : CT l yX5_next (Cond.code yX5_next cX5_next 1 (some .boolean) :: TB) ({ frames := 2, cells := 0, slots := 0, locals := 44 }) E ro [.ref qs] [(qs, .inr (5, [.ref qt, .ref po, .ref pa, .ref pf, .ref pd, .int nd, .int tn, .int an, .int wr, .int pl])), (qt, .inr (10, [.ref tb, .int (nI tl), .int (nI ta), .int tk, .int ts])), (tb, .inl (E.2.1 0, 160, .inl fb))] (Qi E (fun (rz : Int32) uz => (∃ (ta2 : Nat) (tk2 : Nat) (ts2 : Nat), rz = 1 ∧ uz = [(qs, .inr (5, [.ref qt, .ref po, .ref pa, .ref pf, .ref pd, .int nd, .int tn, .int an, .int wr, .int pl])), (qt, .inr (10, [.ref tb, .int (nI tl), .int (nI ta2), .int (nI tk2), .int (nI ts2)])), (tb, .inl (E.2.1 0, 160, .inl fb))] ∧ (ts2 ≤ ta2) ∧ (ta2 ≤ tl) ∧ (tk2 ≤ 3) ∧ (tk2 = 2 → ts2 < ta2) ∧ (TX (cz fb tl) ts2 tk2 ta2) ∧ (TK (cz fb tl) ta ts2 tk2 ta2) ∧ (tk2 ≠ 3)) ∨ (∃ (ta2 : Nat) (tk2 : Nat) (ts2 : Nat), rz = 0 ∧ uz = [(qs, .inr (5, [.ref qt, .ref po, .ref pa, .ref pf, .ref pd, .int nd, .int tn, .int an, .int 1, .int (nI ts2)])), (qt, .inr (10, [.ref tb, .int (nI tl), .int (nI ta2), .int (nI tk2), .int (nI ts2)])), (tb, .inl (E.2.1 0, 160, .inl fb))] ∧ (ts2 ≤ ta2) ∧ (ta2 ≤ tl) ∧ (tk2 ≤ 3) ∧ (tk2 = 2 → ts2 < ta2) ∧ (TX (cz fb tl) ts2 tk2 ta2) ∧ (TK (cz fb tl) ta ts2 tk2 ta2) ∧ (tk2 = 3)))) 0 0 := by
  refine ct_of rfl rfl ?_
  intro X C hT hin hro
  show WW X 1 E 0 [(0, .ref qs)] [] [(qs, .inr (5, [.ref qt, .ref po, .ref pa, .ref pf, .ref pd, .int nd, .int tn, .int an, .int wr, .int pl])), (qt, .inr (10, [.ref tb, .int (nI tl), .int (nI ta), .int tk, .int ts])), (tb, .inl (E.2.1 0, 160, .inl fb))] 0 0
  refine ww_aload_n C dX5_next_0 0 rfl rfl ?_
  refine ww_get C fg_X5_12 0 rfl rfl dX5_next_1 ?_
  refine ww_cv (wr := [(qs, .inr (5, [.ref qt, .ref po, .ref pa, .ref pf, .ref pd, .int nd, .int tn, .int an, .int wr, .int pl]))]) (k' := 0) (n' := 0) C (run_V (As := []) (rest := []) C (t_readToken X.2.1 E ro qt tb tl ta tk ts fb (by omega) (by omega)) mi_X10_readToken wl_X5_74 rfl 0 10 rfl rfl rfl rfl rfl dX5_next_4) (roK hro) [1, 2] [0] rfl rfl rfl rfl (fun uz hw => ?_)
  refine ex3 hw ?_
  clear hw
  intro ta2_2 tk2_3 ts2_4 hw
  refine an6 hw ?_
  clear hw
  intro he_11 h_5 h_6 h_7 h_8 h_9 hw
  have h_10 := hw
  clear hw
  subst he_11
  refine ww_eq (ws' := [(qs, .inr (5, [.ref qt, .ref po, .ref pa, .ref pf, .ref pd, .int nd, .int tn, .int an, .int wr, .int pl])), (qt, .inr (10, [.ref tb, .int (nI tl), .int (nI ta2_2), .int (nI tk2_3), .int (nI ts2_4)])), (tb, .inl (E.2.1 0, 160, .inl fb))]) ?_ rfl rfl rfl
  refine ww_aload_n C dX5_next_7 0 rfl rfl ?_
  refine ww_get C fg_X5_12 0 rfl rfl dX5_next_8 ?_
  refine ww_get C fg_X5_60 1 rfl rfl dX5_next_11 ?_
  refine ww_iconst (v := 3) C dX5_next_14 rfl ?_
  refine ww_icmp_ne (tgt := 26) C dX5_next_15 (by decide) (fun c_12 => ?_) (fun c_12 => ?_)
  · have zc_12 : ((tk2_3 : Nat) : Int) ≠ 3 := i_ne (nI_toInt (n := tk2_3) (by omega)) rfl c_12
    refine ww_iconst (v := 1) C dX5_next_26 rfl ?_
    refine ww_goto (tgt := 31) C dX5_next_27 (by decide) ?_
    exact ww_zret (u := [(qs, .inr (5, [.ref qt, .ref po, .ref pa, .ref pf, .ref pd, .int nd, .int tn, .int an, .int wr, .int pl])), (qt, .inr (10, [.ref tb, .int (nI tl), .int (nI ta2_2), .int (nI tk2_3), .int (nI ts2_4)])), (tb, .inl (E.2.1 0, 160, .inl fb))]) C hT [0, 1, 2] rfl rfl rfl rfl rfl dX5_next_31 (Or.inl ⟨ta2_2, tk2_3, ts2_4, rfl, rfl, (by first | assumption | omega | decide), (by first | assumption | omega | decide), (by first | assumption | omega | decide), (by omega), h_10, (by assumption), (by omega)⟩)
  · have zc_12 : ((tk2_3 : Nat) : Int) = 3 := i_eq (nI_toInt (n := tk2_3) (by omega)) rfl c_12
    refine ww_aload_n C dX5_next_18 0 rfl rfl ?_
    refine ww_iconst (v := 1) C dX5_next_19 rfl ?_
    refine ww_ci (wr := [(tb, .inl (E.2.1 0, 160, .inl fb))]) (k' := 0) (n' := 0) C (run_V (As := [.int 1]) (rest := []) C (q_fail X.2.1 E ro qs 1 qt po pa pf pd nd tn an wr pl tb tl (nI ta2_2) tk2_3 ts2_4 (by omega)) mi_X5_fail wl_X5_63 rfl 0 5 rfl rfl rfl rfl rfl dX5_next_20) (roK hro) [0, 1] [2] rfl rfl rfl rfl (fun r_13 uz hw => ?_)
    refine an1 hw ?_
    clear hw
    intro he_14 hw
    have he_15 := hw
    clear hw
    have he_14 := he_14.symm
    subst he_14
    subst he_15
    refine ww_eq (ws' := [(tb, .inl (E.2.1 0, 160, .inl fb)), (qs, .inr (5, [.ref qt, .ref po, .ref pa, .ref pf, .ref pd, .int nd, .int tn, .int an, .int 1, .int (nI ts2_4)])), (qt, .inr (10, [.ref tb, .int (nI tl), .int (nI ta2_2), .int (nI tk2_3), .int (nI ts2_4)]))]) ?_ rfl rfl rfl
    refine ww_if_eq_t (tgt := 30) C dX5_next_23 (by decide) (rfl) ?_
    refine ww_iconst (v := 0) C dX5_next_30 rfl ?_
    exact ww_zret (u := [(qs, .inr (5, [.ref qt, .ref po, .ref pa, .ref pf, .ref pd, .int nd, .int tn, .int an, .int 1, .int (nI ts2_4)])), (qt, .inr (10, [.ref tb, .int (nI tl), .int (nI ta2_2), .int (nI tk2_3), .int (nI ts2_4)])), (tb, .inl (E.2.1 0, 160, .inl fb))]) C hT [1, 2, 0] rfl rfl rfl rfl rfl dX5_next_31 (Or.inr ⟨ta2_2, tk2_3, ts2_4, rfl, rfl, (by first | assumption | omega | decide), (by first | assumption | omega | decide), (by first | assumption | omega | decide), (by omega), h_10, (by assumption), (by omega)⟩)
theorem dX5_take_0 : decode cX5_take 0 = .ok (.aload_n 0, 1) := by decide +kernel
theorem dX5_take_1 : decode cX5_take 1 = .ok (.getfield 35, 3) := by decide +kernel
theorem wf_X5_35 : Cond.fieldLink RX5 35 RX5 "tokens" "I" ∈ TB := tbm (tq1 (List.mem_of_getElem? (i := 105) (by decide +kernel))) (by decide +kernel)
theorem fg_X5_35 : FG RX5 35 5 6 := ⟨RX5, TX5, 10, uw_X5, wf_X5_35, rfl, by decide, rfl⟩
theorem dX5_take_4 : decode cX5_take 4 = .ok (.bipush 32, 2) := by decide +kernel
theorem dX5_take_6 : decode cX5_take 6 = .ok (.if_icmp .lt 9, 3) := by decide +kernel
theorem dX5_take_15 : decode cX5_take 15 = .ok (.aload_n 0, 1) := by decide +kernel
theorem dX5_take_16 : decode cX5_take 16 = .ok (.dup, 1) := by decide +kernel
theorem dX5_take_17 : decode cX5_take 17 = .ok (.getfield 35, 3) := by decide +kernel
theorem dX5_take_20 : decode cX5_take 20 = .ok (.iconst 1, 1) := by decide +kernel
theorem dX5_take_21 : decode cX5_take 21 = .ok (.iadd, 1) := by decide +kernel
theorem dX5_take_22 : decode cX5_take 22 = .ok (.putfield 35, 3) := by decide +kernel
theorem fp_X5_35 : FP RX5 35 5 6 .int false := ⟨RX5, TX5, 10, tyX5, uw_X5, wf_X5_35, rfl, by decide, rfl, tyX5_ok, nmX5, rfl, by decide +kernel⟩
theorem dX5_take_25 : decode cX5_take 25 = .ok (.aload_n 0, 1) := by decide +kernel
theorem dX5_take_26 : decode cX5_take 26 = .ok (.invokevirtual 50, 3) := by decide +kernel
theorem wl_X5_50 : Cond.methodLink RX5 50 yX5_next ∈ TB := tbm (tq3 (List.mem_of_getElem? (i := 14) (by decide +kernel))) (by decide +kernel)
theorem wc_X5_next : Cond.code yX5_next cX5_next 1 (some .boolean) ∈ TB := tbm (tq3 (List.mem_of_getElem? (i := 17) (rfl))) (by decide +kernel)
theorem wi_X5_next : Cond.instanceMethod yX5_next ∈ TB := tbm (tq3 (List.mem_of_getElem? (i := 16) (by decide +kernel))) (by decide +kernel)
theorem ws_X5_next : Cond.selects RX5 yX5_next yX5_next ∈ TB := tbm (tq0 (List.mem_of_getElem? (i := 3) (by decide +kernel))) (by decide +kernel)
theorem mi_X5_next : MI yX5_next cX5_next 1 (some .boolean) 0 := ⟨wc_X5_next, wn_X5, ⟨by decide +kernel, by decide +kernel, by decide +kernel⟩, wi_X5_next, ws_X5_next⟩
theorem dX5_take_29 : decode cX5_take 29 = .ok (.ireturn, 1) := by decide +kernel
theorem dX5_take_9 : decode cX5_take 9 = .ok (.aload_n 0, 1) := by decide +kernel
theorem dX5_take_10 : decode cX5_take 10 = .ok (.iconst 5, 1) := by decide +kernel
theorem dX5_take_11 : decode cX5_take 11 = .ok (.invokevirtual 63, 3) := by decide +kernel
theorem dX5_take_14 : decode cX5_take 14 = .ok (.ireturn, 1) := by decide +kernel
set_option maxRecDepth 100000 in
set_option maxHeartbeats 4000000 in
theorem q_take (l : Launch) (E : EV) (ro : va_W) (qs : Nat) (qt : Nat) (po : Nat) (pa : Nat) (pf : Nat) (pd : Nat) (nd : Int32) (tn : Nat) (an : Int32) (wr : Int32) (pl : Int32) (tb : Nat) (tl : Nat) (ta : Nat) (tk : Nat) (ts : Nat) (fb : Nat → Int32) (hts : ts ≤ ta) (hta : ta ≤ tl) (htl : tl ≤ 160) (htk : tk ≤ 3) (hs9 : tk = 2 → ts < ta) (hfg : TX (cz fb tl) ts tk ta) (htn : tn ≤ 32) : CT l yX5_take (Cond.code yX5_take cX5_take 1 (some .boolean) :: TB) ({ frames := 3, cells := 0, slots := 0, locals := 64 }) E ro [.ref qs] [(qs, .inr (5, [.ref qt, .ref po, .ref pa, .ref pf, .ref pd, .int nd, .int (nI tn), .int an, .int wr, .int pl])), (qt, .inr (10, [.ref tb, .int (nI tl), .int (nI ta), .int (nI tk), .int (nI ts)])), (tb, .inl (E.2.1 0, 160, .inl fb))] (Qi E (fun (rz : Int32) uz => (∃ (ta2 : Nat) (tk2 : Nat) (ts2 : Nat), rz = 1 ∧ uz = [(qs, .inr (5, [.ref qt, .ref po, .ref pa, .ref pf, .ref pd, .int nd, .int (nI (tn + 1)), .int an, .int wr, .int pl])), (qt, .inr (10, [.ref tb, .int (nI tl), .int (nI ta2), .int (nI tk2), .int (nI ts2)])), (tb, .inl (E.2.1 0, 160, .inl fb))] ∧ (ts2 ≤ ta2) ∧ (ta2 ≤ tl) ∧ (tk2 ≤ 3) ∧ (tk2 = 2 → ts2 < ta2) ∧ (TX (cz fb tl) ts2 tk2 ta2) ∧ (TK (cz fb tl) ta ts2 tk2 ta2) ∧ (tk2 ≠ 3) ∧ (tn < 32)) ∨ (∃ (ta2 : Nat) (tk2 : Nat) (ts2 : Nat) (tn2 : Int32) (wr2 : Int32) (pl2 : Nat), rz = 0 ∧ uz = [(qs, .inr (5, [.ref qt, .ref po, .ref pa, .ref pf, .ref pd, .int nd, .int tn2, .int an, .int wr2, .int (nI pl2)])), (qt, .inr (10, [.ref tb, .int (nI tl), .int (nI ta2), .int (nI tk2), .int (nI ts2)])), (tb, .inl (E.2.1 0, 160, .inl fb))] ∧ (ts2 ≤ ta2) ∧ (ta2 ≤ tl) ∧ (tk2 ≤ 3) ∧ (tk2 = 2 → ts2 < ta2) ∧ (TX (cz fb tl) ts2 tk2 ta2) ∧ ((32 ≤ tn ∧ pl2 = ts) ∨ (tn < 32 ∧ sK (cz fb tl) ta = 3 ∧ pl2 = sS (cz fb tl) ta))))) 0 0 := by
  refine ct_of rfl rfl ?_
  intro X C hT hin hro
  show WW X 1 E 0 [(0, .ref qs)] [] [(qs, .inr (5, [.ref qt, .ref po, .ref pa, .ref pf, .ref pd, .int nd, .int (nI tn), .int an, .int wr, .int pl])), (qt, .inr (10, [.ref tb, .int (nI tl), .int (nI ta), .int (nI tk), .int (nI ts)])), (tb, .inl (E.2.1 0, 160, .inl fb))] 0 0
  refine ww_aload_n C dX5_take_0 0 rfl rfl ?_
  refine ww_get C fg_X5_35 0 rfl rfl dX5_take_1 ?_
  refine ww_bipush (v := 32) C dX5_take_4 rfl ?_
  refine ww_icmp_lt (tgt := 15) C dX5_take_6 (by decide) (fun c_1 => ?_) (fun c_1 => ?_)
  · have zc_1 : ((tn : Nat) : Int) < 32 := i_lt (nI_toInt (n := tn) (by omega)) rfl c_1
    refine ww_aload_n C dX5_take_15 0 rfl rfl ?_
    refine ww_dup C dX5_take_16 rfl ?_
    refine ww_get C fg_X5_35 0 rfl rfl dX5_take_17 ?_
    refine ww_iconst (v := 1) C dX5_take_20 rfl ?_
    refine ww_iadd (v := (nI (tn + 1))) C dX5_take_21 (nI_add tn 1) ?_
    refine ww_put (ws' := [(qs, .inr (5, [.ref qt, .ref po, .ref pa, .ref pf, .ref pd, .int nd, .int (nI (tn + 1)), .int an, .int wr, .int pl])), (qt, .inr (10, [.ref tb, .int (nI tl), .int (nI ta), .int (nI tk), .int (nI ts)])), (tb, .inl (E.2.1 0, 160, .inl fb))]) C fp_X5_35 0 rfl rfl rfl rfl rfl dX5_take_22 ?_
    refine ww_aload_n C dX5_take_25 0 rfl rfl ?_
    refine ww_ci (wr := []) (k' := 0) (n' := 0) C (run_V (As := []) (rest := []) C (q_next X.2.1 E ro qs qt po pa pf pd nd (nI (tn + 1)) an wr pl tb tl ta (nI tk) (nI ts) fb (by omega) (by omega)) mi_X5_next wl_X5_50 rfl 0 5 rfl rfl rfl rfl rfl dX5_take_26) (roK hro) [0, 1, 2] [] rfl rfl rfl rfl (fun r_2 uz hw => ?_)
    rcases hw with hw | hw
    · refine ex3 hw ?_
      clear hw
      intro ta2_3 tk2_4 ts2_5 hw
      refine an8 hw ?_
      clear hw
      intro he_13 he_14 h_6 h_7 h_8 h_9 h_10 h_11 hw
      have h_12 := hw
      clear hw
      have he_13 := he_13.symm
      subst he_13
      subst he_14
      refine ww_eq (ws' := [(qs, .inr (5, [.ref qt, .ref po, .ref pa, .ref pf, .ref pd, .int nd, .int (nI (tn + 1)), .int an, .int wr, .int pl])), (qt, .inr (10, [.ref tb, .int (nI tl), .int (nI ta2_3), .int (nI tk2_4), .int (nI ts2_5)])), (tb, .inl (E.2.1 0, 160, .inl fb))]) ?_ rfl rfl rfl
      exact ww_zret (u := [(qs, .inr (5, [.ref qt, .ref po, .ref pa, .ref pf, .ref pd, .int nd, .int (nI (tn + 1)), .int an, .int wr, .int pl])), (qt, .inr (10, [.ref tb, .int (nI tl), .int (nI ta2_3), .int (nI tk2_4), .int (nI ts2_5)])), (tb, .inl (E.2.1 0, 160, .inl fb))]) C hT [0, 1, 2] rfl rfl rfl rfl rfl dX5_take_29 (Or.inl ⟨ta2_3, tk2_4, ts2_5, rfl, rfl, (by first | assumption | omega | decide), (by first | assumption | omega | decide), (by first | assumption | omega | decide), (by omega), h_10, (by assumption), (by omega), (by first | assumption | omega | decide)⟩)
    · refine ex3 hw ?_
      clear hw
      intro ta2_15 tk2_16 ts2_17 hw
      refine an8 hw ?_
      clear hw
      intro he_25 he_26 h_18 h_19 h_20 h_21 h_22 h_23 hw
      have h_24 := hw
      clear hw
      have he_25 := he_25.symm
      subst he_25
      subst he_26
      refine ww_eq (ws' := [(qs, .inr (5, [.ref qt, .ref po, .ref pa, .ref pf, .ref pd, .int nd, .int (nI (tn + 1)), .int an, .int 1, .int (nI ts2_17)])), (qt, .inr (10, [.ref tb, .int (nI tl), .int (nI ta2_15), .int (nI tk2_16), .int (nI ts2_17)])), (tb, .inl (E.2.1 0, 160, .inl fb))]) ?_ rfl rfl rfl
      exact ww_zret (u := [(qs, .inr (5, [.ref qt, .ref po, .ref pa, .ref pf, .ref pd, .int nd, .int (nI (tn + 1)), .int an, .int 1, .int (nI ts2_17)])), (qt, .inr (10, [.ref tb, .int (nI tl), .int (nI ta2_15), .int (nI tk2_16), .int (nI ts2_17)])), (tb, .inl (E.2.1 0, 160, .inl fb))]) C hT [0, 1, 2] rfl rfl rfl rfl rfl dX5_take_29 (Or.inr ⟨ta2_15, tk2_16, ts2_17, (nI (tn + 1)), 1, ts2_17, rfl, rfl, (by first | assumption | omega | decide), (by first | assumption | omega | decide), (by first | assumption | omega | decide), (by omega), h_22, (Or.inr ⟨by omega, h_23.2.1.symm.trans h_24, h_23.1⟩)⟩)
  · have zc_1 : ((tn : Nat) : Int) ≥ 32 := i_nlt (nI_toInt (n := tn) (by omega)) rfl c_1
    refine ww_aload_n C dX5_take_9 0 rfl rfl ?_
    refine ww_iconst (v := 5) C dX5_take_10 rfl ?_
    refine ww_ci (wr := [(tb, .inl (E.2.1 0, 160, .inl fb))]) (k' := 0) (n' := 0) C (run_V (As := [.int 5]) (rest := []) C (q_fail X.2.1 E ro qs 5 qt po pa pf pd nd (nI tn) an wr pl tb tl (nI ta) tk ts (by omega)) mi_X5_fail wl_X5_63 rfl 0 5 rfl rfl rfl rfl rfl dX5_take_11) (roK hro) [0, 1] [2] rfl rfl rfl rfl (fun r_27 uz hw => ?_)
    refine an1 hw ?_
    clear hw
    intro he_28 hw
    have he_29 := hw
    clear hw
    have he_28 := he_28.symm
    subst he_28
    subst he_29
    refine ww_eq (ws' := [(tb, .inl (E.2.1 0, 160, .inl fb)), (qs, .inr (5, [.ref qt, .ref po, .ref pa, .ref pf, .ref pd, .int nd, .int (nI tn), .int an, .int 5, .int (nI ts)])), (qt, .inr (10, [.ref tb, .int (nI tl), .int (nI ta), .int (nI tk), .int (nI ts)]))]) ?_ rfl rfl rfl
    exact ww_zret (u := [(qs, .inr (5, [.ref qt, .ref po, .ref pa, .ref pf, .ref pd, .int nd, .int (nI tn), .int an, .int 5, .int (nI ts)])), (qt, .inr (10, [.ref tb, .int (nI tl), .int (nI ta), .int (nI tk), .int (nI ts)])), (tb, .inl (E.2.1 0, 160, .inl fb))]) C hT [1, 2, 0] rfl rfl rfl rfl rfl dX5_take_14 (Or.inr ⟨ta, tk, ts, (nI tn), 5, ts, rfl, rfl, (by first | assumption | omega | decide), (by first | assumption | omega | decide), (by first | assumption | omega | decide), (by omega), hfg, (Or.inl ⟨by omega, rfl⟩)⟩)
theorem dX5_readEventNumber_0 : decode cX5_readEventNumber 0 = .ok (.aload_n 0, 1) := by decide +kernel
theorem dX5_readEventNumber_1 : decode cX5_readEventNumber 1 = .ok (.getfield 12, 3) := by decide +kernel
theorem dX5_readEventNumber_4 : decode cX5_readEventNumber 4 = .ok (.getfield 60, 3) := by decide +kernel
theorem dX5_readEventNumber_7 : decode cX5_readEventNumber 7 = .ok (.iconst 2, 1) := by decide +kernel
theorem dX5_readEventNumber_8 : decode cX5_readEventNumber 8 = .ok (.if_icmp .eq 9, 3) := by decide +kernel
theorem dX5_readEventNumber_17 : decode cX5_readEventNumber 17 = .ok (.aload_n 0, 1) := by decide +kernel
theorem dX5_readEventNumber_18 : decode cX5_readEventNumber 18 = .ok (.getfield 12, 3) := by decide +kernel
theorem dX5_readEventNumber_21 : decode cX5_readEventNumber 21 = .ok (.invokevirtual 85, 3) := by decide +kernel
theorem wl_X5_85 : Cond.methodLink RX5 85 yX10_figure ∈ TB := tbm (tq3 (List.mem_of_getElem? (i := 94) (by decide +kernel))) (by decide +kernel)
theorem wc_X10_figure : Cond.code yX10_figure cX10_figure 1 (some .int) ∈ TB := tbm (tq3 (List.mem_of_getElem? (i := 97) (rfl))) (by decide +kernel)
theorem wi_X10_figure : Cond.instanceMethod yX10_figure ∈ TB := tbm (tq3 (List.mem_of_getElem? (i := 95) (by decide +kernel))) (by decide +kernel)
theorem ws_X10_figure : Cond.selects RX10 yX10_figure yX10_figure ∈ TB := tbm (tq3 (List.mem_of_getElem? (i := 96) (by decide +kernel))) (by decide +kernel)
theorem mi_X10_figure : MI yX10_figure cX10_figure 1 (some .int) 0 := ⟨wc_X10_figure, wn_X10, ⟨by decide +kernel, by decide +kernel, by decide +kernel⟩, wi_X10_figure, ws_X10_figure⟩
theorem dX5_readEventNumber_24 : decode cX5_readEventNumber 24 = .ok (.iconst 4, 1) := by decide +kernel
theorem dX5_readEventNumber_25 : decode cX5_readEventNumber 25 = .ok (.if_icmp .lt 9, 3) := by decide +kernel
theorem dX5_readEventNumber_34 : decode cX5_readEventNumber 34 = .ok (.aload_n 0, 1) := by decide +kernel
theorem dX5_readEventNumber_35 : decode cX5_readEventNumber 35 = .ok (.getfield 25, 3) := by decide +kernel
theorem wf_X5_25 : Cond.fieldLink RX5 25 RX5 "after" "[I" ∈ TB := tbm (tq1 (List.mem_of_getElem? (i := 102) (by decide +kernel))) (by decide +kernel)
theorem fg_X5_25 : FG RX5 25 5 3 := ⟨RX5, TX5, 10, uw_X5, wf_X5_25, rfl, by decide, rfl⟩
theorem dX5_readEventNumber_38 : decode cX5_readEventNumber 38 = .ok (.aload_n 0, 1) := by decide +kernel
theorem dX5_readEventNumber_39 : decode cX5_readEventNumber 39 = .ok (.getfield 38, 3) := by decide +kernel
theorem wf_X5_38 : Cond.fieldLink RX5 38 RX5 "afters" "I" ∈ TB := tbm (tq1 (List.mem_of_getElem? (i := 106) (by decide +kernel))) (by decide +kernel)
theorem fg_X5_38 : FG RX5 38 5 7 := ⟨RX5, TX5, 10, uw_X5, wf_X5_38, rfl, by decide, rfl⟩
theorem dX5_readEventNumber_42 : decode cX5_readEventNumber 42 = .ok (.aload_n 0, 1) := by decide +kernel
theorem dX5_readEventNumber_43 : decode cX5_readEventNumber 43 = .ok (.getfield 12, 3) := by decide +kernel
theorem dX5_readEventNumber_46 : decode cX5_readEventNumber 46 = .ok (.invokevirtual 85, 3) := by decide +kernel
theorem dX5_readEventNumber_49 : decode cX5_readEventNumber 49 = .ok (.iastore, 1) := by decide +kernel
theorem dX5_readEventNumber_50 : decode cX5_readEventNumber 50 = .ok (.aload_n 0, 1) := by decide +kernel
theorem dX5_readEventNumber_51 : decode cX5_readEventNumber 51 = .ok (.dup, 1) := by decide +kernel
theorem dX5_readEventNumber_52 : decode cX5_readEventNumber 52 = .ok (.getfield 38, 3) := by decide +kernel
theorem dX5_readEventNumber_55 : decode cX5_readEventNumber 55 = .ok (.iconst 1, 1) := by decide +kernel
theorem dX5_readEventNumber_56 : decode cX5_readEventNumber 56 = .ok (.iadd, 1) := by decide +kernel
theorem dX5_readEventNumber_57 : decode cX5_readEventNumber 57 = .ok (.putfield 38, 3) := by decide +kernel
theorem fp_X5_38 : FP RX5 38 5 7 .int false := ⟨RX5, TX5, 10, tyX5, uw_X5, wf_X5_38, rfl, by decide, rfl, tyX5_ok, nmX5, rfl, by decide +kernel⟩
theorem dX5_readEventNumber_60 : decode cX5_readEventNumber 60 = .ok (.aload_n 0, 1) := by decide +kernel
theorem dX5_readEventNumber_61 : decode cX5_readEventNumber 61 = .ok (.invokevirtual 50, 3) := by decide +kernel
theorem dX5_readEventNumber_64 : decode cX5_readEventNumber 64 = .ok (.ireturn, 1) := by decide +kernel
theorem dX5_readEventNumber_28 : decode cX5_readEventNumber 28 = .ok (.aload_n 0, 1) := by decide +kernel
theorem dX5_readEventNumber_29 : decode cX5_readEventNumber 29 = .ok (.iconst 3, 1) := by decide +kernel
theorem dX5_readEventNumber_30 : decode cX5_readEventNumber 30 = .ok (.invokevirtual 63, 3) := by decide +kernel
theorem dX5_readEventNumber_33 : decode cX5_readEventNumber 33 = .ok (.ireturn, 1) := by decide +kernel
theorem dX5_readEventNumber_11 : decode cX5_readEventNumber 11 = .ok (.aload_n 0, 1) := by decide +kernel
theorem dX5_readEventNumber_12 : decode cX5_readEventNumber 12 = .ok (.iconst 2, 1) := by decide +kernel
theorem dX5_readEventNumber_13 : decode cX5_readEventNumber 13 = .ok (.invokevirtual 63, 3) := by decide +kernel
theorem dX5_readEventNumber_16 : decode cX5_readEventNumber 16 = .ok (.ireturn, 1) := by decide +kernel
set_option maxRecDepth 100000 in
set_option maxHeartbeats 4000000 in
theorem q_readEventNumber (l : Launch) (E : EV) (ro : va_W) (qs : Nat) (qt : Nat) (po : Nat) (pa : Nat) (pf : Nat) (pd : Nat) (nd : Int32) (tn : Int32) (an : Nat) (wr : Int32) (pl : Int32) (tb : Nat) (tl : Nat) (ta : Nat) (tk : Nat) (ts : Nat) (fb : Nat → Int32) (af : Nat → Int32) (hts : ts ≤ ta) (hta : ta ≤ tl) (htl : tl ≤ 160) (htk : tk ≤ 3) (hs9 : tk = 2 → ts < ta) (hfg : TX (cz fb tl) ts tk ta) (han : an < 2) (hafi : AFI an af) : CT l yX5_readEventNumber (Cond.code yX5_readEventNumber cX5_readEventNumber 1 (some .boolean) :: TB) ({ frames := 3, cells := 0, slots := 0, locals := 64 }) E ro [.ref qs] [(qs, .inr (5, [.ref qt, .ref po, .ref pa, .ref pf, .ref pd, .int nd, .int tn, .int (nI an), .int wr, .int pl])), (qt, .inr (10, [.ref tb, .int (nI tl), .int (nI ta), .int (nI tk), .int (nI ts)])), (tb, .inl (E.2.1 0, 160, .inl fb)), (pf, .inl (E.2.1 1, 2, .inl af))] (Qi E (fun (rz : Int32) uz => (∃ (ta2 : Nat) (tk2 : Nat) (ts2 : Nat) (af2 : Nat → Int32), rz = 1 ∧ uz = [(qs, .inr (5, [.ref qt, .ref po, .ref pa, .ref pf, .ref pd, .int nd, .int tn, .int (nI (an + 1)), .int wr, .int pl])), (qt, .inr (10, [.ref tb, .int (nI tl), .int (nI ta2), .int (nI tk2), .int (nI ts2)])), (tb, .inl (E.2.1 0, 160, .inl fb)), (pf, .inl (E.2.1 1, 2, .inl af2))] ∧ (ts2 ≤ ta2) ∧ (ta2 ≤ tl) ∧ (tk2 ≤ 3) ∧ (tk2 = 2 → ts2 < ta2) ∧ (TX (cz fb tl) ts2 tk2 ta2) ∧ (TK (cz fb tl) ta ts2 tk2 ta2) ∧ (tk2 ≠ 3) ∧ (tk = 2) ∧ (cz fb tl ts ≤ 51) ∧ (upd af an (nI (cz fb tl ts - 48).toNat) = af2) ∧ (AFI (an + 1) af2)) ∨ (∃ (ta2 : Nat) (tk2 : Nat) (ts2 : Nat) (an2 : Int32) (wr2 : Int32) (pl2 : Nat) (af2 : Nat → Int32), rz = 0 ∧ uz = [(qs, .inr (5, [.ref qt, .ref po, .ref pa, .ref pf, .ref pd, .int nd, .int tn, .int an2, .int wr2, .int (nI pl2)])), (qt, .inr (10, [.ref tb, .int (nI tl), .int (nI ta2), .int (nI tk2), .int (nI ts2)])), (tb, .inl (E.2.1 0, 160, .inl fb)), (pf, .inl (E.2.1 1, 2, .inl af2))] ∧ (ts2 ≤ ta2) ∧ (ta2 ≤ tl) ∧ (tk2 ≤ 3) ∧ (tk2 = 2 → ts2 < ta2) ∧ (TX (cz fb tl) ts2 tk2 ta2) ∧ (((tk ≠ 2 ∨ 51 < cz fb tl ts) ∧ pl2 = ts) ∨ (tk = 2 ∧ cz fb tl ts ≤ 51 ∧ sK (cz fb tl) ta = 3 ∧ pl2 = sS (cz fb tl) ta))))) 0 0 := by
  refine ct_of rfl rfl ?_
  intro X C hT hin hro
  show WW X 1 E 0 [(0, .ref qs)] [] [(qs, .inr (5, [.ref qt, .ref po, .ref pa, .ref pf, .ref pd, .int nd, .int tn, .int (nI an), .int wr, .int pl])), (qt, .inr (10, [.ref tb, .int (nI tl), .int (nI ta), .int (nI tk), .int (nI ts)])), (tb, .inl (E.2.1 0, 160, .inl fb)), (pf, .inl (E.2.1 1, 2, .inl af))] 0 0
  refine ww_aload_n C dX5_readEventNumber_0 0 rfl rfl ?_
  refine ww_get C fg_X5_12 0 rfl rfl dX5_readEventNumber_1 ?_
  refine ww_get C fg_X5_60 1 rfl rfl dX5_readEventNumber_4 ?_
  refine ww_iconst (v := 2) C dX5_readEventNumber_7 rfl ?_
  refine ww_icmp_eq (tgt := 17) C dX5_readEventNumber_8 (by decide) (fun c_1 => ?_) (fun c_1 => ?_)
  · have zc_1 : ((tk : Nat) : Int) = 2 := i_eq (nI_toInt (n := tk) (by omega)) rfl c_1
    refine ww_aload_n C dX5_readEventNumber_17 0 rfl rfl ?_
    refine ww_get C fg_X5_12 0 rfl rfl dX5_readEventNumber_18 ?_
    refine ww_ci (wr := [(qs, .inr (5, [.ref qt, .ref po, .ref pa, .ref pf, .ref pd, .int nd, .int tn, .int (nI an), .int wr, .int pl])), (pf, .inl (E.2.1 1, 2, .inl af))]) (k' := 0) (n' := 0) C (run_V (As := []) (rest := []) C (t_figure X.2.1 E ro qt tb tl ta tk ts fb (by omega) (by omega) (by omega) (by omega) (by omega) hfg) mi_X10_figure wl_X5_85 rfl 0 10 rfl rfl rfl rfl rfl dX5_readEventNumber_21) (roK hro) [1, 2] [0, 3] rfl rfl rfl rfl (fun r_2 uz hw => ?_)
    refine an3 hw ?_
    clear hw
    intro he_5 he_6 h_3 hw
    have h_4 := hw
    clear hw
    have he_5 := he_5.symm
    subst he_5
    subst he_6
    refine ww_eq (ws' := [(qs, .inr (5, [.ref qt, .ref po, .ref pa, .ref pf, .ref pd, .int nd, .int tn, .int (nI an), .int wr, .int pl])), (pf, .inl (E.2.1 1, 2, .inl af)), (qt, .inr (10, [.ref tb, .int (nI tl), .int (nI ta), .int (nI tk), .int (nI ts)])), (tb, .inl (E.2.1 0, 160, .inl fb))]) ?_ rfl rfl rfl
    refine ww_iconst (v := 4) C dX5_readEventNumber_24 rfl ?_
    refine ww_icmp_lt (tgt := 34) C dX5_readEventNumber_25 (by decide) (fun c_7 => ?_) (fun c_7 => ?_)
    · have zc_7 : (fgv tk fb ts).toInt < 4 := i_lt rfl rfl c_7
      refine ww_aload_n C dX5_readEventNumber_34 0 rfl rfl ?_
      refine ww_get C fg_X5_25 0 rfl rfl dX5_readEventNumber_35 ?_
      refine ww_aload_n C dX5_readEventNumber_38 0 rfl rfl ?_
      refine ww_get C fg_X5_38 0 rfl rfl dX5_readEventNumber_39 ?_
      refine ww_aload_n C dX5_readEventNumber_42 0 rfl rfl ?_
      refine ww_get C fg_X5_12 0 rfl rfl dX5_readEventNumber_43 ?_
      refine ww_ci (wr := [(qs, .inr (5, [.ref qt, .ref po, .ref pa, .ref pf, .ref pd, .int nd, .int tn, .int (nI an), .int wr, .int pl])), (pf, .inl (E.2.1 1, 2, .inl af))]) (k' := 0) (n' := 0) C (run_V (As := []) (rest := [.int (nI an), .ref pf]) C (t_figure X.2.1 E ro qt tb tl ta tk ts fb (by omega) (by omega) (by omega) (by omega) (by omega) hfg) mi_X10_figure wl_X5_85 rfl 0 10 rfl rfl rfl rfl rfl dX5_readEventNumber_46) (roK hro) [2, 3] [0, 1] rfl rfl rfl rfl (fun r_8 uz hw => ?_)
      refine an3 hw ?_
      clear hw
      intro he_11 he_12 h_9 hw
      have h_10 := hw
      clear hw
      have he_11 := he_11.symm
      subst he_11
      subst he_12
      refine ww_eq (ws' := [(qs, .inr (5, [.ref qt, .ref po, .ref pa, .ref pf, .ref pd, .int nd, .int tn, .int (nI an), .int wr, .int pl])), (pf, .inl (E.2.1 1, 2, .inl af)), (qt, .inr (10, [.ref tb, .int (nI tl), .int (nI ta), .int (nI tk), .int (nI ts)])), (tb, .inl (E.2.1 0, 160, .inl fb))]) ?_ rfl rfl rfl
      obtain ⟨f_13, ef_13⟩ : ∃ z : Nat → Int32, upd af an (fgv tk fb ts) = z := ⟨_, rfl⟩
      refine ww_iast (ws' := [(qs, .inr (5, [.ref qt, .ref po, .ref pa, .ref pf, .ref pd, .int nd, .int tn, .int (nI an), .int wr, .int pl])), (pf, .inl (E.2.1 1, 2, .inl f_13)), (qt, .inr (10, [.ref tb, .int (nI tl), .int (nI ta), .int (nI tk), .int (nI ts)])), (tb, .inl (E.2.1 0, 160, .inl fb))]) C 1 rfl (vp_in_nI (by omega) (by omega)) (ldn2 (by omega) ef_13) rfl dX5_readEventNumber_49 ?_
      refine ww_aload_n C dX5_readEventNumber_50 0 rfl rfl ?_
      refine ww_dup C dX5_readEventNumber_51 rfl ?_
      refine ww_get C fg_X5_38 0 rfl rfl dX5_readEventNumber_52 ?_
      refine ww_iconst (v := 1) C dX5_readEventNumber_55 rfl ?_
      refine ww_iadd (v := (nI (an + 1))) C dX5_readEventNumber_56 (nI_add an 1) ?_
      refine ww_put (ws' := [(qs, .inr (5, [.ref qt, .ref po, .ref pa, .ref pf, .ref pd, .int nd, .int tn, .int (nI (an + 1)), .int wr, .int pl])), (pf, .inl (E.2.1 1, 2, .inl f_13)), (qt, .inr (10, [.ref tb, .int (nI tl), .int (nI ta), .int (nI tk), .int (nI ts)])), (tb, .inl (E.2.1 0, 160, .inl fb))]) C fp_X5_38 0 rfl rfl rfl rfl rfl dX5_readEventNumber_57 ?_
      refine ww_aload_n C dX5_readEventNumber_60 0 rfl rfl ?_
      refine ww_ci (wr := [(pf, .inl (E.2.1 1, 2, .inl f_13))]) (k' := 0) (n' := 0) C (run_V (As := []) (rest := []) C (q_next X.2.1 E ro qs qt po pa pf pd nd tn (nI (an + 1)) wr pl tb tl ta (nI tk) (nI ts) fb (by omega) (by omega)) mi_X5_next wl_X5_50 rfl 0 5 rfl rfl rfl rfl rfl dX5_readEventNumber_61) (roK hro) [0, 2, 3] [1] rfl rfl rfl rfl (fun r_14 uz hw => ?_)
      rcases hw with hw | hw
      · refine ex3 hw ?_
        clear hw
        intro ta2_15 tk2_16 ts2_17 hw
        refine an8 hw ?_
        clear hw
        intro he_25 he_26 h_18 h_19 h_20 h_21 h_22 h_23 hw
        have h_24 := hw
        clear hw
        have he_25 := he_25.symm
        subst he_25
        subst he_26
        refine ww_eq (ws' := [(pf, .inl (E.2.1 1, 2, .inl f_13)), (qs, .inr (5, [.ref qt, .ref po, .ref pa, .ref pf, .ref pd, .int nd, .int tn, .int (nI (an + 1)), .int wr, .int pl])), (qt, .inr (10, [.ref tb, .int (nI tl), .int (nI ta2_15), .int (nI tk2_16), .int (nI ts2_17)])), (tb, .inl (E.2.1 0, 160, .inl fb))]) ?_ rfl rfl rfl
        exact ww_zret (u := [(qs, .inr (5, [.ref qt, .ref po, .ref pa, .ref pf, .ref pd, .int nd, .int tn, .int (nI (an + 1)), .int wr, .int pl])), (qt, .inr (10, [.ref tb, .int (nI tl), .int (nI ta2_15), .int (nI tk2_16), .int (nI ts2_17)])), (tb, .inl (E.2.1 0, 160, .inl fb)), (pf, .inl (E.2.1 1, 2, .inl f_13))]) C hT [1, 2, 3, 0] rfl rfl rfl rfl rfl dX5_readEventNumber_64 (Or.inl ⟨ta2_15, tk2_16, ts2_17, f_13, rfl, rfl, (by first | assumption | omega | decide), (by first | assumption | omega | decide), (by first | assumption | omega | decide), (by omega), h_22, (by assumption), (by omega), (by omega), (by have h9 := fgv_z hfg (by omega); omega), (by rw [← fgv_n hfg (by omega)]; exact ef_13), (AFI.ext hafi ef_13 (by omega) (by omega))⟩)
      · refine ex3 hw ?_
        clear hw
        intro ta2_27 tk2_28 ts2_29 hw
        refine an8 hw ?_
        clear hw
        intro he_37 he_38 h_30 h_31 h_32 h_33 h_34 h_35 hw
        have h_36 := hw
        clear hw
        have he_37 := he_37.symm
        subst he_37
        subst he_38
        refine ww_eq (ws' := [(pf, .inl (E.2.1 1, 2, .inl f_13)), (qs, .inr (5, [.ref qt, .ref po, .ref pa, .ref pf, .ref pd, .int nd, .int tn, .int (nI (an + 1)), .int 1, .int (nI ts2_29)])), (qt, .inr (10, [.ref tb, .int (nI tl), .int (nI ta2_27), .int (nI tk2_28), .int (nI ts2_29)])), (tb, .inl (E.2.1 0, 160, .inl fb))]) ?_ rfl rfl rfl
        exact ww_zret (u := [(qs, .inr (5, [.ref qt, .ref po, .ref pa, .ref pf, .ref pd, .int nd, .int tn, .int (nI (an + 1)), .int 1, .int (nI ts2_29)])), (qt, .inr (10, [.ref tb, .int (nI tl), .int (nI ta2_27), .int (nI tk2_28), .int (nI ts2_29)])), (tb, .inl (E.2.1 0, 160, .inl fb)), (pf, .inl (E.2.1 1, 2, .inl f_13))]) C hT [1, 2, 3, 0] rfl rfl rfl rfl rfl dX5_readEventNumber_64 (Or.inr ⟨ta2_27, tk2_28, ts2_29, (nI (an + 1)), 1, ts2_29, f_13, rfl, rfl, (by first | assumption | omega | decide), (by first | assumption | omega | decide), (by first | assumption | omega | decide), (by omega), h_34, (Or.inr ⟨by omega, by have h9 := fgv_z hfg (by omega); omega, h_35.2.1.symm.trans h_36, h_35.1⟩)⟩)
    · have zc_7 : (fgv tk fb ts).toInt ≥ 4 := i_nlt rfl rfl c_7
      refine ww_aload_n C dX5_readEventNumber_28 0 rfl rfl ?_
      refine ww_iconst (v := 3) C dX5_readEventNumber_29 rfl ?_
      refine ww_ci (wr := [(pf, .inl (E.2.1 1, 2, .inl af)), (tb, .inl (E.2.1 0, 160, .inl fb))]) (k' := 0) (n' := 0) C (run_V (As := [.int 3]) (rest := []) C (q_fail X.2.1 E ro qs 3 qt po pa pf pd nd tn (nI an) wr pl tb tl (nI ta) tk ts (by omega)) mi_X5_fail wl_X5_63 rfl 0 5 rfl rfl rfl rfl rfl dX5_readEventNumber_30) (roK hro) [0, 2] [1, 3] rfl rfl rfl rfl (fun r_39 uz hw => ?_)
      refine an1 hw ?_
      clear hw
      intro he_40 hw
      have he_41 := hw
      clear hw
      have he_40 := he_40.symm
      subst he_40
      subst he_41
      refine ww_eq (ws' := [(pf, .inl (E.2.1 1, 2, .inl af)), (tb, .inl (E.2.1 0, 160, .inl fb)), (qs, .inr (5, [.ref qt, .ref po, .ref pa, .ref pf, .ref pd, .int nd, .int tn, .int (nI an), .int 3, .int (nI ts)])), (qt, .inr (10, [.ref tb, .int (nI tl), .int (nI ta), .int (nI tk), .int (nI ts)]))]) ?_ rfl rfl rfl
      exact ww_zret (u := [(qs, .inr (5, [.ref qt, .ref po, .ref pa, .ref pf, .ref pd, .int nd, .int tn, .int (nI an), .int 3, .int (nI ts)])), (qt, .inr (10, [.ref tb, .int (nI tl), .int (nI ta), .int (nI tk), .int (nI ts)])), (tb, .inl (E.2.1 0, 160, .inl fb)), (pf, .inl (E.2.1 1, 2, .inl af))]) C hT [2, 3, 1, 0] rfl rfl rfl rfl rfl dX5_readEventNumber_33 (Or.inr ⟨ta, tk, ts, (nI an), 3, ts, af, rfl, rfl, (by first | assumption | omega | decide), (by first | assumption | omega | decide), (by first | assumption | omega | decide), (by omega), hfg, (Or.inl ⟨Or.inr (by have h9 := fgv_z hfg (by omega); omega), rfl⟩)⟩)
  · have zc_1 : ((tk : Nat) : Int) ≠ 2 := i_ne (nI_toInt (n := tk) (by omega)) rfl c_1
    refine ww_aload_n C dX5_readEventNumber_11 0 rfl rfl ?_
    refine ww_iconst (v := 2) C dX5_readEventNumber_12 rfl ?_
    refine ww_ci (wr := [(tb, .inl (E.2.1 0, 160, .inl fb)), (pf, .inl (E.2.1 1, 2, .inl af))]) (k' := 0) (n' := 0) C (run_V (As := [.int 2]) (rest := []) C (q_fail X.2.1 E ro qs 2 qt po pa pf pd nd tn (nI an) wr pl tb tl (nI ta) tk ts (by omega)) mi_X5_fail wl_X5_63 rfl 0 5 rfl rfl rfl rfl rfl dX5_readEventNumber_13) (roK hro) [0, 1] [2, 3] rfl rfl rfl rfl (fun r_42 uz hw => ?_)
    refine an1 hw ?_
    clear hw
    intro he_43 hw
    have he_44 := hw
    clear hw
    have he_43 := he_43.symm
    subst he_43
    subst he_44
    refine ww_eq (ws' := [(tb, .inl (E.2.1 0, 160, .inl fb)), (pf, .inl (E.2.1 1, 2, .inl af)), (qs, .inr (5, [.ref qt, .ref po, .ref pa, .ref pf, .ref pd, .int nd, .int tn, .int (nI an), .int 2, .int (nI ts)])), (qt, .inr (10, [.ref tb, .int (nI tl), .int (nI ta), .int (nI tk), .int (nI ts)]))]) ?_ rfl rfl rfl
    exact ww_zret (u := [(qs, .inr (5, [.ref qt, .ref po, .ref pa, .ref pf, .ref pd, .int nd, .int tn, .int (nI an), .int 2, .int (nI ts)])), (qt, .inr (10, [.ref tb, .int (nI tl), .int (nI ta), .int (nI tk), .int (nI ts)])), (tb, .inl (E.2.1 0, 160, .inl fb)), (pf, .inl (E.2.1 1, 2, .inl af))]) C hT [2, 3, 0, 1] rfl rfl rfl rfl rfl dX5_readEventNumber_16 (Or.inr ⟨ta, tk, ts, (nI an), 2, ts, af, rfl, rfl, (by first | assumption | omega | decide), (by first | assumption | omega | decide), (by first | assumption | omega | decide), (by omega), hfg, (Or.inl ⟨Or.inl (by omega), rfl⟩)⟩)
