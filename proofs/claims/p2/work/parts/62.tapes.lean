theorem dX11_feed_0 : decode cX11_feed 0 = .ok (.aload_n 0, 1) := by decide +kernel
theorem dX11_feed_1 : decode cX11_feed 1 = .ok (.getfield 27, 3) := by decide +kernel
theorem wf_X11_27 : Cond.fieldLink RX11 27 RX11 "parser" "LWhoKnows$Parser;" ∈ TB := tbm (tq2 (List.mem_of_getElem? (i := 100) (by decide +kernel))) (by decide +kernel)
theorem fg_X11_27 : FG RX11 27 11 4 := ⟨RX11, TX11, 15, uw_X11, wf_X11_27, rfl, by decide, rfl⟩
theorem dX11_feed_4 : decode cX11_feed 4 = .ok (.getfield 162, 3) := by decide +kernel
theorem wf_X11_162 : Cond.fieldLink RX11 162 RX5 "tape" "LWhoKnows$Tape;" ∈ TB := tbm (tq1 (List.mem_of_getElem? (i := 99) (by decide +kernel))) (by decide +kernel)
theorem fg_X11_162 : FG RX11 162 5 0 := ⟨RX5, TX5, 10, uw_X5, wf_X11_162, rfl, by decide, rfl⟩
theorem dX11_feed_7 : decode cX11_feed 7 = .ok (.lload_n 1, 1) := by decide +kernel
theorem dX11_feed_8 : decode cX11_feed 8 = .ok (.invokevirtual 166, 3) := by decide +kernel
theorem wl_X11_166 : Cond.methodLink RX11 166 yX10_add ∈ TB := tbm (tq2 (List.mem_of_getElem? (i := 234) (by decide +kernel))) (by decide +kernel)
theorem wc_X10_add : Cond.code yX10_add cX10_add 4 (some .boolean) ∈ TB := tbm (tq2 (List.mem_of_getElem? (i := 237) (rfl))) (by decide +kernel)
theorem wi_X10_add : Cond.instanceMethod yX10_add ∈ TB := tbm (tq2 (List.mem_of_getElem? (i := 235) (by decide +kernel))) (by decide +kernel)
theorem ws_X10_add : Cond.selects RX10 yX10_add yX10_add ∈ TB := tbm (tq2 (List.mem_of_getElem? (i := 236) (by decide +kernel))) (by decide +kernel)
theorem mi_X10_add : MI yX10_add cX10_add 4 (some .boolean) 1 := ⟨wc_X10_add, wn_X10, ⟨by decide +kernel, by decide +kernel, by decide +kernel⟩, wi_X10_add, ws_X10_add⟩
theorem dX11_feed_11 : decode cX11_feed 11 = .ok (.ifCond .eq 16, 3) := by decide +kernel
theorem dX11_feed_14 : decode cX11_feed 14 = .ok (.aload_n 0, 1) := by decide +kernel
theorem dX11_feed_15 : decode cX11_feed 15 = .ok (.getfield 27, 3) := by decide +kernel
theorem dX11_feed_18 : decode cX11_feed 18 = .ok (.getfield 162, 3) := by decide +kernel
theorem dX11_feed_21 : decode cX11_feed 21 = .ok (.getfield 171, 3) := by decide +kernel
theorem wf_X11_171 : Cond.fieldLink RX11 171 RX10 "length" "I" ∈ TB := tbm (tq1 (List.mem_of_getElem? (i := 80) (by decide +kernel))) (by decide +kernel)
theorem fg_X11_171 : FG RX11 171 10 1 := ⟨RX10, TX10, 5, uw_X10, wf_X11_171, rfl, by decide, rfl⟩
theorem dX11_feed_24 : decode cX11_feed 24 = .ok (.goto 5, 3) := by decide +kernel
theorem dX11_feed_29 : decode cX11_feed 29 = .ok (.ireturn, 1) := by decide +kernel
theorem dX11_feed_27 : decode cX11_feed 27 = .ok (.bipush (-3), 2) := by decide +kernel
set_option maxRecDepth 100000 in
set_option maxHeartbeats 4000000 in
theorem x_feed (l : Launch) (E : EV) (ro : va_W) (hx : Nat) (v0 : Int64) (h : Nat) (qp : Nat) (ac : Nat) (np : Nat) (qs : Nat) (qj : Nat) (ly : Nat) (qh : Nat) (kk : Nat) (kc : Nat) (rd : Nat) (pg : Nat) (pe : Nat) (kn : Int32) (ss : Nat) (qt : Nat) (po : Nat) (pa : Nat) (pf : Nat) (pd : Nat) (nd : Int32) (tn : Int32) (an : Int32) (wr : Int32) (pl : Int32) (tb : Nat) (tl : Nat) (ta : Int32) (tk : Int32) (ts : Int32) (fb : Nat → Int32) (hac : ac ≤ 8) (hnp : np < 8) (hkc : kc ≤ 4) (hpe : pe ≤ 4) (htl : tl ≤ 160) : CT l yX11_feed (Cond.code yX11_feed cX11_feed 3 (some .int) :: TB) ({ frames := 1, cells := 0, slots := 0, locals := 23 }) E ro [.ref hx, .long v0] [(hx, .inr (11, [.ref h, .ref qp, .int (nI ac), .int (nI np), .ref qs, .ref qj, .ref ly, .ref qh, .ref kk, .int (nI kc), .ref rd, .ref pg, .int (nI pe), .int kn, .ref ss])), (qs, .inr (5, [.ref qt, .ref po, .ref pa, .ref pf, .ref pd, .int nd, .int tn, .int an, .int wr, .int pl])), (qt, .inr (10, [.ref tb, .int (nI tl), .int ta, .int tk, .int ts])), (tb, .inl (E.2.1 0, 160, .inl fb))] (Qi E (fun (rz : Int32) uz => (∃ (fb2 : Nat → Int32), rz = (nI (tl + 8)) ∧ uz = [(hx, .inr (11, [.ref h, .ref qp, .int (nI ac), .int (nI np), .ref qs, .ref qj, .ref ly, .ref qh, .ref kk, .int (nI kc), .ref rd, .ref pg, .int (nI pe), .int kn, .ref ss])), (qs, .inr (5, [.ref qt, .ref po, .ref pa, .ref pf, .ref pd, .int nd, .int tn, .int an, .int wr, .int pl])), (qt, .inr (10, [.ref tb, .int (nI (tl + 8)), .int ta, .int tk, .int ts])), (tb, .inl (E.2.1 0, 160, .inl fb2))] ∧ (tl + 8 ≤ 160) ∧ (BYW fb fb2 tl 8 v0)) ∨ (rz = (-3) ∧ uz = [(hx, .inr (11, [.ref h, .ref qp, .int (nI ac), .int (nI np), .ref qs, .ref qj, .ref ly, .ref qh, .ref kk, .int (nI kc), .ref rd, .ref pg, .int (nI pe), .int kn, .ref ss])), (qs, .inr (5, [.ref qt, .ref po, .ref pa, .ref pf, .ref pd, .int nd, .int tn, .int an, .int wr, .int pl])), (qt, .inr (10, [.ref tb, .int (nI tl), .int ta, .int tk, .int ts])), (tb, .inl (E.2.1 0, 160, .inl fb))] ∧ (160 < tl + 8)))) 0 0 := by
  refine ct_of rfl rfl ?_
  intro X C hT hin hro
  show WW X 3 E 0 [(0, .ref hx), (1, .long v0)] [] [(hx, .inr (11, [.ref h, .ref qp, .int (nI ac), .int (nI np), .ref qs, .ref qj, .ref ly, .ref qh, .ref kk, .int (nI kc), .ref rd, .ref pg, .int (nI pe), .int kn, .ref ss])), (qs, .inr (5, [.ref qt, .ref po, .ref pa, .ref pf, .ref pd, .int nd, .int tn, .int an, .int wr, .int pl])), (qt, .inr (10, [.ref tb, .int (nI tl), .int ta, .int tk, .int ts])), (tb, .inl (E.2.1 0, 160, .inl fb))] 0 0
  refine ww_aload_n C dX11_feed_0 0 rfl rfl ?_
  refine ww_get C fg_X11_27 0 rfl rfl dX11_feed_1 ?_
  refine ww_get C fg_X11_162 1 rfl rfl dX11_feed_4 ?_
  refine ww_lload_n C dX11_feed_7 1 rfl rfl ?_
  refine ww_ci (wr := [(hx, .inr (11, [.ref h, .ref qp, .int (nI ac), .int (nI np), .ref qs, .ref qj, .ref ly, .ref qh, .ref kk, .int (nI kc), .ref rd, .ref pg, .int (nI pe), .int kn, .ref ss])), (qs, .inr (5, [.ref qt, .ref po, .ref pa, .ref pf, .ref pd, .int nd, .int tn, .int an, .int wr, .int pl]))]) (k' := 0) (n' := 0) C (run_V (As := [.long v0]) (rest := []) C (t_add X.2.1 E ro qt v0 tb tl ta tk ts fb (by omega)) mi_X10_add wl_X11_166 rfl 0 10 rfl rfl rfl rfl rfl dX11_feed_8) (roK hro) [2, 3] [0, 1] rfl rfl rfl rfl (fun r_1 uz hw => ?_)
  rcases hw with hw | hw
  · refine ex1 hw ?_
    clear hw
    intro fb2_2 hw
    refine an3 hw ?_
    clear hw
    intro he_5 he_6 h_3 hw
    have h_4 := hw
    clear hw
    have he_5 := he_5.symm
    subst he_5
    subst he_6
    refine ww_eq (ws' := [(hx, .inr (11, [.ref h, .ref qp, .int (nI ac), .int (nI np), .ref qs, .ref qj, .ref ly, .ref qh, .ref kk, .int (nI kc), .ref rd, .ref pg, .int (nI pe), .int kn, .ref ss])), (qs, .inr (5, [.ref qt, .ref po, .ref pa, .ref pf, .ref pd, .int nd, .int tn, .int an, .int wr, .int pl])), (qt, .inr (10, [.ref tb, .int (nI (tl + 8)), .int ta, .int tk, .int ts])), (tb, .inl (E.2.1 0, 160, .inl fb2_2))]) ?_ rfl rfl rfl
    refine ww_if_eq_f (tgt := 27) C dX11_feed_11 (by decide) (by decide) ?_
    refine ww_aload_n C dX11_feed_14 0 rfl rfl ?_
    refine ww_get C fg_X11_27 0 rfl rfl dX11_feed_15 ?_
    refine ww_get C fg_X11_162 1 rfl rfl dX11_feed_18 ?_
    refine ww_get C fg_X11_171 2 rfl rfl dX11_feed_21 ?_
    refine ww_goto (tgt := 29) C dX11_feed_24 (by decide) ?_
    exact ww_iret (u := [(hx, .inr (11, [.ref h, .ref qp, .int (nI ac), .int (nI np), .ref qs, .ref qj, .ref ly, .ref qh, .ref kk, .int (nI kc), .ref rd, .ref pg, .int (nI pe), .int kn, .ref ss])), (qs, .inr (5, [.ref qt, .ref po, .ref pa, .ref pf, .ref pd, .int nd, .int tn, .int an, .int wr, .int pl])), (qt, .inr (10, [.ref tb, .int (nI (tl + 8)), .int ta, .int tk, .int ts])), (tb, .inl (E.2.1 0, 160, .inl fb2_2))]) C hT [0, 1, 2, 3] rfl rfl rfl rfl dX11_feed_29 (Or.inl ⟨fb2_2, rfl, rfl, (by first | assumption | omega | decide), (by assumption)⟩)
  · refine an2 hw ?_
    clear hw
    intro he_8 he_9 hw
    have h_7 := hw
    clear hw
    have he_8 := he_8.symm
    subst he_8
    subst he_9
    refine ww_eq (ws' := [(hx, .inr (11, [.ref h, .ref qp, .int (nI ac), .int (nI np), .ref qs, .ref qj, .ref ly, .ref qh, .ref kk, .int (nI kc), .ref rd, .ref pg, .int (nI pe), .int kn, .ref ss])), (qs, .inr (5, [.ref qt, .ref po, .ref pa, .ref pf, .ref pd, .int nd, .int tn, .int an, .int wr, .int pl])), (qt, .inr (10, [.ref tb, .int (nI tl), .int ta, .int tk, .int ts])), (tb, .inl (E.2.1 0, 160, .inl fb))]) ?_ rfl rfl rfl
    refine ww_if_eq_t (tgt := 27) C dX11_feed_11 (by decide) (rfl) ?_
    refine ww_bipush (v := (-3)) C dX11_feed_27 rfl ?_
    exact ww_iret (u := [(hx, .inr (11, [.ref h, .ref qp, .int (nI ac), .int (nI np), .ref qs, .ref qj, .ref ly, .ref qh, .ref kk, .int (nI kc), .ref rd, .ref pg, .int (nI pe), .int kn, .ref ss])), (qs, .inr (5, [.ref qt, .ref po, .ref pa, .ref pf, .ref pd, .int nd, .int tn, .int an, .int wr, .int pl])), (qt, .inr (10, [.ref tb, .int (nI tl), .int ta, .int tk, .int ts])), (tb, .inl (E.2.1 0, 160, .inl fb))]) C hT [0, 1, 2, 3] rfl rfl rfl rfl dX11_feed_29 (Or.inr ⟨rfl, rfl, (by first | assumption | omega | decide)⟩)
theorem dX11_end_0 : decode cX11_end 0 = .ok (.iload_n 1, 1) := by decide +kernel
theorem dX11_end_1 : decode cX11_end 1 = .ok (.iconst 0, 1) := by decide +kernel
theorem dX11_end_2 : decode cX11_end 2 = .ok (.aload_n 0, 1) := by decide +kernel
theorem dX11_end_3 : decode cX11_end 3 = .ok (.getfield 27, 3) := by decide +kernel
theorem dX11_end_6 : decode cX11_end 6 = .ok (.getfield 162, 3) := by decide +kernel
theorem dX11_end_9 : decode cX11_end 9 = .ok (.getfield 171, 3) := by decide +kernel
theorem dX11_end_12 : decode cX11_end 12 = .ok (.invokestatic 76, 3) := by decide +kernel
theorem dX11_end_15 : decode cX11_end 15 = .ok (.ifCond .ne 5, 3) := by decide +kernel
theorem dX11_end_20 : decode cX11_end 20 = .ok (.aload_n 0, 1) := by decide +kernel
theorem dX11_end_21 : decode cX11_end 21 = .ok (.getfield 27, 3) := by decide +kernel
theorem dX11_end_24 : decode cX11_end 24 = .ok (.getfield 162, 3) := by decide +kernel
theorem dX11_end_27 : decode cX11_end 27 = .ok (.getfield 171, 3) := by decide +kernel
theorem dX11_end_30 : decode cX11_end 30 = .ok (.istore_n 2, 1) := by decide +kernel
theorem dX11_end_31 : decode cX11_end 31 = .ok (.aload_n 0, 1) := by decide +kernel
theorem dX11_end_32 : decode cX11_end 32 = .ok (.getfield 27, 3) := by decide +kernel
theorem dX11_end_35 : decode cX11_end 35 = .ok (.getfield 162, 3) := by decide +kernel
theorem dX11_end_38 : decode cX11_end 38 = .ok (.iload_n 1, 1) := by decide +kernel
theorem dX11_end_39 : decode cX11_end 39 = .ok (.putfield 171, 3) := by decide +kernel
theorem fp_X11_171 : FP RX11 171 10 1 .int false := ⟨RX10, TX10, 5, tyX10, uw_X10, wf_X11_171, rfl, by decide, rfl, tyX10_ok, nmX10, rfl, by decide +kernel⟩
theorem dX11_end_42 : decode cX11_end 42 = .ok (.iload_n 2, 1) := by decide +kernel
theorem dX11_end_43 : decode cX11_end 43 = .ok (.ireturn, 1) := by decide +kernel
theorem dX11_end_18 : decode cX11_end 18 = .ok (.iconst (-1), 1) := by decide +kernel
theorem dX11_end_19 : decode cX11_end 19 = .ok (.ireturn, 1) := by decide +kernel
set_option maxRecDepth 100000 in
set_option maxHeartbeats 4000000 in
theorem x_end (l : Launch) (E : EV) (ro : va_W) (hx : Nat) (v0 : Int32) (h : Nat) (qp : Nat) (ac : Nat) (np : Nat) (qs : Nat) (qj : Nat) (ly : Nat) (qh : Nat) (kk : Nat) (kc : Nat) (rd : Nat) (pg : Nat) (pe : Nat) (kn : Int32) (ss : Nat) (qt : Nat) (po : Nat) (pa : Nat) (pf : Nat) (pd : Nat) (nd : Int32) (tn : Int32) (an : Int32) (wr : Int32) (pl : Int32) (tb : Nat) (tl : Nat) (ta : Int32) (tk : Int32) (ts : Int32) (fb : Nat → Int32) (hac : ac ≤ 8) (hnp : np < 8) (hkc : kc ≤ 4) (hpe : pe ≤ 4) (htl : tl ≤ 160) : CT l yX11_end (Cond.code yX11_end cX11_end 3 (some .int) :: TB) ({ frames := 1, cells := 0, slots := 0, locals := 22 }) E ro [.ref hx, .int v0] [(hx, .inr (11, [.ref h, .ref qp, .int (nI ac), .int (nI np), .ref qs, .ref qj, .ref ly, .ref qh, .ref kk, .int (nI kc), .ref rd, .ref pg, .int (nI pe), .int kn, .ref ss])), (qs, .inr (5, [.ref qt, .ref po, .ref pa, .ref pf, .ref pd, .int nd, .int tn, .int an, .int wr, .int pl])), (qt, .inr (10, [.ref tb, .int (nI tl), .int ta, .int tk, .int ts])), (tb, .inl (E.2.1 0, 160, .inl fb))] (Qi E (fun (rz : Int32) uz => (rz = (-1) ∧ uz = [(hx, .inr (11, [.ref h, .ref qp, .int (nI ac), .int (nI np), .ref qs, .ref qj, .ref ly, .ref qh, .ref kk, .int (nI kc), .ref rd, .ref pg, .int (nI pe), .int kn, .ref ss])), (qs, .inr (5, [.ref qt, .ref po, .ref pa, .ref pf, .ref pd, .int nd, .int tn, .int an, .int wr, .int pl])), (qt, .inr (10, [.ref tb, .int (nI tl), .int ta, .int tk, .int ts])), (tb, .inl (E.2.1 0, 160, .inl fb))] ∧ (v0.toInt < 0 ∨ (tl : Int) < v0.toInt)) ∨ (∃ (tlz : Nat), rz = (nI tl) ∧ uz = [(hx, .inr (11, [.ref h, .ref qp, .int (nI ac), .int (nI np), .ref qs, .ref qj, .ref ly, .ref qh, .ref kk, .int (nI kc), .ref rd, .ref pg, .int (nI pe), .int kn, .ref ss])), (qs, .inr (5, [.ref qt, .ref po, .ref pa, .ref pf, .ref pd, .int nd, .int tn, .int an, .int wr, .int pl])), (qt, .inr (10, [.ref tb, .int (nI tlz), .int ta, .int tk, .int ts])), (tb, .inl (E.2.1 0, 160, .inl fb))] ∧ (v0 = nI tlz) ∧ (tlz ≤ tl)))) 0 0 := by
  refine ct_of rfl rfl ?_
  intro X C hT hin hro
  show WW X 3 E 0 [(0, .ref hx), (1, .int v0)] [] [(hx, .inr (11, [.ref h, .ref qp, .int (nI ac), .int (nI np), .ref qs, .ref qj, .ref ly, .ref qh, .ref kk, .int (nI kc), .ref rd, .ref pg, .int (nI pe), .int kn, .ref ss])), (qs, .inr (5, [.ref qt, .ref po, .ref pa, .ref pf, .ref pd, .int nd, .int tn, .int an, .int wr, .int pl])), (qt, .inr (10, [.ref tb, .int (nI tl), .int ta, .int tk, .int ts])), (tb, .inl (E.2.1 0, 160, .inl fb))] 0 0
  refine ww_iload_n C dX11_end_0 1 rfl rfl ?_
  refine ww_iconst (v := 0) C dX11_end_1 rfl ?_
  refine ww_aload_n C dX11_end_2 0 rfl rfl ?_
  refine ww_get C fg_X11_27 0 rfl rfl dX11_end_3 ?_
  refine ww_get C fg_X11_162 1 rfl rfl dX11_end_6 ?_
  refine ww_get C fg_X11_171 2 rfl rfl dX11_end_9 ?_
  refine ww_ci (wr := [(hx, .inr (11, [.ref h, .ref qp, .int (nI ac), .int (nI np), .ref qs, .ref qj, .ref ly, .ref qh, .ref kk, .int (nI kc), .ref rd, .ref pg, .int (nI pe), .int kn, .ref ss])), (qs, .inr (5, [.ref qt, .ref po, .ref pa, .ref pf, .ref pd, .int nd, .int tn, .int an, .int wr, .int pl])), (qt, .inr (10, [.ref tb, .int (nI tl), .int ta, .int tk, .int ts])), (tb, .inl (E.2.1 0, 160, .inl fb))]) (k' := 0) (n' := 0) C (run_S (As := [.int v0, .int 0, .int (nI tl)]) (rest := []) C (c_within X.2.1 E ro v0 0 (nI tl) v0.toInt 0 ((tl : Nat) : Int) rfl rfl (nI_toInt (n := tl) (by omega))) ms_X11_within wl_X11_76 rfl rfl rfl rfl dX11_end_12) (roK hro) [] [0, 1, 2, 3] rfl rfl rfl rfl (fun r_1 uz hw => ?_)
  rcases hw with hw | hw
  · refine an3 hw ?_
    clear hw
    intro he_4 he_5 h_2 hw
    have h_3 := hw
    clear hw
    have he_4 := he_4.symm
    subst he_4
    subst he_5
    refine ww_eq (ws' := [(hx, .inr (11, [.ref h, .ref qp, .int (nI ac), .int (nI np), .ref qs, .ref qj, .ref ly, .ref qh, .ref kk, .int (nI kc), .ref rd, .ref pg, .int (nI pe), .int kn, .ref ss])), (qs, .inr (5, [.ref qt, .ref po, .ref pa, .ref pf, .ref pd, .int nd, .int tn, .int an, .int wr, .int pl])), (qt, .inr (10, [.ref tb, .int (nI tl), .int ta, .int tk, .int ts])), (tb, .inl (E.2.1 0, 160, .inl fb))]) ?_ rfl rfl rfl
    refine ww_if_ne_t (tgt := 20) C dX11_end_15 (by decide) (by decide) ?_
    obtain ⟨j_9, hj_9, rfl⟩ := i_nat (x := v0) (N := 160) (by omega) (by omega)
    have hzj_9 := nI_toInt (n := j_9) (by omega)
    refine ww_aload_n C dX11_end_20 0 rfl rfl ?_
    refine ww_get C fg_X11_27 0 rfl rfl dX11_end_21 ?_
    refine ww_get C fg_X11_162 1 rfl rfl dX11_end_24 ?_
    refine ww_get C fg_X11_171 2 rfl rfl dX11_end_27 ?_
    refine ww_istore_n (lv' := [(2, .int (nI tl)), (0, .ref hx), (1, .int (nI j_9))]) C dX11_end_30 rfl rfl rfl ?_
    refine ww_aload_n C dX11_end_31 1 rfl rfl ?_
    refine ww_get C fg_X11_27 0 rfl rfl dX11_end_32 ?_
    refine ww_get C fg_X11_162 1 rfl rfl dX11_end_35 ?_
    refine ww_iload_n C dX11_end_38 2 rfl rfl ?_
    refine ww_put (ws' := [(hx, .inr (11, [.ref h, .ref qp, .int (nI ac), .int (nI np), .ref qs, .ref qj, .ref ly, .ref qh, .ref kk, .int (nI kc), .ref rd, .ref pg, .int (nI pe), .int kn, .ref ss])), (qs, .inr (5, [.ref qt, .ref po, .ref pa, .ref pf, .ref pd, .int nd, .int tn, .int an, .int wr, .int pl])), (qt, .inr (10, [.ref tb, .int (nI j_9), .int ta, .int tk, .int ts])), (tb, .inl (E.2.1 0, 160, .inl fb))]) C fp_X11_171 2 rfl rfl rfl rfl rfl dX11_end_39 ?_
    refine ww_iload_n C dX11_end_42 0 rfl rfl ?_
    exact ww_iret (u := [(hx, .inr (11, [.ref h, .ref qp, .int (nI ac), .int (nI np), .ref qs, .ref qj, .ref ly, .ref qh, .ref kk, .int (nI kc), .ref rd, .ref pg, .int (nI pe), .int kn, .ref ss])), (qs, .inr (5, [.ref qt, .ref po, .ref pa, .ref pf, .ref pd, .int nd, .int tn, .int an, .int wr, .int pl])), (qt, .inr (10, [.ref tb, .int (nI j_9), .int ta, .int tk, .int ts])), (tb, .inl (E.2.1 0, 160, .inl fb))]) C hT [0, 1, 2, 3] rfl rfl rfl rfl dX11_end_43 (Or.inr ⟨j_9, rfl, rfl, rfl, (by first | assumption | omega | decide)⟩)
  · refine an2 hw ?_
    clear hw
    intro he_7 he_8 hw
    have h_6 := hw
    clear hw
    have he_7 := he_7.symm
    subst he_7
    subst he_8
    refine ww_eq (ws' := [(hx, .inr (11, [.ref h, .ref qp, .int (nI ac), .int (nI np), .ref qs, .ref qj, .ref ly, .ref qh, .ref kk, .int (nI kc), .ref rd, .ref pg, .int (nI pe), .int kn, .ref ss])), (qs, .inr (5, [.ref qt, .ref po, .ref pa, .ref pf, .ref pd, .int nd, .int tn, .int an, .int wr, .int pl])), (qt, .inr (10, [.ref tb, .int (nI tl), .int ta, .int tk, .int ts])), (tb, .inl (E.2.1 0, 160, .inl fb))]) ?_ rfl rfl rfl
    refine ww_if_ne_f (tgt := 20) C dX11_end_15 (by decide) (rfl) ?_
    refine ww_iconst (v := (-1)) C dX11_end_18 rfl ?_
    exact ww_iret (u := [(hx, .inr (11, [.ref h, .ref qp, .int (nI ac), .int (nI np), .ref qs, .ref qj, .ref ly, .ref qh, .ref kk, .int (nI kc), .ref rd, .ref pg, .int (nI pe), .int kn, .ref ss])), (qs, .inr (5, [.ref qt, .ref po, .ref pa, .ref pf, .ref pd, .int nd, .int tn, .int an, .int wr, .int pl])), (qt, .inr (10, [.ref tb, .int (nI tl), .int ta, .int tk, .int ts])), (tb, .inl (E.2.1 0, 160, .inl fb))]) C hT [0, 1, 2, 3] rfl rfl rfl rfl dX11_end_19 (Or.inl ⟨rfl, rfl, (by first | assumption | omega | decide)⟩)
theorem dX11_isTold_0 : decode cX11_isTold 0 = .ok (.iload_n 1, 1) := by decide +kernel
theorem dX11_isTold_1 : decode cX11_isTold 1 = .ok (.iconst 0, 1) := by decide +kernel
theorem dX11_isTold_2 : decode cX11_isTold 2 = .ok (.bipush 7, 2) := by decide +kernel
theorem dX11_isTold_4 : decode cX11_isTold 4 = .ok (.invokestatic 76, 3) := by decide +kernel
theorem dX11_isTold_7 : decode cX11_isTold 7 = .ok (.ifCond .eq 19, 3) := by decide +kernel
theorem dX11_isTold_10 : decode cX11_isTold 10 = .ok (.aload_n 0, 1) := by decide +kernel
theorem dX11_isTold_11 : decode cX11_isTold 11 = .ok (.getfield 34, 3) := by decide +kernel
theorem wf_X11_34 : Cond.fieldLink RX11 34 RX11 "judge" "LWhoKnows$Judge;" ∈ TB := tbm (tq2 (List.mem_of_getElem? (i := 101) (by decide +kernel))) (by decide +kernel)
theorem fg_X11_34 : FG RX11 34 11 5 := ⟨RX11, TX11, 15, uw_X11, wf_X11_34, rfl, by decide, rfl⟩
theorem dX11_isTold_14 : decode cX11_isTold 14 = .ok (.getfield 80, 3) := by decide +kernel
theorem wf_X11_80 : Cond.fieldLink RX11 80 RX2 "told" "[LWhoKnows$Saying;" ∈ TB := tbm (tq1 (List.mem_of_getElem? (i := 214) (by decide +kernel))) (by decide +kernel)
theorem fg_X11_80 : FG RX11 80 2 0 := ⟨RX2, TX2, 4, uw_X2, wf_X11_80, rfl, by decide, rfl⟩
theorem dX11_isTold_17 : decode cX11_isTold 17 = .ok (.iload_n 1, 1) := by decide +kernel
theorem dX11_isTold_18 : decode cX11_isTold 18 = .ok (.aaload, 1) := by decide +kernel
theorem dX11_isTold_19 : decode cX11_isTold 19 = .ok (.ifnull 7, 3) := by decide +kernel
theorem dX11_isTold_26 : decode cX11_isTold 26 = .ok (.iconst 0, 1) := by decide +kernel
theorem dX11_isTold_27 : decode cX11_isTold 27 = .ok (.ireturn, 1) := by decide +kernel
theorem dX11_isTold_22 : decode cX11_isTold 22 = .ok (.iconst 1, 1) := by decide +kernel
theorem dX11_isTold_23 : decode cX11_isTold 23 = .ok (.goto 4, 3) := by decide +kernel
set_option maxRecDepth 100000 in
set_option maxHeartbeats 4000000 in
theorem x_isTold (l : Launch) (E : EV) (ro : va_W) (hx : Nat) (k : Int32) (h : Nat) (qp : Nat) (ac : Nat) (np : Nat) (qs : Nat) (qj : Nat) (ly : Nat) (qh : Nat) (kk : Nat) (kc : Nat) (rd : Nat) (pg : Nat) (pe : Nat) (kn : Int32) (ss : Nat) (jt : Nat) (je : Nat) (ju : Nat) (ja : Nat) (fto : Nat → Option Nat) (tT : Nat → Option SVal) (hac : ac ≤ 8) (hnp : np < 8) (hkc : kc ≤ 4) (hpe : pe ≤ 4) (hto : SYT E ro 8 fto tT) : CT l yX11_isTold (Cond.code yX11_isTold cX11_isTold 2 (some .boolean) :: TB) ({ frames := 1, cells := 0, slots := 0, locals := 22 }) E ro [.ref hx, .int k] [(hx, .inr (11, [.ref h, .ref qp, .int (nI ac), .int (nI np), .ref qs, .ref qj, .ref ly, .ref qh, .ref kk, .int (nI kc), .ref rd, .ref pg, .int (nI pe), .int kn, .ref ss])), (qj, .inr (2, [.ref jt, .ref je, .ref ju, .ref ja])), (jt, .inl (E.2.1 7, 8, .inr (.inr (.inr (.inr fto)))))] (Qi E (fun (rz : Int32) uz => (∃ (aa : Nat), rz = 1 ∧ uz = [(hx, .inr (11, [.ref h, .ref qp, .int (nI ac), .int (nI np), .ref qs, .ref qj, .ref ly, .ref qh, .ref kk, .int (nI kc), .ref rd, .ref pg, .int (nI pe), .int kn, .ref ss])), (qj, .inr (2, [.ref jt, .ref je, .ref ju, .ref ja])), (jt, .inl (E.2.1 7, 8, .inr (.inr (.inr (.inr fto)))))] ∧ (0 ≤ k.toInt) ∧ (k.toInt ≤ 7) ∧ (fto k.toNatClampNeg = some aa)) ∨ (rz = 0 ∧ uz = [(hx, .inr (11, [.ref h, .ref qp, .int (nI ac), .int (nI np), .ref qs, .ref qj, .ref ly, .ref qh, .ref kk, .int (nI kc), .ref rd, .ref pg, .int (nI pe), .int kn, .ref ss])), (qj, .inr (2, [.ref jt, .ref je, .ref ju, .ref ja])), (jt, .inl (E.2.1 7, 8, .inr (.inr (.inr (.inr fto)))))] ∧ (k.toInt < 0 ∨ 7 < k.toInt ∨ fto k.toNatClampNeg = none)))) 0 0 := by
  refine ct_of rfl rfl ?_
  intro X C hT hin hro
  show WW X 2 E 0 [(0, .ref hx), (1, .int k)] [] [(hx, .inr (11, [.ref h, .ref qp, .int (nI ac), .int (nI np), .ref qs, .ref qj, .ref ly, .ref qh, .ref kk, .int (nI kc), .ref rd, .ref pg, .int (nI pe), .int kn, .ref ss])), (qj, .inr (2, [.ref jt, .ref je, .ref ju, .ref ja])), (jt, .inl (E.2.1 7, 8, .inr (.inr (.inr (.inr fto)))))] 0 0
  refine ww_iload_n C dX11_isTold_0 1 rfl rfl ?_
  refine ww_iconst (v := 0) C dX11_isTold_1 rfl ?_
  refine ww_bipush (v := 7) C dX11_isTold_2 rfl ?_
  refine ww_ci (wr := [(hx, .inr (11, [.ref h, .ref qp, .int (nI ac), .int (nI np), .ref qs, .ref qj, .ref ly, .ref qh, .ref kk, .int (nI kc), .ref rd, .ref pg, .int (nI pe), .int kn, .ref ss])), (qj, .inr (2, [.ref jt, .ref je, .ref ju, .ref ja])), (jt, .inl (E.2.1 7, 8, .inr (.inr (.inr (.inr fto)))))]) (k' := 0) (n' := 0) C (run_S (As := [.int k, .int 0, .int 7]) (rest := []) C (c_within X.2.1 E ro k 0 7 k.toInt 0 7 rfl rfl rfl) ms_X11_within wl_X11_76 rfl rfl rfl rfl dX11_isTold_4) (roK hro) [] [0, 1, 2] rfl rfl rfl rfl (fun r_1 uz hw => ?_)
  rcases hw with hw | hw
  · refine an3 hw ?_
    clear hw
    intro he_4 he_5 h_2 hw
    have h_3 := hw
    clear hw
    have he_4 := he_4.symm
    subst he_4
    subst he_5
    refine ww_eq (ws' := [(hx, .inr (11, [.ref h, .ref qp, .int (nI ac), .int (nI np), .ref qs, .ref qj, .ref ly, .ref qh, .ref kk, .int (nI kc), .ref rd, .ref pg, .int (nI pe), .int kn, .ref ss])), (qj, .inr (2, [.ref jt, .ref je, .ref ju, .ref ja])), (jt, .inl (E.2.1 7, 8, .inr (.inr (.inr (.inr fto)))))]) ?_ rfl rfl rfl
    refine ww_if_eq_f (tgt := 26) C dX11_isTold_7 (by decide) (by decide) ?_
    obtain ⟨j_9, hj_9, rfl⟩ := i_nat (x := k) (N := 7) (by omega) (by omega)
    have hzj_9 := nI_toInt (n := j_9) (by omega)
    refine ww_aload_n C dX11_isTold_10 0 rfl rfl ?_
    refine ww_get C fg_X11_34 0 rfl rfl dX11_isTold_11 ?_
    refine ww_get C fg_X11_80 1 rfl rfl dX11_isTold_14 ?_
    refine ww_iload_n C dX11_isTold_17 1 rfl rfl ?_
    rcases hq_10 : fto j_9 with _ | a_11
    · refine ww_ald (v := none) (t0 := 7) C 2 rfl rfl (vp_in_nI (by omega) (by omega)) (ldn (by omega) hq_10) dX11_isTold_18 ?_
      refine ww_eq (st' := [.null]) ?_ rfl rfl rfl
      refine ww_ifnullN (tgt := 26) C dX11_isTold_19 (by decide) ?_
      refine ww_iconst (v := 0) C dX11_isTold_26 rfl ?_
      exact ww_zret (u := [(hx, .inr (11, [.ref h, .ref qp, .int (nI ac), .int (nI np), .ref qs, .ref qj, .ref ly, .ref qh, .ref kk, .int (nI kc), .ref rd, .ref pg, .int (nI pe), .int kn, .ref ss])), (qj, .inr (2, [.ref jt, .ref je, .ref ju, .ref ja])), (jt, .inl (E.2.1 7, 8, .inr (.inr (.inr (.inr fto)))))]) C hT [0, 1, 2] rfl rfl rfl rfl rfl dX11_isTold_27 (Or.inr ⟨rfl, rfl, (Or.inr (Or.inr (ldn (by omega) hq_10)))⟩)
    · refine ww_ald (v := (some a_11)) (t0 := 7) C 2 rfl rfl (vp_in_nI (by omega) (by omega)) (ldn (by omega) hq_10) dX11_isTold_18 ?_
      refine ww_eq (st' := [.ref a_11]) ?_ rfl rfl rfl
      refine ww_ifnull C dX11_isTold_19 ?_
      refine ww_iconst (v := 1) C dX11_isTold_22 rfl ?_
      refine ww_goto (tgt := 27) C dX11_isTold_23 (by decide) ?_
      exact ww_zret (u := [(hx, .inr (11, [.ref h, .ref qp, .int (nI ac), .int (nI np), .ref qs, .ref qj, .ref ly, .ref qh, .ref kk, .int (nI kc), .ref rd, .ref pg, .int (nI pe), .int kn, .ref ss])), (qj, .inr (2, [.ref jt, .ref je, .ref ju, .ref ja])), (jt, .inl (E.2.1 7, 8, .inr (.inr (.inr (.inr fto)))))]) C hT [0, 1, 2] rfl rfl rfl rfl rfl dX11_isTold_27 (Or.inl ⟨_, rfl, rfl, (by first | assumption | omega | decide), (by first | assumption | omega | decide), (ldn (by omega) (by assumption))⟩)
  · refine an2 hw ?_
    clear hw
    intro he_7 he_8 hw
    have h_6 := hw
    clear hw
    have he_7 := he_7.symm
    subst he_7
    subst he_8
    refine ww_eq (ws' := [(hx, .inr (11, [.ref h, .ref qp, .int (nI ac), .int (nI np), .ref qs, .ref qj, .ref ly, .ref qh, .ref kk, .int (nI kc), .ref rd, .ref pg, .int (nI pe), .int kn, .ref ss])), (qj, .inr (2, [.ref jt, .ref je, .ref ju, .ref ja])), (jt, .inl (E.2.1 7, 8, .inr (.inr (.inr (.inr fto)))))]) ?_ rfl rfl rfl
    refine ww_if_eq_t (tgt := 26) C dX11_isTold_7 (by decide) (rfl) ?_
    refine ww_iconst (v := 0) C dX11_isTold_26 rfl ?_
    exact ww_zret (u := [(hx, .inr (11, [.ref h, .ref qp, .int (nI ac), .int (nI np), .ref qs, .ref qj, .ref ly, .ref qh, .ref kk, .int (nI kc), .ref rd, .ref pg, .int (nI pe), .int kn, .ref ss])), (qj, .inr (2, [.ref jt, .ref je, .ref ju, .ref ja])), (jt, .inl (E.2.1 7, 8, .inr (.inr (.inr (.inr fto)))))]) C hT [0, 1, 2] rfl rfl rfl rfl rfl dX11_isTold_27 (Or.inr ⟨rfl, rfl, (by omega)⟩)
