theorem dX5_parse_0 : decode cX5_parse 0 = .ok (.aload_n 0, 1) := by decide +kernel
theorem dX5_parse_1 : decode cX5_parse 1 = .ok (.iconst 0, 1) := by decide +kernel
theorem dX5_parse_2 : decode cX5_parse 2 = .ok (.putfield 31, 3) := by decide +kernel
theorem dX5_parse_5 : decode cX5_parse 5 = .ok (.aload_n 0, 1) := by decide +kernel
theorem dX5_parse_6 : decode cX5_parse 6 = .ok (.iconst 0, 1) := by decide +kernel
theorem dX5_parse_7 : decode cX5_parse 7 = .ok (.putfield 35, 3) := by decide +kernel
theorem dX5_parse_10 : decode cX5_parse 10 = .ok (.aload_n 0, 1) := by decide +kernel
theorem dX5_parse_11 : decode cX5_parse 11 = .ok (.iconst 0, 1) := by decide +kernel
theorem dX5_parse_12 : decode cX5_parse 12 = .ok (.putfield 38, 3) := by decide +kernel
theorem dX5_parse_15 : decode cX5_parse 15 = .ok (.aload_n 0, 1) := by decide +kernel
theorem dX5_parse_16 : decode cX5_parse 16 = .ok (.iconst 0, 1) := by decide +kernel
theorem dX5_parse_17 : decode cX5_parse 17 = .ok (.putfield 41, 3) := by decide +kernel
theorem dX5_parse_20 : decode cX5_parse 20 = .ok (.aload_n 0, 1) := by decide +kernel
theorem dX5_parse_21 : decode cX5_parse 21 = .ok (.iconst 0, 1) := by decide +kernel
theorem dX5_parse_22 : decode cX5_parse 22 = .ok (.putfield 44, 3) := by decide +kernel
theorem dX5_parse_25 : decode cX5_parse 25 = .ok (.aload_n 0, 1) := by decide +kernel
theorem dX5_parse_26 : decode cX5_parse 26 = .ok (.getfield 12, 3) := by decide +kernel
theorem dX5_parse_29 : decode cX5_parse 29 = .ok (.invokevirtual 47, 3) := by decide +kernel
theorem wl_X5_47 : Cond.methodLink RX5 47 yX10_rewind ∈ TB := tbm (tq3 (List.mem_of_getElem? (i := 10) (by decide +kernel))) (by decide +kernel)
theorem wc_X10_rewind : Cond.code yX10_rewind cX10_rewind 1 none ∈ TB := tbm (tq3 (List.mem_of_getElem? (i := 13) (rfl))) (by decide +kernel)
theorem wi_X10_rewind : Cond.instanceMethod yX10_rewind ∈ TB := tbm (tq3 (List.mem_of_getElem? (i := 11) (by decide +kernel))) (by decide +kernel)
theorem ws_X10_rewind : Cond.selects RX10 yX10_rewind yX10_rewind ∈ TB := tbm (tq3 (List.mem_of_getElem? (i := 12) (by decide +kernel))) (by decide +kernel)
theorem mi_X10_rewind : MI yX10_rewind cX10_rewind 1 none 0 := ⟨wc_X10_rewind, wn_X10, ⟨by decide +kernel, by decide +kernel, by decide +kernel⟩, wi_X10_rewind, ws_X10_rewind⟩
theorem dX5_parse_32 : decode cX5_parse 32 = .ok (.aload_n 0, 1) := by decide +kernel
theorem dX5_parse_33 : decode cX5_parse 33 = .ok (.invokevirtual 50, 3) := by decide +kernel
theorem dX5_parse_36 : decode cX5_parse 36 = .ok (.ifCond .eq 17, 3) := by decide +kernel
theorem dX5_parse_39 : decode cX5_parse 39 = .ok (.aload_n 0, 1) := by decide +kernel
theorem dX5_parse_40 : decode cX5_parse 40 = .ok (.invokevirtual 54, 3) := by decide +kernel
theorem wl_X5_54 : Cond.methodLink RX5 54 yX5_readAfters ∈ TB := tbm (tq3 (List.mem_of_getElem? (i := 33) (by decide +kernel))) (by decide +kernel)
theorem wc_X5_readAfters : Cond.code yX5_readAfters cX5_readAfters 2 (some .boolean) ∈ TB := tbm (tq3 (List.mem_of_getElem? (i := 36) (rfl))) (by decide +kernel)
theorem wi_X5_readAfters : Cond.instanceMethod yX5_readAfters ∈ TB := tbm (tq3 (List.mem_of_getElem? (i := 35) (by decide +kernel))) (by decide +kernel)
theorem ws_X5_readAfters : Cond.selects RX5 yX5_readAfters yX5_readAfters ∈ TB := tbm (tq0 (List.mem_of_getElem? (i := 6) (by decide +kernel))) (by decide +kernel)
theorem mi_X5_readAfters : MI yX5_readAfters cX5_readAfters 2 (some .boolean) 0 := ⟨wc_X5_readAfters, wn_X5, ⟨by decide +kernel, by decide +kernel, by decide +kernel⟩, wi_X5_readAfters, ws_X5_readAfters⟩
theorem dX5_parse_43 : decode cX5_parse 43 = .ok (.ifCond .eq 10, 3) := by decide +kernel
theorem dX5_parse_46 : decode cX5_parse 46 = .ok (.aload_n 0, 1) := by decide +kernel
theorem dX5_parse_47 : decode cX5_parse 47 = .ok (.invokevirtual 57, 3) := by decide +kernel
theorem wl_X5_57 : Cond.methodLink RX5 57 yX5_readSaying ∈ TB := tbm (tq3 (List.mem_of_getElem? (i := 98) (by decide +kernel))) (by decide +kernel)
theorem wc_X5_readSaying : Cond.code yX5_readSaying cX5_readSaying 6 (some .boolean) ∈ TB := tbm (tq3 (List.mem_of_getElem? (i := 101) (rfl))) (by decide +kernel)
theorem wi_X5_readSaying : Cond.instanceMethod yX5_readSaying ∈ TB := tbm (tq3 (List.mem_of_getElem? (i := 100) (by decide +kernel))) (by decide +kernel)
theorem ws_X5_readSaying : Cond.selects RX5 yX5_readSaying yX5_readSaying ∈ TB := tbm (tq0 (List.mem_of_getElem? (i := 8) (by decide +kernel))) (by decide +kernel)
theorem mi_X5_readSaying : MI yX5_readSaying cX5_readSaying 6 (some .boolean) 0 := ⟨wc_X5_readSaying, wn_X5, ⟨by decide +kernel, by decide +kernel, by decide +kernel⟩, wi_X5_readSaying, ws_X5_readSaying⟩
theorem dX5_parse_50 : decode cX5_parse 50 = .ok (.ifCond .ne 5, 3) := by decide +kernel
theorem dX5_parse_55 : decode cX5_parse 55 = .ok (.aload_n 0, 1) := by decide +kernel
theorem dX5_parse_56 : decode cX5_parse 56 = .ok (.getfield 12, 3) := by decide +kernel
theorem dX5_parse_59 : decode cX5_parse 59 = .ok (.getfield 60, 3) := by decide +kernel
theorem dX5_parse_62 : decode cX5_parse 62 = .ok (.ifCond .eq 11, 3) := by decide +kernel
theorem dX5_parse_73 : decode cX5_parse 73 = .ok (.aload_n 0, 1) := by decide +kernel
theorem dX5_parse_74 : decode cX5_parse 74 = .ok (.invokevirtual 67, 3) := by decide +kernel
theorem wl_X5_67 : Cond.methodLink RX5 67 yX5_made ∈ TB := tbm (tq3 (List.mem_of_getElem? (i := 144) (by decide +kernel))) (by decide +kernel)
theorem wc_X5_made : Cond.code yX5_made cX5_made 3 (some (.object "WhoKnows$Saying")) ∈ TB := tbm (tq3 (List.mem_of_getElem? (i := 147) (rfl))) (by decide +kernel)
theorem wi_X5_made : Cond.instanceMethod yX5_made ∈ TB := tbm (tq3 (List.mem_of_getElem? (i := 146) (by decide +kernel))) (by decide +kernel)
theorem ws_X5_made : Cond.selects RX5 yX5_made yX5_made ∈ TB := tbm (tq0 (List.mem_of_getElem? (i := 14) (by decide +kernel))) (by decide +kernel)
theorem mi_X5_made : MI yX5_made cX5_made 3 (some (.object "WhoKnows$Saying")) 0 := ⟨wc_X5_made, wn_X5, ⟨by decide +kernel, by decide +kernel, by decide +kernel⟩, wi_X5_made, ws_X5_made⟩
theorem dX5_parse_77 : decode cX5_parse 77 = .ok (.areturn, 1) := by decide +kernel
theorem dX5_parse_65 : decode cX5_parse 65 = .ok (.aload_n 0, 1) := by decide +kernel
theorem dX5_parse_66 : decode cX5_parse 66 = .ok (.iconst 2, 1) := by decide +kernel
theorem dX5_parse_67 : decode cX5_parse 67 = .ok (.invokevirtual 63, 3) := by decide +kernel
theorem dX5_parse_70 : decode cX5_parse 70 = .ok (.pop, 1) := by decide +kernel
theorem dX5_parse_71 : decode cX5_parse 71 = .ok (.aconst_null, 1) := by decide +kernel
theorem dX5_parse_72 : decode cX5_parse 72 = .ok (.areturn, 1) := by decide +kernel
theorem dX5_parse_53 : decode cX5_parse 53 = .ok (.aconst_null, 1) := by decide +kernel
theorem dX5_parse_54 : decode cX5_parse 54 = .ok (.areturn, 1) := by decide +kernel
set_option maxRecDepth 100000 in
set_option maxHeartbeats 4000000 in
theorem q_parse (l : Launch) (E : EV) (ro : va_W) (qs : Nat) (qt : Nat) (po : Nat) (pa : Nat) (pf : Nat) (pd : Nat) (nd : Int32) (tn : Int32) (an : Int32) (wr : Int32) (pl : Int32) (tb : Nat) (tl : Nat) (ta : Int32) (tk : Int32) (ts : Int32) (fb : Nat → Int32) (fo : Nat → Int32) (fa : Nat → Int32) (af : Nat → Int32) (fd : Nat → Int32) (htl : tl ≤ 160) : CT l yX5_parse (Cond.code yX5_parse cX5_parse 1 (some (.object "WhoKnows$Saying")) :: TB) ({ frames := 8, cells := 4, slots := 73, locals := 172 }) E ro [.ref qs] [(qs, .inr (5, [.ref qt, .ref po, .ref pa, .ref pf, .ref pd, .int nd, .int tn, .int an, .int wr, .int pl])), (qt, .inr (10, [.ref tb, .int (nI tl), .int ta, .int tk, .int ts])), (tb, .inl (E.2.1 0, 160, .inl fb)), (po, .inl (E.2.1 1, 32, .inl fo)), (pa, .inl (E.2.1 1, 32, .inl fa)), (pf, .inl (E.2.1 1, 2, .inl af)), (pd, .inl (E.2.1 1, 32, .inl fd))] (Qq E (fun (rz : Option Nat) uz => (∃ (ndz : Int32) (tnz : Int32) (anz : Int32) (wrz : Int32) (plz : Int32) (taz : Int32) (tkz : Int32) (tsz : Int32) (foz : Nat → Int32) (faz : Nat → Int32) (afz : Nat → Int32) (fdz : Nat → Int32), rz = none ∧ uz = [(qs, .inr (5, [.ref qt, .ref po, .ref pa, .ref pf, .ref pd, .int ndz, .int tnz, .int anz, .int wrz, .int plz])), (qt, .inr (10, [.ref tb, .int (nI tl), .int taz, .int tkz, .int tsz])), (tb, .inl (E.2.1 0, 160, .inl fb)), (po, .inl (E.2.1 1, 32, .inl foz)), (pa, .inl (E.2.1 1, 32, .inl faz)), (pf, .inl (E.2.1 1, 2, .inl afz)), (pd, .inl (E.2.1 1, 32, .inl fdz))]) ∨ (∃ (ndz : Int32) (tnz : Int32) (anz : Int32) (wrz : Int32) (plz : Int32) (taz : Int32) (tkz : Int32) (tsz : Int32) (foz : Nat → Int32) (faz : Nat → Int32) (afz : Nat → Int32) (fdz : Nat → Int32) (sg : Nat) (nn : Nat) (na : Nat) (sx : Nat) (sy : Nat) (sz : Nat) (tk : Int32) (dp : Int32) (nm : Int32) (so : Nat → Int32) (sr : Nat → Int32) (sf : Nat → Int32), rz = some sg ∧ uz = [(qs, .inr (5, [.ref qt, .ref po, .ref pa, .ref pf, .ref pd, .int ndz, .int tnz, .int anz, .int wrz, .int plz])), (qt, .inr (10, [.ref tb, .int (nI tl), .int taz, .int tkz, .int tsz])), (tb, .inl (E.2.1 0, 160, .inl fb)), (po, .inl (E.2.1 1, 32, .inl foz)), (pa, .inl (E.2.1 1, 32, .inl faz)), (pf, .inl (E.2.1 1, 2, .inl afz)), (pd, .inl (E.2.1 1, 32, .inl fdz)), (sg, .inr (8, [.ref sx, .ref sy, .int tk, .int (nI na), .ref sz, .int dp, .int nm])), (sx, .inl (E.2.1 1, nn, .inl so)), (sy, .inl (E.2.1 1, nn, .inl sr)), (sz, .inl (E.2.1 1, 2, .inl sf))] ∧ (WFs nn so ∧ AFI na sf) ∧ (na ≤ 2)))) 4 73 := by
  refine ct_of rfl rfl ?_
  intro X C hT hin hro
  show WW X 1 E 0 [(0, .ref qs)] [] [(qs, .inr (5, [.ref qt, .ref po, .ref pa, .ref pf, .ref pd, .int nd, .int tn, .int an, .int wr, .int pl])), (qt, .inr (10, [.ref tb, .int (nI tl), .int ta, .int tk, .int ts])), (tb, .inl (E.2.1 0, 160, .inl fb)), (po, .inl (E.2.1 1, 32, .inl fo)), (pa, .inl (E.2.1 1, 32, .inl fa)), (pf, .inl (E.2.1 1, 2, .inl af)), (pd, .inl (E.2.1 1, 32, .inl fd))] 0 0
  refine ww_aload_n C dX5_parse_0 0 rfl rfl ?_
  refine ww_iconst (v := 0) C dX5_parse_1 rfl ?_
  refine ww_put (ws' := [(qs, .inr (5, [.ref qt, .ref po, .ref pa, .ref pf, .ref pd, .int 0, .int tn, .int an, .int wr, .int pl])), (qt, .inr (10, [.ref tb, .int (nI tl), .int ta, .int tk, .int ts])), (tb, .inl (E.2.1 0, 160, .inl fb)), (po, .inl (E.2.1 1, 32, .inl fo)), (pa, .inl (E.2.1 1, 32, .inl fa)), (pf, .inl (E.2.1 1, 2, .inl af)), (pd, .inl (E.2.1 1, 32, .inl fd))]) C fp_X5_31 0 rfl rfl rfl rfl rfl dX5_parse_2 ?_
  refine ww_aload_n C dX5_parse_5 0 rfl rfl ?_
  refine ww_iconst (v := 0) C dX5_parse_6 rfl ?_
  refine ww_put (ws' := [(qs, .inr (5, [.ref qt, .ref po, .ref pa, .ref pf, .ref pd, .int 0, .int 0, .int an, .int wr, .int pl])), (qt, .inr (10, [.ref tb, .int (nI tl), .int ta, .int tk, .int ts])), (tb, .inl (E.2.1 0, 160, .inl fb)), (po, .inl (E.2.1 1, 32, .inl fo)), (pa, .inl (E.2.1 1, 32, .inl fa)), (pf, .inl (E.2.1 1, 2, .inl af)), (pd, .inl (E.2.1 1, 32, .inl fd))]) C fp_X5_35 0 rfl rfl rfl rfl rfl dX5_parse_7 ?_
  refine ww_aload_n C dX5_parse_10 0 rfl rfl ?_
  refine ww_iconst (v := 0) C dX5_parse_11 rfl ?_
  refine ww_put (ws' := [(qs, .inr (5, [.ref qt, .ref po, .ref pa, .ref pf, .ref pd, .int 0, .int 0, .int 0, .int wr, .int pl])), (qt, .inr (10, [.ref tb, .int (nI tl), .int ta, .int tk, .int ts])), (tb, .inl (E.2.1 0, 160, .inl fb)), (po, .inl (E.2.1 1, 32, .inl fo)), (pa, .inl (E.2.1 1, 32, .inl fa)), (pf, .inl (E.2.1 1, 2, .inl af)), (pd, .inl (E.2.1 1, 32, .inl fd))]) C fp_X5_38 0 rfl rfl rfl rfl rfl dX5_parse_12 ?_
  refine ww_aload_n C dX5_parse_15 0 rfl rfl ?_
  refine ww_iconst (v := 0) C dX5_parse_16 rfl ?_
  refine ww_put (ws' := [(qs, .inr (5, [.ref qt, .ref po, .ref pa, .ref pf, .ref pd, .int 0, .int 0, .int 0, .int 0, .int pl])), (qt, .inr (10, [.ref tb, .int (nI tl), .int ta, .int tk, .int ts])), (tb, .inl (E.2.1 0, 160, .inl fb)), (po, .inl (E.2.1 1, 32, .inl fo)), (pa, .inl (E.2.1 1, 32, .inl fa)), (pf, .inl (E.2.1 1, 2, .inl af)), (pd, .inl (E.2.1 1, 32, .inl fd))]) C fp_X5_41 0 rfl rfl rfl rfl rfl dX5_parse_17 ?_
  refine ww_aload_n C dX5_parse_20 0 rfl rfl ?_
  refine ww_iconst (v := 0) C dX5_parse_21 rfl ?_
  refine ww_put (ws' := [(qs, .inr (5, [.ref qt, .ref po, .ref pa, .ref pf, .ref pd, .int 0, .int 0, .int 0, .int 0, .int 0])), (qt, .inr (10, [.ref tb, .int (nI tl), .int ta, .int tk, .int ts])), (tb, .inl (E.2.1 0, 160, .inl fb)), (po, .inl (E.2.1 1, 32, .inl fo)), (pa, .inl (E.2.1 1, 32, .inl fa)), (pf, .inl (E.2.1 1, 2, .inl af)), (pd, .inl (E.2.1 1, 32, .inl fd))]) C fp_X5_44 0 rfl rfl rfl rfl rfl dX5_parse_22 ?_
  refine ww_aload_n C dX5_parse_25 0 rfl rfl ?_
  refine ww_get C fg_X5_12 0 rfl rfl dX5_parse_26 ?_
  refine ww_cv (wr := [(qs, .inr (5, [.ref qt, .ref po, .ref pa, .ref pf, .ref pd, .int 0, .int 0, .int 0, .int 0, .int 0])), (tb, .inl (E.2.1 0, 160, .inl fb)), (po, .inl (E.2.1 1, 32, .inl fo)), (pa, .inl (E.2.1 1, 32, .inl fa)), (pf, .inl (E.2.1 1, 2, .inl af)), (pd, .inl (E.2.1 1, 32, .inl fd))]) (k' := 0) (n' := 0) C (run_V (As := []) (rest := []) C (t_rewind X.2.1 E ro qt tb tl ta tk ts) mi_X10_rewind wl_X5_47 rfl 0 10 rfl rfl rfl rfl rfl dX5_parse_29) (roK hro) [1] [0, 2, 3, 4, 5, 6] rfl rfl rfl rfl (fun uz hw => ?_)
  obtain rfl := hw
  refine ww_eq (ws' := [(qs, .inr (5, [.ref qt, .ref po, .ref pa, .ref pf, .ref pd, .int 0, .int 0, .int 0, .int 0, .int 0])), (tb, .inl (E.2.1 0, 160, .inl fb)), (po, .inl (E.2.1 1, 32, .inl fo)), (pa, .inl (E.2.1 1, 32, .inl fa)), (pf, .inl (E.2.1 1, 2, .inl af)), (pd, .inl (E.2.1 1, 32, .inl fd)), (qt, .inr (10, [.ref tb, .int (nI tl), .int 0, .int tk, .int ts]))]) ?_ rfl rfl rfl
  refine ww_aload_n C dX5_parse_32 0 rfl rfl ?_
  refine ww_ci (wr := [(po, .inl (E.2.1 1, 32, .inl fo)), (pa, .inl (E.2.1 1, 32, .inl fa)), (pf, .inl (E.2.1 1, 2, .inl af)), (pd, .inl (E.2.1 1, 32, .inl fd))]) (k' := 0) (n' := 0) C (run_V (As := []) (rest := []) C (q_next X.2.1 E ro qs qt po pa pf pd 0 0 0 0 0 tb tl 0 tk ts fb (by omega) (by omega)) mi_X5_next wl_X5_50 rfl 0 5 rfl rfl rfl rfl rfl dX5_parse_33) (roK hro) [0, 6, 1] [2, 3, 4, 5] rfl rfl rfl rfl (fun r_2 uz hw => ?_)
  rcases hw with ⟨ta2_3, tk2_4, ts2_5, rfl, rfl, h_6, h_7, h_8, h_9, h_10⟩ | ⟨ta2_11, tk2_12, ts2_13, wr2_14, pl2_15, rfl, rfl, h_16, h_17, h_18, h_19, h_20⟩
  · refine ww_eq (ws' := [(po, .inl (E.2.1 1, 32, .inl fo)), (pa, .inl (E.2.1 1, 32, .inl fa)), (pf, .inl (E.2.1 1, 2, .inl af)), (pd, .inl (E.2.1 1, 32, .inl fd)), (qs, .inr (5, [.ref qt, .ref po, .ref pa, .ref pf, .ref pd, .int 0, .int 0, .int 0, .int 0, .int 0])), (qt, .inr (10, [.ref tb, .int (nI tl), .int (nI ta2_3), .int (nI tk2_4), .int (nI ts2_5)])), (tb, .inl (E.2.1 0, 160, .inl fb))]) ?_ rfl rfl rfl
    refine ww_if_eq_f (tgt := 53) C dX5_parse_36 (by decide) (by decide) ?_
    refine ww_aload_n C dX5_parse_39 0 rfl rfl ?_
    refine ww_ci (wr := [(po, .inl (E.2.1 1, 32, .inl fo)), (pa, .inl (E.2.1 1, 32, .inl fa)), (pd, .inl (E.2.1 1, 32, .inl fd))]) (k' := 0) (n' := 0) C (run_V (As := []) (rest := []) C (q_readAfters X.2.1 E ro qs qt po pa pf pd 0 0 0 0 tb tl ta2_3 tk2_4 ts2_5 fb af (by omega) (by omega) (by omega) (by omega) (by omega) h_10) mi_X5_readAfters wl_X5_54 rfl 0 5 rfl rfl rfl rfl rfl dX5_parse_40) (roK hro) [4, 5, 6, 2] [0, 1, 3] rfl rfl rfl rfl (fun r_21 uz hw => ?_)
    rcases hw with ⟨ta2_22, tk2_23, ts2_24, an2_25, af2_26, rfl, rfl, h_27, h_28, h_29, h_30, h_31, h_32, h_33⟩ | ⟨ta2_34, tk2_35, ts2_36, an2_37, wr2_38, pl2_39, af2_40, rfl, rfl, h_41, h_42, h_43, h_44, h_45⟩
    · refine ww_eq (ws' := [(po, .inl (E.2.1 1, 32, .inl fo)), (pa, .inl (E.2.1 1, 32, .inl fa)), (pd, .inl (E.2.1 1, 32, .inl fd)), (qs, .inr (5, [.ref qt, .ref po, .ref pa, .ref pf, .ref pd, .int 0, .int 0, .int (nI an2_25), .int 0, .int 0])), (qt, .inr (10, [.ref tb, .int (nI tl), .int (nI ta2_22), .int (nI tk2_23), .int (nI ts2_24)])), (tb, .inl (E.2.1 0, 160, .inl fb)), (pf, .inl (E.2.1 1, 2, .inl af2_26))]) ?_ rfl rfl rfl
      refine ww_if_eq_f (tgt := 53) C dX5_parse_43 (by decide) (by decide) ?_
      refine ww_aload_n C dX5_parse_46 0 rfl rfl ?_
      refine ww_ci (wr := [(pd, .inl (E.2.1 1, 32, .inl fd)), (pf, .inl (E.2.1 1, 2, .inl af2_26))]) (k' := 0) (n' := 0) C (run_V (As := []) (rest := []) C (q_readSaying X.2.1 E ro qs qt po pa pf pd (nI an2_25) 0 0 tb tl ta2_22 tk2_23 ts2_24 fb fo fa (by omega) (by omega) (by omega) (by omega) (by omega) h_31) mi_X5_readSaying wl_X5_57 rfl 0 5 rfl rfl rfl rfl rfl dX5_parse_47) (roK hro) [3, 4, 5, 0, 1] [2, 6] rfl rfl rfl rfl (fun r_46 uz hw => ?_)
      rcases hw with ⟨ta2_47, tk2_48, ts2_49, nn_50, tn2_51, fo2_52, fa2_53, rfl, rfl, h_54, h_55, h_56, h_57, h_58, h_59, h_60⟩ | ⟨ta2_61, tk2_62, ts2_63, nd2_64, tn2_65, wr2_66, pl2_67, fo2_68, fa2_69, rfl, rfl, h_70, h_71, h_72, h_73, h_74⟩
      · refine ww_eq (ws' := [(pd, .inl (E.2.1 1, 32, .inl fd)), (pf, .inl (E.2.1 1, 2, .inl af2_26)), (qs, .inr (5, [.ref qt, .ref po, .ref pa, .ref pf, .ref pd, .int (nI nn_50), .int (nI tn2_51), .int (nI an2_25), .int 0, .int 0])), (qt, .inr (10, [.ref tb, .int (nI tl), .int (nI ta2_47), .int (nI tk2_48), .int (nI ts2_49)])), (tb, .inl (E.2.1 0, 160, .inl fb)), (po, .inl (E.2.1 1, 32, .inl fo2_52)), (pa, .inl (E.2.1 1, 32, .inl fa2_53))]) ?_ rfl rfl rfl
        refine ww_if_ne_t (tgt := 55) C dX5_parse_50 (by decide) (by decide) ?_
        refine ww_aload_n C dX5_parse_55 0 rfl rfl ?_
        refine ww_get C fg_X5_12 2 rfl rfl dX5_parse_56 ?_
        refine ww_get C fg_X5_60 3 rfl rfl dX5_parse_59 ?_
        refine ww_if_eq (tgt := 73) C dX5_parse_62 (by decide) (fun c_75 => ?_) (fun c_75 => ?_)
        · have zc_75 : ((tk2_48 : Nat) : Int) = 0 := i_eq (nI_toInt (n := tk2_48) (by omega)) rfl c_75
          refine ww_aload_n C dX5_parse_73 0 rfl rfl ?_
          refine ww_cq (wr := [(qt, .inr (10, [.ref tb, .int (nI tl), .int (nI ta2_47), .int (nI tk2_48), .int (nI ts2_49)])), (tb, .inl (E.2.1 0, 160, .inl fb))]) (k' := 4) (n' := 73) C (run_V (As := []) (rest := []) C (q_made X.2.1 E ro qs qt po pa pf pd nn_50 (nI tn2_51) an2_25 0 0 fo2_52 fa2_53 af2_26 fd (by assumption) (by assumption) (by omega)) mi_X5_made wl_X5_67 rfl 0 5 rfl rfl rfl rfl rfl dX5_parse_74) (roK hro) [2, 5, 6, 1, 0] [3, 4] rfl rfl rfl rfl (fun r_76 uz hw => ?_)
          obtain ⟨sg_77, sx_78, sy_79, sz_80, dp_81, nm_82, fd2_83, so_84, sr_85, sf_86, rfl, rfl, h_87⟩ := hw
          refine ww_eq (st' := [.ref sg_77]) (ws' := [(qt, .inr (10, [.ref tb, .int (nI tl), .int (nI ta2_47), .int (nI tk2_48), .int (nI ts2_49)])), (tb, .inl (E.2.1 0, 160, .inl fb)), (qs, .inr (5, [.ref qt, .ref po, .ref pa, .ref pf, .ref pd, .int (nI nn_50), .int (nI tn2_51), .int (nI an2_25), .int 0, .int 0])), (po, .inl (E.2.1 1, 32, .inl fo2_52)), (pa, .inl (E.2.1 1, 32, .inl fa2_53)), (pf, .inl (E.2.1 1, 2, .inl af2_26)), (pd, .inl (E.2.1 1, 32, .inl fd2_83)), (sg_77, .inr (8, [.ref sx_78, .ref sy_79, .int (nI tn2_51), .int (nI an2_25), .ref sz_80, .int dp_81, .int nm_82])), (sx_78, .inl (E.2.1 1, nn_50, .inl so_84)), (sy_79, .inl (E.2.1 1, nn_50, .inl sr_85)), (sz_80, .inl (E.2.1 1, 2, .inl sf_86))]) ?_ rfl rfl rfl
          refine ww_eq (st' := [va_rf (some sg_77)]) ?_ rfl rfl rfl
          exact ww_qret (u := [(qs, .inr (5, [.ref qt, .ref po, .ref pa, .ref pf, .ref pd, .int (nI nn_50), .int (nI tn2_51), .int (nI an2_25), .int 0, .int 0])), (qt, .inr (10, [.ref tb, .int (nI tl), .int (nI ta2_47), .int (nI tk2_48), .int (nI ts2_49)])), (tb, .inl (E.2.1 0, 160, .inl fb)), (po, .inl (E.2.1 1, 32, .inl fo2_52)), (pa, .inl (E.2.1 1, 32, .inl fa2_53)), (pf, .inl (E.2.1 1, 2, .inl af2_26)), (pd, .inl (E.2.1 1, 32, .inl fd2_83)), (sg_77, .inr (8, [.ref sx_78, .ref sy_79, .int (nI tn2_51), .int (nI an2_25), .ref sz_80, .int dp_81, .int nm_82])), (sx_78, .inl (E.2.1 1, nn_50, .inl so_84)), (sy_79, .inl (E.2.1 1, nn_50, .inl sr_85)), (sz_80, .inl (E.2.1 1, 2, .inl sf_86))]) C hT (Or.inl ⟨_, rfl⟩) [2, 0, 1, 3, 4, 5, 6, 7, 8, 9, 10] rfl rfl rfl rfl dX5_parse_77 (Or.inr ⟨(nI nn_50), (nI tn2_51), (nI an2_25), 0, 0, (nI ta2_47), (nI tk2_48), (nI ts2_49), fo2_52, fa2_53, af2_26, fd2_83, sg_77, nn_50, an2_25, sx_78, sy_79, sz_80, (nI tn2_51), dp_81, nm_82, so_84, sr_85, sf_86, rfl, rfl, (by first | assumption | omega | decide), (by first | assumption | omega | decide)⟩)
        · have zc_75 : ((tk2_48 : Nat) : Int) ≠ 0 := i_ne (nI_toInt (n := tk2_48) (by omega)) rfl c_75
          refine ww_aload_n C dX5_parse_65 0 rfl rfl ?_
          refine ww_iconst (v := 2) C dX5_parse_66 rfl ?_
          refine ww_ci (wr := [(pd, .inl (E.2.1 1, 32, .inl fd)), (pf, .inl (E.2.1 1, 2, .inl af2_26)), (tb, .inl (E.2.1 0, 160, .inl fb)), (po, .inl (E.2.1 1, 32, .inl fo2_52)), (pa, .inl (E.2.1 1, 32, .inl fa2_53))]) (k' := 0) (n' := 0) C (run_V (As := [.int 2]) (rest := []) C (q_fail X.2.1 E ro qs 2 qt po pa pf pd (nI nn_50) (nI tn2_51) (nI an2_25) 0 0 tb tl (nI ta2_47) tk2_48 ts2_49 (by omega)) mi_X5_fail wl_X5_63 rfl 0 5 rfl rfl rfl rfl rfl dX5_parse_67) (roK hro) [2, 3] [0, 1, 4, 5, 6] rfl rfl rfl rfl (fun r_88 uz hw => ?_)
          obtain ⟨rfl, rfl⟩ := hw
          refine ww_eq (ws' := [(pd, .inl (E.2.1 1, 32, .inl fd)), (pf, .inl (E.2.1 1, 2, .inl af2_26)), (tb, .inl (E.2.1 0, 160, .inl fb)), (po, .inl (E.2.1 1, 32, .inl fo2_52)), (pa, .inl (E.2.1 1, 32, .inl fa2_53)), (qs, .inr (5, [.ref qt, .ref po, .ref pa, .ref pf, .ref pd, .int (nI nn_50), .int (nI tn2_51), .int (nI an2_25), .int 2, .int (nI ts2_49)])), (qt, .inr (10, [.ref tb, .int (nI tl), .int (nI ta2_47), .int (nI tk2_48), .int (nI ts2_49)]))]) ?_ rfl rfl rfl
          refine ww_pop C dX5_parse_70 rfl ?_
          refine ww_null C dX5_parse_71 ?_
          refine ww_eq (st' := [va_rf none]) ?_ rfl rfl rfl
          exact ww_qret (u := [(qs, .inr (5, [.ref qt, .ref po, .ref pa, .ref pf, .ref pd, .int (nI nn_50), .int (nI tn2_51), .int (nI an2_25), .int 2, .int (nI ts2_49)])), (qt, .inr (10, [.ref tb, .int (nI tl), .int (nI ta2_47), .int (nI tk2_48), .int (nI ts2_49)])), (tb, .inl (E.2.1 0, 160, .inl fb)), (po, .inl (E.2.1 1, 32, .inl fo2_52)), (pa, .inl (E.2.1 1, 32, .inl fa2_53)), (pf, .inl (E.2.1 1, 2, .inl af2_26)), (pd, .inl (E.2.1 1, 32, .inl fd))]) C hT (Or.inl ⟨_, rfl⟩) [5, 6, 2, 3, 4, 1, 0] rfl rfl rfl rfl dX5_parse_72 (Or.inl ⟨(nI nn_50), (nI tn2_51), (nI an2_25), 2, (nI ts2_49), (nI ta2_47), (nI tk2_48), (nI ts2_49), fo2_52, fa2_53, af2_26, fd, rfl, rfl⟩)
      · refine ww_eq (ws' := [(pd, .inl (E.2.1 1, 32, .inl fd)), (pf, .inl (E.2.1 1, 2, .inl af2_26)), (qs, .inr (5, [.ref qt, .ref po, .ref pa, .ref pf, .ref pd, .int nd2_64, .int tn2_65, .int (nI an2_25), .int wr2_66, .int pl2_67])), (qt, .inr (10, [.ref tb, .int (nI tl), .int (nI ta2_61), .int (nI tk2_62), .int (nI ts2_63)])), (tb, .inl (E.2.1 0, 160, .inl fb)), (po, .inl (E.2.1 1, 32, .inl fo2_68)), (pa, .inl (E.2.1 1, 32, .inl fa2_69))]) ?_ rfl rfl rfl
        refine ww_if_ne_f (tgt := 55) C dX5_parse_50 (by decide) (rfl) ?_
        refine ww_null C dX5_parse_53 ?_
        refine ww_eq (st' := [va_rf none]) ?_ rfl rfl rfl
        exact ww_qret (u := [(qs, .inr (5, [.ref qt, .ref po, .ref pa, .ref pf, .ref pd, .int nd2_64, .int tn2_65, .int (nI an2_25), .int wr2_66, .int pl2_67])), (qt, .inr (10, [.ref tb, .int (nI tl), .int (nI ta2_61), .int (nI tk2_62), .int (nI ts2_63)])), (tb, .inl (E.2.1 0, 160, .inl fb)), (po, .inl (E.2.1 1, 32, .inl fo2_68)), (pa, .inl (E.2.1 1, 32, .inl fa2_69)), (pf, .inl (E.2.1 1, 2, .inl af2_26)), (pd, .inl (E.2.1 1, 32, .inl fd))]) C hT (Or.inl ⟨_, rfl⟩) [2, 3, 4, 5, 6, 1, 0] rfl rfl rfl rfl dX5_parse_54 (Or.inl ⟨nd2_64, tn2_65, (nI an2_25), wr2_66, pl2_67, (nI ta2_61), (nI tk2_62), (nI ts2_63), fo2_68, fa2_69, af2_26, fd, rfl, rfl⟩)
    · refine ww_eq (ws' := [(po, .inl (E.2.1 1, 32, .inl fo)), (pa, .inl (E.2.1 1, 32, .inl fa)), (pd, .inl (E.2.1 1, 32, .inl fd)), (qs, .inr (5, [.ref qt, .ref po, .ref pa, .ref pf, .ref pd, .int 0, .int 0, .int an2_37, .int wr2_38, .int pl2_39])), (qt, .inr (10, [.ref tb, .int (nI tl), .int (nI ta2_34), .int (nI tk2_35), .int (nI ts2_36)])), (tb, .inl (E.2.1 0, 160, .inl fb)), (pf, .inl (E.2.1 1, 2, .inl af2_40))]) ?_ rfl rfl rfl
      refine ww_if_eq_t (tgt := 53) C dX5_parse_43 (by decide) (rfl) ?_
      refine ww_null C dX5_parse_53 ?_
      refine ww_eq (st' := [va_rf none]) ?_ rfl rfl rfl
      exact ww_qret (u := [(qs, .inr (5, [.ref qt, .ref po, .ref pa, .ref pf, .ref pd, .int 0, .int 0, .int an2_37, .int wr2_38, .int pl2_39])), (qt, .inr (10, [.ref tb, .int (nI tl), .int (nI ta2_34), .int (nI tk2_35), .int (nI ts2_36)])), (tb, .inl (E.2.1 0, 160, .inl fb)), (po, .inl (E.2.1 1, 32, .inl fo)), (pa, .inl (E.2.1 1, 32, .inl fa)), (pf, .inl (E.2.1 1, 2, .inl af2_40)), (pd, .inl (E.2.1 1, 32, .inl fd))]) C hT (Or.inl ⟨_, rfl⟩) [3, 4, 5, 0, 1, 6, 2] rfl rfl rfl rfl dX5_parse_54 (Or.inl ⟨0, 0, an2_37, wr2_38, pl2_39, (nI ta2_34), (nI tk2_35), (nI ts2_36), fo, fa, af2_40, fd, rfl, rfl⟩)
  · refine ww_eq (ws' := [(po, .inl (E.2.1 1, 32, .inl fo)), (pa, .inl (E.2.1 1, 32, .inl fa)), (pf, .inl (E.2.1 1, 2, .inl af)), (pd, .inl (E.2.1 1, 32, .inl fd)), (qs, .inr (5, [.ref qt, .ref po, .ref pa, .ref pf, .ref pd, .int 0, .int 0, .int 0, .int wr2_14, .int pl2_15])), (qt, .inr (10, [.ref tb, .int (nI tl), .int (nI ta2_11), .int (nI tk2_12), .int (nI ts2_13)])), (tb, .inl (E.2.1 0, 160, .inl fb))]) ?_ rfl rfl rfl
    refine ww_if_eq_t (tgt := 53) C dX5_parse_36 (by decide) (rfl) ?_
    refine ww_null C dX5_parse_53 ?_
    refine ww_eq (st' := [va_rf none]) ?_ rfl rfl rfl
    exact ww_qret (u := [(qs, .inr (5, [.ref qt, .ref po, .ref pa, .ref pf, .ref pd, .int 0, .int 0, .int 0, .int wr2_14, .int pl2_15])), (qt, .inr (10, [.ref tb, .int (nI tl), .int (nI ta2_11), .int (nI tk2_12), .int (nI ts2_13)])), (tb, .inl (E.2.1 0, 160, .inl fb)), (po, .inl (E.2.1 1, 32, .inl fo)), (pa, .inl (E.2.1 1, 32, .inl fa)), (pf, .inl (E.2.1 1, 2, .inl af)), (pd, .inl (E.2.1 1, 32, .inl fd))]) C hT (Or.inl ⟨_, rfl⟩) [4, 5, 6, 0, 1, 2, 3] rfl rfl rfl rfl dX5_parse_54 (Or.inl ⟨0, 0, 0, wr2_14, pl2_15, (nI ta2_11), (nI tk2_12), (nI ts2_13), fo, fa, af, fd, rfl, rfl⟩)
