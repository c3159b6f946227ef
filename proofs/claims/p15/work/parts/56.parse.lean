theorem dX5_parse_0 : decode cX5_parse 0 = .ok (.aload_n 0, 1) := by decide +kernel
theorem dX5_parse_1 : decode cX5_parse 1 = .ok (.iconst 0, 1) := by decide +kernel
theorem dX5_parse_2 : decode cX5_parse 2 = .ok (.putfield 31, 3) := by decide +kernel
theorem dX5_parse_5 : decode cX5_parse 5 = .ok (.aload_n 0, 1) := by decide +kernel
theorem dX5_parse_6 : decode cX5_parse 6 = .ok (.iconst 0, 1) := by decide +kernel
theorem dX5_parse_7 : decode cX5_parse 7 = .ok (.putfield 35, 3) := by decide +kernel
theorem dX5_parse_10 : decode cX5_parse 10 = .ok (.aload_n 0, 1) := by decide +kernel
theorem dX5_parse_11 : decode cX5_parse 11 = .ok (.iconst 0, 1) := by decide +kernel
theorem dX5_parse_12 : decode cX5_parse 12 = .ok (.putfield 38, 3) := by decide +kernel
theorem dX5_parse_15 : decode cX5_parse 15 = .ok (.aload_n 0, 1) := by decide +kernel
theorem dX5_parse_16 : decode cX5_parse 16 = .ok (.iconst 0, 1) := by decide +kernel
theorem dX5_parse_17 : decode cX5_parse 17 = .ok (.putfield 41, 3) := by decide +kernel
theorem dX5_parse_20 : decode cX5_parse 20 = .ok (.aload_n 0, 1) := by decide +kernel
theorem dX5_parse_21 : decode cX5_parse 21 = .ok (.iconst 0, 1) := by decide +kernel
theorem dX5_parse_22 : decode cX5_parse 22 = .ok (.putfield 44, 3) := by decide +kernel
theorem dX5_parse_25 : decode cX5_parse 25 = .ok (.aload_n 0, 1) := by decide +kernel
theorem dX5_parse_26 : decode cX5_parse 26 = .ok (.getfield 12, 3) := by decide +kernel
theorem dX5_parse_29 : decode cX5_parse 29 = .ok (.invokevirtual 47, 3) := by decide +kernel
theorem wl_X5_47 : Cond.methodLink RX5 47 yX10_rewind ∈ TB := tbm (tq3 (List.mem_of_getElem? (i := 10) (by decide +kernel))) (by decide +kernel)
theorem wc_X10_rewind : Cond.code yX10_rewind cX10_rewind 1 none ∈ TB := tbm (tq3 (List.mem_of_getElem? (i := 13) (rfl))) (by decide +kernel)
theorem wi_X10_rewind : Cond.instanceMethod yX10_rewind ∈ TB := tbm (tq3 (List.mem_of_getElem? (i := 11) (by decide +kernel))) (by decide +kernel)
theorem ws_X10_rewind : Cond.selects RX10 yX10_rewind yX10_rewind ∈ TB := tbm (tq3 (List.mem_of_getElem? (i := 12) (by decide +kernel))) (by decide +kernel)
theorem mi_X10_rewind : MI yX10_rewind cX10_rewind 1 none 0 := ⟨wc_X10_rewind, wn_X10, ⟨by decide +kernel, by decide +kernel, by decide +kernel⟩, wi_X10_rewind, ws_X10_rewind⟩
theorem dX5_parse_32 : decode cX5_parse 32 = .ok (.aload_n 0, 1) := by decide +kernel
theorem dX5_parse_33 : decode cX5_parse 33 = .ok (.invokevirtual 50, 3) := by decide +kernel
theorem dX5_parse_36 : decode cX5_parse 36 = .ok (.ifCond .eq 17, 3) := by decide +kernel
theorem dX5_parse_39 : decode cX5_parse 39 = .ok (.aload_n 0, 1) := by decide +kernel
theorem dX5_parse_40 : decode cX5_parse 40 = .ok (.invokevirtual 54, 3) := by decide +kernel
theorem wl_X5_54 : Cond.methodLink RX5 54 yX5_readAfters ∈ TB := tbm (tq3 (List.mem_of_getElem? (i := 33) (by decide +kernel))) (by decide +kernel)
theorem wc_X5_readAfters : Cond.code yX5_readAfters cX5_readAfters 2 (some .boolean) ∈ TB := tbm (tq3 (List.mem_of_getElem? (i := 36) (rfl))) (by decide +kernel)
theorem wi_X5_readAfters : Cond.instanceMethod yX5_readAfters ∈ TB := tbm (tq3 (List.mem_of_getElem? (i := 35) (by decide +kernel))) (by decide +kernel)
theorem ws_X5_readAfters : Cond.selects RX5 yX5_readAfters yX5_readAfters ∈ TB := tbm (tq0 (List.mem_of_getElem? (i := 6) (by decide +kernel))) (by decide +kernel)
theorem mi_X5_readAfters : MI yX5_readAfters cX5_readAfters 2 (some .boolean) 0 := ⟨wc_X5_readAfters, wn_X5, ⟨by decide +kernel, by decide +kernel, by decide +kernel⟩, wi_X5_readAfters, ws_X5_readAfters⟩
theorem dX5_parse_43 : decode cX5_parse 43 = .ok (.ifCond .eq 10, 3) := by decide +kernel
theorem dX5_parse_46 : decode cX5_parse 46 = .ok (.aload_n 0, 1) := by decide +kernel
theorem dX5_parse_47 : decode cX5_parse 47 = .ok (.invokevirtual 57, 3) := by decide +kernel
theorem wl_X5_57 : Cond.methodLink RX5 57 yX5_readSaying ∈ TB := tbm (tq3 (List.mem_of_getElem? (i := 98) (by decide +kernel))) (by decide +kernel)
theorem wc_X5_readSaying : Cond.code yX5_readSaying cX5_readSaying 6 (some .boolean) ∈ TB := tbm (tq3 (List.mem_of_getElem? (i := 101) (rfl))) (by decide +kernel)
theorem wi_X5_readSaying : Cond.instanceMethod yX5_readSaying ∈ TB := tbm (tq3 (List.mem_of_getElem? (i := 100) (by decide +kernel))) (by decide +kernel)
theorem ws_X5_readSaying : Cond.selects RX5 yX5_readSaying yX5_readSaying ∈ TB := tbm (tq0 (List.mem_of_getElem? (i := 8) (by decide +kernel))) (by decide +kernel)
theorem mi_X5_readSaying : MI yX5_readSaying cX5_readSaying 6 (some .boolean) 0 := ⟨wc_X5_readSaying, wn_X5, ⟨by decide +kernel, by decide +kernel, by decide +kernel⟩, wi_X5_readSaying, ws_X5_readSaying⟩
theorem dX5_parse_50 : decode cX5_parse 50 = .ok (.ifCond .ne 5, 3) := by decide +kernel
theorem dX5_parse_55 : decode cX5_parse 55 = .ok (.aload_n 0, 1) := by decide +kernel
theorem dX5_parse_56 : decode cX5_parse 56 = .ok (.getfield 12, 3) := by decide +kernel
theorem dX5_parse_59 : decode cX5_parse 59 = .ok (.getfield 60, 3) := by decide +kernel
theorem dX5_parse_62 : decode cX5_parse 62 = .ok (.ifCond .eq 11, 3) := by decide +kernel
theorem dX5_parse_73 : decode cX5_parse 73 = .ok (.aload_n 0, 1) := by decide +kernel
theorem dX5_parse_74 : decode cX5_parse 74 = .ok (.invokevirtual 67, 3) := by decide +kernel
theorem wl_X5_67 : Cond.methodLink RX5 67 yX5_made ∈ TB := tbm (tq3 (List.mem_of_getElem? (i := 144) (by decide +kernel))) (by decide +kernel)
theorem wc_X5_made : Cond.code yX5_made cX5_made 3 (some (.object "WhoKnows$Saying")) ∈ TB := tbm (tq3 (List.mem_of_getElem? (i := 147) (rfl))) (by decide +kernel)
theorem wi_X5_made : Cond.instanceMethod yX5_made ∈ TB := tbm (tq3 (List.mem_of_getElem? (i := 146) (by decide +kernel))) (by decide +kernel)
theorem ws_X5_made : Cond.selects RX5 yX5_made yX5_made ∈ TB := tbm (tq0 (List.mem_of_getElem? (i := 14) (by decide +kernel))) (by decide +kernel)
theorem mi_X5_made : MI yX5_made cX5_made 3 (some (.object "WhoKnows$Saying")) 0 := ⟨wc_X5_made, wn_X5, ⟨by decide +kernel, by decide +kernel, by decide +kernel⟩, wi_X5_made, ws_X5_made⟩
theorem dX5_parse_77 : decode cX5_parse 77 = .ok (.areturn, 1) := by decide +kernel
theorem dX5_parse_65 : decode cX5_parse 65 = .ok (.aload_n 0, 1) := by decide +kernel
theorem dX5_parse_66 : decode cX5_parse 66 = .ok (.iconst 2, 1) := by decide +kernel
theorem dX5_parse_67 : decode cX5_parse 67 = .ok (.invokevirtual 63, 3) := by decide +kernel
theorem dX5_parse_70 : decode cX5_parse 70 = .ok (.pop, 1) := by decide +kernel
theorem dX5_parse_71 : decode cX5_parse 71 = .ok (.aconst_null, 1) := by decide +kernel
theorem dX5_parse_72 : decode cX5_parse 72 = .ok (.areturn, 1) := by decide +kernel
theorem dX5_parse_53 : decode cX5_parse 53 = .ok (.aconst_null, 1) := by decide +kernel
theorem dX5_parse_54 : decode cX5_parse 54 = .ok (.areturn, 1) := by decide +kernel
set_option maxRecDepth 100000 in
set_option maxHeartbeats 4000000 in
theorem q_parse (l : Launch) (E : EV) (ro : va_W) (qs : Nat) (qt : Nat) (po : Nat) (pa : Nat) (pf : Nat) (pd : Nat) (nd : Int32) (tn : Int32) (an : Int32) (wr : Int32) (pl : Int32) (tb : Nat) (tl : Nat) (ta : Int32) (tk : Int32) (ts : Int32) (fb : Nat → Int32) (fo : Nat → Int32) (fa : Nat → Int32) (af : Nat → Int32) (fd : Nat → Int32) (htl : tl ≤ 160) : CT l yX5_parse (Cond.code yX5_parse cX5_parse 1 (some (.object "WhoKnows$Saying")) :: TB) ({ frames := 8, cells := 4, slots := 73, locals := 172 }) E ro [.ref qs] [(qs, .inr (5, [.ref qt, .ref po, .ref pa, .ref pf, .ref pd, .int nd, .int tn, .int an, .int wr, .int pl])), (qt, .inr (10, [.ref tb, .int (nI tl), .int ta, .int tk, .int ts])), (tb, .inl (E.2.1 0, 160, .inl fb)), (po, .inl (E.2.1 1, 32, .inl fo)), (pa, .inl (E.2.1 1, 32, .inl fa)), (pf, .inl (E.2.1 1, 2, .inl af)), (pd, .inl (E.2.1 1, 32, .inl fd))] (Qq E (fun (rz : Option Nat) uz => (∃ (ndz : Int32) (tnz : Int32) (anz : Int32) (wrz : Int32) (plz : Int32) (taz : Int32) (tkz : Int32) (tsz : Int32) (foz : Nat → Int32) (faz : Nat → Int32) (afz : Nat → Int32) (fdz : Nat → Int32), rz = none ∧ uz = [(qs, .inr (5, [.ref qt, .ref po, .ref pa, .ref pf, .ref pd, .int ndz, .int tnz, .int anz, .int wrz, .int plz])), (qt, .inr (10, [.ref tb, .int (nI tl), .int taz, .int tkz, .int tsz])), (tb, .inl (E.2.1 0, 160, .inl fb)), (po, .inl (E.2.1 1, 32, .inl foz)), (pa, .inl (E.2.1 1, 32, .inl faz)), (pf, .inl (E.2.1 1, 2, .inl afz)), (pd, .inl (E.2.1 1, 32, .inl fdz))]) ∨ (∃ (ndz : Int32) (tnz : Int32) (anz : Int32) (wrz : Int32) (plz : Int32) (taz : Int32) (tkz : Int32) (tsz : Int32) (foz : Nat → Int32) (faz : Nat → Int32) (afz : Nat → Int32) (fdz : Nat → Int32) (sg : Nat) (nn : Nat) (na : Nat) (sx : Nat) (sy : Nat) (sz : Nat) (tk : Int32) (dp : Int32) (nm : Int32) (so : Nat → Int32) (sr : Nat → Int32) (sf : Nat → Int32), rz = some sg ∧ uz = [(qs, .inr (5, [.ref qt, .ref po, .ref pa, .ref pf, .ref pd, .int ndz, .int tnz, .int anz, .int wrz, .int plz])), (qt, .inr (10, [.ref tb, .int (nI tl), .int taz, .int tkz, .int tsz])), (tb, .inl (E.2.1 0, 160, .inl fb)), (po, .inl (E.2.1 1, 32, .inl foz)), (pa, .inl (E.2.1 1, 32, .inl faz)), (pf, .inl (E.2.1 1, 2, .inl afz)), (pd, .inl (E.2.1 1, 32, .inl fdz)), (sg, .inr (8, [.ref sx, .ref sy, .int tk, .int (nI na), .ref sz, .int dp, .int nm])), (sx, .inl (E.2.1 1, nn, .inl so)), (sy, .inl (E.2.1 1, nn, .inl sr)), (sz, .inl (E.2.1 1, 2, .inl sf))] ∧ (WFs nn so ∧ AFI na sf) ∧ (na ≤ 2)))) 4 73 := by
  refine ct_of rfl rfl ?_
  intro X C hT hin hro
  show WW X 1 E 0 [(0, .ref qs)] [] [(qs, .inr (5, [.ref qt, .ref po, .ref pa, .ref pf, .ref pd, .int nd, .int tn, .int an, .int wr, .int pl])), (qt, .inr (10, [.ref tb, .int (nI tl), .int ta, .int tk, .int ts])), (tb, .inl (E.2.1 0, 160, .inl fb)), (po, .inl (E.2.1 1, 32, .inl fo)), (pa, .inl (E.2.1 1, 32, .inl fa)), (pf, .inl (E.2.1 1, 2, .inl af)), (pd, .inl (E.2.1 1, 32, .inl fd))] 0 0
  refine ww_aload_n C dX5_parse_0 0 rfl rfl ?_
  refine ww_iconst (v := 0) C dX5_parse_1 rfl ?_
  refine ww_put (ws' := [(qs, .inr (5, [.ref qt, .ref po, .ref pa, .ref pf, .ref pd, .int 0, .int tn, .int an, .int wr, .int pl])), (qt, .inr (10, [.ref tb, .int (nI tl), .int ta, .int tk, .int ts])), (tb, .inl (E.2.1 0, 160, .inl fb)), (po, .inl (E.2.1 1, 32, .inl fo)), (pa, .inl (E.2.1 1, 32, .inl fa)), (pf, .inl (E.2.1 1, 2, .inl af)), (pd, .inl (E.2.1 1, 32, .inl fd))]) C fp_X5_31 0 rfl rfl rfl rfl rfl dX5_parse_2 ?_
  refine ww_aload_n C dX5_parse_5 0 rfl rfl ?_
  refine ww_iconst (v := 0) C dX5_parse_6 rfl ?_
  refine ww_put (ws' := [(qs, .inr (5, [.ref qt, .ref po, .ref pa, .ref pf, .ref pd, .int 0, .int 0, .int an, .int wr, .int pl])), (qt, .inr (10, [.ref tb, .int (nI tl), .int ta, .int tk, .int ts])), (tb, .inl (E.2.1 0, 160, .inl fb)), (po, .inl (E.2.1 1, 32, .inl fo)), (pa, .inl (E.2.1 1, 32, .inl fa)), (pf, .inl (E.2.1 1, 2, .inl af)), (pd, .inl (E.2.1 1, 32, .inl fd))]) C fp_X5_35 0 rfl rfl rfl rfl rfl dX5_parse_7 ?_
  refine ww_aload_n C dX5_parse_10 0 rfl rfl ?_
  refine ww_iconst (v := 0) C dX5_parse_11 rfl ?_
  refine ww_put (ws' := [(qs, .inr (5, [.ref qt, .ref po, .ref pa, .ref pf, .ref pd, .int 0, .int 0, .int 0, .int wr, .int pl])), (qt, .inr (10, [.ref tb, .int (nI tl), .int ta, .int tk, .int ts])), (tb, .inl (E.2.1 0, 160, .inl fb)), (po, .inl (E.2.1 1, 32, .inl fo)), (pa, .inl (E.2.1 1, 32, .inl fa)), (pf, .inl (E.2.1 1, 2, .inl af)), (pd, .inl (E.2.1 1, 32, .inl fd))]) C fp_X5_38 0 rfl rfl rfl rfl rfl dX5_parse_12 ?_
  refine ww_aload_n C dX5_parse_15 0 rfl rfl ?_
  refine ww_iconst (v := 0) C dX5_parse_16 rfl ?_
  refine ww_put (ws' := [(qs, .inr (5, [.ref qt, .ref po, .ref pa, .ref pf, .ref pd, .int 0, .int 0, .int 0, .int 0, .int pl])), (qt, .inr (10, [.ref tb, .int (nI tl), .int ta, .int tk, .int ts])), (tb, .inl (E.2.1 0, 160, .inl fb)), (po, .inl (E.2.1 1, 32, .inl fo)), (pa, .inl (E.2.1 1, 32, .inl fa)), (pf, .inl (E.2.1 1, 2, .inl af)), (pd, .inl (E.2.1 1, 32, .inl fd))]) C fp_X5_41 0 rfl rfl rfl rfl rfl dX5_parse_17 ?_
  refine ww_aload_n C dX5_parse_20 0 rfl rfl ?_
  refine ww_iconst (v := 0) C dX5_parse_21 rfl ?_
  refine ww_put (ws' := [(qs, .inr (5, [.ref qt, .ref po, .ref pa, .ref pf, .ref pd, .int 0, .int 0, .int 0, .int 0, .int 0])), (qt, .inr (10, [.ref tb, .int (nI tl), .int ta, .int tk, .int ts])), (tb, .inl (E.2.1 0, 160, .inl fb)), (po, .inl (E.2.1 1, 32, .inl fo)), (pa, .inl (E.2.1 1, 32, .inl fa)), (pf, .inl (E.2.1 1, 2, .inl af)), (pd, .inl (E.2.1 1, 32, .inl fd))]) C fp_X5_44 0 rfl rfl rfl rfl rfl dX5_parse_22 ?_
  refine ww_aload_n C dX5_parse_25 0 rfl rfl ?_
  refine ww_get C fg_X5_12 0 rfl rfl dX5_parse_26 ?_
  refine ww_cv (wr := [(qs, .inr (5, [.ref qt, .ref po, .ref pa, .ref pf, .ref pd, .int 0, .int 0, .int 0, .int 0, .int 0])), (tb, .inl (E.2.1 0, 160, .inl fb)), (po, .inl (E.2.1 1, 32, .inl fo)), (pa, .inl (E.2.1 1, 32, .inl fa)), (pf, .inl (E.2.1 1, 2, .inl af)), (pd, .inl (E.2.1 1, 32, .inl fd))]) (k' := 0) (n' := 0) C (run_V (As := []) (rest := []) C (t_rewind X.2.1 E ro qt tb tl ta tk ts) mi_X10_rewind wl_X5_47 rfl 0 10 rfl rfl rfl rfl rfl dX5_parse_29) (roK hro) [1] [0, 2, 3, 4, 5, 6] rfl rfl rfl rfl (fun uz hw => ?_)
  have he_2 := hw
  clear hw
  subst he_2
  refine ww_eq (ws' := [(qs, .inr (5, [.ref qt, .ref po, .ref pa, .ref pf, .ref pd, .int 0, .int 0, .int 0, .int 0, .int 0])), (tb, .inl (E.2.1 0, 160, .inl fb)), (po, .inl (E.2.1 1, 32, .inl fo)), (pa, .inl (E.2.1 1, 32, .inl fa)), (pf, .inl (E.2.1 1, 2, .inl af)), (pd, .inl (E.2.1 1, 32, .inl fd)), (qt, .inr (10, [.ref tb, .int (nI tl), .int 0, .int tk, .int ts]))]) ?_ rfl rfl rfl
  refine ww_aload_n C dX5_parse_32 0 rfl rfl ?_
  refine ww_ci (wr := [(po, .inl (E.2.1 1, 32, .inl fo)), (pa, .inl (E.2.1 1, 32, .inl fa)), (pf, .inl (E.2.1 1, 2, .inl af)), (pd, .inl (E.2.1 1, 32, .inl fd))]) (k' := 0) (n' := 0) C (run_V (As := []) (rest := []) C (q_next X.2.1 E ro qs qt po pa pf pd 0 0 0 0 0 tb tl 0 tk ts fb (by omega) (by omega)) mi_X5_next wl_X5_50 rfl 0 5 rfl rfl rfl rfl rfl dX5_parse_33) (roK hro) [0, 6, 1] [2, 3, 4, 5] rfl rfl rfl rfl (fun r_3 uz hw => ?_)
  rcases hw with hw | hw
  · refine ex3 hw ?_
    clear hw
    intro ta2_4 tk2_5 ts2_6 hw
    refine an6 hw ?_
    clear hw
    intro he_12 he_13 h_7 h_8 h_9 h_10 hw
    have h_11 := hw
    clear hw
    have he_12 := he_12.symm
    subst he_12
    subst he_13
    refine ww_eq (ws' := [(po, .inl (E.2.1 1, 32, .inl fo)), (pa, .inl (E.2.1 1, 32, .inl fa)), (pf, .inl (E.2.1 1, 2, .inl af)), (pd, .inl (E.2.1 1, 32, .inl fd)), (qs, .inr (5, [.ref qt, .ref po, .ref pa, .ref pf, .ref pd, .int 0, .int 0, .int 0, .int 0, .int 0])), (qt, .inr (10, [.ref tb, .int (nI tl), .int (nI ta2_4), .int (nI tk2_5), .int (nI ts2_6)])), (tb, .inl (E.2.1 0, 160, .inl fb))]) ?_ rfl rfl rfl
    refine ww_if_eq_f (tgt := 53) C dX5_parse_36 (by decide) (by decide) ?_
    refine ww_aload_n C dX5_parse_39 0 rfl rfl ?_
    refine ww_ci (wr := [(po, .inl (E.2.1 1, 32, .inl fo)), (pa, .inl (E.2.1 1, 32, .inl fa)), (pd, .inl (E.2.1 1, 32, .inl fd))]) (k' := 0) (n' := 0) C (run_V (As := []) (rest := []) C (q_readAfters X.2.1 E ro qs qt po pa pf pd 0 0 0 0 tb tl ta2_4 tk2_5 ts2_6 fb af (by omega) (by omega) (by omega) (by omega) (by omega) h_11) mi_X5_readAfters wl_X5_54 rfl 0 5 rfl rfl rfl rfl rfl dX5_parse_40) (roK hro) [4, 5, 6, 2] [0, 1, 3] rfl rfl rfl rfl (fun r_26 uz hw => ?_)
    rcases hw with hw | hw
    · refine ex5 hw ?_
      clear hw
      intro ta2_27 tk2_28 ts2_29 an2_30 af2_31 hw
      refine an8 hw ?_
      clear hw
      intro he_39 he_40 h_32 h_33 h_34 h_35 h_36 h_37 hw
      have h_38 := hw
      clear hw
      have he_39 := he_39.symm
      subst he_39
      subst he_40
      refine ww_eq (ws' := [(po, .inl (E.2.1 1, 32, .inl fo)), (pa, .inl (E.2.1 1, 32, .inl fa)), (pd, .inl (E.2.1 1, 32, .inl fd)), (qs, .inr (5, [.ref qt, .ref po, .ref pa, .ref pf, .ref pd, .int 0, .int 0, .int (nI an2_30), .int 0, .int 0])), (qt, .inr (10, [.ref tb, .int (nI tl), .int (nI ta2_27), .int (nI tk2_28), .int (nI ts2_29)])), (tb, .inl (E.2.1 0, 160, .inl fb)), (pf, .inl (E.2.1 1, 2, .inl af2_31))]) ?_ rfl rfl rfl
      refine ww_if_eq_f (tgt := 53) C dX5_parse_43 (by decide) (by decide) ?_
      refine ww_aload_n C dX5_parse_46 0 rfl rfl ?_
      refine ww_ci (wr := [(pd, .inl (E.2.1 1, 32, .inl fd)), (pf, .inl (E.2.1 1, 2, .inl af2_31))]) (k' := 0) (n' := 0) C (run_V (As := []) (rest := []) C (q_readSaying X.2.1 E ro qs qt po pa pf pd (nI an2_30) 0 0 tb tl ta2_27 tk2_28 ts2_29 fb fo fa (by omega) (by omega) (by omega) (by omega) (by omega) h_36) mi_X5_readSaying wl_X5_57 rfl 0 5 rfl rfl rfl rfl rfl dX5_parse_47) (roK hro) [3, 4, 5, 0, 1] [2, 6] rfl rfl rfl rfl (fun r_55 uz hw => ?_)
      rcases hw with hw | hw
      · refine ex7 hw ?_
        clear hw
        intro ta2_56 tk2_57 ts2_58 nn_59 tn2_60 fo2_61 fa2_62 hw
        refine an8 hw ?_
        clear hw
        intro he_70 he_71 h_63 h_64 h_65 h_66 h_67 h_68 hw
        have h_69 := hw
        clear hw
        have he_70 := he_70.symm
        subst he_70
        subst he_71
        refine ww_eq (ws' := [(pd, .inl (E.2.1 1, 32, .inl fd)), (pf, .inl (E.2.1 1, 2, .inl af2_31)), (qs, .inr (5, [.ref qt, .ref po, .ref pa, .ref pf, .ref pd, .int (nI nn_59), .int (nI tn2_60), .int (nI an2_30), .int 0, .int 0])), (qt, .inr (10, [.ref tb, .int (nI tl), .int (nI ta2_56), .int (nI tk2_57), .int (nI ts2_58)])), (tb, .inl (E.2.1 0, 160, .inl fb)), (po, .inl (E.2.1 1, 32, .inl fo2_61)), (pa, .inl (E.2.1 1, 32, .inl fa2_62))]) ?_ rfl rfl rfl
        refine ww_if_ne_t (tgt := 55) C dX5_parse_50 (by decide) (by decide) ?_
        refine ww_aload_n C dX5_parse_55 0 rfl rfl ?_
        refine ww_get C fg_X5_12 2 rfl rfl dX5_parse_56 ?_
        refine ww_get C fg_X5_60 3 rfl rfl dX5_parse_59 ?_
        refine ww_if_eq (tgt := 73) C dX5_parse_62 (by decide) (fun c_88 => ?_) (fun c_88 => ?_)
        · have zc_88 : ((tk2_57 : Nat) : Int) = 0 := i_eq (nI_toInt (n := tk2_57) (by omega)) rfl c_88
          refine ww_aload_n C dX5_parse_73 0 rfl rfl ?_
          refine ww_cq (wr := [(qt, .inr (10, [.ref tb, .int (nI tl), .int (nI ta2_56), .int (nI tk2_57), .int (nI ts2_58)])), (tb, .inl (E.2.1 0, 160, .inl fb))]) (k' := 4) (n' := 73) C (run_V (As := []) (rest := []) C (q_made X.2.1 E ro qs qt po pa pf pd nn_59 (nI tn2_60) an2_30 0 0 fo2_61 fa2_62 af2_31 fd (by assumption) (by assumption) (by omega)) mi_X5_made wl_X5_67 rfl 0 5 rfl rfl rfl rfl rfl dX5_parse_74) (roK hro) [2, 5, 6, 1, 0] [3, 4] rfl rfl rfl rfl (fun r_89 uz hw => ?_)
          refine ex8 hw ?_
          clear hw
          intro sg_90 sx_91 sy_92 sz_93 dp_94 nm_95 fd2_96 so_97 hw
          refine ex2 hw ?_
          clear hw
          intro sr_98 sf_99 hw
          refine an2 hw ?_
          clear hw
          intro he_101 he_102 hw
          have h_100 := hw
          clear hw
          have he_101 := he_101.symm
          subst he_101
          subst he_102
          refine ww_eq (st' := [.ref sg_90]) (ws' := [(qt, .inr (10, [.ref tb, .int (nI tl), .int (nI ta2_56), .int (nI tk2_57), .int (nI ts2_58)])), (tb, .inl (E.2.1 0, 160, .inl fb)), (qs, .inr (5, [.ref qt, .ref po, .ref pa, .ref pf, .ref pd, .int (nI nn_59), .int (nI tn2_60), .int (nI an2_30), .int 0, .int 0])), (po, .inl (E.2.1 1, 32, .inl fo2_61)), (pa, .inl (E.2.1 1, 32, .inl fa2_62)), (pf, .inl (E.2.1 1, 2, .inl af2_31)), (pd, .inl (E.2.1 1, 32, .inl fd2_96)), (sg_90, .inr (8, [.ref sx_91, .ref sy_92, .int (nI tn2_60), .int (nI an2_30), .ref sz_93, .int dp_94, .int nm_95])), (sx_91, .inl (E.2.1 1, nn_59, .inl so_97)), (sy_92, .inl (E.2.1 1, nn_59, .inl sr_98)), (sz_93, .inl (E.2.1 1, 2, .inl sf_99))]) ?_ rfl rfl rfl
          refine ww_eq (st' := [va_rf (some sg_90)]) ?_ rfl rfl rfl
          exact ww_qret (u := [(qs, .inr (5, [.ref qt, .ref po, .ref pa, .ref pf, .ref pd, .int (nI nn_59), .int (nI tn2_60), .int (nI an2_30), .int 0, .int 0])), (qt, .inr (10, [.ref tb, .int (nI tl), .int (nI ta2_56), .int (nI tk2_57), .int (nI ts2_58)])), (tb, .inl (E.2.1 0, 160, .inl fb)), (po, .inl (E.2.1 1, 32, .inl fo2_61)), (pa, .inl (E.2.1 1, 32, .inl fa2_62)), (pf, .inl (E.2.1 1, 2, .inl af2_31)), (pd, .inl (E.2.1 1, 32, .inl fd2_96)), (sg_90, .inr (8, [.ref sx_91, .ref sy_92, .int (nI tn2_60), .int (nI an2_30), .ref sz_93, .int dp_94, .int nm_95])), (sx_91, .inl (E.2.1 1, nn_59, .inl so_97)), (sy_92, .inl (E.2.1 1, nn_59, .inl sr_98)), (sz_93, .inl (E.2.1 1, 2, .inl sf_99))]) C hT (Or.inl ⟨_, rfl⟩) [2, 0, 1, 3, 4, 5, 6, 7, 8, 9, 10] rfl rfl rfl rfl dX5_parse_77 (Or.inr ⟨(nI nn_59), (nI tn2_60), (nI an2_30), 0, 0, (nI ta2_56), (nI tk2_57), (nI ts2_58), fo2_61, fa2_62, af2_31, fd2_96, sg_90, nn_59, an2_30, sx_91, sy_92, sz_93, (nI tn2_60), dp_94, nm_95, so_97, sr_98, sf_99, rfl, rfl, (by first | assumption | omega | decide), (by first | assumption | omega | decide)⟩)
        · have zc_88 : ((tk2_57 : Nat) : Int) ≠ 0 := i_ne (nI_toInt (n := tk2_57) (by omega)) rfl c_88
          refine ww_aload_n C dX5_parse_65 0 rfl rfl ?_
          refine ww_iconst (v := 2) C dX5_parse_66 rfl ?_
          refine ww_ci (wr := [(pd, .inl (E.2.1 1, 32, .inl fd)), (pf, .inl (E.2.1 1, 2, .inl af2_31)), (tb, .inl (E.2.1 0, 160, .inl fb)), (po, .inl (E.2.1 1, 32, .inl fo2_61)), (pa, .inl (E.2.1 1, 32, .inl fa2_62))]) (k' := 0) (n' := 0) C (run_V (As := [.int 2]) (rest := []) C (q_fail X.2.1 E ro qs 2 qt po pa pf pd (nI nn_59) (nI tn2_60) (nI an2_30) 0 0 tb tl (nI ta2_56) tk2_57 ts2_58 (by omega)) mi_X5_fail wl_X5_63 rfl 0 5 rfl rfl rfl rfl rfl dX5_parse_67) (roK hro) [2, 3] [0, 1, 4, 5, 6] rfl rfl rfl rfl (fun r_103 uz hw => ?_)
          refine an1 hw ?_
          clear hw
          intro he_104 hw
          have he_105 := hw
          clear hw
          have he_104 := he_104.symm
          subst he_104
          subst he_105
          refine ww_eq (ws' := [(pd, .inl (E.2.1 1, 32, .inl fd)), (pf, .inl (E.2.1 1, 2, .inl af2_31)), (tb, .inl (E.2.1 0, 160, .inl fb)), (po, .inl (E.2.1 1, 32, .inl fo2_61)), (pa, .inl (E.2.1 1, 32, .inl fa2_62)), (qs, .inr (5, [.ref qt, .ref po, .ref pa, .ref pf, .ref pd, .int (nI nn_59), .int (nI tn2_60), .int (nI an2_30), .int 2, .int (nI ts2_58)])), (qt, .inr (10, [.ref tb, .int (nI tl), .int (nI ta2_56), .int (nI tk2_57), .int (nI ts2_58)]))]) ?_ rfl rfl rfl
          refine ww_pop C dX5_parse_70 rfl ?_
          refine ww_null C dX5_parse_71 ?_
          refine ww_eq (st' := [va_rf none]) ?_ rfl rfl rfl
          exact ww_qret (u := [(qs, .inr (5, [.ref qt, .ref po, .ref pa, .ref pf, .ref pd, .int (nI nn_59), .int (nI tn2_60), .int (nI an2_30), .int 2, .int (nI ts2_58)])), (qt, .inr (10, [.ref tb, .int (nI tl), .int (nI ta2_56), .int (nI tk2_57), .int (nI ts2_58)])), (tb, .inl (E.2.1 0, 160, .inl fb)), (po, .inl (E.2.1 1, 32, .inl fo2_61)), (pa, .inl (E.2.1 1, 32, .inl fa2_62)), (pf, .inl (E.2.1 1, 2, .inl af2_31)), (pd, .inl (E.2.1 1, 32, .inl fd))]) C hT (Or.inl ⟨_, rfl⟩) [5, 6, 2, 3, 4, 1, 0] rfl rfl rfl rfl dX5_parse_72 (Or.inl ⟨(nI nn_59), (nI tn2_60), (nI an2_30), 2, (nI ts2_58), (nI ta2_56), (nI tk2_57), (nI ts2_58), fo2_61, fa2_62, af2_31, fd, rfl, rfl⟩)
      · refine ex8 hw ?_
        clear hw
        intro ta2_72 tk2_73 ts2_74 nd2_75 tn2_76 wr2_77 pl2_78 fo2_79 hw
        refine ex1 hw ?_
        clear hw
        intro fa2_80 hw
        refine an6 hw ?_
        clear hw
        intro he_86 he_87 h_81 h_82 h_83 h_84 hw
        have h_85 := hw
        clear hw
        have he_86 := he_86.symm
        subst he_86
        subst he_87
        refine ww_eq (ws' := [(pd, .inl (E.2.1 1, 32, .inl fd)), (pf, .inl (E.2.1 1, 2, .inl af2_31)), (qs, .inr (5, [.ref qt, .ref po, .ref pa, .ref pf, .ref pd, .int nd2_75, .int tn2_76, .int (nI an2_30), .int wr2_77, .int pl2_78])), (qt, .inr (10, [.ref tb, .int (nI tl), .int (nI ta2_72), .int (nI tk2_73), .int (nI ts2_74)])), (tb, .inl (E.2.1 0, 160, .inl fb)), (po, .inl (E.2.1 1, 32, .inl fo2_79)), (pa, .inl (E.2.1 1, 32, .inl fa2_80))]) ?_ rfl rfl rfl
        refine ww_if_ne_f (tgt := 55) C dX5_parse_50 (by decide) (rfl) ?_
        refine ww_null C dX5_parse_53 ?_
        refine ww_eq (st' := [va_rf none]) ?_ rfl rfl rfl
        exact ww_qret (u := [(qs, .inr (5, [.ref qt, .ref po, .ref pa, .ref pf, .ref pd, .int nd2_75, .int tn2_76, .int (nI an2_30), .int wr2_77, .int pl2_78])), (qt, .inr (10, [.ref tb, .int (nI tl), .int (nI ta2_72), .int (nI tk2_73), .int (nI ts2_74)])), (tb, .inl (E.2.1 0, 160, .inl fb)), (po, .inl (E.2.1 1, 32, .inl fo2_79)), (pa, .inl (E.2.1 1, 32, .inl fa2_80)), (pf, .inl (E.2.1 1, 2, .inl af2_31)), (pd, .inl (E.2.1 1, 32, .inl fd))]) C hT (Or.inl ⟨_, rfl⟩) [2, 3, 4, 5, 6, 1, 0] rfl rfl rfl rfl dX5_parse_54 (Or.inl ⟨nd2_75, tn2_76, (nI an2_30), wr2_77, pl2_78, (nI ta2_72), (nI tk2_73), (nI ts2_74), fo2_79, fa2_80, af2_31, fd, rfl, rfl⟩)
    · refine ex7 hw ?_
      clear hw
      intro ta2_41 tk2_42 ts2_43 an2_44 wr2_45 pl2_46 af2_47 hw
      refine an6 hw ?_
      clear hw
      intro he_53 he_54 h_48 h_49 h_50 h_51 hw
      have h_52 := hw
      clear hw
      have he_53 := he_53.symm
      subst he_53
      subst he_54
      refine ww_eq (ws' := [(po, .inl (E.2.1 1, 32, .inl fo)), (pa, .inl (E.2.1 1, 32, .inl fa)), (pd, .inl (E.2.1 1, 32, .inl fd)), (qs, .inr (5, [.ref qt, .ref po, .ref pa, .ref pf, .ref pd, .int 0, .int 0, .int an2_44, .int wr2_45, .int pl2_46])), (qt, .inr (10, [.ref tb, .int (nI tl), .int (nI ta2_41), .int (nI tk2_42), .int (nI ts2_43)])), (tb, .inl (E.2.1 0, 160, .inl fb)), (pf, .inl (E.2.1 1, 2, .inl af2_47))]) ?_ rfl rfl rfl
      refine ww_if_eq_t (tgt := 53) C dX5_parse_43 (by decide) (rfl) ?_
      refine ww_null C dX5_parse_53 ?_
      refine ww_eq (st' := [va_rf none]) ?_ rfl rfl rfl
      exact ww_qret (u := [(qs, .inr (5, [.ref qt, .ref po, .ref pa, .ref pf, .ref pd, .int 0, .int 0, .int an2_44, .int wr2_45, .int pl2_46])), (qt, .inr (10, [.ref tb, .int (nI tl), .int (nI ta2_41), .int (nI tk2_42), .int (nI ts2_43)])), (tb, .inl (E.2.1 0, 160, .inl fb)), (po, .inl (E.2.1 1, 32, .inl fo)), (pa, .inl (E.2.1 1, 32, .inl fa)), (pf, .inl (E.2.1 1, 2, .inl af2_47)), (pd, .inl (E.2.1 1, 32, .inl fd))]) C hT (Or.inl ⟨_, rfl⟩) [3, 4, 5, 0, 1, 6, 2] rfl rfl rfl rfl dX5_parse_54 (Or.inl ⟨0, 0, an2_44, wr2_45, pl2_46, (nI ta2_41), (nI tk2_42), (nI ts2_43), fo, fa, af2_47, fd, rfl, rfl⟩)
  · refine ex5 hw ?_
    clear hw
    intro ta2_14 tk2_15 ts2_16 wr2_17 pl2_18 hw
    refine an6 hw ?_
    clear hw
    intro he_24 he_25 h_19 h_20 h_21 h_22 hw
    have h_23 := hw
    clear hw
    have he_24 := he_24.symm
    subst he_24
    subst he_25
    refine ww_eq (ws' := [(po, .inl (E.2.1 1, 32, .inl fo)), (pa, .inl (E.2.1 1, 32, .inl fa)), (pf, .inl (E.2.1 1, 2, .inl af)), (pd, .inl (E.2.1 1, 32, .inl fd)), (qs, .inr (5, [.ref qt, .ref po, .ref pa, .ref pf, .ref pd, .int 0, .int 0, .int 0, .int wr2_17, .int pl2_18])), (qt, .inr (10, [.ref tb, .int (nI tl), .int (nI ta2_14), .int (nI tk2_15), .int (nI ts2_16)])), (tb, .inl (E.2.1 0, 160, .inl fb))]) ?_ rfl rfl rfl
    refine ww_if_eq_t (tgt := 53) C dX5_parse_36 (by decide) (rfl) ?_
    refine ww_null C dX5_parse_53 ?_
    refine ww_eq (st' := [va_rf none]) ?_ rfl rfl rfl
    exact ww_qret (u := [(qs, .inr (5, [.ref qt, .ref po, .ref pa, .ref pf, .ref pd, .int 0, .int 0, .int 0, .int wr2_17, .int pl2_18])), (qt, .inr (10, [.ref tb, .int (nI tl), .int (nI ta2_14), .int (nI tk2_15), .int (nI ts2_16)])), (tb, .inl (E.2.1 0, 160, .inl fb)), (po, .inl (E.2.1 1, 32, .inl fo)), (pa, .inl (E.2.1 1, 32, .inl fa)), (pf, .inl (E.2.1 1, 2, .inl af)), (pd, .inl (E.2.1 1, 32, .inl fd))]) C hT (Or.inl ⟨_, rfl⟩) [4, 5, 6, 0, 1, 2, 3] rfl rfl rfl rfl dX5_parse_54 (Or.inl ⟨0, 0, 0, wr2_17, pl2_18, (nI ta2_14), (nI tk2_15), (nI ts2_16), fo, fa, af, fd, rfl, rfl⟩)
