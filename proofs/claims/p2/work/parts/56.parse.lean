theorem dX5_parse_0 : decode cX5_parse 0 = .ok (.aload_n 0, 1) := by decide +kernel
theorem dX5_parse_1 : decode cX5_parse 1 = .ok (.iconst 0, 1) := by decide +kernel
theorem dX5_parse_2 : decode cX5_parse 2 = .ok (.putfield 31, 3) := by decide +kernel
theorem dX5_parse_5 : decode cX5_parse 5 = .ok (.aload_n 0, 1) := by decide +kernel
theorem dX5_parse_6 : decode cX5_parse 6 = .ok (.iconst 0, 1) := by decide +kernel
theorem dX5_parse_7 : decode cX5_parse 7 = .ok (.putfield 35, 3) := by decide +kernel
theorem dX5_parse_10 : decode cX5_parse 10 = .ok (.aload_n 0, 1) := by decide +kernel
theorem dX5_parse_11 : decode cX5_parse 11 = .ok (.iconst 0, 1) := by decide +kernel
theorem dX5_parse_12 : decode cX5_parse 12 = .ok (.putfield 38, 3) := by decide +kernel
theorem dX5_parse_15 : decode cX5_parse 15 = .ok (.aload_n 0, 1) := by decide +kernel
theorem dX5_parse_16 : decode cX5_parse 16 = .ok (.iconst 0, 1) := by decide +kernel
theorem dX5_parse_17 : decode cX5_parse 17 = .ok (.putfield 41, 3) := by decide +kernel
theorem dX5_parse_20 : decode cX5_parse 20 = .ok (.aload_n 0, 1) := by decide +kernel
theorem dX5_parse_21 : decode cX5_parse 21 = .ok (.iconst 0, 1) := by decide +kernel
theorem dX5_parse_22 : decode cX5_parse 22 = .ok (.putfield 44, 3) := by decide +kernel
theorem dX5_parse_25 : decode cX5_parse 25 = .ok (.aload_n 0, 1) := by decide +kernel
theorem dX5_parse_26 : decode cX5_parse 26 = .ok (.getfield 12, 3) := by decide +kernel
theorem dX5_parse_29 : decode cX5_parse 29 = .ok (.invokevirtual 47, 3) := by decide +kernel
theorem wl_X5_47 : Cond.methodLink RX5 47 yX10_rewind ∈ TB := tbm (tq3 (List.mem_of_getElem? (i := 10) (by decide +kernel))) (by decide +kernel)
theorem wc_X10_rewind : Cond.code yX10_rewind cX10_rewind 1 none ∈ TB := tbm (tq3 (List.mem_of_getElem? (i := 13) (rfl))) (by decide +kernel)
theorem wi_X10_rewind : Cond.instanceMethod yX10_rewind ∈ TB := tbm (tq3 (List.mem_of_getElem? (i := 11) (by decide +kernel))) (by decide +kernel)
theorem ws_X10_rewind : Cond.selects RX10 yX10_rewind yX10_rewind ∈ TB := tbm (tq3 (List.mem_of_getElem? (i := 12) (by decide +kernel))) (by decide +kernel)
theorem mi_X10_rewind : MI yX10_rewind cX10_rewind 1 none 0 := ⟨wc_X10_rewind, wn_X10, ⟨by decide +kernel, by decide +kernel, by decide +kernel⟩, wi_X10_rewind, ws_X10_rewind⟩
theorem dX5_parse_32 : decode cX5_parse 32 = .ok (.aload_n 0, 1) := by decide +kernel
theorem dX5_parse_33 : decode cX5_parse 33 = .ok (.invokevirtual 50, 3) := by decide +kernel
theorem dX5_parse_36 : decode cX5_parse 36 = .ok (.ifCond .eq 17, 3) := by decide +kernel
theorem dX5_parse_39 : decode cX5_parse 39 = .ok (.aload_n 0, 1) := by decide +kernel
theorem dX5_parse_40 : decode cX5_parse 40 = .ok (.invokevirtual 54, 3) := by decide +kernel
theorem wl_X5_54 : Cond.methodLink RX5 54 yX5_readAfters ∈ TB := tbm (tq3 (List.mem_of_getElem? (i := 33) (by decide +kernel))) (by decide +kernel)
theorem wc_X5_readAfters : Cond.code yX5_readAfters cX5_readAfters 2 (some .boolean) ∈ TB := tbm (tq3 (List.mem_of_getElem? (i := 36) (rfl))) (by decide +kernel)
theorem wi_X5_readAfters : Cond.instanceMethod yX5_readAfters ∈ TB := tbm (tq3 (List.mem_of_getElem? (i := 35) (by decide +kernel))) (by decide +kernel)
theorem ws_X5_readAfters : Cond.selects RX5 yX5_readAfters yX5_readAfters ∈ TB := tbm (tq0 (List.mem_of_getElem? (i := 6) (by decide +kernel))) (by decide +kernel)
theorem mi_X5_readAfters : MI yX5_readAfters cX5_readAfters 2 (some .boolean) 0 := ⟨wc_X5_readAfters, wn_X5, ⟨by decide +kernel, by decide +kernel, by decide +kernel⟩, wi_X5_readAfters, ws_X5_readAfters⟩
theorem dX5_parse_43 : decode cX5_parse 43 = .ok (.ifCond .eq 10, 3) := by decide +kernel
theorem dX5_parse_46 : decode cX5_parse 46 = .ok (.aload_n 0, 1) := by decide +kernel
theorem dX5_parse_47 : decode cX5_parse 47 = .ok (.invokevirtual 57, 3) := by decide +kernel
theorem wl_X5_57 : Cond.methodLink RX5 57 yX5_readSaying ∈ TB := tbm (tq3 (List.mem_of_getElem? (i := 98) (by decide +kernel))) (by decide +kernel)
theorem wc_X5_readSaying : Cond.code yX5_readSaying cX5_readSaying 6 (some .boolean) ∈ TB := tbm (tq3 (List.mem_of_getElem? (i := 101) (rfl))) (by decide +kernel)
theorem wi_X5_readSaying : Cond.instanceMethod yX5_readSaying ∈ TB := tbm (tq3 (List.mem_of_getElem? (i := 100) (by decide +kernel))) (by decide +kernel)
theorem ws_X5_readSaying : Cond.selects RX5 yX5_readSaying yX5_readSaying ∈ TB := tbm (tq0 (List.mem_of_getElem? (i := 8) (by decide +kernel))) (by decide +kernel)
theorem mi_X5_readSaying : MI yX5_readSaying cX5_readSaying 6 (some .boolean) 0 := ⟨wc_X5_readSaying, wn_X5, ⟨by decide +kernel, by decide +kernel, by decide +kernel⟩, wi_X5_readSaying, ws_X5_readSaying⟩
theorem dX5_parse_50 : decode cX5_parse 50 = .ok (.ifCond .ne 5, 3) := by decide +kernel
theorem dX5_parse_55 : decode cX5_parse 55 = .ok (.aload_n 0, 1) := by decide +kernel
theorem dX5_parse_56 : decode cX5_parse 56 = .ok (.getfield 12, 3) := by decide +kernel
theorem dX5_parse_59 : decode cX5_parse 59 = .ok (.getfield 60, 3) := by decide +kernel
theorem dX5_parse_62 : decode cX5_parse 62 = .ok (.ifCond .eq 11, 3) := by decide +kernel
theorem dX5_parse_73 : decode cX5_parse 73 = .ok (.aload_n 0, 1) := by decide +kernel
theorem dX5_parse_74 : decode cX5_parse 74 = .ok (.invokevirtual 67, 3) := by decide +kernel
theorem wl_X5_67 : Cond.methodLink RX5 67 yX5_made ∈ TB := tbm (tq3 (List.mem_of_getElem? (i := 144) (by decide +kernel))) (by decide +kernel)
theorem wc_X5_made : Cond.code yX5_made cX5_made 3 (some (.object "WhoKnows$Saying")) ∈ TB := tbm (tq3 (List.mem_of_getElem? (i := 147) (rfl))) (by decide +kernel)
theorem wi_X5_made : Cond.instanceMethod yX5_made ∈ TB := tbm (tq3 (List.mem_of_getElem? (i := 146) (by decide +kernel))) (by decide +kernel)
theorem ws_X5_made : Cond.selects RX5 yX5_made yX5_made ∈ TB := tbm (tq0 (List.mem_of_getElem? (i := 14) (by decide +kernel))) (by decide +kernel)
theorem mi_X5_made : MI yX5_made cX5_made 3 (some (.object "WhoKnows$Saying")) 0 := ⟨wc_X5_made, wn_X5, ⟨by decide +kernel, by decide +kernel, by decide +kernel⟩, wi_X5_made, ws_X5_made⟩
theorem dX5_parse_77 : decode cX5_parse 77 = .ok (.areturn, 1) := by decide +kernel
theorem dX5_parse_65 : decode cX5_parse 65 = .ok (.aload_n 0, 1) := by decide +kernel
theorem dX5_parse_66 : decode cX5_parse 66 = .ok (.iconst 2, 1) := by decide +kernel
theorem dX5_parse_67 : decode cX5_parse 67 = .ok (.invokevirtual 63, 3) := by decide +kernel
theorem dX5_parse_70 : decode cX5_parse 70 = .ok (.pop, 1) := by decide +kernel
theorem dX5_parse_71 : decode cX5_parse 71 = .ok (.aconst_null, 1) := by decide +kernel
theorem dX5_parse_72 : decode cX5_parse 72 = .ok (.areturn, 1) := by decide +kernel
theorem dX5_parse_53 : decode cX5_parse 53 = .ok (.aconst_null, 1) := by decide +kernel
theorem dX5_parse_54 : decode cX5_parse 54 = .ok (.areturn, 1) := by decide +kernel
set_option maxRecDepth 100000 in
set_option maxHeartbeats 4000000 in
theorem q_parse (l : Launch) (E : EV) (ro : va_W) (qs : Nat) (qt : Nat) (po : Nat) (pa : Nat) (pf : Nat) (pd : Nat) (nd : Int32) (tn : Int32) (an : Int32) (wr : Int32) (pl : Int32) (tb : Nat) (tl : Nat) (ta : Int32) (tk : Int32) (ts : Int32) (fb : Nat → Int32) (fo : Nat → Int32) (fa : Nat → Int32) (af : Nat → Int32) (fd : Nat → Int32) (htl : tl ≤ 160) : CT l yX5_parse (Cond.code yX5_parse cX5_parse 1 (some (.object "WhoKnows$Saying")) :: TB) ({ frames := 8, cells := 4, slots := 73, locals := 172 }) E ro [.ref qs] [(qs, .inr (5, [.ref qt, .ref po, .ref pa, .ref pf, .ref pd, .int nd, .int tn, .int an, .int wr, .int pl])), (qt, .inr (10, [.ref tb, .int (nI tl), .int ta, .int tk, .int ts])), (tb, .inl (E.2.1 0, 160, .inl fb)), (po, .inl (E.2.1 1, 32, .inl fo)), (pa, .inl (E.2.1 1, 32, .inl fa)), (pf, .inl (E.2.1 1, 2, .inl af)), (pd, .inl (E.2.1 1, 32, .inl fd))] (Qq E (fun (rz : Option Nat) uz => (∃ (ndz : Int32) (tnz : Int32) (anz : Int32) (wrz : Int32) (taz : Int32) (tkz : Int32) (tsz : Int32) (plz : Nat) (foz : Nat → Int32) (faz : Nat → Int32) (afz : Nat → Int32) (fdz : Nat → Int32), rz = none ∧ uz = [(qs, .inr (5, [.ref qt, .ref po, .ref pa, .ref pf, .ref pd, .int ndz, .int tnz, .int anz, .int wrz, .int (nI plz)])), (qt, .inr (10, [.ref tb, .int (nI tl), .int taz, .int tkz, .int tsz])), (tb, .inl (E.2.1 0, 160, .inl fb)), (po, .inl (E.2.1 1, 32, .inl foz)), (pa, .inl (E.2.1 1, 32, .inl faz)), (pf, .inl (E.2.1 1, 2, .inl afz)), (pd, .inl (E.2.1 1, 32, .inl fdz))] ∧ (SBAD (cz fb tl) plz)) ∨ (∃ (ndz : Int32) (tnz : Int32) (anz : Int32) (wrz : Int32) (plz : Int32) (taz : Int32) (tkz : Int32) (tsz : Int32) (foz : Nat → Int32) (faz : Nat → Int32) (afz : Nat → Int32) (fdz : Nat → Int32) (sg : Nat) (nn : Nat) (na : Nat) (sx : Nat) (sy : Nat) (sz : Nat) (tm : Nat) (p_ : Nat) (v_ : Nat) (w_ : Nat) (dp : Int32) (nm : Int32) (so : Nat → Int32) (sr : Nat → Int32) (sf : Nat → Int32), rz = some sg ∧ uz = [(qs, .inr (5, [.ref qt, .ref po, .ref pa, .ref pf, .ref pd, .int ndz, .int tnz, .int anz, .int wrz, .int plz])), (qt, .inr (10, [.ref tb, .int (nI tl), .int taz, .int tkz, .int tsz])), (tb, .inl (E.2.1 0, 160, .inl fb)), (po, .inl (E.2.1 1, 32, .inl foz)), (pa, .inl (E.2.1 1, 32, .inl faz)), (pf, .inl (E.2.1 1, 2, .inl afz)), (pd, .inl (E.2.1 1, 32, .inl fdz)), (sg, .inr (8, [.ref sx, .ref sy, .int (nI tm), .int (nI na), .ref sz, .int dp, .int nm])), (sx, .inl (E.2.1 1, nn, .inl so)), (sy, .inl (E.2.1 1, nn, .inl sr)), (sz, .inl (E.2.1 1, 2, .inl sf))] ∧ (WFs nn so ∧ AFI na sf) ∧ (na ≤ 2) ∧ (SOK (cz fb tl) p_ na v_ w_ nn tm ∧ OPX (cz fb tl) p_ nn so sr ∧ (0 < na → sf 0 = nI v_) ∧ (1 < na → sf 1 = nI w_)) ∧ (tm ≤ 32)))) 4 73 := by
  refine ct_of rfl rfl ?_
  intro X C hT hin hro
  show WW X 1 E 0 [(0, .ref qs)] [] [(qs, .inr (5, [.ref qt, .ref po, .ref pa, .ref pf, .ref pd, .int nd, .int tn, .int an, .int wr, .int pl])), (qt, .inr (10, [.ref tb, .int (nI tl), .int ta, .int tk, .int ts])), (tb, .inl (E.2.1 0, 160, .inl fb)), (po, .inl (E.2.1 1, 32, .inl fo)), (pa, .inl (E.2.1 1, 32, .inl fa)), (pf, .inl (E.2.1 1, 2, .inl af)), (pd, .inl (E.2.1 1, 32, .inl fd))] 0 0
  refine ww_aload_n C dX5_parse_0 0 rfl rfl ?_
  refine ww_iconst (v := 0) C dX5_parse_1 rfl ?_
  refine ww_put (ws' := [(qs, .inr (5, [.ref qt, .ref po, .ref pa, .ref pf, .ref pd, .int 0, .int tn, .int an, .int wr, .int pl])), (qt, .inr (10, [.ref tb, .int (nI tl), .int ta, .int tk, .int ts])), (tb, .inl (E.2.1 0, 160, .inl fb)), (po, .inl (E.2.1 1, 32, .inl fo)), (pa, .inl (E.2.1 1, 32, .inl fa)), (pf, .inl (E.2.1 1, 2, .inl af)), (pd, .inl (E.2.1 1, 32, .inl fd))]) C fp_X5_31 0 rfl rfl rfl rfl rfl dX5_parse_2 ?_
  refine ww_aload_n C dX5_parse_5 0 rfl rfl ?_
  refine ww_iconst (v := 0) C dX5_parse_6 rfl ?_
  refine ww_put (ws' := [(qs, .inr (5, [.ref qt, .ref po, .ref pa, .ref pf, .ref pd, .int 0, .int 0, .int an, .int wr, .int pl])), (qt, .inr (10, [.ref tb, .int (nI tl), .int ta, .int tk, .int ts])), (tb, .inl (E.2.1 0, 160, .inl fb)), (po, .inl (E.2.1 1, 32, .inl fo)), (pa, .inl (E.2.1 1, 32, .inl fa)), (pf, .inl (E.2.1 1, 2, .inl af)), (pd, .inl (E.2.1 1, 32, .inl fd))]) C fp_X5_35 0 rfl rfl rfl rfl rfl dX5_parse_7 ?_
  refine ww_aload_n C dX5_parse_10 0 rfl rfl ?_
  refine ww_iconst (v := 0) C dX5_parse_11 rfl ?_
  refine ww_put (ws' := [(qs, .inr (5, [.ref qt, .ref po, .ref pa, .ref pf, .ref pd, .int 0, .int 0, .int 0, .int wr, .int pl])), (qt, .inr (10, [.ref tb, .int (nI tl), .int ta, .int tk, .int ts])), (tb, .inl (E.2.1 0, 160, .inl fb)), (po, .inl (E.2.1 1, 32, .inl fo)), (pa, .inl (E.2.1 1, 32, .inl fa)), (pf, .inl (E.2.1 1, 2, .inl af)), (pd, .inl (E.2.1 1, 32, .inl fd))]) C fp_X5_38 0 rfl rfl rfl rfl rfl dX5_parse_12 ?_
  refine ww_aload_n C dX5_parse_15 0 rfl rfl ?_
  refine ww_iconst (v := 0) C dX5_parse_16 rfl ?_
  refine ww_put (ws' := [(qs, .inr (5, [.ref qt, .ref po, .ref pa, .ref pf, .ref pd, .int 0, .int 0, .int 0, .int 0, .int pl])), (qt, .inr (10, [.ref tb, .int (nI tl), .int ta, .int tk, .int ts])), (tb, .inl (E.2.1 0, 160, .inl fb)), (po, .inl (E.2.1 1, 32, .inl fo)), (pa, .inl (E.2.1 1, 32, .inl fa)), (pf, .inl (E.2.1 1, 2, .inl af)), (pd, .inl (E.2.1 1, 32, .inl fd))]) C fp_X5_41 0 rfl rfl rfl rfl rfl dX5_parse_17 ?_
  refine ww_aload_n C dX5_parse_20 0 rfl rfl ?_
  refine ww_iconst (v := 0) C dX5_parse_21 rfl ?_
  refine ww_put (ws' := [(qs, .inr (5, [.ref qt, .ref po, .ref pa, .ref pf, .ref pd, .int 0, .int 0, .int 0, .int 0, .int 0])), (qt, .inr (10, [.ref tb, .int (nI tl), .int ta, .int tk, .int ts])), (tb, .inl (E.2.1 0, 160, .inl fb)), (po, .inl (E.2.1 1, 32, .inl fo)), (pa, .inl (E.2.1 1, 32, .inl fa)), (pf, .inl (E.2.1 1, 2, .inl af)), (pd, .inl (E.2.1 1, 32, .inl fd))]) C fp_X5_44 0 rfl rfl rfl rfl rfl dX5_parse_22 ?_
  refine ww_aload_n C dX5_parse_25 0 rfl rfl ?_
  refine ww_get C fg_X5_12 0 rfl rfl dX5_parse_26 ?_
  refine ww_cv (wr := [(qs, .inr (5, [.ref qt, .ref po, .ref pa, .ref pf, .ref pd, .int 0, .int 0, .int 0, .int 0, .int 0])), (tb, .inl (E.2.1 0, 160, .inl fb)), (po, .inl (E.2.1 1, 32, .inl fo)), (pa, .inl (E.2.1 1, 32, .inl fa)), (pf, .inl (E.2.1 1, 2, .inl af)), (pd, .inl (E.2.1 1, 32, .inl fd))]) (k' := 0) (n' := 0) C (run_V (As := []) (rest := []) C (t_rewind X.2.1 E ro qt tb tl ta tk ts) mi_X10_rewind wl_X5_47 rfl 0 10 rfl rfl rfl rfl rfl dX5_parse_29) (roK hro) [1] [0, 2, 3, 4, 5, 6] rfl rfl rfl rfl (fun uz hw => ?_)
  have he_2 := hw
  clear hw
  subst he_2
  refine ww_eq (ws' := [(qs, .inr (5, [.ref qt, .ref po, .ref pa, .ref pf, .ref pd, .int 0, .int 0, .int 0, .int 0, .int 0])), (tb, .inl (E.2.1 0, 160, .inl fb)), (po, .inl (E.2.1 1, 32, .inl fo)), (pa, .inl (E.2.1 1, 32, .inl fa)), (pf, .inl (E.2.1 1, 2, .inl af)), (pd, .inl (E.2.1 1, 32, .inl fd)), (qt, .inr (10, [.ref tb, .int (nI tl), .int 0, .int tk, .int ts]))]) ?_ rfl rfl rfl
  refine ww_aload_n C dX5_parse_32 0 rfl rfl ?_
  refine ww_ci (wr := [(po, .inl (E.2.1 1, 32, .inl fo)), (pa, .inl (E.2.1 1, 32, .inl fa)), (pf, .inl (E.2.1 1, 2, .inl af)), (pd, .inl (E.2.1 1, 32, .inl fd))]) (k' := 0) (n' := 0) C (run_V (As := []) (rest := []) C (q_next X.2.1 E ro qs qt po pa pf pd 0 0 0 0 0 tb tl 0 tk ts fb (by omega) (by omega)) mi_X5_next wl_X5_50 rfl 0 5 rfl rfl rfl rfl rfl dX5_parse_33) (roK hro) [0, 6, 1] [2, 3, 4, 5] rfl rfl rfl rfl (fun r_3 uz hw => ?_)
  rcases hw with hw | hw
  · refine ex3 hw ?_
    clear hw
    intro ta2_4 tk2_5 ts2_6 hw
    refine an8 hw ?_
    clear hw
    intro he_14 he_15 h_7 h_8 h_9 h_10 h_11 h_12 hw
    have h_13 := hw
    clear hw
    have he_14 := he_14.symm
    subst he_14
    subst he_15
    refine ww_eq (ws' := [(po, .inl (E.2.1 1, 32, .inl fo)), (pa, .inl (E.2.1 1, 32, .inl fa)), (pf, .inl (E.2.1 1, 2, .inl af)), (pd, .inl (E.2.1 1, 32, .inl fd)), (qs, .inr (5, [.ref qt, .ref po, .ref pa, .ref pf, .ref pd, .int 0, .int 0, .int 0, .int 0, .int 0])), (qt, .inr (10, [.ref tb, .int (nI tl), .int (nI ta2_4), .int (nI tk2_5), .int (nI ts2_6)])), (tb, .inl (E.2.1 0, 160, .inl fb))]) ?_ rfl rfl rfl
    refine ww_if_eq_f (tgt := 53) C dX5_parse_36 (by decide) (by decide) ?_
    refine ww_aload_n C dX5_parse_39 0 rfl rfl ?_
    refine ww_ci (wr := [(po, .inl (E.2.1 1, 32, .inl fo)), (pa, .inl (E.2.1 1, 32, .inl fa)), (pd, .inl (E.2.1 1, 32, .inl fd))]) (k' := 0) (n' := 0) C (run_V (As := []) (rest := []) C (q_readAfters X.2.1 E ro qs qt po pa pf pd 0 0 0 0 tb tl ta2_4 tk2_5 ts2_6 fb af 0 (by omega) (by omega) (by omega) (by omega) (by omega) h_11 h_12) mi_X5_readAfters wl_X5_54 rfl 0 5 rfl rfl rfl rfl rfl dX5_parse_40) (roK hro) [4, 5, 6, 2] [0, 1, 3] rfl rfl rfl rfl (fun r_28 uz hw => ?_)
    rcases hw with hw | hw
    · refine ex8 hw ?_
      clear hw
      intro ta2_29 tk2_30 ts2_31 an2_32 p2_33 v__34 w__35 af2_36 hw
      refine an8 hw ?_
      clear hw
      intro he_47 he_48 h_37 h_38 h_39 h_40 h_41 h_42 hw
      refine an3 hw ?_
      clear hw
      intro h_43 h_44 h_45 hw
      have h_46 := hw
      clear hw
      have he_47 := he_47.symm
      subst he_47
      subst he_48
      refine ww_eq (ws' := [(po, .inl (E.2.1 1, 32, .inl fo)), (pa, .inl (E.2.1 1, 32, .inl fa)), (pd, .inl (E.2.1 1, 32, .inl fd)), (qs, .inr (5, [.ref qt, .ref po, .ref pa, .ref pf, .ref pd, .int 0, .int 0, .int (nI an2_32), .int 0, .int 0])), (qt, .inr (10, [.ref tb, .int (nI tl), .int (nI ta2_29), .int (nI tk2_30), .int (nI ts2_31)])), (tb, .inl (E.2.1 0, 160, .inl fb)), (pf, .inl (E.2.1 1, 2, .inl af2_36))]) ?_ rfl rfl rfl
      refine ww_if_eq_f (tgt := 53) C dX5_parse_43 (by decide) (by decide) ?_
      refine ww_aload_n C dX5_parse_46 0 rfl rfl ?_
      refine ww_ci (wr := [(pd, .inl (E.2.1 1, 32, .inl fd)), (pf, .inl (E.2.1 1, 2, .inl af2_36))]) (k' := 0) (n' := 0) C (run_V (As := []) (rest := []) C (q_readSaying X.2.1 E ro qs qt po pa pf pd (nI an2_32) 0 0 tb tl ta2_29 tk2_30 ts2_31 fb fo fa p2_33 (by omega) (by omega) (by omega) (by omega) (by omega) h_41 h_42) mi_X5_readSaying wl_X5_57 rfl 0 5 rfl rfl rfl rfl rfl dX5_parse_47) (roK hro) [3, 4, 5, 0, 1] [2, 6] rfl rfl rfl rfl (fun r_64 uz hw => ?_)
      rcases hw with hw | hw
      · refine ex8 hw ?_
        clear hw
        intro ta2_65 tk2_66 ts2_67 nn_68 tn2_69 p2_70 fo2_71 fa2_72 hw
        refine an8 hw ?_
        clear hw
        intro he_83 he_84 h_73 h_74 h_75 h_76 h_77 h_78 hw
        refine an3 hw ?_
        clear hw
        intro h_79 h_80 h_81 hw
        have h_82 := hw
        clear hw
        have he_83 := he_83.symm
        subst he_83
        subst he_84
        refine ww_eq (ws' := [(pd, .inl (E.2.1 1, 32, .inl fd)), (pf, .inl (E.2.1 1, 2, .inl af2_36)), (qs, .inr (5, [.ref qt, .ref po, .ref pa, .ref pf, .ref pd, .int (nI nn_68), .int (nI tn2_69), .int (nI an2_32), .int 0, .int 0])), (qt, .inr (10, [.ref tb, .int (nI tl), .int (nI ta2_65), .int (nI tk2_66), .int (nI ts2_67)])), (tb, .inl (E.2.1 0, 160, .inl fb)), (po, .inl (E.2.1 1, 32, .inl fo2_71)), (pa, .inl (E.2.1 1, 32, .inl fa2_72))]) ?_ rfl rfl rfl
        refine ww_if_ne_t (tgt := 55) C dX5_parse_50 (by decide) (by decide) ?_
        refine ww_aload_n C dX5_parse_55 0 rfl rfl ?_
        refine ww_get C fg_X5_12 2 rfl rfl dX5_parse_56 ?_
        refine ww_get C fg_X5_60 3 rfl rfl dX5_parse_59 ?_
        refine ww_if_eq (tgt := 73) C dX5_parse_62 (by decide) (fun c_102 => ?_) (fun c_102 => ?_)
        · have zc_102 : ((tk2_66 : Nat) : Int) = 0 := i_eq (nI_toInt (n := tk2_66) (by omega)) rfl c_102
          refine ww_aload_n C dX5_parse_73 0 rfl rfl ?_
          refine ww_cq (wr := [(qt, .inr (10, [.ref tb, .int (nI tl), .int (nI ta2_65), .int (nI tk2_66), .int (nI ts2_67)])), (tb, .inl (E.2.1 0, 160, .inl fb))]) (k' := 4) (n' := 73) C (run_V (As := []) (rest := []) C (q_made X.2.1 E ro qs qt po pa pf pd nn_68 (nI tn2_69) an2_32 0 0 fo2_71 fa2_72 af2_36 fd (by assumption) (by assumption) (by omega)) mi_X5_made wl_X5_67 rfl 0 5 rfl rfl rfl rfl rfl dX5_parse_74) (roK hro) [2, 5, 6, 1, 0] [3, 4] rfl rfl rfl rfl (fun r_103 uz hw => ?_)
          refine ex8 hw ?_
          clear hw
          intro sg_104 sx_105 sy_106 sz_107 dp_108 nm_109 fd2_110 so_111 hw
          refine ex2 hw ?_
          clear hw
          intro sr_112 sf_113 hw
          refine an4 hw ?_
          clear hw
          intro he_117 he_118 h_114 h_115 hw
          have h_116 := hw
          clear hw
          have he_117 := he_117.symm
          subst he_117
          subst he_118
          refine ww_eq (st' := [.ref sg_104]) (ws' := [(qt, .inr (10, [.ref tb, .int (nI tl), .int (nI ta2_65), .int (nI tk2_66), .int (nI ts2_67)])), (tb, .inl (E.2.1 0, 160, .inl fb)), (qs, .inr (5, [.ref qt, .ref po, .ref pa, .ref pf, .ref pd, .int (nI nn_68), .int (nI tn2_69), .int (nI an2_32), .int 0, .int 0])), (po, .inl (E.2.1 1, 32, .inl fo2_71)), (pa, .inl (E.2.1 1, 32, .inl fa2_72)), (pf, .inl (E.2.1 1, 2, .inl af2_36)), (pd, .inl (E.2.1 1, 32, .inl fd2_110)), (sg_104, .inr (8, [.ref sx_105, .ref sy_106, .int (nI tn2_69), .int (nI an2_32), .ref sz_107, .int dp_108, .int nm_109])), (sx_105, .inl (E.2.1 1, nn_68, .inl so_111)), (sy_106, .inl (E.2.1 1, nn_68, .inl sr_112)), (sz_107, .inl (E.2.1 1, 2, .inl sf_113))]) ?_ rfl rfl rfl
          refine ww_eq (st' := [va_rf (some sg_104)]) ?_ rfl rfl rfl
          exact ww_qret (u := [(qs, .inr (5, [.ref qt, .ref po, .ref pa, .ref pf, .ref pd, .int (nI nn_68), .int (nI tn2_69), .int (nI an2_32), .int 0, .int 0])), (qt, .inr (10, [.ref tb, .int (nI tl), .int (nI ta2_65), .int (nI tk2_66), .int (nI ts2_67)])), (tb, .inl (E.2.1 0, 160, .inl fb)), (po, .inl (E.2.1 1, 32, .inl fo2_71)), (pa, .inl (E.2.1 1, 32, .inl fa2_72)), (pf, .inl (E.2.1 1, 2, .inl af2_36)), (pd, .inl (E.2.1 1, 32, .inl fd2_110)), (sg_104, .inr (8, [.ref sx_105, .ref sy_106, .int (nI tn2_69), .int (nI an2_32), .ref sz_107, .int dp_108, .int nm_109])), (sx_105, .inl (E.2.1 1, nn_68, .inl so_111)), (sy_106, .inl (E.2.1 1, nn_68, .inl sr_112)), (sz_107, .inl (E.2.1 1, 2, .inl sf_113))]) C hT (Or.inl ⟨_, rfl⟩) [2, 0, 1, 3, 4, 5, 6, 7, 8, 9, 10] rfl rfl rfl rfl dX5_parse_77 (Or.inr ⟨(nI nn_68), (nI tn2_69), (nI an2_32), 0, 0, (nI ta2_65), (nI tk2_66), (nI ts2_67), fo2_71, fa2_72, af2_36, fd2_110, sg_104, nn_68, an2_32, sx_105, sy_106, sz_107, tn2_69, p2_33, v__34, w__35, dp_108, nm_109, so_111, sr_112, sf_113, rfl, rfl, (by first | assumption | omega | decide), (by first | assumption | omega | decide), ⟨⟨(by rw [← h_12.2.1]; exact h_13), h_45, (by have h9 := h_79.2.1; omega), h_81.1, _, h_81.2, (by rw [← h_80.2.1]; omega)⟩, OPX.cpy h_82 h_115, (fun h => (h_116 0 (by omega)).trans (h_46.1 h)), (fun h => (h_116 1 (by omega)).trans (h_46.2 h))⟩, (by first | assumption | omega | decide)⟩)
        · have zc_102 : ((tk2_66 : Nat) : Int) ≠ 0 := i_ne (nI_toInt (n := tk2_66) (by omega)) rfl c_102
          refine ww_aload_n C dX5_parse_65 0 rfl rfl ?_
          refine ww_iconst (v := 2) C dX5_parse_66 rfl ?_
          refine ww_ci (wr := [(pd, .inl (E.2.1 1, 32, .inl fd)), (pf, .inl (E.2.1 1, 2, .inl af2_36)), (tb, .inl (E.2.1 0, 160, .inl fb)), (po, .inl (E.2.1 1, 32, .inl fo2_71)), (pa, .inl (E.2.1 1, 32, .inl fa2_72))]) (k' := 0) (n' := 0) C (run_V (As := [.int 2]) (rest := []) C (q_fail X.2.1 E ro qs 2 qt po pa pf pd (nI nn_68) (nI tn2_69) (nI an2_32) 0 0 tb tl (nI ta2_65) tk2_66 ts2_67 (by omega)) mi_X5_fail wl_X5_63 rfl 0 5 rfl rfl rfl rfl rfl dX5_parse_67) (roK hro) [2, 3] [0, 1, 4, 5, 6] rfl rfl rfl rfl (fun r_119 uz hw => ?_)
          refine an1 hw ?_
          clear hw
          intro he_120 hw
          have he_121 := hw
          clear hw
          have he_120 := he_120.symm
          subst he_120
          subst he_121
          refine ww_eq (ws' := [(pd, .inl (E.2.1 1, 32, .inl fd)), (pf, .inl (E.2.1 1, 2, .inl af2_36)), (tb, .inl (E.2.1 0, 160, .inl fb)), (po, .inl (E.2.1 1, 32, .inl fo2_71)), (pa, .inl (E.2.1 1, 32, .inl fa2_72)), (qs, .inr (5, [.ref qt, .ref po, .ref pa, .ref pf, .ref pd, .int (nI nn_68), .int (nI tn2_69), .int (nI an2_32), .int 2, .int (nI ts2_67)])), (qt, .inr (10, [.ref tb, .int (nI tl), .int (nI ta2_65), .int (nI tk2_66), .int (nI ts2_67)]))]) ?_ rfl rfl rfl
          refine ww_pop C dX5_parse_70 rfl ?_
          refine ww_null C dX5_parse_71 ?_
          refine ww_eq (st' := [va_rf none]) ?_ rfl rfl rfl
          exact ww_qret (u := [(qs, .inr (5, [.ref qt, .ref po, .ref pa, .ref pf, .ref pd, .int (nI nn_68), .int (nI tn2_69), .int (nI an2_32), .int 2, .int (nI ts2_67)])), (qt, .inr (10, [.ref tb, .int (nI tl), .int (nI ta2_65), .int (nI tk2_66), .int (nI ts2_67)])), (tb, .inl (E.2.1 0, 160, .inl fb)), (po, .inl (E.2.1 1, 32, .inl fo2_71)), (pa, .inl (E.2.1 1, 32, .inl fa2_72)), (pf, .inl (E.2.1 1, 2, .inl af2_36)), (pd, .inl (E.2.1 1, 32, .inl fd))]) C hT (Or.inl ⟨_, rfl⟩) [5, 6, 2, 3, 4, 1, 0] rfl rfl rfl rfl dX5_parse_72 (Or.inl ⟨(nI nn_68), (nI tn2_69), (nI an2_32), 2, (nI ta2_65), (nI tk2_66), (nI ts2_67), ts2_67, fo2_71, fa2_72, af2_36, fd, rfl, rfl, (Or.inr (Or.inr ⟨_, _, _, _, (by rw [← h_12.2.1]; exact h_13), h_45, Or.inr ⟨_, _, it_ok h_81.2 (by have h9 := h_79.2.1; omega), (by rw [← h_80.2.1]; omega), h_80.1⟩⟩))⟩)
      · refine ex8 hw ?_
        clear hw
        intro ta2_85 tk2_86 ts2_87 nd2_88 tn2_89 wr2_90 pl2_91 fo2_92 hw
        refine ex1 hw ?_
        clear hw
        intro fa2_93 hw
        refine an7 hw ?_
        clear hw
        intro he_100 he_101 h_94 h_95 h_96 h_97 h_98 hw
        have h_99 := hw
        clear hw
        have he_100 := he_100.symm
        subst he_100
        subst he_101
        refine ww_eq (ws' := [(pd, .inl (E.2.1 1, 32, .inl fd)), (pf, .inl (E.2.1 1, 2, .inl af2_36)), (qs, .inr (5, [.ref qt, .ref po, .ref pa, .ref pf, .ref pd, .int nd2_88, .int tn2_89, .int (nI an2_32), .int wr2_90, .int (nI pl2_91)])), (qt, .inr (10, [.ref tb, .int (nI tl), .int (nI ta2_85), .int (nI tk2_86), .int (nI ts2_87)])), (tb, .inl (E.2.1 0, 160, .inl fb)), (po, .inl (E.2.1 1, 32, .inl fo2_92)), (pa, .inl (E.2.1 1, 32, .inl fa2_93))]) ?_ rfl rfl rfl
        refine ww_if_ne_f (tgt := 55) C dX5_parse_50 (by decide) (rfl) ?_
        refine ww_null C dX5_parse_53 ?_
        refine ww_eq (st' := [va_rf none]) ?_ rfl rfl rfl
        exact ww_qret (u := [(qs, .inr (5, [.ref qt, .ref po, .ref pa, .ref pf, .ref pd, .int nd2_88, .int tn2_89, .int (nI an2_32), .int wr2_90, .int (nI pl2_91)])), (qt, .inr (10, [.ref tb, .int (nI tl), .int (nI ta2_85), .int (nI tk2_86), .int (nI ts2_87)])), (tb, .inl (E.2.1 0, 160, .inl fb)), (po, .inl (E.2.1 1, 32, .inl fo2_92)), (pa, .inl (E.2.1 1, 32, .inl fa2_93)), (pf, .inl (E.2.1 1, 2, .inl af2_36)), (pd, .inl (E.2.1 1, 32, .inl fd))]) C hT (Or.inl ⟨_, rfl⟩) [2, 3, 4, 5, 6, 1, 0] rfl rfl rfl rfl dX5_parse_54 (Or.inl ⟨nd2_88, tn2_89, (nI an2_32), wr2_90, (nI ta2_85), (nI tk2_86), (nI ts2_87), pl2_91, fo2_92, fa2_93, af2_36, fd, rfl, rfl, (Or.inr (Or.inr ⟨_, _, _, _, (by rw [← h_12.2.1]; exact h_13), h_45, Or.inl h_99⟩))⟩)
    · refine ex7 hw ?_
      clear hw
      intro ta2_49 tk2_50 ts2_51 an2_52 wr2_53 pl2_54 af2_55 hw
      refine an7 hw ?_
      clear hw
      intro he_62 he_63 h_56 h_57 h_58 h_59 h_60 hw
      have h_61 := hw
      clear hw
      have he_62 := he_62.symm
      subst he_62
      subst he_63
      refine ww_eq (ws' := [(po, .inl (E.2.1 1, 32, .inl fo)), (pa, .inl (E.2.1 1, 32, .inl fa)), (pd, .inl (E.2.1 1, 32, .inl fd)), (qs, .inr (5, [.ref qt, .ref po, .ref pa, .ref pf, .ref pd, .int 0, .int 0, .int an2_52, .int wr2_53, .int (nI pl2_54)])), (qt, .inr (10, [.ref tb, .int (nI tl), .int (nI ta2_49), .int (nI tk2_50), .int (nI ts2_51)])), (tb, .inl (E.2.1 0, 160, .inl fb)), (pf, .inl (E.2.1 1, 2, .inl af2_55))]) ?_ rfl rfl rfl
      refine ww_if_eq_t (tgt := 53) C dX5_parse_43 (by decide) (rfl) ?_
      refine ww_null C dX5_parse_53 ?_
      refine ww_eq (st' := [va_rf none]) ?_ rfl rfl rfl
      exact ww_qret (u := [(qs, .inr (5, [.ref qt, .ref po, .ref pa, .ref pf, .ref pd, .int 0, .int 0, .int an2_52, .int wr2_53, .int (nI pl2_54)])), (qt, .inr (10, [.ref tb, .int (nI tl), .int (nI ta2_49), .int (nI tk2_50), .int (nI ts2_51)])), (tb, .inl (E.2.1 0, 160, .inl fb)), (po, .inl (E.2.1 1, 32, .inl fo)), (pa, .inl (E.2.1 1, 32, .inl fa)), (pf, .inl (E.2.1 1, 2, .inl af2_55)), (pd, .inl (E.2.1 1, 32, .inl fd))]) C hT (Or.inl ⟨_, rfl⟩) [3, 4, 5, 0, 1, 6, 2] rfl rfl rfl rfl dX5_parse_54 (Or.inl ⟨0, 0, an2_52, wr2_53, (nI ta2_49), (nI tk2_50), (nI ts2_51), pl2_54, fo, fa, af2_55, fd, rfl, rfl, (Or.inr (Or.inl ⟨(by rw [← h_12.2.1]; exact h_13), h_61⟩))⟩)
  · refine ex3 hw ?_
    clear hw
    intro ta2_16 tk2_17 ts2_18 hw
    refine an8 hw ?_
    clear hw
    intro he_26 he_27 h_19 h_20 h_21 h_22 h_23 h_24 hw
    have h_25 := hw
    clear hw
    have he_26 := he_26.symm
    subst he_26
    subst he_27
    refine ww_eq (ws' := [(po, .inl (E.2.1 1, 32, .inl fo)), (pa, .inl (E.2.1 1, 32, .inl fa)), (pf, .inl (E.2.1 1, 2, .inl af)), (pd, .inl (E.2.1 1, 32, .inl fd)), (qs, .inr (5, [.ref qt, .ref po, .ref pa, .ref pf, .ref pd, .int 0, .int 0, .int 0, .int 1, .int (nI ts2_18)])), (qt, .inr (10, [.ref tb, .int (nI tl), .int (nI ta2_16), .int (nI tk2_17), .int (nI ts2_18)])), (tb, .inl (E.2.1 0, 160, .inl fb))]) ?_ rfl rfl rfl
    refine ww_if_eq_t (tgt := 53) C dX5_parse_36 (by decide) (rfl) ?_
    refine ww_null C dX5_parse_53 ?_
    refine ww_eq (st' := [va_rf none]) ?_ rfl rfl rfl
    exact ww_qret (u := [(qs, .inr (5, [.ref qt, .ref po, .ref pa, .ref pf, .ref pd, .int 0, .int 0, .int 0, .int 1, .int (nI ts2_18)])), (qt, .inr (10, [.ref tb, .int (nI tl), .int (nI ta2_16), .int (nI tk2_17), .int (nI ts2_18)])), (tb, .inl (E.2.1 0, 160, .inl fb)), (po, .inl (E.2.1 1, 32, .inl fo)), (pa, .inl (E.2.1 1, 32, .inl fa)), (pf, .inl (E.2.1 1, 2, .inl af)), (pd, .inl (E.2.1 1, 32, .inl fd))]) C hT (Or.inl ⟨_, rfl⟩) [4, 5, 6, 0, 1, 2, 3] rfl rfl rfl rfl dX5_parse_54 (Or.inl ⟨0, 0, 0, 1, (nI ta2_16), (nI tk2_17), (nI ts2_18), ts2_18, fo, fa, af, fd, rfl, rfl, (Or.inl ⟨h_24.2.1.symm.trans h_25, h_24.1⟩)⟩)
