theorem dX5_readAfters_0 : decode cX5_readAfters 0 = .ok (.iconst 0, 1) := by decide +kernel
theorem dX5_readAfters_1 : decode cX5_readAfters 1 = .ok (.istore_n 1, 1) := by decide +kernel
theorem dX5_readAfters_2 : decode cX5_readAfters 2 = .ok (.iload_n 1, 1) := by decide +kernel
theorem dX5_readAfters_3 : decode cX5_readAfters 3 = .ok (.iconst 2, 1) := by decide +kernel
theorem dX5_readAfters_4 : decode cX5_readAfters 4 = .ok (.if_icmp .gt 48, 3) := by decide +kernel
theorem dX5_readAfters_7 : decode cX5_readAfters 7 = .ok (.aload_n 0, 1) := by decide +kernel
theorem dX5_readAfters_8 : decode cX5_readAfters 8 = .ok (.getfield 12, 3) := by decide +kernel
theorem dX5_readAfters_11 : decode cX5_readAfters 11 = .ok (.ldc 77, 2) := by decide +kernel
theorem dX5_readAfters_13 : decode cX5_readAfters 13 = .ok (.invokevirtual 78, 3) := by decide +kernel
theorem wl_X5_78 : Cond.methodLink RX5 78 yX10_isName ∈ TB := tbm (tq3 (List.mem_of_getElem? (i := 38) (by decide +kernel))) (by decide +kernel)
theorem wc_X10_isName : Cond.code yX10_isName cX10_isName 3 (some .boolean) ∈ TB := tbm (tq3 (List.mem_of_getElem? (i := 41) (rfl))) (by decide +kernel)
theorem wi_X10_isName : Cond.instanceMethod yX10_isName ∈ TB := tbm (tq3 (List.mem_of_getElem? (i := 39) (by decide +kernel))) (by decide +kernel)
theorem ws_X10_isName : Cond.selects RX10 yX10_isName yX10_isName ∈ TB := tbm (tq3 (List.mem_of_getElem? (i := 40) (by decide +kernel))) (by decide +kernel)
theorem mi_X10_isName : MI yX10_isName cX10_isName 3 (some .boolean) 1 := ⟨wc_X10_isName, wn_X10, ⟨by decide +kernel, by decide +kernel, by decide +kernel⟩, wi_X10_isName, ws_X10_isName⟩
theorem dX5_readAfters_16 : decode cX5_readAfters 16 = .ok (.ifCond .eq 36, 3) := by decide +kernel
theorem dX5_readAfters_19 : decode cX5_readAfters 19 = .ok (.iload_n 1, 1) := by decide +kernel
theorem dX5_readAfters_20 : decode cX5_readAfters 20 = .ok (.iconst 2, 1) := by decide +kernel
theorem dX5_readAfters_21 : decode cX5_readAfters 21 = .ok (.if_icmp .ne 9, 3) := by decide +kernel
theorem dX5_readAfters_30 : decode cX5_readAfters 30 = .ok (.aload_n 0, 1) := by decide +kernel
theorem dX5_readAfters_31 : decode cX5_readAfters 31 = .ok (.invokevirtual 50, 3) := by decide +kernel
theorem dX5_readAfters_34 : decode cX5_readAfters 34 = .ok (.ifCond .eq 10, 3) := by decide +kernel
theorem dX5_readAfters_37 : decode cX5_readAfters 37 = .ok (.aload_n 0, 1) := by decide +kernel
theorem dX5_readAfters_38 : decode cX5_readAfters 38 = .ok (.invokevirtual 82, 3) := by decide +kernel
theorem wl_X5_82 : Cond.methodLink RX5 82 yX5_readEventNumber ∈ TB := tbm (tq3 (List.mem_of_getElem? (i := 90) (by decide +kernel))) (by decide +kernel)
theorem wc_X5_readEventNumber : Cond.code yX5_readEventNumber cX5_readEventNumber 1 (some .boolean) ∈ TB := tbm (tq3 (List.mem_of_getElem? (i := 93) (rfl))) (by decide +kernel)
theorem wi_X5_readEventNumber : Cond.instanceMethod yX5_readEventNumber ∈ TB := tbm (tq3 (List.mem_of_getElem? (i := 92) (by decide +kernel))) (by decide +kernel)
theorem ws_X5_readEventNumber : Cond.selects RX5 yX5_readEventNumber yX5_readEventNumber ∈ TB := tbm (tq0 (List.mem_of_getElem? (i := 7) (by decide +kernel))) (by decide +kernel)
theorem mi_X5_readEventNumber : MI yX5_readEventNumber cX5_readEventNumber 1 (some .boolean) 0 := ⟨wc_X5_readEventNumber, wn_X5, ⟨by decide +kernel, by decide +kernel, by decide +kernel⟩, wi_X5_readEventNumber, ws_X5_readEventNumber⟩
theorem dX5_readAfters_41 : decode cX5_readAfters 41 = .ok (.ifCond .ne 5, 3) := by decide +kernel
theorem dX5_readAfters_46 : decode cX5_readAfters 46 = .ok (.iinc 1 1, 3) := by decide +kernel
theorem dX5_readAfters_49 : decode cX5_readAfters 49 = .ok (.goto (-47), 3) := by decide +kernel
theorem dX5_readAfters_24 : decode cX5_readAfters 24 = .ok (.aload_n 0, 1) := by decide +kernel
theorem dX5_readAfters_25 : decode cX5_readAfters 25 = .ok (.iconst 4, 1) := by decide +kernel
theorem dX5_readAfters_26 : decode cX5_readAfters 26 = .ok (.invokevirtual 63, 3) := by decide +kernel
theorem dX5_readAfters_29 : decode cX5_readAfters 29 = .ok (.ireturn, 1) := by decide +kernel
theorem dX5_readAfters_52 : decode cX5_readAfters 52 = .ok (.iconst 1, 1) := by decide +kernel
theorem dX5_readAfters_53 : decode cX5_readAfters 53 = .ok (.ireturn, 1) := by decide +kernel
theorem dX5_readAfters_44 : decode cX5_readAfters 44 = .ok (.iconst 0, 1) := by decide +kernel
theorem dX5_readAfters_45 : decode cX5_readAfters 45 = .ok (.ireturn, 1) := by decide +kernel
set_option maxRecDepth 100000 in
set_option maxHeartbeats 4000000 in
theorem q_readAfters (l : Launch) (E : EV) (ro : va_W) (qs : Nat) (qt : Nat) (po : Nat) (pa : Nat) (pf : Nat) (pd : Nat) (nd : Int32) (tn : Int32) (wr : Int32) (pl : Int32) (tb : Nat) (tl : Nat) (ta : Nat) (tk : Nat) (ts : Nat) (fb : Nat → Int32) (af : Nat → Int32) (p_ : Nat) (hts : ts ≤ ta) (hta : ta ≤ tl) (htl : tl ≤ 160) (htk : tk ≤ 3) (hs9 : tk = 2 → ts < ta) (hfg : TX (cz fb tl) ts tk ta) (htok : TK (cz fb tl) p_ ts tk ta) : CT l yX5_readAfters (Cond.code yX5_readAfters cX5_readAfters 2 (some .boolean) :: TB) ({ frames := 5, cells := 0, slots := 0, locals := 107 }) E ro [.ref qs] [(qs, .inr (5, [.ref qt, .ref po, .ref pa, .ref pf, .ref pd, .int nd, .int tn, .int 0, .int wr, .int pl])), (qt, .inr (10, [.ref tb, .int (nI tl), .int (nI ta), .int (nI tk), .int (nI ts)])), (tb, .inl (E.2.1 0, 160, .inl fb)), (pf, .inl (E.2.1 1, 2, .inl af))] (Qi E (fun (rz : Int32) uz => (∃ (ta2 : Nat) (tk2 : Nat) (ts2 : Nat) (an2 : Nat) (p2 : Nat) (v_ : Nat) (w_ : Nat) (af2 : Nat → Int32), rz = 1 ∧ uz = [(qs, .inr (5, [.ref qt, .ref po, .ref pa, .ref pf, .ref pd, .int nd, .int tn, .int (nI an2), .int wr, .int pl])), (qt, .inr (10, [.ref tb, .int (nI tl), .int (nI ta2), .int (nI tk2), .int (nI ts2)])), (tb, .inl (E.2.1 0, 160, .inl fb)), (pf, .inl (E.2.1 1, 2, .inl af2))] ∧ (ts2 ≤ ta2) ∧ (ta2 ≤ tl) ∧ (tk2 ≤ 3) ∧ (tk2 = 2 → ts2 < ta2) ∧ (TX (cz fb tl) ts2 tk2 ta2) ∧ (TK (cz fb tl) p2 ts2 tk2 ta2) ∧ (an2 ≤ 2) ∧ (AFI an2 af2) ∧ (afC (cz fb tl) 3 p_ 0 0 0 = .inr (p2, an2, v_, w_)) ∧ ((0 < an2 → af2 0 = nI v_) ∧ (1 < an2 → af2 1 = nI w_))) ∨ (∃ (ta2 : Nat) (tk2 : Nat) (ts2 : Nat) (an2 : Int32) (wr2 : Int32) (pl2 : Nat) (af2 : Nat → Int32), rz = 0 ∧ uz = [(qs, .inr (5, [.ref qt, .ref po, .ref pa, .ref pf, .ref pd, .int nd, .int tn, .int an2, .int wr2, .int (nI pl2)])), (qt, .inr (10, [.ref tb, .int (nI tl), .int (nI ta2), .int (nI tk2), .int (nI ts2)])), (tb, .inl (E.2.1 0, 160, .inl fb)), (pf, .inl (E.2.1 1, 2, .inl af2))] ∧ (ts2 ≤ ta2) ∧ (ta2 ≤ tl) ∧ (tk2 ≤ 3) ∧ (tk2 = 2 → ts2 < ta2) ∧ (TX (cz fb tl) ts2 tk2 ta2) ∧ (afC (cz fb tl) 3 p_ 0 0 0 = .inl pl2)))) 0 0 := by
  refine ct_of rfl rfl ?_
  intro X C hT hin hro
  show WW X 2 E 0 [(0, .ref qs)] [] [(qs, .inr (5, [.ref qt, .ref po, .ref pa, .ref pf, .ref pd, .int nd, .int tn, .int 0, .int wr, .int pl])), (qt, .inr (10, [.ref tb, .int (nI tl), .int (nI ta), .int (nI tk), .int (nI ts)])), (tb, .inl (E.2.1 0, 160, .inl fb)), (pf, .inl (E.2.1 1, 2, .inl af))] 0 0
  refine ww_iconst (v := 0) C dX5_readAfters_0 rfl ?_
  refine ww_istore_n (lv' := [(1, .int 0), (0, .ref qs)]) C dX5_readAfters_1 rfl rfl rfl ?_
  refine ww_iload_n C dX5_readAfters_2 0 rfl rfl ?_
  refine ww_iconst (v := 2) C dX5_readAfters_3 rfl ?_
  refine ww_icmp_gt_f (tgt := 52) C dX5_readAfters_4 (by decide) (by decide) ?_
  refine ww_aload_n C dX5_readAfters_7 1 rfl rfl ?_
  refine ww_get C fg_X5_12 0 rfl rfl dX5_readAfters_8 ?_
  refine ww_ldcS (tx := "after") C (List.mem_of_getElem? (i := 0) rfl) rfl dX5_readAfters_11 ?_
  refine ww_ci (wr := [(qs, .inr (5, [.ref qt, .ref po, .ref pa, .ref pf, .ref pd, .int nd, .int tn, .int 0, .int wr, .int pl])), (pf, .inl (E.2.1 1, 2, .inl af))]) (k' := 0) (n' := 0) C (run_V (As := [.ref (E.2.2 77)]) (rest := []) C (t_isName X.2.1 E ro qt tb tl ta tk ts fb 0 (by decide) (by omega) (by omega) (by omega) (by omega)) mi_X10_isName wl_X5_78 rfl 0 10 rfl rfl rfl rfl rfl dX5_readAfters_13) (roK hro) [1, 2] [0, 3] rfl rfl rfl rfl (fun r_1 uz hw => ?_)
  rcases hw with hw | hw
  · refine an2 hw ?_
    clear hw
    intro he_3 he_4 hw
    have h_2 := hw
    clear hw
    have he_3 := he_3.symm
    subst he_3
    subst he_4
    refine ww_eq (ws' := [(qs, .inr (5, [.ref qt, .ref po, .ref pa, .ref pf, .ref pd, .int nd, .int tn, .int 0, .int wr, .int pl])), (pf, .inl (E.2.1 1, 2, .inl af)), (qt, .inr (10, [.ref tb, .int (nI tl), .int (nI ta), .int (nI tk), .int (nI ts)])), (tb, .inl (E.2.1 0, 160, .inl fb))]) ?_ rfl rfl rfl
    refine ww_if_eq_f (tgt := 52) C dX5_readAfters_16 (by decide) (by decide) ?_
    refine ww_iload_n C dX5_readAfters_19 0 rfl rfl ?_
    refine ww_iconst (v := 2) C dX5_readAfters_20 rfl ?_
    refine ww_icmp_ne_t (tgt := 30) C dX5_readAfters_21 (by decide) (by decide) ?_
    refine ww_aload_n C dX5_readAfters_30 1 rfl rfl ?_
    refine ww_ci (wr := [(pf, .inl (E.2.1 1, 2, .inl af))]) (k' := 0) (n' := 0) C (run_V (As := []) (rest := []) C (q_next X.2.1 E ro qs qt po pa pf pd nd tn 0 wr pl tb tl ta (nI tk) (nI ts) fb (by omega) (by omega)) mi_X5_next wl_X5_50 rfl 0 5 rfl rfl rfl rfl rfl dX5_readAfters_31) (roK hro) [0, 2, 3] [1] rfl rfl rfl rfl (fun r_8 uz hw => ?_)
    rcases hw with hw | hw
    · refine ex3 hw ?_
      clear hw
      intro ta2_9 tk2_10 ts2_11 hw
      refine an8 hw ?_
      clear hw
      intro he_19 he_20 h_12 h_13 h_14 h_15 h_16 h_17 hw
      have h_18 := hw
      clear hw
      have he_19 := he_19.symm
      subst he_19
      subst he_20
      refine ww_eq (ws' := [(pf, .inl (E.2.1 1, 2, .inl af)), (qs, .inr (5, [.ref qt, .ref po, .ref pa, .ref pf, .ref pd, .int nd, .int tn, .int 0, .int wr, .int pl])), (qt, .inr (10, [.ref tb, .int (nI tl), .int (nI ta2_9), .int (nI tk2_10), .int (nI ts2_11)])), (tb, .inl (E.2.1 0, 160, .inl fb))]) ?_ rfl rfl rfl
      refine ww_if_eq_f (tgt := 44) C dX5_readAfters_34 (by decide) (by decide) ?_
      refine ww_aload_n C dX5_readAfters_37 1 rfl rfl ?_
      refine ww_ci (wr := []) (k' := 0) (n' := 0) C (run_V (As := []) (rest := []) C (q_readEventNumber X.2.1 E ro qs qt po pa pf pd nd tn 0 wr pl tb tl ta2_9 tk2_10 ts2_11 fb af (by omega) (by omega) (by omega) (by omega) (by omega) h_16 (by omega) (by first | assumption | exact AFI.nil)) mi_X5_readEventNumber wl_X5_82 rfl 0 5 rfl rfl rfl rfl rfl dX5_readAfters_38) (roK hro) [1, 2, 3, 0] [] rfl rfl rfl rfl (fun r_33 uz hw => ?_)
      rcases hw with hw | hw
      · refine ex4 hw ?_
        clear hw
        intro ta2_34 tk2_35 ts2_36 af2_37 hw
        refine an8 hw ?_
        clear hw
        intro he_49 he_50 h_38 h_39 h_40 h_41 h_42 h_43 hw
        refine an4 hw ?_
        clear hw
        intro h_44 h_45 h_46 h_47 hw
        have h_48 := hw
        clear hw
        have he_49 := he_49.symm
        subst he_49
        subst he_50
        refine ww_eq (ws' := [(qs, .inr (5, [.ref qt, .ref po, .ref pa, .ref pf, .ref pd, .int nd, .int tn, .int (nI (0 + 1)), .int wr, .int pl])), (qt, .inr (10, [.ref tb, .int (nI tl), .int (nI ta2_34), .int (nI tk2_35), .int (nI ts2_36)])), (tb, .inl (E.2.1 0, 160, .inl fb)), (pf, .inl (E.2.1 1, 2, .inl af2_37))]) ?_ rfl rfl rfl
        refine ww_if_ne_t (tgt := 46) C dX5_readAfters_41 (by decide) (by decide) ?_
        have ch_66 := ag_go (f := 2) (v := 0) (w := 0) htok (show IN (cz fb tl) _ _ _ 13 from h_2) (by decide : 0 < 2) h_17 h_45 h_46 h_43 h_44
        simp only [if_true, Nat.zero_add] at ch_66
        have ch_66k := h_43
        refine ww_iinc (j := 0) (v := 1) (lv' := [(1, .int 1), (0, .ref qs)]) C dX5_readAfters_46 rfl rfl rfl rfl ?_
        refine ww_goto (tgt := 2) C dX5_readAfters_49 (by decide) ?_
        refine ww_iload_n C dX5_readAfters_2 0 rfl rfl ?_
        refine ww_iconst (v := 2) C dX5_readAfters_3 rfl ?_
        refine ww_icmp_gt_f (tgt := 52) C dX5_readAfters_4 (by decide) (by decide) ?_
        refine ww_aload_n C dX5_readAfters_7 1 rfl rfl ?_
        refine ww_get C fg_X5_12 0 rfl rfl dX5_readAfters_8 ?_
        refine ww_ldcS (tx := "after") C (List.mem_of_getElem? (i := 0) rfl) rfl dX5_readAfters_11 ?_
        refine ww_ci (wr := [(qs, .inr (5, [.ref qt, .ref po, .ref pa, .ref pf, .ref pd, .int nd, .int tn, .int (nI (0 + 1)), .int wr, .int pl])), (pf, .inl (E.2.1 1, 2, .inl af2_37))]) (k' := 0) (n' := 0) C (run_V (As := [.ref (E.2.2 77)]) (rest := []) C (t_isName X.2.1 E ro qt tb tl ta2_34 tk2_35 ts2_36 fb 0 (by decide) (by omega) (by omega) (by omega) (by omega)) mi_X10_isName wl_X5_78 rfl 0 10 rfl rfl rfl rfl rfl dX5_readAfters_13) (roK hro) [1, 2] [0, 3] rfl rfl rfl rfl (fun r_67 uz hw => ?_)
        rcases hw with hw | hw
        · refine an2 hw ?_
          clear hw
          intro he_69 he_70 hw
          have h_68 := hw
          clear hw
          have he_69 := he_69.symm
          subst he_69
          subst he_70
          refine ww_eq (ws' := [(qs, .inr (5, [.ref qt, .ref po, .ref pa, .ref pf, .ref pd, .int nd, .int tn, .int (nI (0 + 1)), .int wr, .int pl])), (pf, .inl (E.2.1 1, 2, .inl af2_37)), (qt, .inr (10, [.ref tb, .int (nI tl), .int (nI ta2_34), .int (nI tk2_35), .int (nI ts2_36)])), (tb, .inl (E.2.1 0, 160, .inl fb))]) ?_ rfl rfl rfl
          refine ww_if_eq_f (tgt := 52) C dX5_readAfters_16 (by decide) (by decide) ?_
          refine ww_iload_n C dX5_readAfters_19 0 rfl rfl ?_
          refine ww_iconst (v := 2) C dX5_readAfters_20 rfl ?_
          refine ww_icmp_ne_t (tgt := 30) C dX5_readAfters_21 (by decide) (by decide) ?_
          refine ww_aload_n C dX5_readAfters_30 1 rfl rfl ?_
          refine ww_ci (wr := [(pf, .inl (E.2.1 1, 2, .inl af2_37))]) (k' := 0) (n' := 0) C (run_V (As := []) (rest := []) C (q_next X.2.1 E ro qs qt po pa pf pd nd tn (nI (0 + 1)) wr pl tb tl ta2_34 (nI tk2_35) (nI ts2_36) fb (by omega) (by omega)) mi_X5_next wl_X5_50 rfl 0 5 rfl rfl rfl rfl rfl dX5_readAfters_31) (roK hro) [0, 2, 3] [1] rfl rfl rfl rfl (fun r_74 uz hw => ?_)
          rcases hw with hw | hw
          · refine ex3 hw ?_
            clear hw
            intro ta2_75 tk2_76 ts2_77 hw
            refine an8 hw ?_
            clear hw
            intro he_85 he_86 h_78 h_79 h_80 h_81 h_82 h_83 hw
            have h_84 := hw
            clear hw
            have he_85 := he_85.symm
            subst he_85
            subst he_86
            refine ww_eq (ws' := [(pf, .inl (E.2.1 1, 2, .inl af2_37)), (qs, .inr (5, [.ref qt, .ref po, .ref pa, .ref pf, .ref pd, .int nd, .int tn, .int (nI (0 + 1)), .int wr, .int pl])), (qt, .inr (10, [.ref tb, .int (nI tl), .int (nI ta2_75), .int (nI tk2_76), .int (nI ts2_77)])), (tb, .inl (E.2.1 0, 160, .inl fb))]) ?_ rfl rfl rfl
            refine ww_if_eq_f (tgt := 44) C dX5_readAfters_34 (by decide) (by decide) ?_
            refine ww_aload_n C dX5_readAfters_37 1 rfl rfl ?_
            refine ww_ci (wr := []) (k' := 0) (n' := 0) C (run_V (As := []) (rest := []) C (q_readEventNumber X.2.1 E ro qs qt po pa pf pd nd tn (0 + 1) wr pl tb tl ta2_75 tk2_76 ts2_77 fb af2_37 (by omega) (by omega) (by omega) (by omega) (by omega) h_82 (by omega) (by first | assumption | exact AFI.nil)) mi_X5_readEventNumber wl_X5_82 rfl 0 5 rfl rfl rfl rfl rfl dX5_readAfters_38) (roK hro) [1, 2, 3, 0] [] rfl rfl rfl rfl (fun r_99 uz hw => ?_)
            rcases hw with hw | hw
            · refine ex4 hw ?_
              clear hw
              intro ta2_100 tk2_101 ts2_102 af2_103 hw
              refine an8 hw ?_
              clear hw
              intro he_115 he_116 h_104 h_105 h_106 h_107 h_108 h_109 hw
              refine an4 hw ?_
              clear hw
              intro h_110 h_111 h_112 h_113 hw
              have h_114 := hw
              clear hw
              have he_115 := he_115.symm
              subst he_115
              subst he_116
              refine ww_eq (ws' := [(qs, .inr (5, [.ref qt, .ref po, .ref pa, .ref pf, .ref pd, .int nd, .int tn, .int (nI ((0 + 1) + 1)), .int wr, .int pl])), (qt, .inr (10, [.ref tb, .int (nI tl), .int (nI ta2_100), .int (nI tk2_101), .int (nI ts2_102)])), (tb, .inl (E.2.1 0, 160, .inl fb)), (pf, .inl (E.2.1 1, 2, .inl af2_103))]) ?_ rfl rfl rfl
              refine ww_if_ne_t (tgt := 46) C dX5_readAfters_41 (by decide) (by decide) ?_
              have ch_132 := ch_66.trans (ag_go (f := 1) (v := ((cz fb tl ts2_11 - 48).toNat)) (w := 0) ch_66k (show IN (cz fb tl) _ _ _ 13 from h_68) (by decide : 1 < 2) h_83 h_111 h_112 h_109 h_110)
              simp only [Nat.one_ne_zero, if_false, Nat.reduceAdd] at ch_132
              have ch_132k := h_109
              refine ww_iinc (j := 0) (v := 2) (lv' := [(1, .int 2), (0, .ref qs)]) C dX5_readAfters_46 rfl rfl rfl rfl ?_
              refine ww_goto (tgt := 2) C dX5_readAfters_49 (by decide) ?_
              refine ww_iload_n C dX5_readAfters_2 0 rfl rfl ?_
              refine ww_iconst (v := 2) C dX5_readAfters_3 rfl ?_
              refine ww_icmp_gt_f (tgt := 52) C dX5_readAfters_4 (by decide) (by decide) ?_
              refine ww_aload_n C dX5_readAfters_7 1 rfl rfl ?_
              refine ww_get C fg_X5_12 0 rfl rfl dX5_readAfters_8 ?_
              refine ww_ldcS (tx := "after") C (List.mem_of_getElem? (i := 0) rfl) rfl dX5_readAfters_11 ?_
              refine ww_ci (wr := [(qs, .inr (5, [.ref qt, .ref po, .ref pa, .ref pf, .ref pd, .int nd, .int tn, .int (nI ((0 + 1) + 1)), .int wr, .int pl])), (pf, .inl (E.2.1 1, 2, .inl af2_103))]) (k' := 0) (n' := 0) C (run_V (As := [.ref (E.2.2 77)]) (rest := []) C (t_isName X.2.1 E ro qt tb tl ta2_100 tk2_101 ts2_102 fb 0 (by decide) (by omega) (by omega) (by omega) (by omega)) mi_X10_isName wl_X5_78 rfl 0 10 rfl rfl rfl rfl rfl dX5_readAfters_13) (roK hro) [1, 2] [0, 3] rfl rfl rfl rfl (fun r_133 uz hw => ?_)
              rcases hw with hw | hw
              · refine an2 hw ?_
                clear hw
                intro he_135 he_136 hw
                have h_134 := hw
                clear hw
                have he_135 := he_135.symm
                subst he_135
                subst he_136
                refine ww_eq (ws' := [(qs, .inr (5, [.ref qt, .ref po, .ref pa, .ref pf, .ref pd, .int nd, .int tn, .int (nI ((0 + 1) + 1)), .int wr, .int pl])), (pf, .inl (E.2.1 1, 2, .inl af2_103)), (qt, .inr (10, [.ref tb, .int (nI tl), .int (nI ta2_100), .int (nI tk2_101), .int (nI ts2_102)])), (tb, .inl (E.2.1 0, 160, .inl fb))]) ?_ rfl rfl rfl
                refine ww_if_eq_f (tgt := 52) C dX5_readAfters_16 (by decide) (by decide) ?_
                refine ww_iload_n C dX5_readAfters_19 0 rfl rfl ?_
                refine ww_iconst (v := 2) C dX5_readAfters_20 rfl ?_
                refine ww_icmp_ne_f (tgt := 30) C dX5_readAfters_21 (by decide) (rfl) ?_
                refine ww_aload_n C dX5_readAfters_24 1 rfl rfl ?_
                refine ww_iconst (v := 4) C dX5_readAfters_25 rfl ?_
                refine ww_ci (wr := [(pf, .inl (E.2.1 1, 2, .inl af2_103)), (tb, .inl (E.2.1 0, 160, .inl fb))]) (k' := 0) (n' := 0) C (run_V (As := [.int 4]) (rest := []) C (q_fail X.2.1 E ro qs 4 qt po pa pf pd nd tn (nI ((0 + 1) + 1)) wr pl tb tl (nI ta2_100) tk2_101 ts2_102 (by omega)) mi_X5_fail wl_X5_63 rfl 0 5 rfl rfl rfl rfl rfl dX5_readAfters_26) (roK hro) [0, 2] [1, 3] rfl rfl rfl rfl (fun r_140 uz hw => ?_)
                refine an1 hw ?_
                clear hw
                intro he_141 hw
                have he_142 := hw
                clear hw
                have he_141 := he_141.symm
                subst he_141
                subst he_142
                refine ww_eq (ws' := [(pf, .inl (E.2.1 1, 2, .inl af2_103)), (tb, .inl (E.2.1 0, 160, .inl fb)), (qs, .inr (5, [.ref qt, .ref po, .ref pa, .ref pf, .ref pd, .int nd, .int tn, .int (nI ((0 + 1) + 1)), .int 4, .int (nI ts2_102)])), (qt, .inr (10, [.ref tb, .int (nI tl), .int (nI ta2_100), .int (nI tk2_101), .int (nI ts2_102)]))]) ?_ rfl rfl rfl
                exact ww_zret (u := [(qs, .inr (5, [.ref qt, .ref po, .ref pa, .ref pf, .ref pd, .int nd, .int tn, .int (nI ((0 + 1) + 1)), .int 4, .int (nI ts2_102)])), (qt, .inr (10, [.ref tb, .int (nI tl), .int (nI ta2_100), .int (nI tk2_101), .int (nI ts2_102)])), (tb, .inl (E.2.1 0, 160, .inl fb)), (pf, .inl (E.2.1 1, 2, .inl af2_103))]) C hT [2, 3, 1, 0] rfl rfl rfl rfl rfl dX5_readAfters_29 (Or.inr ⟨ta2_100, tk2_101, ts2_102, (nI ((0 + 1) + 1)), 4, ts2_102, af2_103, rfl, rfl, (by first | assumption | omega | decide), (by first | assumption | omega | decide), (by first | assumption | omega | decide), (by omega), h_108, (ch_132.trans (ag_b1 ch_132k (show IN (cz fb tl) _ _ _ 13 from h_134) (by decide)))⟩)
              · refine an2 hw ?_
                clear hw
                intro he_138 he_139 hw
                have h_137 := hw
                clear hw
                have he_138 := he_138.symm
                subst he_138
                subst he_139
                refine ww_eq (ws' := [(qs, .inr (5, [.ref qt, .ref po, .ref pa, .ref pf, .ref pd, .int nd, .int tn, .int (nI ((0 + 1) + 1)), .int wr, .int pl])), (pf, .inl (E.2.1 1, 2, .inl af2_103)), (qt, .inr (10, [.ref tb, .int (nI tl), .int (nI ta2_100), .int (nI tk2_101), .int (nI ts2_102)])), (tb, .inl (E.2.1 0, 160, .inl fb))]) ?_ rfl rfl rfl
                refine ww_if_eq_t (tgt := 52) C dX5_readAfters_16 (by decide) (rfl) ?_
                refine ww_iconst (v := 1) C dX5_readAfters_52 rfl ?_
                exact ww_zret (u := [(qs, .inr (5, [.ref qt, .ref po, .ref pa, .ref pf, .ref pd, .int nd, .int tn, .int (nI ((0 + 1) + 1)), .int wr, .int pl])), (qt, .inr (10, [.ref tb, .int (nI tl), .int (nI ta2_100), .int (nI tk2_101), .int (nI ts2_102)])), (tb, .inl (E.2.1 0, 160, .inl fb)), (pf, .inl (E.2.1 1, 2, .inl af2_103))]) C hT [0, 2, 3, 1] rfl rfl rfl rfl rfl dX5_readAfters_53 (Or.inl ⟨ta2_100, tk2_101, ts2_102, ((0 + 1) + 1), ta2_75, ((cz fb tl ts2_11 - 48).toNat), ((cz fb tl ts2_77 - 48).toNat), af2_103, rfl, rfl, (by first | assumption | omega | decide), (by first | assumption | omega | decide), (by first | assumption | omega | decide), (by omega), h_108, ch_132k, (by omega), (by first | assumption | exact AFI.nil), (ch_132.trans (ag_stop ch_132k (show ¬ IN (cz fb tl) _ _ _ 13 from h_137))), ⟨fun _ => by rw [← h_113, pk_un (by decide), ← h_47, pk_us], fun _ => by rw [← h_113, pk_us]⟩⟩)
            · refine ex7 hw ?_
              clear hw
              intro ta2_117 tk2_118 ts2_119 an2_120 wr2_121 pl2_122 af2_123 hw
              refine an7 hw ?_
              clear hw
              intro he_130 he_131 h_124 h_125 h_126 h_127 h_128 hw
              have h_129 := hw
              clear hw
              have he_130 := he_130.symm
              subst he_130
              subst he_131
              refine ww_eq (ws' := [(qs, .inr (5, [.ref qt, .ref po, .ref pa, .ref pf, .ref pd, .int nd, .int tn, .int an2_120, .int wr2_121, .int (nI pl2_122)])), (qt, .inr (10, [.ref tb, .int (nI tl), .int (nI ta2_117), .int (nI tk2_118), .int (nI ts2_119)])), (tb, .inl (E.2.1 0, 160, .inl fb)), (pf, .inl (E.2.1 1, 2, .inl af2_123))]) ?_ rfl rfl rfl
              refine ww_if_ne_f (tgt := 46) C dX5_readAfters_41 (by decide) (rfl) ?_
              refine ww_iconst (v := 0) C dX5_readAfters_44 rfl ?_
              exact ww_zret (u := [(qs, .inr (5, [.ref qt, .ref po, .ref pa, .ref pf, .ref pd, .int nd, .int tn, .int an2_120, .int wr2_121, .int (nI pl2_122)])), (qt, .inr (10, [.ref tb, .int (nI tl), .int (nI ta2_117), .int (nI tk2_118), .int (nI ts2_119)])), (tb, .inl (E.2.1 0, 160, .inl fb)), (pf, .inl (E.2.1 1, 2, .inl af2_123))]) C hT [0, 1, 2, 3] rfl rfl rfl rfl rfl dX5_readAfters_45 (Or.inr ⟨ta2_117, tk2_118, ts2_119, an2_120, wr2_121, pl2_122, af2_123, rfl, rfl, (by first | assumption | omega | decide), (by first | assumption | omega | decide), (by first | assumption | omega | decide), (by omega), h_128, (h_129.elim (fun q => by rw [q.2]; exact (ch_66.trans (ag_b2 ch_66k (show IN (cz fb tl) _ _ _ 13 from h_68) (by decide) h_83 q.1))) (fun q => by rw [q.2.2.2]; exact (ch_66.trans (ag_b3 ch_66k (show IN (cz fb tl) _ _ _ 13 from h_68) (by decide) h_83 q.1 q.2.1 q.2.2.1))))⟩)
          · refine ex3 hw ?_
            clear hw
            intro ta2_87 tk2_88 ts2_89 hw
            refine an8 hw ?_
            clear hw
            intro he_97 he_98 h_90 h_91 h_92 h_93 h_94 h_95 hw
            have h_96 := hw
            clear hw
            have he_97 := he_97.symm
            subst he_97
            subst he_98
            refine ww_eq (ws' := [(pf, .inl (E.2.1 1, 2, .inl af2_37)), (qs, .inr (5, [.ref qt, .ref po, .ref pa, .ref pf, .ref pd, .int nd, .int tn, .int (nI (0 + 1)), .int 1, .int (nI ts2_89)])), (qt, .inr (10, [.ref tb, .int (nI tl), .int (nI ta2_87), .int (nI tk2_88), .int (nI ts2_89)])), (tb, .inl (E.2.1 0, 160, .inl fb))]) ?_ rfl rfl rfl
            refine ww_if_eq_t (tgt := 44) C dX5_readAfters_34 (by decide) (rfl) ?_
            refine ww_iconst (v := 0) C dX5_readAfters_44 rfl ?_
            exact ww_zret (u := [(qs, .inr (5, [.ref qt, .ref po, .ref pa, .ref pf, .ref pd, .int nd, .int tn, .int (nI (0 + 1)), .int 1, .int (nI ts2_89)])), (qt, .inr (10, [.ref tb, .int (nI tl), .int (nI ta2_87), .int (nI tk2_88), .int (nI ts2_89)])), (tb, .inl (E.2.1 0, 160, .inl fb)), (pf, .inl (E.2.1 1, 2, .inl af2_37))]) C hT [1, 2, 3, 0] rfl rfl rfl rfl rfl dX5_readAfters_45 (Or.inr ⟨ta2_87, tk2_88, ts2_89, (nI (0 + 1)), 1, ts2_89, af2_37, rfl, rfl, (by first | assumption | omega | decide), (by first | assumption | omega | decide), (by first | assumption | omega | decide), (by omega), h_94, (ch_66.trans (ag_b2 ch_66k (show IN (cz fb tl) _ _ _ 13 from h_68) (by decide) h_95 (Or.inl (by omega))))⟩)
        · refine an2 hw ?_
          clear hw
          intro he_72 he_73 hw
          have h_71 := hw
          clear hw
          have he_72 := he_72.symm
          subst he_72
          subst he_73
          refine ww_eq (ws' := [(qs, .inr (5, [.ref qt, .ref po, .ref pa, .ref pf, .ref pd, .int nd, .int tn, .int (nI (0 + 1)), .int wr, .int pl])), (pf, .inl (E.2.1 1, 2, .inl af2_37)), (qt, .inr (10, [.ref tb, .int (nI tl), .int (nI ta2_34), .int (nI tk2_35), .int (nI ts2_36)])), (tb, .inl (E.2.1 0, 160, .inl fb))]) ?_ rfl rfl rfl
          refine ww_if_eq_t (tgt := 52) C dX5_readAfters_16 (by decide) (rfl) ?_
          refine ww_iconst (v := 1) C dX5_readAfters_52 rfl ?_
          exact ww_zret (u := [(qs, .inr (5, [.ref qt, .ref po, .ref pa, .ref pf, .ref pd, .int nd, .int tn, .int (nI (0 + 1)), .int wr, .int pl])), (qt, .inr (10, [.ref tb, .int (nI tl), .int (nI ta2_34), .int (nI tk2_35), .int (nI ts2_36)])), (tb, .inl (E.2.1 0, 160, .inl fb)), (pf, .inl (E.2.1 1, 2, .inl af2_37))]) C hT [0, 2, 3, 1] rfl rfl rfl rfl rfl dX5_readAfters_53 (Or.inl ⟨ta2_34, tk2_35, ts2_36, (0 + 1), ta2_9, ((cz fb tl ts2_11 - 48).toNat), 0, af2_37, rfl, rfl, (by first | assumption | omega | decide), (by first | assumption | omega | decide), (by first | assumption | omega | decide), (by omega), h_42, ch_66k, (by omega), (by first | assumption | exact AFI.nil), (ch_66.trans (ag_stop ch_66k (show ¬ IN (cz fb tl) _ _ _ 13 from h_71))), ⟨fun _ => by rw [← h_47, pk_us], fun h => absurd h (by omega)⟩⟩)
      · refine ex7 hw ?_
        clear hw
        intro ta2_51 tk2_52 ts2_53 an2_54 wr2_55 pl2_56 af2_57 hw
        refine an7 hw ?_
        clear hw
        intro he_64 he_65 h_58 h_59 h_60 h_61 h_62 hw
        have h_63 := hw
        clear hw
        have he_64 := he_64.symm
        subst he_64
        subst he_65
        refine ww_eq (ws' := [(qs, .inr (5, [.ref qt, .ref po, .ref pa, .ref pf, .ref pd, .int nd, .int tn, .int an2_54, .int wr2_55, .int (nI pl2_56)])), (qt, .inr (10, [.ref tb, .int (nI tl), .int (nI ta2_51), .int (nI tk2_52), .int (nI ts2_53)])), (tb, .inl (E.2.1 0, 160, .inl fb)), (pf, .inl (E.2.1 1, 2, .inl af2_57))]) ?_ rfl rfl rfl
        refine ww_if_ne_f (tgt := 46) C dX5_readAfters_41 (by decide) (rfl) ?_
        refine ww_iconst (v := 0) C dX5_readAfters_44 rfl ?_
        exact ww_zret (u := [(qs, .inr (5, [.ref qt, .ref po, .ref pa, .ref pf, .ref pd, .int nd, .int tn, .int an2_54, .int wr2_55, .int (nI pl2_56)])), (qt, .inr (10, [.ref tb, .int (nI tl), .int (nI ta2_51), .int (nI tk2_52), .int (nI ts2_53)])), (tb, .inl (E.2.1 0, 160, .inl fb)), (pf, .inl (E.2.1 1, 2, .inl af2_57))]) C hT [0, 1, 2, 3] rfl rfl rfl rfl rfl dX5_readAfters_45 (Or.inr ⟨ta2_51, tk2_52, ts2_53, an2_54, wr2_55, pl2_56, af2_57, rfl, rfl, (by first | assumption | omega | decide), (by first | assumption | omega | decide), (by first | assumption | omega | decide), (by omega), h_62, (h_63.elim (fun q => by rw [q.2]; exact (ag_b2 htok (show IN (cz fb tl) _ _ _ 13 from h_2) (by decide) h_17 q.1)) (fun q => by rw [q.2.2.2]; exact (ag_b3 htok (show IN (cz fb tl) _ _ _ 13 from h_2) (by decide) h_17 q.1 q.2.1 q.2.2.1)))⟩)
    · refine ex3 hw ?_
      clear hw
      intro ta2_21 tk2_22 ts2_23 hw
      refine an8 hw ?_
      clear hw
      intro he_31 he_32 h_24 h_25 h_26 h_27 h_28 h_29 hw
      have h_30 := hw
      clear hw
      have he_31 := he_31.symm
      subst he_31
      subst he_32
      refine ww_eq (ws' := [(pf, .inl (E.2.1 1, 2, .inl af)), (qs, .inr (5, [.ref qt, .ref po, .ref pa, .ref pf, .ref pd, .int nd, .int tn, .int 0, .int 1, .int (nI ts2_23)])), (qt, .inr (10, [.ref tb, .int (nI tl), .int (nI ta2_21), .int (nI tk2_22), .int (nI ts2_23)])), (tb, .inl (E.2.1 0, 160, .inl fb))]) ?_ rfl rfl rfl
      refine ww_if_eq_t (tgt := 44) C dX5_readAfters_34 (by decide) (rfl) ?_
      refine ww_iconst (v := 0) C dX5_readAfters_44 rfl ?_
      exact ww_zret (u := [(qs, .inr (5, [.ref qt, .ref po, .ref pa, .ref pf, .ref pd, .int nd, .int tn, .int 0, .int 1, .int (nI ts2_23)])), (qt, .inr (10, [.ref tb, .int (nI tl), .int (nI ta2_21), .int (nI tk2_22), .int (nI ts2_23)])), (tb, .inl (E.2.1 0, 160, .inl fb)), (pf, .inl (E.2.1 1, 2, .inl af))]) C hT [1, 2, 3, 0] rfl rfl rfl rfl rfl dX5_readAfters_45 (Or.inr ⟨ta2_21, tk2_22, ts2_23, 0, 1, ts2_23, af, rfl, rfl, (by first | assumption | omega | decide), (by first | assumption | omega | decide), (by first | assumption | omega | decide), (by omega), h_28, (ag_b2 htok (show IN (cz fb tl) _ _ _ 13 from h_2) (by decide) h_29 (Or.inl (by omega)))⟩)
  · refine an2 hw ?_
    clear hw
    intro he_6 he_7 hw
    have h_5 := hw
    clear hw
    have he_6 := he_6.symm
    subst he_6
    subst he_7
    refine ww_eq (ws' := [(qs, .inr (5, [.ref qt, .ref po, .ref pa, .ref pf, .ref pd, .int nd, .int tn, .int 0, .int wr, .int pl])), (pf, .inl (E.2.1 1, 2, .inl af)), (qt, .inr (10, [.ref tb, .int (nI tl), .int (nI ta), .int (nI tk), .int (nI ts)])), (tb, .inl (E.2.1 0, 160, .inl fb))]) ?_ rfl rfl rfl
    refine ww_if_eq_t (tgt := 52) C dX5_readAfters_16 (by decide) (rfl) ?_
    refine ww_iconst (v := 1) C dX5_readAfters_52 rfl ?_
    exact ww_zret (u := [(qs, .inr (5, [.ref qt, .ref po, .ref pa, .ref pf, .ref pd, .int nd, .int tn, .int 0, .int wr, .int pl])), (qt, .inr (10, [.ref tb, .int (nI tl), .int (nI ta), .int (nI tk), .int (nI ts)])), (tb, .inl (E.2.1 0, 160, .inl fb)), (pf, .inl (E.2.1 1, 2, .inl af))]) C hT [0, 2, 3, 1] rfl rfl rfl rfl rfl dX5_readAfters_53 (Or.inl ⟨ta, tk, ts, 0, p_, 0, 0, af, rfl, rfl, (by first | assumption | omega | decide), (by first | assumption | omega | decide), (by first | assumption | omega | decide), (by omega), hfg, htok, (by omega), (by first | assumption | exact AFI.nil), (ag_stop htok (show ¬ IN (cz fb tl) _ _ _ 13 from h_5)), ⟨fun h => absurd h (by omega), fun h => absurd h (by omega)⟩⟩)
theorem dX5_factOfName_0 : decode cX5_factOfName 0 = .ok (.aload_n 0, 1) := by decide +kernel
theorem dX5_factOfName_1 : decode cX5_factOfName 1 = .ok (.getfield 12, 3) := by decide +kernel
theorem dX5_factOfName_4 : decode cX5_factOfName 4 = .ok (.ldc 116, 2) := by decide +kernel
theorem dX5_factOfName_6 : decode cX5_factOfName 6 = .ok (.invokevirtual 78, 3) := by decide +kernel
theorem dX5_factOfName_9 : decode cX5_factOfName 9 = .ok (.ifCond .eq 5, 3) := by decide +kernel
theorem dX5_factOfName_12 : decode cX5_factOfName 12 = .ok (.iconst 1, 1) := by decide +kernel
theorem dX5_factOfName_13 : decode cX5_factOfName 13 = .ok (.ireturn, 1) := by decide +kernel
theorem dX5_factOfName_14 : decode cX5_factOfName 14 = .ok (.aload_n 0, 1) := by decide +kernel
theorem dX5_factOfName_15 : decode cX5_factOfName 15 = .ok (.getfield 12, 3) := by decide +kernel
theorem dX5_factOfName_18 : decode cX5_factOfName 18 = .ok (.ldc 118, 2) := by decide +kernel
theorem dX5_factOfName_20 : decode cX5_factOfName 20 = .ok (.invokevirtual 78, 3) := by decide +kernel
theorem dX5_factOfName_23 : decode cX5_factOfName 23 = .ok (.ifCond .eq 5, 3) := by decide +kernel
theorem dX5_factOfName_26 : decode cX5_factOfName 26 = .ok (.iconst 2, 1) := by decide +kernel
theorem dX5_factOfName_27 : decode cX5_factOfName 27 = .ok (.ireturn, 1) := by decide +kernel
theorem dX5_factOfName_28 : decode cX5_factOfName 28 = .ok (.aload_n 0, 1) := by decide +kernel
theorem dX5_factOfName_29 : decode cX5_factOfName 29 = .ok (.getfield 12, 3) := by decide +kernel
theorem dX5_factOfName_32 : decode cX5_factOfName 32 = .ok (.ldc 120, 2) := by decide +kernel
theorem dX5_factOfName_34 : decode cX5_factOfName 34 = .ok (.invokevirtual 78, 3) := by decide +kernel
theorem dX5_factOfName_37 : decode cX5_factOfName 37 = .ok (.ifCond .eq 5, 3) := by decide +kernel
theorem dX5_factOfName_40 : decode cX5_factOfName 40 = .ok (.iconst 4, 1) := by decide +kernel
theorem dX5_factOfName_41 : decode cX5_factOfName 41 = .ok (.ireturn, 1) := by decide +kernel
theorem dX5_factOfName_42 : decode cX5_factOfName 42 = .ok (.aload_n 0, 1) := by decide +kernel
theorem dX5_factOfName_43 : decode cX5_factOfName 43 = .ok (.getfield 12, 3) := by decide +kernel
theorem dX5_factOfName_46 : decode cX5_factOfName 46 = .ok (.ldc 122, 2) := by decide +kernel
theorem dX5_factOfName_48 : decode cX5_factOfName 48 = .ok (.invokevirtual 78, 3) := by decide +kernel
theorem dX5_factOfName_51 : decode cX5_factOfName 51 = .ok (.ifCond .eq 8, 3) := by decide +kernel
theorem dX5_factOfName_54 : decode cX5_factOfName 54 = .ok (.bipush 8, 2) := by decide +kernel
theorem dX5_factOfName_56 : decode cX5_factOfName 56 = .ok (.goto 4, 3) := by decide +kernel
theorem dX5_factOfName_60 : decode cX5_factOfName 60 = .ok (.ireturn, 1) := by decide +kernel
theorem dX5_factOfName_59 : decode cX5_factOfName 59 = .ok (.iconst 0, 1) := by decide +kernel
set_option maxRecDepth 100000 in
set_option maxHeartbeats 4000000 in
theorem q_factOfName (l : Launch) (E : EV) (ro : va_W) (qs : Nat) (qt : Nat) (po : Nat) (pa : Nat) (pf : Nat) (pd : Nat) (nd : Int32) (tn : Int32) (an : Int32) (wr : Int32) (pl : Int32) (tb : Nat) (tl : Nat) (ta : Nat) (tk : Nat) (ts : Nat) (fb : Nat → Int32) (hts : ts ≤ ta) (hta : ta ≤ tl) (htl : tl ≤ 160) (htk : tk ≤ 3) (hs9 : tk = 2 → ts < ta) (hfg : TX (cz fb tl) ts tk ta) : CT l yX5_factOfName (Cond.code yX5_factOfName cX5_factOfName 1 (some .int) :: TB) ({ frames := 5, cells := 0, slots := 0, locals := 107 }) E ro [.ref qs] [(qs, .inr (5, [.ref qt, .ref po, .ref pa, .ref pf, .ref pd, .int nd, .int tn, .int an, .int wr, .int pl])), (qt, .inr (10, [.ref tb, .int (nI tl), .int (nI ta), .int (nI tk), .int (nI ts)])), (tb, .inl (E.2.1 0, 160, .inl fb))] (Qi E (fun (rz : Int32) uz => (rz = (fv (aT (cz fb tl) ts tk ta)) ∧ uz = [(qs, .inr (5, [.ref qt, .ref po, .ref pa, .ref pf, .ref pd, .int nd, .int tn, .int an, .int wr, .int pl])), (qt, .inr (10, [.ref tb, .int (nI tl), .int (nI ta), .int (nI tk), .int (nI ts)])), (tb, .inl (E.2.1 0, 160, .inl fb))]))) 0 0 := by
  refine ct_of rfl rfl ?_
  intro X C hT hin hro
  show WW X 1 E 0 [(0, .ref qs)] [] [(qs, .inr (5, [.ref qt, .ref po, .ref pa, .ref pf, .ref pd, .int nd, .int tn, .int an, .int wr, .int pl])), (qt, .inr (10, [.ref tb, .int (nI tl), .int (nI ta), .int (nI tk), .int (nI ts)])), (tb, .inl (E.2.1 0, 160, .inl fb))] 0 0
  refine ww_aload_n C dX5_factOfName_0 0 rfl rfl ?_
  refine ww_get C fg_X5_12 0 rfl rfl dX5_factOfName_1 ?_
  refine ww_ldcS (tx := String.singleton 'p') C (List.mem_of_getElem? (i := 1) rfl) rfl dX5_factOfName_4 ?_
  refine ww_ci (wr := [(qs, .inr (5, [.ref qt, .ref po, .ref pa, .ref pf, .ref pd, .int nd, .int tn, .int an, .int wr, .int pl]))]) (k' := 0) (n' := 0) C (run_V (As := [.ref (E.2.2 116)]) (rest := []) C (t_isName X.2.1 E ro qt tb tl ta tk ts fb 1 (by decide) (by omega) (by omega) (by omega) (by omega)) mi_X10_isName wl_X5_78 rfl 0 10 rfl rfl rfl rfl rfl dX5_factOfName_6) (roK hro) [1, 2] [0] rfl rfl rfl rfl (fun r_1 uz hw => ?_)
  rcases hw with hw | hw
  · refine an2 hw ?_
    clear hw
    intro he_3 he_4 hw
    have h_2 := hw
    clear hw
    have he_3 := he_3.symm
    subst he_3
    subst he_4
    refine ww_eq (ws' := [(qs, .inr (5, [.ref qt, .ref po, .ref pa, .ref pf, .ref pd, .int nd, .int tn, .int an, .int wr, .int pl])), (qt, .inr (10, [.ref tb, .int (nI tl), .int (nI ta), .int (nI tk), .int (nI ts)])), (tb, .inl (E.2.1 0, 160, .inl fb))]) ?_ rfl rfl rfl
    refine ww_if_eq_f (tgt := 14) C dX5_factOfName_9 (by decide) (by decide) ?_
    refine ww_iconst (v := 1) C dX5_factOfName_12 rfl ?_
    exact ww_iret (u := [(qs, .inr (5, [.ref qt, .ref po, .ref pa, .ref pf, .ref pd, .int nd, .int tn, .int an, .int wr, .int pl])), (qt, .inr (10, [.ref tb, .int (nI tl), .int (nI ta), .int (nI tk), .int (nI ts)])), (tb, .inl (E.2.1 0, 160, .inl fb))]) C hT [0, 1, 2] rfl rfl rfl rfl dX5_factOfName_13 (⟨(by rw [aT_of (show IN (cz fb tl) ts tk ta 0 from h_2) (by decide)]; rfl), rfl⟩)
  · refine an2 hw ?_
    clear hw
    intro he_6 he_7 hw
    have h_5 := hw
    clear hw
    have he_6 := he_6.symm
    subst he_6
    subst he_7
    refine ww_eq (ws' := [(qs, .inr (5, [.ref qt, .ref po, .ref pa, .ref pf, .ref pd, .int nd, .int tn, .int an, .int wr, .int pl])), (qt, .inr (10, [.ref tb, .int (nI tl), .int (nI ta), .int (nI tk), .int (nI ts)])), (tb, .inl (E.2.1 0, 160, .inl fb))]) ?_ rfl rfl rfl
    refine ww_if_eq_t (tgt := 14) C dX5_factOfName_9 (by decide) (rfl) ?_
    refine ww_aload_n C dX5_factOfName_14 0 rfl rfl ?_
    refine ww_get C fg_X5_12 0 rfl rfl dX5_factOfName_15 ?_
    refine ww_ldcS (tx := String.singleton 'q') C (List.mem_of_getElem? (i := 2) rfl) rfl dX5_factOfName_18 ?_
    refine ww_ci (wr := [(qs, .inr (5, [.ref qt, .ref po, .ref pa, .ref pf, .ref pd, .int nd, .int tn, .int an, .int wr, .int pl]))]) (k' := 0) (n' := 0) C (run_V (As := [.ref (E.2.2 118)]) (rest := []) C (t_isName X.2.1 E ro qt tb tl ta tk ts fb 2 (by decide) (by omega) (by omega) (by omega) (by omega)) mi_X10_isName wl_X5_78 rfl 0 10 rfl rfl rfl rfl rfl dX5_factOfName_20) (roK hro) [1, 2] [0] rfl rfl rfl rfl (fun r_8 uz hw => ?_)
    rcases hw with hw | hw
    · refine an2 hw ?_
      clear hw
      intro he_10 he_11 hw
      have h_9 := hw
      clear hw
      have he_10 := he_10.symm
      subst he_10
      subst he_11
      refine ww_eq (ws' := [(qs, .inr (5, [.ref qt, .ref po, .ref pa, .ref pf, .ref pd, .int nd, .int tn, .int an, .int wr, .int pl])), (qt, .inr (10, [.ref tb, .int (nI tl), .int (nI ta), .int (nI tk), .int (nI ts)])), (tb, .inl (E.2.1 0, 160, .inl fb))]) ?_ rfl rfl rfl
      refine ww_if_eq_f (tgt := 28) C dX5_factOfName_23 (by decide) (by decide) ?_
      refine ww_iconst (v := 2) C dX5_factOfName_26 rfl ?_
      exact ww_iret (u := [(qs, .inr (5, [.ref qt, .ref po, .ref pa, .ref pf, .ref pd, .int nd, .int tn, .int an, .int wr, .int pl])), (qt, .inr (10, [.ref tb, .int (nI tl), .int (nI ta), .int (nI tk), .int (nI ts)])), (tb, .inl (E.2.1 0, 160, .inl fb))]) C hT [0, 1, 2] rfl rfl rfl rfl dX5_factOfName_27 (⟨(by rw [aT_of (show IN (cz fb tl) ts tk ta 1 from h_9) (by decide)]; rfl), rfl⟩)
    · refine an2 hw ?_
      clear hw
      intro he_13 he_14 hw
      have h_12 := hw
      clear hw
      have he_13 := he_13.symm
      subst he_13
      subst he_14
      refine ww_eq (ws' := [(qs, .inr (5, [.ref qt, .ref po, .ref pa, .ref pf, .ref pd, .int nd, .int tn, .int an, .int wr, .int pl])), (qt, .inr (10, [.ref tb, .int (nI tl), .int (nI ta), .int (nI tk), .int (nI ts)])), (tb, .inl (E.2.1 0, 160, .inl fb))]) ?_ rfl rfl rfl
      refine ww_if_eq_t (tgt := 28) C dX5_factOfName_23 (by decide) (rfl) ?_
      refine ww_aload_n C dX5_factOfName_28 0 rfl rfl ?_
      refine ww_get C fg_X5_12 0 rfl rfl dX5_factOfName_29 ?_
      refine ww_ldcS (tx := String.singleton 'r') C (List.mem_of_getElem? (i := 3) rfl) rfl dX5_factOfName_32 ?_
      refine ww_ci (wr := [(qs, .inr (5, [.ref qt, .ref po, .ref pa, .ref pf, .ref pd, .int nd, .int tn, .int an, .int wr, .int pl]))]) (k' := 0) (n' := 0) C (run_V (As := [.ref (E.2.2 120)]) (rest := []) C (t_isName X.2.1 E ro qt tb tl ta tk ts fb 3 (by decide) (by omega) (by omega) (by omega) (by omega)) mi_X10_isName wl_X5_78 rfl 0 10 rfl rfl rfl rfl rfl dX5_factOfName_34) (roK hro) [1, 2] [0] rfl rfl rfl rfl (fun r_15 uz hw => ?_)
      rcases hw with hw | hw
      · refine an2 hw ?_
        clear hw
        intro he_17 he_18 hw
        have h_16 := hw
        clear hw
        have he_17 := he_17.symm
        subst he_17
        subst he_18
        refine ww_eq (ws' := [(qs, .inr (5, [.ref qt, .ref po, .ref pa, .ref pf, .ref pd, .int nd, .int tn, .int an, .int wr, .int pl])), (qt, .inr (10, [.ref tb, .int (nI tl), .int (nI ta), .int (nI tk), .int (nI ts)])), (tb, .inl (E.2.1 0, 160, .inl fb))]) ?_ rfl rfl rfl
        refine ww_if_eq_f (tgt := 42) C dX5_factOfName_37 (by decide) (by decide) ?_
        refine ww_iconst (v := 4) C dX5_factOfName_40 rfl ?_
        exact ww_iret (u := [(qs, .inr (5, [.ref qt, .ref po, .ref pa, .ref pf, .ref pd, .int nd, .int tn, .int an, .int wr, .int pl])), (qt, .inr (10, [.ref tb, .int (nI tl), .int (nI ta), .int (nI tk), .int (nI ts)])), (tb, .inl (E.2.1 0, 160, .inl fb))]) C hT [0, 1, 2] rfl rfl rfl rfl dX5_factOfName_41 (⟨(by rw [aT_of (show IN (cz fb tl) ts tk ta 2 from h_16) (by decide)]; rfl), rfl⟩)
      · refine an2 hw ?_
        clear hw
        intro he_20 he_21 hw
        have h_19 := hw
        clear hw
        have he_20 := he_20.symm
        subst he_20
        subst he_21
        refine ww_eq (ws' := [(qs, .inr (5, [.ref qt, .ref po, .ref pa, .ref pf, .ref pd, .int nd, .int tn, .int an, .int wr, .int pl])), (qt, .inr (10, [.ref tb, .int (nI tl), .int (nI ta), .int (nI tk), .int (nI ts)])), (tb, .inl (E.2.1 0, 160, .inl fb))]) ?_ rfl rfl rfl
        refine ww_if_eq_t (tgt := 42) C dX5_factOfName_37 (by decide) (rfl) ?_
        refine ww_aload_n C dX5_factOfName_42 0 rfl rfl ?_
        refine ww_get C fg_X5_12 0 rfl rfl dX5_factOfName_43 ?_
        refine ww_ldcS (tx := String.singleton 's') C (List.mem_of_getElem? (i := 4) rfl) rfl dX5_factOfName_46 ?_
        refine ww_ci (wr := [(qs, .inr (5, [.ref qt, .ref po, .ref pa, .ref pf, .ref pd, .int nd, .int tn, .int an, .int wr, .int pl]))]) (k' := 0) (n' := 0) C (run_V (As := [.ref (E.2.2 122)]) (rest := []) C (t_isName X.2.1 E ro qt tb tl ta tk ts fb 4 (by decide) (by omega) (by omega) (by omega) (by omega)) mi_X10_isName wl_X5_78 rfl 0 10 rfl rfl rfl rfl rfl dX5_factOfName_48) (roK hro) [1, 2] [0] rfl rfl rfl rfl (fun r_22 uz hw => ?_)
        rcases hw with hw | hw
        · refine an2 hw ?_
          clear hw
          intro he_24 he_25 hw
          have h_23 := hw
          clear hw
          have he_24 := he_24.symm
          subst he_24
          subst he_25
          refine ww_eq (ws' := [(qs, .inr (5, [.ref qt, .ref po, .ref pa, .ref pf, .ref pd, .int nd, .int tn, .int an, .int wr, .int pl])), (qt, .inr (10, [.ref tb, .int (nI tl), .int (nI ta), .int (nI tk), .int (nI ts)])), (tb, .inl (E.2.1 0, 160, .inl fb))]) ?_ rfl rfl rfl
          refine ww_if_eq_f (tgt := 59) C dX5_factOfName_51 (by decide) (by decide) ?_
          refine ww_bipush (v := 8) C dX5_factOfName_54 rfl ?_
          refine ww_goto (tgt := 60) C dX5_factOfName_56 (by decide) ?_
          exact ww_iret (u := [(qs, .inr (5, [.ref qt, .ref po, .ref pa, .ref pf, .ref pd, .int nd, .int tn, .int an, .int wr, .int pl])), (qt, .inr (10, [.ref tb, .int (nI tl), .int (nI ta), .int (nI tk), .int (nI ts)])), (tb, .inl (E.2.1 0, 160, .inl fb))]) C hT [0, 1, 2] rfl rfl rfl rfl dX5_factOfName_60 (⟨(by rw [aT_of (show IN (cz fb tl) ts tk ta 3 from h_23) (by decide)]; rfl), rfl⟩)
        · refine an2 hw ?_
          clear hw
          intro he_27 he_28 hw
          have h_26 := hw
          clear hw
          have he_27 := he_27.symm
          subst he_27
          subst he_28
          refine ww_eq (ws' := [(qs, .inr (5, [.ref qt, .ref po, .ref pa, .ref pf, .ref pd, .int nd, .int tn, .int an, .int wr, .int pl])), (qt, .inr (10, [.ref tb, .int (nI tl), .int (nI ta), .int (nI tk), .int (nI ts)])), (tb, .inl (E.2.1 0, 160, .inl fb))]) ?_ rfl rfl rfl
          refine ww_if_eq_t (tgt := 59) C dX5_factOfName_51 (by decide) (rfl) ?_
          refine ww_iconst (v := 0) C dX5_factOfName_59 rfl ?_
          exact ww_iret (u := [(qs, .inr (5, [.ref qt, .ref po, .ref pa, .ref pf, .ref pd, .int nd, .int tn, .int an, .int wr, .int pl])), (qt, .inr (10, [.ref tb, .int (nI tl), .int (nI ta), .int (nI tk), .int (nI ts)])), (tb, .inl (E.2.1 0, 160, .inl fb))]) C hT [0, 1, 2] rfl rfl rfl rfl dX5_factOfName_60 (⟨(fv_no (aT_nn (show ¬ IN (cz fb tl) ts tk ta 0 from h_5) (by decide)) (aT_nn (show ¬ IN (cz fb tl) ts tk ta 1 from h_12) (by decide)) (aT_nn (show ¬ IN (cz fb tl) ts tk ta 2 from h_19) (by decide)) (aT_nn (show ¬ IN (cz fb tl) ts tk ta 3 from h_26) (by decide))), rfl⟩)
theorem dX5_opAboutKnowers_0 : decode cX5_opAboutKnowers 0 = .ok (.aload_n 0, 1) := by decide +kernel
theorem dX5_opAboutKnowers_1 : decode cX5_opAboutKnowers 1 = .ok (.getfield 12, 3) := by decide +kernel
theorem dX5_opAboutKnowers_4 : decode cX5_opAboutKnowers 4 = .ok (.ldc 95, 2) := by decide +kernel
theorem dX5_opAboutKnowers_6 : decode cX5_opAboutKnowers 6 = .ok (.invokevirtual 78, 3) := by decide +kernel
theorem dX5_opAboutKnowers_9 : decode cX5_opAboutKnowers 9 = .ok (.ifCond .ne 15, 3) := by decide +kernel
theorem dX5_opAboutKnowers_24 : decode cX5_opAboutKnowers 24 = .ok (.bipush 6, 2) := by decide +kernel
theorem dX5_opAboutKnowers_26 : decode cX5_opAboutKnowers 26 = .ok (.ireturn, 1) := by decide +kernel
theorem dX5_opAboutKnowers_12 : decode cX5_opAboutKnowers 12 = .ok (.aload_n 0, 1) := by decide +kernel
theorem dX5_opAboutKnowers_13 : decode cX5_opAboutKnowers 13 = .ok (.getfield 12, 3) := by decide +kernel
theorem dX5_opAboutKnowers_16 : decode cX5_opAboutKnowers 16 = .ok (.ldc 135, 2) := by decide +kernel
theorem dX5_opAboutKnowers_18 : decode cX5_opAboutKnowers 18 = .ok (.invokevirtual 78, 3) := by decide +kernel
theorem dX5_opAboutKnowers_21 : decode cX5_opAboutKnowers 21 = .ok (.ifCond .eq 6, 3) := by decide +kernel
theorem dX5_opAboutKnowers_27 : decode cX5_opAboutKnowers 27 = .ok (.aload_n 0, 1) := by decide +kernel
theorem dX5_opAboutKnowers_28 : decode cX5_opAboutKnowers 28 = .ok (.getfield 12, 3) := by decide +kernel
theorem dX5_opAboutKnowers_31 : decode cX5_opAboutKnowers 31 = .ok (.ldc 137, 2) := by decide +kernel
theorem dX5_opAboutKnowers_33 : decode cX5_opAboutKnowers 33 = .ok (.invokevirtual 78, 3) := by decide +kernel
theorem dX5_opAboutKnowers_36 : decode cX5_opAboutKnowers 36 = .ok (.ifCond .eq 5, 3) := by decide +kernel
theorem dX5_opAboutKnowers_39 : decode cX5_opAboutKnowers 39 = .ok (.iconst 5, 1) := by decide +kernel
theorem dX5_opAboutKnowers_40 : decode cX5_opAboutKnowers 40 = .ok (.ireturn, 1) := by decide +kernel
theorem dX5_opAboutKnowers_41 : decode cX5_opAboutKnowers 41 = .ok (.aload_n 0, 1) := by decide +kernel
theorem dX5_opAboutKnowers_42 : decode cX5_opAboutKnowers 42 = .ok (.getfield 12, 3) := by decide +kernel
theorem dX5_opAboutKnowers_45 : decode cX5_opAboutKnowers 45 = .ok (.ldc 139, 2) := by decide +kernel
theorem dX5_opAboutKnowers_47 : decode cX5_opAboutKnowers 47 = .ok (.invokevirtual 78, 3) := by decide +kernel
theorem dX5_opAboutKnowers_50 : decode cX5_opAboutKnowers 50 = .ok (.ifCond .eq 6, 3) := by decide +kernel
theorem dX5_opAboutKnowers_53 : decode cX5_opAboutKnowers 53 = .ok (.bipush 7, 2) := by decide +kernel
theorem dX5_opAboutKnowers_55 : decode cX5_opAboutKnowers 55 = .ok (.ireturn, 1) := by decide +kernel
theorem dX5_opAboutKnowers_56 : decode cX5_opAboutKnowers 56 = .ok (.aload_n 0, 1) := by decide +kernel
theorem dX5_opAboutKnowers_57 : decode cX5_opAboutKnowers 57 = .ok (.getfield 12, 3) := by decide +kernel
theorem dX5_opAboutKnowers_60 : decode cX5_opAboutKnowers 60 = .ok (.ldc 141, 2) := by decide +kernel
theorem dX5_opAboutKnowers_62 : decode cX5_opAboutKnowers 62 = .ok (.invokevirtual 78, 3) := by decide +kernel
theorem dX5_opAboutKnowers_65 : decode cX5_opAboutKnowers 65 = .ok (.ifCond .eq 8, 3) := by decide +kernel
theorem dX5_opAboutKnowers_68 : decode cX5_opAboutKnowers 68 = .ok (.bipush 8, 2) := by decide +kernel
theorem dX5_opAboutKnowers_70 : decode cX5_opAboutKnowers 70 = .ok (.goto 5, 3) := by decide +kernel
theorem dX5_opAboutKnowers_75 : decode cX5_opAboutKnowers 75 = .ok (.ireturn, 1) := by decide +kernel
theorem dX5_opAboutKnowers_73 : decode cX5_opAboutKnowers 73 = .ok (.bipush (-4), 2) := by decide +kernel
set_option maxRecDepth 100000 in
set_option maxHeartbeats 4000000 in
theorem q_opAboutKnowers (l : Launch) (E : EV) (ro : va_W) (qs : Nat) (qt : Nat) (po : Nat) (pa : Nat) (pf : Nat) (pd : Nat) (nd : Int32) (tn : Int32) (an : Int32) (wr : Int32) (pl : Int32) (tb : Nat) (tl : Nat) (ta : Nat) (tk : Nat) (ts : Nat) (fb : Nat → Int32) (hts : ts ≤ ta) (hta : ta ≤ tl) (htl : tl ≤ 160) (htk : tk ≤ 3) (hs9 : tk = 2 → ts < ta) (hfg : TX (cz fb tl) ts tk ta) : CT l yX5_opAboutKnowers (Cond.code yX5_opAboutKnowers cX5_opAboutKnowers 1 (some .int) :: TB) ({ frames := 5, cells := 0, slots := 0, locals := 107 }) E ro [.ref qs] [(qs, .inr (5, [.ref qt, .ref po, .ref pa, .ref pf, .ref pd, .int nd, .int tn, .int an, .int wr, .int pl])), (qt, .inr (10, [.ref tb, .int (nI tl), .int (nI ta), .int (nI tk), .int (nI ts)])), (tb, .inl (E.2.1 0, 160, .inl fb))] (Qi E (fun (rz : Int32) uz => (rz = (-4) ∧ uz = [(qs, .inr (5, [.ref qt, .ref po, .ref pa, .ref pf, .ref pd, .int nd, .int tn, .int an, .int wr, .int pl])), (qt, .inr (10, [.ref tb, .int (nI tl), .int (nI ta), .int (nI tk), .int (nI ts)])), (tb, .inl (E.2.1 0, 160, .inl fb))] ∧ (aT (cz fb tl) ts tk ta ≠ 8 ∧ aT (cz fb tl) ts tk ta ≠ 9 ∧ aT (cz fb tl) ts tk ta ≠ 10 ∧ aT (cz fb tl) ts tk ta ≠ 11 ∧ aT (cz fb tl) ts tk ta ≠ 12)) ∨ (uz = [(qs, .inr (5, [.ref qt, .ref po, .ref pa, .ref pf, .ref pd, .int nd, .int tn, .int an, .int wr, .int pl])), (qt, .inr (10, [.ref tb, .int (nI tl), .int (nI ta), .int (nI tk), .int (nI ts)])), (tb, .inl (E.2.1 0, 160, .inl fb))] ∧ (0 ≤ rz.toInt) ∧ (rz.toInt ≤ 8) ∧ (rz = opV (aT (cz fb tl) ts tk ta) ∧ 8 ≤ aT (cz fb tl) ts tk ta ∧ aT (cz fb tl) ts tk ta < 13)))) 0 0 := by
  refine ct_of rfl rfl ?_
  intro X C hT hin hro
  show WW X 1 E 0 [(0, .ref qs)] [] [(qs, .inr (5, [.ref qt, .ref po, .ref pa, .ref pf, .ref pd, .int nd, .int tn, .int an, .int wr, .int pl])), (qt, .inr (10, [.ref tb, .int (nI tl), .int (nI ta), .int (nI tk), .int (nI ts)])), (tb, .inl (E.2.1 0, 160, .inl fb))] 0 0
  refine ww_aload_n C dX5_opAboutKnowers_0 0 rfl rfl ?_
  refine ww_get C fg_X5_12 0 rfl rfl dX5_opAboutKnowers_1 ?_
  refine ww_ldcS (tx := "know") C (List.mem_of_getElem? (i := 9) rfl) rfl dX5_opAboutKnowers_4 ?_
  refine ww_ci (wr := [(qs, .inr (5, [.ref qt, .ref po, .ref pa, .ref pf, .ref pd, .int nd, .int tn, .int an, .int wr, .int pl]))]) (k' := 0) (n' := 0) C (run_V (As := [.ref (E.2.2 95)]) (rest := []) C (t_isName X.2.1 E ro qt tb tl ta tk ts fb 9 (by decide) (by omega) (by omega) (by omega) (by omega)) mi_X10_isName wl_X5_78 rfl 0 10 rfl rfl rfl rfl rfl dX5_opAboutKnowers_6) (roK hro) [1, 2] [0] rfl rfl rfl rfl (fun r_1 uz hw => ?_)
  rcases hw with hw | hw
  · refine an2 hw ?_
    clear hw
    intro he_3 he_4 hw
    have h_2 := hw
    clear hw
    have he_3 := he_3.symm
    subst he_3
    subst he_4
    refine ww_eq (ws' := [(qs, .inr (5, [.ref qt, .ref po, .ref pa, .ref pf, .ref pd, .int nd, .int tn, .int an, .int wr, .int pl])), (qt, .inr (10, [.ref tb, .int (nI tl), .int (nI ta), .int (nI tk), .int (nI ts)])), (tb, .inl (E.2.1 0, 160, .inl fb))]) ?_ rfl rfl rfl
    refine ww_if_ne_t (tgt := 24) C dX5_opAboutKnowers_9 (by decide) (by decide) ?_
    refine ww_bipush (v := 6) C dX5_opAboutKnowers_24 rfl ?_
    exact ww_iret (u := [(qs, .inr (5, [.ref qt, .ref po, .ref pa, .ref pf, .ref pd, .int nd, .int tn, .int an, .int wr, .int pl])), (qt, .inr (10, [.ref tb, .int (nI tl), .int (nI ta), .int (nI tk), .int (nI ts)])), (tb, .inl (E.2.1 0, 160, .inl fb))]) C hT [0, 1, 2] rfl rfl rfl rfl dX5_opAboutKnowers_26 (Or.inr ⟨rfl, (by decide), (by decide), (by rw [aT_of (show IN (cz fb tl) ts tk ta 8 from h_2) (by decide)]; exact ⟨rfl, by decide, by decide⟩)⟩)
  · refine an2 hw ?_
    clear hw
    intro he_6 he_7 hw
    have h_5 := hw
    clear hw
    have he_6 := he_6.symm
    subst he_6
    subst he_7
    refine ww_eq (ws' := [(qs, .inr (5, [.ref qt, .ref po, .ref pa, .ref pf, .ref pd, .int nd, .int tn, .int an, .int wr, .int pl])), (qt, .inr (10, [.ref tb, .int (nI tl), .int (nI ta), .int (nI tk), .int (nI ts)])), (tb, .inl (E.2.1 0, 160, .inl fb))]) ?_ rfl rfl rfl
    refine ww_if_ne_f (tgt := 24) C dX5_opAboutKnowers_9 (by decide) (rfl) ?_
    refine ww_aload_n C dX5_opAboutKnowers_12 0 rfl rfl ?_
    refine ww_get C fg_X5_12 0 rfl rfl dX5_opAboutKnowers_13 ?_
    refine ww_ldcS (tx := "every") C (List.mem_of_getElem? (i := 10) rfl) rfl dX5_opAboutKnowers_16 ?_
    refine ww_ci (wr := [(qs, .inr (5, [.ref qt, .ref po, .ref pa, .ref pf, .ref pd, .int nd, .int tn, .int an, .int wr, .int pl]))]) (k' := 0) (n' := 0) C (run_V (As := [.ref (E.2.2 135)]) (rest := []) C (t_isName X.2.1 E ro qt tb tl ta tk ts fb 10 (by decide) (by omega) (by omega) (by omega) (by omega)) mi_X10_isName wl_X5_78 rfl 0 10 rfl rfl rfl rfl rfl dX5_opAboutKnowers_18) (roK hro) [1, 2] [0] rfl rfl rfl rfl (fun r_8 uz hw => ?_)
    rcases hw with hw | hw
    · refine an2 hw ?_
      clear hw
      intro he_10 he_11 hw
      have h_9 := hw
      clear hw
      have he_10 := he_10.symm
      subst he_10
      subst he_11
      refine ww_eq (ws' := [(qs, .inr (5, [.ref qt, .ref po, .ref pa, .ref pf, .ref pd, .int nd, .int tn, .int an, .int wr, .int pl])), (qt, .inr (10, [.ref tb, .int (nI tl), .int (nI ta), .int (nI tk), .int (nI ts)])), (tb, .inl (E.2.1 0, 160, .inl fb))]) ?_ rfl rfl rfl
      refine ww_if_eq_f (tgt := 27) C dX5_opAboutKnowers_21 (by decide) (by decide) ?_
      refine ww_bipush (v := 6) C dX5_opAboutKnowers_24 rfl ?_
      exact ww_iret (u := [(qs, .inr (5, [.ref qt, .ref po, .ref pa, .ref pf, .ref pd, .int nd, .int tn, .int an, .int wr, .int pl])), (qt, .inr (10, [.ref tb, .int (nI tl), .int (nI ta), .int (nI tk), .int (nI ts)])), (tb, .inl (E.2.1 0, 160, .inl fb))]) C hT [0, 1, 2] rfl rfl rfl rfl dX5_opAboutKnowers_26 (Or.inr ⟨rfl, (by decide), (by decide), (by rw [aT_of (show IN (cz fb tl) ts tk ta 10 from h_9) (by decide)]; exact ⟨rfl, by decide, by decide⟩)⟩)
    · refine an2 hw ?_
      clear hw
      intro he_13 he_14 hw
      have h_12 := hw
      clear hw
      have he_13 := he_13.symm
      subst he_13
      subst he_14
      refine ww_eq (ws' := [(qs, .inr (5, [.ref qt, .ref po, .ref pa, .ref pf, .ref pd, .int nd, .int tn, .int an, .int wr, .int pl])), (qt, .inr (10, [.ref tb, .int (nI tl), .int (nI ta), .int (nI tk), .int (nI ts)])), (tb, .inl (E.2.1 0, 160, .inl fb))]) ?_ rfl rfl rfl
      refine ww_if_eq_t (tgt := 27) C dX5_opAboutKnowers_21 (by decide) (rfl) ?_
      refine ww_aload_n C dX5_opAboutKnowers_27 0 rfl rfl ?_
      refine ww_get C fg_X5_12 0 rfl rfl dX5_opAboutKnowers_28 ?_
      refine ww_ldcS (tx := "whether") C (List.mem_of_getElem? (i := 11) rfl) rfl dX5_opAboutKnowers_31 ?_
      refine ww_ci (wr := [(qs, .inr (5, [.ref qt, .ref po, .ref pa, .ref pf, .ref pd, .int nd, .int tn, .int an, .int wr, .int pl]))]) (k' := 0) (n' := 0) C (run_V (As := [.ref (E.2.2 137)]) (rest := []) C (t_isName X.2.1 E ro qt tb tl ta tk ts fb 11 (by decide) (by omega) (by omega) (by omega) (by omega)) mi_X10_isName wl_X5_78 rfl 0 10 rfl rfl rfl rfl rfl dX5_opAboutKnowers_33) (roK hro) [1, 2] [0] rfl rfl rfl rfl (fun r_15 uz hw => ?_)
      rcases hw with hw | hw
      · refine an2 hw ?_
        clear hw
        intro he_17 he_18 hw
        have h_16 := hw
        clear hw
        have he_17 := he_17.symm
        subst he_17
        subst he_18
        refine ww_eq (ws' := [(qs, .inr (5, [.ref qt, .ref po, .ref pa, .ref pf, .ref pd, .int nd, .int tn, .int an, .int wr, .int pl])), (qt, .inr (10, [.ref tb, .int (nI tl), .int (nI ta), .int (nI tk), .int (nI ts)])), (tb, .inl (E.2.1 0, 160, .inl fb))]) ?_ rfl rfl rfl
        refine ww_if_eq_f (tgt := 41) C dX5_opAboutKnowers_36 (by decide) (by decide) ?_
        refine ww_iconst (v := 5) C dX5_opAboutKnowers_39 rfl ?_
        exact ww_iret (u := [(qs, .inr (5, [.ref qt, .ref po, .ref pa, .ref pf, .ref pd, .int nd, .int tn, .int an, .int wr, .int pl])), (qt, .inr (10, [.ref tb, .int (nI tl), .int (nI ta), .int (nI tk), .int (nI ts)])), (tb, .inl (E.2.1 0, 160, .inl fb))]) C hT [0, 1, 2] rfl rfl rfl rfl dX5_opAboutKnowers_40 (Or.inr ⟨rfl, (by decide), (by decide), (by rw [aT_of (show IN (cz fb tl) ts tk ta 9 from h_16) (by decide)]; exact ⟨rfl, by decide, by decide⟩)⟩)
      · refine an2 hw ?_
        clear hw
        intro he_20 he_21 hw
        have h_19 := hw
        clear hw
        have he_20 := he_20.symm
        subst he_20
        subst he_21
        refine ww_eq (ws' := [(qs, .inr (5, [.ref qt, .ref po, .ref pa, .ref pf, .ref pd, .int nd, .int tn, .int an, .int wr, .int pl])), (qt, .inr (10, [.ref tb, .int (nI tl), .int (nI ta), .int (nI tk), .int (nI ts)])), (tb, .inl (E.2.1 0, 160, .inl fb))]) ?_ rfl rfl rfl
        refine ww_if_eq_t (tgt := 41) C dX5_opAboutKnowers_36 (by decide) (rfl) ?_
        refine ww_aload_n C dX5_opAboutKnowers_41 0 rfl rfl ?_
        refine ww_get C fg_X5_12 0 rfl rfl dX5_opAboutKnowers_42 ?_
        refine ww_ldcS (tx := "common") C (List.mem_of_getElem? (i := 12) rfl) rfl dX5_opAboutKnowers_45 ?_
        refine ww_ci (wr := [(qs, .inr (5, [.ref qt, .ref po, .ref pa, .ref pf, .ref pd, .int nd, .int tn, .int an, .int wr, .int pl]))]) (k' := 0) (n' := 0) C (run_V (As := [.ref (E.2.2 139)]) (rest := []) C (t_isName X.2.1 E ro qt tb tl ta tk ts fb 12 (by decide) (by omega) (by omega) (by omega) (by omega)) mi_X10_isName wl_X5_78 rfl 0 10 rfl rfl rfl rfl rfl dX5_opAboutKnowers_47) (roK hro) [1, 2] [0] rfl rfl rfl rfl (fun r_22 uz hw => ?_)
        rcases hw with hw | hw
        · refine an2 hw ?_
          clear hw
          intro he_24 he_25 hw
          have h_23 := hw
          clear hw
          have he_24 := he_24.symm
          subst he_24
          subst he_25
          refine ww_eq (ws' := [(qs, .inr (5, [.ref qt, .ref po, .ref pa, .ref pf, .ref pd, .int nd, .int tn, .int an, .int wr, .int pl])), (qt, .inr (10, [.ref tb, .int (nI tl), .int (nI ta), .int (nI tk), .int (nI ts)])), (tb, .inl (E.2.1 0, 160, .inl fb))]) ?_ rfl rfl rfl
          refine ww_if_eq_f (tgt := 56) C dX5_opAboutKnowers_50 (by decide) (by decide) ?_
          refine ww_bipush (v := 7) C dX5_opAboutKnowers_53 rfl ?_
          exact ww_iret (u := [(qs, .inr (5, [.ref qt, .ref po, .ref pa, .ref pf, .ref pd, .int nd, .int tn, .int an, .int wr, .int pl])), (qt, .inr (10, [.ref tb, .int (nI tl), .int (nI ta), .int (nI tk), .int (nI ts)])), (tb, .inl (E.2.1 0, 160, .inl fb))]) C hT [0, 1, 2] rfl rfl rfl rfl dX5_opAboutKnowers_55 (Or.inr ⟨rfl, (by decide), (by decide), (by rw [aT_of (show IN (cz fb tl) ts tk ta 11 from h_23) (by decide)]; exact ⟨rfl, by decide, by decide⟩)⟩)
        · refine an2 hw ?_
          clear hw
          intro he_27 he_28 hw
          have h_26 := hw
          clear hw
          have he_27 := he_27.symm
          subst he_27
          subst he_28
          refine ww_eq (ws' := [(qs, .inr (5, [.ref qt, .ref po, .ref pa, .ref pf, .ref pd, .int nd, .int tn, .int an, .int wr, .int pl])), (qt, .inr (10, [.ref tb, .int (nI tl), .int (nI ta), .int (nI tk), .int (nI ts)])), (tb, .inl (E.2.1 0, 160, .inl fb))]) ?_ rfl rfl rfl
          refine ww_if_eq_t (tgt := 56) C dX5_opAboutKnowers_50 (by decide) (rfl) ?_
          refine ww_aload_n C dX5_opAboutKnowers_56 0 rfl rfl ?_
          refine ww_get C fg_X5_12 0 rfl rfl dX5_opAboutKnowers_57 ?_
          refine ww_ldcS (tx := "together") C (List.mem_of_getElem? (i := 13) rfl) rfl dX5_opAboutKnowers_60 ?_
          refine ww_ci (wr := [(qs, .inr (5, [.ref qt, .ref po, .ref pa, .ref pf, .ref pd, .int nd, .int tn, .int an, .int wr, .int pl]))]) (k' := 0) (n' := 0) C (run_V (As := [.ref (E.2.2 141)]) (rest := []) C (t_isName X.2.1 E ro qt tb tl ta tk ts fb 13 (by decide) (by omega) (by omega) (by omega) (by omega)) mi_X10_isName wl_X5_78 rfl 0 10 rfl rfl rfl rfl rfl dX5_opAboutKnowers_62) (roK hro) [1, 2] [0] rfl rfl rfl rfl (fun r_29 uz hw => ?_)
          rcases hw with hw | hw
          · refine an2 hw ?_
            clear hw
            intro he_31 he_32 hw
            have h_30 := hw
            clear hw
            have he_31 := he_31.symm
            subst he_31
            subst he_32
            refine ww_eq (ws' := [(qs, .inr (5, [.ref qt, .ref po, .ref pa, .ref pf, .ref pd, .int nd, .int tn, .int an, .int wr, .int pl])), (qt, .inr (10, [.ref tb, .int (nI tl), .int (nI ta), .int (nI tk), .int (nI ts)])), (tb, .inl (E.2.1 0, 160, .inl fb))]) ?_ rfl rfl rfl
            refine ww_if_eq_f (tgt := 73) C dX5_opAboutKnowers_65 (by decide) (by decide) ?_
            refine ww_bipush (v := 8) C dX5_opAboutKnowers_68 rfl ?_
            refine ww_goto (tgt := 75) C dX5_opAboutKnowers_70 (by decide) ?_
            exact ww_iret (u := [(qs, .inr (5, [.ref qt, .ref po, .ref pa, .ref pf, .ref pd, .int nd, .int tn, .int an, .int wr, .int pl])), (qt, .inr (10, [.ref tb, .int (nI tl), .int (nI ta), .int (nI tk), .int (nI ts)])), (tb, .inl (E.2.1 0, 160, .inl fb))]) C hT [0, 1, 2] rfl rfl rfl rfl dX5_opAboutKnowers_75 (Or.inr ⟨rfl, (by decide), (by decide), (by rw [aT_of (show IN (cz fb tl) ts tk ta 12 from h_30) (by decide)]; exact ⟨rfl, by decide, by decide⟩)⟩)
          · refine an2 hw ?_
            clear hw
            intro he_34 he_35 hw
            have h_33 := hw
            clear hw
            have he_34 := he_34.symm
            subst he_34
            subst he_35
            refine ww_eq (ws' := [(qs, .inr (5, [.ref qt, .ref po, .ref pa, .ref pf, .ref pd, .int nd, .int tn, .int an, .int wr, .int pl])), (qt, .inr (10, [.ref tb, .int (nI tl), .int (nI ta), .int (nI tk), .int (nI ts)])), (tb, .inl (E.2.1 0, 160, .inl fb))]) ?_ rfl rfl rfl
            refine ww_if_eq_t (tgt := 73) C dX5_opAboutKnowers_65 (by decide) (rfl) ?_
            refine ww_bipush (v := (-4)) C dX5_opAboutKnowers_73 rfl ?_
            exact ww_iret (u := [(qs, .inr (5, [.ref qt, .ref po, .ref pa, .ref pf, .ref pd, .int nd, .int tn, .int an, .int wr, .int pl])), (qt, .inr (10, [.ref tb, .int (nI tl), .int (nI ta), .int (nI tk), .int (nI ts)])), (tb, .inl (E.2.1 0, 160, .inl fb))]) C hT [0, 1, 2] rfl rfl rfl rfl dX5_opAboutKnowers_75 (Or.inl ⟨rfl, rfl, ⟨aT_nn (show ¬ IN (cz fb tl) ts tk ta 8 from h_5) (by decide), aT_nn (show ¬ IN (cz fb tl) ts tk ta 9 from h_19) (by decide), aT_nn (show ¬ IN (cz fb tl) ts tk ta 10 from h_12) (by decide), aT_nn (show ¬ IN (cz fb tl) ts tk ta 11 from h_26) (by decide), aT_nn (show ¬ IN (cz fb tl) ts tk ta 12 from h_33) (by decide)⟩⟩)
theorem opV_l {a : Nat} (h : a < 4) : opV a = 0 := by unfold opV; rw [if_pos h]
theorem dX5_opOfName_0 : decode cX5_opOfName 0 = .ok (.aload_n 0, 1) := by decide +kernel
theorem dX5_opOfName_1 : decode cX5_opOfName 1 = .ok (.invokevirtual 92, 3) := by decide +kernel
theorem wl_X5_92 : Cond.methodLink RX5 92 yX5_factOfName ∈ TB := tbm (tq3 (List.mem_of_getElem? (i := 106) (by decide +kernel))) (by decide +kernel)
theorem wc_X5_factOfName : Cond.code yX5_factOfName cX5_factOfName 1 (some .int) ∈ TB := tbm (tq3 (List.mem_of_getElem? (i := 109) (rfl))) (by decide +kernel)
theorem wi_X5_factOfName : Cond.instanceMethod yX5_factOfName ∈ TB := tbm (tq3 (List.mem_of_getElem? (i := 108) (by decide +kernel))) (by decide +kernel)
theorem ws_X5_factOfName : Cond.selects RX5 yX5_factOfName yX5_factOfName ∈ TB := tbm (tq0 (List.mem_of_getElem? (i := 10) (by decide +kernel))) (by decide +kernel)
theorem mi_X5_factOfName : MI yX5_factOfName cX5_factOfName 1 (some .int) 0 := ⟨wc_X5_factOfName, wn_X5, ⟨by decide +kernel, by decide +kernel, by decide +kernel⟩, wi_X5_factOfName, ws_X5_factOfName⟩
theorem dX5_opOfName_4 : decode cX5_opOfName 4 = .ok (.ifCond .eq 5, 3) := by decide +kernel
theorem dX5_opOfName_9 : decode cX5_opOfName 9 = .ok (.aload_n 0, 1) := by decide +kernel
theorem dX5_opOfName_10 : decode cX5_opOfName 10 = .ok (.getfield 12, 3) := by decide +kernel
theorem dX5_opOfName_13 : decode cX5_opOfName 13 = .ok (.ldc 124, 2) := by decide +kernel
theorem dX5_opOfName_15 : decode cX5_opOfName 15 = .ok (.invokevirtual 78, 3) := by decide +kernel
theorem dX5_opOfName_18 : decode cX5_opOfName 18 = .ok (.ifCond .eq 5, 3) := by decide +kernel
theorem dX5_opOfName_21 : decode cX5_opOfName 21 = .ok (.iconst 1, 1) := by decide +kernel
theorem dX5_opOfName_22 : decode cX5_opOfName 22 = .ok (.ireturn, 1) := by decide +kernel
theorem dX5_opOfName_23 : decode cX5_opOfName 23 = .ok (.aload_n 0, 1) := by decide +kernel
theorem dX5_opOfName_24 : decode cX5_opOfName 24 = .ok (.getfield 12, 3) := by decide +kernel
theorem dX5_opOfName_27 : decode cX5_opOfName 27 = .ok (.ldc 126, 2) := by decide +kernel
theorem dX5_opOfName_29 : decode cX5_opOfName 29 = .ok (.invokevirtual 78, 3) := by decide +kernel
theorem dX5_opOfName_32 : decode cX5_opOfName 32 = .ok (.ifCond .eq 5, 3) := by decide +kernel
theorem dX5_opOfName_35 : decode cX5_opOfName 35 = .ok (.iconst 2, 1) := by decide +kernel
theorem dX5_opOfName_36 : decode cX5_opOfName 36 = .ok (.ireturn, 1) := by decide +kernel
theorem dX5_opOfName_37 : decode cX5_opOfName 37 = .ok (.aload_n 0, 1) := by decide +kernel
theorem dX5_opOfName_38 : decode cX5_opOfName 38 = .ok (.getfield 12, 3) := by decide +kernel
theorem dX5_opOfName_41 : decode cX5_opOfName 41 = .ok (.ldc 128, 2) := by decide +kernel
theorem dX5_opOfName_43 : decode cX5_opOfName 43 = .ok (.invokevirtual 78, 3) := by decide +kernel
theorem dX5_opOfName_46 : decode cX5_opOfName 46 = .ok (.ifCond .eq 5, 3) := by decide +kernel
theorem dX5_opOfName_49 : decode cX5_opOfName 49 = .ok (.iconst 3, 1) := by decide +kernel
theorem dX5_opOfName_50 : decode cX5_opOfName 50 = .ok (.ireturn, 1) := by decide +kernel
theorem dX5_opOfName_51 : decode cX5_opOfName 51 = .ok (.aload_n 0, 1) := by decide +kernel
theorem dX5_opOfName_52 : decode cX5_opOfName 52 = .ok (.getfield 12, 3) := by decide +kernel
theorem dX5_opOfName_55 : decode cX5_opOfName 55 = .ok (.ldc 130, 2) := by decide +kernel
theorem dX5_opOfName_57 : decode cX5_opOfName 57 = .ok (.invokevirtual 78, 3) := by decide +kernel
theorem dX5_opOfName_60 : decode cX5_opOfName 60 = .ok (.ifCond .eq 5, 3) := by decide +kernel
theorem dX5_opOfName_63 : decode cX5_opOfName 63 = .ok (.iconst 4, 1) := by decide +kernel
theorem dX5_opOfName_64 : decode cX5_opOfName 64 = .ok (.ireturn, 1) := by decide +kernel
theorem dX5_opOfName_65 : decode cX5_opOfName 65 = .ok (.aload_n 0, 1) := by decide +kernel
theorem dX5_opOfName_66 : decode cX5_opOfName 66 = .ok (.invokevirtual 132, 3) := by decide +kernel
theorem wl_X5_132 : Cond.methodLink RX5 132 yX5_opAboutKnowers ∈ TB := tbm (tq3 (List.mem_of_getElem? (i := 118) (by decide +kernel))) (by decide +kernel)
theorem wc_X5_opAboutKnowers : Cond.code yX5_opAboutKnowers cX5_opAboutKnowers 1 (some .int) ∈ TB := tbm (tq3 (List.mem_of_getElem? (i := 121) (rfl))) (by decide +kernel)
theorem wi_X5_opAboutKnowers : Cond.instanceMethod yX5_opAboutKnowers ∈ TB := tbm (tq3 (List.mem_of_getElem? (i := 120) (by decide +kernel))) (by decide +kernel)
theorem ws_X5_opAboutKnowers : Cond.selects RX5 yX5_opAboutKnowers yX5_opAboutKnowers ∈ TB := tbm (tq0 (List.mem_of_getElem? (i := 11) (by decide +kernel))) (by decide +kernel)
theorem mi_X5_opAboutKnowers : MI yX5_opAboutKnowers cX5_opAboutKnowers 1 (some .int) 0 := ⟨wc_X5_opAboutKnowers, wn_X5, ⟨by decide +kernel, by decide +kernel, by decide +kernel⟩, wi_X5_opAboutKnowers, ws_X5_opAboutKnowers⟩
theorem dX5_opOfName_69 : decode cX5_opOfName 69 = .ok (.ireturn, 1) := by decide +kernel
theorem dX5_opOfName_7 : decode cX5_opOfName 7 = .ok (.iconst 0, 1) := by decide +kernel
theorem dX5_opOfName_8 : decode cX5_opOfName 8 = .ok (.ireturn, 1) := by decide +kernel
set_option maxRecDepth 100000 in
set_option maxHeartbeats 4000000 in
theorem q_opOfName (l : Launch) (E : EV) (ro : va_W) (qs : Nat) (qt : Nat) (po : Nat) (pa : Nat) (pf : Nat) (pd : Nat) (nd : Int32) (tn : Int32) (an : Int32) (wr : Int32) (pl : Int32) (tb : Nat) (tl : Nat) (ta : Nat) (tk : Nat) (ts : Nat) (fb : Nat → Int32) (hts : ts ≤ ta) (hta : ta ≤ tl) (htl : tl ≤ 160) (htk : tk ≤ 3) (hs9 : tk = 2 → ts < ta) (hfg : TX (cz fb tl) ts tk ta) : CT l yX5_opOfName (Cond.code yX5_opOfName cX5_opOfName 1 (some .int) :: TB) ({ frames := 6, cells := 0, slots := 0, locals := 127 }) E ro [.ref qs] [(qs, .inr (5, [.ref qt, .ref po, .ref pa, .ref pf, .ref pd, .int nd, .int tn, .int an, .int wr, .int pl])), (qt, .inr (10, [.ref tb, .int (nI tl), .int (nI ta), .int (nI tk), .int (nI ts)])), (tb, .inl (E.2.1 0, 160, .inl fb))] (Qi E (fun (rz : Int32) uz => (rz = (-4) ∧ uz = [(qs, .inr (5, [.ref qt, .ref po, .ref pa, .ref pf, .ref pd, .int nd, .int tn, .int an, .int wr, .int pl])), (qt, .inr (10, [.ref tb, .int (nI tl), .int (nI ta), .int (nI tk), .int (nI ts)])), (tb, .inl (E.2.1 0, 160, .inl fb))] ∧ (13 ≤ aT (cz fb tl) ts tk ta)) ∨ (uz = [(qs, .inr (5, [.ref qt, .ref po, .ref pa, .ref pf, .ref pd, .int nd, .int tn, .int an, .int wr, .int pl])), (qt, .inr (10, [.ref tb, .int (nI tl), .int (nI ta), .int (nI tk), .int (nI ts)])), (tb, .inl (E.2.1 0, 160, .inl fb))] ∧ (0 ≤ rz.toInt) ∧ (rz.toInt ≤ 8) ∧ (rz = opV (aT (cz fb tl) ts tk ta) ∧ aT (cz fb tl) ts tk ta < 13)))) 0 0 := by
  refine ct_of rfl rfl ?_
  intro X C hT hin hro
  show WW X 1 E 0 [(0, .ref qs)] [] [(qs, .inr (5, [.ref qt, .ref po, .ref pa, .ref pf, .ref pd, .int nd, .int tn, .int an, .int wr, .int pl])), (qt, .inr (10, [.ref tb, .int (nI tl), .int (nI ta), .int (nI tk), .int (nI ts)])), (tb, .inl (E.2.1 0, 160, .inl fb))] 0 0
  refine ww_aload_n C dX5_opOfName_0 0 rfl rfl ?_
  refine ww_ci (wr := []) (k' := 0) (n' := 0) C (run_V (As := []) (rest := []) C (q_factOfName X.2.1 E ro qs qt po pa pf pd nd tn an wr pl tb tl ta tk ts fb (by omega) (by omega) (by omega) (by omega) (by omega) hfg) mi_X5_factOfName wl_X5_92 rfl 0 5 rfl rfl rfl rfl rfl dX5_opOfName_1) (roK hro) [0, 1, 2] [] rfl rfl rfl rfl (fun r_1 uz hw => ?_)
  refine an1 hw ?_
  clear hw
  intro he_2 hw
  have he_3 := hw
  clear hw
  have he_2 := he_2.symm
  subst he_2
  subst he_3
  refine ww_eq (ws' := [(qs, .inr (5, [.ref qt, .ref po, .ref pa, .ref pf, .ref pd, .int nd, .int tn, .int an, .int wr, .int pl])), (qt, .inr (10, [.ref tb, .int (nI tl), .int (nI ta), .int (nI tk), .int (nI ts)])), (tb, .inl (E.2.1 0, 160, .inl fb))]) ?_ rfl rfl rfl
  refine ww_if_eq (tgt := 9) C dX5_opOfName_4 (by decide) (fun c_4 => ?_) (fun c_4 => ?_)
  · have zc_4 : (fv (aT (cz fb tl) ts tk ta)).toInt = 0 := i_eq rfl rfl c_4
    refine ww_aload_n C dX5_opOfName_9 0 rfl rfl ?_
    refine ww_get C fg_X5_12 0 rfl rfl dX5_opOfName_10 ?_
    refine ww_ldcS (tx := "yes") C (List.mem_of_getElem? (i := 5) rfl) rfl dX5_opOfName_13 ?_
    refine ww_ci (wr := [(qs, .inr (5, [.ref qt, .ref po, .ref pa, .ref pf, .ref pd, .int nd, .int tn, .int an, .int wr, .int pl]))]) (k' := 0) (n' := 0) C (run_V (As := [.ref (E.2.2 124)]) (rest := []) C (t_isName X.2.1 E ro qt tb tl ta tk ts fb 5 (by decide) (by omega) (by omega) (by omega) (by omega)) mi_X10_isName wl_X5_78 rfl 0 10 rfl rfl rfl rfl rfl dX5_opOfName_15) (roK hro) [1, 2] [0] rfl rfl rfl rfl (fun r_5 uz hw => ?_)
    rcases hw with hw | hw
    · refine an2 hw ?_
      clear hw
      intro he_7 he_8 hw
      have h_6 := hw
      clear hw
      have he_7 := he_7.symm
      subst he_7
      subst he_8
      refine ww_eq (ws' := [(qs, .inr (5, [.ref qt, .ref po, .ref pa, .ref pf, .ref pd, .int nd, .int tn, .int an, .int wr, .int pl])), (qt, .inr (10, [.ref tb, .int (nI tl), .int (nI ta), .int (nI tk), .int (nI ts)])), (tb, .inl (E.2.1 0, 160, .inl fb))]) ?_ rfl rfl rfl
      refine ww_if_eq_f (tgt := 23) C dX5_opOfName_18 (by decide) (by decide) ?_
      refine ww_iconst (v := 1) C dX5_opOfName_21 rfl ?_
      exact ww_iret (u := [(qs, .inr (5, [.ref qt, .ref po, .ref pa, .ref pf, .ref pd, .int nd, .int tn, .int an, .int wr, .int pl])), (qt, .inr (10, [.ref tb, .int (nI tl), .int (nI ta), .int (nI tk), .int (nI ts)])), (tb, .inl (E.2.1 0, 160, .inl fb))]) C hT [0, 1, 2] rfl rfl rfl rfl dX5_opOfName_22 (Or.inr ⟨rfl, (by first | decide | assumption), (by first | decide | assumption), (by rw [aT_of (show IN (cz fb tl) ts tk ta 4 from h_6) (by decide)]; exact ⟨rfl, by decide⟩)⟩)
    · refine an2 hw ?_
      clear hw
      intro he_10 he_11 hw
      have h_9 := hw
      clear hw
      have he_10 := he_10.symm
      subst he_10
      subst he_11
      refine ww_eq (ws' := [(qs, .inr (5, [.ref qt, .ref po, .ref pa, .ref pf, .ref pd, .int nd, .int tn, .int an, .int wr, .int pl])), (qt, .inr (10, [.ref tb, .int (nI tl), .int (nI ta), .int (nI tk), .int (nI ts)])), (tb, .inl (E.2.1 0, 160, .inl fb))]) ?_ rfl rfl rfl
      refine ww_if_eq_t (tgt := 23) C dX5_opOfName_18 (by decide) (rfl) ?_
      refine ww_aload_n C dX5_opOfName_23 0 rfl rfl ?_
      refine ww_get C fg_X5_12 0 rfl rfl dX5_opOfName_24 ?_
      refine ww_ldcS (tx := "not") C (List.mem_of_getElem? (i := 6) rfl) rfl dX5_opOfName_27 ?_
      refine ww_ci (wr := [(qs, .inr (5, [.ref qt, .ref po, .ref pa, .ref pf, .ref pd, .int nd, .int tn, .int an, .int wr, .int pl]))]) (k' := 0) (n' := 0) C (run_V (As := [.ref (E.2.2 126)]) (rest := []) C (t_isName X.2.1 E ro qt tb tl ta tk ts fb 6 (by decide) (by omega) (by omega) (by omega) (by omega)) mi_X10_isName wl_X5_78 rfl 0 10 rfl rfl rfl rfl rfl dX5_opOfName_29) (roK hro) [1, 2] [0] rfl rfl rfl rfl (fun r_12 uz hw => ?_)
      rcases hw with hw | hw
      · refine an2 hw ?_
        clear hw
        intro he_14 he_15 hw
        have h_13 := hw
        clear hw
        have he_14 := he_14.symm
        subst he_14
        subst he_15
        refine ww_eq (ws' := [(qs, .inr (5, [.ref qt, .ref po, .ref pa, .ref pf, .ref pd, .int nd, .int tn, .int an, .int wr, .int pl])), (qt, .inr (10, [.ref tb, .int (nI tl), .int (nI ta), .int (nI tk), .int (nI ts)])), (tb, .inl (E.2.1 0, 160, .inl fb))]) ?_ rfl rfl rfl
        refine ww_if_eq_f (tgt := 37) C dX5_opOfName_32 (by decide) (by decide) ?_
        refine ww_iconst (v := 2) C dX5_opOfName_35 rfl ?_
        exact ww_iret (u := [(qs, .inr (5, [.ref qt, .ref po, .ref pa, .ref pf, .ref pd, .int nd, .int tn, .int an, .int wr, .int pl])), (qt, .inr (10, [.ref tb, .int (nI tl), .int (nI ta), .int (nI tk), .int (nI ts)])), (tb, .inl (E.2.1 0, 160, .inl fb))]) C hT [0, 1, 2] rfl rfl rfl rfl dX5_opOfName_36 (Or.inr ⟨rfl, (by first | decide | assumption), (by first | decide | assumption), (by rw [aT_of (show IN (cz fb tl) ts tk ta 5 from h_13) (by decide)]; exact ⟨rfl, by decide⟩)⟩)
      · refine an2 hw ?_
        clear hw
        intro he_17 he_18 hw
        have h_16 := hw
        clear hw
        have he_17 := he_17.symm
        subst he_17
        subst he_18
        refine ww_eq (ws' := [(qs, .inr (5, [.ref qt, .ref po, .ref pa, .ref pf, .ref pd, .int nd, .int tn, .int an, .int wr, .int pl])), (qt, .inr (10, [.ref tb, .int (nI tl), .int (nI ta), .int (nI tk), .int (nI ts)])), (tb, .inl (E.2.1 0, 160, .inl fb))]) ?_ rfl rfl rfl
        refine ww_if_eq_t (tgt := 37) C dX5_opOfName_32 (by decide) (rfl) ?_
        refine ww_aload_n C dX5_opOfName_37 0 rfl rfl ?_
        refine ww_get C fg_X5_12 0 rfl rfl dX5_opOfName_38 ?_
        refine ww_ldcS (tx := "and") C (List.mem_of_getElem? (i := 7) rfl) rfl dX5_opOfName_41 ?_
        refine ww_ci (wr := [(qs, .inr (5, [.ref qt, .ref po, .ref pa, .ref pf, .ref pd, .int nd, .int tn, .int an, .int wr, .int pl]))]) (k' := 0) (n' := 0) C (run_V (As := [.ref (E.2.2 128)]) (rest := []) C (t_isName X.2.1 E ro qt tb tl ta tk ts fb 7 (by decide) (by omega) (by omega) (by omega) (by omega)) mi_X10_isName wl_X5_78 rfl 0 10 rfl rfl rfl rfl rfl dX5_opOfName_43) (roK hro) [1, 2] [0] rfl rfl rfl rfl (fun r_19 uz hw => ?_)
        rcases hw with hw | hw
        · refine an2 hw ?_
          clear hw
          intro he_21 he_22 hw
          have h_20 := hw
          clear hw
          have he_21 := he_21.symm
          subst he_21
          subst he_22
          refine ww_eq (ws' := [(qs, .inr (5, [.ref qt, .ref po, .ref pa, .ref pf, .ref pd, .int nd, .int tn, .int an, .int wr, .int pl])), (qt, .inr (10, [.ref tb, .int (nI tl), .int (nI ta), .int (nI tk), .int (nI ts)])), (tb, .inl (E.2.1 0, 160, .inl fb))]) ?_ rfl rfl rfl
          refine ww_if_eq_f (tgt := 51) C dX5_opOfName_46 (by decide) (by decide) ?_
          refine ww_iconst (v := 3) C dX5_opOfName_49 rfl ?_
          exact ww_iret (u := [(qs, .inr (5, [.ref qt, .ref po, .ref pa, .ref pf, .ref pd, .int nd, .int tn, .int an, .int wr, .int pl])), (qt, .inr (10, [.ref tb, .int (nI tl), .int (nI ta), .int (nI tk), .int (nI ts)])), (tb, .inl (E.2.1 0, 160, .inl fb))]) C hT [0, 1, 2] rfl rfl rfl rfl dX5_opOfName_50 (Or.inr ⟨rfl, (by first | decide | assumption), (by first | decide | assumption), (by rw [aT_of (show IN (cz fb tl) ts tk ta 6 from h_20) (by decide)]; exact ⟨rfl, by decide⟩)⟩)
        · refine an2 hw ?_
          clear hw
          intro he_24 he_25 hw
          have h_23 := hw
          clear hw
          have he_24 := he_24.symm
          subst he_24
          subst he_25
          refine ww_eq (ws' := [(qs, .inr (5, [.ref qt, .ref po, .ref pa, .ref pf, .ref pd, .int nd, .int tn, .int an, .int wr, .int pl])), (qt, .inr (10, [.ref tb, .int (nI tl), .int (nI ta), .int (nI tk), .int (nI ts)])), (tb, .inl (E.2.1 0, 160, .inl fb))]) ?_ rfl rfl rfl
          refine ww_if_eq_t (tgt := 51) C dX5_opOfName_46 (by decide) (rfl) ?_
          refine ww_aload_n C dX5_opOfName_51 0 rfl rfl ?_
          refine ww_get C fg_X5_12 0 rfl rfl dX5_opOfName_52 ?_
          refine ww_ldcS (tx := "or") C (List.mem_of_getElem? (i := 8) rfl) rfl dX5_opOfName_55 ?_
          refine ww_ci (wr := [(qs, .inr (5, [.ref qt, .ref po, .ref pa, .ref pf, .ref pd, .int nd, .int tn, .int an, .int wr, .int pl]))]) (k' := 0) (n' := 0) C (run_V (As := [.ref (E.2.2 130)]) (rest := []) C (t_isName X.2.1 E ro qt tb tl ta tk ts fb 8 (by decide) (by omega) (by omega) (by omega) (by omega)) mi_X10_isName wl_X5_78 rfl 0 10 rfl rfl rfl rfl rfl dX5_opOfName_57) (roK hro) [1, 2] [0] rfl rfl rfl rfl (fun r_26 uz hw => ?_)
          rcases hw with hw | hw
          · refine an2 hw ?_
            clear hw
            intro he_28 he_29 hw
            have h_27 := hw
            clear hw
            have he_28 := he_28.symm
            subst he_28
            subst he_29
            refine ww_eq (ws' := [(qs, .inr (5, [.ref qt, .ref po, .ref pa, .ref pf, .ref pd, .int nd, .int tn, .int an, .int wr, .int pl])), (qt, .inr (10, [.ref tb, .int (nI tl), .int (nI ta), .int (nI tk), .int (nI ts)])), (tb, .inl (E.2.1 0, 160, .inl fb))]) ?_ rfl rfl rfl
            refine ww_if_eq_f (tgt := 65) C dX5_opOfName_60 (by decide) (by decide) ?_
            refine ww_iconst (v := 4) C dX5_opOfName_63 rfl ?_
            exact ww_iret (u := [(qs, .inr (5, [.ref qt, .ref po, .ref pa, .ref pf, .ref pd, .int nd, .int tn, .int an, .int wr, .int pl])), (qt, .inr (10, [.ref tb, .int (nI tl), .int (nI ta), .int (nI tk), .int (nI ts)])), (tb, .inl (E.2.1 0, 160, .inl fb))]) C hT [0, 1, 2] rfl rfl rfl rfl dX5_opOfName_64 (Or.inr ⟨rfl, (by first | decide | assumption), (by first | decide | assumption), (by rw [aT_of (show IN (cz fb tl) ts tk ta 7 from h_27) (by decide)]; exact ⟨rfl, by decide⟩)⟩)
          · refine an2 hw ?_
            clear hw
            intro he_31 he_32 hw
            have h_30 := hw
            clear hw
            have he_31 := he_31.symm
            subst he_31
            subst he_32
            refine ww_eq (ws' := [(qs, .inr (5, [.ref qt, .ref po, .ref pa, .ref pf, .ref pd, .int nd, .int tn, .int an, .int wr, .int pl])), (qt, .inr (10, [.ref tb, .int (nI tl), .int (nI ta), .int (nI tk), .int (nI ts)])), (tb, .inl (E.2.1 0, 160, .inl fb))]) ?_ rfl rfl rfl
            refine ww_if_eq_t (tgt := 65) C dX5_opOfName_60 (by decide) (rfl) ?_
            refine ww_aload_n C dX5_opOfName_65 0 rfl rfl ?_
            refine ww_ci (wr := []) (k' := 0) (n' := 0) C (run_V (As := []) (rest := []) C (q_opAboutKnowers X.2.1 E ro qs qt po pa pf pd nd tn an wr pl tb tl ta tk ts fb (by omega) (by omega) (by omega) (by omega) (by omega) hfg) mi_X5_opAboutKnowers wl_X5_132 rfl 0 5 rfl rfl rfl rfl rfl dX5_opOfName_66) (roK hro) [0, 1, 2] [] rfl rfl rfl rfl (fun r_33 uz hw => ?_)
            rcases hw with hw | hw
            · refine an2 hw ?_
              clear hw
              intro he_35 he_36 hw
              have h_34 := hw
              clear hw
              have he_35 := he_35.symm
              subst he_35
              subst he_36
              refine ww_eq (ws' := [(qs, .inr (5, [.ref qt, .ref po, .ref pa, .ref pf, .ref pd, .int nd, .int tn, .int an, .int wr, .int pl])), (qt, .inr (10, [.ref tb, .int (nI tl), .int (nI ta), .int (nI tk), .int (nI ts)])), (tb, .inl (E.2.1 0, 160, .inl fb))]) ?_ rfl rfl rfl
              exact ww_iret (u := [(qs, .inr (5, [.ref qt, .ref po, .ref pa, .ref pf, .ref pd, .int nd, .int tn, .int an, .int wr, .int pl])), (qt, .inr (10, [.ref tb, .int (nI tl), .int (nI ta), .int (nI tk), .int (nI ts)])), (tb, .inl (E.2.1 0, 160, .inl fb))]) C hT [0, 1, 2] rfl rfl rfl rfl dX5_opOfName_69 (Or.inl ⟨rfl, rfl, (by have h9 := (fv_0 (aT (cz fb tl) ts tk ta) (by have := (aT_le (cz fb tl) ts tk ta).1; omega)); obtain ⟨q1, q2, q3, q4, q5⟩ := h_34; have n4 := aT_nn (show ¬ IN (cz fb tl) ts tk ta 4 from h_9) (by decide); have n5 := aT_nn (show ¬ IN (cz fb tl) ts tk ta 5 from h_16) (by decide); have n6 := aT_nn (show ¬ IN (cz fb tl) ts tk ta 6 from h_23) (by decide); have n7 := aT_nn (show ¬ IN (cz fb tl) ts tk ta 7 from h_30) (by decide); omega)⟩)
            · refine an3 hw ?_
              clear hw
              intro he_40 h_37 h_38 hw
              have h_39 := hw
              clear hw
              subst he_40
              refine ww_eq (ws' := [(qs, .inr (5, [.ref qt, .ref po, .ref pa, .ref pf, .ref pd, .int nd, .int tn, .int an, .int wr, .int pl])), (qt, .inr (10, [.ref tb, .int (nI tl), .int (nI ta), .int (nI tk), .int (nI ts)])), (tb, .inl (E.2.1 0, 160, .inl fb))]) ?_ rfl rfl rfl
              exact ww_iret (u := [(qs, .inr (5, [.ref qt, .ref po, .ref pa, .ref pf, .ref pd, .int nd, .int tn, .int an, .int wr, .int pl])), (qt, .inr (10, [.ref tb, .int (nI tl), .int (nI ta), .int (nI tk), .int (nI ts)])), (tb, .inl (E.2.1 0, 160, .inl fb))]) C hT [0, 1, 2] rfl rfl rfl rfl dX5_opOfName_69 (Or.inr ⟨rfl, (by first | decide | assumption), (by first | decide | assumption), ⟨h_39.1, h_39.2.2⟩⟩)
  · have zc_4 : (fv (aT (cz fb tl) ts tk ta)).toInt ≠ 0 := i_ne rfl rfl c_4
    refine ww_iconst (v := 0) C dX5_opOfName_7 rfl ?_
    exact ww_iret (u := [(qs, .inr (5, [.ref qt, .ref po, .ref pa, .ref pf, .ref pd, .int nd, .int tn, .int an, .int wr, .int pl])), (qt, .inr (10, [.ref tb, .int (nI tl), .int (nI ta), .int (nI tk), .int (nI ts)])), (tb, .inl (E.2.1 0, 160, .inl fb))]) C hT [0, 1, 2] rfl rfl rfl rfl dX5_opOfName_8 (Or.inr ⟨rfl, (by first | decide | assumption), (by first | decide | assumption), (by have h9 := (fv_0 (aT (cz fb tl) ts tk ta) (by have := (aT_le (cz fb tl) ts tk ta).1; omega)); have h8 : aT (cz fb tl) ts tk ta < 4 := (by omega); exact ⟨(opV_l h8).symm, by omega⟩)⟩)
theorem dX5_knowers_0 : decode cX5_knowers 0 = .ok (.aload_n 0, 1) := by decide +kernel
theorem dX5_knowers_1 : decode cX5_knowers 1 = .ok (.getfield 12, 3) := by decide +kernel
theorem dX5_knowers_4 : decode cX5_knowers 4 = .ok (.invokevirtual 108, 3) := by decide +kernel
theorem wl_X5_108 : Cond.methodLink RX5 108 yX10_group ∈ TB := tbm (tq3 (List.mem_of_getElem? (i := 135) (by decide +kernel))) (by decide +kernel)
theorem wc_X10_group : Cond.code yX10_group cX10_group 4 (some .int) ∈ TB := tbm (tq3 (List.mem_of_getElem? (i := 138) (rfl))) (by decide +kernel)
theorem wi_X10_group : Cond.instanceMethod yX10_group ∈ TB := tbm (tq3 (List.mem_of_getElem? (i := 136) (by decide +kernel))) (by decide +kernel)
theorem ws_X10_group : Cond.selects RX10 yX10_group yX10_group ∈ TB := tbm (tq3 (List.mem_of_getElem? (i := 137) (by decide +kernel))) (by decide +kernel)
theorem mi_X10_group : MI yX10_group cX10_group 4 (some .int) 0 := ⟨wc_X10_group, wn_X10, ⟨by decide +kernel, by decide +kernel, by decide +kernel⟩, wi_X10_group, ws_X10_group⟩
theorem dX5_knowers_7 : decode cX5_knowers 7 = .ok (.istore_n 2, 1) := by decide +kernel
theorem dX5_knowers_8 : decode cX5_knowers 8 = .ok (.iload_n 1, 1) := by decide +kernel
theorem dX5_knowers_9 : decode cX5_knowers 9 = .ok (.ifCond .eq 15, 3) := by decide +kernel
theorem dX5_knowers_12 : decode cX5_knowers 12 = .ok (.iload_n 2, 1) := by decide +kernel
theorem dX5_knowers_13 : decode cX5_knowers 13 = .ok (.invokestatic 111, 3) := by decide +kernel
theorem wl_X5_111 : Cond.methodLink RX5 111 yJ6_bitCount_0f7a4 ∈ TB := tbm (tq3 (List.mem_of_getElem? (i := 140) (by decide +kernel))) (by decide +kernel)
theorem dX5_knowers_16 : decode cX5_knowers 16 = .ok (.iconst 1, 1) := by decide +kernel
theorem dX5_knowers_17 : decode cX5_knowers 17 = .ok (.if_icmp .eq 7, 3) := by decide +kernel
theorem dX5_knowers_24 : decode cX5_knowers 24 = .ok (.iload_n 2, 1) := by decide +kernel
theorem dX5_knowers_25 : decode cX5_knowers 25 = .ok (.ireturn, 1) := by decide +kernel
theorem dX5_knowers_20 : decode cX5_knowers 20 = .ok (.iconst 0, 1) := by decide +kernel
theorem dX5_knowers_21 : decode cX5_knowers 21 = .ok (.goto 4, 3) := by decide +kernel
set_option maxRecDepth 100000 in
set_option maxHeartbeats 4000000 in
theorem q_knowers1 (l : Launch) (E : EV) (ro : va_W) (qs : Nat) (qt : Nat) (po : Nat) (pa : Nat) (pf : Nat) (pd : Nat) (nd : Int32) (tn : Int32) (an : Int32) (wr : Int32) (pl : Int32) (tb : Nat) (tl : Nat) (ta : Nat) (tk : Nat) (ts : Nat) (fb : Nat → Int32) (hts : ts ≤ ta) (hta : ta ≤ tl) (htl : tl ≤ 160) (htk : tk ≤ 3) (hs9 : tk = 2 → ts < ta) (hfg : TX (cz fb tl) ts tk ta) : CT l yX5_knowers (Cond.code yX5_knowers cX5_knowers 3 (some .int) :: TB) ({ frames := 2, cells := 0, slots := 0, locals := 44 }) E ro [.ref qs, .int 1] [(qs, .inr (5, [.ref qt, .ref po, .ref pa, .ref pf, .ref pd, .int nd, .int tn, .int an, .int wr, .int pl])), (qt, .inr (10, [.ref tb, .int (nI tl), .int (nI ta), .int (nI tk), .int (nI ts)])), (tb, .inl (E.2.1 0, 160, .inl fb))] (Qi E (fun (rz : Int32) uz => (rz = (nI (gO (gT (cz fb tl) ts tk ta))) ∧ uz = [(qs, .inr (5, [.ref qt, .ref po, .ref pa, .ref pf, .ref pd, .int nd, .int tn, .int an, .int wr, .int pl])), (qt, .inr (10, [.ref tb, .int (nI tl), .int (nI ta), .int (nI tk), .int (nI ts)])), (tb, .inl (E.2.1 0, 160, .inl fb))] ∧ (gO (gT (cz fb tl) ts tk ta) < 16)))) 0 0 := by
  refine ct_of rfl rfl ?_
  intro X C hT hin hro
  show WW X 3 E 0 [(0, .ref qs), (1, .int 1)] [] [(qs, .inr (5, [.ref qt, .ref po, .ref pa, .ref pf, .ref pd, .int nd, .int tn, .int an, .int wr, .int pl])), (qt, .inr (10, [.ref tb, .int (nI tl), .int (nI ta), .int (nI tk), .int (nI ts)])), (tb, .inl (E.2.1 0, 160, .inl fb))] 0 0
  refine ww_aload_n C dX5_knowers_0 0 rfl rfl ?_
  refine ww_get C fg_X5_12 0 rfl rfl dX5_knowers_1 ?_
  refine ww_ci (wr := [(qs, .inr (5, [.ref qt, .ref po, .ref pa, .ref pf, .ref pd, .int nd, .int tn, .int an, .int wr, .int pl]))]) (k' := 0) (n' := 0) C (run_V (As := []) (rest := []) C (t_group X.2.1 E ro qt tb tl ta tk ts fb (by omega) (by omega) (by omega) (by omega) hfg) mi_X10_group wl_X5_108 rfl 0 10 rfl rfl rfl rfl rfl dX5_knowers_4) (roK hro) [1, 2] [0] rfl rfl rfl rfl (fun r_1 uz hw => ?_)
  refine an2 hw ?_
  clear hw
  intro he_3 he_4 hw
  have h_2 := hw
  clear hw
  have he_3 := he_3.symm
  subst he_3
  subst he_4
  refine ww_eq (ws' := [(qs, .inr (5, [.ref qt, .ref po, .ref pa, .ref pf, .ref pd, .int nd, .int tn, .int an, .int wr, .int pl])), (qt, .inr (10, [.ref tb, .int (nI tl), .int (nI ta), .int (nI tk), .int (nI ts)])), (tb, .inl (E.2.1 0, 160, .inl fb))]) ?_ rfl rfl rfl
  refine ww_istore_n (lv' := [(2, .int (nI (gT (cz fb tl) ts tk ta))), (0, .ref qs), (1, .int 1)]) C dX5_knowers_7 rfl rfl rfl ?_
  refine ww_iload_n C dX5_knowers_8 2 rfl rfl ?_
  refine ww_if_eq_f (tgt := 24) C dX5_knowers_9 (by decide) (by decide) ?_
  refine ww_iload_n C dX5_knowers_12 0 rfl rfl ?_
  refine ww_ci (wr := [(qs, .inr (5, [.ref qt, .ref po, .ref pa, .ref pf, .ref pd, .int nd, .int tn, .int an, .int wr, .int pl])), (qt, .inr (10, [.ref tb, .int (nI tl), .int (nI ta), .int (nI tk), .int (nI ts)])), (tb, .inl (E.2.1 0, 160, .inl fb))]) (k' := 0) (n' := 0) C (run_S (As := [.int (nI (gT (cz fb tl) ts tk ta))]) (rest := []) C (c_bitCount X.2.1 E ro (nI (gT (cz fb tl) ts tk ta))) ms_J6_bitCount_0f7a4 wl_X5_111 rfl rfl rfl rfl dX5_knowers_13) (roK hro) [] [0, 1, 2] rfl rfl rfl rfl (fun r_5 uz hw => ?_)
  refine an1 hw ?_
  clear hw
  intro he_6 hw
  have he_7 := hw
  clear hw
  have he_6 := he_6.symm
  subst he_6
  subst he_7
  refine ww_eq (ws' := [(qs, .inr (5, [.ref qt, .ref po, .ref pa, .ref pf, .ref pd, .int nd, .int tn, .int an, .int wr, .int pl])), (qt, .inr (10, [.ref tb, .int (nI tl), .int (nI ta), .int (nI tk), .int (nI ts)])), (tb, .inl (E.2.1 0, 160, .inl fb))]) ?_ rfl rfl rfl
  refine ww_iconst (v := 1) C dX5_knowers_16 rfl ?_
  refine ww_icmp_eq (tgt := 24) C dX5_knowers_17 (by decide) (fun c_8 => ?_) (fun c_8 => ?_)
  · have zc_8 : (bcf (nI (gT (cz fb tl) ts tk ta))).toInt = 1 := i_eq rfl rfl c_8
    refine ww_iload_n C dX5_knowers_24 0 rfl rfl ?_
    exact ww_iret (u := [(qs, .inr (5, [.ref qt, .ref po, .ref pa, .ref pf, .ref pd, .int nd, .int tn, .int an, .int wr, .int pl])), (qt, .inr (10, [.ref tb, .int (nI tl), .int (nI ta), .int (nI tk), .int (nI ts)])), (tb, .inl (E.2.1 0, 160, .inl fb))]) C hT [0, 1, 2] rfl rfl rfl rfl dX5_knowers_25 (⟨(by first | (rw [gO_0 (gT_lt _ _ _ _) (by assumption)]; rfl) | rw [gO_1 (gT_lt _ _ _ _) (by assumption)]), rfl, (gO_lt (gT_lt _ _ _ _))⟩)
  · have zc_8 : (bcf (nI (gT (cz fb tl) ts tk ta))).toInt ≠ 1 := i_ne rfl rfl c_8
    refine ww_iconst (v := 0) C dX5_knowers_20 rfl ?_
    refine ww_goto (tgt := 25) C dX5_knowers_21 (by decide) ?_
    exact ww_iret (u := [(qs, .inr (5, [.ref qt, .ref po, .ref pa, .ref pf, .ref pd, .int nd, .int tn, .int an, .int wr, .int pl])), (qt, .inr (10, [.ref tb, .int (nI tl), .int (nI ta), .int (nI tk), .int (nI ts)])), (tb, .inl (E.2.1 0, 160, .inl fb))]) C hT [0, 1, 2] rfl rfl rfl rfl dX5_knowers_25 (⟨(by first | (rw [gO_0 (gT_lt _ _ _ _) (by assumption)]; rfl) | rw [gO_1 (gT_lt _ _ _ _) (by assumption)]), rfl, (gO_lt (gT_lt _ _ _ _))⟩)
set_option maxRecDepth 100000 in
set_option maxHeartbeats 4000000 in
theorem q_knowers0 (l : Launch) (E : EV) (ro : va_W) (qs : Nat) (qt : Nat) (po : Nat) (pa : Nat) (pf : Nat) (pd : Nat) (nd : Int32) (tn : Int32) (an : Int32) (wr : Int32) (pl : Int32) (tb : Nat) (tl : Nat) (ta : Nat) (tk : Nat) (ts : Nat) (fb : Nat → Int32) (hts : ts ≤ ta) (hta : ta ≤ tl) (htl : tl ≤ 160) (htk : tk ≤ 3) (hs9 : tk = 2 → ts < ta) (hfg : TX (cz fb tl) ts tk ta) : CT l yX5_knowers (Cond.code yX5_knowers cX5_knowers 3 (some .int) :: TB) ({ frames := 2, cells := 0, slots := 0, locals := 44 }) E ro [.ref qs, .int 0] [(qs, .inr (5, [.ref qt, .ref po, .ref pa, .ref pf, .ref pd, .int nd, .int tn, .int an, .int wr, .int pl])), (qt, .inr (10, [.ref tb, .int (nI tl), .int (nI ta), .int (nI tk), .int (nI ts)])), (tb, .inl (E.2.1 0, 160, .inl fb))] (Qi E (fun (rz : Int32) uz => (rz = (nI (gT (cz fb tl) ts tk ta)) ∧ uz = [(qs, .inr (5, [.ref qt, .ref po, .ref pa, .ref pf, .ref pd, .int nd, .int tn, .int an, .int wr, .int pl])), (qt, .inr (10, [.ref tb, .int (nI tl), .int (nI ta), .int (nI tk), .int (nI ts)])), (tb, .inl (E.2.1 0, 160, .inl fb))] ∧ (gT (cz fb tl) ts tk ta < 16)))) 0 0 := by
  refine ct_of rfl rfl ?_
  intro X C hT hin hro
  show WW X 3 E 0 [(0, .ref qs), (1, .int 0)] [] [(qs, .inr (5, [.ref qt, .ref po, .ref pa, .ref pf, .ref pd, .int nd, .int tn, .int an, .int wr, .int pl])), (qt, .inr (10, [.ref tb, .int (nI tl), .int (nI ta), .int (nI tk), .int (nI ts)])), (tb, .inl (E.2.1 0, 160, .inl fb))] 0 0
  refine ww_aload_n C dX5_knowers_0 0 rfl rfl ?_
  refine ww_get C fg_X5_12 0 rfl rfl dX5_knowers_1 ?_
  refine ww_ci (wr := [(qs, .inr (5, [.ref qt, .ref po, .ref pa, .ref pf, .ref pd, .int nd, .int tn, .int an, .int wr, .int pl]))]) (k' := 0) (n' := 0) C (run_V (As := []) (rest := []) C (t_group X.2.1 E ro qt tb tl ta tk ts fb (by omega) (by omega) (by omega) (by omega) hfg) mi_X10_group wl_X5_108 rfl 0 10 rfl rfl rfl rfl rfl dX5_knowers_4) (roK hro) [1, 2] [0] rfl rfl rfl rfl (fun r_1 uz hw => ?_)
  refine an2 hw ?_
  clear hw
  intro he_3 he_4 hw
  have h_2 := hw
  clear hw
  have he_3 := he_3.symm
  subst he_3
  subst he_4
  refine ww_eq (ws' := [(qs, .inr (5, [.ref qt, .ref po, .ref pa, .ref pf, .ref pd, .int nd, .int tn, .int an, .int wr, .int pl])), (qt, .inr (10, [.ref tb, .int (nI tl), .int (nI ta), .int (nI tk), .int (nI ts)])), (tb, .inl (E.2.1 0, 160, .inl fb))]) ?_ rfl rfl rfl
  refine ww_istore_n (lv' := [(2, .int (nI (gT (cz fb tl) ts tk ta))), (0, .ref qs), (1, .int 0)]) C dX5_knowers_7 rfl rfl rfl ?_
  refine ww_iload_n C dX5_knowers_8 2 rfl rfl ?_
  refine ww_if_eq_t (tgt := 24) C dX5_knowers_9 (by decide) (rfl) ?_
  refine ww_iload_n C dX5_knowers_24 0 rfl rfl ?_
  exact ww_iret (u := [(qs, .inr (5, [.ref qt, .ref po, .ref pa, .ref pf, .ref pd, .int nd, .int tn, .int an, .int wr, .int pl])), (qt, .inr (10, [.ref tb, .int (nI tl), .int (nI ta), .int (nI tk), .int (nI ts)])), (tb, .inl (E.2.1 0, 160, .inl fb))]) C hT [0, 1, 2] rfl rfl rfl rfl dX5_knowers_25 (⟨rfl, rfl, (gT_lt _ _ _ _)⟩)
