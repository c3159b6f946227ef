theorem dX5_readSaying_0 : decode cX5_readSaying 0 = .ok (.iconst 1, 1) := by decide +kernel
theorem dX5_readSaying_1 : decode cX5_readSaying 1 = .ok (.istore_n 1, 1) := by decide +kernel
theorem dX5_readSaying_2 : decode cX5_readSaying 2 = .ok (.iconst 0, 1) := by decide +kernel
theorem dX5_readSaying_3 : decode cX5_readSaying 3 = .ok (.istore_n 2, 1) := by decide +kernel
theorem dX5_readSaying_4 : decode cX5_readSaying 4 = .ok (.iload_n 2, 1) := by decide +kernel
theorem dX5_readSaying_5 : decode cX5_readSaying 5 = .ok (.bipush 32, 2) := by decide +kernel
theorem dX5_readSaying_7 : decode cX5_readSaying 7 = .ok (.if_icmp .gt 141, 3) := by decide +kernel
theorem dX5_readSaying_148 : decode cX5_readSaying 148 = .ok (.iconst 1, 1) := by decide +kernel
theorem dX5_readSaying_149 : decode cX5_readSaying 149 = .ok (.ireturn, 1) := by decide +kernel
theorem dX5_readSaying_10 : decode cX5_readSaying 10 = .ok (.iload_n 1, 1) := by decide +kernel
theorem dX5_readSaying_11 : decode cX5_readSaying 11 = .ok (.ifCond .le 137, 3) := by decide +kernel
theorem dX5_readSaying_14 : decode cX5_readSaying 14 = .ok (.aload_n 0, 1) := by decide +kernel
theorem dX5_readSaying_15 : decode cX5_readSaying 15 = .ok (.invokevirtual 89, 3) := by decide +kernel
theorem wl_X5_89 : Cond.methodLink RX5 89 yX5_opOfName ∈ TB := tbm (tq3 (List.mem_of_getElem? (i := 102) (by decide +kernel))) (by decide +kernel)
theorem wc_X5_opOfName : Cond.code yX5_opOfName cX5_opOfName 1 (some .int) ∈ TB := tbm (tq3 (List.mem_of_getElem? (i := 105) (rfl))) (by decide +kernel)
theorem wi_X5_opOfName : Cond.instanceMethod yX5_opOfName ∈ TB := tbm (tq3 (List.mem_of_getElem? (i := 104) (by decide +kernel))) (by decide +kernel)
theorem ws_X5_opOfName : Cond.selects RX5 yX5_opOfName yX5_opOfName ∈ TB := tbm (tq0 (List.mem_of_getElem? (i := 9) (by decide +kernel))) (by decide +kernel)
theorem mi_X5_opOfName : MI yX5_opOfName cX5_opOfName 1 (some .int) 0 := ⟨wc_X5_opOfName, wn_X5, ⟨by decide +kernel, by decide +kernel, by decide +kernel⟩, wi_X5_opOfName, ws_X5_opOfName⟩
theorem dX5_readSaying_18 : decode cX5_readSaying 18 = .ok (.istore_n 3, 1) := by decide +kernel
theorem dX5_readSaying_19 : decode cX5_readSaying 19 = .ok (.iload_n 3, 1) := by decide +kernel
theorem dX5_readSaying_20 : decode cX5_readSaying 20 = .ok (.bipush (-4), 2) := by decide +kernel
theorem dX5_readSaying_22 : decode cX5_readSaying 22 = .ok (.if_icmp .ne 9, 3) := by decide +kernel
theorem dX5_readSaying_25 : decode cX5_readSaying 25 = .ok (.aload_n 0, 1) := by decide +kernel
theorem dX5_readSaying_26 : decode cX5_readSaying 26 = .ok (.iconst 2, 1) := by decide +kernel
theorem dX5_readSaying_27 : decode cX5_readSaying 27 = .ok (.invokevirtual 63, 3) := by decide +kernel
theorem dX5_readSaying_30 : decode cX5_readSaying 30 = .ok (.ireturn, 1) := by decide +kernel
theorem dX5_readSaying_31 : decode cX5_readSaying 31 = .ok (.iload_n 3, 1) := by decide +kernel
theorem dX5_readSaying_32 : decode cX5_readSaying 32 = .ok (.ifCond .ne 10, 3) := by decide +kernel
theorem dX5_readSaying_42 : decode cX5_readSaying 42 = .ok (.iconst 0, 1) := by decide +kernel
theorem dX5_readSaying_43 : decode cX5_readSaying 43 = .ok (.istore 4, 2) := by decide +kernel
theorem dX5_readSaying_45 : decode cX5_readSaying 45 = .ok (.aload_n 0, 1) := by decide +kernel
theorem dX5_readSaying_46 : decode cX5_readSaying 46 = .ok (.getfield 12, 3) := by decide +kernel
theorem dX5_readSaying_49 : decode cX5_readSaying 49 = .ok (.ldc 95, 2) := by decide +kernel
theorem dX5_readSaying_51 : decode cX5_readSaying 51 = .ok (.invokevirtual 78, 3) := by decide +kernel
theorem dX5_readSaying_54 : decode cX5_readSaying 54 = .ok (.ifCond .ne 8, 3) := by decide +kernel
theorem dX5_readSaying_62 : decode cX5_readSaying 62 = .ok (.iconst 1, 1) := by decide +kernel
theorem dX5_readSaying_63 : decode cX5_readSaying 63 = .ok (.goto 4, 3) := by decide +kernel
theorem dX5_readSaying_67 : decode cX5_readSaying 67 = .ok (.istore 5, 2) := by decide +kernel
theorem dX5_readSaying_69 : decode cX5_readSaying 69 = .ok (.aload_n 0, 1) := by decide +kernel
theorem dX5_readSaying_70 : decode cX5_readSaying 70 = .ok (.invokevirtual 97, 3) := by decide +kernel
theorem wl_X5_97 : Cond.methodLink RX5 97 yX5_take ∈ TB := tbm (tq3 (List.mem_of_getElem? (i := 127) (by decide +kernel))) (by decide +kernel)
theorem wc_X5_take : Cond.code yX5_take cX5_take 1 (some .boolean) ∈ TB := tbm (tq3 (List.mem_of_getElem? (i := 130) (rfl))) (by decide +kernel)
theorem wi_X5_take : Cond.instanceMethod yX5_take ∈ TB := tbm (tq3 (List.mem_of_getElem? (i := 129) (by decide +kernel))) (by decide +kernel)
theorem ws_X5_take : Cond.selects RX5 yX5_take yX5_take ∈ TB := tbm (tq0 (List.mem_of_getElem? (i := 12) (by decide +kernel))) (by decide +kernel)
theorem mi_X5_take : MI yX5_take cX5_take 1 (some .boolean) 0 := ⟨wc_X5_take, wn_X5, ⟨by decide +kernel, by decide +kernel, by decide +kernel⟩, wi_X5_take, ws_X5_take⟩
theorem dX5_readSaying_73 : decode cX5_readSaying 73 = .ok (.ifCond .ne 5, 3) := by decide +kernel
theorem dX5_readSaying_78 : decode cX5_readSaying 78 = .ok (.iload_n 3, 1) := by decide +kernel
theorem dX5_readSaying_79 : decode cX5_readSaying 79 = .ok (.iconst 5, 1) := by decide +kernel
theorem dX5_readSaying_80 : decode cX5_readSaying 80 = .ok (.if_icmp .lt 31, 3) := by decide +kernel
theorem dX5_readSaying_111 : decode cX5_readSaying 111 = .ok (.aload_n 0, 1) := by decide +kernel
theorem dX5_readSaying_112 : decode cX5_readSaying 112 = .ok (.getfield 18, 3) := by decide +kernel
theorem wf_X5_18 : Cond.fieldLink RX5 18 RX5 "ops" "[I" ∈ TB := tbm (tq1 (List.mem_of_getElem? (i := 100) (by decide +kernel))) (by decide +kernel)
theorem fg_X5_18 : FG RX5 18 5 1 := ⟨RX5, TX5, 10, uw_X5, wf_X5_18, rfl, by decide, rfl⟩
theorem dX5_readSaying_115 : decode cX5_readSaying 115 = .ok (.iload_n 2, 1) := by decide +kernel
theorem dX5_readSaying_116 : decode cX5_readSaying 116 = .ok (.iload_n 3, 1) := by decide +kernel
theorem dX5_readSaying_117 : decode cX5_readSaying 117 = .ok (.iastore, 1) := by decide +kernel
theorem dX5_readSaying_118 : decode cX5_readSaying 118 = .ok (.aload_n 0, 1) := by decide +kernel
theorem dX5_readSaying_119 : decode cX5_readSaying 119 = .ok (.getfield 22, 3) := by decide +kernel
theorem wf_X5_22 : Cond.fieldLink RX5 22 RX5 "args" "[I" ∈ TB := tbm (tq1 (List.mem_of_getElem? (i := 101) (by decide +kernel))) (by decide +kernel)
theorem fg_X5_22 : FG RX5 22 5 2 := ⟨RX5, TX5, 10, uw_X5, wf_X5_22, rfl, by decide, rfl⟩
theorem dX5_readSaying_122 : decode cX5_readSaying 122 = .ok (.iload_n 2, 1) := by decide +kernel
theorem dX5_readSaying_123 : decode cX5_readSaying 123 = .ok (.iload 4, 2) := by decide +kernel
theorem dX5_readSaying_125 : decode cX5_readSaying 125 = .ok (.iastore, 1) := by decide +kernel
theorem dX5_readSaying_126 : decode cX5_readSaying 126 = .ok (.aload_n 0, 1) := by decide +kernel
theorem dX5_readSaying_127 : decode cX5_readSaying 127 = .ok (.iload_n 2, 1) := by decide +kernel
theorem dX5_readSaying_128 : decode cX5_readSaying 128 = .ok (.iconst 1, 1) := by decide +kernel
theorem dX5_readSaying_129 : decode cX5_readSaying 129 = .ok (.iadd, 1) := by decide +kernel
theorem dX5_readSaying_130 : decode cX5_readSaying 130 = .ok (.putfield 31, 3) := by decide +kernel
theorem wf_X5_31 : Cond.fieldLink RX5 31 RX5 "nodes" "I" ∈ TB := tbm (tq1 (List.mem_of_getElem? (i := 104) (by decide +kernel))) (by decide +kernel)
theorem fp_X5_31 : FP RX5 31 5 5 .int false := ⟨RX5, TX5, 10, tyX5, uw_X5, wf_X5_31, rfl, by decide, rfl, tyX5_ok, nmX5, rfl, by decide +kernel⟩
theorem dX5_readSaying_133 : decode cX5_readSaying 133 = .ok (.iload_n 1, 1) := by decide +kernel
theorem dX5_readSaying_134 : decode cX5_readSaying 134 = .ok (.iload_n 3, 1) := by decide +kernel
theorem dX5_readSaying_135 : decode cX5_readSaying 135 = .ok (.invokestatic 104, 3) := by decide +kernel
theorem dX5_readSaying_138 : decode cX5_readSaying 138 = .ok (.iconst 1, 1) := by decide +kernel
theorem dX5_readSaying_139 : decode cX5_readSaying 139 = .ok (.isub, 1) := by decide +kernel
theorem dX5_readSaying_140 : decode cX5_readSaying 140 = .ok (.iadd, 1) := by decide +kernel
theorem dX5_readSaying_141 : decode cX5_readSaying 141 = .ok (.istore_n 1, 1) := by decide +kernel
theorem dX5_readSaying_142 : decode cX5_readSaying 142 = .ok (.iinc 2 1, 3) := by decide +kernel
theorem dX5_readSaying_145 : decode cX5_readSaying 145 = .ok (.goto (-141), 3) := by decide +kernel
theorem dX5_readSaying_83 : decode cX5_readSaying 83 = .ok (.aload_n 0, 1) := by decide +kernel
theorem dX5_readSaying_84 : decode cX5_readSaying 84 = .ok (.iload 5, 2) := by decide +kernel
theorem dX5_readSaying_86 : decode cX5_readSaying 86 = .ok (.invokevirtual 100, 3) := by decide +kernel
theorem wl_X5_100 : Cond.methodLink RX5 100 yX5_knowers ∈ TB := tbm (tq3 (List.mem_of_getElem? (i := 131) (by decide +kernel))) (by decide +kernel)
theorem wc_X5_knowers : Cond.code yX5_knowers cX5_knowers 3 (some .int) ∈ TB := tbm (tq3 (List.mem_of_getElem? (i := 134) (rfl))) (by decide +kernel)
theorem wi_X5_knowers : Cond.instanceMethod yX5_knowers ∈ TB := tbm (tq3 (List.mem_of_getElem? (i := 133) (by decide +kernel))) (by decide +kernel)
theorem ws_X5_knowers : Cond.selects RX5 yX5_knowers yX5_knowers ∈ TB := tbm (tq0 (List.mem_of_getElem? (i := 13) (by decide +kernel))) (by decide +kernel)
theorem mi_X5_knowers : MI yX5_knowers cX5_knowers 3 (some .int) 1 := ⟨wc_X5_knowers, wn_X5, ⟨by decide +kernel, by decide +kernel, by decide +kernel⟩, wi_X5_knowers, ws_X5_knowers⟩
theorem dX5_readSaying_89 : decode cX5_readSaying 89 = .ok (.istore 4, 2) := by decide +kernel
theorem dX5_readSaying_91 : decode cX5_readSaying 91 = .ok (.iload 4, 2) := by decide +kernel
theorem dX5_readSaying_93 : decode cX5_readSaying 93 = .ok (.ifCond .ne 9, 3) := by decide +kernel
theorem dX5_readSaying_102 : decode cX5_readSaying 102 = .ok (.aload_n 0, 1) := by decide +kernel
theorem dX5_readSaying_103 : decode cX5_readSaying 103 = .ok (.invokevirtual 97, 3) := by decide +kernel
theorem dX5_readSaying_106 : decode cX5_readSaying 106 = .ok (.ifCond .ne 5, 3) := by decide +kernel
theorem dX5_readSaying_109 : decode cX5_readSaying 109 = .ok (.iconst 0, 1) := by decide +kernel
theorem dX5_readSaying_110 : decode cX5_readSaying 110 = .ok (.ireturn, 1) := by decide +kernel
theorem dX5_readSaying_96 : decode cX5_readSaying 96 = .ok (.aload_n 0, 1) := by decide +kernel
theorem dX5_readSaying_97 : decode cX5_readSaying 97 = .ok (.iconst 2, 1) := by decide +kernel
theorem dX5_readSaying_98 : decode cX5_readSaying 98 = .ok (.invokevirtual 63, 3) := by decide +kernel
theorem dX5_readSaying_101 : decode cX5_readSaying 101 = .ok (.ireturn, 1) := by decide +kernel
theorem dX5_readSaying_76 : decode cX5_readSaying 76 = .ok (.iconst 0, 1) := by decide +kernel
theorem dX5_readSaying_77 : decode cX5_readSaying 77 = .ok (.ireturn, 1) := by decide +kernel
theorem dX5_readSaying_57 : decode cX5_readSaying 57 = .ok (.iload_n 3, 1) := by decide +kernel
theorem dX5_readSaying_58 : decode cX5_readSaying 58 = .ok (.iconst 5, 1) := by decide +kernel
theorem dX5_readSaying_59 : decode cX5_readSaying 59 = .ok (.if_icmp .ne 7, 3) := by decide +kernel
theorem dX5_readSaying_66 : decode cX5_readSaying 66 = .ok (.iconst 0, 1) := by decide +kernel
theorem dX5_readSaying_35 : decode cX5_readSaying 35 = .ok (.aload_n 0, 1) := by decide +kernel
theorem dX5_readSaying_36 : decode cX5_readSaying 36 = .ok (.invokevirtual 92, 3) := by decide +kernel
theorem dX5_readSaying_39 : decode cX5_readSaying 39 = .ok (.goto 4, 3) := by decide +kernel
set_option maxRecDepth 100000 in
set_option maxHeartbeats 4000000 in
theorem q_readSaying (l : Launch) (E : EV) (ro : va_W) (qs : Nat) (qt : Nat) (po : Nat) (pa : Nat) (pf : Nat) (pd : Nat) (an : Int32) (wr : Int32) (pl : Int32) (tb : Nat) (tl : Nat) (ta : Nat) (tk : Nat) (ts : Nat) (fb : Nat → Int32) (fo : Nat → Int32) (fa : Nat → Int32) (p_ : Nat) (hts : ts ≤ ta) (hta : ta ≤ tl) (htl : tl ≤ 160) (htk : tk ≤ 3) (hs9 : tk = 2 → ts < ta) (hfg : TX (cz fb tl) ts tk ta) (htok : TK (cz fb tl) p_ ts tk ta) : CT l yX5_readSaying (Cond.code yX5_readSaying cX5_readSaying 6 (some .boolean) :: TB) ({ frames := 7, cells := 0, slots := 0, locals := 147 }) E ro [.ref qs] [(qs, .inr (5, [.ref qt, .ref po, .ref pa, .ref pf, .ref pd, .int 0, .int 0, .int an, .int wr, .int pl])), (qt, .inr (10, [.ref tb, .int (nI tl), .int (nI ta), .int (nI tk), .int (nI ts)])), (tb, .inl (E.2.1 0, 160, .inl fb)), (po, .inl (E.2.1 1, 32, .inl fo)), (pa, .inl (E.2.1 1, 32, .inl fa))] (Qi E (fun (rz : Int32) uz => (∃ (ta2 : Nat) (tk2 : Nat) (ts2 : Nat) (nn : Nat) (tn2 : Nat) (p2 : Nat) (fo2 : Nat → Int32) (fa2 : Nat → Int32), rz = 1 ∧ uz = [(qs, .inr (5, [.ref qt, .ref po, .ref pa, .ref pf, .ref pd, .int (nI nn), .int (nI tn2), .int an, .int wr, .int pl])), (qt, .inr (10, [.ref tb, .int (nI tl), .int (nI ta2), .int (nI tk2), .int (nI ts2)])), (tb, .inl (E.2.1 0, 160, .inl fb)), (po, .inl (E.2.1 1, 32, .inl fo2)), (pa, .inl (E.2.1 1, 32, .inl fa2))] ∧ (ts2 ≤ ta2) ∧ (ta2 ≤ tl) ∧ (tk2 ≤ 3) ∧ (tk2 = 2 → ts2 < ta2) ∧ (TX (cz fb tl) ts2 tk2 ta2) ∧ (tn2 ≤ 32) ∧ (WFs nn fo2) ∧ (TK (cz fb tl) p2 ts2 tk2 ta2) ∧ (RUN (cz fb tl) p_ nn ∧ it (cz fb tl) p_ nn = .inr (p2, tn2, 0)) ∧ (OPX (cz fb tl) p_ nn fo2 fa2)) ∨ (∃ (ta2 : Nat) (tk2 : Nat) (ts2 : Nat) (nd2 : Int32) (tn2 : Int32) (wr2 : Int32) (pl2 : Nat) (fo2 : Nat → Int32) (fa2 : Nat → Int32), rz = 0 ∧ uz = [(qs, .inr (5, [.ref qt, .ref po, .ref pa, .ref pf, .ref pd, .int nd2, .int tn2, .int an, .int wr2, .int (nI pl2)])), (qt, .inr (10, [.ref tb, .int (nI tl), .int (nI ta2), .int (nI tk2), .int (nI ts2)])), (tb, .inl (E.2.1 0, 160, .inl fb)), (po, .inl (E.2.1 1, 32, .inl fo2)), (pa, .inl (E.2.1 1, 32, .inl fa2))] ∧ (ts2 ≤ ta2) ∧ (ta2 ≤ tl) ∧ (tk2 ≤ 3) ∧ (tk2 = 2 → ts2 < ta2) ∧ (TX (cz fb tl) ts2 tk2 ta2) ∧ (it (cz fb tl) p_ 33 = .inl pl2)))) 0 0 := by
  refine ct_of rfl rfl ?_
  intro X C hT hin hro
  show WW X 6 E 0 [(0, .ref qs)] [] [(qs, .inr (5, [.ref qt, .ref po, .ref pa, .ref pf, .ref pd, .int 0, .int 0, .int an, .int wr, .int pl])), (qt, .inr (10, [.ref tb, .int (nI tl), .int (nI ta), .int (nI tk), .int (nI ts)])), (tb, .inl (E.2.1 0, 160, .inl fb)), (po, .inl (E.2.1 1, 32, .inl fo)), (pa, .inl (E.2.1 1, 32, .inl fa))] 0 0
  refine ww_iconst (v := 1) C dX5_readSaying_0 rfl ?_
  refine ww_istore_n (lv' := [(1, .int 1), (0, .ref qs)]) C dX5_readSaying_1 rfl rfl rfl ?_
  refine ww_iconst (v := 0) C dX5_readSaying_2 rfl ?_
  refine ww_istore_n (lv' := [(2, .int 0), (1, .int 1), (0, .ref qs)]) C dX5_readSaying_3 rfl rfl rfl ?_
  have loop_4 : ∀ (fu : Nat) (n1 : Nat) (op1 : Nat) (tn1 : Nat) (ta1 : Nat) (tk1 : Nat) (ts1 : Nat) (p1 : Nat) (fo1 : Nat → Int32) (fa1 : Nat → Int32), (n1 ≤ tn1) → (tn1 ≤ 32) → ((op1 : Int) = opn fo1 n1) → (OPV n1 fo1) → (n1 = 0 → op1 = 1) → (op1 ≤ n1 + 1) → (ts1 ≤ ta1) → (ta1 ≤ tl) → (tk1 ≤ 3) → (tk1 = 2 → ts1 < ta1) → (TX (cz fb tl) ts1 tk1 ta1) → (TK (cz fb tl) p1 ts1 tk1 ta1) → (it (cz fb tl) p_ n1 = .inr (p1, tn1, op1)) → (RUN (cz fb tl) p_ n1) → (OPX (cz fb tl) p_ n1 fo1 fa1) → 33 - n1 < fu → WW X 6 E 4 [(2, .int (nI n1)), (1, .int (nI op1)), (0, .ref qs)] [] [(qs, .inr (5, [.ref qt, .ref po, .ref pa, .ref pf, .ref pd, .int (nI n1), .int (nI tn1), .int an, .int wr, .int pl])), (qt, .inr (10, [.ref tb, .int (nI tl), .int (nI ta1), .int (nI tk1), .int (nI ts1)])), (tb, .inl (E.2.1 0, 160, .inl fb)), (po, .inl (E.2.1 1, 32, .inl fo1)), (pa, .inl (E.2.1 1, 32, .inl fa1))] 0 0 := by
    intro fu
    induction fu with
    | zero => intro n1 op1 tn1 ta1 tk1 ts1 p1 fo1 fa1 hn1 htn1 hop1 hopv hn0 hopb hts1 hta1 htk1 hs91 hfg1 htk0 hit hrun hopx hmeas; exact absurd hmeas (Nat.not_lt_zero _)
    | succ fu ih_4 =>
      intro n1 op1 tn1 ta1 tk1 ts1 p1 fo1 fa1 hn1 htn1 hop1 hopv hn0 hopb hts1 hta1 htk1 hs91 hfg1 htk0 hit hrun hopx hmeas
      refine ww_iload_n C dX5_readSaying_4 0 rfl rfl ?_
      refine ww_bipush (v := 32) C dX5_readSaying_5 rfl ?_
      refine ww_icmp_gt (tgt := 148) C dX5_readSaying_7 (by decide) (fun c_1 => ?_) (fun c_1 => ?_)
      · have zc_1 : ((n1 : Nat) : Int) > 32 := i_lt rfl (nI_toInt (n := n1) (by omega)) c_1
        refine ww_iconst (v := 1) C dX5_readSaying_148 rfl ?_
        exact ww_zret (u := [(qs, .inr (5, [.ref qt, .ref po, .ref pa, .ref pf, .ref pd, .int (nI n1), .int (nI tn1), .int an, .int wr, .int pl])), (qt, .inr (10, [.ref tb, .int (nI tl), .int (nI ta1), .int (nI tk1), .int (nI ts1)])), (tb, .inl (E.2.1 0, 160, .inl fb)), (po, .inl (E.2.1 1, 32, .inl fo1)), (pa, .inl (E.2.1 1, 32, .inl fa1))]) C hT [0, 1, 2, 3, 4] rfl rfl rfl rfl rfl dX5_readSaying_149 (Or.inl ⟨ta1, tk1, ts1, n1, tn1, p1, fo1, fa1, rfl, rfl, (by first | assumption | omega | decide), (by first | assumption | omega | decide), (by first | assumption | omega | decide), (by omega), hfg1, (by first | assumption | omega | decide), (OPV.wf hopv (by omega) (by omega) (by omega)), htk0, ⟨hrun, by rw [hit, show op1 = 0 by omega]⟩, hopx⟩)
      · have zc_1 : ((n1 : Nat) : Int) ≤ 32 := i_nlt rfl (nI_toInt (n := n1) (by omega)) c_1
        refine ww_iload_n C dX5_readSaying_10 1 rfl rfl ?_
        refine ww_if_le (tgt := 148) C dX5_readSaying_11 (by decide) (fun c_2 => ?_) (fun c_2 => ?_)
        · have zc_2 : ((op1 : Nat) : Int) ≤ 0 := i_le (nI_toInt (n := op1) (by omega)) rfl c_2
          refine ww_iconst (v := 1) C dX5_readSaying_148 rfl ?_
          exact ww_zret (u := [(qs, .inr (5, [.ref qt, .ref po, .ref pa, .ref pf, .ref pd, .int (nI n1), .int (nI tn1), .int an, .int wr, .int pl])), (qt, .inr (10, [.ref tb, .int (nI tl), .int (nI ta1), .int (nI tk1), .int (nI ts1)])), (tb, .inl (E.2.1 0, 160, .inl fb)), (po, .inl (E.2.1 1, 32, .inl fo1)), (pa, .inl (E.2.1 1, 32, .inl fa1))]) C hT [0, 1, 2, 3, 4] rfl rfl rfl rfl rfl dX5_readSaying_149 (Or.inl ⟨ta1, tk1, ts1, n1, tn1, p1, fo1, fa1, rfl, rfl, (by first | assumption | omega | decide), (by first | assumption | omega | decide), (by first | assumption | omega | decide), (by omega), hfg1, (by first | assumption | omega | decide), (OPV.wf hopv (by omega) (by omega) (by omega)), htk0, ⟨hrun, by rw [hit, show op1 = 0 by omega]⟩, hopx⟩)
        · have zc_2 : ((op1 : Nat) : Int) > 0 := i_nle (nI_toInt (n := op1) (by omega)) rfl c_2
          refine ww_aload_n C dX5_readSaying_14 2 rfl rfl ?_
          refine ww_ci (wr := [(po, .inl (E.2.1 1, 32, .inl fo1)), (pa, .inl (E.2.1 1, 32, .inl fa1))]) (k' := 0) (n' := 0) C (run_V (As := []) (rest := []) C (q_opOfName X.2.1 E ro qs qt po pa pf pd (nI n1) (nI tn1) an wr pl tb tl ta1 tk1 ts1 fb (by omega) (by omega) (by omega) (by omega) (by omega) hfg1) mi_X5_opOfName wl_X5_89 rfl 0 5 rfl rfl rfl rfl rfl dX5_readSaying_15) (roK hro) [0, 1, 2] [3, 4] rfl rfl rfl rfl (fun r_3 uz hw => ?_)
          rcases hw with hw | hw
          · refine an2 hw ?_
            clear hw
            intro he_5 he_6 hw
            have h_4 := hw
            clear hw
            have he_5 := he_5.symm
            subst he_5
            subst he_6
            refine ww_eq (ws' := [(po, .inl (E.2.1 1, 32, .inl fo1)), (pa, .inl (E.2.1 1, 32, .inl fa1)), (qs, .inr (5, [.ref qt, .ref po, .ref pa, .ref pf, .ref pd, .int (nI n1), .int (nI tn1), .int an, .int wr, .int pl])), (qt, .inr (10, [.ref tb, .int (nI tl), .int (nI ta1), .int (nI tk1), .int (nI ts1)])), (tb, .inl (E.2.1 0, 160, .inl fb))]) ?_ rfl rfl rfl
            refine ww_istore_n (lv' := [(3, .int (-4)), (2, .int (nI n1)), (1, .int (nI op1)), (0, .ref qs)]) C dX5_readSaying_18 rfl rfl rfl ?_
            refine ww_iload_n C dX5_readSaying_19 0 rfl rfl ?_
            refine ww_bipush (v := (-4)) C dX5_readSaying_20 rfl ?_
            refine ww_icmp_ne_f (tgt := 31) C dX5_readSaying_22 (by decide) (rfl) ?_
            refine ww_aload_n C dX5_readSaying_25 3 rfl rfl ?_
            refine ww_iconst (v := 2) C dX5_readSaying_26 rfl ?_
            refine ww_ci (wr := [(po, .inl (E.2.1 1, 32, .inl fo1)), (pa, .inl (E.2.1 1, 32, .inl fa1)), (tb, .inl (E.2.1 0, 160, .inl fb))]) (k' := 0) (n' := 0) C (run_V (As := [.int 2]) (rest := []) C (q_fail X.2.1 E ro qs 2 qt po pa pf pd (nI n1) (nI tn1) an wr pl tb tl (nI ta1) tk1 ts1 (by omega)) mi_X5_fail wl_X5_63 rfl 0 5 rfl rfl rfl rfl rfl dX5_readSaying_27) (roK hro) [2, 3] [0, 1, 4] rfl rfl rfl rfl (fun r_11 uz hw => ?_)
            refine an1 hw ?_
            clear hw
            intro he_12 hw
            have he_13 := hw
            clear hw
            have he_12 := he_12.symm
            subst he_12
            subst he_13
            refine ww_eq (ws' := [(po, .inl (E.2.1 1, 32, .inl fo1)), (pa, .inl (E.2.1 1, 32, .inl fa1)), (tb, .inl (E.2.1 0, 160, .inl fb)), (qs, .inr (5, [.ref qt, .ref po, .ref pa, .ref pf, .ref pd, .int (nI n1), .int (nI tn1), .int an, .int 2, .int (nI ts1)])), (qt, .inr (10, [.ref tb, .int (nI tl), .int (nI ta1), .int (nI tk1), .int (nI ts1)]))]) ?_ rfl rfl rfl
            exact ww_zret (u := [(qs, .inr (5, [.ref qt, .ref po, .ref pa, .ref pf, .ref pd, .int (nI n1), .int (nI tn1), .int an, .int 2, .int (nI ts1)])), (qt, .inr (10, [.ref tb, .int (nI tl), .int (nI ta1), .int (nI tk1), .int (nI ts1)])), (tb, .inl (E.2.1 0, 160, .inl fb)), (po, .inl (E.2.1 1, 32, .inl fo1)), (pa, .inl (E.2.1 1, 32, .inl fa1))]) C hT [3, 4, 2, 0, 1] rfl rfl rfl rfl rfl dX5_readSaying_30 (Or.inr ⟨ta1, tk1, ts1, (nI n1), (nI tn1), 2, ts1, fo1, fa1, rfl, rfl, (by first | assumption | omega | decide), (by first | assumption | omega | decide), (by first | assumption | omega | decide), (by omega), hfg1, (it_bad hit (by omega) (sg_f1 htk0 (Or.inl h_4)) (by omega))⟩)
          · refine an3 hw ?_
            clear hw
            intro he_10 h_7 h_8 hw
            have h_9 := hw
            clear hw
            subst he_10
            refine ww_eq (ws' := [(po, .inl (E.2.1 1, 32, .inl fo1)), (pa, .inl (E.2.1 1, 32, .inl fa1)), (qs, .inr (5, [.ref qt, .ref po, .ref pa, .ref pf, .ref pd, .int (nI n1), .int (nI tn1), .int an, .int wr, .int pl])), (qt, .inr (10, [.ref tb, .int (nI tl), .int (nI ta1), .int (nI tk1), .int (nI ts1)])), (tb, .inl (E.2.1 0, 160, .inl fb))]) ?_ rfl rfl rfl
            refine ww_istore_n (lv' := [(3, .int r_3), (2, .int (nI n1)), (1, .int (nI op1)), (0, .ref qs)]) C dX5_readSaying_18 rfl rfl rfl ?_
            refine ww_iload_n C dX5_readSaying_19 0 rfl rfl ?_
            refine ww_bipush (v := (-4)) C dX5_readSaying_20 rfl ?_
            refine ww_icmp_ne (tgt := 31) C dX5_readSaying_22 (by decide) (fun c_14 => ?_) (fun c_14 => ?_)
            · have zc_14 : r_3.toInt ≠ (-4) := i_ne rfl rfl c_14
              have hAk_15 := h_9.2
              have hA0k_15 := opV_0 (aT (cz fb tl) ts1 tk1 ta1) h_9.2
              have hA5k_15 := opV_5 (aT (cz fb tl) ts1 tk1 ta1) h_9.2
              have hAkk_15 := opV_k (aT (cz fb tl) ts1 tk1 ta1) h_9.2
              rw [← h_9.1] at hA0k_15 hA5k_15 hAkk_15
              refine ww_iload_n C dX5_readSaying_31 0 rfl rfl ?_
              refine ww_if_ne (tgt := 42) C dX5_readSaying_32 (by decide) (fun c_16 => ?_) (fun c_16 => ?_)
              · have zc_16 : r_3.toInt ≠ 0 := i_ne rfl rfl c_16
                refine ww_iconst (v := 0) C dX5_readSaying_42 rfl ?_
                refine ww_istore (lv' := [(4, .int 0), (3, .int r_3), (2, .int (nI n1)), (1, .int (nI op1)), (0, .ref qs)]) C dX5_readSaying_43 rfl rfl ?_
                refine ww_aload_n C dX5_readSaying_45 4 rfl rfl ?_
                refine ww_get C fg_X5_12 2 rfl rfl dX5_readSaying_46 ?_
                refine ww_ldcS (tx := "know") C (List.mem_of_getElem? (i := 9) rfl) rfl dX5_readSaying_49 ?_
                refine ww_ci (wr := [(po, .inl (E.2.1 1, 32, .inl fo1)), (pa, .inl (E.2.1 1, 32, .inl fa1)), (qs, .inr (5, [.ref qt, .ref po, .ref pa, .ref pf, .ref pd, .int (nI n1), .int (nI tn1), .int an, .int wr, .int pl]))]) (k' := 0) (n' := 0) C (run_V (As := [.ref (E.2.2 95)]) (rest := []) C (t_isName X.2.1 E ro qt tb tl ta1 tk1 ts1 fb 9 (by decide) (by omega) (by omega) (by omega) (by omega)) mi_X10_isName wl_X5_78 rfl 0 10 rfl rfl rfl rfl rfl dX5_readSaying_51) (roK hro) [3, 4] [0, 1, 2] rfl rfl rfl rfl (fun r_17 uz hw => ?_)
                rcases hw with hw | hw
                · refine an2 hw ?_
                  clear hw
                  intro he_19 he_20 hw
                  have h_18 := hw
                  clear hw
                  have he_19 := he_19.symm
                  subst he_19
                  subst he_20
                  refine ww_eq (ws' := [(po, .inl (E.2.1 1, 32, .inl fo1)), (pa, .inl (E.2.1 1, 32, .inl fa1)), (qs, .inr (5, [.ref qt, .ref po, .ref pa, .ref pf, .ref pd, .int (nI n1), .int (nI tn1), .int an, .int wr, .int pl])), (qt, .inr (10, [.ref tb, .int (nI tl), .int (nI ta1), .int (nI tk1), .int (nI ts1)])), (tb, .inl (E.2.1 0, 160, .inl fb))]) ?_ rfl rfl rfl
                  have hNk_24 := aT_of (show IN (cz fb tl) ts1 tk1 ta1 8 from h_18) (by decide)
                  refine ww_if_ne_t (tgt := 62) C dX5_readSaying_54 (by decide) (by decide) ?_
                  refine ww_iconst (v := 1) C dX5_readSaying_62 rfl ?_
                  refine ww_goto (tgt := 67) C dX5_readSaying_63 (by decide) ?_
                  refine ww_istore (lv' := [(5, .int 1), (4, .int 0), (3, .int r_3), (2, .int (nI n1)), (1, .int (nI op1)), (0, .ref qs)]) C dX5_readSaying_67 rfl rfl ?_
                  refine ww_aload_n C dX5_readSaying_69 5 rfl rfl ?_
                  refine ww_ci (wr := [(po, .inl (E.2.1 1, 32, .inl fo1)), (pa, .inl (E.2.1 1, 32, .inl fa1))]) (k' := 0) (n' := 0) C (run_V (As := []) (rest := []) C (q_take X.2.1 E ro qs qt po pa pf pd (nI n1) tn1 an wr pl tb tl ta1 tk1 ts1 fb (by omega) (by omega) (by omega) (by omega) (by omega) hfg1 (by omega)) mi_X5_take wl_X5_97 rfl 0 5 rfl rfl rfl rfl rfl dX5_readSaying_70) (roK hro) [2, 3, 4] [0, 1] rfl rfl rfl rfl (fun r_25 uz hw => ?_)
                  rcases hw with hw | hw
                  · refine ex3 hw ?_
                    clear hw
                    intro ta2_26 tk2_27 ts2_28 hw
                    refine an8 hw ?_
                    clear hw
                    intro he_37 he_38 h_29 h_30 h_31 h_32 h_33 h_34 hw
                    refine an1 hw ?_
                    clear hw
                    intro h_35 hw
                    have h_36 := hw
                    clear hw
                    have he_37 := he_37.symm
                    subst he_37
                    subst he_38
                    refine ww_eq (ws' := [(po, .inl (E.2.1 1, 32, .inl fo1)), (pa, .inl (E.2.1 1, 32, .inl fa1)), (qs, .inr (5, [.ref qt, .ref po, .ref pa, .ref pf, .ref pd, .int (nI n1), .int (nI (tn1 + 1)), .int an, .int wr, .int pl])), (qt, .inr (10, [.ref tb, .int (nI tl), .int (nI ta2_26), .int (nI tk2_27), .int (nI ts2_28)])), (tb, .inl (E.2.1 0, 160, .inl fb))]) ?_ rfl rfl rfl
                    refine ww_if_ne_t (tgt := 78) C dX5_readSaying_73 (by decide) (by decide) ?_
                    refine ww_iload_n C dX5_readSaying_78 2 rfl rfl ?_
                    refine ww_iconst (v := 5) C dX5_readSaying_79 rfl ?_
                    refine ww_icmp_lt (tgt := 111) C dX5_readSaying_80 (by decide) (fun c_53 => ?_) (fun c_53 => ?_)
                    · have zc_53 : r_3.toInt < 5 := i_lt rfl rfl c_53
                      refine ww_aload_n C dX5_readSaying_111 5 rfl rfl ?_
                      refine ww_get C fg_X5_18 2 rfl rfl dX5_readSaying_112 ?_
                      refine ww_iload_n C dX5_readSaying_115 3 rfl rfl ?_
                      refine ww_iload_n C dX5_readSaying_116 2 rfl rfl ?_
                      obtain ⟨f_54, ef_54⟩ : ∃ z : Nat → Int32, upd fo1 n1 r_3 = z := ⟨_, rfl⟩
                      refine ww_iast (ws' := [(po, .inl (E.2.1 1, 32, .inl f_54)), (pa, .inl (E.2.1 1, 32, .inl fa1)), (qs, .inr (5, [.ref qt, .ref po, .ref pa, .ref pf, .ref pd, .int (nI n1), .int (nI (tn1 + 1)), .int an, .int wr, .int pl])), (qt, .inr (10, [.ref tb, .int (nI tl), .int (nI ta2_26), .int (nI tk2_27), .int (nI ts2_28)])), (tb, .inl (E.2.1 0, 160, .inl fb))]) C 0 rfl (vp_in_nI (by omega) (by omega)) (ldn2 (by omega) ef_54) rfl dX5_readSaying_117 ?_
                      refine ww_aload_n C dX5_readSaying_118 5 rfl rfl ?_
                      refine ww_get C fg_X5_22 2 rfl rfl dX5_readSaying_119 ?_
                      refine ww_iload_n C dX5_readSaying_122 3 rfl rfl ?_
                      refine ww_iload C dX5_readSaying_123 1 rfl ?_
                      obtain ⟨f_55, ef_55⟩ : ∃ z : Nat → Int32, upd fa1 n1 0 = z := ⟨_, rfl⟩
                      refine ww_iast (ws' := [(po, .inl (E.2.1 1, 32, .inl f_54)), (pa, .inl (E.2.1 1, 32, .inl f_55)), (qs, .inr (5, [.ref qt, .ref po, .ref pa, .ref pf, .ref pd, .int (nI n1), .int (nI (tn1 + 1)), .int an, .int wr, .int pl])), (qt, .inr (10, [.ref tb, .int (nI tl), .int (nI ta2_26), .int (nI tk2_27), .int (nI ts2_28)])), (tb, .inl (E.2.1 0, 160, .inl fb))]) C 1 rfl (vp_in_nI (by omega) (by omega)) (ldn2 (by omega) ef_55) rfl dX5_readSaying_125 ?_
                      refine ww_aload_n C dX5_readSaying_126 5 rfl rfl ?_
                      refine ww_iload_n C dX5_readSaying_127 3 rfl rfl ?_
                      refine ww_iconst (v := 1) C dX5_readSaying_128 rfl ?_
                      refine ww_iadd (v := (nI (n1 + 1))) C dX5_readSaying_129 (nI_add n1 1) ?_
                      refine ww_put (ws' := [(po, .inl (E.2.1 1, 32, .inl f_54)), (pa, .inl (E.2.1 1, 32, .inl f_55)), (qs, .inr (5, [.ref qt, .ref po, .ref pa, .ref pf, .ref pd, .int (nI (n1 + 1)), .int (nI (tn1 + 1)), .int an, .int wr, .int pl])), (qt, .inr (10, [.ref tb, .int (nI tl), .int (nI ta2_26), .int (nI tk2_27), .int (nI ts2_28)])), (tb, .inl (E.2.1 0, 160, .inl fb))]) C fp_X5_31 2 rfl rfl rfl rfl rfl dX5_readSaying_130 ?_
                      refine ww_iload_n C dX5_readSaying_133 4 rfl rfl ?_
                      refine ww_iload_n C dX5_readSaying_134 2 rfl rfl ?_
                      refine ww_ci (wr := [(po, .inl (E.2.1 1, 32, .inl f_54)), (pa, .inl (E.2.1 1, 32, .inl f_55)), (qs, .inr (5, [.ref qt, .ref po, .ref pa, .ref pf, .ref pd, .int (nI (n1 + 1)), .int (nI (tn1 + 1)), .int an, .int wr, .int pl])), (qt, .inr (10, [.ref tb, .int (nI tl), .int (nI ta2_26), .int (nI tk2_27), .int (nI ts2_28)])), (tb, .inl (E.2.1 0, 160, .inl fb))]) (k' := 0) (n' := 0) C (run_SN (As := [.int r_3]) (rest := [.int (nI op1)]) C (c_under X.2.1 E ro r_3) ms_X11_under (List.mem_of_getElem? (i := 14) rfl) rfl rfl rfl rfl dX5_readSaying_135) (roK hro) [] [0, 1, 2, 3, 4] rfl rfl rfl rfl (fun r_56 uz hw => ?_)
                      rcases hw with hw | hw | hw
                      · refine an2 hw ?_
                        clear hw
                        intro he_58 he_59 hw
                        have h_57 := hw
                        clear hw
                        have he_58 := he_58.symm
                        subst he_58
                        subst he_59
                        refine ww_eq (ws' := [(po, .inl (E.2.1 1, 32, .inl f_54)), (pa, .inl (E.2.1 1, 32, .inl f_55)), (qs, .inr (5, [.ref qt, .ref po, .ref pa, .ref pf, .ref pd, .int (nI (n1 + 1)), .int (nI (tn1 + 1)), .int an, .int wr, .int pl])), (qt, .inr (10, [.ref tb, .int (nI tl), .int (nI ta2_26), .int (nI tk2_27), .int (nI ts2_28)])), (tb, .inl (E.2.1 0, 160, .inl fb))]) ?_ rfl rfl rfl
                        have hun := uN_a0 (x := r_3) (by assumption)
                        have hov := OPV.ext hopv ef_54 (by omega) (by omega) (by omega)
                        have hov2 := hov.2
                        have hwt := wt_u (aT (cz fb tl) ts1 tk1 ta1) h_9.2
                        rw [← h_9.1] at hwt
                        refine ww_iconst (v := 1) C dX5_readSaying_138 rfl ?_
                        refine ww_isub (v := (-1)) C dX5_readSaying_139 (by decide) ?_
                        refine ww_iadd (v := (nI (op1 - 1))) C dX5_readSaying_140 (nI_subc (a := op1) (c := 1) (by omega) rfl) ?_
                        refine ww_istore_n (lv' := [(1, .int (nI (op1 - 1))), (5, .int 1), (4, .int 0), (3, .int r_3), (2, .int (nI n1)), (0, .ref qs)]) C dX5_readSaying_141 rfl rfl rfl ?_
                        refine ww_iinc (j := 4) (v := (nI (n1 + 1))) (lv' := [(2, .int (nI (n1 + 1))), (1, .int (nI (op1 - 1))), (5, .int 1), (4, .int 0), (3, .int r_3), (0, .ref qs)]) C dX5_readSaying_142 rfl (nI_add n1 1) rfl rfl ?_
                        refine ww_goto (tgt := 4) C dX5_readSaying_145 (by decide) ?_
                        exact ww_lv [0, 1, 5] rfl (ww_sub [2, 3, 4, 0, 1] rfl rfl (ih_4 (n1 + 1) (op1 - 1) (tn1 + 1) ta2_26 tk2_27 ts2_28 ta1 f_54 f_55 (by omega) (by omega) (by omega) hov.1 (by omega) (by omega) (by omega) (by omega) (by omega) (by omega) h_33 h_34 ((it_s hit (by omega)).trans (sg_a htk0 (by omega) (by omega) h_34 h_35 (by omega))) (RUN.ext hrun hit (by omega)) (OPX.ext hopx ef_54 ef_55 (aI_t hit htk0) (gI_a hit htk0 (by omega)) h_9.1 (argV_0 (by omega) (by omega)) h_9.2 (by decide)) (by omega)))
                      · refine an2 hw ?_
                        clear hw
                        intro he_61 he_62 hw
                        have h_60 := hw
                        clear hw
                        have he_61 := he_61.symm
                        subst he_61
                        subst he_62
                        refine ww_eq (ws' := [(po, .inl (E.2.1 1, 32, .inl f_54)), (pa, .inl (E.2.1 1, 32, .inl f_55)), (qs, .inr (5, [.ref qt, .ref po, .ref pa, .ref pf, .ref pd, .int (nI (n1 + 1)), .int (nI (tn1 + 1)), .int an, .int wr, .int pl])), (qt, .inr (10, [.ref tb, .int (nI tl), .int (nI ta2_26), .int (nI tk2_27), .int (nI ts2_28)])), (tb, .inl (E.2.1 0, 160, .inl fb))]) ?_ rfl rfl rfl
                        have hun := uN_a2 (x := r_3) (by assumption)
                        have hov := OPV.ext hopv ef_54 (by omega) (by omega) (by omega)
                        have hov2 := hov.2
                        have hwt := wt_u (aT (cz fb tl) ts1 tk1 ta1) h_9.2
                        rw [← h_9.1] at hwt
                        refine ww_iconst (v := 1) C dX5_readSaying_138 rfl ?_
                        refine ww_isub (v := 1) C dX5_readSaying_139 (by decide) ?_
                        refine ww_iadd (v := (nI (op1 + 1))) C dX5_readSaying_140 (nI_add op1 1) ?_
                        refine ww_istore_n (lv' := [(1, .int (nI (op1 + 1))), (5, .int 1), (4, .int 0), (3, .int r_3), (2, .int (nI n1)), (0, .ref qs)]) C dX5_readSaying_141 rfl rfl rfl ?_
                        refine ww_iinc (j := 4) (v := (nI (n1 + 1))) (lv' := [(2, .int (nI (n1 + 1))), (1, .int (nI (op1 + 1))), (5, .int 1), (4, .int 0), (3, .int r_3), (0, .ref qs)]) C dX5_readSaying_142 rfl (nI_add n1 1) rfl rfl ?_
                        refine ww_goto (tgt := 4) C dX5_readSaying_145 (by decide) ?_
                        exact ww_lv [0, 1, 5] rfl (ww_sub [2, 3, 4, 0, 1] rfl rfl (ih_4 (n1 + 1) (op1 + 1) (tn1 + 1) ta2_26 tk2_27 ts2_28 ta1 f_54 f_55 (by omega) (by omega) (by omega) hov.1 (by omega) (by omega) (by omega) (by omega) (by omega) (by omega) h_33 h_34 ((it_s hit (by omega)).trans (sg_a htk0 (by omega) (by omega) h_34 h_35 (by omega))) (RUN.ext hrun hit (by omega)) (OPX.ext hopx ef_54 ef_55 (aI_t hit htk0) (gI_a hit htk0 (by omega)) h_9.1 (argV_0 (by omega) (by omega)) h_9.2 (by decide)) (by omega)))
                      · refine an2 hw ?_
                        clear hw
                        intro he_64 he_65 hw
                        have h_63 := hw
                        clear hw
                        have he_64 := he_64.symm
                        subst he_64
                        subst he_65
                        refine ww_eq (ws' := [(po, .inl (E.2.1 1, 32, .inl f_54)), (pa, .inl (E.2.1 1, 32, .inl f_55)), (qs, .inr (5, [.ref qt, .ref po, .ref pa, .ref pf, .ref pd, .int (nI (n1 + 1)), .int (nI (tn1 + 1)), .int an, .int wr, .int pl])), (qt, .inr (10, [.ref tb, .int (nI tl), .int (nI ta2_26), .int (nI tk2_27), .int (nI ts2_28)])), (tb, .inl (E.2.1 0, 160, .inl fb))]) ?_ rfl rfl rfl
                        have hun := uN_a1 (x := r_3) (by assumption)
                        have hov := OPV.ext hopv ef_54 (by omega) (by omega) (by omega)
                        have hov2 := hov.2
                        have hwt := wt_u (aT (cz fb tl) ts1 tk1 ta1) h_9.2
                        rw [← h_9.1] at hwt
                        refine ww_iconst (v := 1) C dX5_readSaying_138 rfl ?_
                        refine ww_isub (v := 0) C dX5_readSaying_139 (by decide) ?_
                        refine ww_iadd (v := (nI op1)) C dX5_readSaying_140 (nI_add op1 0) ?_
                        refine ww_istore_n (lv' := [(1, .int (nI op1)), (5, .int 1), (4, .int 0), (3, .int r_3), (2, .int (nI n1)), (0, .ref qs)]) C dX5_readSaying_141 rfl rfl rfl ?_
                        refine ww_iinc (j := 4) (v := (nI (n1 + 1))) (lv' := [(2, .int (nI (n1 + 1))), (1, .int (nI op1)), (5, .int 1), (4, .int 0), (3, .int r_3), (0, .ref qs)]) C dX5_readSaying_142 rfl (nI_add n1 1) rfl rfl ?_
                        refine ww_goto (tgt := 4) C dX5_readSaying_145 (by decide) ?_
                        exact ww_lv [0, 1, 5] rfl (ww_sub [2, 3, 4, 0, 1] rfl rfl (ih_4 (n1 + 1) op1 (tn1 + 1) ta2_26 tk2_27 ts2_28 ta1 f_54 f_55 (by omega) (by omega) (by omega) hov.1 (by omega) (by omega) (by omega) (by omega) (by omega) (by omega) h_33 h_34 ((it_s hit (by omega)).trans (sg_a htk0 (by omega) (by omega) h_34 h_35 (by omega))) (RUN.ext hrun hit (by omega)) (OPX.ext hopx ef_54 ef_55 (aI_t hit htk0) (gI_a hit htk0 (by omega)) h_9.1 (argV_0 (by omega) (by omega)) h_9.2 (by decide)) (by omega)))
                    · have zc_53 : r_3.toInt ≥ 5 := i_nlt rfl rfl c_53
                      refine ww_aload_n C dX5_readSaying_83 5 rfl rfl ?_
                      refine ww_iload C dX5_readSaying_84 0 rfl ?_
                      refine ww_ci (wr := [(po, .inl (E.2.1 1, 32, .inl fo1)), (pa, .inl (E.2.1 1, 32, .inl fa1))]) (k' := 0) (n' := 0) C (run_V (As := [.int 1]) (rest := []) C (q_knowers1 X.2.1 E ro qs qt po pa pf pd (nI n1) (nI (tn1 + 1)) an wr pl tb tl ta2_26 tk2_27 ts2_28 fb (by omega) (by omega) (by omega) (by omega) (by omega) h_33) mi_X5_knowers wl_X5_100 rfl 0 5 rfl rfl rfl rfl rfl dX5_readSaying_86) (roK hro) [2, 3, 4] [0, 1] rfl rfl rfl rfl (fun r_66 uz hw => ?_)
                      refine an2 hw ?_
                      clear hw
                      intro he_68 he_69 hw
                      have h_67 := hw
                      clear hw
                      have he_68 := he_68.symm
                      subst he_68
                      subst he_69
                      refine ww_eq (ws' := [(po, .inl (E.2.1 1, 32, .inl fo1)), (pa, .inl (E.2.1 1, 32, .inl fa1)), (qs, .inr (5, [.ref qt, .ref po, .ref pa, .ref pf, .ref pd, .int (nI n1), .int (nI (tn1 + 1)), .int an, .int wr, .int pl])), (qt, .inr (10, [.ref tb, .int (nI tl), .int (nI ta2_26), .int (nI tk2_27), .int (nI ts2_28)])), (tb, .inl (E.2.1 0, 160, .inl fb))]) ?_ rfl rfl rfl
                      refine ww_istore (lv' := [(4, .int (nI (gO (gT (cz fb tl) ts2_28 tk2_27 ta2_26)))), (5, .int 1), (3, .int r_3), (2, .int (nI n1)), (1, .int (nI op1)), (0, .ref qs)]) C dX5_readSaying_89 rfl rfl ?_
                      have hga : gA (aT (cz fb tl) ts1 tk1 ta1) (gT (cz fb tl) ts2_28 tk2_27 ta2_26) = gO (gT (cz fb tl) ts2_28 tk2_27 ta2_26) := gA_1 (by omega)
                      refine ww_iload C dX5_readSaying_91 0 rfl ?_
                      refine ww_if_ne (tgt := 102) C dX5_readSaying_93 (by decide) (fun c_70 => ?_) (fun c_70 => ?_)
                      · have zc_70 : ((gO (gT (cz fb tl) ts2_28 tk2_27 ta2_26) : Nat) : Int) ≠ 0 := i_ne (nI_toInt (n := gO (gT (cz fb tl) ts2_28 tk2_27 ta2_26)) (by omega)) rfl c_70
                        have hgn := hga
                        replace hgn : gA (aT (cz fb tl) ts1 tk1 ta1) (gT (cz fb tl) ts2_28 tk2_27 ta2_26) ≠ 0 := by rw [hga]; omega
                        refine ww_aload_n C dX5_readSaying_102 5 rfl rfl ?_
                        refine ww_ci (wr := [(po, .inl (E.2.1 1, 32, .inl fo1)), (pa, .inl (E.2.1 1, 32, .inl fa1))]) (k' := 0) (n' := 0) C (run_V (As := []) (rest := []) C (q_take X.2.1 E ro qs qt po pa pf pd (nI n1) (tn1 + 1) an wr pl tb tl ta2_26 tk2_27 ts2_28 fb (by omega) (by omega) (by omega) (by omega) (by omega) h_33 (by omega)) mi_X5_take wl_X5_97 rfl 0 5 rfl rfl rfl rfl rfl dX5_readSaying_103) (roK hro) [2, 3, 4] [0, 1] rfl rfl rfl rfl (fun r_71 uz hw => ?_)
                        rcases hw with hw | hw
                        · refine ex3 hw ?_
                          clear hw
                          intro ta2_72 tk2_73 ts2_74 hw
                          refine an8 hw ?_
                          clear hw
                          intro he_83 he_84 h_75 h_76 h_77 h_78 h_79 h_80 hw
                          refine an1 hw ?_
                          clear hw
                          intro h_81 hw
                          have h_82 := hw
                          clear hw
                          have he_83 := he_83.symm
                          subst he_83
                          subst he_84
                          refine ww_eq (ws' := [(po, .inl (E.2.1 1, 32, .inl fo1)), (pa, .inl (E.2.1 1, 32, .inl fa1)), (qs, .inr (5, [.ref qt, .ref po, .ref pa, .ref pf, .ref pd, .int (nI n1), .int (nI ((tn1 + 1) + 1)), .int an, .int wr, .int pl])), (qt, .inr (10, [.ref tb, .int (nI tl), .int (nI ta2_72), .int (nI tk2_73), .int (nI ts2_74)])), (tb, .inl (E.2.1 0, 160, .inl fb))]) ?_ rfl rfl rfl
                          refine ww_if_ne_t (tgt := 111) C dX5_readSaying_106 (by decide) (by decide) ?_
                          refine ww_aload_n C dX5_readSaying_111 5 rfl rfl ?_
                          refine ww_get C fg_X5_18 2 rfl rfl dX5_readSaying_112 ?_
                          refine ww_iload_n C dX5_readSaying_115 3 rfl rfl ?_
                          refine ww_iload_n C dX5_readSaying_116 2 rfl rfl ?_
                          obtain ⟨f_99, ef_99⟩ : ∃ z : Nat → Int32, upd fo1 n1 r_3 = z := ⟨_, rfl⟩
                          refine ww_iast (ws' := [(po, .inl (E.2.1 1, 32, .inl f_99)), (pa, .inl (E.2.1 1, 32, .inl fa1)), (qs, .inr (5, [.ref qt, .ref po, .ref pa, .ref pf, .ref pd, .int (nI n1), .int (nI ((tn1 + 1) + 1)), .int an, .int wr, .int pl])), (qt, .inr (10, [.ref tb, .int (nI tl), .int (nI ta2_72), .int (nI tk2_73), .int (nI ts2_74)])), (tb, .inl (E.2.1 0, 160, .inl fb))]) C 0 rfl (vp_in_nI (by omega) (by omega)) (ldn2 (by omega) ef_99) rfl dX5_readSaying_117 ?_
                          refine ww_aload_n C dX5_readSaying_118 5 rfl rfl ?_
                          refine ww_get C fg_X5_22 2 rfl rfl dX5_readSaying_119 ?_
                          refine ww_iload_n C dX5_readSaying_122 3 rfl rfl ?_
                          refine ww_iload C dX5_readSaying_123 0 rfl ?_
                          obtain ⟨f_100, ef_100⟩ : ∃ z : Nat → Int32, upd fa1 n1 (nI (gO (gT (cz fb tl) ts2_28 tk2_27 ta2_26))) = z := ⟨_, rfl⟩
                          refine ww_iast (ws' := [(po, .inl (E.2.1 1, 32, .inl f_99)), (pa, .inl (E.2.1 1, 32, .inl f_100)), (qs, .inr (5, [.ref qt, .ref po, .ref pa, .ref pf, .ref pd, .int (nI n1), .int (nI ((tn1 + 1) + 1)), .int an, .int wr, .int pl])), (qt, .inr (10, [.ref tb, .int (nI tl), .int (nI ta2_72), .int (nI tk2_73), .int (nI ts2_74)])), (tb, .inl (E.2.1 0, 160, .inl fb))]) C 1 rfl (vp_in_nI (by omega) (by omega)) (ldn2 (by omega) ef_100) rfl dX5_readSaying_125 ?_
                          refine ww_aload_n C dX5_readSaying_126 5 rfl rfl ?_
                          refine ww_iload_n C dX5_readSaying_127 3 rfl rfl ?_
                          refine ww_iconst (v := 1) C dX5_readSaying_128 rfl ?_
                          refine ww_iadd (v := (nI (n1 + 1))) C dX5_readSaying_129 (nI_add n1 1) ?_
                          refine ww_put (ws' := [(po, .inl (E.2.1 1, 32, .inl f_99)), (pa, .inl (E.2.1 1, 32, .inl f_100)), (qs, .inr (5, [.ref qt, .ref po, .ref pa, .ref pf, .ref pd, .int (nI (n1 + 1)), .int (nI ((tn1 + 1) + 1)), .int an, .int wr, .int pl])), (qt, .inr (10, [.ref tb, .int (nI tl), .int (nI ta2_72), .int (nI tk2_73), .int (nI ts2_74)])), (tb, .inl (E.2.1 0, 160, .inl fb))]) C fp_X5_31 2 rfl rfl rfl rfl rfl dX5_readSaying_130 ?_
                          refine ww_iload_n C dX5_readSaying_133 4 rfl rfl ?_
                          refine ww_iload_n C dX5_readSaying_134 2 rfl rfl ?_
                          refine ww_ci (wr := [(po, .inl (E.2.1 1, 32, .inl f_99)), (pa, .inl (E.2.1 1, 32, .inl f_100)), (qs, .inr (5, [.ref qt, .ref po, .ref pa, .ref pf, .ref pd, .int (nI (n1 + 1)), .int (nI ((tn1 + 1) + 1)), .int an, .int wr, .int pl])), (qt, .inr (10, [.ref tb, .int (nI tl), .int (nI ta2_72), .int (nI tk2_73), .int (nI ts2_74)])), (tb, .inl (E.2.1 0, 160, .inl fb))]) (k' := 0) (n' := 0) C (run_SN (As := [.int r_3]) (rest := [.int (nI op1)]) C (c_under X.2.1 E ro r_3) ms_X11_under (List.mem_of_getElem? (i := 14) rfl) rfl rfl rfl rfl dX5_readSaying_135) (roK hro) [] [0, 1, 2, 3, 4] rfl rfl rfl rfl (fun r_101 uz hw => ?_)
                          rcases hw with hw | hw | hw
                          · refine an2 hw ?_
                            clear hw
                            intro he_103 he_104 hw
                            have h_102 := hw
                            clear hw
                            have he_103 := he_103.symm
                            subst he_103
                            subst he_104
                            refine ww_eq (ws' := [(po, .inl (E.2.1 1, 32, .inl f_99)), (pa, .inl (E.2.1 1, 32, .inl f_100)), (qs, .inr (5, [.ref qt, .ref po, .ref pa, .ref pf, .ref pd, .int (nI (n1 + 1)), .int (nI ((tn1 + 1) + 1)), .int an, .int wr, .int pl])), (qt, .inr (10, [.ref tb, .int (nI tl), .int (nI ta2_72), .int (nI tk2_73), .int (nI ts2_74)])), (tb, .inl (E.2.1 0, 160, .inl fb))]) ?_ rfl rfl rfl
                            have hun := uN_a0 (x := r_3) (by assumption)
                            have hov := OPV.ext hopv ef_99 (by omega) (by omega) (by omega)
                            have hov2 := hov.2
                            have hwt := wt_u (aT (cz fb tl) ts1 tk1 ta1) h_9.2
                            rw [← h_9.1] at hwt
                            refine ww_iconst (v := 1) C dX5_readSaying_138 rfl ?_
                            refine ww_isub (v := (-1)) C dX5_readSaying_139 (by decide) ?_
                            refine ww_iadd (v := (nI (op1 - 1))) C dX5_readSaying_140 (nI_subc (a := op1) (c := 1) (by omega) rfl) ?_
                            refine ww_istore_n (lv' := [(1, .int (nI (op1 - 1))), (4, .int (nI (gO (gT (cz fb tl) ts2_28 tk2_27 ta2_26)))), (5, .int 1), (3, .int r_3), (2, .int (nI n1)), (0, .ref qs)]) C dX5_readSaying_141 rfl rfl rfl ?_
                            refine ww_iinc (j := 4) (v := (nI (n1 + 1))) (lv' := [(2, .int (nI (n1 + 1))), (1, .int (nI (op1 - 1))), (4, .int (nI (gO (gT (cz fb tl) ts2_28 tk2_27 ta2_26)))), (5, .int 1), (3, .int r_3), (0, .ref qs)]) C dX5_readSaying_142 rfl (nI_add n1 1) rfl rfl ?_
                            refine ww_goto (tgt := 4) C dX5_readSaying_145 (by decide) ?_
                            exact ww_lv [0, 1, 5] rfl (ww_sub [2, 3, 4, 0, 1] rfl rfl (ih_4 (n1 + 1) (op1 - 1) ((tn1 + 1) + 1) ta2_72 tk2_73 ts2_74 ta2_26 f_99 f_100 (by omega) (by omega) (by omega) hov.1 (by omega) (by omega) (by omega) (by omega) (by omega) (by omega) h_79 h_80 ((it_s hit (by omega)).trans ((sg_b htk0 (by omega) (by omega) (by omega) h_34 h_35 hgn (by omega) h_80 h_81).trans (by first | rfl | (exfalso; omega)))) (RUN.ext hrun hit (by omega)) (OPX.ext hopx ef_99 ef_100 (aI_t hit htk0) ((gI_b hit htk0 (by omega) h_34).trans hga) h_9.1 (argV_g (by omega)) h_9.2 (by omega)) (by omega)))
                          · refine an2 hw ?_
                            clear hw
                            intro he_106 he_107 hw
                            have h_105 := hw
                            clear hw
                            have he_106 := he_106.symm
                            subst he_106
                            subst he_107
                            refine ww_eq (ws' := [(po, .inl (E.2.1 1, 32, .inl f_99)), (pa, .inl (E.2.1 1, 32, .inl f_100)), (qs, .inr (5, [.ref qt, .ref po, .ref pa, .ref pf, .ref pd, .int (nI (n1 + 1)), .int (nI ((tn1 + 1) + 1)), .int an, .int wr, .int pl])), (qt, .inr (10, [.ref tb, .int (nI tl), .int (nI ta2_72), .int (nI tk2_73), .int (nI ts2_74)])), (tb, .inl (E.2.1 0, 160, .inl fb))]) ?_ rfl rfl rfl
                            have hun := uN_a2 (x := r_3) (by assumption)
                            have hov := OPV.ext hopv ef_99 (by omega) (by omega) (by omega)
                            have hov2 := hov.2
                            have hwt := wt_u (aT (cz fb tl) ts1 tk1 ta1) h_9.2
                            rw [← h_9.1] at hwt
                            refine ww_iconst (v := 1) C dX5_readSaying_138 rfl ?_
                            refine ww_isub (v := 1) C dX5_readSaying_139 (by decide) ?_
                            refine ww_iadd (v := (nI (op1 + 1))) C dX5_readSaying_140 (nI_add op1 1) ?_
                            refine ww_istore_n (lv' := [(1, .int (nI (op1 + 1))), (4, .int (nI (gO (gT (cz fb tl) ts2_28 tk2_27 ta2_26)))), (5, .int 1), (3, .int r_3), (2, .int (nI n1)), (0, .ref qs)]) C dX5_readSaying_141 rfl rfl rfl ?_
                            refine ww_iinc (j := 4) (v := (nI (n1 + 1))) (lv' := [(2, .int (nI (n1 + 1))), (1, .int (nI (op1 + 1))), (4, .int (nI (gO (gT (cz fb tl) ts2_28 tk2_27 ta2_26)))), (5, .int 1), (3, .int r_3), (0, .ref qs)]) C dX5_readSaying_142 rfl (nI_add n1 1) rfl rfl ?_
                            refine ww_goto (tgt := 4) C dX5_readSaying_145 (by decide) ?_
                            exact ww_lv [0, 1, 5] rfl (ww_sub [2, 3, 4, 0, 1] rfl rfl (ih_4 (n1 + 1) (op1 + 1) ((tn1 + 1) + 1) ta2_72 tk2_73 ts2_74 ta2_26 f_99 f_100 (by omega) (by omega) (by omega) hov.1 (by omega) (by omega) (by omega) (by omega) (by omega) (by omega) h_79 h_80 ((it_s hit (by omega)).trans ((sg_b htk0 (by omega) (by omega) (by omega) h_34 h_35 hgn (by omega) h_80 h_81).trans (by first | rfl | (exfalso; omega)))) (RUN.ext hrun hit (by omega)) (OPX.ext hopx ef_99 ef_100 (aI_t hit htk0) ((gI_b hit htk0 (by omega) h_34).trans hga) h_9.1 (argV_g (by omega)) h_9.2 (by omega)) (by omega)))
                          · refine an2 hw ?_
                            clear hw
                            intro he_109 he_110 hw
                            have h_108 := hw
                            clear hw
                            have he_109 := he_109.symm
                            subst he_109
                            subst he_110
                            refine ww_eq (ws' := [(po, .inl (E.2.1 1, 32, .inl f_99)), (pa, .inl (E.2.1 1, 32, .inl f_100)), (qs, .inr (5, [.ref qt, .ref po, .ref pa, .ref pf, .ref pd, .int (nI (n1 + 1)), .int (nI ((tn1 + 1) + 1)), .int an, .int wr, .int pl])), (qt, .inr (10, [.ref tb, .int (nI tl), .int (nI ta2_72), .int (nI tk2_73), .int (nI ts2_74)])), (tb, .inl (E.2.1 0, 160, .inl fb))]) ?_ rfl rfl rfl
                            have hun := uN_a1 (x := r_3) (by assumption)
                            have hov := OPV.ext hopv ef_99 (by omega) (by omega) (by omega)
                            have hov2 := hov.2
                            have hwt := wt_u (aT (cz fb tl) ts1 tk1 ta1) h_9.2
                            rw [← h_9.1] at hwt
                            refine ww_iconst (v := 1) C dX5_readSaying_138 rfl ?_
                            refine ww_isub (v := 0) C dX5_readSaying_139 (by decide) ?_
                            refine ww_iadd (v := (nI op1)) C dX5_readSaying_140 (nI_add op1 0) ?_
                            refine ww_istore_n (lv' := [(1, .int (nI op1)), (4, .int (nI (gO (gT (cz fb tl) ts2_28 tk2_27 ta2_26)))), (5, .int 1), (3, .int r_3), (2, .int (nI n1)), (0, .ref qs)]) C dX5_readSaying_141 rfl rfl rfl ?_
                            refine ww_iinc (j := 4) (v := (nI (n1 + 1))) (lv' := [(2, .int (nI (n1 + 1))), (1, .int (nI op1)), (4, .int (nI (gO (gT (cz fb tl) ts2_28 tk2_27 ta2_26)))), (5, .int 1), (3, .int r_3), (0, .ref qs)]) C dX5_readSaying_142 rfl (nI_add n1 1) rfl rfl ?_
                            refine ww_goto (tgt := 4) C dX5_readSaying_145 (by decide) ?_
                            exact ww_lv [0, 1, 5] rfl (ww_sub [2, 3, 4, 0, 1] rfl rfl (ih_4 (n1 + 1) op1 ((tn1 + 1) + 1) ta2_72 tk2_73 ts2_74 ta2_26 f_99 f_100 (by omega) (by omega) (by omega) hov.1 (by omega) (by omega) (by omega) (by omega) (by omega) (by omega) h_79 h_80 ((it_s hit (by omega)).trans ((sg_b htk0 (by omega) (by omega) (by omega) h_34 h_35 hgn (by omega) h_80 h_81).trans (by first | rfl | (exfalso; omega)))) (RUN.ext hrun hit (by omega)) (OPX.ext hopx ef_99 ef_100 (aI_t hit htk0) ((gI_b hit htk0 (by omega) h_34).trans hga) h_9.1 (argV_g (by omega)) h_9.2 (by omega)) (by omega)))
                        · refine ex6 hw ?_
                          clear hw
                          intro ta2_85 tk2_86 ts2_87 tn2_88 wr2_89 pl2_90 hw
                          refine an7 hw ?_
                          clear hw
                          intro he_97 he_98 h_91 h_92 h_93 h_94 h_95 hw
                          have h_96 := hw
                          clear hw
                          have he_97 := he_97.symm
                          subst he_97
                          subst he_98
                          refine ww_eq (ws' := [(po, .inl (E.2.1 1, 32, .inl fo1)), (pa, .inl (E.2.1 1, 32, .inl fa1)), (qs, .inr (5, [.ref qt, .ref po, .ref pa, .ref pf, .ref pd, .int (nI n1), .int tn2_88, .int an, .int wr2_89, .int (nI pl2_90)])), (qt, .inr (10, [.ref tb, .int (nI tl), .int (nI ta2_85), .int (nI tk2_86), .int (nI ts2_87)])), (tb, .inl (E.2.1 0, 160, .inl fb))]) ?_ rfl rfl rfl
                          refine ww_if_ne_f (tgt := 111) C dX5_readSaying_106 (by decide) (rfl) ?_
                          refine ww_iconst (v := 0) C dX5_readSaying_109 rfl ?_
                          exact ww_zret (u := [(qs, .inr (5, [.ref qt, .ref po, .ref pa, .ref pf, .ref pd, .int (nI n1), .int tn2_88, .int an, .int wr2_89, .int (nI pl2_90)])), (qt, .inr (10, [.ref tb, .int (nI tl), .int (nI ta2_85), .int (nI tk2_86), .int (nI ts2_87)])), (tb, .inl (E.2.1 0, 160, .inl fb)), (po, .inl (E.2.1 1, 32, .inl fo1)), (pa, .inl (E.2.1 1, 32, .inl fa1))]) C hT [2, 3, 4, 0, 1] rfl rfl rfl rfl rfl dX5_readSaying_110 (Or.inr ⟨ta2_85, tk2_86, ts2_87, (nI n1), tn2_88, wr2_89, pl2_90, fo1, fa1, rfl, rfl, (by first | assumption | omega | decide), (by first | assumption | omega | decide), (by first | assumption | omega | decide), (by omega), h_95, (by rcases h_96 with ⟨h8, h9⟩ | ⟨h7, h8, h9⟩ <;> subst h9 <;> first | exact it_bad hit (by omega) (sg_f3 htk0 (by omega) (by omega) (by omega) h_34 h_35 (Or.inr h8)) (by omega) | exact it_bad hit (by omega) (sg_f4 htk0 (by omega) (by omega) (by omega) h_34 h_35 hgn h7 h8) (by omega))⟩)
                      · have zc_70 : ((gO (gT (cz fb tl) ts2_28 tk2_27 ta2_26) : Nat) : Int) = 0 := i_eq (nI_toInt (n := gO (gT (cz fb tl) ts2_28 tk2_27 ta2_26)) (by omega)) rfl c_70
                        refine ww_aload_n C dX5_readSaying_96 5 rfl rfl ?_
                        refine ww_iconst (v := 2) C dX5_readSaying_97 rfl ?_
                        refine ww_ci (wr := [(po, .inl (E.2.1 1, 32, .inl fo1)), (pa, .inl (E.2.1 1, 32, .inl fa1)), (tb, .inl (E.2.1 0, 160, .inl fb))]) (k' := 0) (n' := 0) C (run_V (As := [.int 2]) (rest := []) C (q_fail X.2.1 E ro qs 2 qt po pa pf pd (nI n1) (nI (tn1 + 1)) an wr pl tb tl (nI ta2_26) tk2_27 ts2_28 (by omega)) mi_X5_fail wl_X5_63 rfl 0 5 rfl rfl rfl rfl rfl dX5_readSaying_98) (roK hro) [2, 3] [0, 1, 4] rfl rfl rfl rfl (fun r_111 uz hw => ?_)
                        refine an1 hw ?_
                        clear hw
                        intro he_112 hw
                        have he_113 := hw
                        clear hw
                        have he_112 := he_112.symm
                        subst he_112
                        subst he_113
                        refine ww_eq (ws' := [(po, .inl (E.2.1 1, 32, .inl fo1)), (pa, .inl (E.2.1 1, 32, .inl fa1)), (tb, .inl (E.2.1 0, 160, .inl fb)), (qs, .inr (5, [.ref qt, .ref po, .ref pa, .ref pf, .ref pd, .int (nI n1), .int (nI (tn1 + 1)), .int an, .int 2, .int (nI ts2_28)])), (qt, .inr (10, [.ref tb, .int (nI tl), .int (nI ta2_26), .int (nI tk2_27), .int (nI ts2_28)]))]) ?_ rfl rfl rfl
                        exact ww_zret (u := [(qs, .inr (5, [.ref qt, .ref po, .ref pa, .ref pf, .ref pd, .int (nI n1), .int (nI (tn1 + 1)), .int an, .int 2, .int (nI ts2_28)])), (qt, .inr (10, [.ref tb, .int (nI tl), .int (nI ta2_26), .int (nI tk2_27), .int (nI ts2_28)])), (tb, .inl (E.2.1 0, 160, .inl fb)), (po, .inl (E.2.1 1, 32, .inl fo1)), (pa, .inl (E.2.1 1, 32, .inl fa1))]) C hT [3, 4, 2, 0, 1] rfl rfl rfl rfl rfl dX5_readSaying_101 (Or.inr ⟨ta2_26, tk2_27, ts2_28, (nI n1), (nI (tn1 + 1)), 2, ts2_28, fo1, fa1, rfl, rfl, (by first | assumption | omega | decide), (by first | assumption | omega | decide), (by first | assumption | omega | decide), (by omega), h_33, (it_bad hit (by omega) (sg_f3 htk0 (by omega) (by omega) (by omega) h_34 h_35 (Or.inl (by rw [hga]; omega))) (by omega))⟩)
                  · refine ex6 hw ?_
                    clear hw
                    intro ta2_39 tk2_40 ts2_41 tn2_42 wr2_43 pl2_44 hw
                    refine an7 hw ?_
                    clear hw
                    intro he_51 he_52 h_45 h_46 h_47 h_48 h_49 hw
                    have h_50 := hw
                    clear hw
                    have he_51 := he_51.symm
                    subst he_51
                    subst he_52
                    refine ww_eq (ws' := [(po, .inl (E.2.1 1, 32, .inl fo1)), (pa, .inl (E.2.1 1, 32, .inl fa1)), (qs, .inr (5, [.ref qt, .ref po, .ref pa, .ref pf, .ref pd, .int (nI n1), .int tn2_42, .int an, .int wr2_43, .int (nI pl2_44)])), (qt, .inr (10, [.ref tb, .int (nI tl), .int (nI ta2_39), .int (nI tk2_40), .int (nI ts2_41)])), (tb, .inl (E.2.1 0, 160, .inl fb))]) ?_ rfl rfl rfl
                    refine ww_if_ne_f (tgt := 78) C dX5_readSaying_73 (by decide) (rfl) ?_
                    refine ww_iconst (v := 0) C dX5_readSaying_76 rfl ?_
                    exact ww_zret (u := [(qs, .inr (5, [.ref qt, .ref po, .ref pa, .ref pf, .ref pd, .int (nI n1), .int tn2_42, .int an, .int wr2_43, .int (nI pl2_44)])), (qt, .inr (10, [.ref tb, .int (nI tl), .int (nI ta2_39), .int (nI tk2_40), .int (nI ts2_41)])), (tb, .inl (E.2.1 0, 160, .inl fb)), (po, .inl (E.2.1 1, 32, .inl fo1)), (pa, .inl (E.2.1 1, 32, .inl fa1))]) C hT [2, 3, 4, 0, 1] rfl rfl rfl rfl rfl dX5_readSaying_77 (Or.inr ⟨ta2_39, tk2_40, ts2_41, (nI n1), tn2_42, wr2_43, pl2_44, fo1, fa1, rfl, rfl, (by first | assumption | omega | decide), (by first | assumption | omega | decide), (by first | assumption | omega | decide), (by omega), h_49, (by rcases h_50 with ⟨h8, h9⟩ | ⟨h7, h8, h9⟩ <;> subst h9 <;> first | exact it_bad hit (by omega) (sg_f1 htk0 (Or.inr h8)) (by omega) | exact it_bad hit (by omega) (sg_f2 htk0 (by omega) h7 h8) (by omega))⟩)
                · refine an2 hw ?_
                  clear hw
                  intro he_22 he_23 hw
                  have h_21 := hw
                  clear hw
                  have he_22 := he_22.symm
                  subst he_22
                  subst he_23
                  refine ww_eq (ws' := [(po, .inl (E.2.1 1, 32, .inl fo1)), (pa, .inl (E.2.1 1, 32, .inl fa1)), (qs, .inr (5, [.ref qt, .ref po, .ref pa, .ref pf, .ref pd, .int (nI n1), .int (nI tn1), .int an, .int wr, .int pl])), (qt, .inr (10, [.ref tb, .int (nI tl), .int (nI ta1), .int (nI tk1), .int (nI ts1)])), (tb, .inl (E.2.1 0, 160, .inl fb))]) ?_ rfl rfl rfl
                  have hNk_114 := aT_nn (show ¬ IN (cz fb tl) ts1 tk1 ta1 8 from h_21) (by decide)
                  refine ww_if_ne_f (tgt := 62) C dX5_readSaying_54 (by decide) (rfl) ?_
                  refine ww_iload_n C dX5_readSaying_57 1 rfl rfl ?_
                  refine ww_iconst (v := 5) C dX5_readSaying_58 rfl ?_
                  refine ww_icmp_ne (tgt := 66) C dX5_readSaying_59 (by decide) (fun c_115 => ?_) (fun c_115 => ?_)
                  · have zc_115 : r_3.toInt ≠ 5 := i_ne rfl rfl c_115
                    refine ww_iconst (v := 0) C dX5_readSaying_66 rfl ?_
                    refine ww_istore (lv' := [(5, .int 0), (4, .int 0), (3, .int r_3), (2, .int (nI n1)), (1, .int (nI op1)), (0, .ref qs)]) C dX5_readSaying_67 rfl rfl ?_
                    refine ww_aload_n C dX5_readSaying_69 5 rfl rfl ?_
                    refine ww_ci (wr := [(po, .inl (E.2.1 1, 32, .inl fo1)), (pa, .inl (E.2.1 1, 32, .inl fa1))]) (k' := 0) (n' := 0) C (run_V (As := []) (rest := []) C (q_take X.2.1 E ro qs qt po pa pf pd (nI n1) tn1 an wr pl tb tl ta1 tk1 ts1 fb (by omega) (by omega) (by omega) (by omega) (by omega) hfg1 (by omega)) mi_X5_take wl_X5_97 rfl 0 5 rfl rfl rfl rfl rfl dX5_readSaying_70) (roK hro) [2, 3, 4] [0, 1] rfl rfl rfl rfl (fun r_116 uz hw => ?_)
                    rcases hw with hw | hw
                    · refine ex3 hw ?_
                      clear hw
                      intro ta2_117 tk2_118 ts2_119 hw
                      refine an8 hw ?_
                      clear hw
                      intro he_128 he_129 h_120 h_121 h_122 h_123 h_124 h_125 hw
                      refine an1 hw ?_
                      clear hw
                      intro h_126 hw
                      have h_127 := hw
                      clear hw
                      have he_128 := he_128.symm
                      subst he_128
                      subst he_129
                      refine ww_eq (ws' := [(po, .inl (E.2.1 1, 32, .inl fo1)), (pa, .inl (E.2.1 1, 32, .inl fa1)), (qs, .inr (5, [.ref qt, .ref po, .ref pa, .ref pf, .ref pd, .int (nI n1), .int (nI (tn1 + 1)), .int an, .int wr, .int pl])), (qt, .inr (10, [.ref tb, .int (nI tl), .int (nI ta2_117), .int (nI tk2_118), .int (nI ts2_119)])), (tb, .inl (E.2.1 0, 160, .inl fb))]) ?_ rfl rfl rfl
                      refine ww_if_ne_t (tgt := 78) C dX5_readSaying_73 (by decide) (by decide) ?_
                      refine ww_iload_n C dX5_readSaying_78 2 rfl rfl ?_
                      refine ww_iconst (v := 5) C dX5_readSaying_79 rfl ?_
                      refine ww_icmp_lt (tgt := 111) C dX5_readSaying_80 (by decide) (fun c_144 => ?_) (fun c_144 => ?_)
                      · have zc_144 : r_3.toInt < 5 := i_lt rfl rfl c_144
                        refine ww_aload_n C dX5_readSaying_111 5 rfl rfl ?_
                        refine ww_get C fg_X5_18 2 rfl rfl dX5_readSaying_112 ?_
                        refine ww_iload_n C dX5_readSaying_115 3 rfl rfl ?_
                        refine ww_iload_n C dX5_readSaying_116 2 rfl rfl ?_
                        obtain ⟨f_145, ef_145⟩ : ∃ z : Nat → Int32, upd fo1 n1 r_3 = z := ⟨_, rfl⟩
                        refine ww_iast (ws' := [(po, .inl (E.2.1 1, 32, .inl f_145)), (pa, .inl (E.2.1 1, 32, .inl fa1)), (qs, .inr (5, [.ref qt, .ref po, .ref pa, .ref pf, .ref pd, .int (nI n1), .int (nI (tn1 + 1)), .int an, .int wr, .int pl])), (qt, .inr (10, [.ref tb, .int (nI tl), .int (nI ta2_117), .int (nI tk2_118), .int (nI ts2_119)])), (tb, .inl (E.2.1 0, 160, .inl fb))]) C 0 rfl (vp_in_nI (by omega) (by omega)) (ldn2 (by omega) ef_145) rfl dX5_readSaying_117 ?_
                        refine ww_aload_n C dX5_readSaying_118 5 rfl rfl ?_
                        refine ww_get C fg_X5_22 2 rfl rfl dX5_readSaying_119 ?_
                        refine ww_iload_n C dX5_readSaying_122 3 rfl rfl ?_
                        refine ww_iload C dX5_readSaying_123 1 rfl ?_
                        obtain ⟨f_146, ef_146⟩ : ∃ z : Nat → Int32, upd fa1 n1 0 = z := ⟨_, rfl⟩
                        refine ww_iast (ws' := [(po, .inl (E.2.1 1, 32, .inl f_145)), (pa, .inl (E.2.1 1, 32, .inl f_146)), (qs, .inr (5, [.ref qt, .ref po, .ref pa, .ref pf, .ref pd, .int (nI n1), .int (nI (tn1 + 1)), .int an, .int wr, .int pl])), (qt, .inr (10, [.ref tb, .int (nI tl), .int (nI ta2_117), .int (nI tk2_118), .int (nI ts2_119)])), (tb, .inl (E.2.1 0, 160, .inl fb))]) C 1 rfl (vp_in_nI (by omega) (by omega)) (ldn2 (by omega) ef_146) rfl dX5_readSaying_125 ?_
                        refine ww_aload_n C dX5_readSaying_126 5 rfl rfl ?_
                        refine ww_iload_n C dX5_readSaying_127 3 rfl rfl ?_
                        refine ww_iconst (v := 1) C dX5_readSaying_128 rfl ?_
                        refine ww_iadd (v := (nI (n1 + 1))) C dX5_readSaying_129 (nI_add n1 1) ?_
                        refine ww_put (ws' := [(po, .inl (E.2.1 1, 32, .inl f_145)), (pa, .inl (E.2.1 1, 32, .inl f_146)), (qs, .inr (5, [.ref qt, .ref po, .ref pa, .ref pf, .ref pd, .int (nI (n1 + 1)), .int (nI (tn1 + 1)), .int an, .int wr, .int pl])), (qt, .inr (10, [.ref tb, .int (nI tl), .int (nI ta2_117), .int (nI tk2_118), .int (nI ts2_119)])), (tb, .inl (E.2.1 0, 160, .inl fb))]) C fp_X5_31 2 rfl rfl rfl rfl rfl dX5_readSaying_130 ?_
                        refine ww_iload_n C dX5_readSaying_133 4 rfl rfl ?_
                        refine ww_iload_n C dX5_readSaying_134 2 rfl rfl ?_
                        refine ww_ci (wr := [(po, .inl (E.2.1 1, 32, .inl f_145)), (pa, .inl (E.2.1 1, 32, .inl f_146)), (qs, .inr (5, [.ref qt, .ref po, .ref pa, .ref pf, .ref pd, .int (nI (n1 + 1)), .int (nI (tn1 + 1)), .int an, .int wr, .int pl])), (qt, .inr (10, [.ref tb, .int (nI tl), .int (nI ta2_117), .int (nI tk2_118), .int (nI ts2_119)])), (tb, .inl (E.2.1 0, 160, .inl fb))]) (k' := 0) (n' := 0) C (run_SN (As := [.int r_3]) (rest := [.int (nI op1)]) C (c_under X.2.1 E ro r_3) ms_X11_under (List.mem_of_getElem? (i := 14) rfl) rfl rfl rfl rfl dX5_readSaying_135) (roK hro) [] [0, 1, 2, 3, 4] rfl rfl rfl rfl (fun r_147 uz hw => ?_)
                        rcases hw with hw | hw | hw
                        · refine an2 hw ?_
                          clear hw
                          intro he_149 he_150 hw
                          have h_148 := hw
                          clear hw
                          have he_149 := he_149.symm
                          subst he_149
                          subst he_150
                          refine ww_eq (ws' := [(po, .inl (E.2.1 1, 32, .inl f_145)), (pa, .inl (E.2.1 1, 32, .inl f_146)), (qs, .inr (5, [.ref qt, .ref po, .ref pa, .ref pf, .ref pd, .int (nI (n1 + 1)), .int (nI (tn1 + 1)), .int an, .int wr, .int pl])), (qt, .inr (10, [.ref tb, .int (nI tl), .int (nI ta2_117), .int (nI tk2_118), .int (nI ts2_119)])), (tb, .inl (E.2.1 0, 160, .inl fb))]) ?_ rfl rfl rfl
                          have hun := uN_a0 (x := r_3) (by assumption)
                          have hov := OPV.ext hopv ef_145 (by omega) (by omega) (by omega)
                          have hov2 := hov.2
                          have hwt := wt_u (aT (cz fb tl) ts1 tk1 ta1) h_9.2
                          rw [← h_9.1] at hwt
                          refine ww_iconst (v := 1) C dX5_readSaying_138 rfl ?_
                          refine ww_isub (v := (-1)) C dX5_readSaying_139 (by decide) ?_
                          refine ww_iadd (v := (nI (op1 - 1))) C dX5_readSaying_140 (nI_subc (a := op1) (c := 1) (by omega) rfl) ?_
                          refine ww_istore_n (lv' := [(1, .int (nI (op1 - 1))), (5, .int 0), (4, .int 0), (3, .int r_3), (2, .int (nI n1)), (0, .ref qs)]) C dX5_readSaying_141 rfl rfl rfl ?_
                          refine ww_iinc (j := 4) (v := (nI (n1 + 1))) (lv' := [(2, .int (nI (n1 + 1))), (1, .int (nI (op1 - 1))), (5, .int 0), (4, .int 0), (3, .int r_3), (0, .ref qs)]) C dX5_readSaying_142 rfl (nI_add n1 1) rfl rfl ?_
                          refine ww_goto (tgt := 4) C dX5_readSaying_145 (by decide) ?_
                          exact ww_lv [0, 1, 5] rfl (ww_sub [2, 3, 4, 0, 1] rfl rfl (ih_4 (n1 + 1) (op1 - 1) (tn1 + 1) ta2_117 tk2_118 ts2_119 ta1 f_145 f_146 (by omega) (by omega) (by omega) hov.1 (by omega) (by omega) (by omega) (by omega) (by omega) (by omega) h_124 h_125 ((it_s hit (by omega)).trans (sg_a htk0 (by omega) (by omega) h_125 h_126 (by omega))) (RUN.ext hrun hit (by omega)) (OPX.ext hopx ef_145 ef_146 (aI_t hit htk0) (gI_a hit htk0 (by omega)) h_9.1 (argV_0 (by omega) (by omega)) h_9.2 (by decide)) (by omega)))
                        · refine an2 hw ?_
                          clear hw
                          intro he_152 he_153 hw
                          have h_151 := hw
                          clear hw
                          have he_152 := he_152.symm
                          subst he_152
                          subst he_153
                          refine ww_eq (ws' := [(po, .inl (E.2.1 1, 32, .inl f_145)), (pa, .inl (E.2.1 1, 32, .inl f_146)), (qs, .inr (5, [.ref qt, .ref po, .ref pa, .ref pf, .ref pd, .int (nI (n1 + 1)), .int (nI (tn1 + 1)), .int an, .int wr, .int pl])), (qt, .inr (10, [.ref tb, .int (nI tl), .int (nI ta2_117), .int (nI tk2_118), .int (nI ts2_119)])), (tb, .inl (E.2.1 0, 160, .inl fb))]) ?_ rfl rfl rfl
                          have hun := uN_a2 (x := r_3) (by assumption)
                          have hov := OPV.ext hopv ef_145 (by omega) (by omega) (by omega)
                          have hov2 := hov.2
                          have hwt := wt_u (aT (cz fb tl) ts1 tk1 ta1) h_9.2
                          rw [← h_9.1] at hwt
                          refine ww_iconst (v := 1) C dX5_readSaying_138 rfl ?_
                          refine ww_isub (v := 1) C dX5_readSaying_139 (by decide) ?_
                          refine ww_iadd (v := (nI (op1 + 1))) C dX5_readSaying_140 (nI_add op1 1) ?_
                          refine ww_istore_n (lv' := [(1, .int (nI (op1 + 1))), (5, .int 0), (4, .int 0), (3, .int r_3), (2, .int (nI n1)), (0, .ref qs)]) C dX5_readSaying_141 rfl rfl rfl ?_
                          refine ww_iinc (j := 4) (v := (nI (n1 + 1))) (lv' := [(2, .int (nI (n1 + 1))), (1, .int (nI (op1 + 1))), (5, .int 0), (4, .int 0), (3, .int r_3), (0, .ref qs)]) C dX5_readSaying_142 rfl (nI_add n1 1) rfl rfl ?_
                          refine ww_goto (tgt := 4) C dX5_readSaying_145 (by decide) ?_
                          exact ww_lv [0, 1, 5] rfl (ww_sub [2, 3, 4, 0, 1] rfl rfl (ih_4 (n1 + 1) (op1 + 1) (tn1 + 1) ta2_117 tk2_118 ts2_119 ta1 f_145 f_146 (by omega) (by omega) (by omega) hov.1 (by omega) (by omega) (by omega) (by omega) (by omega) (by omega) h_124 h_125 ((it_s hit (by omega)).trans (sg_a htk0 (by omega) (by omega) h_125 h_126 (by omega))) (RUN.ext hrun hit (by omega)) (OPX.ext hopx ef_145 ef_146 (aI_t hit htk0) (gI_a hit htk0 (by omega)) h_9.1 (argV_0 (by omega) (by omega)) h_9.2 (by decide)) (by omega)))
                        · refine an2 hw ?_
                          clear hw
                          intro he_155 he_156 hw
                          have h_154 := hw
                          clear hw
                          have he_155 := he_155.symm
                          subst he_155
                          subst he_156
                          refine ww_eq (ws' := [(po, .inl (E.2.1 1, 32, .inl f_145)), (pa, .inl (E.2.1 1, 32, .inl f_146)), (qs, .inr (5, [.ref qt, .ref po, .ref pa, .ref pf, .ref pd, .int (nI (n1 + 1)), .int (nI (tn1 + 1)), .int an, .int wr, .int pl])), (qt, .inr (10, [.ref tb, .int (nI tl), .int (nI ta2_117), .int (nI tk2_118), .int (nI ts2_119)])), (tb, .inl (E.2.1 0, 160, .inl fb))]) ?_ rfl rfl rfl
                          have hun := uN_a1 (x := r_3) (by assumption)
                          have hov := OPV.ext hopv ef_145 (by omega) (by omega) (by omega)
                          have hov2 := hov.2
                          have hwt := wt_u (aT (cz fb tl) ts1 tk1 ta1) h_9.2
                          rw [← h_9.1] at hwt
                          refine ww_iconst (v := 1) C dX5_readSaying_138 rfl ?_
                          refine ww_isub (v := 0) C dX5_readSaying_139 (by decide) ?_
                          refine ww_iadd (v := (nI op1)) C dX5_readSaying_140 (nI_add op1 0) ?_
                          refine ww_istore_n (lv' := [(1, .int (nI op1)), (5, .int 0), (4, .int 0), (3, .int r_3), (2, .int (nI n1)), (0, .ref qs)]) C dX5_readSaying_141 rfl rfl rfl ?_
                          refine ww_iinc (j := 4) (v := (nI (n1 + 1))) (lv' := [(2, .int (nI (n1 + 1))), (1, .int (nI op1)), (5, .int 0), (4, .int 0), (3, .int r_3), (0, .ref qs)]) C dX5_readSaying_142 rfl (nI_add n1 1) rfl rfl ?_
                          refine ww_goto (tgt := 4) C dX5_readSaying_145 (by decide) ?_
                          exact ww_lv [0, 1, 5] rfl (ww_sub [2, 3, 4, 0, 1] rfl rfl (ih_4 (n1 + 1) op1 (tn1 + 1) ta2_117 tk2_118 ts2_119 ta1 f_145 f_146 (by omega) (by omega) (by omega) hov.1 (by omega) (by omega) (by omega) (by omega) (by omega) (by omega) h_124 h_125 ((it_s hit (by omega)).trans (sg_a htk0 (by omega) (by omega) h_125 h_126 (by omega))) (RUN.ext hrun hit (by omega)) (OPX.ext hopx ef_145 ef_146 (aI_t hit htk0) (gI_a hit htk0 (by omega)) h_9.1 (argV_0 (by omega) (by omega)) h_9.2 (by decide)) (by omega)))
                      · have zc_144 : r_3.toInt ≥ 5 := i_nlt rfl rfl c_144
                        refine ww_aload_n C dX5_readSaying_83 5 rfl rfl ?_
                        refine ww_iload C dX5_readSaying_84 0 rfl ?_
                        refine ww_ci (wr := [(po, .inl (E.2.1 1, 32, .inl fo1)), (pa, .inl (E.2.1 1, 32, .inl fa1))]) (k' := 0) (n' := 0) C (run_V (As := [.int 0]) (rest := []) C (q_knowers0 X.2.1 E ro qs qt po pa pf pd (nI n1) (nI (tn1 + 1)) an wr pl tb tl ta2_117 tk2_118 ts2_119 fb (by omega) (by omega) (by omega) (by omega) (by omega) h_124) mi_X5_knowers wl_X5_100 rfl 0 5 rfl rfl rfl rfl rfl dX5_readSaying_86) (roK hro) [2, 3, 4] [0, 1] rfl rfl rfl rfl (fun r_157 uz hw => ?_)
                        refine an2 hw ?_
                        clear hw
                        intro he_159 he_160 hw
                        have h_158 := hw
                        clear hw
                        have he_159 := he_159.symm
                        subst he_159
                        subst he_160
                        refine ww_eq (ws' := [(po, .inl (E.2.1 1, 32, .inl fo1)), (pa, .inl (E.2.1 1, 32, .inl fa1)), (qs, .inr (5, [.ref qt, .ref po, .ref pa, .ref pf, .ref pd, .int (nI n1), .int (nI (tn1 + 1)), .int an, .int wr, .int pl])), (qt, .inr (10, [.ref tb, .int (nI tl), .int (nI ta2_117), .int (nI tk2_118), .int (nI ts2_119)])), (tb, .inl (E.2.1 0, 160, .inl fb))]) ?_ rfl rfl rfl
                        refine ww_istore (lv' := [(4, .int (nI (gT (cz fb tl) ts2_119 tk2_118 ta2_117))), (5, .int 0), (3, .int r_3), (2, .int (nI n1)), (1, .int (nI op1)), (0, .ref qs)]) C dX5_readSaying_89 rfl rfl ?_
                        have hga : gA (aT (cz fb tl) ts1 tk1 ta1) (gT (cz fb tl) ts2_119 tk2_118 ta2_117) = (gT (cz fb tl) ts2_119 tk2_118 ta2_117) := gA_0 (by omega)
                        refine ww_iload C dX5_readSaying_91 0 rfl ?_
                        refine ww_if_ne (tgt := 102) C dX5_readSaying_93 (by decide) (fun c_161 => ?_) (fun c_161 => ?_)
                        · have zc_161 : ((gT (cz fb tl) ts2_119 tk2_118 ta2_117 : Nat) : Int) ≠ 0 := i_ne (nI_toInt (n := gT (cz fb tl) ts2_119 tk2_118 ta2_117) (by omega)) rfl c_161
                          have hgn := hga
                          replace hgn : gA (aT (cz fb tl) ts1 tk1 ta1) (gT (cz fb tl) ts2_119 tk2_118 ta2_117) ≠ 0 := by rw [hga]; omega
                          refine ww_aload_n C dX5_readSaying_102 5 rfl rfl ?_
                          refine ww_ci (wr := [(po, .inl (E.2.1 1, 32, .inl fo1)), (pa, .inl (E.2.1 1, 32, .inl fa1))]) (k' := 0) (n' := 0) C (run_V (As := []) (rest := []) C (q_take X.2.1 E ro qs qt po pa pf pd (nI n1) (tn1 + 1) an wr pl tb tl ta2_117 tk2_118 ts2_119 fb (by omega) (by omega) (by omega) (by omega) (by omega) h_124 (by omega)) mi_X5_take wl_X5_97 rfl 0 5 rfl rfl rfl rfl rfl dX5_readSaying_103) (roK hro) [2, 3, 4] [0, 1] rfl rfl rfl rfl (fun r_162 uz hw => ?_)
                          rcases hw with hw | hw
                          · refine ex3 hw ?_
                            clear hw
                            intro ta2_163 tk2_164 ts2_165 hw
                            refine an8 hw ?_
                            clear hw
                            intro he_174 he_175 h_166 h_167 h_168 h_169 h_170 h_171 hw
                            refine an1 hw ?_
                            clear hw
                            intro h_172 hw
                            have h_173 := hw
                            clear hw
                            have he_174 := he_174.symm
                            subst he_174
                            subst he_175
                            refine ww_eq (ws' := [(po, .inl (E.2.1 1, 32, .inl fo1)), (pa, .inl (E.2.1 1, 32, .inl fa1)), (qs, .inr (5, [.ref qt, .ref po, .ref pa, .ref pf, .ref pd, .int (nI n1), .int (nI ((tn1 + 1) + 1)), .int an, .int wr, .int pl])), (qt, .inr (10, [.ref tb, .int (nI tl), .int (nI ta2_163), .int (nI tk2_164), .int (nI ts2_165)])), (tb, .inl (E.2.1 0, 160, .inl fb))]) ?_ rfl rfl rfl
                            refine ww_if_ne_t (tgt := 111) C dX5_readSaying_106 (by decide) (by decide) ?_
                            refine ww_aload_n C dX5_readSaying_111 5 rfl rfl ?_
                            refine ww_get C fg_X5_18 2 rfl rfl dX5_readSaying_112 ?_
                            refine ww_iload_n C dX5_readSaying_115 3 rfl rfl ?_
                            refine ww_iload_n C dX5_readSaying_116 2 rfl rfl ?_
                            obtain ⟨f_190, ef_190⟩ : ∃ z : Nat → Int32, upd fo1 n1 r_3 = z := ⟨_, rfl⟩
                            refine ww_iast (ws' := [(po, .inl (E.2.1 1, 32, .inl f_190)), (pa, .inl (E.2.1 1, 32, .inl fa1)), (qs, .inr (5, [.ref qt, .ref po, .ref pa, .ref pf, .ref pd, .int (nI n1), .int (nI ((tn1 + 1) + 1)), .int an, .int wr, .int pl])), (qt, .inr (10, [.ref tb, .int (nI tl), .int (nI ta2_163), .int (nI tk2_164), .int (nI ts2_165)])), (tb, .inl (E.2.1 0, 160, .inl fb))]) C 0 rfl (vp_in_nI (by omega) (by omega)) (ldn2 (by omega) ef_190) rfl dX5_readSaying_117 ?_
                            refine ww_aload_n C dX5_readSaying_118 5 rfl rfl ?_
                            refine ww_get C fg_X5_22 2 rfl rfl dX5_readSaying_119 ?_
                            refine ww_iload_n C dX5_readSaying_122 3 rfl rfl ?_
                            refine ww_iload C dX5_readSaying_123 0 rfl ?_
                            obtain ⟨f_191, ef_191⟩ : ∃ z : Nat → Int32, upd fa1 n1 (nI (gT (cz fb tl) ts2_119 tk2_118 ta2_117)) = z := ⟨_, rfl⟩
                            refine ww_iast (ws' := [(po, .inl (E.2.1 1, 32, .inl f_190)), (pa, .inl (E.2.1 1, 32, .inl f_191)), (qs, .inr (5, [.ref qt, .ref po, .ref pa, .ref pf, .ref pd, .int (nI n1), .int (nI ((tn1 + 1) + 1)), .int an, .int wr, .int pl])), (qt, .inr (10, [.ref tb, .int (nI tl), .int (nI ta2_163), .int (nI tk2_164), .int (nI ts2_165)])), (tb, .inl (E.2.1 0, 160, .inl fb))]) C 1 rfl (vp_in_nI (by omega) (by omega)) (ldn2 (by omega) ef_191) rfl dX5_readSaying_125 ?_
                            refine ww_aload_n C dX5_readSaying_126 5 rfl rfl ?_
                            refine ww_iload_n C dX5_readSaying_127 3 rfl rfl ?_
                            refine ww_iconst (v := 1) C dX5_readSaying_128 rfl ?_
                            refine ww_iadd (v := (nI (n1 + 1))) C dX5_readSaying_129 (nI_add n1 1) ?_
                            refine ww_put (ws' := [(po, .inl (E.2.1 1, 32, .inl f_190)), (pa, .inl (E.2.1 1, 32, .inl f_191)), (qs, .inr (5, [.ref qt, .ref po, .ref pa, .ref pf, .ref pd, .int (nI (n1 + 1)), .int (nI ((tn1 + 1) + 1)), .int an, .int wr, .int pl])), (qt, .inr (10, [.ref tb, .int (nI tl), .int (nI ta2_163), .int (nI tk2_164), .int (nI ts2_165)])), (tb, .inl (E.2.1 0, 160, .inl fb))]) C fp_X5_31 2 rfl rfl rfl rfl rfl dX5_readSaying_130 ?_
                            refine ww_iload_n C dX5_readSaying_133 4 rfl rfl ?_
                            refine ww_iload_n C dX5_readSaying_134 2 rfl rfl ?_
                            refine ww_ci (wr := [(po, .inl (E.2.1 1, 32, .inl f_190)), (pa, .inl (E.2.1 1, 32, .inl f_191)), (qs, .inr (5, [.ref qt, .ref po, .ref pa, .ref pf, .ref pd, .int (nI (n1 + 1)), .int (nI ((tn1 + 1) + 1)), .int an, .int wr, .int pl])), (qt, .inr (10, [.ref tb, .int (nI tl), .int (nI ta2_163), .int (nI tk2_164), .int (nI ts2_165)])), (tb, .inl (E.2.1 0, 160, .inl fb))]) (k' := 0) (n' := 0) C (run_SN (As := [.int r_3]) (rest := [.int (nI op1)]) C (c_under X.2.1 E ro r_3) ms_X11_under (List.mem_of_getElem? (i := 14) rfl) rfl rfl rfl rfl dX5_readSaying_135) (roK hro) [] [0, 1, 2, 3, 4] rfl rfl rfl rfl (fun r_192 uz hw => ?_)
                            rcases hw with hw | hw | hw
                            · refine an2 hw ?_
                              clear hw
                              intro he_194 he_195 hw
                              have h_193 := hw
                              clear hw
                              have he_194 := he_194.symm
                              subst he_194
                              subst he_195
                              refine ww_eq (ws' := [(po, .inl (E.2.1 1, 32, .inl f_190)), (pa, .inl (E.2.1 1, 32, .inl f_191)), (qs, .inr (5, [.ref qt, .ref po, .ref pa, .ref pf, .ref pd, .int (nI (n1 + 1)), .int (nI ((tn1 + 1) + 1)), .int an, .int wr, .int pl])), (qt, .inr (10, [.ref tb, .int (nI tl), .int (nI ta2_163), .int (nI tk2_164), .int (nI ts2_165)])), (tb, .inl (E.2.1 0, 160, .inl fb))]) ?_ rfl rfl rfl
                              have hun := uN_a0 (x := r_3) (by assumption)
                              have hov := OPV.ext hopv ef_190 (by omega) (by omega) (by omega)
                              have hov2 := hov.2
                              have hwt := wt_u (aT (cz fb tl) ts1 tk1 ta1) h_9.2
                              rw [← h_9.1] at hwt
                              refine ww_iconst (v := 1) C dX5_readSaying_138 rfl ?_
                              refine ww_isub (v := (-1)) C dX5_readSaying_139 (by decide) ?_
                              refine ww_iadd (v := (nI (op1 - 1))) C dX5_readSaying_140 (nI_subc (a := op1) (c := 1) (by omega) rfl) ?_
                              refine ww_istore_n (lv' := [(1, .int (nI (op1 - 1))), (4, .int (nI (gT (cz fb tl) ts2_119 tk2_118 ta2_117))), (5, .int 0), (3, .int r_3), (2, .int (nI n1)), (0, .ref qs)]) C dX5_readSaying_141 rfl rfl rfl ?_
                              refine ww_iinc (j := 4) (v := (nI (n1 + 1))) (lv' := [(2, .int (nI (n1 + 1))), (1, .int (nI (op1 - 1))), (4, .int (nI (gT (cz fb tl) ts2_119 tk2_118 ta2_117))), (5, .int 0), (3, .int r_3), (0, .ref qs)]) C dX5_readSaying_142 rfl (nI_add n1 1) rfl rfl ?_
                              refine ww_goto (tgt := 4) C dX5_readSaying_145 (by decide) ?_
                              exact ww_lv [0, 1, 5] rfl (ww_sub [2, 3, 4, 0, 1] rfl rfl (ih_4 (n1 + 1) (op1 - 1) ((tn1 + 1) + 1) ta2_163 tk2_164 ts2_165 ta2_117 f_190 f_191 (by omega) (by omega) (by omega) hov.1 (by omega) (by omega) (by omega) (by omega) (by omega) (by omega) h_170 h_171 ((it_s hit (by omega)).trans ((sg_b htk0 (by omega) (by omega) (by omega) h_125 h_126 hgn (by omega) h_171 h_172).trans (by first | rfl | (exfalso; omega)))) (RUN.ext hrun hit (by omega)) (OPX.ext hopx ef_190 ef_191 (aI_t hit htk0) ((gI_b hit htk0 (by omega) h_125).trans hga) h_9.1 (argV_g (by omega)) h_9.2 (by omega)) (by omega)))
                            · refine an2 hw ?_
                              clear hw
                              intro he_197 he_198 hw
                              have h_196 := hw
                              clear hw
                              have he_197 := he_197.symm
                              subst he_197
                              subst he_198
                              refine ww_eq (ws' := [(po, .inl (E.2.1 1, 32, .inl f_190)), (pa, .inl (E.2.1 1, 32, .inl f_191)), (qs, .inr (5, [.ref qt, .ref po, .ref pa, .ref pf, .ref pd, .int (nI (n1 + 1)), .int (nI ((tn1 + 1) + 1)), .int an, .int wr, .int pl])), (qt, .inr (10, [.ref tb, .int (nI tl), .int (nI ta2_163), .int (nI tk2_164), .int (nI ts2_165)])), (tb, .inl (E.2.1 0, 160, .inl fb))]) ?_ rfl rfl rfl
                              have hun := uN_a2 (x := r_3) (by assumption)
                              have hov := OPV.ext hopv ef_190 (by omega) (by omega) (by omega)
                              have hov2 := hov.2
                              have hwt := wt_u (aT (cz fb tl) ts1 tk1 ta1) h_9.2
                              rw [← h_9.1] at hwt
                              refine ww_iconst (v := 1) C dX5_readSaying_138 rfl ?_
                              refine ww_isub (v := 1) C dX5_readSaying_139 (by decide) ?_
                              refine ww_iadd (v := (nI (op1 + 1))) C dX5_readSaying_140 (nI_add op1 1) ?_
                              refine ww_istore_n (lv' := [(1, .int (nI (op1 + 1))), (4, .int (nI (gT (cz fb tl) ts2_119 tk2_118 ta2_117))), (5, .int 0), (3, .int r_3), (2, .int (nI n1)), (0, .ref qs)]) C dX5_readSaying_141 rfl rfl rfl ?_
                              refine ww_iinc (j := 4) (v := (nI (n1 + 1))) (lv' := [(2, .int (nI (n1 + 1))), (1, .int (nI (op1 + 1))), (4, .int (nI (gT (cz fb tl) ts2_119 tk2_118 ta2_117))), (5, .int 0), (3, .int r_3), (0, .ref qs)]) C dX5_readSaying_142 rfl (nI_add n1 1) rfl rfl ?_
                              refine ww_goto (tgt := 4) C dX5_readSaying_145 (by decide) ?_
                              exact ww_lv [0, 1, 5] rfl (ww_sub [2, 3, 4, 0, 1] rfl rfl (ih_4 (n1 + 1) (op1 + 1) ((tn1 + 1) + 1) ta2_163 tk2_164 ts2_165 ta2_117 f_190 f_191 (by omega) (by omega) (by omega) hov.1 (by omega) (by omega) (by omega) (by omega) (by omega) (by omega) h_170 h_171 ((it_s hit (by omega)).trans ((sg_b htk0 (by omega) (by omega) (by omega) h_125 h_126 hgn (by omega) h_171 h_172).trans (by first | rfl | (exfalso; omega)))) (RUN.ext hrun hit (by omega)) (OPX.ext hopx ef_190 ef_191 (aI_t hit htk0) ((gI_b hit htk0 (by omega) h_125).trans hga) h_9.1 (argV_g (by omega)) h_9.2 (by omega)) (by omega)))
                            · refine an2 hw ?_
                              clear hw
                              intro he_200 he_201 hw
                              have h_199 := hw
                              clear hw
                              have he_200 := he_200.symm
                              subst he_200
                              subst he_201
                              refine ww_eq (ws' := [(po, .inl (E.2.1 1, 32, .inl f_190)), (pa, .inl (E.2.1 1, 32, .inl f_191)), (qs, .inr (5, [.ref qt, .ref po, .ref pa, .ref pf, .ref pd, .int (nI (n1 + 1)), .int (nI ((tn1 + 1) + 1)), .int an, .int wr, .int pl])), (qt, .inr (10, [.ref tb, .int (nI tl), .int (nI ta2_163), .int (nI tk2_164), .int (nI ts2_165)])), (tb, .inl (E.2.1 0, 160, .inl fb))]) ?_ rfl rfl rfl
                              have hun := uN_a1 (x := r_3) (by assumption)
                              have hov := OPV.ext hopv ef_190 (by omega) (by omega) (by omega)
                              have hov2 := hov.2
                              have hwt := wt_u (aT (cz fb tl) ts1 tk1 ta1) h_9.2
                              rw [← h_9.1] at hwt
                              refine ww_iconst (v := 1) C dX5_readSaying_138 rfl ?_
                              refine ww_isub (v := 0) C dX5_readSaying_139 (by decide) ?_
                              refine ww_iadd (v := (nI op1)) C dX5_readSaying_140 (nI_add op1 0) ?_
                              refine ww_istore_n (lv' := [(1, .int (nI op1)), (4, .int (nI (gT (cz fb tl) ts2_119 tk2_118 ta2_117))), (5, .int 0), (3, .int r_3), (2, .int (nI n1)), (0, .ref qs)]) C dX5_readSaying_141 rfl rfl rfl ?_
                              refine ww_iinc (j := 4) (v := (nI (n1 + 1))) (lv' := [(2, .int (nI (n1 + 1))), (1, .int (nI op1)), (4, .int (nI (gT (cz fb tl) ts2_119 tk2_118 ta2_117))), (5, .int 0), (3, .int r_3), (0, .ref qs)]) C dX5_readSaying_142 rfl (nI_add n1 1) rfl rfl ?_
                              refine ww_goto (tgt := 4) C dX5_readSaying_145 (by decide) ?_
                              exact ww_lv [0, 1, 5] rfl (ww_sub [2, 3, 4, 0, 1] rfl rfl (ih_4 (n1 + 1) op1 ((tn1 + 1) + 1) ta2_163 tk2_164 ts2_165 ta2_117 f_190 f_191 (by omega) (by omega) (by omega) hov.1 (by omega) (by omega) (by omega) (by omega) (by omega) (by omega) h_170 h_171 ((it_s hit (by omega)).trans ((sg_b htk0 (by omega) (by omega) (by omega) h_125 h_126 hgn (by omega) h_171 h_172).trans (by first | rfl | (exfalso; omega)))) (RUN.ext hrun hit (by omega)) (OPX.ext hopx ef_190 ef_191 (aI_t hit htk0) ((gI_b hit htk0 (by omega) h_125).trans hga) h_9.1 (argV_g (by omega)) h_9.2 (by omega)) (by omega)))
                          · refine ex6 hw ?_
                            clear hw
                            intro ta2_176 tk2_177 ts2_178 tn2_179 wr2_180 pl2_181 hw
                            refine an7 hw ?_
                            clear hw
                            intro he_188 he_189 h_182 h_183 h_184 h_185 h_186 hw
                            have h_187 := hw
                            clear hw
                            have he_188 := he_188.symm
                            subst he_188
                            subst he_189
                            refine ww_eq (ws' := [(po, .inl (E.2.1 1, 32, .inl fo1)), (pa, .inl (E.2.1 1, 32, .inl fa1)), (qs, .inr (5, [.ref qt, .ref po, .ref pa, .ref pf, .ref pd, .int (nI n1), .int tn2_179, .int an, .int wr2_180, .int (nI pl2_181)])), (qt, .inr (10, [.ref tb, .int (nI tl), .int (nI ta2_176), .int (nI tk2_177), .int (nI ts2_178)])), (tb, .inl (E.2.1 0, 160, .inl fb))]) ?_ rfl rfl rfl
                            refine ww_if_ne_f (tgt := 111) C dX5_readSaying_106 (by decide) (rfl) ?_
                            refine ww_iconst (v := 0) C dX5_readSaying_109 rfl ?_
                            exact ww_zret (u := [(qs, .inr (5, [.ref qt, .ref po, .ref pa, .ref pf, .ref pd, .int (nI n1), .int tn2_179, .int an, .int wr2_180, .int (nI pl2_181)])), (qt, .inr (10, [.ref tb, .int (nI tl), .int (nI ta2_176), .int (nI tk2_177), .int (nI ts2_178)])), (tb, .inl (E.2.1 0, 160, .inl fb)), (po, .inl (E.2.1 1, 32, .inl fo1)), (pa, .inl (E.2.1 1, 32, .inl fa1))]) C hT [2, 3, 4, 0, 1] rfl rfl rfl rfl rfl dX5_readSaying_110 (Or.inr ⟨ta2_176, tk2_177, ts2_178, (nI n1), tn2_179, wr2_180, pl2_181, fo1, fa1, rfl, rfl, (by first | assumption | omega | decide), (by first | assumption | omega | decide), (by first | assumption | omega | decide), (by omega), h_186, (by rcases h_187 with ⟨h8, h9⟩ | ⟨h7, h8, h9⟩ <;> subst h9 <;> first | exact it_bad hit (by omega) (sg_f3 htk0 (by omega) (by omega) (by omega) h_125 h_126 (Or.inr h8)) (by omega) | exact it_bad hit (by omega) (sg_f4 htk0 (by omega) (by omega) (by omega) h_125 h_126 hgn h7 h8) (by omega))⟩)
                        · have zc_161 : ((gT (cz fb tl) ts2_119 tk2_118 ta2_117 : Nat) : Int) = 0 := i_eq (nI_toInt (n := gT (cz fb tl) ts2_119 tk2_118 ta2_117) (by omega)) rfl c_161
                          refine ww_aload_n C dX5_readSaying_96 5 rfl rfl ?_
                          refine ww_iconst (v := 2) C dX5_readSaying_97 rfl ?_
                          refine ww_ci (wr := [(po, .inl (E.2.1 1, 32, .inl fo1)), (pa, .inl (E.2.1 1, 32, .inl fa1)), (tb, .inl (E.2.1 0, 160, .inl fb))]) (k' := 0) (n' := 0) C (run_V (As := [.int 2]) (rest := []) C (q_fail X.2.1 E ro qs 2 qt po pa pf pd (nI n1) (nI (tn1 + 1)) an wr pl tb tl (nI ta2_117) tk2_118 ts2_119 (by omega)) mi_X5_fail wl_X5_63 rfl 0 5 rfl rfl rfl rfl rfl dX5_readSaying_98) (roK hro) [2, 3] [0, 1, 4] rfl rfl rfl rfl (fun r_202 uz hw => ?_)
                          refine an1 hw ?_
                          clear hw
                          intro he_203 hw
                          have he_204 := hw
                          clear hw
                          have he_203 := he_203.symm
                          subst he_203
                          subst he_204
                          refine ww_eq (ws' := [(po, .inl (E.2.1 1, 32, .inl fo1)), (pa, .inl (E.2.1 1, 32, .inl fa1)), (tb, .inl (E.2.1 0, 160, .inl fb)), (qs, .inr (5, [.ref qt, .ref po, .ref pa, .ref pf, .ref pd, .int (nI n1), .int (nI (tn1 + 1)), .int an, .int 2, .int (nI ts2_119)])), (qt, .inr (10, [.ref tb, .int (nI tl), .int (nI ta2_117), .int (nI tk2_118), .int (nI ts2_119)]))]) ?_ rfl rfl rfl
                          exact ww_zret (u := [(qs, .inr (5, [.ref qt, .ref po, .ref pa, .ref pf, .ref pd, .int (nI n1), .int (nI (tn1 + 1)), .int an, .int 2, .int (nI ts2_119)])), (qt, .inr (10, [.ref tb, .int (nI tl), .int (nI ta2_117), .int (nI tk2_118), .int (nI ts2_119)])), (tb, .inl (E.2.1 0, 160, .inl fb)), (po, .inl (E.2.1 1, 32, .inl fo1)), (pa, .inl (E.2.1 1, 32, .inl fa1))]) C hT [3, 4, 2, 0, 1] rfl rfl rfl rfl rfl dX5_readSaying_101 (Or.inr ⟨ta2_117, tk2_118, ts2_119, (nI n1), (nI (tn1 + 1)), 2, ts2_119, fo1, fa1, rfl, rfl, (by first | assumption | omega | decide), (by first | assumption | omega | decide), (by first | assumption | omega | decide), (by omega), h_124, (it_bad hit (by omega) (sg_f3 htk0 (by omega) (by omega) (by omega) h_125 h_126 (Or.inl (by rw [hga]; omega))) (by omega))⟩)
                    · refine ex6 hw ?_
                      clear hw
                      intro ta2_130 tk2_131 ts2_132 tn2_133 wr2_134 pl2_135 hw
                      refine an7 hw ?_
                      clear hw
                      intro he_142 he_143 h_136 h_137 h_138 h_139 h_140 hw
                      have h_141 := hw
                      clear hw
                      have he_142 := he_142.symm
                      subst he_142
                      subst he_143
                      refine ww_eq (ws' := [(po, .inl (E.2.1 1, 32, .inl fo1)), (pa, .inl (E.2.1 1, 32, .inl fa1)), (qs, .inr (5, [.ref qt, .ref po, .ref pa, .ref pf, .ref pd, .int (nI n1), .int tn2_133, .int an, .int wr2_134, .int (nI pl2_135)])), (qt, .inr (10, [.ref tb, .int (nI tl), .int (nI ta2_130), .int (nI tk2_131), .int (nI ts2_132)])), (tb, .inl (E.2.1 0, 160, .inl fb))]) ?_ rfl rfl rfl
                      refine ww_if_ne_f (tgt := 78) C dX5_readSaying_73 (by decide) (rfl) ?_
                      refine ww_iconst (v := 0) C dX5_readSaying_76 rfl ?_
                      exact ww_zret (u := [(qs, .inr (5, [.ref qt, .ref po, .ref pa, .ref pf, .ref pd, .int (nI n1), .int tn2_133, .int an, .int wr2_134, .int (nI pl2_135)])), (qt, .inr (10, [.ref tb, .int (nI tl), .int (nI ta2_130), .int (nI tk2_131), .int (nI ts2_132)])), (tb, .inl (E.2.1 0, 160, .inl fb)), (po, .inl (E.2.1 1, 32, .inl fo1)), (pa, .inl (E.2.1 1, 32, .inl fa1))]) C hT [2, 3, 4, 0, 1] rfl rfl rfl rfl rfl dX5_readSaying_77 (Or.inr ⟨ta2_130, tk2_131, ts2_132, (nI n1), tn2_133, wr2_134, pl2_135, fo1, fa1, rfl, rfl, (by first | assumption | omega | decide), (by first | assumption | omega | decide), (by first | assumption | omega | decide), (by omega), h_140, (by rcases h_141 with ⟨h8, h9⟩ | ⟨h7, h8, h9⟩ <;> subst h9 <;> first | exact it_bad hit (by omega) (sg_f1 htk0 (Or.inr h8)) (by omega) | exact it_bad hit (by omega) (sg_f2 htk0 (by omega) h7 h8) (by omega))⟩)
                  · have zc_115 : r_3.toInt = 5 := i_eq rfl rfl c_115
                    refine ww_iconst (v := 1) C dX5_readSaying_62 rfl ?_
                    refine ww_goto (tgt := 67) C dX5_readSaying_63 (by decide) ?_
                    refine ww_istore (lv' := [(5, .int 1), (4, .int 0), (3, .int r_3), (2, .int (nI n1)), (1, .int (nI op1)), (0, .ref qs)]) C dX5_readSaying_67 rfl rfl ?_
                    refine ww_aload_n C dX5_readSaying_69 5 rfl rfl ?_
                    refine ww_ci (wr := [(po, .inl (E.2.1 1, 32, .inl fo1)), (pa, .inl (E.2.1 1, 32, .inl fa1))]) (k' := 0) (n' := 0) C (run_V (As := []) (rest := []) C (q_take X.2.1 E ro qs qt po pa pf pd (nI n1) tn1 an wr pl tb tl ta1 tk1 ts1 fb (by omega) (by omega) (by omega) (by omega) (by omega) hfg1 (by omega)) mi_X5_take wl_X5_97 rfl 0 5 rfl rfl rfl rfl rfl dX5_readSaying_70) (roK hro) [2, 3, 4] [0, 1] rfl rfl rfl rfl (fun r_205 uz hw => ?_)
                    rcases hw with hw | hw
                    · refine ex3 hw ?_
                      clear hw
                      intro ta2_206 tk2_207 ts2_208 hw
                      refine an8 hw ?_
                      clear hw
                      intro he_217 he_218 h_209 h_210 h_211 h_212 h_213 h_214 hw
                      refine an1 hw ?_
                      clear hw
                      intro h_215 hw
                      have h_216 := hw
                      clear hw
                      have he_217 := he_217.symm
                      subst he_217
                      subst he_218
                      refine ww_eq (ws' := [(po, .inl (E.2.1 1, 32, .inl fo1)), (pa, .inl (E.2.1 1, 32, .inl fa1)), (qs, .inr (5, [.ref qt, .ref po, .ref pa, .ref pf, .ref pd, .int (nI n1), .int (nI (tn1 + 1)), .int an, .int wr, .int pl])), (qt, .inr (10, [.ref tb, .int (nI tl), .int (nI ta2_206), .int (nI tk2_207), .int (nI ts2_208)])), (tb, .inl (E.2.1 0, 160, .inl fb))]) ?_ rfl rfl rfl
                      refine ww_if_ne_t (tgt := 78) C dX5_readSaying_73 (by decide) (by decide) ?_
                      refine ww_iload_n C dX5_readSaying_78 2 rfl rfl ?_
                      refine ww_iconst (v := 5) C dX5_readSaying_79 rfl ?_
                      refine ww_icmp_lt (tgt := 111) C dX5_readSaying_80 (by decide) (fun c_233 => ?_) (fun c_233 => ?_)
                      · have zc_233 : r_3.toInt < 5 := i_lt rfl rfl c_233
                        omega
                      · have zc_233 : r_3.toInt ≥ 5 := i_nlt rfl rfl c_233
                        refine ww_aload_n C dX5_readSaying_83 5 rfl rfl ?_
                        refine ww_iload C dX5_readSaying_84 0 rfl ?_
                        refine ww_ci (wr := [(po, .inl (E.2.1 1, 32, .inl fo1)), (pa, .inl (E.2.1 1, 32, .inl fa1))]) (k' := 0) (n' := 0) C (run_V (As := [.int 1]) (rest := []) C (q_knowers1 X.2.1 E ro qs qt po pa pf pd (nI n1) (nI (tn1 + 1)) an wr pl tb tl ta2_206 tk2_207 ts2_208 fb (by omega) (by omega) (by omega) (by omega) (by omega) h_213) mi_X5_knowers wl_X5_100 rfl 0 5 rfl rfl rfl rfl rfl dX5_readSaying_86) (roK hro) [2, 3, 4] [0, 1] rfl rfl rfl rfl (fun r_234 uz hw => ?_)
                        refine an2 hw ?_
                        clear hw
                        intro he_236 he_237 hw
                        have h_235 := hw
                        clear hw
                        have he_236 := he_236.symm
                        subst he_236
                        subst he_237
                        refine ww_eq (ws' := [(po, .inl (E.2.1 1, 32, .inl fo1)), (pa, .inl (E.2.1 1, 32, .inl fa1)), (qs, .inr (5, [.ref qt, .ref po, .ref pa, .ref pf, .ref pd, .int (nI n1), .int (nI (tn1 + 1)), .int an, .int wr, .int pl])), (qt, .inr (10, [.ref tb, .int (nI tl), .int (nI ta2_206), .int (nI tk2_207), .int (nI ts2_208)])), (tb, .inl (E.2.1 0, 160, .inl fb))]) ?_ rfl rfl rfl
                        refine ww_istore (lv' := [(4, .int (nI (gO (gT (cz fb tl) ts2_208 tk2_207 ta2_206)))), (5, .int 1), (3, .int r_3), (2, .int (nI n1)), (1, .int (nI op1)), (0, .ref qs)]) C dX5_readSaying_89 rfl rfl ?_
                        have hga : gA (aT (cz fb tl) ts1 tk1 ta1) (gT (cz fb tl) ts2_208 tk2_207 ta2_206) = gO (gT (cz fb tl) ts2_208 tk2_207 ta2_206) := gA_1 (by omega)
                        refine ww_iload C dX5_readSaying_91 0 rfl ?_
                        refine ww_if_ne (tgt := 102) C dX5_readSaying_93 (by decide) (fun c_238 => ?_) (fun c_238 => ?_)
                        · have zc_238 : ((gO (gT (cz fb tl) ts2_208 tk2_207 ta2_206) : Nat) : Int) ≠ 0 := i_ne (nI_toInt (n := gO (gT (cz fb tl) ts2_208 tk2_207 ta2_206)) (by omega)) rfl c_238
                          have hgn := hga
                          replace hgn : gA (aT (cz fb tl) ts1 tk1 ta1) (gT (cz fb tl) ts2_208 tk2_207 ta2_206) ≠ 0 := by rw [hga]; omega
                          refine ww_aload_n C dX5_readSaying_102 5 rfl rfl ?_
                          refine ww_ci (wr := [(po, .inl (E.2.1 1, 32, .inl fo1)), (pa, .inl (E.2.1 1, 32, .inl fa1))]) (k' := 0) (n' := 0) C (run_V (As := []) (rest := []) C (q_take X.2.1 E ro qs qt po pa pf pd (nI n1) (tn1 + 1) an wr pl tb tl ta2_206 tk2_207 ts2_208 fb (by omega) (by omega) (by omega) (by omega) (by omega) h_213 (by omega)) mi_X5_take wl_X5_97 rfl 0 5 rfl rfl rfl rfl rfl dX5_readSaying_103) (roK hro) [2, 3, 4] [0, 1] rfl rfl rfl rfl (fun r_239 uz hw => ?_)
                          rcases hw with hw | hw
                          · refine ex3 hw ?_
                            clear hw
                            intro ta2_240 tk2_241 ts2_242 hw
                            refine an8 hw ?_
                            clear hw
                            intro he_251 he_252 h_243 h_244 h_245 h_246 h_247 h_248 hw
                            refine an1 hw ?_
                            clear hw
                            intro h_249 hw
                            have h_250 := hw
                            clear hw
                            have he_251 := he_251.symm
                            subst he_251
                            subst he_252
                            refine ww_eq (ws' := [(po, .inl (E.2.1 1, 32, .inl fo1)), (pa, .inl (E.2.1 1, 32, .inl fa1)), (qs, .inr (5, [.ref qt, .ref po, .ref pa, .ref pf, .ref pd, .int (nI n1), .int (nI ((tn1 + 1) + 1)), .int an, .int wr, .int pl])), (qt, .inr (10, [.ref tb, .int (nI tl), .int (nI ta2_240), .int (nI tk2_241), .int (nI ts2_242)])), (tb, .inl (E.2.1 0, 160, .inl fb))]) ?_ rfl rfl rfl
                            refine ww_if_ne_t (tgt := 111) C dX5_readSaying_106 (by decide) (by decide) ?_
                            refine ww_aload_n C dX5_readSaying_111 5 rfl rfl ?_
                            refine ww_get C fg_X5_18 2 rfl rfl dX5_readSaying_112 ?_
                            refine ww_iload_n C dX5_readSaying_115 3 rfl rfl ?_
                            refine ww_iload_n C dX5_readSaying_116 2 rfl rfl ?_
                            obtain ⟨f_267, ef_267⟩ : ∃ z : Nat → Int32, upd fo1 n1 r_3 = z := ⟨_, rfl⟩
                            refine ww_iast (ws' := [(po, .inl (E.2.1 1, 32, .inl f_267)), (pa, .inl (E.2.1 1, 32, .inl fa1)), (qs, .inr (5, [.ref qt, .ref po, .ref pa, .ref pf, .ref pd, .int (nI n1), .int (nI ((tn1 + 1) + 1)), .int an, .int wr, .int pl])), (qt, .inr (10, [.ref tb, .int (nI tl), .int (nI ta2_240), .int (nI tk2_241), .int (nI ts2_242)])), (tb, .inl (E.2.1 0, 160, .inl fb))]) C 0 rfl (vp_in_nI (by omega) (by omega)) (ldn2 (by omega) ef_267) rfl dX5_readSaying_117 ?_
                            refine ww_aload_n C dX5_readSaying_118 5 rfl rfl ?_
                            refine ww_get C fg_X5_22 2 rfl rfl dX5_readSaying_119 ?_
                            refine ww_iload_n C dX5_readSaying_122 3 rfl rfl ?_
                            refine ww_iload C dX5_readSaying_123 0 rfl ?_
                            obtain ⟨f_268, ef_268⟩ : ∃ z : Nat → Int32, upd fa1 n1 (nI (gO (gT (cz fb tl) ts2_208 tk2_207 ta2_206))) = z := ⟨_, rfl⟩
                            refine ww_iast (ws' := [(po, .inl (E.2.1 1, 32, .inl f_267)), (pa, .inl (E.2.1 1, 32, .inl f_268)), (qs, .inr (5, [.ref qt, .ref po, .ref pa, .ref pf, .ref pd, .int (nI n1), .int (nI ((tn1 + 1) + 1)), .int an, .int wr, .int pl])), (qt, .inr (10, [.ref tb, .int (nI tl), .int (nI ta2_240), .int (nI tk2_241), .int (nI ts2_242)])), (tb, .inl (E.2.1 0, 160, .inl fb))]) C 1 rfl (vp_in_nI (by omega) (by omega)) (ldn2 (by omega) ef_268) rfl dX5_readSaying_125 ?_
                            refine ww_aload_n C dX5_readSaying_126 5 rfl rfl ?_
                            refine ww_iload_n C dX5_readSaying_127 3 rfl rfl ?_
                            refine ww_iconst (v := 1) C dX5_readSaying_128 rfl ?_
                            refine ww_iadd (v := (nI (n1 + 1))) C dX5_readSaying_129 (nI_add n1 1) ?_
                            refine ww_put (ws' := [(po, .inl (E.2.1 1, 32, .inl f_267)), (pa, .inl (E.2.1 1, 32, .inl f_268)), (qs, .inr (5, [.ref qt, .ref po, .ref pa, .ref pf, .ref pd, .int (nI (n1 + 1)), .int (nI ((tn1 + 1) + 1)), .int an, .int wr, .int pl])), (qt, .inr (10, [.ref tb, .int (nI tl), .int (nI ta2_240), .int (nI tk2_241), .int (nI ts2_242)])), (tb, .inl (E.2.1 0, 160, .inl fb))]) C fp_X5_31 2 rfl rfl rfl rfl rfl dX5_readSaying_130 ?_
                            refine ww_iload_n C dX5_readSaying_133 4 rfl rfl ?_
                            refine ww_iload_n C dX5_readSaying_134 2 rfl rfl ?_
                            refine ww_ci (wr := [(po, .inl (E.2.1 1, 32, .inl f_267)), (pa, .inl (E.2.1 1, 32, .inl f_268)), (qs, .inr (5, [.ref qt, .ref po, .ref pa, .ref pf, .ref pd, .int (nI (n1 + 1)), .int (nI ((tn1 + 1) + 1)), .int an, .int wr, .int pl])), (qt, .inr (10, [.ref tb, .int (nI tl), .int (nI ta2_240), .int (nI tk2_241), .int (nI ts2_242)])), (tb, .inl (E.2.1 0, 160, .inl fb))]) (k' := 0) (n' := 0) C (run_SN (As := [.int r_3]) (rest := [.int (nI op1)]) C (c_under X.2.1 E ro r_3) ms_X11_under (List.mem_of_getElem? (i := 14) rfl) rfl rfl rfl rfl dX5_readSaying_135) (roK hro) [] [0, 1, 2, 3, 4] rfl rfl rfl rfl (fun r_269 uz hw => ?_)
                            rcases hw with hw | hw | hw
                            · refine an2 hw ?_
                              clear hw
                              intro he_271 he_272 hw
                              have h_270 := hw
                              clear hw
                              have he_271 := he_271.symm
                              subst he_271
                              subst he_272
                              refine ww_eq (ws' := [(po, .inl (E.2.1 1, 32, .inl f_267)), (pa, .inl (E.2.1 1, 32, .inl f_268)), (qs, .inr (5, [.ref qt, .ref po, .ref pa, .ref pf, .ref pd, .int (nI (n1 + 1)), .int (nI ((tn1 + 1) + 1)), .int an, .int wr, .int pl])), (qt, .inr (10, [.ref tb, .int (nI tl), .int (nI ta2_240), .int (nI tk2_241), .int (nI ts2_242)])), (tb, .inl (E.2.1 0, 160, .inl fb))]) ?_ rfl rfl rfl
                              have hun := uN_a0 (x := r_3) (by assumption)
                              have hov := OPV.ext hopv ef_267 (by omega) (by omega) (by omega)
                              have hov2 := hov.2
                              have hwt := wt_u (aT (cz fb tl) ts1 tk1 ta1) h_9.2
                              rw [← h_9.1] at hwt
                              refine ww_iconst (v := 1) C dX5_readSaying_138 rfl ?_
                              refine ww_isub (v := (-1)) C dX5_readSaying_139 (by decide) ?_
                              refine ww_iadd (v := (nI (op1 - 1))) C dX5_readSaying_140 (nI_subc (a := op1) (c := 1) (by omega) rfl) ?_
                              refine ww_istore_n (lv' := [(1, .int (nI (op1 - 1))), (4, .int (nI (gO (gT (cz fb tl) ts2_208 tk2_207 ta2_206)))), (5, .int 1), (3, .int r_3), (2, .int (nI n1)), (0, .ref qs)]) C dX5_readSaying_141 rfl rfl rfl ?_
                              refine ww_iinc (j := 4) (v := (nI (n1 + 1))) (lv' := [(2, .int (nI (n1 + 1))), (1, .int (nI (op1 - 1))), (4, .int (nI (gO (gT (cz fb tl) ts2_208 tk2_207 ta2_206)))), (5, .int 1), (3, .int r_3), (0, .ref qs)]) C dX5_readSaying_142 rfl (nI_add n1 1) rfl rfl ?_
                              refine ww_goto (tgt := 4) C dX5_readSaying_145 (by decide) ?_
                              exact ww_lv [0, 1, 5] rfl (ww_sub [2, 3, 4, 0, 1] rfl rfl (ih_4 (n1 + 1) (op1 - 1) ((tn1 + 1) + 1) ta2_240 tk2_241 ts2_242 ta2_206 f_267 f_268 (by omega) (by omega) (by omega) hov.1 (by omega) (by omega) (by omega) (by omega) (by omega) (by omega) h_247 h_248 ((it_s hit (by omega)).trans ((sg_b htk0 (by omega) (by omega) (by omega) h_214 h_215 hgn (by omega) h_248 h_249).trans (by first | rfl | (exfalso; omega)))) (RUN.ext hrun hit (by omega)) (OPX.ext hopx ef_267 ef_268 (aI_t hit htk0) ((gI_b hit htk0 (by omega) h_214).trans hga) h_9.1 (argV_g (by omega)) h_9.2 (by omega)) (by omega)))
                            · refine an2 hw ?_
                              clear hw
                              intro he_274 he_275 hw
                              have h_273 := hw
                              clear hw
                              have he_274 := he_274.symm
                              subst he_274
                              subst he_275
                              refine ww_eq (ws' := [(po, .inl (E.2.1 1, 32, .inl f_267)), (pa, .inl (E.2.1 1, 32, .inl f_268)), (qs, .inr (5, [.ref qt, .ref po, .ref pa, .ref pf, .ref pd, .int (nI (n1 + 1)), .int (nI ((tn1 + 1) + 1)), .int an, .int wr, .int pl])), (qt, .inr (10, [.ref tb, .int (nI tl), .int (nI ta2_240), .int (nI tk2_241), .int (nI ts2_242)])), (tb, .inl (E.2.1 0, 160, .inl fb))]) ?_ rfl rfl rfl
                              have hun := uN_a2 (x := r_3) (by assumption)
                              have hov := OPV.ext hopv ef_267 (by omega) (by omega) (by omega)
                              have hov2 := hov.2
                              have hwt := wt_u (aT (cz fb tl) ts1 tk1 ta1) h_9.2
                              rw [← h_9.1] at hwt
                              refine ww_iconst (v := 1) C dX5_readSaying_138 rfl ?_
                              refine ww_isub (v := 1) C dX5_readSaying_139 (by decide) ?_
                              refine ww_iadd (v := (nI (op1 + 1))) C dX5_readSaying_140 (nI_add op1 1) ?_
                              refine ww_istore_n (lv' := [(1, .int (nI (op1 + 1))), (4, .int (nI (gO (gT (cz fb tl) ts2_208 tk2_207 ta2_206)))), (5, .int 1), (3, .int r_3), (2, .int (nI n1)), (0, .ref qs)]) C dX5_readSaying_141 rfl rfl rfl ?_
                              refine ww_iinc (j := 4) (v := (nI (n1 + 1))) (lv' := [(2, .int (nI (n1 + 1))), (1, .int (nI (op1 + 1))), (4, .int (nI (gO (gT (cz fb tl) ts2_208 tk2_207 ta2_206)))), (5, .int 1), (3, .int r_3), (0, .ref qs)]) C dX5_readSaying_142 rfl (nI_add n1 1) rfl rfl ?_
                              refine ww_goto (tgt := 4) C dX5_readSaying_145 (by decide) ?_
                              exact ww_lv [0, 1, 5] rfl (ww_sub [2, 3, 4, 0, 1] rfl rfl (ih_4 (n1 + 1) (op1 + 1) ((tn1 + 1) + 1) ta2_240 tk2_241 ts2_242 ta2_206 f_267 f_268 (by omega) (by omega) (by omega) hov.1 (by omega) (by omega) (by omega) (by omega) (by omega) (by omega) h_247 h_248 ((it_s hit (by omega)).trans ((sg_b htk0 (by omega) (by omega) (by omega) h_214 h_215 hgn (by omega) h_248 h_249).trans (by first | rfl | (exfalso; omega)))) (RUN.ext hrun hit (by omega)) (OPX.ext hopx ef_267 ef_268 (aI_t hit htk0) ((gI_b hit htk0 (by omega) h_214).trans hga) h_9.1 (argV_g (by omega)) h_9.2 (by omega)) (by omega)))
                            · refine an2 hw ?_
                              clear hw
                              intro he_277 he_278 hw
                              have h_276 := hw
                              clear hw
                              have he_277 := he_277.symm
                              subst he_277
                              subst he_278
                              refine ww_eq (ws' := [(po, .inl (E.2.1 1, 32, .inl f_267)), (pa, .inl (E.2.1 1, 32, .inl f_268)), (qs, .inr (5, [.ref qt, .ref po, .ref pa, .ref pf, .ref pd, .int (nI (n1 + 1)), .int (nI ((tn1 + 1) + 1)), .int an, .int wr, .int pl])), (qt, .inr (10, [.ref tb, .int (nI tl), .int (nI ta2_240), .int (nI tk2_241), .int (nI ts2_242)])), (tb, .inl (E.2.1 0, 160, .inl fb))]) ?_ rfl rfl rfl
                              have hun := uN_a1 (x := r_3) (by assumption)
                              have hov := OPV.ext hopv ef_267 (by omega) (by omega) (by omega)
                              have hov2 := hov.2
                              have hwt := wt_u (aT (cz fb tl) ts1 tk1 ta1) h_9.2
                              rw [← h_9.1] at hwt
                              refine ww_iconst (v := 1) C dX5_readSaying_138 rfl ?_
                              refine ww_isub (v := 0) C dX5_readSaying_139 (by decide) ?_
                              refine ww_iadd (v := (nI op1)) C dX5_readSaying_140 (nI_add op1 0) ?_
                              refine ww_istore_n (lv' := [(1, .int (nI op1)), (4, .int (nI (gO (gT (cz fb tl) ts2_208 tk2_207 ta2_206)))), (5, .int 1), (3, .int r_3), (2, .int (nI n1)), (0, .ref qs)]) C dX5_readSaying_141 rfl rfl rfl ?_
                              refine ww_iinc (j := 4) (v := (nI (n1 + 1))) (lv' := [(2, .int (nI (n1 + 1))), (1, .int (nI op1)), (4, .int (nI (gO (gT (cz fb tl) ts2_208 tk2_207 ta2_206)))), (5, .int 1), (3, .int r_3), (0, .ref qs)]) C dX5_readSaying_142 rfl (nI_add n1 1) rfl rfl ?_
                              refine ww_goto (tgt := 4) C dX5_readSaying_145 (by decide) ?_
                              exact ww_lv [0, 1, 5] rfl (ww_sub [2, 3, 4, 0, 1] rfl rfl (ih_4 (n1 + 1) op1 ((tn1 + 1) + 1) ta2_240 tk2_241 ts2_242 ta2_206 f_267 f_268 (by omega) (by omega) (by omega) hov.1 (by omega) (by omega) (by omega) (by omega) (by omega) (by omega) h_247 h_248 ((it_s hit (by omega)).trans ((sg_b htk0 (by omega) (by omega) (by omega) h_214 h_215 hgn (by omega) h_248 h_249).trans (by first | rfl | (exfalso; omega)))) (RUN.ext hrun hit (by omega)) (OPX.ext hopx ef_267 ef_268 (aI_t hit htk0) ((gI_b hit htk0 (by omega) h_214).trans hga) h_9.1 (argV_g (by omega)) h_9.2 (by omega)) (by omega)))
                          · refine ex6 hw ?_
                            clear hw
                            intro ta2_253 tk2_254 ts2_255 tn2_256 wr2_257 pl2_258 hw
                            refine an7 hw ?_
                            clear hw
                            intro he_265 he_266 h_259 h_260 h_261 h_262 h_263 hw
                            have h_264 := hw
                            clear hw
                            have he_265 := he_265.symm
                            subst he_265
                            subst he_266
                            refine ww_eq (ws' := [(po, .inl (E.2.1 1, 32, .inl fo1)), (pa, .inl (E.2.1 1, 32, .inl fa1)), (qs, .inr (5, [.ref qt, .ref po, .ref pa, .ref pf, .ref pd, .int (nI n1), .int tn2_256, .int an, .int wr2_257, .int (nI pl2_258)])), (qt, .inr (10, [.ref tb, .int (nI tl), .int (nI ta2_253), .int (nI tk2_254), .int (nI ts2_255)])), (tb, .inl (E.2.1 0, 160, .inl fb))]) ?_ rfl rfl rfl
                            refine ww_if_ne_f (tgt := 111) C dX5_readSaying_106 (by decide) (rfl) ?_
                            refine ww_iconst (v := 0) C dX5_readSaying_109 rfl ?_
                            exact ww_zret (u := [(qs, .inr (5, [.ref qt, .ref po, .ref pa, .ref pf, .ref pd, .int (nI n1), .int tn2_256, .int an, .int wr2_257, .int (nI pl2_258)])), (qt, .inr (10, [.ref tb, .int (nI tl), .int (nI ta2_253), .int (nI tk2_254), .int (nI ts2_255)])), (tb, .inl (E.2.1 0, 160, .inl fb)), (po, .inl (E.2.1 1, 32, .inl fo1)), (pa, .inl (E.2.1 1, 32, .inl fa1))]) C hT [2, 3, 4, 0, 1] rfl rfl rfl rfl rfl dX5_readSaying_110 (Or.inr ⟨ta2_253, tk2_254, ts2_255, (nI n1), tn2_256, wr2_257, pl2_258, fo1, fa1, rfl, rfl, (by first | assumption | omega | decide), (by first | assumption | omega | decide), (by first | assumption | omega | decide), (by omega), h_263, (by rcases h_264 with ⟨h8, h9⟩ | ⟨h7, h8, h9⟩ <;> subst h9 <;> first | exact it_bad hit (by omega) (sg_f3 htk0 (by omega) (by omega) (by omega) h_214 h_215 (Or.inr h8)) (by omega) | exact it_bad hit (by omega) (sg_f4 htk0 (by omega) (by omega) (by omega) h_214 h_215 hgn h7 h8) (by omega))⟩)
                        · have zc_238 : ((gO (gT (cz fb tl) ts2_208 tk2_207 ta2_206) : Nat) : Int) = 0 := i_eq (nI_toInt (n := gO (gT (cz fb tl) ts2_208 tk2_207 ta2_206)) (by omega)) rfl c_238
                          refine ww_aload_n C dX5_readSaying_96 5 rfl rfl ?_
                          refine ww_iconst (v := 2) C dX5_readSaying_97 rfl ?_
                          refine ww_ci (wr := [(po, .inl (E.2.1 1, 32, .inl fo1)), (pa, .inl (E.2.1 1, 32, .inl fa1)), (tb, .inl (E.2.1 0, 160, .inl fb))]) (k' := 0) (n' := 0) C (run_V (As := [.int 2]) (rest := []) C (q_fail X.2.1 E ro qs 2 qt po pa pf pd (nI n1) (nI (tn1 + 1)) an wr pl tb tl (nI ta2_206) tk2_207 ts2_208 (by omega)) mi_X5_fail wl_X5_63 rfl 0 5 rfl rfl rfl rfl rfl dX5_readSaying_98) (roK hro) [2, 3] [0, 1, 4] rfl rfl rfl rfl (fun r_279 uz hw => ?_)
                          refine an1 hw ?_
                          clear hw
                          intro he_280 hw
                          have he_281 := hw
                          clear hw
                          have he_280 := he_280.symm
                          subst he_280
                          subst he_281
                          refine ww_eq (ws' := [(po, .inl (E.2.1 1, 32, .inl fo1)), (pa, .inl (E.2.1 1, 32, .inl fa1)), (tb, .inl (E.2.1 0, 160, .inl fb)), (qs, .inr (5, [.ref qt, .ref po, .ref pa, .ref pf, .ref pd, .int (nI n1), .int (nI (tn1 + 1)), .int an, .int 2, .int (nI ts2_208)])), (qt, .inr (10, [.ref tb, .int (nI tl), .int (nI ta2_206), .int (nI tk2_207), .int (nI ts2_208)]))]) ?_ rfl rfl rfl
                          exact ww_zret (u := [(qs, .inr (5, [.ref qt, .ref po, .ref pa, .ref pf, .ref pd, .int (nI n1), .int (nI (tn1 + 1)), .int an, .int 2, .int (nI ts2_208)])), (qt, .inr (10, [.ref tb, .int (nI tl), .int (nI ta2_206), .int (nI tk2_207), .int (nI ts2_208)])), (tb, .inl (E.2.1 0, 160, .inl fb)), (po, .inl (E.2.1 1, 32, .inl fo1)), (pa, .inl (E.2.1 1, 32, .inl fa1))]) C hT [3, 4, 2, 0, 1] rfl rfl rfl rfl rfl dX5_readSaying_101 (Or.inr ⟨ta2_206, tk2_207, ts2_208, (nI n1), (nI (tn1 + 1)), 2, ts2_208, fo1, fa1, rfl, rfl, (by first | assumption | omega | decide), (by first | assumption | omega | decide), (by first | assumption | omega | decide), (by omega), h_213, (it_bad hit (by omega) (sg_f3 htk0 (by omega) (by omega) (by omega) h_214 h_215 (Or.inl (by rw [hga]; omega))) (by omega))⟩)
                    · refine ex6 hw ?_
                      clear hw
                      intro ta2_219 tk2_220 ts2_221 tn2_222 wr2_223 pl2_224 hw
                      refine an7 hw ?_
                      clear hw
                      intro he_231 he_232 h_225 h_226 h_227 h_228 h_229 hw
                      have h_230 := hw
                      clear hw
                      have he_231 := he_231.symm
                      subst he_231
                      subst he_232
                      refine ww_eq (ws' := [(po, .inl (E.2.1 1, 32, .inl fo1)), (pa, .inl (E.2.1 1, 32, .inl fa1)), (qs, .inr (5, [.ref qt, .ref po, .ref pa, .ref pf, .ref pd, .int (nI n1), .int tn2_222, .int an, .int wr2_223, .int (nI pl2_224)])), (qt, .inr (10, [.ref tb, .int (nI tl), .int (nI ta2_219), .int (nI tk2_220), .int (nI ts2_221)])), (tb, .inl (E.2.1 0, 160, .inl fb))]) ?_ rfl rfl rfl
                      refine ww_if_ne_f (tgt := 78) C dX5_readSaying_73 (by decide) (rfl) ?_
                      refine ww_iconst (v := 0) C dX5_readSaying_76 rfl ?_
                      exact ww_zret (u := [(qs, .inr (5, [.ref qt, .ref po, .ref pa, .ref pf, .ref pd, .int (nI n1), .int tn2_222, .int an, .int wr2_223, .int (nI pl2_224)])), (qt, .inr (10, [.ref tb, .int (nI tl), .int (nI ta2_219), .int (nI tk2_220), .int (nI ts2_221)])), (tb, .inl (E.2.1 0, 160, .inl fb)), (po, .inl (E.2.1 1, 32, .inl fo1)), (pa, .inl (E.2.1 1, 32, .inl fa1))]) C hT [2, 3, 4, 0, 1] rfl rfl rfl rfl rfl dX5_readSaying_77 (Or.inr ⟨ta2_219, tk2_220, ts2_221, (nI n1), tn2_222, wr2_223, pl2_224, fo1, fa1, rfl, rfl, (by first | assumption | omega | decide), (by first | assumption | omega | decide), (by first | assumption | omega | decide), (by omega), h_229, (by rcases h_230 with ⟨h8, h9⟩ | ⟨h7, h8, h9⟩ <;> subst h9 <;> first | exact it_bad hit (by omega) (sg_f1 htk0 (Or.inr h8)) (by omega) | exact it_bad hit (by omega) (sg_f2 htk0 (by omega) h7 h8) (by omega))⟩)
              · have zc_16 : r_3.toInt = 0 := i_eq rfl rfl c_16
                refine ww_aload_n C dX5_readSaying_35 3 rfl rfl ?_
                refine ww_ci (wr := [(po, .inl (E.2.1 1, 32, .inl fo1)), (pa, .inl (E.2.1 1, 32, .inl fa1))]) (k' := 0) (n' := 0) C (run_V (As := []) (rest := []) C (q_factOfName X.2.1 E ro qs qt po pa pf pd (nI n1) (nI tn1) an wr pl tb tl ta1 tk1 ts1 fb (by omega) (by omega) (by omega) (by omega) (by omega) hfg1) mi_X5_factOfName wl_X5_92 rfl 0 5 rfl rfl rfl rfl rfl dX5_readSaying_36) (roK hro) [2, 3, 4] [0, 1] rfl rfl rfl rfl (fun r_282 uz hw => ?_)
                refine an1 hw ?_
                clear hw
                intro he_283 hw
                have he_284 := hw
                clear hw
                have he_283 := he_283.symm
                subst he_283
                subst he_284
                refine ww_eq (ws' := [(po, .inl (E.2.1 1, 32, .inl fo1)), (pa, .inl (E.2.1 1, 32, .inl fa1)), (qs, .inr (5, [.ref qt, .ref po, .ref pa, .ref pf, .ref pd, .int (nI n1), .int (nI tn1), .int an, .int wr, .int pl])), (qt, .inr (10, [.ref tb, .int (nI tl), .int (nI ta1), .int (nI tk1), .int (nI ts1)])), (tb, .inl (E.2.1 0, 160, .inl fb))]) ?_ rfl rfl rfl
                refine ww_goto (tgt := 43) C dX5_readSaying_39 (by decide) ?_
                refine ww_istore (lv' := [(4, .int (fv (aT (cz fb tl) ts1 tk1 ta1))), (3, .int r_3), (2, .int (nI n1)), (1, .int (nI op1)), (0, .ref qs)]) C dX5_readSaying_43 rfl rfl ?_
                refine ww_aload_n C dX5_readSaying_45 4 rfl rfl ?_
                refine ww_get C fg_X5_12 2 rfl rfl dX5_readSaying_46 ?_
                refine ww_ldcS (tx := "know") C (List.mem_of_getElem? (i := 9) rfl) rfl dX5_readSaying_49 ?_
                refine ww_ci (wr := [(po, .inl (E.2.1 1, 32, .inl fo1)), (pa, .inl (E.2.1 1, 32, .inl fa1)), (qs, .inr (5, [.ref qt, .ref po, .ref pa, .ref pf, .ref pd, .int (nI n1), .int (nI tn1), .int an, .int wr, .int pl]))]) (k' := 0) (n' := 0) C (run_V (As := [.ref (E.2.2 95)]) (rest := []) C (t_isName X.2.1 E ro qt tb tl ta1 tk1 ts1 fb 9 (by decide) (by omega) (by omega) (by omega) (by omega)) mi_X10_isName wl_X5_78 rfl 0 10 rfl rfl rfl rfl rfl dX5_readSaying_51) (roK hro) [3, 4] [0, 1, 2] rfl rfl rfl rfl (fun r_285 uz hw => ?_)
                rcases hw with hw | hw
                · refine an2 hw ?_
                  clear hw
                  intro he_287 he_288 hw
                  have h_286 := hw
                  clear hw
                  have he_287 := he_287.symm
                  subst he_287
                  subst he_288
                  refine ww_eq (ws' := [(po, .inl (E.2.1 1, 32, .inl fo1)), (pa, .inl (E.2.1 1, 32, .inl fa1)), (qs, .inr (5, [.ref qt, .ref po, .ref pa, .ref pf, .ref pd, .int (nI n1), .int (nI tn1), .int an, .int wr, .int pl])), (qt, .inr (10, [.ref tb, .int (nI tl), .int (nI ta1), .int (nI tk1), .int (nI ts1)])), (tb, .inl (E.2.1 0, 160, .inl fb))]) ?_ rfl rfl rfl
                  have hNk_292 := aT_of (show IN (cz fb tl) ts1 tk1 ta1 8 from h_286) (by decide)
                  refine ww_if_ne_t (tgt := 62) C dX5_readSaying_54 (by decide) (by decide) ?_
                  refine ww_iconst (v := 1) C dX5_readSaying_62 rfl ?_
                  refine ww_goto (tgt := 67) C dX5_readSaying_63 (by decide) ?_
                  refine ww_istore (lv' := [(5, .int 1), (4, .int (fv (aT (cz fb tl) ts1 tk1 ta1))), (3, .int r_3), (2, .int (nI n1)), (1, .int (nI op1)), (0, .ref qs)]) C dX5_readSaying_67 rfl rfl ?_
                  refine ww_aload_n C dX5_readSaying_69 5 rfl rfl ?_
                  refine ww_ci (wr := [(po, .inl (E.2.1 1, 32, .inl fo1)), (pa, .inl (E.2.1 1, 32, .inl fa1))]) (k' := 0) (n' := 0) C (run_V (As := []) (rest := []) C (q_take X.2.1 E ro qs qt po pa pf pd (nI n1) tn1 an wr pl tb tl ta1 tk1 ts1 fb (by omega) (by omega) (by omega) (by omega) (by omega) hfg1 (by omega)) mi_X5_take wl_X5_97 rfl 0 5 rfl rfl rfl rfl rfl dX5_readSaying_70) (roK hro) [2, 3, 4] [0, 1] rfl rfl rfl rfl (fun r_293 uz hw => ?_)
                  rcases hw with hw | hw
                  · refine ex3 hw ?_
                    clear hw
                    intro ta2_294 tk2_295 ts2_296 hw
                    refine an8 hw ?_
                    clear hw
                    intro he_305 he_306 h_297 h_298 h_299 h_300 h_301 h_302 hw
                    refine an1 hw ?_
                    clear hw
                    intro h_303 hw
                    have h_304 := hw
                    clear hw
                    have he_305 := he_305.symm
                    subst he_305
                    subst he_306
                    refine ww_eq (ws' := [(po, .inl (E.2.1 1, 32, .inl fo1)), (pa, .inl (E.2.1 1, 32, .inl fa1)), (qs, .inr (5, [.ref qt, .ref po, .ref pa, .ref pf, .ref pd, .int (nI n1), .int (nI (tn1 + 1)), .int an, .int wr, .int pl])), (qt, .inr (10, [.ref tb, .int (nI tl), .int (nI ta2_294), .int (nI tk2_295), .int (nI ts2_296)])), (tb, .inl (E.2.1 0, 160, .inl fb))]) ?_ rfl rfl rfl
                    refine ww_if_ne_t (tgt := 78) C dX5_readSaying_73 (by decide) (by decide) ?_
                    refine ww_iload_n C dX5_readSaying_78 2 rfl rfl ?_
                    refine ww_iconst (v := 5) C dX5_readSaying_79 rfl ?_
                    refine ww_icmp_lt (tgt := 111) C dX5_readSaying_80 (by decide) (fun c_321 => ?_) (fun c_321 => ?_)
                    · have zc_321 : r_3.toInt < 5 := i_lt rfl rfl c_321
                      refine ww_aload_n C dX5_readSaying_111 5 rfl rfl ?_
                      refine ww_get C fg_X5_18 2 rfl rfl dX5_readSaying_112 ?_
                      refine ww_iload_n C dX5_readSaying_115 3 rfl rfl ?_
                      refine ww_iload_n C dX5_readSaying_116 2 rfl rfl ?_
                      obtain ⟨f_322, ef_322⟩ : ∃ z : Nat → Int32, upd fo1 n1 r_3 = z := ⟨_, rfl⟩
                      refine ww_iast (ws' := [(po, .inl (E.2.1 1, 32, .inl f_322)), (pa, .inl (E.2.1 1, 32, .inl fa1)), (qs, .inr (5, [.ref qt, .ref po, .ref pa, .ref pf, .ref pd, .int (nI n1), .int (nI (tn1 + 1)), .int an, .int wr, .int pl])), (qt, .inr (10, [.ref tb, .int (nI tl), .int (nI ta2_294), .int (nI tk2_295), .int (nI ts2_296)])), (tb, .inl (E.2.1 0, 160, .inl fb))]) C 0 rfl (vp_in_nI (by omega) (by omega)) (ldn2 (by omega) ef_322) rfl dX5_readSaying_117 ?_
                      refine ww_aload_n C dX5_readSaying_118 5 rfl rfl ?_
                      refine ww_get C fg_X5_22 2 rfl rfl dX5_readSaying_119 ?_
                      refine ww_iload_n C dX5_readSaying_122 3 rfl rfl ?_
                      refine ww_iload C dX5_readSaying_123 1 rfl ?_
                      obtain ⟨f_323, ef_323⟩ : ∃ z : Nat → Int32, upd fa1 n1 (fv (aT (cz fb tl) ts1 tk1 ta1)) = z := ⟨_, rfl⟩
                      refine ww_iast (ws' := [(po, .inl (E.2.1 1, 32, .inl f_322)), (pa, .inl (E.2.1 1, 32, .inl f_323)), (qs, .inr (5, [.ref qt, .ref po, .ref pa, .ref pf, .ref pd, .int (nI n1), .int (nI (tn1 + 1)), .int an, .int wr, .int pl])), (qt, .inr (10, [.ref tb, .int (nI tl), .int (nI ta2_294), .int (nI tk2_295), .int (nI ts2_296)])), (tb, .inl (E.2.1 0, 160, .inl fb))]) C 1 rfl (vp_in_nI (by omega) (by omega)) (ldn2 (by omega) ef_323) rfl dX5_readSaying_125 ?_
                      refine ww_aload_n C dX5_readSaying_126 5 rfl rfl ?_
                      refine ww_iload_n C dX5_readSaying_127 3 rfl rfl ?_
                      refine ww_iconst (v := 1) C dX5_readSaying_128 rfl ?_
                      refine ww_iadd (v := (nI (n1 + 1))) C dX5_readSaying_129 (nI_add n1 1) ?_
                      refine ww_put (ws' := [(po, .inl (E.2.1 1, 32, .inl f_322)), (pa, .inl (E.2.1 1, 32, .inl f_323)), (qs, .inr (5, [.ref qt, .ref po, .ref pa, .ref pf, .ref pd, .int (nI (n1 + 1)), .int (nI (tn1 + 1)), .int an, .int wr, .int pl])), (qt, .inr (10, [.ref tb, .int (nI tl), .int (nI ta2_294), .int (nI tk2_295), .int (nI ts2_296)])), (tb, .inl (E.2.1 0, 160, .inl fb))]) C fp_X5_31 2 rfl rfl rfl rfl rfl dX5_readSaying_130 ?_
                      refine ww_iload_n C dX5_readSaying_133 4 rfl rfl ?_
                      refine ww_iload_n C dX5_readSaying_134 2 rfl rfl ?_
                      refine ww_ci (wr := [(po, .inl (E.2.1 1, 32, .inl f_322)), (pa, .inl (E.2.1 1, 32, .inl f_323)), (qs, .inr (5, [.ref qt, .ref po, .ref pa, .ref pf, .ref pd, .int (nI (n1 + 1)), .int (nI (tn1 + 1)), .int an, .int wr, .int pl])), (qt, .inr (10, [.ref tb, .int (nI tl), .int (nI ta2_294), .int (nI tk2_295), .int (nI ts2_296)])), (tb, .inl (E.2.1 0, 160, .inl fb))]) (k' := 0) (n' := 0) C (run_SN (As := [.int r_3]) (rest := [.int (nI op1)]) C (c_under X.2.1 E ro r_3) ms_X11_under (List.mem_of_getElem? (i := 14) rfl) rfl rfl rfl rfl dX5_readSaying_135) (roK hro) [] [0, 1, 2, 3, 4] rfl rfl rfl rfl (fun r_324 uz hw => ?_)
                      rcases hw with hw | hw | hw
                      · refine an2 hw ?_
                        clear hw
                        intro he_326 he_327 hw
                        have h_325 := hw
                        clear hw
                        have he_326 := he_326.symm
                        subst he_326
                        subst he_327
                        refine ww_eq (ws' := [(po, .inl (E.2.1 1, 32, .inl f_322)), (pa, .inl (E.2.1 1, 32, .inl f_323)), (qs, .inr (5, [.ref qt, .ref po, .ref pa, .ref pf, .ref pd, .int (nI (n1 + 1)), .int (nI (tn1 + 1)), .int an, .int wr, .int pl])), (qt, .inr (10, [.ref tb, .int (nI tl), .int (nI ta2_294), .int (nI tk2_295), .int (nI ts2_296)])), (tb, .inl (E.2.1 0, 160, .inl fb))]) ?_ rfl rfl rfl
                        have hun := uN_a0 (x := r_3) (by assumption)
                        have hov := OPV.ext hopv ef_322 (by omega) (by omega) (by omega)
                        have hov2 := hov.2
                        have hwt := wt_u (aT (cz fb tl) ts1 tk1 ta1) h_9.2
                        rw [← h_9.1] at hwt
                        refine ww_iconst (v := 1) C dX5_readSaying_138 rfl ?_
                        refine ww_isub (v := (-1)) C dX5_readSaying_139 (by decide) ?_
                        refine ww_iadd (v := (nI (op1 - 1))) C dX5_readSaying_140 (nI_subc (a := op1) (c := 1) (by omega) rfl) ?_
                        refine ww_istore_n (lv' := [(1, .int (nI (op1 - 1))), (5, .int 1), (4, .int (fv (aT (cz fb tl) ts1 tk1 ta1))), (3, .int r_3), (2, .int (nI n1)), (0, .ref qs)]) C dX5_readSaying_141 rfl rfl rfl ?_
                        refine ww_iinc (j := 4) (v := (nI (n1 + 1))) (lv' := [(2, .int (nI (n1 + 1))), (1, .int (nI (op1 - 1))), (5, .int 1), (4, .int (fv (aT (cz fb tl) ts1 tk1 ta1))), (3, .int r_3), (0, .ref qs)]) C dX5_readSaying_142 rfl (nI_add n1 1) rfl rfl ?_
                        refine ww_goto (tgt := 4) C dX5_readSaying_145 (by decide) ?_
                        exact ww_lv [0, 1, 5] rfl (ww_sub [2, 3, 4, 0, 1] rfl rfl (ih_4 (n1 + 1) (op1 - 1) (tn1 + 1) ta2_294 tk2_295 ts2_296 ta1 f_322 f_323 (by omega) (by omega) (by omega) hov.1 (by omega) (by omega) (by omega) (by omega) (by omega) (by omega) h_301 h_302 ((it_s hit (by omega)).trans (sg_a htk0 (by omega) (by omega) h_302 h_303 (by omega))) (RUN.ext hrun hit (by omega)) (OPX.ext hopx ef_322 ef_323 (aI_t hit htk0) (gI_a hit htk0 (by omega)) h_9.1 (argV_f (by omega)) h_9.2 (by decide)) (by omega)))
                      · refine an2 hw ?_
                        clear hw
                        intro he_329 he_330 hw
                        have h_328 := hw
                        clear hw
                        have he_329 := he_329.symm
                        subst he_329
                        subst he_330
                        refine ww_eq (ws' := [(po, .inl (E.2.1 1, 32, .inl f_322)), (pa, .inl (E.2.1 1, 32, .inl f_323)), (qs, .inr (5, [.ref qt, .ref po, .ref pa, .ref pf, .ref pd, .int (nI (n1 + 1)), .int (nI (tn1 + 1)), .int an, .int wr, .int pl])), (qt, .inr (10, [.ref tb, .int (nI tl), .int (nI ta2_294), .int (nI tk2_295), .int (nI ts2_296)])), (tb, .inl (E.2.1 0, 160, .inl fb))]) ?_ rfl rfl rfl
                        have hun := uN_a2 (x := r_3) (by assumption)
                        have hov := OPV.ext hopv ef_322 (by omega) (by omega) (by omega)
                        have hov2 := hov.2
                        have hwt := wt_u (aT (cz fb tl) ts1 tk1 ta1) h_9.2
                        rw [← h_9.1] at hwt
                        refine ww_iconst (v := 1) C dX5_readSaying_138 rfl ?_
                        refine ww_isub (v := 1) C dX5_readSaying_139 (by decide) ?_
                        refine ww_iadd (v := (nI (op1 + 1))) C dX5_readSaying_140 (nI_add op1 1) ?_
                        refine ww_istore_n (lv' := [(1, .int (nI (op1 + 1))), (5, .int 1), (4, .int (fv (aT (cz fb tl) ts1 tk1 ta1))), (3, .int r_3), (2, .int (nI n1)), (0, .ref qs)]) C dX5_readSaying_141 rfl rfl rfl ?_
                        refine ww_iinc (j := 4) (v := (nI (n1 + 1))) (lv' := [(2, .int (nI (n1 + 1))), (1, .int (nI (op1 + 1))), (5, .int 1), (4, .int (fv (aT (cz fb tl) ts1 tk1 ta1))), (3, .int r_3), (0, .ref qs)]) C dX5_readSaying_142 rfl (nI_add n1 1) rfl rfl ?_
                        refine ww_goto (tgt := 4) C dX5_readSaying_145 (by decide) ?_
                        exact ww_lv [0, 1, 5] rfl (ww_sub [2, 3, 4, 0, 1] rfl rfl (ih_4 (n1 + 1) (op1 + 1) (tn1 + 1) ta2_294 tk2_295 ts2_296 ta1 f_322 f_323 (by omega) (by omega) (by omega) hov.1 (by omega) (by omega) (by omega) (by omega) (by omega) (by omega) h_301 h_302 ((it_s hit (by omega)).trans (sg_a htk0 (by omega) (by omega) h_302 h_303 (by omega))) (RUN.ext hrun hit (by omega)) (OPX.ext hopx ef_322 ef_323 (aI_t hit htk0) (gI_a hit htk0 (by omega)) h_9.1 (argV_f (by omega)) h_9.2 (by decide)) (by omega)))
                      · refine an2 hw ?_
                        clear hw
                        intro he_332 he_333 hw
                        have h_331 := hw
                        clear hw
                        have he_332 := he_332.symm
                        subst he_332
                        subst he_333
                        refine ww_eq (ws' := [(po, .inl (E.2.1 1, 32, .inl f_322)), (pa, .inl (E.2.1 1, 32, .inl f_323)), (qs, .inr (5, [.ref qt, .ref po, .ref pa, .ref pf, .ref pd, .int (nI (n1 + 1)), .int (nI (tn1 + 1)), .int an, .int wr, .int pl])), (qt, .inr (10, [.ref tb, .int (nI tl), .int (nI ta2_294), .int (nI tk2_295), .int (nI ts2_296)])), (tb, .inl (E.2.1 0, 160, .inl fb))]) ?_ rfl rfl rfl
                        have hun := uN_a1 (x := r_3) (by assumption)
                        have hov := OPV.ext hopv ef_322 (by omega) (by omega) (by omega)
                        have hov2 := hov.2
                        have hwt := wt_u (aT (cz fb tl) ts1 tk1 ta1) h_9.2
                        rw [← h_9.1] at hwt
                        refine ww_iconst (v := 1) C dX5_readSaying_138 rfl ?_
                        refine ww_isub (v := 0) C dX5_readSaying_139 (by decide) ?_
                        refine ww_iadd (v := (nI op1)) C dX5_readSaying_140 (nI_add op1 0) ?_
                        refine ww_istore_n (lv' := [(1, .int (nI op1)), (5, .int 1), (4, .int (fv (aT (cz fb tl) ts1 tk1 ta1))), (3, .int r_3), (2, .int (nI n1)), (0, .ref qs)]) C dX5_readSaying_141 rfl rfl rfl ?_
                        refine ww_iinc (j := 4) (v := (nI (n1 + 1))) (lv' := [(2, .int (nI (n1 + 1))), (1, .int (nI op1)), (5, .int 1), (4, .int (fv (aT (cz fb tl) ts1 tk1 ta1))), (3, .int r_3), (0, .ref qs)]) C dX5_readSaying_142 rfl (nI_add n1 1) rfl rfl ?_
                        refine ww_goto (tgt := 4) C dX5_readSaying_145 (by decide) ?_
                        exact ww_lv [0, 1, 5] rfl (ww_sub [2, 3, 4, 0, 1] rfl rfl (ih_4 (n1 + 1) op1 (tn1 + 1) ta2_294 tk2_295 ts2_296 ta1 f_322 f_323 (by omega) (by omega) (by omega) hov.1 (by omega) (by omega) (by omega) (by omega) (by omega) (by omega) h_301 h_302 ((it_s hit (by omega)).trans (sg_a htk0 (by omega) (by omega) h_302 h_303 (by omega))) (RUN.ext hrun hit (by omega)) (OPX.ext hopx ef_322 ef_323 (aI_t hit htk0) (gI_a hit htk0 (by omega)) h_9.1 (argV_f (by omega)) h_9.2 (by decide)) (by omega)))
                    · have zc_321 : r_3.toInt ≥ 5 := i_nlt rfl rfl c_321
                      omega
                  · refine ex6 hw ?_
                    clear hw
                    intro ta2_307 tk2_308 ts2_309 tn2_310 wr2_311 pl2_312 hw
                    refine an7 hw ?_
                    clear hw
                    intro he_319 he_320 h_313 h_314 h_315 h_316 h_317 hw
                    have h_318 := hw
                    clear hw
                    have he_319 := he_319.symm
                    subst he_319
                    subst he_320
                    refine ww_eq (ws' := [(po, .inl (E.2.1 1, 32, .inl fo1)), (pa, .inl (E.2.1 1, 32, .inl fa1)), (qs, .inr (5, [.ref qt, .ref po, .ref pa, .ref pf, .ref pd, .int (nI n1), .int tn2_310, .int an, .int wr2_311, .int (nI pl2_312)])), (qt, .inr (10, [.ref tb, .int (nI tl), .int (nI ta2_307), .int (nI tk2_308), .int (nI ts2_309)])), (tb, .inl (E.2.1 0, 160, .inl fb))]) ?_ rfl rfl rfl
                    refine ww_if_ne_f (tgt := 78) C dX5_readSaying_73 (by decide) (rfl) ?_
                    refine ww_iconst (v := 0) C dX5_readSaying_76 rfl ?_
                    exact ww_zret (u := [(qs, .inr (5, [.ref qt, .ref po, .ref pa, .ref pf, .ref pd, .int (nI n1), .int tn2_310, .int an, .int wr2_311, .int (nI pl2_312)])), (qt, .inr (10, [.ref tb, .int (nI tl), .int (nI ta2_307), .int (nI tk2_308), .int (nI ts2_309)])), (tb, .inl (E.2.1 0, 160, .inl fb)), (po, .inl (E.2.1 1, 32, .inl fo1)), (pa, .inl (E.2.1 1, 32, .inl fa1))]) C hT [2, 3, 4, 0, 1] rfl rfl rfl rfl rfl dX5_readSaying_77 (Or.inr ⟨ta2_307, tk2_308, ts2_309, (nI n1), tn2_310, wr2_311, pl2_312, fo1, fa1, rfl, rfl, (by first | assumption | omega | decide), (by first | assumption | omega | decide), (by first | assumption | omega | decide), (by omega), h_317, (by rcases h_318 with ⟨h8, h9⟩ | ⟨h7, h8, h9⟩ <;> subst h9 <;> first | exact it_bad hit (by omega) (sg_f1 htk0 (Or.inr h8)) (by omega) | exact it_bad hit (by omega) (sg_f2 htk0 (by omega) h7 h8) (by omega))⟩)
                · refine an2 hw ?_
                  clear hw
                  intro he_290 he_291 hw
                  have h_289 := hw
                  clear hw
                  have he_290 := he_290.symm
                  subst he_290
                  subst he_291
                  refine ww_eq (ws' := [(po, .inl (E.2.1 1, 32, .inl fo1)), (pa, .inl (E.2.1 1, 32, .inl fa1)), (qs, .inr (5, [.ref qt, .ref po, .ref pa, .ref pf, .ref pd, .int (nI n1), .int (nI tn1), .int an, .int wr, .int pl])), (qt, .inr (10, [.ref tb, .int (nI tl), .int (nI ta1), .int (nI tk1), .int (nI ts1)])), (tb, .inl (E.2.1 0, 160, .inl fb))]) ?_ rfl rfl rfl
                  have hNk_334 := aT_nn (show ¬ IN (cz fb tl) ts1 tk1 ta1 8 from h_289) (by decide)
                  refine ww_if_ne_f (tgt := 62) C dX5_readSaying_54 (by decide) (rfl) ?_
                  refine ww_iload_n C dX5_readSaying_57 1 rfl rfl ?_
                  refine ww_iconst (v := 5) C dX5_readSaying_58 rfl ?_
                  refine ww_icmp_ne (tgt := 66) C dX5_readSaying_59 (by decide) (fun c_335 => ?_) (fun c_335 => ?_)
                  · have zc_335 : r_3.toInt ≠ 5 := i_ne rfl rfl c_335
                    refine ww_iconst (v := 0) C dX5_readSaying_66 rfl ?_
                    refine ww_istore (lv' := [(5, .int 0), (4, .int (fv (aT (cz fb tl) ts1 tk1 ta1))), (3, .int r_3), (2, .int (nI n1)), (1, .int (nI op1)), (0, .ref qs)]) C dX5_readSaying_67 rfl rfl ?_
                    refine ww_aload_n C dX5_readSaying_69 5 rfl rfl ?_
                    refine ww_ci (wr := [(po, .inl (E.2.1 1, 32, .inl fo1)), (pa, .inl (E.2.1 1, 32, .inl fa1))]) (k' := 0) (n' := 0) C (run_V (As := []) (rest := []) C (q_take X.2.1 E ro qs qt po pa pf pd (nI n1) tn1 an wr pl tb tl ta1 tk1 ts1 fb (by omega) (by omega) (by omega) (by omega) (by omega) hfg1 (by omega)) mi_X5_take wl_X5_97 rfl 0 5 rfl rfl rfl rfl rfl dX5_readSaying_70) (roK hro) [2, 3, 4] [0, 1] rfl rfl rfl rfl (fun r_336 uz hw => ?_)
                    rcases hw with hw | hw
                    · refine ex3 hw ?_
                      clear hw
                      intro ta2_337 tk2_338 ts2_339 hw
                      refine an8 hw ?_
                      clear hw
                      intro he_348 he_349 h_340 h_341 h_342 h_343 h_344 h_345 hw
                      refine an1 hw ?_
                      clear hw
                      intro h_346 hw
                      have h_347 := hw
                      clear hw
                      have he_348 := he_348.symm
                      subst he_348
                      subst he_349
                      refine ww_eq (ws' := [(po, .inl (E.2.1 1, 32, .inl fo1)), (pa, .inl (E.2.1 1, 32, .inl fa1)), (qs, .inr (5, [.ref qt, .ref po, .ref pa, .ref pf, .ref pd, .int (nI n1), .int (nI (tn1 + 1)), .int an, .int wr, .int pl])), (qt, .inr (10, [.ref tb, .int (nI tl), .int (nI ta2_337), .int (nI tk2_338), .int (nI ts2_339)])), (tb, .inl (E.2.1 0, 160, .inl fb))]) ?_ rfl rfl rfl
                      refine ww_if_ne_t (tgt := 78) C dX5_readSaying_73 (by decide) (by decide) ?_
                      refine ww_iload_n C dX5_readSaying_78 2 rfl rfl ?_
                      refine ww_iconst (v := 5) C dX5_readSaying_79 rfl ?_
                      refine ww_icmp_lt (tgt := 111) C dX5_readSaying_80 (by decide) (fun c_364 => ?_) (fun c_364 => ?_)
                      · have zc_364 : r_3.toInt < 5 := i_lt rfl rfl c_364
                        refine ww_aload_n C dX5_readSaying_111 5 rfl rfl ?_
                        refine ww_get C fg_X5_18 2 rfl rfl dX5_readSaying_112 ?_
                        refine ww_iload_n C dX5_readSaying_115 3 rfl rfl ?_
                        refine ww_iload_n C dX5_readSaying_116 2 rfl rfl ?_
                        obtain ⟨f_365, ef_365⟩ : ∃ z : Nat → Int32, upd fo1 n1 r_3 = z := ⟨_, rfl⟩
                        refine ww_iast (ws' := [(po, .inl (E.2.1 1, 32, .inl f_365)), (pa, .inl (E.2.1 1, 32, .inl fa1)), (qs, .inr (5, [.ref qt, .ref po, .ref pa, .ref pf, .ref pd, .int (nI n1), .int (nI (tn1 + 1)), .int an, .int wr, .int pl])), (qt, .inr (10, [.ref tb, .int (nI tl), .int (nI ta2_337), .int (nI tk2_338), .int (nI ts2_339)])), (tb, .inl (E.2.1 0, 160, .inl fb))]) C 0 rfl (vp_in_nI (by omega) (by omega)) (ldn2 (by omega) ef_365) rfl dX5_readSaying_117 ?_
                        refine ww_aload_n C dX5_readSaying_118 5 rfl rfl ?_
                        refine ww_get C fg_X5_22 2 rfl rfl dX5_readSaying_119 ?_
                        refine ww_iload_n C dX5_readSaying_122 3 rfl rfl ?_
                        refine ww_iload C dX5_readSaying_123 1 rfl ?_
                        obtain ⟨f_366, ef_366⟩ : ∃ z : Nat → Int32, upd fa1 n1 (fv (aT (cz fb tl) ts1 tk1 ta1)) = z := ⟨_, rfl⟩
                        refine ww_iast (ws' := [(po, .inl (E.2.1 1, 32, .inl f_365)), (pa, .inl (E.2.1 1, 32, .inl f_366)), (qs, .inr (5, [.ref qt, .ref po, .ref pa, .ref pf, .ref pd, .int (nI n1), .int (nI (tn1 + 1)), .int an, .int wr, .int pl])), (qt, .inr (10, [.ref tb, .int (nI tl), .int (nI ta2_337), .int (nI tk2_338), .int (nI ts2_339)])), (tb, .inl (E.2.1 0, 160, .inl fb))]) C 1 rfl (vp_in_nI (by omega) (by omega)) (ldn2 (by omega) ef_366) rfl dX5_readSaying_125 ?_
                        refine ww_aload_n C dX5_readSaying_126 5 rfl rfl ?_
                        refine ww_iload_n C dX5_readSaying_127 3 rfl rfl ?_
                        refine ww_iconst (v := 1) C dX5_readSaying_128 rfl ?_
                        refine ww_iadd (v := (nI (n1 + 1))) C dX5_readSaying_129 (nI_add n1 1) ?_
                        refine ww_put (ws' := [(po, .inl (E.2.1 1, 32, .inl f_365)), (pa, .inl (E.2.1 1, 32, .inl f_366)), (qs, .inr (5, [.ref qt, .ref po, .ref pa, .ref pf, .ref pd, .int (nI (n1 + 1)), .int (nI (tn1 + 1)), .int an, .int wr, .int pl])), (qt, .inr (10, [.ref tb, .int (nI tl), .int (nI ta2_337), .int (nI tk2_338), .int (nI ts2_339)])), (tb, .inl (E.2.1 0, 160, .inl fb))]) C fp_X5_31 2 rfl rfl rfl rfl rfl dX5_readSaying_130 ?_
                        refine ww_iload_n C dX5_readSaying_133 4 rfl rfl ?_
                        refine ww_iload_n C dX5_readSaying_134 2 rfl rfl ?_
                        refine ww_ci (wr := [(po, .inl (E.2.1 1, 32, .inl f_365)), (pa, .inl (E.2.1 1, 32, .inl f_366)), (qs, .inr (5, [.ref qt, .ref po, .ref pa, .ref pf, .ref pd, .int (nI (n1 + 1)), .int (nI (tn1 + 1)), .int an, .int wr, .int pl])), (qt, .inr (10, [.ref tb, .int (nI tl), .int (nI ta2_337), .int (nI tk2_338), .int (nI ts2_339)])), (tb, .inl (E.2.1 0, 160, .inl fb))]) (k' := 0) (n' := 0) C (run_SN (As := [.int r_3]) (rest := [.int (nI op1)]) C (c_under X.2.1 E ro r_3) ms_X11_under (List.mem_of_getElem? (i := 14) rfl) rfl rfl rfl rfl dX5_readSaying_135) (roK hro) [] [0, 1, 2, 3, 4] rfl rfl rfl rfl (fun r_367 uz hw => ?_)
                        rcases hw with hw | hw | hw
                        · refine an2 hw ?_
                          clear hw
                          intro he_369 he_370 hw
                          have h_368 := hw
                          clear hw
                          have he_369 := he_369.symm
                          subst he_369
                          subst he_370
                          refine ww_eq (ws' := [(po, .inl (E.2.1 1, 32, .inl f_365)), (pa, .inl (E.2.1 1, 32, .inl f_366)), (qs, .inr (5, [.ref qt, .ref po, .ref pa, .ref pf, .ref pd, .int (nI (n1 + 1)), .int (nI (tn1 + 1)), .int an, .int wr, .int pl])), (qt, .inr (10, [.ref tb, .int (nI tl), .int (nI ta2_337), .int (nI tk2_338), .int (nI ts2_339)])), (tb, .inl (E.2.1 0, 160, .inl fb))]) ?_ rfl rfl rfl
                          have hun := uN_a0 (x := r_3) (by assumption)
                          have hov := OPV.ext hopv ef_365 (by omega) (by omega) (by omega)
                          have hov2 := hov.2
                          have hwt := wt_u (aT (cz fb tl) ts1 tk1 ta1) h_9.2
                          rw [← h_9.1] at hwt
                          refine ww_iconst (v := 1) C dX5_readSaying_138 rfl ?_
                          refine ww_isub (v := (-1)) C dX5_readSaying_139 (by decide) ?_
                          refine ww_iadd (v := (nI (op1 - 1))) C dX5_readSaying_140 (nI_subc (a := op1) (c := 1) (by omega) rfl) ?_
                          refine ww_istore_n (lv' := [(1, .int (nI (op1 - 1))), (5, .int 0), (4, .int (fv (aT (cz fb tl) ts1 tk1 ta1))), (3, .int r_3), (2, .int (nI n1)), (0, .ref qs)]) C dX5_readSaying_141 rfl rfl rfl ?_
                          refine ww_iinc (j := 4) (v := (nI (n1 + 1))) (lv' := [(2, .int (nI (n1 + 1))), (1, .int (nI (op1 - 1))), (5, .int 0), (4, .int (fv (aT (cz fb tl) ts1 tk1 ta1))), (3, .int r_3), (0, .ref qs)]) C dX5_readSaying_142 rfl (nI_add n1 1) rfl rfl ?_
                          refine ww_goto (tgt := 4) C dX5_readSaying_145 (by decide) ?_
                          exact ww_lv [0, 1, 5] rfl (ww_sub [2, 3, 4, 0, 1] rfl rfl (ih_4 (n1 + 1) (op1 - 1) (tn1 + 1) ta2_337 tk2_338 ts2_339 ta1 f_365 f_366 (by omega) (by omega) (by omega) hov.1 (by omega) (by omega) (by omega) (by omega) (by omega) (by omega) h_344 h_345 ((it_s hit (by omega)).trans (sg_a htk0 (by omega) (by omega) h_345 h_346 (by omega))) (RUN.ext hrun hit (by omega)) (OPX.ext hopx ef_365 ef_366 (aI_t hit htk0) (gI_a hit htk0 (by omega)) h_9.1 (argV_f (by omega)) h_9.2 (by decide)) (by omega)))
                        · refine an2 hw ?_
                          clear hw
                          intro he_372 he_373 hw
                          have h_371 := hw
                          clear hw
                          have he_372 := he_372.symm
                          subst he_372
                          subst he_373
                          refine ww_eq (ws' := [(po, .inl (E.2.1 1, 32, .inl f_365)), (pa, .inl (E.2.1 1, 32, .inl f_366)), (qs, .inr (5, [.ref qt, .ref po, .ref pa, .ref pf, .ref pd, .int (nI (n1 + 1)), .int (nI (tn1 + 1)), .int an, .int wr, .int pl])), (qt, .inr (10, [.ref tb, .int (nI tl), .int (nI ta2_337), .int (nI tk2_338), .int (nI ts2_339)])), (tb, .inl (E.2.1 0, 160, .inl fb))]) ?_ rfl rfl rfl
                          have hun := uN_a2 (x := r_3) (by assumption)
                          have hov := OPV.ext hopv ef_365 (by omega) (by omega) (by omega)
                          have hov2 := hov.2
                          have hwt := wt_u (aT (cz fb tl) ts1 tk1 ta1) h_9.2
                          rw [← h_9.1] at hwt
                          refine ww_iconst (v := 1) C dX5_readSaying_138 rfl ?_
                          refine ww_isub (v := 1) C dX5_readSaying_139 (by decide) ?_
                          refine ww_iadd (v := (nI (op1 + 1))) C dX5_readSaying_140 (nI_add op1 1) ?_
                          refine ww_istore_n (lv' := [(1, .int (nI (op1 + 1))), (5, .int 0), (4, .int (fv (aT (cz fb tl) ts1 tk1 ta1))), (3, .int r_3), (2, .int (nI n1)), (0, .ref qs)]) C dX5_readSaying_141 rfl rfl rfl ?_
                          refine ww_iinc (j := 4) (v := (nI (n1 + 1))) (lv' := [(2, .int (nI (n1 + 1))), (1, .int (nI (op1 + 1))), (5, .int 0), (4, .int (fv (aT (cz fb tl) ts1 tk1 ta1))), (3, .int r_3), (0, .ref qs)]) C dX5_readSaying_142 rfl (nI_add n1 1) rfl rfl ?_
                          refine ww_goto (tgt := 4) C dX5_readSaying_145 (by decide) ?_
                          exact ww_lv [0, 1, 5] rfl (ww_sub [2, 3, 4, 0, 1] rfl rfl (ih_4 (n1 + 1) (op1 + 1) (tn1 + 1) ta2_337 tk2_338 ts2_339 ta1 f_365 f_366 (by omega) (by omega) (by omega) hov.1 (by omega) (by omega) (by omega) (by omega) (by omega) (by omega) h_344 h_345 ((it_s hit (by omega)).trans (sg_a htk0 (by omega) (by omega) h_345 h_346 (by omega))) (RUN.ext hrun hit (by omega)) (OPX.ext hopx ef_365 ef_366 (aI_t hit htk0) (gI_a hit htk0 (by omega)) h_9.1 (argV_f (by omega)) h_9.2 (by decide)) (by omega)))
                        · refine an2 hw ?_
                          clear hw
                          intro he_375 he_376 hw
                          have h_374 := hw
                          clear hw
                          have he_375 := he_375.symm
                          subst he_375
                          subst he_376
                          refine ww_eq (ws' := [(po, .inl (E.2.1 1, 32, .inl f_365)), (pa, .inl (E.2.1 1, 32, .inl f_366)), (qs, .inr (5, [.ref qt, .ref po, .ref pa, .ref pf, .ref pd, .int (nI (n1 + 1)), .int (nI (tn1 + 1)), .int an, .int wr, .int pl])), (qt, .inr (10, [.ref tb, .int (nI tl), .int (nI ta2_337), .int (nI tk2_338), .int (nI ts2_339)])), (tb, .inl (E.2.1 0, 160, .inl fb))]) ?_ rfl rfl rfl
                          have hun := uN_a1 (x := r_3) (by assumption)
                          have hov := OPV.ext hopv ef_365 (by omega) (by omega) (by omega)
                          have hov2 := hov.2
                          have hwt := wt_u (aT (cz fb tl) ts1 tk1 ta1) h_9.2
                          rw [← h_9.1] at hwt
                          refine ww_iconst (v := 1) C dX5_readSaying_138 rfl ?_
                          refine ww_isub (v := 0) C dX5_readSaying_139 (by decide) ?_
                          refine ww_iadd (v := (nI op1)) C dX5_readSaying_140 (nI_add op1 0) ?_
                          refine ww_istore_n (lv' := [(1, .int (nI op1)), (5, .int 0), (4, .int (fv (aT (cz fb tl) ts1 tk1 ta1))), (3, .int r_3), (2, .int (nI n1)), (0, .ref qs)]) C dX5_readSaying_141 rfl rfl rfl ?_
                          refine ww_iinc (j := 4) (v := (nI (n1 + 1))) (lv' := [(2, .int (nI (n1 + 1))), (1, .int (nI op1)), (5, .int 0), (4, .int (fv (aT (cz fb tl) ts1 tk1 ta1))), (3, .int r_3), (0, .ref qs)]) C dX5_readSaying_142 rfl (nI_add n1 1) rfl rfl ?_
                          refine ww_goto (tgt := 4) C dX5_readSaying_145 (by decide) ?_
                          exact ww_lv [0, 1, 5] rfl (ww_sub [2, 3, 4, 0, 1] rfl rfl (ih_4 (n1 + 1) op1 (tn1 + 1) ta2_337 tk2_338 ts2_339 ta1 f_365 f_366 (by omega) (by omega) (by omega) hov.1 (by omega) (by omega) (by omega) (by omega) (by omega) (by omega) h_344 h_345 ((it_s hit (by omega)).trans (sg_a htk0 (by omega) (by omega) h_345 h_346 (by omega))) (RUN.ext hrun hit (by omega)) (OPX.ext hopx ef_365 ef_366 (aI_t hit htk0) (gI_a hit htk0 (by omega)) h_9.1 (argV_f (by omega)) h_9.2 (by decide)) (by omega)))
                      · have zc_364 : r_3.toInt ≥ 5 := i_nlt rfl rfl c_364
                        omega
                    · refine ex6 hw ?_
                      clear hw
                      intro ta2_350 tk2_351 ts2_352 tn2_353 wr2_354 pl2_355 hw
                      refine an7 hw ?_
                      clear hw
                      intro he_362 he_363 h_356 h_357 h_358 h_359 h_360 hw
                      have h_361 := hw
                      clear hw
                      have he_362 := he_362.symm
                      subst he_362
                      subst he_363
                      refine ww_eq (ws' := [(po, .inl (E.2.1 1, 32, .inl fo1)), (pa, .inl (E.2.1 1, 32, .inl fa1)), (qs, .inr (5, [.ref qt, .ref po, .ref pa, .ref pf, .ref pd, .int (nI n1), .int tn2_353, .int an, .int wr2_354, .int (nI pl2_355)])), (qt, .inr (10, [.ref tb, .int (nI tl), .int (nI ta2_350), .int (nI tk2_351), .int (nI ts2_352)])), (tb, .inl (E.2.1 0, 160, .inl fb))]) ?_ rfl rfl rfl
                      refine ww_if_ne_f (tgt := 78) C dX5_readSaying_73 (by decide) (rfl) ?_
                      refine ww_iconst (v := 0) C dX5_readSaying_76 rfl ?_
                      exact ww_zret (u := [(qs, .inr (5, [.ref qt, .ref po, .ref pa, .ref pf, .ref pd, .int (nI n1), .int tn2_353, .int an, .int wr2_354, .int (nI pl2_355)])), (qt, .inr (10, [.ref tb, .int (nI tl), .int (nI ta2_350), .int (nI tk2_351), .int (nI ts2_352)])), (tb, .inl (E.2.1 0, 160, .inl fb)), (po, .inl (E.2.1 1, 32, .inl fo1)), (pa, .inl (E.2.1 1, 32, .inl fa1))]) C hT [2, 3, 4, 0, 1] rfl rfl rfl rfl rfl dX5_readSaying_77 (Or.inr ⟨ta2_350, tk2_351, ts2_352, (nI n1), tn2_353, wr2_354, pl2_355, fo1, fa1, rfl, rfl, (by first | assumption | omega | decide), (by first | assumption | omega | decide), (by first | assumption | omega | decide), (by omega), h_360, (by rcases h_361 with ⟨h8, h9⟩ | ⟨h7, h8, h9⟩ <;> subst h9 <;> first | exact it_bad hit (by omega) (sg_f1 htk0 (Or.inr h8)) (by omega) | exact it_bad hit (by omega) (sg_f2 htk0 (by omega) h7 h8) (by omega))⟩)
                  · have zc_335 : r_3.toInt = 5 := i_eq rfl rfl c_335
                    omega
            · have zc_14 : r_3.toInt = (-4) := i_eq rfl rfl c_14
              omega
  exact ww_lv [0, 1, 2] rfl (ww_sub [0, 1, 2, 3, 4] rfl rfl (loop_4 _ 0 1 0 ta tk ts p_ fo fa (by omega) (by omega) rfl OPV.nil (by omega) (by omega) (by omega) (by omega) (by omega) (by omega) hfg htok rfl RUN.nil OPX.nil (Nat.lt_succ_self _)))
