theorem dX5_readSaying_0 : decode cX5_readSaying 0 = .ok (.iconst 1, 1) := by decide +kernel
theorem dX5_readSaying_1 : decode cX5_readSaying 1 = .ok (.istore_n 1, 1) := by decide +kernel
theorem dX5_readSaying_2 : decode cX5_readSaying 2 = .ok (.iconst 0, 1) := by decide +kernel
theorem dX5_readSaying_3 : decode cX5_readSaying 3 = .ok (.istore_n 2, 1) := by decide +kernel
theorem dX5_readSaying_4 : decode cX5_readSaying 4 = .ok (.iload_n 2, 1) := by decide +kernel
theorem dX5_readSaying_5 : decode cX5_readSaying 5 = .ok (.bipush 32, 2) := by decide +kernel
theorem dX5_readSaying_7 : decode cX5_readSaying 7 = .ok (.if_icmp .gt 141, 3) := by decide +kernel
theorem dX5_readSaying_148 : decode cX5_readSaying 148 = .ok (.iconst 1, 1) := by decide +kernel
theorem dX5_readSaying_149 : decode cX5_readSaying 149 = .ok (.ireturn, 1) := by decide +kernel
theorem dX5_readSaying_10 : decode cX5_readSaying 10 = .ok (.iload_n 1, 1) := by decide +kernel
theorem dX5_readSaying_11 : decode cX5_readSaying 11 = .ok (.ifCond .le 137, 3) := by decide +kernel
theorem dX5_readSaying_14 : decode cX5_readSaying 14 = .ok (.aload_n 0, 1) := by decide +kernel
theorem dX5_readSaying_15 : decode cX5_readSaying 15 = .ok (.invokevirtual 89, 3) := by decide +kernel
theorem wl_X5_89 : Cond.methodLink RX5 89 yX5_opOfName ∈ TB := tbm (tq3 (List.mem_of_getElem? (i := 102) (by decide +kernel))) (by decide +kernel)
theorem wc_X5_opOfName : Cond.code yX5_opOfName cX5_opOfName 1 (some .int) ∈ TB := tbm (tq3 (List.mem_of_getElem? (i := 105) (rfl))) (by decide +kernel)
theorem wi_X5_opOfName : Cond.instanceMethod yX5_opOfName ∈ TB := tbm (tq3 (List.mem_of_getElem? (i := 104) (by decide +kernel))) (by decide +kernel)
theorem ws_X5_opOfName : Cond.selects RX5 yX5_opOfName yX5_opOfName ∈ TB := tbm (tq0 (List.mem_of_getElem? (i := 9) (by decide +kernel))) (by decide +kernel)
theorem mi_X5_opOfName : MI yX5_opOfName cX5_opOfName 1 (some .int) 0 := ⟨wc_X5_opOfName, wn_X5, ⟨by decide +kernel, by decide +kernel, by decide +kernel⟩, wi_X5_opOfName, ws_X5_opOfName⟩
theorem dX5_readSaying_18 : decode cX5_readSaying 18 = .ok (.istore_n 3, 1) := by decide +kernel
theorem dX5_readSaying_19 : decode cX5_readSaying 19 = .ok (.iload_n 3, 1) := by decide +kernel
theorem dX5_readSaying_20 : decode cX5_readSaying 20 = .ok (.bipush (-4), 2) := by decide +kernel
theorem dX5_readSaying_22 : decode cX5_readSaying 22 = .ok (.if_icmp .ne 9, 3) := by decide +kernel
theorem dX5_readSaying_25 : decode cX5_readSaying 25 = .ok (.aload_n 0, 1) := by decide +kernel
theorem dX5_readSaying_26 : decode cX5_readSaying 26 = .ok (.iconst 2, 1) := by decide +kernel
theorem dX5_readSaying_27 : decode cX5_readSaying 27 = .ok (.invokevirtual 63, 3) := by decide +kernel
theorem dX5_readSaying_30 : decode cX5_readSaying 30 = .ok (.ireturn, 1) := by decide +kernel
theorem dX5_readSaying_31 : decode cX5_readSaying 31 = .ok (.iload_n 3, 1) := by decide +kernel
theorem dX5_readSaying_32 : decode cX5_readSaying 32 = .ok (.ifCond .ne 10, 3) := by decide +kernel
theorem dX5_readSaying_42 : decode cX5_readSaying 42 = .ok (.iconst 0, 1) := by decide +kernel
theorem dX5_readSaying_43 : decode cX5_readSaying 43 = .ok (.istore 4, 2) := by decide +kernel
theorem dX5_readSaying_45 : decode cX5_readSaying 45 = .ok (.aload_n 0, 1) := by decide +kernel
theorem dX5_readSaying_46 : decode cX5_readSaying 46 = .ok (.getfield 12, 3) := by decide +kernel
theorem dX5_readSaying_49 : decode cX5_readSaying 49 = .ok (.ldc 95, 2) := by decide +kernel
theorem dX5_readSaying_51 : decode cX5_readSaying 51 = .ok (.invokevirtual 78, 3) := by decide +kernel
theorem dX5_readSaying_54 : decode cX5_readSaying 54 = .ok (.ifCond .ne 8, 3) := by decide +kernel
theorem dX5_readSaying_62 : decode cX5_readSaying 62 = .ok (.iconst 1, 1) := by decide +kernel
theorem dX5_readSaying_63 : decode cX5_readSaying 63 = .ok (.goto 4, 3) := by decide +kernel
theorem dX5_readSaying_67 : decode cX5_readSaying 67 = .ok (.istore 5, 2) := by decide +kernel
theorem dX5_readSaying_69 : decode cX5_readSaying 69 = .ok (.aload_n 0, 1) := by decide +kernel
theorem dX5_readSaying_70 : decode cX5_readSaying 70 = .ok (.invokevirtual 97, 3) := by decide +kernel
theorem wl_X5_97 : Cond.methodLink RX5 97 yX5_take ∈ TB := tbm (tq3 (List.mem_of_getElem? (i := 127) (by decide +kernel))) (by decide +kernel)
theorem wc_X5_take : Cond.code yX5_take cX5_take 1 (some .boolean) ∈ TB := tbm (tq3 (List.mem_of_getElem? (i := 130) (rfl))) (by decide +kernel)
theorem wi_X5_take : Cond.instanceMethod yX5_take ∈ TB := tbm (tq3 (List.mem_of_getElem? (i := 129) (by decide +kernel))) (by decide +kernel)
theorem ws_X5_take : Cond.selects RX5 yX5_take yX5_take ∈ TB := tbm (tq0 (List.mem_of_getElem? (i := 12) (by decide +kernel))) (by decide +kernel)
theorem mi_X5_take : MI yX5_take cX5_take 1 (some .boolean) 0 := ⟨wc_X5_take, wn_X5, ⟨by decide +kernel, by decide +kernel, by decide +kernel⟩, wi_X5_take, ws_X5_take⟩
theorem dX5_readSaying_73 : decode cX5_readSaying 73 = .ok (.ifCond .ne 5, 3) := by decide +kernel
theorem dX5_readSaying_78 : decode cX5_readSaying 78 = .ok (.iload_n 3, 1) := by decide +kernel
theorem dX5_readSaying_79 : decode cX5_readSaying 79 = .ok (.iconst 5, 1) := by decide +kernel
theorem dX5_readSaying_80 : decode cX5_readSaying 80 = .ok (.if_icmp .lt 31, 3) := by decide +kernel
theorem dX5_readSaying_111 : decode cX5_readSaying 111 = .ok (.aload_n 0, 1) := by decide +kernel
theorem dX5_readSaying_112 : decode cX5_readSaying 112 = .ok (.getfield 18, 3) := by decide +kernel
theorem wf_X5_18 : Cond.fieldLink RX5 18 RX5 "ops" "[I" ∈ TB := tbm (tq1 (List.mem_of_getElem? (i := 100) (by decide +kernel))) (by decide +kernel)
theorem fg_X5_18 : FG RX5 18 5 1 := ⟨RX5, TX5, 10, uw_X5, wf_X5_18, rfl, by decide, rfl⟩
theorem dX5_readSaying_115 : decode cX5_readSaying 115 = .ok (.iload_n 2, 1) := by decide +kernel
theorem dX5_readSaying_116 : decode cX5_readSaying 116 = .ok (.iload_n 3, 1) := by decide +kernel
theorem dX5_readSaying_117 : decode cX5_readSaying 117 = .ok (.iastore, 1) := by decide +kernel
theorem dX5_readSaying_118 : decode cX5_readSaying 118 = .ok (.aload_n 0, 1) := by decide +kernel
theorem dX5_readSaying_119 : decode cX5_readSaying 119 = .ok (.getfield 22, 3) := by decide +kernel
theorem wf_X5_22 : Cond.fieldLink RX5 22 RX5 "args" "[I" ∈ TB := tbm (tq1 (List.mem_of_getElem? (i := 101) (by decide +kernel))) (by decide +kernel)
theorem fg_X5_22 : FG RX5 22 5 2 := ⟨RX5, TX5, 10, uw_X5, wf_X5_22, rfl, by decide, rfl⟩
theorem dX5_readSaying_122 : decode cX5_readSaying 122 = .ok (.iload_n 2, 1) := by decide +kernel
theorem dX5_readSaying_123 : decode cX5_readSaying 123 = .ok (.iload 4, 2) := by decide +kernel
theorem dX5_readSaying_125 : decode cX5_readSaying 125 = .ok (.iastore, 1) := by decide +kernel
theorem dX5_readSaying_126 : decode cX5_readSaying 126 = .ok (.aload_n 0, 1) := by decide +kernel
theorem dX5_readSaying_127 : decode cX5_readSaying 127 = .ok (.iload_n 2, 1) := by decide +kernel
theorem dX5_readSaying_128 : decode cX5_readSaying 128 = .ok (.iconst 1, 1) := by decide +kernel
theorem dX5_readSaying_129 : decode cX5_readSaying 129 = .ok (.iadd, 1) := by decide +kernel
theorem dX5_readSaying_130 : decode cX5_readSaying 130 = .ok (.putfield 31, 3) := by decide +kernel
theorem wf_X5_31 : Cond.fieldLink RX5 31 RX5 "nodes" "I" ∈ TB := tbm (tq1 (List.mem_of_getElem? (i := 104) (by decide +kernel))) (by decide +kernel)
theorem fp_X5_31 : FP RX5 31 5 5 .int false := ⟨RX5, TX5, 10, tyX5, uw_X5, wf_X5_31, rfl, by decide, rfl, tyX5_ok, nmX5, rfl, by decide +kernel⟩
theorem dX5_readSaying_133 : decode cX5_readSaying 133 = .ok (.iload_n 1, 1) := by decide +kernel
theorem dX5_readSaying_134 : decode cX5_readSaying 134 = .ok (.iload_n 3, 1) := by decide +kernel
theorem dX5_readSaying_135 : decode cX5_readSaying 135 = .ok (.invokestatic 104, 3) := by decide +kernel
theorem dX5_readSaying_138 : decode cX5_readSaying 138 = .ok (.iconst 1, 1) := by decide +kernel
theorem dX5_readSaying_139 : decode cX5_readSaying 139 = .ok (.isub, 1) := by decide +kernel
theorem dX5_readSaying_140 : decode cX5_readSaying 140 = .ok (.iadd, 1) := by decide +kernel
theorem dX5_readSaying_141 : decode cX5_readSaying 141 = .ok (.istore_n 1, 1) := by decide +kernel
theorem dX5_readSaying_142 : decode cX5_readSaying 142 = .ok (.iinc 2 1, 3) := by decide +kernel
theorem dX5_readSaying_145 : decode cX5_readSaying 145 = .ok (.goto (-141), 3) := by decide +kernel
theorem dX5_readSaying_83 : decode cX5_readSaying 83 = .ok (.aload_n 0, 1) := by decide +kernel
theorem dX5_readSaying_84 : decode cX5_readSaying 84 = .ok (.iload 5, 2) := by decide +kernel
theorem dX5_readSaying_86 : decode cX5_readSaying 86 = .ok (.invokevirtual 100, 3) := by decide +kernel
theorem wl_X5_100 : Cond.methodLink RX5 100 yX5_knowers ∈ TB := tbm (tq3 (List.mem_of_getElem? (i := 131) (by decide +kernel))) (by decide +kernel)
theorem wc_X5_knowers : Cond.code yX5_knowers cX5_knowers 3 (some .int) ∈ TB := tbm (tq3 (List.mem_of_getElem? (i := 134) (rfl))) (by decide +kernel)
theorem wi_X5_knowers : Cond.instanceMethod yX5_knowers ∈ TB := tbm (tq3 (List.mem_of_getElem? (i := 133) (by decide +kernel))) (by decide +kernel)
theorem ws_X5_knowers : Cond.selects RX5 yX5_knowers yX5_knowers ∈ TB := tbm (tq0 (List.mem_of_getElem? (i := 13) (by decide +kernel))) (by decide +kernel)
theorem mi_X5_knowers : MI yX5_knowers cX5_knowers 3 (some .int) 1 := ⟨wc_X5_knowers, wn_X5, ⟨by decide +kernel, by decide +kernel, by decide +kernel⟩, wi_X5_knowers, ws_X5_knowers⟩
theorem dX5_readSaying_89 : decode cX5_readSaying 89 = .ok (.istore 4, 2) := by decide +kernel
theorem dX5_readSaying_91 : decode cX5_readSaying 91 = .ok (.iload 4, 2) := by decide +kernel
theorem dX5_readSaying_93 : decode cX5_readSaying 93 = .ok (.ifCond .ne 9, 3) := by decide +kernel
theorem dX5_readSaying_102 : decode cX5_readSaying 102 = .ok (.aload_n 0, 1) := by decide +kernel
theorem dX5_readSaying_103 : decode cX5_readSaying 103 = .ok (.invokevirtual 97, 3) := by decide +kernel
theorem dX5_readSaying_106 : decode cX5_readSaying 106 = .ok (.ifCond .ne 5, 3) := by decide +kernel
theorem dX5_readSaying_109 : decode cX5_readSaying 109 = .ok (.iconst 0, 1) := by decide +kernel
theorem dX5_readSaying_110 : decode cX5_readSaying 110 = .ok (.ireturn, 1) := by decide +kernel
theorem dX5_readSaying_96 : decode cX5_readSaying 96 = .ok (.aload_n 0, 1) := by decide +kernel
theorem dX5_readSaying_97 : decode cX5_readSaying 97 = .ok (.iconst 2, 1) := by decide +kernel
theorem dX5_readSaying_98 : decode cX5_readSaying 98 = .ok (.invokevirtual 63, 3) := by decide +kernel
theorem dX5_readSaying_101 : decode cX5_readSaying 101 = .ok (.ireturn, 1) := by decide +kernel
theorem dX5_readSaying_76 : decode cX5_readSaying 76 = .ok (.iconst 0, 1) := by decide +kernel
theorem dX5_readSaying_77 : decode cX5_readSaying 77 = .ok (.ireturn, 1) := by decide +kernel
theorem dX5_readSaying_57 : decode cX5_readSaying 57 = .ok (.iload_n 3, 1) := by decide +kernel
theorem dX5_readSaying_58 : decode cX5_readSaying 58 = .ok (.iconst 5, 1) := by decide +kernel
theorem dX5_readSaying_59 : decode cX5_readSaying 59 = .ok (.if_icmp .ne 7, 3) := by decide +kernel
theorem dX5_readSaying_66 : decode cX5_readSaying 66 = .ok (.iconst 0, 1) := by decide +kernel
theorem dX5_readSaying_35 : decode cX5_readSaying 35 = .ok (.aload_n 0, 1) := by decide +kernel
theorem dX5_readSaying_36 : decode cX5_readSaying 36 = .ok (.invokevirtual 92, 3) := by decide +kernel
theorem dX5_readSaying_39 : decode cX5_readSaying 39 = .ok (.goto 4, 3) := by decide +kernel
set_option maxRecDepth 100000 in
set_option maxHeartbeats 4000000 in
theorem q_readSaying (l : Launch) (E : EV) (ro : va_W) (qs : Nat) (qt : Nat) (po : Nat) (pa : Nat) (pf : Nat) (pd : Nat) (an : Int32) (wr : Int32) (pl : Int32) (tb : Nat) (tl : Nat) (ta : Nat) (tk : Nat) (ts : Nat) (fb : Nat → Int32) (fo : Nat → Int32) (fa : Nat → Int32) (hts : ts ≤ ta) (hta : ta ≤ tl) (htl : tl ≤ 160) (htk : tk ≤ 3) (hs9 : tk = 2 → ts < ta) (hfg : FG2 tk fb ts) : CT l yX5_readSaying (Cond.code yX5_readSaying cX5_readSaying 6 (some .boolean) :: TB) ({ frames := 7, cells := 0, slots := 0, locals := 147 }) E ro [.ref qs] [(qs, .inr (5, [.ref qt, .ref po, .ref pa, .ref pf, .ref pd, .int 0, .int 0, .int an, .int wr, .int pl])), (qt, .inr (10, [.ref tb, .int (nI tl), .int (nI ta), .int (nI tk), .int (nI ts)])), (tb, .inl (E.2.1 0, 160, .inl fb)), (po, .inl (E.2.1 1, 32, .inl fo)), (pa, .inl (E.2.1 1, 32, .inl fa))] (Qi E (fun (rz : Int32) uz => (∃ (ta2 : Nat) (tk2 : Nat) (ts2 : Nat) (nn : Nat) (tn2 : Nat) (fo2 : Nat → Int32) (fa2 : Nat → Int32), rz = 1 ∧ uz = [(qs, .inr (5, [.ref qt, .ref po, .ref pa, .ref pf, .ref pd, .int (nI nn), .int (nI tn2), .int an, .int wr, .int pl])), (qt, .inr (10, [.ref tb, .int (nI tl), .int (nI ta2), .int (nI tk2), .int (nI ts2)])), (tb, .inl (E.2.1 0, 160, .inl fb)), (po, .inl (E.2.1 1, 32, .inl fo2)), (pa, .inl (E.2.1 1, 32, .inl fa2))] ∧ (ts2 ≤ ta2) ∧ (ta2 ≤ tl) ∧ (tk2 ≤ 3) ∧ (tk2 = 2 → ts2 < ta2) ∧ (FG2 tk2 fb ts2) ∧ (tn2 ≤ 32) ∧ (WFs nn fo2)) ∨ (∃ (ta2 : Nat) (tk2 : Nat) (ts2 : Nat) (nd2 : Int32) (tn2 : Int32) (wr2 : Int32) (pl2 : Int32) (fo2 : Nat → Int32) (fa2 : Nat → Int32), rz = 0 ∧ uz = [(qs, .inr (5, [.ref qt, .ref po, .ref pa, .ref pf, .ref pd, .int nd2, .int tn2, .int an, .int wr2, .int pl2])), (qt, .inr (10, [.ref tb, .int (nI tl), .int (nI ta2), .int (nI tk2), .int (nI ts2)])), (tb, .inl (E.2.1 0, 160, .inl fb)), (po, .inl (E.2.1 1, 32, .inl fo2)), (pa, .inl (E.2.1 1, 32, .inl fa2))] ∧ (ts2 ≤ ta2) ∧ (ta2 ≤ tl) ∧ (tk2 ≤ 3) ∧ (tk2 = 2 → ts2 < ta2) ∧ (FG2 tk2 fb ts2)))) 0 0 := by
  refine ct_of rfl rfl ?_
  intro X C hT hin hro
  show WW X 6 E 0 [(0, .ref qs)] [] [(qs, .inr (5, [.ref qt, .ref po, .ref pa, .ref pf, .ref pd, .int 0, .int 0, .int an, .int wr, .int pl])), (qt, .inr (10, [.ref tb, .int (nI tl), .int (nI ta), .int (nI tk), .int (nI ts)])), (tb, .inl (E.2.1 0, 160, .inl fb)), (po, .inl (E.2.1 1, 32, .inl fo)), (pa, .inl (E.2.1 1, 32, .inl fa))] 0 0
  refine ww_iconst (v := 1) C dX5_readSaying_0 rfl ?_
  refine ww_istore_n (lv' := [(1, .int 1), (0, .ref qs)]) C dX5_readSaying_1 rfl rfl rfl ?_
  refine ww_iconst (v := 0) C dX5_readSaying_2 rfl ?_
  refine ww_istore_n (lv' := [(2, .int 0), (1, .int 1), (0, .ref qs)]) C dX5_readSaying_3 rfl rfl rfl ?_
  have loop_4 : ∀ (fu : Nat) (n1 : Nat) (op1 : Nat) (tn1 : Nat) (ta1 : Nat) (tk1 : Nat) (ts1 : Nat) (fo1 : Nat → Int32) (fa1 : Nat → Int32), (n1 ≤ tn1) → (tn1 ≤ 32) → ((op1 : Int) = opn fo1 n1) → (OPV n1 fo1) → (n1 = 0 → op1 = 1) → (op1 ≤ n1 + 1) → (ts1 ≤ ta1) → (ta1 ≤ tl) → (tk1 ≤ 3) → (tk1 = 2 → ts1 < ta1) → (FG2 tk1 fb ts1) → 33 - n1 < fu → WW X 6 E 4 [(2, .int (nI n1)), (1, .int (nI op1)), (0, .ref qs)] [] [(qs, .inr (5, [.ref qt, .ref po, .ref pa, .ref pf, .ref pd, .int (nI n1), .int (nI tn1), .int an, .int wr, .int pl])), (qt, .inr (10, [.ref tb, .int (nI tl), .int (nI ta1), .int (nI tk1), .int (nI ts1)])), (tb, .inl (E.2.1 0, 160, .inl fb)), (po, .inl (E.2.1 1, 32, .inl fo1)), (pa, .inl (E.2.1 1, 32, .inl fa1))] 0 0 := by
    intro fu
    induction fu with
    | zero => intro n1 op1 tn1 ta1 tk1 ts1 fo1 fa1 hn1 htn1 hop1 hopv hn0 hopb hts1 hta1 htk1 hs91 hfg1 hmeas; exact absurd hmeas (Nat.not_lt_zero _)
    | succ fu ih_4 =>
      intro n1 op1 tn1 ta1 tk1 ts1 fo1 fa1 hn1 htn1 hop1 hopv hn0 hopb hts1 hta1 htk1 hs91 hfg1 hmeas
      refine ww_iload_n C dX5_readSaying_4 0 rfl rfl ?_
      refine ww_bipush (v := 32) C dX5_readSaying_5 rfl ?_
      refine ww_icmp_gt (tgt := 148) C dX5_readSaying_7 (by decide) (fun c_1 => ?_) (fun c_1 => ?_)
      · have zc_1 : ((n1 : Nat) : Int) > 32 := i_lt rfl (nI_toInt (n := n1) (by omega)) c_1
        refine ww_iconst (v := 1) C dX5_readSaying_148 rfl ?_
        exact ww_zret (u := [(qs, .inr (5, [.ref qt, .ref po, .ref pa, .ref pf, .ref pd, .int (nI n1), .int (nI tn1), .int an, .int wr, .int pl])), (qt, .inr (10, [.ref tb, .int (nI tl), .int (nI ta1), .int (nI tk1), .int (nI ts1)])), (tb, .inl (E.2.1 0, 160, .inl fb)), (po, .inl (E.2.1 1, 32, .inl fo1)), (pa, .inl (E.2.1 1, 32, .inl fa1))]) C hT [0, 1, 2, 3, 4] rfl rfl rfl rfl rfl dX5_readSaying_149 (Or.inl ⟨ta1, tk1, ts1, n1, tn1, fo1, fa1, rfl, rfl, (by first | assumption | omega | decide), (by first | assumption | omega | decide), (by first | assumption | omega | decide), (by omega), hfg1, (by first | assumption | omega | decide), (OPV.wf hopv (by omega) (by omega) (by omega))⟩)
      · have zc_1 : ((n1 : Nat) : Int) ≤ 32 := i_nlt rfl (nI_toInt (n := n1) (by omega)) c_1
        refine ww_iload_n C dX5_readSaying_10 1 rfl rfl ?_
        refine ww_if_le (tgt := 148) C dX5_readSaying_11 (by decide) (fun c_2 => ?_) (fun c_2 => ?_)
        · have zc_2 : ((op1 : Nat) : Int) ≤ 0 := i_le (nI_toInt (n := op1) (by omega)) rfl c_2
          refine ww_iconst (v := 1) C dX5_readSaying_148 rfl ?_
          exact ww_zret (u := [(qs, .inr (5, [.ref qt, .ref po, .ref pa, .ref pf, .ref pd, .int (nI n1), .int (nI tn1), .int an, .int wr, .int pl])), (qt, .inr (10, [.ref tb, .int (nI tl), .int (nI ta1), .int (nI tk1), .int (nI ts1)])), (tb, .inl (E.2.1 0, 160, .inl fb)), (po, .inl (E.2.1 1, 32, .inl fo1)), (pa, .inl (E.2.1 1, 32, .inl fa1))]) C hT [0, 1, 2, 3, 4] rfl rfl rfl rfl rfl dX5_readSaying_149 (Or.inl ⟨ta1, tk1, ts1, n1, tn1, fo1, fa1, rfl, rfl, (by first | assumption | omega | decide), (by first | assumption | omega | decide), (by first | assumption | omega | decide), (by omega), hfg1, (by first | assumption | omega | decide), (OPV.wf hopv (by omega) (by omega) (by omega))⟩)
        · have zc_2 : ((op1 : Nat) : Int) > 0 := i_nle (nI_toInt (n := op1) (by omega)) rfl c_2
          refine ww_aload_n C dX5_readSaying_14 2 rfl rfl ?_
          refine ww_ci (wr := [(po, .inl (E.2.1 1, 32, .inl fo1)), (pa, .inl (E.2.1 1, 32, .inl fa1))]) (k' := 0) (n' := 0) C (run_V (As := []) (rest := []) C (q_opOfName X.2.1 E ro qs qt po pa pf pd (nI n1) (nI tn1) an wr pl tb tl ta1 tk1 ts1 fb (by omega) (by omega) (by omega) (by omega) (by omega) hfg1) mi_X5_opOfName wl_X5_89 rfl 0 5 rfl rfl rfl rfl rfl dX5_readSaying_15) (roK hro) [0, 1, 2] [3, 4] rfl rfl rfl rfl (fun r_3 uz hw => ?_)
          rcases hw with hw | hw
          · refine an1 hw ?_
            clear hw
            intro he_4 hw
            have he_5 := hw
            clear hw
            have he_4 := he_4.symm
            subst he_4
            subst he_5
            refine ww_eq (ws' := [(po, .inl (E.2.1 1, 32, .inl fo1)), (pa, .inl (E.2.1 1, 32, .inl fa1)), (qs, .inr (5, [.ref qt, .ref po, .ref pa, .ref pf, .ref pd, .int (nI n1), .int (nI tn1), .int an, .int wr, .int pl])), (qt, .inr (10, [.ref tb, .int (nI tl), .int (nI ta1), .int (nI tk1), .int (nI ts1)])), (tb, .inl (E.2.1 0, 160, .inl fb))]) ?_ rfl rfl rfl
            refine ww_istore_n (lv' := [(3, .int (-4)), (2, .int (nI n1)), (1, .int (nI op1)), (0, .ref qs)]) C dX5_readSaying_18 rfl rfl rfl ?_
            refine ww_iload_n C dX5_readSaying_19 0 rfl rfl ?_
            refine ww_bipush (v := (-4)) C dX5_readSaying_20 rfl ?_
            refine ww_icmp_ne_f (tgt := 31) C dX5_readSaying_22 (by decide) (rfl) ?_
            refine ww_aload_n C dX5_readSaying_25 3 rfl rfl ?_
            refine ww_iconst (v := 2) C dX5_readSaying_26 rfl ?_
            refine ww_ci (wr := [(po, .inl (E.2.1 1, 32, .inl fo1)), (pa, .inl (E.2.1 1, 32, .inl fa1)), (tb, .inl (E.2.1 0, 160, .inl fb))]) (k' := 0) (n' := 0) C (run_V (As := [.int 2]) (rest := []) C (q_fail X.2.1 E ro qs 2 qt po pa pf pd (nI n1) (nI tn1) an wr pl tb tl (nI ta1) tk1 ts1 (by omega)) mi_X5_fail wl_X5_63 rfl 0 5 rfl rfl rfl rfl rfl dX5_readSaying_27) (roK hro) [2, 3] [0, 1, 4] rfl rfl rfl rfl (fun r_9 uz hw => ?_)
            refine an1 hw ?_
            clear hw
            intro he_10 hw
            have he_11 := hw
            clear hw
            have he_10 := he_10.symm
            subst he_10
            subst he_11
            refine ww_eq (ws' := [(po, .inl (E.2.1 1, 32, .inl fo1)), (pa, .inl (E.2.1 1, 32, .inl fa1)), (tb, .inl (E.2.1 0, 160, .inl fb)), (qs, .inr (5, [.ref qt, .ref po, .ref pa, .ref pf, .ref pd, .int (nI n1), .int (nI tn1), .int an, .int 2, .int (nI ts1)])), (qt, .inr (10, [.ref tb, .int (nI tl), .int (nI ta1), .int (nI tk1), .int (nI ts1)]))]) ?_ rfl rfl rfl
            exact ww_zret (u := [(qs, .inr (5, [.ref qt, .ref po, .ref pa, .ref pf, .ref pd, .int (nI n1), .int (nI tn1), .int an, .int 2, .int (nI ts1)])), (qt, .inr (10, [.ref tb, .int (nI tl), .int (nI ta1), .int (nI tk1), .int (nI ts1)])), (tb, .inl (E.2.1 0, 160, .inl fb)), (po, .inl (E.2.1 1, 32, .inl fo1)), (pa, .inl (E.2.1 1, 32, .inl fa1))]) C hT [3, 4, 2, 0, 1] rfl rfl rfl rfl rfl dX5_readSaying_30 (Or.inr ⟨ta1, tk1, ts1, (nI n1), (nI tn1), 2, (nI ts1), fo1, fa1, rfl, rfl, (by first | assumption | omega | decide), (by first | assumption | omega | decide), (by first | assumption | omega | decide), (by omega), hfg1⟩)
          · refine an2 hw ?_
            clear hw
            intro he_8 h_6 hw
            have h_7 := hw
            clear hw
            subst he_8
            refine ww_eq (ws' := [(po, .inl (E.2.1 1, 32, .inl fo1)), (pa, .inl (E.2.1 1, 32, .inl fa1)), (qs, .inr (5, [.ref qt, .ref po, .ref pa, .ref pf, .ref pd, .int (nI n1), .int (nI tn1), .int an, .int wr, .int pl])), (qt, .inr (10, [.ref tb, .int (nI tl), .int (nI ta1), .int (nI tk1), .int (nI ts1)])), (tb, .inl (E.2.1 0, 160, .inl fb))]) ?_ rfl rfl rfl
            refine ww_istore_n (lv' := [(3, .int r_3), (2, .int (nI n1)), (1, .int (nI op1)), (0, .ref qs)]) C dX5_readSaying_18 rfl rfl rfl ?_
            refine ww_iload_n C dX5_readSaying_19 0 rfl rfl ?_
            refine ww_bipush (v := (-4)) C dX5_readSaying_20 rfl ?_
            refine ww_icmp_ne (tgt := 31) C dX5_readSaying_22 (by decide) (fun c_12 => ?_) (fun c_12 => ?_)
            · have zc_12 : r_3.toInt ≠ (-4) := i_ne rfl rfl c_12
              refine ww_iload_n C dX5_readSaying_31 0 rfl rfl ?_
              refine ww_if_ne (tgt := 42) C dX5_readSaying_32 (by decide) (fun c_13 => ?_) (fun c_13 => ?_)
              · have zc_13 : r_3.toInt ≠ 0 := i_ne rfl rfl c_13
                refine ww_iconst (v := 0) C dX5_readSaying_42 rfl ?_
                refine ww_istore (lv' := [(4, .int 0), (3, .int r_3), (2, .int (nI n1)), (1, .int (nI op1)), (0, .ref qs)]) C dX5_readSaying_43 rfl rfl ?_
                refine ww_aload_n C dX5_readSaying_45 4 rfl rfl ?_
                refine ww_get C fg_X5_12 2 rfl rfl dX5_readSaying_46 ?_
                refine ww_ldcS (tx := "know") C (List.mem_of_getElem? (i := 9) rfl) rfl dX5_readSaying_49 ?_
                refine ww_ci (wr := [(po, .inl (E.2.1 1, 32, .inl fo1)), (pa, .inl (E.2.1 1, 32, .inl fa1)), (qs, .inr (5, [.ref qt, .ref po, .ref pa, .ref pf, .ref pd, .int (nI n1), .int (nI tn1), .int an, .int wr, .int pl]))]) (k' := 0) (n' := 0) C (run_V (As := [.ref (E.2.2 95)]) (rest := []) C (t_isName X.2.1 E ro qt tb tl ta1 tk1 ts1 fb 9 (by decide) (by omega) (by omega) (by omega) (by omega)) mi_X10_isName wl_X5_78 rfl 0 10 rfl rfl rfl rfl rfl dX5_readSaying_51) (roK hro) [3, 4] [0, 1, 2] rfl rfl rfl rfl (fun r_14 uz hw => ?_)
                rcases hw with hw | hw
                · refine an1 hw ?_
                  clear hw
                  intro he_15 hw
                  have he_16 := hw
                  clear hw
                  have he_15 := he_15.symm
                  subst he_15
                  subst he_16
                  refine ww_eq (ws' := [(po, .inl (E.2.1 1, 32, .inl fo1)), (pa, .inl (E.2.1 1, 32, .inl fa1)), (qs, .inr (5, [.ref qt, .ref po, .ref pa, .ref pf, .ref pd, .int (nI n1), .int (nI tn1), .int an, .int wr, .int pl])), (qt, .inr (10, [.ref tb, .int (nI tl), .int (nI ta1), .int (nI tk1), .int (nI ts1)])), (tb, .inl (E.2.1 0, 160, .inl fb))]) ?_ rfl rfl rfl
                  refine ww_if_ne_t (tgt := 62) C dX5_readSaying_54 (by decide) (by decide) ?_
                  refine ww_iconst (v := 1) C dX5_readSaying_62 rfl ?_
                  refine ww_goto (tgt := 67) C dX5_readSaying_63 (by decide) ?_
                  refine ww_istore (lv' := [(5, .int 1), (4, .int 0), (3, .int r_3), (2, .int (nI n1)), (1, .int (nI op1)), (0, .ref qs)]) C dX5_readSaying_67 rfl rfl ?_
                  refine ww_aload_n C dX5_readSaying_69 5 rfl rfl ?_
                  refine ww_ci (wr := [(po, .inl (E.2.1 1, 32, .inl fo1)), (pa, .inl (E.2.1 1, 32, .inl fa1))]) (k' := 0) (n' := 0) C (run_V (As := []) (rest := []) C (q_take X.2.1 E ro qs qt po pa pf pd (nI n1) tn1 an wr pl tb tl ta1 tk1 ts1 fb (by omega) (by omega) (by omega) (by omega) (by omega) hfg1 (by omega)) mi_X5_take wl_X5_97 rfl 0 5 rfl rfl rfl rfl rfl dX5_readSaying_70) (roK hro) [2, 3, 4] [0, 1] rfl rfl rfl rfl (fun r_19 uz hw => ?_)
                  rcases hw with hw | hw
                  · refine ex3 hw ?_
                    clear hw
                    intro ta2_20 tk2_21 ts2_22 hw
                    refine an7 hw ?_
                    clear hw
                    intro he_29 he_30 h_23 h_24 h_25 h_26 h_27 hw
                    have h_28 := hw
                    clear hw
                    have he_29 := he_29.symm
                    subst he_29
                    subst he_30
                    refine ww_eq (ws' := [(po, .inl (E.2.1 1, 32, .inl fo1)), (pa, .inl (E.2.1 1, 32, .inl fa1)), (qs, .inr (5, [.ref qt, .ref po, .ref pa, .ref pf, .ref pd, .int (nI n1), .int (nI (tn1 + 1)), .int an, .int wr, .int pl])), (qt, .inr (10, [.ref tb, .int (nI tl), .int (nI ta2_20), .int (nI tk2_21), .int (nI ts2_22)])), (tb, .inl (E.2.1 0, 160, .inl fb))]) ?_ rfl rfl rfl
                    refine ww_if_ne_t (tgt := 78) C dX5_readSaying_73 (by decide) (by decide) ?_
                    refine ww_iload_n C dX5_readSaying_78 2 rfl rfl ?_
                    refine ww_iconst (v := 5) C dX5_readSaying_79 rfl ?_
                    refine ww_icmp_lt (tgt := 111) C dX5_readSaying_80 (by decide) (fun c_44 => ?_) (fun c_44 => ?_)
                    · have zc_44 : r_3.toInt < 5 := i_lt rfl rfl c_44
                      refine ww_aload_n C dX5_readSaying_111 5 rfl rfl ?_
                      refine ww_get C fg_X5_18 2 rfl rfl dX5_readSaying_112 ?_
                      refine ww_iload_n C dX5_readSaying_115 3 rfl rfl ?_
                      refine ww_iload_n C dX5_readSaying_116 2 rfl rfl ?_
                      obtain ⟨f_45, ef_45⟩ : ∃ z : Nat → Int32, upd fo1 n1 r_3 = z := ⟨_, rfl⟩
                      refine ww_iast (ws' := [(po, .inl (E.2.1 1, 32, .inl f_45)), (pa, .inl (E.2.1 1, 32, .inl fa1)), (qs, .inr (5, [.ref qt, .ref po, .ref pa, .ref pf, .ref pd, .int (nI n1), .int (nI (tn1 + 1)), .int an, .int wr, .int pl])), (qt, .inr (10, [.ref tb, .int (nI tl), .int (nI ta2_20), .int (nI tk2_21), .int (nI ts2_22)])), (tb, .inl (E.2.1 0, 160, .inl fb))]) C 0 rfl (vp_in_nI (by omega) (by omega)) (ldn2 (by omega) ef_45) rfl dX5_readSaying_117 ?_
                      refine ww_aload_n C dX5_readSaying_118 5 rfl rfl ?_
                      refine ww_get C fg_X5_22 2 rfl rfl dX5_readSaying_119 ?_
                      refine ww_iload_n C dX5_readSaying_122 3 rfl rfl ?_
                      refine ww_iload C dX5_readSaying_123 1 rfl ?_
                      obtain ⟨f_46, ef_46⟩ : ∃ z : Nat → Int32, upd fa1 n1 0 = z := ⟨_, rfl⟩
                      refine ww_iast (ws' := [(po, .inl (E.2.1 1, 32, .inl f_45)), (pa, .inl (E.2.1 1, 32, .inl f_46)), (qs, .inr (5, [.ref qt, .ref po, .ref pa, .ref pf, .ref pd, .int (nI n1), .int (nI (tn1 + 1)), .int an, .int wr, .int pl])), (qt, .inr (10, [.ref tb, .int (nI tl), .int (nI ta2_20), .int (nI tk2_21), .int (nI ts2_22)])), (tb, .inl (E.2.1 0, 160, .inl fb))]) C 1 rfl (vp_in_nI (by omega) (by omega)) (ldn2 (by omega) ef_46) rfl dX5_readSaying_125 ?_
                      refine ww_aload_n C dX5_readSaying_126 5 rfl rfl ?_
                      refine ww_iload_n C dX5_readSaying_127 3 rfl rfl ?_
                      refine ww_iconst (v := 1) C dX5_readSaying_128 rfl ?_
                      refine ww_iadd (v := (nI (n1 + 1))) C dX5_readSaying_129 (nI_add n1 1) ?_
                      refine ww_put (ws' := [(po, .inl (E.2.1 1, 32, .inl f_45)), (pa, .inl (E.2.1 1, 32, .inl f_46)), (qs, .inr (5, [.ref qt, .ref po, .ref pa, .ref pf, .ref pd, .int (nI (n1 + 1)), .int (nI (tn1 + 1)), .int an, .int wr, .int pl])), (qt, .inr (10, [.ref tb, .int (nI tl), .int (nI ta2_20), .int (nI tk2_21), .int (nI ts2_22)])), (tb, .inl (E.2.1 0, 160, .inl fb))]) C fp_X5_31 2 rfl rfl rfl rfl rfl dX5_readSaying_130 ?_
                      refine ww_iload_n C dX5_readSaying_133 4 rfl rfl ?_
                      refine ww_iload_n C dX5_readSaying_134 2 rfl rfl ?_
                      refine ww_ci (wr := [(po, .inl (E.2.1 1, 32, .inl f_45)), (pa, .inl (E.2.1 1, 32, .inl f_46)), (qs, .inr (5, [.ref qt, .ref po, .ref pa, .ref pf, .ref pd, .int (nI (n1 + 1)), .int (nI (tn1 + 1)), .int an, .int wr, .int pl])), (qt, .inr (10, [.ref tb, .int (nI tl), .int (nI ta2_20), .int (nI tk2_21), .int (nI ts2_22)])), (tb, .inl (E.2.1 0, 160, .inl fb))]) (k' := 0) (n' := 0) C (run_SN (As := [.int r_3]) (rest := [.int (nI op1)]) C (c_under X.2.1 E ro r_3) ms_X11_under (List.mem_of_getElem? (i := 14) rfl) rfl rfl rfl rfl dX5_readSaying_135) (roK hro) [] [0, 1, 2, 3, 4] rfl rfl rfl rfl (fun r_47 uz hw => ?_)
                      rcases hw with hw | hw | hw
                      · refine an2 hw ?_
                        clear hw
                        intro he_49 he_50 hw
                        have h_48 := hw
                        clear hw
                        have he_49 := he_49.symm
                        subst he_49
                        subst he_50
                        refine ww_eq (ws' := [(po, .inl (E.2.1 1, 32, .inl f_45)), (pa, .inl (E.2.1 1, 32, .inl f_46)), (qs, .inr (5, [.ref qt, .ref po, .ref pa, .ref pf, .ref pd, .int (nI (n1 + 1)), .int (nI (tn1 + 1)), .int an, .int wr, .int pl])), (qt, .inr (10, [.ref tb, .int (nI tl), .int (nI ta2_20), .int (nI tk2_21), .int (nI ts2_22)])), (tb, .inl (E.2.1 0, 160, .inl fb))]) ?_ rfl rfl rfl
                        have hun := uN_a0 (x := r_3) (by assumption)
                        have hov := OPV.ext hopv ef_45 (by omega) (by omega) (by omega)
                        have hov2 := hov.2
                        refine ww_iconst (v := 1) C dX5_readSaying_138 rfl ?_
                        refine ww_isub (v := (-1)) C dX5_readSaying_139 (by decide) ?_
                        refine ww_iadd (v := (nI (op1 - 1))) C dX5_readSaying_140 (nI_subc (a := op1) (c := 1) (by omega) rfl) ?_
                        refine ww_istore_n (lv' := [(1, .int (nI (op1 - 1))), (5, .int 1), (4, .int 0), (3, .int r_3), (2, .int (nI n1)), (0, .ref qs)]) C dX5_readSaying_141 rfl rfl rfl ?_
                        refine ww_iinc (j := 4) (v := (nI (n1 + 1))) (lv' := [(2, .int (nI (n1 + 1))), (1, .int (nI (op1 - 1))), (5, .int 1), (4, .int 0), (3, .int r_3), (0, .ref qs)]) C dX5_readSaying_142 rfl (nI_add n1 1) rfl rfl ?_
                        refine ww_goto (tgt := 4) C dX5_readSaying_145 (by decide) ?_
                        exact ww_lv [0, 1, 5] rfl (ww_sub [2, 3, 4, 0, 1] rfl rfl (ih_4 (n1 + 1) (op1 - 1) (tn1 + 1) ta2_20 tk2_21 ts2_22 f_45 f_46 (by omega) (by omega) (by omega) hov.1 (by omega) (by omega) (by omega) (by omega) (by omega) (by omega) h_27 (by omega)))
                      · refine an2 hw ?_
                        clear hw
                        intro he_52 he_53 hw
                        have h_51 := hw
                        clear hw
                        have he_52 := he_52.symm
                        subst he_52
                        subst he_53
                        refine ww_eq (ws' := [(po, .inl (E.2.1 1, 32, .inl f_45)), (pa, .inl (E.2.1 1, 32, .inl f_46)), (qs, .inr (5, [.ref qt, .ref po, .ref pa, .ref pf, .ref pd, .int (nI (n1 + 1)), .int (nI (tn1 + 1)), .int an, .int wr, .int pl])), (qt, .inr (10, [.ref tb, .int (nI tl), .int (nI ta2_20), .int (nI tk2_21), .int (nI ts2_22)])), (tb, .inl (E.2.1 0, 160, .inl fb))]) ?_ rfl rfl rfl
                        have hun := uN_a2 (x := r_3) (by assumption)
                        have hov := OPV.ext hopv ef_45 (by omega) (by omega) (by omega)
                        have hov2 := hov.2
                        refine ww_iconst (v := 1) C dX5_readSaying_138 rfl ?_
                        refine ww_isub (v := 1) C dX5_readSaying_139 (by decide) ?_
                        refine ww_iadd (v := (nI (op1 + 1))) C dX5_readSaying_140 (nI_add op1 1) ?_
                        refine ww_istore_n (lv' := [(1, .int (nI (op1 + 1))), (5, .int 1), (4, .int 0), (3, .int r_3), (2, .int (nI n1)), (0, .ref qs)]) C dX5_readSaying_141 rfl rfl rfl ?_
                        refine ww_iinc (j := 4) (v := (nI (n1 + 1))) (lv' := [(2, .int (nI (n1 + 1))), (1, .int (nI (op1 + 1))), (5, .int 1), (4, .int 0), (3, .int r_3), (0, .ref qs)]) C dX5_readSaying_142 rfl (nI_add n1 1) rfl rfl ?_
                        refine ww_goto (tgt := 4) C dX5_readSaying_145 (by decide) ?_
                        exact ww_lv [0, 1, 5] rfl (ww_sub [2, 3, 4, 0, 1] rfl rfl (ih_4 (n1 + 1) (op1 + 1) (tn1 + 1) ta2_20 tk2_21 ts2_22 f_45 f_46 (by omega) (by omega) (by omega) hov.1 (by omega) (by omega) (by omega) (by omega) (by omega) (by omega) h_27 (by omega)))
                      · refine an2 hw ?_
                        clear hw
                        intro he_55 he_56 hw
                        have h_54 := hw
                        clear hw
                        have he_55 := he_55.symm
                        subst he_55
                        subst he_56
                        refine ww_eq (ws' := [(po, .inl (E.2.1 1, 32, .inl f_45)), (pa, .inl (E.2.1 1, 32, .inl f_46)), (qs, .inr (5, [.ref qt, .ref po, .ref pa, .ref pf, .ref pd, .int (nI (n1 + 1)), .int (nI (tn1 + 1)), .int an, .int wr, .int pl])), (qt, .inr (10, [.ref tb, .int (nI tl), .int (nI ta2_20), .int (nI tk2_21), .int (nI ts2_22)])), (tb, .inl (E.2.1 0, 160, .inl fb))]) ?_ rfl rfl rfl
                        have hun := uN_a1 (x := r_3) (by assumption)
                        have hov := OPV.ext hopv ef_45 (by omega) (by omega) (by omega)
                        have hov2 := hov.2
                        refine ww_iconst (v := 1) C dX5_readSaying_138 rfl ?_
                        refine ww_isub (v := 0) C dX5_readSaying_139 (by decide) ?_
                        refine ww_iadd (v := (nI op1)) C dX5_readSaying_140 (nI_add op1 0) ?_
                        refine ww_istore_n (lv' := [(1, .int (nI op1)), (5, .int 1), (4, .int 0), (3, .int r_3), (2, .int (nI n1)), (0, .ref qs)]) C dX5_readSaying_141 rfl rfl rfl ?_
                        refine ww_iinc (j := 4) (v := (nI (n1 + 1))) (lv' := [(2, .int (nI (n1 + 1))), (1, .int (nI op1)), (5, .int 1), (4, .int 0), (3, .int r_3), (0, .ref qs)]) C dX5_readSaying_142 rfl (nI_add n1 1) rfl rfl ?_
                        refine ww_goto (tgt := 4) C dX5_readSaying_145 (by decide) ?_
                        exact ww_lv [0, 1, 5] rfl (ww_sub [2, 3, 4, 0, 1] rfl rfl (ih_4 (n1 + 1) op1 (tn1 + 1) ta2_20 tk2_21 ts2_22 f_45 f_46 (by omega) (by omega) (by omega) hov.1 (by omega) (by omega) (by omega) (by omega) (by omega) (by omega) h_27 (by omega)))
                    · have zc_44 : r_3.toInt ≥ 5 := i_nlt rfl rfl c_44
                      refine ww_aload_n C dX5_readSaying_83 5 rfl rfl ?_
                      refine ww_iload C dX5_readSaying_84 0 rfl ?_
                      refine ww_ci (wr := [(po, .inl (E.2.1 1, 32, .inl fo1)), (pa, .inl (E.2.1 1, 32, .inl fa1))]) (k' := 0) (n' := 0) C (run_V (As := [.int 1]) (rest := []) C (q_knowers X.2.1 E ro qs 1 qt po pa pf pd (nI n1) (nI (tn1 + 1)) an wr pl tb tl ta2_20 tk2_21 ts2_22 fb (by omega) (by omega) (by omega) (by omega) (by omega) h_27) mi_X5_knowers wl_X5_100 rfl 0 5 rfl rfl rfl rfl rfl dX5_readSaying_86) (roK hro) [2, 3, 4] [0, 1] rfl rfl rfl rfl (fun r_57 uz hw => ?_)
                      have he_58 := hw
                      clear hw
                      subst he_58
                      refine ww_eq (ws' := [(po, .inl (E.2.1 1, 32, .inl fo1)), (pa, .inl (E.2.1 1, 32, .inl fa1)), (qs, .inr (5, [.ref qt, .ref po, .ref pa, .ref pf, .ref pd, .int (nI n1), .int (nI (tn1 + 1)), .int an, .int wr, .int pl])), (qt, .inr (10, [.ref tb, .int (nI tl), .int (nI ta2_20), .int (nI tk2_21), .int (nI ts2_22)])), (tb, .inl (E.2.1 0, 160, .inl fb))]) ?_ rfl rfl rfl
                      refine ww_istore (lv' := [(4, .int r_57), (5, .int 1), (3, .int r_3), (2, .int (nI n1)), (1, .int (nI op1)), (0, .ref qs)]) C dX5_readSaying_89 rfl rfl ?_
                      refine ww_iload C dX5_readSaying_91 0 rfl ?_
                      refine ww_if_ne (tgt := 102) C dX5_readSaying_93 (by decide) (fun c_59 => ?_) (fun c_59 => ?_)
                      · have zc_59 : r_57.toInt ≠ 0 := i_ne rfl rfl c_59
                        refine ww_aload_n C dX5_readSaying_102 5 rfl rfl ?_
                        refine ww_ci (wr := [(po, .inl (E.2.1 1, 32, .inl fo1)), (pa, .inl (E.2.1 1, 32, .inl fa1))]) (k' := 0) (n' := 0) C (run_V (As := []) (rest := []) C (q_take X.2.1 E ro qs qt po pa pf pd (nI n1) (tn1 + 1) an wr pl tb tl ta2_20 tk2_21 ts2_22 fb (by omega) (by omega) (by omega) (by omega) (by omega) h_27 (by omega)) mi_X5_take wl_X5_97 rfl 0 5 rfl rfl rfl rfl rfl dX5_readSaying_103) (roK hro) [2, 3, 4] [0, 1] rfl rfl rfl rfl (fun r_60 uz hw => ?_)
                        rcases hw with hw | hw
                        · refine ex3 hw ?_
                          clear hw
                          intro ta2_61 tk2_62 ts2_63 hw
                          refine an7 hw ?_
                          clear hw
                          intro he_70 he_71 h_64 h_65 h_66 h_67 h_68 hw
                          have h_69 := hw
                          clear hw
                          have he_70 := he_70.symm
                          subst he_70
                          subst he_71
                          refine ww_eq (ws' := [(po, .inl (E.2.1 1, 32, .inl fo1)), (pa, .inl (E.2.1 1, 32, .inl fa1)), (qs, .inr (5, [.ref qt, .ref po, .ref pa, .ref pf, .ref pd, .int (nI n1), .int (nI ((tn1 + 1) + 1)), .int an, .int wr, .int pl])), (qt, .inr (10, [.ref tb, .int (nI tl), .int (nI ta2_61), .int (nI tk2_62), .int (nI ts2_63)])), (tb, .inl (E.2.1 0, 160, .inl fb))]) ?_ rfl rfl rfl
                          refine ww_if_ne_t (tgt := 111) C dX5_readSaying_106 (by decide) (by decide) ?_
                          refine ww_aload_n C dX5_readSaying_111 5 rfl rfl ?_
                          refine ww_get C fg_X5_18 2 rfl rfl dX5_readSaying_112 ?_
                          refine ww_iload_n C dX5_readSaying_115 3 rfl rfl ?_
                          refine ww_iload_n C dX5_readSaying_116 2 rfl rfl ?_
                          obtain ⟨f_85, ef_85⟩ : ∃ z : Nat → Int32, upd fo1 n1 r_3 = z := ⟨_, rfl⟩
                          refine ww_iast (ws' := [(po, .inl (E.2.1 1, 32, .inl f_85)), (pa, .inl (E.2.1 1, 32, .inl fa1)), (qs, .inr (5, [.ref qt, .ref po, .ref pa, .ref pf, .ref pd, .int (nI n1), .int (nI ((tn1 + 1) + 1)), .int an, .int wr, .int pl])), (qt, .inr (10, [.ref tb, .int (nI tl), .int (nI ta2_61), .int (nI tk2_62), .int (nI ts2_63)])), (tb, .inl (E.2.1 0, 160, .inl fb))]) C 0 rfl (vp_in_nI (by omega) (by omega)) (ldn2 (by omega) ef_85) rfl dX5_readSaying_117 ?_
                          refine ww_aload_n C dX5_readSaying_118 5 rfl rfl ?_
                          refine ww_get C fg_X5_22 2 rfl rfl dX5_readSaying_119 ?_
                          refine ww_iload_n C dX5_readSaying_122 3 rfl rfl ?_
                          refine ww_iload C dX5_readSaying_123 0 rfl ?_
                          obtain ⟨f_86, ef_86⟩ : ∃ z : Nat → Int32, upd fa1 n1 r_57 = z := ⟨_, rfl⟩
                          refine ww_iast (ws' := [(po, .inl (E.2.1 1, 32, .inl f_85)), (pa, .inl (E.2.1 1, 32, .inl f_86)), (qs, .inr (5, [.ref qt, .ref po, .ref pa, .ref pf, .ref pd, .int (nI n1), .int (nI ((tn1 + 1) + 1)), .int an, .int wr, .int pl])), (qt, .inr (10, [.ref tb, .int (nI tl), .int (nI ta2_61), .int (nI tk2_62), .int (nI ts2_63)])), (tb, .inl (E.2.1 0, 160, .inl fb))]) C 1 rfl (vp_in_nI (by omega) (by omega)) (ldn2 (by omega) ef_86) rfl dX5_readSaying_125 ?_
                          refine ww_aload_n C dX5_readSaying_126 5 rfl rfl ?_
                          refine ww_iload_n C dX5_readSaying_127 3 rfl rfl ?_
                          refine ww_iconst (v := 1) C dX5_readSaying_128 rfl ?_
                          refine ww_iadd (v := (nI (n1 + 1))) C dX5_readSaying_129 (nI_add n1 1) ?_
                          refine ww_put (ws' := [(po, .inl (E.2.1 1, 32, .inl f_85)), (pa, .inl (E.2.1 1, 32, .inl f_86)), (qs, .inr (5, [.ref qt, .ref po, .ref pa, .ref pf, .ref pd, .int (nI (n1 + 1)), .int (nI ((tn1 + 1) + 1)), .int an, .int wr, .int pl])), (qt, .inr (10, [.ref tb, .int (nI tl), .int (nI ta2_61), .int (nI tk2_62), .int (nI ts2_63)])), (tb, .inl (E.2.1 0, 160, .inl fb))]) C fp_X5_31 2 rfl rfl rfl rfl rfl dX5_readSaying_130 ?_
                          refine ww_iload_n C dX5_readSaying_133 4 rfl rfl ?_
                          refine ww_iload_n C dX5_readSaying_134 2 rfl rfl ?_
                          refine ww_ci (wr := [(po, .inl (E.2.1 1, 32, .inl f_85)), (pa, .inl (E.2.1 1, 32, .inl f_86)), (qs, .inr (5, [.ref qt, .ref po, .ref pa, .ref pf, .ref pd, .int (nI (n1 + 1)), .int (nI ((tn1 + 1) + 1)), .int an, .int wr, .int pl])), (qt, .inr (10, [.ref tb, .int (nI tl), .int (nI ta2_61), .int (nI tk2_62), .int (nI ts2_63)])), (tb, .inl (E.2.1 0, 160, .inl fb))]) (k' := 0) (n' := 0) C (run_SN (As := [.int r_3]) (rest := [.int (nI op1)]) C (c_under X.2.1 E ro r_3) ms_X11_under (List.mem_of_getElem? (i := 14) rfl) rfl rfl rfl rfl dX5_readSaying_135) (roK hro) [] [0, 1, 2, 3, 4] rfl rfl rfl rfl (fun r_87 uz hw => ?_)
                          rcases hw with hw | hw | hw
                          · refine an2 hw ?_
                            clear hw
                            intro he_89 he_90 hw
                            have h_88 := hw
                            clear hw
                            have he_89 := he_89.symm
                            subst he_89
                            subst he_90
                            refine ww_eq (ws' := [(po, .inl (E.2.1 1, 32, .inl f_85)), (pa, .inl (E.2.1 1, 32, .inl f_86)), (qs, .inr (5, [.ref qt, .ref po, .ref pa, .ref pf, .ref pd, .int (nI (n1 + 1)), .int (nI ((tn1 + 1) + 1)), .int an, .int wr, .int pl])), (qt, .inr (10, [.ref tb, .int (nI tl), .int (nI ta2_61), .int (nI tk2_62), .int (nI ts2_63)])), (tb, .inl (E.2.1 0, 160, .inl fb))]) ?_ rfl rfl rfl
                            have hun := uN_a0 (x := r_3) (by assumption)
                            have hov := OPV.ext hopv ef_85 (by omega) (by omega) (by omega)
                            have hov2 := hov.2
                            refine ww_iconst (v := 1) C dX5_readSaying_138 rfl ?_
                            refine ww_isub (v := (-1)) C dX5_readSaying_139 (by decide) ?_
                            refine ww_iadd (v := (nI (op1 - 1))) C dX5_readSaying_140 (nI_subc (a := op1) (c := 1) (by omega) rfl) ?_
                            refine ww_istore_n (lv' := [(1, .int (nI (op1 - 1))), (4, .int r_57), (5, .int 1), (3, .int r_3), (2, .int (nI n1)), (0, .ref qs)]) C dX5_readSaying_141 rfl rfl rfl ?_
                            refine ww_iinc (j := 4) (v := (nI (n1 + 1))) (lv' := [(2, .int (nI (n1 + 1))), (1, .int (nI (op1 - 1))), (4, .int r_57), (5, .int 1), (3, .int r_3), (0, .ref qs)]) C dX5_readSaying_142 rfl (nI_add n1 1) rfl rfl ?_
                            refine ww_goto (tgt := 4) C dX5_readSaying_145 (by decide) ?_
                            exact ww_lv [0, 1, 5] rfl (ww_sub [2, 3, 4, 0, 1] rfl rfl (ih_4 (n1 + 1) (op1 - 1) ((tn1 + 1) + 1) ta2_61 tk2_62 ts2_63 f_85 f_86 (by omega) (by omega) (by omega) hov.1 (by omega) (by omega) (by omega) (by omega) (by omega) (by omega) h_68 (by omega)))
                          · refine an2 hw ?_
                            clear hw
                            intro he_92 he_93 hw
                            have h_91 := hw
                            clear hw
                            have he_92 := he_92.symm
                            subst he_92
                            subst he_93
                            refine ww_eq (ws' := [(po, .inl (E.2.1 1, 32, .inl f_85)), (pa, .inl (E.2.1 1, 32, .inl f_86)), (qs, .inr (5, [.ref qt, .ref po, .ref pa, .ref pf, .ref pd, .int (nI (n1 + 1)), .int (nI ((tn1 + 1) + 1)), .int an, .int wr, .int pl])), (qt, .inr (10, [.ref tb, .int (nI tl), .int (nI ta2_61), .int (nI tk2_62), .int (nI ts2_63)])), (tb, .inl (E.2.1 0, 160, .inl fb))]) ?_ rfl rfl rfl
                            have hun := uN_a2 (x := r_3) (by assumption)
                            have hov := OPV.ext hopv ef_85 (by omega) (by omega) (by omega)
                            have hov2 := hov.2
                            refine ww_iconst (v := 1) C dX5_readSaying_138 rfl ?_
                            refine ww_isub (v := 1) C dX5_readSaying_139 (by decide) ?_
                            refine ww_iadd (v := (nI (op1 + 1))) C dX5_readSaying_140 (nI_add op1 1) ?_
                            refine ww_istore_n (lv' := [(1, .int (nI (op1 + 1))), (4, .int r_57), (5, .int 1), (3, .int r_3), (2, .int (nI n1)), (0, .ref qs)]) C dX5_readSaying_141 rfl rfl rfl ?_
                            refine ww_iinc (j := 4) (v := (nI (n1 + 1))) (lv' := [(2, .int (nI (n1 + 1))), (1, .int (nI (op1 + 1))), (4, .int r_57), (5, .int 1), (3, .int r_3), (0, .ref qs)]) C dX5_readSaying_142 rfl (nI_add n1 1) rfl rfl ?_
                            refine ww_goto (tgt := 4) C dX5_readSaying_145 (by decide) ?_
                            exact ww_lv [0, 1, 5] rfl (ww_sub [2, 3, 4, 0, 1] rfl rfl (ih_4 (n1 + 1) (op1 + 1) ((tn1 + 1) + 1) ta2_61 tk2_62 ts2_63 f_85 f_86 (by omega) (by omega) (by omega) hov.1 (by omega) (by omega) (by omega) (by omega) (by omega) (by omega) h_68 (by omega)))
                          · refine an2 hw ?_
                            clear hw
                            intro he_95 he_96 hw
                            have h_94 := hw
                            clear hw
                            have he_95 := he_95.symm
                            subst he_95
                            subst he_96
                            refine ww_eq (ws' := [(po, .inl (E.2.1 1, 32, .inl f_85)), (pa, .inl (E.2.1 1, 32, .inl f_86)), (qs, .inr (5, [.ref qt, .ref po, .ref pa, .ref pf, .ref pd, .int (nI (n1 + 1)), .int (nI ((tn1 + 1) + 1)), .int an, .int wr, .int pl])), (qt, .inr (10, [.ref tb, .int (nI tl), .int (nI ta2_61), .int (nI tk2_62), .int (nI ts2_63)])), (tb, .inl (E.2.1 0, 160, .inl fb))]) ?_ rfl rfl rfl
                            have hun := uN_a1 (x := r_3) (by assumption)
                            have hov := OPV.ext hopv ef_85 (by omega) (by omega) (by omega)
                            have hov2 := hov.2
                            refine ww_iconst (v := 1) C dX5_readSaying_138 rfl ?_
                            refine ww_isub (v := 0) C dX5_readSaying_139 (by decide) ?_
                            refine ww_iadd (v := (nI op1)) C dX5_readSaying_140 (nI_add op1 0) ?_
                            refine ww_istore_n (lv' := [(1, .int (nI op1)), (4, .int r_57), (5, .int 1), (3, .int r_3), (2, .int (nI n1)), (0, .ref qs)]) C dX5_readSaying_141 rfl rfl rfl ?_
                            refine ww_iinc (j := 4) (v := (nI (n1 + 1))) (lv' := [(2, .int (nI (n1 + 1))), (1, .int (nI op1)), (4, .int r_57), (5, .int 1), (3, .int r_3), (0, .ref qs)]) C dX5_readSaying_142 rfl (nI_add n1 1) rfl rfl ?_
                            refine ww_goto (tgt := 4) C dX5_readSaying_145 (by decide) ?_
                            exact ww_lv [0, 1, 5] rfl (ww_sub [2, 3, 4, 0, 1] rfl rfl (ih_4 (n1 + 1) op1 ((tn1 + 1) + 1) ta2_61 tk2_62 ts2_63 f_85 f_86 (by omega) (by omega) (by omega) hov.1 (by omega) (by omega) (by omega) (by omega) (by omega) (by omega) h_68 (by omega)))
                        · refine ex6 hw ?_
                          clear hw
                          intro ta2_72 tk2_73 ts2_74 tn2_75 wr2_76 pl2_77 hw
                          refine an6 hw ?_
                          clear hw
                          intro he_83 he_84 h_78 h_79 h_80 h_81 hw
                          have h_82 := hw
                          clear hw
                          have he_83 := he_83.symm
                          subst he_83
                          subst he_84
                          refine ww_eq (ws' := [(po, .inl (E.2.1 1, 32, .inl fo1)), (pa, .inl (E.2.1 1, 32, .inl fa1)), (qs, .inr (5, [.ref qt, .ref po, .ref pa, .ref pf, .ref pd, .int (nI n1), .int tn2_75, .int an, .int wr2_76, .int pl2_77])), (qt, .inr (10, [.ref tb, .int (nI tl), .int (nI ta2_72), .int (nI tk2_73), .int (nI ts2_74)])), (tb, .inl (E.2.1 0, 160, .inl fb))]) ?_ rfl rfl rfl
                          refine ww_if_ne_f (tgt := 111) C dX5_readSaying_106 (by decide) (rfl) ?_
                          refine ww_iconst (v := 0) C dX5_readSaying_109 rfl ?_
                          exact ww_zret (u := [(qs, .inr (5, [.ref qt, .ref po, .ref pa, .ref pf, .ref pd, .int (nI n1), .int tn2_75, .int an, .int wr2_76, .int pl2_77])), (qt, .inr (10, [.ref tb, .int (nI tl), .int (nI ta2_72), .int (nI tk2_73), .int (nI ts2_74)])), (tb, .inl (E.2.1 0, 160, .inl fb)), (po, .inl (E.2.1 1, 32, .inl fo1)), (pa, .inl (E.2.1 1, 32, .inl fa1))]) C hT [2, 3, 4, 0, 1] rfl rfl rfl rfl rfl dX5_readSaying_110 (Or.inr ⟨ta2_72, tk2_73, ts2_74, (nI n1), tn2_75, wr2_76, pl2_77, fo1, fa1, rfl, rfl, (by first | assumption | omega | decide), (by first | assumption | omega | decide), (by first | assumption | omega | decide), (by omega), h_82⟩)
                      · have zc_59 : r_57.toInt = 0 := i_eq rfl rfl c_59
                        refine ww_aload_n C dX5_readSaying_96 5 rfl rfl ?_
                        refine ww_iconst (v := 2) C dX5_readSaying_97 rfl ?_
                        refine ww_ci (wr := [(po, .inl (E.2.1 1, 32, .inl fo1)), (pa, .inl (E.2.1 1, 32, .inl fa1)), (tb, .inl (E.2.1 0, 160, .inl fb))]) (k' := 0) (n' := 0) C (run_V (As := [.int 2]) (rest := []) C (q_fail X.2.1 E ro qs 2 qt po pa pf pd (nI n1) (nI (tn1 + 1)) an wr pl tb tl (nI ta2_20) tk2_21 ts2_22 (by omega)) mi_X5_fail wl_X5_63 rfl 0 5 rfl rfl rfl rfl rfl dX5_readSaying_98) (roK hro) [2, 3] [0, 1, 4] rfl rfl rfl rfl (fun r_97 uz hw => ?_)
                        refine an1 hw ?_
                        clear hw
                        intro he_98 hw
                        have he_99 := hw
                        clear hw
                        have he_98 := he_98.symm
                        subst he_98
                        subst he_99
                        refine ww_eq (ws' := [(po, .inl (E.2.1 1, 32, .inl fo1)), (pa, .inl (E.2.1 1, 32, .inl fa1)), (tb, .inl (E.2.1 0, 160, .inl fb)), (qs, .inr (5, [.ref qt, .ref po, .ref pa, .ref pf, .ref pd, .int (nI n1), .int (nI (tn1 + 1)), .int an, .int 2, .int (nI ts2_22)])), (qt, .inr (10, [.ref tb, .int (nI tl), .int (nI ta2_20), .int (nI tk2_21), .int (nI ts2_22)]))]) ?_ rfl rfl rfl
                        exact ww_zret (u := [(qs, .inr (5, [.ref qt, .ref po, .ref pa, .ref pf, .ref pd, .int (nI n1), .int (nI (tn1 + 1)), .int an, .int 2, .int (nI ts2_22)])), (qt, .inr (10, [.ref tb, .int (nI tl), .int (nI ta2_20), .int (nI tk2_21), .int (nI ts2_22)])), (tb, .inl (E.2.1 0, 160, .inl fb)), (po, .inl (E.2.1 1, 32, .inl fo1)), (pa, .inl (E.2.1 1, 32, .inl fa1))]) C hT [3, 4, 2, 0, 1] rfl rfl rfl rfl rfl dX5_readSaying_101 (Or.inr ⟨ta2_20, tk2_21, ts2_22, (nI n1), (nI (tn1 + 1)), 2, (nI ts2_22), fo1, fa1, rfl, rfl, (by first | assumption | omega | decide), (by first | assumption | omega | decide), (by first | assumption | omega | decide), (by omega), h_27⟩)
                  · refine ex6 hw ?_
                    clear hw
                    intro ta2_31 tk2_32 ts2_33 tn2_34 wr2_35 pl2_36 hw
                    refine an6 hw ?_
                    clear hw
                    intro he_42 he_43 h_37 h_38 h_39 h_40 hw
                    have h_41 := hw
                    clear hw
                    have he_42 := he_42.symm
                    subst he_42
                    subst he_43
                    refine ww_eq (ws' := [(po, .inl (E.2.1 1, 32, .inl fo1)), (pa, .inl (E.2.1 1, 32, .inl fa1)), (qs, .inr (5, [.ref qt, .ref po, .ref pa, .ref pf, .ref pd, .int (nI n1), .int tn2_34, .int an, .int wr2_35, .int pl2_36])), (qt, .inr (10, [.ref tb, .int (nI tl), .int (nI ta2_31), .int (nI tk2_32), .int (nI ts2_33)])), (tb, .inl (E.2.1 0, 160, .inl fb))]) ?_ rfl rfl rfl
                    refine ww_if_ne_f (tgt := 78) C dX5_readSaying_73 (by decide) (rfl) ?_
                    refine ww_iconst (v := 0) C dX5_readSaying_76 rfl ?_
                    exact ww_zret (u := [(qs, .inr (5, [.ref qt, .ref po, .ref pa, .ref pf, .ref pd, .int (nI n1), .int tn2_34, .int an, .int wr2_35, .int pl2_36])), (qt, .inr (10, [.ref tb, .int (nI tl), .int (nI ta2_31), .int (nI tk2_32), .int (nI ts2_33)])), (tb, .inl (E.2.1 0, 160, .inl fb)), (po, .inl (E.2.1 1, 32, .inl fo1)), (pa, .inl (E.2.1 1, 32, .inl fa1))]) C hT [2, 3, 4, 0, 1] rfl rfl rfl rfl rfl dX5_readSaying_77 (Or.inr ⟨ta2_31, tk2_32, ts2_33, (nI n1), tn2_34, wr2_35, pl2_36, fo1, fa1, rfl, rfl, (by first | assumption | omega | decide), (by first | assumption | omega | decide), (by first | assumption | omega | decide), (by omega), h_41⟩)
                · refine an1 hw ?_
                  clear hw
                  intro he_17 hw
                  have he_18 := hw
                  clear hw
                  have he_17 := he_17.symm
                  subst he_17
                  subst he_18
                  refine ww_eq (ws' := [(po, .inl (E.2.1 1, 32, .inl fo1)), (pa, .inl (E.2.1 1, 32, .inl fa1)), (qs, .inr (5, [.ref qt, .ref po, .ref pa, .ref pf, .ref pd, .int (nI n1), .int (nI tn1), .int an, .int wr, .int pl])), (qt, .inr (10, [.ref tb, .int (nI tl), .int (nI ta1), .int (nI tk1), .int (nI ts1)])), (tb, .inl (E.2.1 0, 160, .inl fb))]) ?_ rfl rfl rfl
                  refine ww_if_ne_f (tgt := 62) C dX5_readSaying_54 (by decide) (rfl) ?_
                  refine ww_iload_n C dX5_readSaying_57 1 rfl rfl ?_
                  refine ww_iconst (v := 5) C dX5_readSaying_58 rfl ?_
                  refine ww_icmp_ne (tgt := 66) C dX5_readSaying_59 (by decide) (fun c_100 => ?_) (fun c_100 => ?_)
                  · have zc_100 : r_3.toInt ≠ 5 := i_ne rfl rfl c_100
                    refine ww_iconst (v := 0) C dX5_readSaying_66 rfl ?_
                    refine ww_istore (lv' := [(5, .int 0), (4, .int 0), (3, .int r_3), (2, .int (nI n1)), (1, .int (nI op1)), (0, .ref qs)]) C dX5_readSaying_67 rfl rfl ?_
                    refine ww_aload_n C dX5_readSaying_69 5 rfl rfl ?_
                    refine ww_ci (wr := [(po, .inl (E.2.1 1, 32, .inl fo1)), (pa, .inl (E.2.1 1, 32, .inl fa1))]) (k' := 0) (n' := 0) C (run_V (As := []) (rest := []) C (q_take X.2.1 E ro qs qt po pa pf pd (nI n1) tn1 an wr pl tb tl ta1 tk1 ts1 fb (by omega) (by omega) (by omega) (by omega) (by omega) hfg1 (by omega)) mi_X5_take wl_X5_97 rfl 0 5 rfl rfl rfl rfl rfl dX5_readSaying_70) (roK hro) [2, 3, 4] [0, 1] rfl rfl rfl rfl (fun r_101 uz hw => ?_)
                    rcases hw with hw | hw
                    · refine ex3 hw ?_
                      clear hw
                      intro ta2_102 tk2_103 ts2_104 hw
                      refine an7 hw ?_
                      clear hw
                      intro he_111 he_112 h_105 h_106 h_107 h_108 h_109 hw
                      have h_110 := hw
                      clear hw
                      have he_111 := he_111.symm
                      subst he_111
                      subst he_112
                      refine ww_eq (ws' := [(po, .inl (E.2.1 1, 32, .inl fo1)), (pa, .inl (E.2.1 1, 32, .inl fa1)), (qs, .inr (5, [.ref qt, .ref po, .ref pa, .ref pf, .ref pd, .int (nI n1), .int (nI (tn1 + 1)), .int an, .int wr, .int pl])), (qt, .inr (10, [.ref tb, .int (nI tl), .int (nI ta2_102), .int (nI tk2_103), .int (nI ts2_104)])), (tb, .inl (E.2.1 0, 160, .inl fb))]) ?_ rfl rfl rfl
                      refine ww_if_ne_t (tgt := 78) C dX5_readSaying_73 (by decide) (by decide) ?_
                      refine ww_iload_n C dX5_readSaying_78 2 rfl rfl ?_
                      refine ww_iconst (v := 5) C dX5_readSaying_79 rfl ?_
                      refine ww_icmp_lt (tgt := 111) C dX5_readSaying_80 (by decide) (fun c_126 => ?_) (fun c_126 => ?_)
                      · have zc_126 : r_3.toInt < 5 := i_lt rfl rfl c_126
                        refine ww_aload_n C dX5_readSaying_111 5 rfl rfl ?_
                        refine ww_get C fg_X5_18 2 rfl rfl dX5_readSaying_112 ?_
                        refine ww_iload_n C dX5_readSaying_115 3 rfl rfl ?_
                        refine ww_iload_n C dX5_readSaying_116 2 rfl rfl ?_
                        obtain ⟨f_127, ef_127⟩ : ∃ z : Nat → Int32, upd fo1 n1 r_3 = z := ⟨_, rfl⟩
                        refine ww_iast (ws' := [(po, .inl (E.2.1 1, 32, .inl f_127)), (pa, .inl (E.2.1 1, 32, .inl fa1)), (qs, .inr (5, [.ref qt, .ref po, .ref pa, .ref pf, .ref pd, .int (nI n1), .int (nI (tn1 + 1)), .int an, .int wr, .int pl])), (qt, .inr (10, [.ref tb, .int (nI tl), .int (nI ta2_102), .int (nI tk2_103), .int (nI ts2_104)])), (tb, .inl (E.2.1 0, 160, .inl fb))]) C 0 rfl (vp_in_nI (by omega) (by omega)) (ldn2 (by omega) ef_127) rfl dX5_readSaying_117 ?_
                        refine ww_aload_n C dX5_readSaying_118 5 rfl rfl ?_
                        refine ww_get C fg_X5_22 2 rfl rfl dX5_readSaying_119 ?_
                        refine ww_iload_n C dX5_readSaying_122 3 rfl rfl ?_
                        refine ww_iload C dX5_readSaying_123 1 rfl ?_
                        obtain ⟨f_128, ef_128⟩ : ∃ z : Nat → Int32, upd fa1 n1 0 = z := ⟨_, rfl⟩
                        refine ww_iast (ws' := [(po, .inl (E.2.1 1, 32, .inl f_127)), (pa, .inl (E.2.1 1, 32, .inl f_128)), (qs, .inr (5, [.ref qt, .ref po, .ref pa, .ref pf, .ref pd, .int (nI n1), .int (nI (tn1 + 1)), .int an, .int wr, .int pl])), (qt, .inr (10, [.ref tb, .int (nI tl), .int (nI ta2_102), .int (nI tk2_103), .int (nI ts2_104)])), (tb, .inl (E.2.1 0, 160, .inl fb))]) C 1 rfl (vp_in_nI (by omega) (by omega)) (ldn2 (by omega) ef_128) rfl dX5_readSaying_125 ?_
                        refine ww_aload_n C dX5_readSaying_126 5 rfl rfl ?_
                        refine ww_iload_n C dX5_readSaying_127 3 rfl rfl ?_
                        refine ww_iconst (v := 1) C dX5_readSaying_128 rfl ?_
                        refine ww_iadd (v := (nI (n1 + 1))) C dX5_readSaying_129 (nI_add n1 1) ?_
                        refine ww_put (ws' := [(po, .inl (E.2.1 1, 32, .inl f_127)), (pa, .inl (E.2.1 1, 32, .inl f_128)), (qs, .inr (5, [.ref qt, .ref po, .ref pa, .ref pf, .ref pd, .int (nI (n1 + 1)), .int (nI (tn1 + 1)), .int an, .int wr, .int pl])), (qt, .inr (10, [.ref tb, .int (nI tl), .int (nI ta2_102), .int (nI tk2_103), .int (nI ts2_104)])), (tb, .inl (E.2.1 0, 160, .inl fb))]) C fp_X5_31 2 rfl rfl rfl rfl rfl dX5_readSaying_130 ?_
                        refine ww_iload_n C dX5_readSaying_133 4 rfl rfl ?_
                        refine ww_iload_n C dX5_readSaying_134 2 rfl rfl ?_
                        refine ww_ci (wr := [(po, .inl (E.2.1 1, 32, .inl f_127)), (pa, .inl (E.2.1 1, 32, .inl f_128)), (qs, .inr (5, [.ref qt, .ref po, .ref pa, .ref pf, .ref pd, .int (nI (n1 + 1)), .int (nI (tn1 + 1)), .int an, .int wr, .int pl])), (qt, .inr (10, [.ref tb, .int (nI tl), .int (nI ta2_102), .int (nI tk2_103), .int (nI ts2_104)])), (tb, .inl (E.2.1 0, 160, .inl fb))]) (k' := 0) (n' := 0) C (run_SN (As := [.int r_3]) (rest := [.int (nI op1)]) C (c_under X.2.1 E ro r_3) ms_X11_under (List.mem_of_getElem? (i := 14) rfl) rfl rfl rfl rfl dX5_readSaying_135) (roK hro) [] [0, 1, 2, 3, 4] rfl rfl rfl rfl (fun r_129 uz hw => ?_)
                        rcases hw with hw | hw | hw
                        · refine an2 hw ?_
                          clear hw
                          intro he_131 he_132 hw
                          have h_130 := hw
                          clear hw
                          have he_131 := he_131.symm
                          subst he_131
                          subst he_132
                          refine ww_eq (ws' := [(po, .inl (E.2.1 1, 32, .inl f_127)), (pa, .inl (E.2.1 1, 32, .inl f_128)), (qs, .inr (5, [.ref qt, .ref po, .ref pa, .ref pf, .ref pd, .int (nI (n1 + 1)), .int (nI (tn1 + 1)), .int an, .int wr, .int pl])), (qt, .inr (10, [.ref tb, .int (nI tl), .int (nI ta2_102), .int (nI tk2_103), .int (nI ts2_104)])), (tb, .inl (E.2.1 0, 160, .inl fb))]) ?_ rfl rfl rfl
                          have hun := uN_a0 (x := r_3) (by assumption)
                          have hov := OPV.ext hopv ef_127 (by omega) (by omega) (by omega)
                          have hov2 := hov.2
                          refine ww_iconst (v := 1) C dX5_readSaying_138 rfl ?_
                          refine ww_isub (v := (-1)) C dX5_readSaying_139 (by decide) ?_
                          refine ww_iadd (v := (nI (op1 - 1))) C dX5_readSaying_140 (nI_subc (a := op1) (c := 1) (by omega) rfl) ?_
                          refine ww_istore_n (lv' := [(1, .int (nI (op1 - 1))), (5, .int 0), (4, .int 0), (3, .int r_3), (2, .int (nI n1)), (0, .ref qs)]) C dX5_readSaying_141 rfl rfl rfl ?_
                          refine ww_iinc (j := 4) (v := (nI (n1 + 1))) (lv' := [(2, .int (nI (n1 + 1))), (1, .int (nI (op1 - 1))), (5, .int 0), (4, .int 0), (3, .int r_3), (0, .ref qs)]) C dX5_readSaying_142 rfl (nI_add n1 1) rfl rfl ?_
                          refine ww_goto (tgt := 4) C dX5_readSaying_145 (by decide) ?_
                          exact ww_lv [0, 1, 5] rfl (ww_sub [2, 3, 4, 0, 1] rfl rfl (ih_4 (n1 + 1) (op1 - 1) (tn1 + 1) ta2_102 tk2_103 ts2_104 f_127 f_128 (by omega) (by omega) (by omega) hov.1 (by omega) (by omega) (by omega) (by omega) (by omega) (by omega) h_109 (by omega)))
                        · refine an2 hw ?_
                          clear hw
                          intro he_134 he_135 hw
                          have h_133 := hw
                          clear hw
                          have he_134 := he_134.symm
                          subst he_134
                          subst he_135
                          refine ww_eq (ws' := [(po, .inl (E.2.1 1, 32, .inl f_127)), (pa, .inl (E.2.1 1, 32, .inl f_128)), (qs, .inr (5, [.ref qt, .ref po, .ref pa, .ref pf, .ref pd, .int (nI (n1 + 1)), .int (nI (tn1 + 1)), .int an, .int wr, .int pl])), (qt, .inr (10, [.ref tb, .int (nI tl), .int (nI ta2_102), .int (nI tk2_103), .int (nI ts2_104)])), (tb, .inl (E.2.1 0, 160, .inl fb))]) ?_ rfl rfl rfl
                          have hun := uN_a2 (x := r_3) (by assumption)
                          have hov := OPV.ext hopv ef_127 (by omega) (by omega) (by omega)
                          have hov2 := hov.2
                          refine ww_iconst (v := 1) C dX5_readSaying_138 rfl ?_
                          refine ww_isub (v := 1) C dX5_readSaying_139 (by decide) ?_
                          refine ww_iadd (v := (nI (op1 + 1))) C dX5_readSaying_140 (nI_add op1 1) ?_
                          refine ww_istore_n (lv' := [(1, .int (nI (op1 + 1))), (5, .int 0), (4, .int 0), (3, .int r_3), (2, .int (nI n1)), (0, .ref qs)]) C dX5_readSaying_141 rfl rfl rfl ?_
                          refine ww_iinc (j := 4) (v := (nI (n1 + 1))) (lv' := [(2, .int (nI (n1 + 1))), (1, .int (nI (op1 + 1))), (5, .int 0), (4, .int 0), (3, .int r_3), (0, .ref qs)]) C dX5_readSaying_142 rfl (nI_add n1 1) rfl rfl ?_
                          refine ww_goto (tgt := 4) C dX5_readSaying_145 (by decide) ?_
                          exact ww_lv [0, 1, 5] rfl (ww_sub [2, 3, 4, 0, 1] rfl rfl (ih_4 (n1 + 1) (op1 + 1) (tn1 + 1) ta2_102 tk2_103 ts2_104 f_127 f_128 (by omega) (by omega) (by omega) hov.1 (by omega) (by omega) (by omega) (by omega) (by omega) (by omega) h_109 (by omega)))
                        · refine an2 hw ?_
                          clear hw
                          intro he_137 he_138 hw
                          have h_136 := hw
                          clear hw
                          have he_137 := he_137.symm
                          subst he_137
                          subst he_138
                          refine ww_eq (ws' := [(po, .inl (E.2.1 1, 32, .inl f_127)), (pa, .inl (E.2.1 1, 32, .inl f_128)), (qs, .inr (5, [.ref qt, .ref po, .ref pa, .ref pf, .ref pd, .int (nI (n1 + 1)), .int (nI (tn1 + 1)), .int an, .int wr, .int pl])), (qt, .inr (10, [.ref tb, .int (nI tl), .int (nI ta2_102), .int (nI tk2_103), .int (nI ts2_104)])), (tb, .inl (E.2.1 0, 160, .inl fb))]) ?_ rfl rfl rfl
                          have hun := uN_a1 (x := r_3) (by assumption)
                          have hov := OPV.ext hopv ef_127 (by omega) (by omega) (by omega)
                          have hov2 := hov.2
                          refine ww_iconst (v := 1) C dX5_readSaying_138 rfl ?_
                          refine ww_isub (v := 0) C dX5_readSaying_139 (by decide) ?_
                          refine ww_iadd (v := (nI op1)) C dX5_readSaying_140 (nI_add op1 0) ?_
                          refine ww_istore_n (lv' := [(1, .int (nI op1)), (5, .int 0), (4, .int 0), (3, .int r_3), (2, .int (nI n1)), (0, .ref qs)]) C dX5_readSaying_141 rfl rfl rfl ?_
                          refine ww_iinc (j := 4) (v := (nI (n1 + 1))) (lv' := [(2, .int (nI (n1 + 1))), (1, .int (nI op1)), (5, .int 0), (4, .int 0), (3, .int r_3), (0, .ref qs)]) C dX5_readSaying_142 rfl (nI_add n1 1) rfl rfl ?_
                          refine ww_goto (tgt := 4) C dX5_readSaying_145 (by decide) ?_
                          exact ww_lv [0, 1, 5] rfl (ww_sub [2, 3, 4, 0, 1] rfl rfl (ih_4 (n1 + 1) op1 (tn1 + 1) ta2_102 tk2_103 ts2_104 f_127 f_128 (by omega) (by omega) (by omega) hov.1 (by omega) (by omega) (by omega) (by omega) (by omega) (by omega) h_109 (by omega)))
                      · have zc_126 : r_3.toInt ≥ 5 := i_nlt rfl rfl c_126
                        refine ww_aload_n C dX5_readSaying_83 5 rfl rfl ?_
                        refine ww_iload C dX5_readSaying_84 0 rfl ?_
                        refine ww_ci (wr := [(po, .inl (E.2.1 1, 32, .inl fo1)), (pa, .inl (E.2.1 1, 32, .inl fa1))]) (k' := 0) (n' := 0) C (run_V (As := [.int 0]) (rest := []) C (q_knowers X.2.1 E ro qs 0 qt po pa pf pd (nI n1) (nI (tn1 + 1)) an wr pl tb tl ta2_102 tk2_103 ts2_104 fb (by omega) (by omega) (by omega) (by omega) (by omega) h_109) mi_X5_knowers wl_X5_100 rfl 0 5 rfl rfl rfl rfl rfl dX5_readSaying_86) (roK hro) [2, 3, 4] [0, 1] rfl rfl rfl rfl (fun r_139 uz hw => ?_)
                        have he_140 := hw
                        clear hw
                        subst he_140
                        refine ww_eq (ws' := [(po, .inl (E.2.1 1, 32, .inl fo1)), (pa, .inl (E.2.1 1, 32, .inl fa1)), (qs, .inr (5, [.ref qt, .ref po, .ref pa, .ref pf, .ref pd, .int (nI n1), .int (nI (tn1 + 1)), .int an, .int wr, .int pl])), (qt, .inr (10, [.ref tb, .int (nI tl), .int (nI ta2_102), .int (nI tk2_103), .int (nI ts2_104)])), (tb, .inl (E.2.1 0, 160, .inl fb))]) ?_ rfl rfl rfl
                        refine ww_istore (lv' := [(4, .int r_139), (5, .int 0), (3, .int r_3), (2, .int (nI n1)), (1, .int (nI op1)), (0, .ref qs)]) C dX5_readSaying_89 rfl rfl ?_
                        refine ww_iload C dX5_readSaying_91 0 rfl ?_
                        refine ww_if_ne (tgt := 102) C dX5_readSaying_93 (by decide) (fun c_141 => ?_) (fun c_141 => ?_)
                        · have zc_141 : r_139.toInt ≠ 0 := i_ne rfl rfl c_141
                          refine ww_aload_n C dX5_readSaying_102 5 rfl rfl ?_
                          refine ww_ci (wr := [(po, .inl (E.2.1 1, 32, .inl fo1)), (pa, .inl (E.2.1 1, 32, .inl fa1))]) (k' := 0) (n' := 0) C (run_V (As := []) (rest := []) C (q_take X.2.1 E ro qs qt po pa pf pd (nI n1) (tn1 + 1) an wr pl tb tl ta2_102 tk2_103 ts2_104 fb (by omega) (by omega) (by omega) (by omega) (by omega) h_109 (by omega)) mi_X5_take wl_X5_97 rfl 0 5 rfl rfl rfl rfl rfl dX5_readSaying_103) (roK hro) [2, 3, 4] [0, 1] rfl rfl rfl rfl (fun r_142 uz hw => ?_)
                          rcases hw with hw | hw
                          · refine ex3 hw ?_
                            clear hw
                            intro ta2_143 tk2_144 ts2_145 hw
                            refine an7 hw ?_
                            clear hw
                            intro he_152 he_153 h_146 h_147 h_148 h_149 h_150 hw
                            have h_151 := hw
                            clear hw
                            have he_152 := he_152.symm
                            subst he_152
                            subst he_153
                            refine ww_eq (ws' := [(po, .inl (E.2.1 1, 32, .inl fo1)), (pa, .inl (E.2.1 1, 32, .inl fa1)), (qs, .inr (5, [.ref qt, .ref po, .ref pa, .ref pf, .ref pd, .int (nI n1), .int (nI ((tn1 + 1) + 1)), .int an, .int wr, .int pl])), (qt, .inr (10, [.ref tb, .int (nI tl), .int (nI ta2_143), .int (nI tk2_144), .int (nI ts2_145)])), (tb, .inl (E.2.1 0, 160, .inl fb))]) ?_ rfl rfl rfl
                            refine ww_if_ne_t (tgt := 111) C dX5_readSaying_106 (by decide) (by decide) ?_
                            refine ww_aload_n C dX5_readSaying_111 5 rfl rfl ?_
                            refine ww_get C fg_X5_18 2 rfl rfl dX5_readSaying_112 ?_
                            refine ww_iload_n C dX5_readSaying_115 3 rfl rfl ?_
                            refine ww_iload_n C dX5_readSaying_116 2 rfl rfl ?_
                            obtain ⟨f_167, ef_167⟩ : ∃ z : Nat → Int32, upd fo1 n1 r_3 = z := ⟨_, rfl⟩
                            refine ww_iast (ws' := [(po, .inl (E.2.1 1, 32, .inl f_167)), (pa, .inl (E.2.1 1, 32, .inl fa1)), (qs, .inr (5, [.ref qt, .ref po, .ref pa, .ref pf, .ref pd, .int (nI n1), .int (nI ((tn1 + 1) + 1)), .int an, .int wr, .int pl])), (qt, .inr (10, [.ref tb, .int (nI tl), .int (nI ta2_143), .int (nI tk2_144), .int (nI ts2_145)])), (tb, .inl (E.2.1 0, 160, .inl fb))]) C 0 rfl (vp_in_nI (by omega) (by omega)) (ldn2 (by omega) ef_167) rfl dX5_readSaying_117 ?_
                            refine ww_aload_n C dX5_readSaying_118 5 rfl rfl ?_
                            refine ww_get C fg_X5_22 2 rfl rfl dX5_readSaying_119 ?_
                            refine ww_iload_n C dX5_readSaying_122 3 rfl rfl ?_
                            refine ww_iload C dX5_readSaying_123 0 rfl ?_
                            obtain ⟨f_168, ef_168⟩ : ∃ z : Nat → Int32, upd fa1 n1 r_139 = z := ⟨_, rfl⟩
                            refine ww_iast (ws' := [(po, .inl (E.2.1 1, 32, .inl f_167)), (pa, .inl (E.2.1 1, 32, .inl f_168)), (qs, .inr (5, [.ref qt, .ref po, .ref pa, .ref pf, .ref pd, .int (nI n1), .int (nI ((tn1 + 1) + 1)), .int an, .int wr, .int pl])), (qt, .inr (10, [.ref tb, .int (nI tl), .int (nI ta2_143), .int (nI tk2_144), .int (nI ts2_145)])), (tb, .inl (E.2.1 0, 160, .inl fb))]) C 1 rfl (vp_in_nI (by omega) (by omega)) (ldn2 (by omega) ef_168) rfl dX5_readSaying_125 ?_
                            refine ww_aload_n C dX5_readSaying_126 5 rfl rfl ?_
                            refine ww_iload_n C dX5_readSaying_127 3 rfl rfl ?_
                            refine ww_iconst (v := 1) C dX5_readSaying_128 rfl ?_
                            refine ww_iadd (v := (nI (n1 + 1))) C dX5_readSaying_129 (nI_add n1 1) ?_
                            refine ww_put (ws' := [(po, .inl (E.2.1 1, 32, .inl f_167)), (pa, .inl (E.2.1 1, 32, .inl f_168)), (qs, .inr (5, [.ref qt, .ref po, .ref pa, .ref pf, .ref pd, .int (nI (n1 + 1)), .int (nI ((tn1 + 1) + 1)), .int an, .int wr, .int pl])), (qt, .inr (10, [.ref tb, .int (nI tl), .int (nI ta2_143), .int (nI tk2_144), .int (nI ts2_145)])), (tb, .inl (E.2.1 0, 160, .inl fb))]) C fp_X5_31 2 rfl rfl rfl rfl rfl dX5_readSaying_130 ?_
                            refine ww_iload_n C dX5_readSaying_133 4 rfl rfl ?_
                            refine ww_iload_n C dX5_readSaying_134 2 rfl rfl ?_
                            refine ww_ci (wr := [(po, .inl (E.2.1 1, 32, .inl f_167)), (pa, .inl (E.2.1 1, 32, .inl f_168)), (qs, .inr (5, [.ref qt, .ref po, .ref pa, .ref pf, .ref pd, .int (nI (n1 + 1)), .int (nI ((tn1 + 1) + 1)), .int an, .int wr, .int pl])), (qt, .inr (10, [.ref tb, .int (nI tl), .int (nI ta2_143), .int (nI tk2_144), .int (nI ts2_145)])), (tb, .inl (E.2.1 0, 160, .inl fb))]) (k' := 0) (n' := 0) C (run_SN (As := [.int r_3]) (rest := [.int (nI op1)]) C (c_under X.2.1 E ro r_3) ms_X11_under (List.mem_of_getElem? (i := 14) rfl) rfl rfl rfl rfl dX5_readSaying_135) (roK hro) [] [0, 1, 2, 3, 4] rfl rfl rfl rfl (fun r_169 uz hw => ?_)
                            rcases hw with hw | hw | hw
                            · refine an2 hw ?_
                              clear hw
                              intro he_171 he_172 hw
                              have h_170 := hw
                              clear hw
                              have he_171 := he_171.symm
                              subst he_171
                              subst he_172
                              refine ww_eq (ws' := [(po, .inl (E.2.1 1, 32, .inl f_167)), (pa, .inl (E.2.1 1, 32, .inl f_168)), (qs, .inr (5, [.ref qt, .ref po, .ref pa, .ref pf, .ref pd, .int (nI (n1 + 1)), .int (nI ((tn1 + 1) + 1)), .int an, .int wr, .int pl])), (qt, .inr (10, [.ref tb, .int (nI tl), .int (nI ta2_143), .int (nI tk2_144), .int (nI ts2_145)])), (tb, .inl (E.2.1 0, 160, .inl fb))]) ?_ rfl rfl rfl
                              have hun := uN_a0 (x := r_3) (by assumption)
                              have hov := OPV.ext hopv ef_167 (by omega) (by omega) (by omega)
                              have hov2 := hov.2
                              refine ww_iconst (v := 1) C dX5_readSaying_138 rfl ?_
                              refine ww_isub (v := (-1)) C dX5_readSaying_139 (by decide) ?_
                              refine ww_iadd (v := (nI (op1 - 1))) C dX5_readSaying_140 (nI_subc (a := op1) (c := 1) (by omega) rfl) ?_
                              refine ww_istore_n (lv' := [(1, .int (nI (op1 - 1))), (4, .int r_139), (5, .int 0), (3, .int r_3), (2, .int (nI n1)), (0, .ref qs)]) C dX5_readSaying_141 rfl rfl rfl ?_
                              refine ww_iinc (j := 4) (v := (nI (n1 + 1))) (lv' := [(2, .int (nI (n1 + 1))), (1, .int (nI (op1 - 1))), (4, .int r_139), (5, .int 0), (3, .int r_3), (0, .ref qs)]) C dX5_readSaying_142 rfl (nI_add n1 1) rfl rfl ?_
                              refine ww_goto (tgt := 4) C dX5_readSaying_145 (by decide) ?_
                              exact ww_lv [0, 1, 5] rfl (ww_sub [2, 3, 4, 0, 1] rfl rfl (ih_4 (n1 + 1) (op1 - 1) ((tn1 + 1) + 1) ta2_143 tk2_144 ts2_145 f_167 f_168 (by omega) (by omega) (by omega) hov.1 (by omega) (by omega) (by omega) (by omega) (by omega) (by omega) h_150 (by omega)))
                            · refine an2 hw ?_
                              clear hw
                              intro he_174 he_175 hw
                              have h_173 := hw
                              clear hw
                              have he_174 := he_174.symm
                              subst he_174
                              subst he_175
                              refine ww_eq (ws' := [(po, .inl (E.2.1 1, 32, .inl f_167)), (pa, .inl (E.2.1 1, 32, .inl f_168)), (qs, .inr (5, [.ref qt, .ref po, .ref pa, .ref pf, .ref pd, .int (nI (n1 + 1)), .int (nI ((tn1 + 1) + 1)), .int an, .int wr, .int pl])), (qt, .inr (10, [.ref tb, .int (nI tl), .int (nI ta2_143), .int (nI tk2_144), .int (nI ts2_145)])), (tb, .inl (E.2.1 0, 160, .inl fb))]) ?_ rfl rfl rfl
                              have hun := uN_a2 (x := r_3) (by assumption)
                              have hov := OPV.ext hopv ef_167 (by omega) (by omega) (by omega)
                              have hov2 := hov.2
                              refine ww_iconst (v := 1) C dX5_readSaying_138 rfl ?_
                              refine ww_isub (v := 1) C dX5_readSaying_139 (by decide) ?_
                              refine ww_iadd (v := (nI (op1 + 1))) C dX5_readSaying_140 (nI_add op1 1) ?_
                              refine ww_istore_n (lv' := [(1, .int (nI (op1 + 1))), (4, .int r_139), (5, .int 0), (3, .int r_3), (2, .int (nI n1)), (0, .ref qs)]) C dX5_readSaying_141 rfl rfl rfl ?_
                              refine ww_iinc (j := 4) (v := (nI (n1 + 1))) (lv' := [(2, .int (nI (n1 + 1))), (1, .int (nI (op1 + 1))), (4, .int r_139), (5, .int 0), (3, .int r_3), (0, .ref qs)]) C dX5_readSaying_142 rfl (nI_add n1 1) rfl rfl ?_
                              refine ww_goto (tgt := 4) C dX5_readSaying_145 (by decide) ?_
                              exact ww_lv [0, 1, 5] rfl (ww_sub [2, 3, 4, 0, 1] rfl rfl (ih_4 (n1 + 1) (op1 + 1) ((tn1 + 1) + 1) ta2_143 tk2_144 ts2_145 f_167 f_168 (by omega) (by omega) (by omega) hov.1 (by omega) (by omega) (by omega) (by omega) (by omega) (by omega) h_150 (by omega)))
                            · refine an2 hw ?_
                              clear hw
                              intro he_177 he_178 hw
                              have h_176 := hw
                              clear hw
                              have he_177 := he_177.symm
                              subst he_177
                              subst he_178
                              refine ww_eq (ws' := [(po, .inl (E.2.1 1, 32, .inl f_167)), (pa, .inl (E.2.1 1, 32, .inl f_168)), (qs, .inr (5, [.ref qt, .ref po, .ref pa, .ref pf, .ref pd, .int (nI (n1 + 1)), .int (nI ((tn1 + 1) + 1)), .int an, .int wr, .int pl])), (qt, .inr (10, [.ref tb, .int (nI tl), .int (nI ta2_143), .int (nI tk2_144), .int (nI ts2_145)])), (tb, .inl (E.2.1 0, 160, .inl fb))]) ?_ rfl rfl rfl
                              have hun := uN_a1 (x := r_3) (by assumption)
                              have hov := OPV.ext hopv ef_167 (by omega) (by omega) (by omega)
                              have hov2 := hov.2
                              refine ww_iconst (v := 1) C dX5_readSaying_138 rfl ?_
                              refine ww_isub (v := 0) C dX5_readSaying_139 (by decide) ?_
                              refine ww_iadd (v := (nI op1)) C dX5_readSaying_140 (nI_add op1 0) ?_
                              refine ww_istore_n (lv' := [(1, .int (nI op1)), (4, .int r_139), (5, .int 0), (3, .int r_3), (2, .int (nI n1)), (0, .ref qs)]) C dX5_readSaying_141 rfl rfl rfl ?_
                              refine ww_iinc (j := 4) (v := (nI (n1 + 1))) (lv' := [(2, .int (nI (n1 + 1))), (1, .int (nI op1)), (4, .int r_139), (5, .int 0), (3, .int r_3), (0, .ref qs)]) C dX5_readSaying_142 rfl (nI_add n1 1) rfl rfl ?_
                              refine ww_goto (tgt := 4) C dX5_readSaying_145 (by decide) ?_
                              exact ww_lv [0, 1, 5] rfl (ww_sub [2, 3, 4, 0, 1] rfl rfl (ih_4 (n1 + 1) op1 ((tn1 + 1) + 1) ta2_143 tk2_144 ts2_145 f_167 f_168 (by omega) (by omega) (by omega) hov.1 (by omega) (by omega) (by omega) (by omega) (by omega) (by omega) h_150 (by omega)))
                          · refine ex6 hw ?_
                            clear hw
                            intro ta2_154 tk2_155 ts2_156 tn2_157 wr2_158 pl2_159 hw
                            refine an6 hw ?_
                            clear hw
                            intro he_165 he_166 h_160 h_161 h_162 h_163 hw
                            have h_164 := hw
                            clear hw
                            have he_165 := he_165.symm
                            subst he_165
                            subst he_166
                            refine ww_eq (ws' := [(po, .inl (E.2.1 1, 32, .inl fo1)), (pa, .inl (E.2.1 1, 32, .inl fa1)), (qs, .inr (5, [.ref qt, .ref po, .ref pa, .ref pf, .ref pd, .int (nI n1), .int tn2_157, .int an, .int wr2_158, .int pl2_159])), (qt, .inr (10, [.ref tb, .int (nI tl), .int (nI ta2_154), .int (nI tk2_155), .int (nI ts2_156)])), (tb, .inl (E.2.1 0, 160, .inl fb))]) ?_ rfl rfl rfl
                            refine ww_if_ne_f (tgt := 111) C dX5_readSaying_106 (by decide) (rfl) ?_
                            refine ww_iconst (v := 0) C dX5_readSaying_109 rfl ?_
                            exact ww_zret (u := [(qs, .inr (5, [.ref qt, .ref po, .ref pa, .ref pf, .ref pd, .int (nI n1), .int tn2_157, .int an, .int wr2_158, .int pl2_159])), (qt, .inr (10, [.ref tb, .int (nI tl), .int (nI ta2_154), .int (nI tk2_155), .int (nI ts2_156)])), (tb, .inl (E.2.1 0, 160, .inl fb)), (po, .inl (E.2.1 1, 32, .inl fo1)), (pa, .inl (E.2.1 1, 32, .inl fa1))]) C hT [2, 3, 4, 0, 1] rfl rfl rfl rfl rfl dX5_readSaying_110 (Or.inr ⟨ta2_154, tk2_155, ts2_156, (nI n1), tn2_157, wr2_158, pl2_159, fo1, fa1, rfl, rfl, (by first | assumption | omega | decide), (by first | assumption | omega | decide), (by first | assumption | omega | decide), (by omega), h_164⟩)
                        · have zc_141 : r_139.toInt = 0 := i_eq rfl rfl c_141
                          refine ww_aload_n C dX5_readSaying_96 5 rfl rfl ?_
                          refine ww_iconst (v := 2) C dX5_readSaying_97 rfl ?_
                          refine ww_ci (wr := [(po, .inl (E.2.1 1, 32, .inl fo1)), (pa, .inl (E.2.1 1, 32, .inl fa1)), (tb, .inl (E.2.1 0, 160, .inl fb))]) (k' := 0) (n' := 0) C (run_V (As := [.int 2]) (rest := []) C (q_fail X.2.1 E ro qs 2 qt po pa pf pd (nI n1) (nI (tn1 + 1)) an wr pl tb tl (nI ta2_102) tk2_103 ts2_104 (by omega)) mi_X5_fail wl_X5_63 rfl 0 5 rfl rfl rfl rfl rfl dX5_readSaying_98) (roK hro) [2, 3] [0, 1, 4] rfl rfl rfl rfl (fun r_179 uz hw => ?_)
                          refine an1 hw ?_
                          clear hw
                          intro he_180 hw
                          have he_181 := hw
                          clear hw
                          have he_180 := he_180.symm
                          subst he_180
                          subst he_181
                          refine ww_eq (ws' := [(po, .inl (E.2.1 1, 32, .inl fo1)), (pa, .inl (E.2.1 1, 32, .inl fa1)), (tb, .inl (E.2.1 0, 160, .inl fb)), (qs, .inr (5, [.ref qt, .ref po, .ref pa, .ref pf, .ref pd, .int (nI n1), .int (nI (tn1 + 1)), .int an, .int 2, .int (nI ts2_104)])), (qt, .inr (10, [.ref tb, .int (nI tl), .int (nI ta2_102), .int (nI tk2_103), .int (nI ts2_104)]))]) ?_ rfl rfl rfl
                          exact ww_zret (u := [(qs, .inr (5, [.ref qt, .ref po, .ref pa, .ref pf, .ref pd, .int (nI n1), .int (nI (tn1 + 1)), .int an, .int 2, .int (nI ts2_104)])), (qt, .inr (10, [.ref tb, .int (nI tl), .int (nI ta2_102), .int (nI tk2_103), .int (nI ts2_104)])), (tb, .inl (E.2.1 0, 160, .inl fb)), (po, .inl (E.2.1 1, 32, .inl fo1)), (pa, .inl (E.2.1 1, 32, .inl fa1))]) C hT [3, 4, 2, 0, 1] rfl rfl rfl rfl rfl dX5_readSaying_101 (Or.inr ⟨ta2_102, tk2_103, ts2_104, (nI n1), (nI (tn1 + 1)), 2, (nI ts2_104), fo1, fa1, rfl, rfl, (by first | assumption | omega | decide), (by first | assumption | omega | decide), (by first | assumption | omega | decide), (by omega), h_109⟩)
                    · refine ex6 hw ?_
                      clear hw
                      intro ta2_113 tk2_114 ts2_115 tn2_116 wr2_117 pl2_118 hw
                      refine an6 hw ?_
                      clear hw
                      intro he_124 he_125 h_119 h_120 h_121 h_122 hw
                      have h_123 := hw
                      clear hw
                      have he_124 := he_124.symm
                      subst he_124
                      subst he_125
                      refine ww_eq (ws' := [(po, .inl (E.2.1 1, 32, .inl fo1)), (pa, .inl (E.2.1 1, 32, .inl fa1)), (qs, .inr (5, [.ref qt, .ref po, .ref pa, .ref pf, .ref pd, .int (nI n1), .int tn2_116, .int an, .int wr2_117, .int pl2_118])), (qt, .inr (10, [.ref tb, .int (nI tl), .int (nI ta2_113), .int (nI tk2_114), .int (nI ts2_115)])), (tb, .inl (E.2.1 0, 160, .inl fb))]) ?_ rfl rfl rfl
                      refine ww_if_ne_f (tgt := 78) C dX5_readSaying_73 (by decide) (rfl) ?_
                      refine ww_iconst (v := 0) C dX5_readSaying_76 rfl ?_
                      exact ww_zret (u := [(qs, .inr (5, [.ref qt, .ref po, .ref pa, .ref pf, .ref pd, .int (nI n1), .int tn2_116, .int an, .int wr2_117, .int pl2_118])), (qt, .inr (10, [.ref tb, .int (nI tl), .int (nI ta2_113), .int (nI tk2_114), .int (nI ts2_115)])), (tb, .inl (E.2.1 0, 160, .inl fb)), (po, .inl (E.2.1 1, 32, .inl fo1)), (pa, .inl (E.2.1 1, 32, .inl fa1))]) C hT [2, 3, 4, 0, 1] rfl rfl rfl rfl rfl dX5_readSaying_77 (Or.inr ⟨ta2_113, tk2_114, ts2_115, (nI n1), tn2_116, wr2_117, pl2_118, fo1, fa1, rfl, rfl, (by first | assumption | omega | decide), (by first | assumption | omega | decide), (by first | assumption | omega | decide), (by omega), h_123⟩)
                  · have zc_100 : r_3.toInt = 5 := i_eq rfl rfl c_100
                    refine ww_iconst (v := 1) C dX5_readSaying_62 rfl ?_
                    refine ww_goto (tgt := 67) C dX5_readSaying_63 (by decide) ?_
                    refine ww_istore (lv' := [(5, .int 1), (4, .int 0), (3, .int r_3), (2, .int (nI n1)), (1, .int (nI op1)), (0, .ref qs)]) C dX5_readSaying_67 rfl rfl ?_
                    refine ww_aload_n C dX5_readSaying_69 5 rfl rfl ?_
                    refine ww_ci (wr := [(po, .inl (E.2.1 1, 32, .inl fo1)), (pa, .inl (E.2.1 1, 32, .inl fa1))]) (k' := 0) (n' := 0) C (run_V (As := []) (rest := []) C (q_take X.2.1 E ro qs qt po pa pf pd (nI n1) tn1 an wr pl tb tl ta1 tk1 ts1 fb (by omega) (by omega) (by omega) (by omega) (by omega) hfg1 (by omega)) mi_X5_take wl_X5_97 rfl 0 5 rfl rfl rfl rfl rfl dX5_readSaying_70) (roK hro) [2, 3, 4] [0, 1] rfl rfl rfl rfl (fun r_182 uz hw => ?_)
                    rcases hw with hw | hw
                    · refine ex3 hw ?_
                      clear hw
                      intro ta2_183 tk2_184 ts2_185 hw
                      refine an7 hw ?_
                      clear hw
                      intro he_192 he_193 h_186 h_187 h_188 h_189 h_190 hw
                      have h_191 := hw
                      clear hw
                      have he_192 := he_192.symm
                      subst he_192
                      subst he_193
                      refine ww_eq (ws' := [(po, .inl (E.2.1 1, 32, .inl fo1)), (pa, .inl (E.2.1 1, 32, .inl fa1)), (qs, .inr (5, [.ref qt, .ref po, .ref pa, .ref pf, .ref pd, .int (nI n1), .int (nI (tn1 + 1)), .int an, .int wr, .int pl])), (qt, .inr (10, [.ref tb, .int (nI tl), .int (nI ta2_183), .int (nI tk2_184), .int (nI ts2_185)])), (tb, .inl (E.2.1 0, 160, .inl fb))]) ?_ rfl rfl rfl
                      refine ww_if_ne_t (tgt := 78) C dX5_readSaying_73 (by decide) (by decide) ?_
                      refine ww_iload_n C dX5_readSaying_78 2 rfl rfl ?_
                      refine ww_iconst (v := 5) C dX5_readSaying_79 rfl ?_
                      refine ww_icmp_lt (tgt := 111) C dX5_readSaying_80 (by decide) (fun c_207 => ?_) (fun c_207 => ?_)
                      · have zc_207 : r_3.toInt < 5 := i_lt rfl rfl c_207
                        omega
                      · have zc_207 : r_3.toInt ≥ 5 := i_nlt rfl rfl c_207
                        refine ww_aload_n C dX5_readSaying_83 5 rfl rfl ?_
                        refine ww_iload C dX5_readSaying_84 0 rfl ?_
                        refine ww_ci (wr := [(po, .inl (E.2.1 1, 32, .inl fo1)), (pa, .inl (E.2.1 1, 32, .inl fa1))]) (k' := 0) (n' := 0) C (run_V (As := [.int 1]) (rest := []) C (q_knowers X.2.1 E ro qs 1 qt po pa pf pd (nI n1) (nI (tn1 + 1)) an wr pl tb tl ta2_183 tk2_184 ts2_185 fb (by omega) (by omega) (by omega) (by omega) (by omega) h_190) mi_X5_knowers wl_X5_100 rfl 0 5 rfl rfl rfl rfl rfl dX5_readSaying_86) (roK hro) [2, 3, 4] [0, 1] rfl rfl rfl rfl (fun r_208 uz hw => ?_)
                        have he_209 := hw
                        clear hw
                        subst he_209
                        refine ww_eq (ws' := [(po, .inl (E.2.1 1, 32, .inl fo1)), (pa, .inl (E.2.1 1, 32, .inl fa1)), (qs, .inr (5, [.ref qt, .ref po, .ref pa, .ref pf, .ref pd, .int (nI n1), .int (nI (tn1 + 1)), .int an, .int wr, .int pl])), (qt, .inr (10, [.ref tb, .int (nI tl), .int (nI ta2_183), .int (nI tk2_184), .int (nI ts2_185)])), (tb, .inl (E.2.1 0, 160, .inl fb))]) ?_ rfl rfl rfl
                        refine ww_istore (lv' := [(4, .int r_208), (5, .int 1), (3, .int r_3), (2, .int (nI n1)), (1, .int (nI op1)), (0, .ref qs)]) C dX5_readSaying_89 rfl rfl ?_
                        refine ww_iload C dX5_readSaying_91 0 rfl ?_
                        refine ww_if_ne (tgt := 102) C dX5_readSaying_93 (by decide) (fun c_210 => ?_) (fun c_210 => ?_)
                        · have zc_210 : r_208.toInt ≠ 0 := i_ne rfl rfl c_210
                          refine ww_aload_n C dX5_readSaying_102 5 rfl rfl ?_
                          refine ww_ci (wr := [(po, .inl (E.2.1 1, 32, .inl fo1)), (pa, .inl (E.2.1 1, 32, .inl fa1))]) (k' := 0) (n' := 0) C (run_V (As := []) (rest := []) C (q_take X.2.1 E ro qs qt po pa pf pd (nI n1) (tn1 + 1) an wr pl tb tl ta2_183 tk2_184 ts2_185 fb (by omega) (by omega) (by omega) (by omega) (by omega) h_190 (by omega)) mi_X5_take wl_X5_97 rfl 0 5 rfl rfl rfl rfl rfl dX5_readSaying_103) (roK hro) [2, 3, 4] [0, 1] rfl rfl rfl rfl (fun r_211 uz hw => ?_)
                          rcases hw with hw | hw
                          · refine ex3 hw ?_
                            clear hw
                            intro ta2_212 tk2_213 ts2_214 hw
                            refine an7 hw ?_
                            clear hw
                            intro he_221 he_222 h_215 h_216 h_217 h_218 h_219 hw
                            have h_220 := hw
                            clear hw
                            have he_221 := he_221.symm
                            subst he_221
                            subst he_222
                            refine ww_eq (ws' := [(po, .inl (E.2.1 1, 32, .inl fo1)), (pa, .inl (E.2.1 1, 32, .inl fa1)), (qs, .inr (5, [.ref qt, .ref po, .ref pa, .ref pf, .ref pd, .int (nI n1), .int (nI ((tn1 + 1) + 1)), .int an, .int wr, .int pl])), (qt, .inr (10, [.ref tb, .int (nI tl), .int (nI ta2_212), .int (nI tk2_213), .int (nI ts2_214)])), (tb, .inl (E.2.1 0, 160, .inl fb))]) ?_ rfl rfl rfl
                            refine ww_if_ne_t (tgt := 111) C dX5_readSaying_106 (by decide) (by decide) ?_
                            refine ww_aload_n C dX5_readSaying_111 5 rfl rfl ?_
                            refine ww_get C fg_X5_18 2 rfl rfl dX5_readSaying_112 ?_
                            refine ww_iload_n C dX5_readSaying_115 3 rfl rfl ?_
                            refine ww_iload_n C dX5_readSaying_116 2 rfl rfl ?_
                            obtain ⟨f_236, ef_236⟩ : ∃ z : Nat → Int32, upd fo1 n1 r_3 = z := ⟨_, rfl⟩
                            refine ww_iast (ws' := [(po, .inl (E.2.1 1, 32, .inl f_236)), (pa, .inl (E.2.1 1, 32, .inl fa1)), (qs, .inr (5, [.ref qt, .ref po, .ref pa, .ref pf, .ref pd, .int (nI n1), .int (nI ((tn1 + 1) + 1)), .int an, .int wr, .int pl])), (qt, .inr (10, [.ref tb, .int (nI tl), .int (nI ta2_212), .int (nI tk2_213), .int (nI ts2_214)])), (tb, .inl (E.2.1 0, 160, .inl fb))]) C 0 rfl (vp_in_nI (by omega) (by omega)) (ldn2 (by omega) ef_236) rfl dX5_readSaying_117 ?_
                            refine ww_aload_n C dX5_readSaying_118 5 rfl rfl ?_
                            refine ww_get C fg_X5_22 2 rfl rfl dX5_readSaying_119 ?_
                            refine ww_iload_n C dX5_readSaying_122 3 rfl rfl ?_
                            refine ww_iload C dX5_readSaying_123 0 rfl ?_
                            obtain ⟨f_237, ef_237⟩ : ∃ z : Nat → Int32, upd fa1 n1 r_208 = z := ⟨_, rfl⟩
                            refine ww_iast (ws' := [(po, .inl (E.2.1 1, 32, .inl f_236)), (pa, .inl (E.2.1 1, 32, .inl f_237)), (qs, .inr (5, [.ref qt, .ref po, .ref pa, .ref pf, .ref pd, .int (nI n1), .int (nI ((tn1 + 1) + 1)), .int an, .int wr, .int pl])), (qt, .inr (10, [.ref tb, .int (nI tl), .int (nI ta2_212), .int (nI tk2_213), .int (nI ts2_214)])), (tb, .inl (E.2.1 0, 160, .inl fb))]) C 1 rfl (vp_in_nI (by omega) (by omega)) (ldn2 (by omega) ef_237) rfl dX5_readSaying_125 ?_
                            refine ww_aload_n C dX5_readSaying_126 5 rfl rfl ?_
                            refine ww_iload_n C dX5_readSaying_127 3 rfl rfl ?_
                            refine ww_iconst (v := 1) C dX5_readSaying_128 rfl ?_
                            refine ww_iadd (v := (nI (n1 + 1))) C dX5_readSaying_129 (nI_add n1 1) ?_
                            refine ww_put (ws' := [(po, .inl (E.2.1 1, 32, .inl f_236)), (pa, .inl (E.2.1 1, 32, .inl f_237)), (qs, .inr (5, [.ref qt, .ref po, .ref pa, .ref pf, .ref pd, .int (nI (n1 + 1)), .int (nI ((tn1 + 1) + 1)), .int an, .int wr, .int pl])), (qt, .inr (10, [.ref tb, .int (nI tl), .int (nI ta2_212), .int (nI tk2_213), .int (nI ts2_214)])), (tb, .inl (E.2.1 0, 160, .inl fb))]) C fp_X5_31 2 rfl rfl rfl rfl rfl dX5_readSaying_130 ?_
                            refine ww_iload_n C dX5_readSaying_133 4 rfl rfl ?_
                            refine ww_iload_n C dX5_readSaying_134 2 rfl rfl ?_
                            refine ww_ci (wr := [(po, .inl (E.2.1 1, 32, .inl f_236)), (pa, .inl (E.2.1 1, 32, .inl f_237)), (qs, .inr (5, [.ref qt, .ref po, .ref pa, .ref pf, .ref pd, .int (nI (n1 + 1)), .int (nI ((tn1 + 1) + 1)), .int an, .int wr, .int pl])), (qt, .inr (10, [.ref tb, .int (nI tl), .int (nI ta2_212), .int (nI tk2_213), .int (nI ts2_214)])), (tb, .inl (E.2.1 0, 160, .inl fb))]) (k' := 0) (n' := 0) C (run_SN (As := [.int r_3]) (rest := [.int (nI op1)]) C (c_under X.2.1 E ro r_3) ms_X11_under (List.mem_of_getElem? (i := 14) rfl) rfl rfl rfl rfl dX5_readSaying_135) (roK hro) [] [0, 1, 2, 3, 4] rfl rfl rfl rfl (fun r_238 uz hw => ?_)
                            rcases hw with hw | hw | hw
                            · refine an2 hw ?_
                              clear hw
                              intro he_240 he_241 hw
                              have h_239 := hw
                              clear hw
                              have he_240 := he_240.symm
                              subst he_240
                              subst he_241
                              refine ww_eq (ws' := [(po, .inl (E.2.1 1, 32, .inl f_236)), (pa, .inl (E.2.1 1, 32, .inl f_237)), (qs, .inr (5, [.ref qt, .ref po, .ref pa, .ref pf, .ref pd, .int (nI (n1 + 1)), .int (nI ((tn1 + 1) + 1)), .int an, .int wr, .int pl])), (qt, .inr (10, [.ref tb, .int (nI tl), .int (nI ta2_212), .int (nI tk2_213), .int (nI ts2_214)])), (tb, .inl (E.2.1 0, 160, .inl fb))]) ?_ rfl rfl rfl
                              have hun := uN_a0 (x := r_3) (by assumption)
                              have hov := OPV.ext hopv ef_236 (by omega) (by omega) (by omega)
                              have hov2 := hov.2
                              refine ww_iconst (v := 1) C dX5_readSaying_138 rfl ?_
                              refine ww_isub (v := (-1)) C dX5_readSaying_139 (by decide) ?_
                              refine ww_iadd (v := (nI (op1 - 1))) C dX5_readSaying_140 (nI_subc (a := op1) (c := 1) (by omega) rfl) ?_
                              refine ww_istore_n (lv' := [(1, .int (nI (op1 - 1))), (4, .int r_208), (5, .int 1), (3, .int r_3), (2, .int (nI n1)), (0, .ref qs)]) C dX5_readSaying_141 rfl rfl rfl ?_
                              refine ww_iinc (j := 4) (v := (nI (n1 + 1))) (lv' := [(2, .int (nI (n1 + 1))), (1, .int (nI (op1 - 1))), (4, .int r_208), (5, .int 1), (3, .int r_3), (0, .ref qs)]) C dX5_readSaying_142 rfl (nI_add n1 1) rfl rfl ?_
                              refine ww_goto (tgt := 4) C dX5_readSaying_145 (by decide) ?_
                              exact ww_lv [0, 1, 5] rfl (ww_sub [2, 3, 4, 0, 1] rfl rfl (ih_4 (n1 + 1) (op1 - 1) ((tn1 + 1) + 1) ta2_212 tk2_213 ts2_214 f_236 f_237 (by omega) (by omega) (by omega) hov.1 (by omega) (by omega) (by omega) (by omega) (by omega) (by omega) h_219 (by omega)))
                            · refine an2 hw ?_
                              clear hw
                              intro he_243 he_244 hw
                              have h_242 := hw
                              clear hw
                              have he_243 := he_243.symm
                              subst he_243
                              subst he_244
                              refine ww_eq (ws' := [(po, .inl (E.2.1 1, 32, .inl f_236)), (pa, .inl (E.2.1 1, 32, .inl f_237)), (qs, .inr (5, [.ref qt, .ref po, .ref pa, .ref pf, .ref pd, .int (nI (n1 + 1)), .int (nI ((tn1 + 1) + 1)), .int an, .int wr, .int pl])), (qt, .inr (10, [.ref tb, .int (nI tl), .int (nI ta2_212), .int (nI tk2_213), .int (nI ts2_214)])), (tb, .inl (E.2.1 0, 160, .inl fb))]) ?_ rfl rfl rfl
                              have hun := uN_a2 (x := r_3) (by assumption)
                              have hov := OPV.ext hopv ef_236 (by omega) (by omega) (by omega)
                              have hov2 := hov.2
                              refine ww_iconst (v := 1) C dX5_readSaying_138 rfl ?_
                              refine ww_isub (v := 1) C dX5_readSaying_139 (by decide) ?_
                              refine ww_iadd (v := (nI (op1 + 1))) C dX5_readSaying_140 (nI_add op1 1) ?_
                              refine ww_istore_n (lv' := [(1, .int (nI (op1 + 1))), (4, .int r_208), (5, .int 1), (3, .int r_3), (2, .int (nI n1)), (0, .ref qs)]) C dX5_readSaying_141 rfl rfl rfl ?_
                              refine ww_iinc (j := 4) (v := (nI (n1 + 1))) (lv' := [(2, .int (nI (n1 + 1))), (1, .int (nI (op1 + 1))), (4, .int r_208), (5, .int 1), (3, .int r_3), (0, .ref qs)]) C dX5_readSaying_142 rfl (nI_add n1 1) rfl rfl ?_
                              refine ww_goto (tgt := 4) C dX5_readSaying_145 (by decide) ?_
                              exact ww_lv [0, 1, 5] rfl (ww_sub [2, 3, 4, 0, 1] rfl rfl (ih_4 (n1 + 1) (op1 + 1) ((tn1 + 1) + 1) ta2_212 tk2_213 ts2_214 f_236 f_237 (by omega) (by omega) (by omega) hov.1 (by omega) (by omega) (by omega) (by omega) (by omega) (by omega) h_219 (by omega)))
                            · refine an2 hw ?_
                              clear hw
                              intro he_246 he_247 hw
                              have h_245 := hw
                              clear hw
                              have he_246 := he_246.symm
                              subst he_246
                              subst he_247
                              refine ww_eq (ws' := [(po, .inl (E.2.1 1, 32, .inl f_236)), (pa, .inl (E.2.1 1, 32, .inl f_237)), (qs, .inr (5, [.ref qt, .ref po, .ref pa, .ref pf, .ref pd, .int (nI (n1 + 1)), .int (nI ((tn1 + 1) + 1)), .int an, .int wr, .int pl])), (qt, .inr (10, [.ref tb, .int (nI tl), .int (nI ta2_212), .int (nI tk2_213), .int (nI ts2_214)])), (tb, .inl (E.2.1 0, 160, .inl fb))]) ?_ rfl rfl rfl
                              have hun := uN_a1 (x := r_3) (by assumption)
                              have hov := OPV.ext hopv ef_236 (by omega) (by omega) (by omega)
                              have hov2 := hov.2
                              refine ww_iconst (v := 1) C dX5_readSaying_138 rfl ?_
                              refine ww_isub (v := 0) C dX5_readSaying_139 (by decide) ?_
                              refine ww_iadd (v := (nI op1)) C dX5_readSaying_140 (nI_add op1 0) ?_
                              refine ww_istore_n (lv' := [(1, .int (nI op1)), (4, .int r_208), (5, .int 1), (3, .int r_3), (2, .int (nI n1)), (0, .ref qs)]) C dX5_readSaying_141 rfl rfl rfl ?_
                              refine ww_iinc (j := 4) (v := (nI (n1 + 1))) (lv' := [(2, .int (nI (n1 + 1))), (1, .int (nI op1)), (4, .int r_208), (5, .int 1), (3, .int r_3), (0, .ref qs)]) C dX5_readSaying_142 rfl (nI_add n1 1) rfl rfl ?_
                              refine ww_goto (tgt := 4) C dX5_readSaying_145 (by decide) ?_
                              exact ww_lv [0, 1, 5] rfl (ww_sub [2, 3, 4, 0, 1] rfl rfl (ih_4 (n1 + 1) op1 ((tn1 + 1) + 1) ta2_212 tk2_213 ts2_214 f_236 f_237 (by omega) (by omega) (by omega) hov.1 (by omega) (by omega) (by omega) (by omega) (by omega) (by omega) h_219 (by omega)))
                          · refine ex6 hw ?_
                            clear hw
                            intro ta2_223 tk2_224 ts2_225 tn2_226 wr2_227 pl2_228 hw
                            refine an6 hw ?_
                            clear hw
                            intro he_234 he_235 h_229 h_230 h_231 h_232 hw
                            have h_233 := hw
                            clear hw
                            have he_234 := he_234.symm
                            subst he_234
                            subst he_235
                            refine ww_eq (ws' := [(po, .inl (E.2.1 1, 32, .inl fo1)), (pa, .inl (E.2.1 1, 32, .inl fa1)), (qs, .inr (5, [.ref qt, .ref po, .ref pa, .ref pf, .ref pd, .int (nI n1), .int tn2_226, .int an, .int wr2_227, .int pl2_228])), (qt, .inr (10, [.ref tb, .int (nI tl), .int (nI ta2_223), .int (nI tk2_224), .int (nI ts2_225)])), (tb, .inl (E.2.1 0, 160, .inl fb))]) ?_ rfl rfl rfl
                            refine ww_if_ne_f (tgt := 111) C dX5_readSaying_106 (by decide) (rfl) ?_
                            refine ww_iconst (v := 0) C dX5_readSaying_109 rfl ?_
                            exact ww_zret (u := [(qs, .inr (5, [.ref qt, .ref po, .ref pa, .ref pf, .ref pd, .int (nI n1), .int tn2_226, .int an, .int wr2_227, .int pl2_228])), (qt, .inr (10, [.ref tb, .int (nI tl), .int (nI ta2_223), .int (nI tk2_224), .int (nI ts2_225)])), (tb, .inl (E.2.1 0, 160, .inl fb)), (po, .inl (E.2.1 1, 32, .inl fo1)), (pa, .inl (E.2.1 1, 32, .inl fa1))]) C hT [2, 3, 4, 0, 1] rfl rfl rfl rfl rfl dX5_readSaying_110 (Or.inr ⟨ta2_223, tk2_224, ts2_225, (nI n1), tn2_226, wr2_227, pl2_228, fo1, fa1, rfl, rfl, (by first | assumption | omega | decide), (by first | assumption | omega | decide), (by first | assumption | omega | decide), (by omega), h_233⟩)
                        · have zc_210 : r_208.toInt = 0 := i_eq rfl rfl c_210
                          refine ww_aload_n C dX5_readSaying_96 5 rfl rfl ?_
                          refine ww_iconst (v := 2) C dX5_readSaying_97 rfl ?_
                          refine ww_ci (wr := [(po, .inl (E.2.1 1, 32, .inl fo1)), (pa, .inl (E.2.1 1, 32, .inl fa1)), (tb, .inl (E.2.1 0, 160, .inl fb))]) (k' := 0) (n' := 0) C (run_V (As := [.int 2]) (rest := []) C (q_fail X.2.1 E ro qs 2 qt po pa pf pd (nI n1) (nI (tn1 + 1)) an wr pl tb tl (nI ta2_183) tk2_184 ts2_185 (by omega)) mi_X5_fail wl_X5_63 rfl 0 5 rfl rfl rfl rfl rfl dX5_readSaying_98) (roK hro) [2, 3] [0, 1, 4] rfl rfl rfl rfl (fun r_248 uz hw => ?_)
                          refine an1 hw ?_
                          clear hw
                          intro he_249 hw
                          have he_250 := hw
                          clear hw
                          have he_249 := he_249.symm
                          subst he_249
                          subst he_250
                          refine ww_eq (ws' := [(po, .inl (E.2.1 1, 32, .inl fo1)), (pa, .inl (E.2.1 1, 32, .inl fa1)), (tb, .inl (E.2.1 0, 160, .inl fb)), (qs, .inr (5, [.ref qt, .ref po, .ref pa, .ref pf, .ref pd, .int (nI n1), .int (nI (tn1 + 1)), .int an, .int 2, .int (nI ts2_185)])), (qt, .inr (10, [.ref tb, .int (nI tl), .int (nI ta2_183), .int (nI tk2_184), .int (nI ts2_185)]))]) ?_ rfl rfl rfl
                          exact ww_zret (u := [(qs, .inr (5, [.ref qt, .ref po, .ref pa, .ref pf, .ref pd, .int (nI n1), .int (nI (tn1 + 1)), .int an, .int 2, .int (nI ts2_185)])), (qt, .inr (10, [.ref tb, .int (nI tl), .int (nI ta2_183), .int (nI tk2_184), .int (nI ts2_185)])), (tb, .inl (E.2.1 0, 160, .inl fb)), (po, .inl (E.2.1 1, 32, .inl fo1)), (pa, .inl (E.2.1 1, 32, .inl fa1))]) C hT [3, 4, 2, 0, 1] rfl rfl rfl rfl rfl dX5_readSaying_101 (Or.inr ⟨ta2_183, tk2_184, ts2_185, (nI n1), (nI (tn1 + 1)), 2, (nI ts2_185), fo1, fa1, rfl, rfl, (by first | assumption | omega | decide), (by first | assumption | omega | decide), (by first | assumption | omega | decide), (by omega), h_190⟩)
                    · refine ex6 hw ?_
                      clear hw
                      intro ta2_194 tk2_195 ts2_196 tn2_197 wr2_198 pl2_199 hw
                      refine an6 hw ?_
                      clear hw
                      intro he_205 he_206 h_200 h_201 h_202 h_203 hw
                      have h_204 := hw
                      clear hw
                      have he_205 := he_205.symm
                      subst he_205
                      subst he_206
                      refine ww_eq (ws' := [(po, .inl (E.2.1 1, 32, .inl fo1)), (pa, .inl (E.2.1 1, 32, .inl fa1)), (qs, .inr (5, [.ref qt, .ref po, .ref pa, .ref pf, .ref pd, .int (nI n1), .int tn2_197, .int an, .int wr2_198, .int pl2_199])), (qt, .inr (10, [.ref tb, .int (nI tl), .int (nI ta2_194), .int (nI tk2_195), .int (nI ts2_196)])), (tb, .inl (E.2.1 0, 160, .inl fb))]) ?_ rfl rfl rfl
                      refine ww_if_ne_f (tgt := 78) C dX5_readSaying_73 (by decide) (rfl) ?_
                      refine ww_iconst (v := 0) C dX5_readSaying_76 rfl ?_
                      exact ww_zret (u := [(qs, .inr (5, [.ref qt, .ref po, .ref pa, .ref pf, .ref pd, .int (nI n1), .int tn2_197, .int an, .int wr2_198, .int pl2_199])), (qt, .inr (10, [.ref tb, .int (nI tl), .int (nI ta2_194), .int (nI tk2_195), .int (nI ts2_196)])), (tb, .inl (E.2.1 0, 160, .inl fb)), (po, .inl (E.2.1 1, 32, .inl fo1)), (pa, .inl (E.2.1 1, 32, .inl fa1))]) C hT [2, 3, 4, 0, 1] rfl rfl rfl rfl rfl dX5_readSaying_77 (Or.inr ⟨ta2_194, tk2_195, ts2_196, (nI n1), tn2_197, wr2_198, pl2_199, fo1, fa1, rfl, rfl, (by first | assumption | omega | decide), (by first | assumption | omega | decide), (by first | assumption | omega | decide), (by omega), h_204⟩)
              · have zc_13 : r_3.toInt = 0 := i_eq rfl rfl c_13
                refine ww_aload_n C dX5_readSaying_35 3 rfl rfl ?_
                refine ww_ci (wr := [(po, .inl (E.2.1 1, 32, .inl fo1)), (pa, .inl (E.2.1 1, 32, .inl fa1))]) (k' := 0) (n' := 0) C (run_V (As := []) (rest := []) C (q_factOfName X.2.1 E ro qs qt po pa pf pd (nI n1) (nI tn1) an wr pl tb tl ta1 tk1 ts1 fb (by omega) (by omega) (by omega) (by omega) (by omega) hfg1) mi_X5_factOfName wl_X5_92 rfl 0 5 rfl rfl rfl rfl rfl dX5_readSaying_36) (roK hro) [2, 3, 4] [0, 1] rfl rfl rfl rfl (fun r_251 uz hw => ?_)
                have he_252 := hw
                clear hw
                subst he_252
                refine ww_eq (ws' := [(po, .inl (E.2.1 1, 32, .inl fo1)), (pa, .inl (E.2.1 1, 32, .inl fa1)), (qs, .inr (5, [.ref qt, .ref po, .ref pa, .ref pf, .ref pd, .int (nI n1), .int (nI tn1), .int an, .int wr, .int pl])), (qt, .inr (10, [.ref tb, .int (nI tl), .int (nI ta1), .int (nI tk1), .int (nI ts1)])), (tb, .inl (E.2.1 0, 160, .inl fb))]) ?_ rfl rfl rfl
                refine ww_goto (tgt := 43) C dX5_readSaying_39 (by decide) ?_
                refine ww_istore (lv' := [(4, .int r_251), (3, .int r_3), (2, .int (nI n1)), (1, .int (nI op1)), (0, .ref qs)]) C dX5_readSaying_43 rfl rfl ?_
                refine ww_aload_n C dX5_readSaying_45 4 rfl rfl ?_
                refine ww_get C fg_X5_12 2 rfl rfl dX5_readSaying_46 ?_
                refine ww_ldcS (tx := "know") C (List.mem_of_getElem? (i := 9) rfl) rfl dX5_readSaying_49 ?_
                refine ww_ci (wr := [(po, .inl (E.2.1 1, 32, .inl fo1)), (pa, .inl (E.2.1 1, 32, .inl fa1)), (qs, .inr (5, [.ref qt, .ref po, .ref pa, .ref pf, .ref pd, .int (nI n1), .int (nI tn1), .int an, .int wr, .int pl]))]) (k' := 0) (n' := 0) C (run_V (As := [.ref (E.2.2 95)]) (rest := []) C (t_isName X.2.1 E ro qt tb tl ta1 tk1 ts1 fb 9 (by decide) (by omega) (by omega) (by omega) (by omega)) mi_X10_isName wl_X5_78 rfl 0 10 rfl rfl rfl rfl rfl dX5_readSaying_51) (roK hro) [3, 4] [0, 1, 2] rfl rfl rfl rfl (fun r_253 uz hw => ?_)
                rcases hw with hw | hw
                · refine an1 hw ?_
                  clear hw
                  intro he_254 hw
                  have he_255 := hw
                  clear hw
                  have he_254 := he_254.symm
                  subst he_254
                  subst he_255
                  refine ww_eq (ws' := [(po, .inl (E.2.1 1, 32, .inl fo1)), (pa, .inl (E.2.1 1, 32, .inl fa1)), (qs, .inr (5, [.ref qt, .ref po, .ref pa, .ref pf, .ref pd, .int (nI n1), .int (nI tn1), .int an, .int wr, .int pl])), (qt, .inr (10, [.ref tb, .int (nI tl), .int (nI ta1), .int (nI tk1), .int (nI ts1)])), (tb, .inl (E.2.1 0, 160, .inl fb))]) ?_ rfl rfl rfl
                  refine ww_if_ne_t (tgt := 62) C dX5_readSaying_54 (by decide) (by decide) ?_
                  refine ww_iconst (v := 1) C dX5_readSaying_62 rfl ?_
                  refine ww_goto (tgt := 67) C dX5_readSaying_63 (by decide) ?_
                  refine ww_istore (lv' := [(5, .int 1), (4, .int r_251), (3, .int r_3), (2, .int (nI n1)), (1, .int (nI op1)), (0, .ref qs)]) C dX5_readSaying_67 rfl rfl ?_
                  refine ww_aload_n C dX5_readSaying_69 5 rfl rfl ?_
                  refine ww_ci (wr := [(po, .inl (E.2.1 1, 32, .inl fo1)), (pa, .inl (E.2.1 1, 32, .inl fa1))]) (k' := 0) (n' := 0) C (run_V (As := []) (rest := []) C (q_take X.2.1 E ro qs qt po pa pf pd (nI n1) tn1 an wr pl tb tl ta1 tk1 ts1 fb (by omega) (by omega) (by omega) (by omega) (by omega) hfg1 (by omega)) mi_X5_take wl_X5_97 rfl 0 5 rfl rfl rfl rfl rfl dX5_readSaying_70) (roK hro) [2, 3, 4] [0, 1] rfl rfl rfl rfl (fun r_258 uz hw => ?_)
                  rcases hw with hw | hw
                  · refine ex3 hw ?_
                    clear hw
                    intro ta2_259 tk2_260 ts2_261 hw
                    refine an7 hw ?_
                    clear hw
                    intro he_268 he_269 h_262 h_263 h_264 h_265 h_266 hw
                    have h_267 := hw
                    clear hw
                    have he_268 := he_268.symm
                    subst he_268
                    subst he_269
                    refine ww_eq (ws' := [(po, .inl (E.2.1 1, 32, .inl fo1)), (pa, .inl (E.2.1 1, 32, .inl fa1)), (qs, .inr (5, [.ref qt, .ref po, .ref pa, .ref pf, .ref pd, .int (nI n1), .int (nI (tn1 + 1)), .int an, .int wr, .int pl])), (qt, .inr (10, [.ref tb, .int (nI tl), .int (nI ta2_259), .int (nI tk2_260), .int (nI ts2_261)])), (tb, .inl (E.2.1 0, 160, .inl fb))]) ?_ rfl rfl rfl
                    refine ww_if_ne_t (tgt := 78) C dX5_readSaying_73 (by decide) (by decide) ?_
                    refine ww_iload_n C dX5_readSaying_78 2 rfl rfl ?_
                    refine ww_iconst (v := 5) C dX5_readSaying_79 rfl ?_
                    refine ww_icmp_lt (tgt := 111) C dX5_readSaying_80 (by decide) (fun c_283 => ?_) (fun c_283 => ?_)
                    · have zc_283 : r_3.toInt < 5 := i_lt rfl rfl c_283
                      refine ww_aload_n C dX5_readSaying_111 5 rfl rfl ?_
                      refine ww_get C fg_X5_18 2 rfl rfl dX5_readSaying_112 ?_
                      refine ww_iload_n C dX5_readSaying_115 3 rfl rfl ?_
                      refine ww_iload_n C dX5_readSaying_116 2 rfl rfl ?_
                      obtain ⟨f_284, ef_284⟩ : ∃ z : Nat → Int32, upd fo1 n1 r_3 = z := ⟨_, rfl⟩
                      refine ww_iast (ws' := [(po, .inl (E.2.1 1, 32, .inl f_284)), (pa, .inl (E.2.1 1, 32, .inl fa1)), (qs, .inr (5, [.ref qt, .ref po, .ref pa, .ref pf, .ref pd, .int (nI n1), .int (nI (tn1 + 1)), .int an, .int wr, .int pl])), (qt, .inr (10, [.ref tb, .int (nI tl), .int (nI ta2_259), .int (nI tk2_260), .int (nI ts2_261)])), (tb, .inl (E.2.1 0, 160, .inl fb))]) C 0 rfl (vp_in_nI (by omega) (by omega)) (ldn2 (by omega) ef_284) rfl dX5_readSaying_117 ?_
                      refine ww_aload_n C dX5_readSaying_118 5 rfl rfl ?_
                      refine ww_get C fg_X5_22 2 rfl rfl dX5_readSaying_119 ?_
                      refine ww_iload_n C dX5_readSaying_122 3 rfl rfl ?_
                      refine ww_iload C dX5_readSaying_123 1 rfl ?_
                      obtain ⟨f_285, ef_285⟩ : ∃ z : Nat → Int32, upd fa1 n1 r_251 = z := ⟨_, rfl⟩
                      refine ww_iast (ws' := [(po, .inl (E.2.1 1, 32, .inl f_284)), (pa, .inl (E.2.1 1, 32, .inl f_285)), (qs, .inr (5, [.ref qt, .ref po, .ref pa, .ref pf, .ref pd, .int (nI n1), .int (nI (tn1 + 1)), .int an, .int wr, .int pl])), (qt, .inr (10, [.ref tb, .int (nI tl), .int (nI ta2_259), .int (nI tk2_260), .int (nI ts2_261)])), (tb, .inl (E.2.1 0, 160, .inl fb))]) C 1 rfl (vp_in_nI (by omega) (by omega)) (ldn2 (by omega) ef_285) rfl dX5_readSaying_125 ?_
                      refine ww_aload_n C dX5_readSaying_126 5 rfl rfl ?_
                      refine ww_iload_n C dX5_readSaying_127 3 rfl rfl ?_
                      refine ww_iconst (v := 1) C dX5_readSaying_128 rfl ?_
                      refine ww_iadd (v := (nI (n1 + 1))) C dX5_readSaying_129 (nI_add n1 1) ?_
                      refine ww_put (ws' := [(po, .inl (E.2.1 1, 32, .inl f_284)), (pa, .inl (E.2.1 1, 32, .inl f_285)), (qs, .inr (5, [.ref qt, .ref po, .ref pa, .ref pf, .ref pd, .int (nI (n1 + 1)), .int (nI (tn1 + 1)), .int an, .int wr, .int pl])), (qt, .inr (10, [.ref tb, .int (nI tl), .int (nI ta2_259), .int (nI tk2_260), .int (nI ts2_261)])), (tb, .inl (E.2.1 0, 160, .inl fb))]) C fp_X5_31 2 rfl rfl rfl rfl rfl dX5_readSaying_130 ?_
                      refine ww_iload_n C dX5_readSaying_133 4 rfl rfl ?_
                      refine ww_iload_n C dX5_readSaying_134 2 rfl rfl ?_
                      refine ww_ci (wr := [(po, .inl (E.2.1 1, 32, .inl f_284)), (pa, .inl (E.2.1 1, 32, .inl f_285)), (qs, .inr (5, [.ref qt, .ref po, .ref pa, .ref pf, .ref pd, .int (nI (n1 + 1)), .int (nI (tn1 + 1)), .int an, .int wr, .int pl])), (qt, .inr (10, [.ref tb, .int (nI tl), .int (nI ta2_259), .int (nI tk2_260), .int (nI ts2_261)])), (tb, .inl (E.2.1 0, 160, .inl fb))]) (k' := 0) (n' := 0) C (run_SN (As := [.int r_3]) (rest := [.int (nI op1)]) C (c_under X.2.1 E ro r_3) ms_X11_under (List.mem_of_getElem? (i := 14) rfl) rfl rfl rfl rfl dX5_readSaying_135) (roK hro) [] [0, 1, 2, 3, 4] rfl rfl rfl rfl (fun r_286 uz hw => ?_)
                      rcases hw with hw | hw | hw
                      · refine an2 hw ?_
                        clear hw
                        intro he_288 he_289 hw
                        have h_287 := hw
                        clear hw
                        have he_288 := he_288.symm
                        subst he_288
                        subst he_289
                        refine ww_eq (ws' := [(po, .inl (E.2.1 1, 32, .inl f_284)), (pa, .inl (E.2.1 1, 32, .inl f_285)), (qs, .inr (5, [.ref qt, .ref po, .ref pa, .ref pf, .ref pd, .int (nI (n1 + 1)), .int (nI (tn1 + 1)), .int an, .int wr, .int pl])), (qt, .inr (10, [.ref tb, .int (nI tl), .int (nI ta2_259), .int (nI tk2_260), .int (nI ts2_261)])), (tb, .inl (E.2.1 0, 160, .inl fb))]) ?_ rfl rfl rfl
                        have hun := uN_a0 (x := r_3) (by assumption)
                        have hov := OPV.ext hopv ef_284 (by omega) (by omega) (by omega)
                        have hov2 := hov.2
                        refine ww_iconst (v := 1) C dX5_readSaying_138 rfl ?_
                        refine ww_isub (v := (-1)) C dX5_readSaying_139 (by decide) ?_
                        refine ww_iadd (v := (nI (op1 - 1))) C dX5_readSaying_140 (nI_subc (a := op1) (c := 1) (by omega) rfl) ?_
                        refine ww_istore_n (lv' := [(1, .int (nI (op1 - 1))), (5, .int 1), (4, .int r_251), (3, .int r_3), (2, .int (nI n1)), (0, .ref qs)]) C dX5_readSaying_141 rfl rfl rfl ?_
                        refine ww_iinc (j := 4) (v := (nI (n1 + 1))) (lv' := [(2, .int (nI (n1 + 1))), (1, .int (nI (op1 - 1))), (5, .int 1), (4, .int r_251), (3, .int r_3), (0, .ref qs)]) C dX5_readSaying_142 rfl (nI_add n1 1) rfl rfl ?_
                        refine ww_goto (tgt := 4) C dX5_readSaying_145 (by decide) ?_
                        exact ww_lv [0, 1, 5] rfl (ww_sub [2, 3, 4, 0, 1] rfl rfl (ih_4 (n1 + 1) (op1 - 1) (tn1 + 1) ta2_259 tk2_260 ts2_261 f_284 f_285 (by omega) (by omega) (by omega) hov.1 (by omega) (by omega) (by omega) (by omega) (by omega) (by omega) h_266 (by omega)))
                      · refine an2 hw ?_
                        clear hw
                        intro he_291 he_292 hw
                        have h_290 := hw
                        clear hw
                        have he_291 := he_291.symm
                        subst he_291
                        subst he_292
                        refine ww_eq (ws' := [(po, .inl (E.2.1 1, 32, .inl f_284)), (pa, .inl (E.2.1 1, 32, .inl f_285)), (qs, .inr (5, [.ref qt, .ref po, .ref pa, .ref pf, .ref pd, .int (nI (n1 + 1)), .int (nI (tn1 + 1)), .int an, .int wr, .int pl])), (qt, .inr (10, [.ref tb, .int (nI tl), .int (nI ta2_259), .int (nI tk2_260), .int (nI ts2_261)])), (tb, .inl (E.2.1 0, 160, .inl fb))]) ?_ rfl rfl rfl
                        have hun := uN_a2 (x := r_3) (by assumption)
                        have hov := OPV.ext hopv ef_284 (by omega) (by omega) (by omega)
                        have hov2 := hov.2
                        refine ww_iconst (v := 1) C dX5_readSaying_138 rfl ?_
                        refine ww_isub (v := 1) C dX5_readSaying_139 (by decide) ?_
                        refine ww_iadd (v := (nI (op1 + 1))) C dX5_readSaying_140 (nI_add op1 1) ?_
                        refine ww_istore_n (lv' := [(1, .int (nI (op1 + 1))), (5, .int 1), (4, .int r_251), (3, .int r_3), (2, .int (nI n1)), (0, .ref qs)]) C dX5_readSaying_141 rfl rfl rfl ?_
                        refine ww_iinc (j := 4) (v := (nI (n1 + 1))) (lv' := [(2, .int (nI (n1 + 1))), (1, .int (nI (op1 + 1))), (5, .int 1), (4, .int r_251), (3, .int r_3), (0, .ref qs)]) C dX5_readSaying_142 rfl (nI_add n1 1) rfl rfl ?_
                        refine ww_goto (tgt := 4) C dX5_readSaying_145 (by decide) ?_
                        exact ww_lv [0, 1, 5] rfl (ww_sub [2, 3, 4, 0, 1] rfl rfl (ih_4 (n1 + 1) (op1 + 1) (tn1 + 1) ta2_259 tk2_260 ts2_261 f_284 f_285 (by omega) (by omega) (by omega) hov.1 (by omega) (by omega) (by omega) (by omega) (by omega) (by omega) h_266 (by omega)))
                      · refine an2 hw ?_
                        clear hw
                        intro he_294 he_295 hw
                        have h_293 := hw
                        clear hw
                        have he_294 := he_294.symm
                        subst he_294
                        subst he_295
                        refine ww_eq (ws' := [(po, .inl (E.2.1 1, 32, .inl f_284)), (pa, .inl (E.2.1 1, 32, .inl f_285)), (qs, .inr (5, [.ref qt, .ref po, .ref pa, .ref pf, .ref pd, .int (nI (n1 + 1)), .int (nI (tn1 + 1)), .int an, .int wr, .int pl])), (qt, .inr (10, [.ref tb, .int (nI tl), .int (nI ta2_259), .int (nI tk2_260), .int (nI ts2_261)])), (tb, .inl (E.2.1 0, 160, .inl fb))]) ?_ rfl rfl rfl
                        have hun := uN_a1 (x := r_3) (by assumption)
                        have hov := OPV.ext hopv ef_284 (by omega) (by omega) (by omega)
                        have hov2 := hov.2
                        refine ww_iconst (v := 1) C dX5_readSaying_138 rfl ?_
                        refine ww_isub (v := 0) C dX5_readSaying_139 (by decide) ?_
                        refine ww_iadd (v := (nI op1)) C dX5_readSaying_140 (nI_add op1 0) ?_
                        refine ww_istore_n (lv' := [(1, .int (nI op1)), (5, .int 1), (4, .int r_251), (3, .int r_3), (2, .int (nI n1)), (0, .ref qs)]) C dX5_readSaying_141 rfl rfl rfl ?_
                        refine ww_iinc (j := 4) (v := (nI (n1 + 1))) (lv' := [(2, .int (nI (n1 + 1))), (1, .int (nI op1)), (5, .int 1), (4, .int r_251), (3, .int r_3), (0, .ref qs)]) C dX5_readSaying_142 rfl (nI_add n1 1) rfl rfl ?_
                        refine ww_goto (tgt := 4) C dX5_readSaying_145 (by decide) ?_
                        exact ww_lv [0, 1, 5] rfl (ww_sub [2, 3, 4, 0, 1] rfl rfl (ih_4 (n1 + 1) op1 (tn1 + 1) ta2_259 tk2_260 ts2_261 f_284 f_285 (by omega) (by omega) (by omega) hov.1 (by omega) (by omega) (by omega) (by omega) (by omega) (by omega) h_266 (by omega)))
                    · have zc_283 : r_3.toInt ≥ 5 := i_nlt rfl rfl c_283
                      omega
                  · refine ex6 hw ?_
                    clear hw
                    intro ta2_270 tk2_271 ts2_272 tn2_273 wr2_274 pl2_275 hw
                    refine an6 hw ?_
                    clear hw
                    intro he_281 he_282 h_276 h_277 h_278 h_279 hw
                    have h_280 := hw
                    clear hw
                    have he_281 := he_281.symm
                    subst he_281
                    subst he_282
                    refine ww_eq (ws' := [(po, .inl (E.2.1 1, 32, .inl fo1)), (pa, .inl (E.2.1 1, 32, .inl fa1)), (qs, .inr (5, [.ref qt, .ref po, .ref pa, .ref pf, .ref pd, .int (nI n1), .int tn2_273, .int an, .int wr2_274, .int pl2_275])), (qt, .inr (10, [.ref tb, .int (nI tl), .int (nI ta2_270), .int (nI tk2_271), .int (nI ts2_272)])), (tb, .inl (E.2.1 0, 160, .inl fb))]) ?_ rfl rfl rfl
                    refine ww_if_ne_f (tgt := 78) C dX5_readSaying_73 (by decide) (rfl) ?_
                    refine ww_iconst (v := 0) C dX5_readSaying_76 rfl ?_
                    exact ww_zret (u := [(qs, .inr (5, [.ref qt, .ref po, .ref pa, .ref pf, .ref pd, .int (nI n1), .int tn2_273, .int an, .int wr2_274, .int pl2_275])), (qt, .inr (10, [.ref tb, .int (nI tl), .int (nI ta2_270), .int (nI tk2_271), .int (nI ts2_272)])), (tb, .inl (E.2.1 0, 160, .inl fb)), (po, .inl (E.2.1 1, 32, .inl fo1)), (pa, .inl (E.2.1 1, 32, .inl fa1))]) C hT [2, 3, 4, 0, 1] rfl rfl rfl rfl rfl dX5_readSaying_77 (Or.inr ⟨ta2_270, tk2_271, ts2_272, (nI n1), tn2_273, wr2_274, pl2_275, fo1, fa1, rfl, rfl, (by first | assumption | omega | decide), (by first | assumption | omega | decide), (by first | assumption | omega | decide), (by omega), h_280⟩)
                · refine an1 hw ?_
                  clear hw
                  intro he_256 hw
                  have he_257 := hw
                  clear hw
                  have he_256 := he_256.symm
                  subst he_256
                  subst he_257
                  refine ww_eq (ws' := [(po, .inl (E.2.1 1, 32, .inl fo1)), (pa, .inl (E.2.1 1, 32, .inl fa1)), (qs, .inr (5, [.ref qt, .ref po, .ref pa, .ref pf, .ref pd, .int (nI n1), .int (nI tn1), .int an, .int wr, .int pl])), (qt, .inr (10, [.ref tb, .int (nI tl), .int (nI ta1), .int (nI tk1), .int (nI ts1)])), (tb, .inl (E.2.1 0, 160, .inl fb))]) ?_ rfl rfl rfl
                  refine ww_if_ne_f (tgt := 62) C dX5_readSaying_54 (by decide) (rfl) ?_
                  refine ww_iload_n C dX5_readSaying_57 1 rfl rfl ?_
                  refine ww_iconst (v := 5) C dX5_readSaying_58 rfl ?_
                  refine ww_icmp_ne (tgt := 66) C dX5_readSaying_59 (by decide) (fun c_296 => ?_) (fun c_296 => ?_)
                  · have zc_296 : r_3.toInt ≠ 5 := i_ne rfl rfl c_296
                    refine ww_iconst (v := 0) C dX5_readSaying_66 rfl ?_
                    refine ww_istore (lv' := [(5, .int 0), (4, .int r_251), (3, .int r_3), (2, .int (nI n1)), (1, .int (nI op1)), (0, .ref qs)]) C dX5_readSaying_67 rfl rfl ?_
                    refine ww_aload_n C dX5_readSaying_69 5 rfl rfl ?_
                    refine ww_ci (wr := [(po, .inl (E.2.1 1, 32, .inl fo1)), (pa, .inl (E.2.1 1, 32, .inl fa1))]) (k' := 0) (n' := 0) C (run_V (As := []) (rest := []) C (q_take X.2.1 E ro qs qt po pa pf pd (nI n1) tn1 an wr pl tb tl ta1 tk1 ts1 fb (by omega) (by omega) (by omega) (by omega) (by omega) hfg1 (by omega)) mi_X5_take wl_X5_97 rfl 0 5 rfl rfl rfl rfl rfl dX5_readSaying_70) (roK hro) [2, 3, 4] [0, 1] rfl rfl rfl rfl (fun r_297 uz hw => ?_)
                    rcases hw with hw | hw
                    · refine ex3 hw ?_
                      clear hw
                      intro ta2_298 tk2_299 ts2_300 hw
                      refine an7 hw ?_
                      clear hw
                      intro he_307 he_308 h_301 h_302 h_303 h_304 h_305 hw
                      have h_306 := hw
                      clear hw
                      have he_307 := he_307.symm
                      subst he_307
                      subst he_308
                      refine ww_eq (ws' := [(po, .inl (E.2.1 1, 32, .inl fo1)), (pa, .inl (E.2.1 1, 32, .inl fa1)), (qs, .inr (5, [.ref qt, .ref po, .ref pa, .ref pf, .ref pd, .int (nI n1), .int (nI (tn1 + 1)), .int an, .int wr, .int pl])), (qt, .inr (10, [.ref tb, .int (nI tl), .int (nI ta2_298), .int (nI tk2_299), .int (nI ts2_300)])), (tb, .inl (E.2.1 0, 160, .inl fb))]) ?_ rfl rfl rfl
                      refine ww_if_ne_t (tgt := 78) C dX5_readSaying_73 (by decide) (by decide) ?_
                      refine ww_iload_n C dX5_readSaying_78 2 rfl rfl ?_
                      refine ww_iconst (v := 5) C dX5_readSaying_79 rfl ?_
                      refine ww_icmp_lt (tgt := 111) C dX5_readSaying_80 (by decide) (fun c_322 => ?_) (fun c_322 => ?_)
                      · have zc_322 : r_3.toInt < 5 := i_lt rfl rfl c_322
                        refine ww_aload_n C dX5_readSaying_111 5 rfl rfl ?_
                        refine ww_get C fg_X5_18 2 rfl rfl dX5_readSaying_112 ?_
                        refine ww_iload_n C dX5_readSaying_115 3 rfl rfl ?_
                        refine ww_iload_n C dX5_readSaying_116 2 rfl rfl ?_
                        obtain ⟨f_323, ef_323⟩ : ∃ z : Nat → Int32, upd fo1 n1 r_3 = z := ⟨_, rfl⟩
                        refine ww_iast (ws' := [(po, .inl (E.2.1 1, 32, .inl f_323)), (pa, .inl (E.2.1 1, 32, .inl fa1)), (qs, .inr (5, [.ref qt, .ref po, .ref pa, .ref pf, .ref pd, .int (nI n1), .int (nI (tn1 + 1)), .int an, .int wr, .int pl])), (qt, .inr (10, [.ref tb, .int (nI tl), .int (nI ta2_298), .int (nI tk2_299), .int (nI ts2_300)])), (tb, .inl (E.2.1 0, 160, .inl fb))]) C 0 rfl (vp_in_nI (by omega) (by omega)) (ldn2 (by omega) ef_323) rfl dX5_readSaying_117 ?_
                        refine ww_aload_n C dX5_readSaying_118 5 rfl rfl ?_
                        refine ww_get C fg_X5_22 2 rfl rfl dX5_readSaying_119 ?_
                        refine ww_iload_n C dX5_readSaying_122 3 rfl rfl ?_
                        refine ww_iload C dX5_readSaying_123 1 rfl ?_
                        obtain ⟨f_324, ef_324⟩ : ∃ z : Nat → Int32, upd fa1 n1 r_251 = z := ⟨_, rfl⟩
                        refine ww_iast (ws' := [(po, .inl (E.2.1 1, 32, .inl f_323)), (pa, .inl (E.2.1 1, 32, .inl f_324)), (qs, .inr (5, [.ref qt, .ref po, .ref pa, .ref pf, .ref pd, .int (nI n1), .int (nI (tn1 + 1)), .int an, .int wr, .int pl])), (qt, .inr (10, [.ref tb, .int (nI tl), .int (nI ta2_298), .int (nI tk2_299), .int (nI ts2_300)])), (tb, .inl (E.2.1 0, 160, .inl fb))]) C 1 rfl (vp_in_nI (by omega) (by omega)) (ldn2 (by omega) ef_324) rfl dX5_readSaying_125 ?_
                        refine ww_aload_n C dX5_readSaying_126 5 rfl rfl ?_
                        refine ww_iload_n C dX5_readSaying_127 3 rfl rfl ?_
                        refine ww_iconst (v := 1) C dX5_readSaying_128 rfl ?_
                        refine ww_iadd (v := (nI (n1 + 1))) C dX5_readSaying_129 (nI_add n1 1) ?_
                        refine ww_put (ws' := [(po, .inl (E.2.1 1, 32, .inl f_323)), (pa, .inl (E.2.1 1, 32, .inl f_324)), (qs, .inr (5, [.ref qt, .ref po, .ref pa, .ref pf, .ref pd, .int (nI (n1 + 1)), .int (nI (tn1 + 1)), .int an, .int wr, .int pl])), (qt, .inr (10, [.ref tb, .int (nI tl), .int (nI ta2_298), .int (nI tk2_299), .int (nI ts2_300)])), (tb, .inl (E.2.1 0, 160, .inl fb))]) C fp_X5_31 2 rfl rfl rfl rfl rfl dX5_readSaying_130 ?_
                        refine ww_iload_n C dX5_readSaying_133 4 rfl rfl ?_
                        refine ww_iload_n C dX5_readSaying_134 2 rfl rfl ?_
                        refine ww_ci (wr := [(po, .inl (E.2.1 1, 32, .inl f_323)), (pa, .inl (E.2.1 1, 32, .inl f_324)), (qs, .inr (5, [.ref qt, .ref po, .ref pa, .ref pf, .ref pd, .int (nI (n1 + 1)), .int (nI (tn1 + 1)), .int an, .int wr, .int pl])), (qt, .inr (10, [.ref tb, .int (nI tl), .int (nI ta2_298), .int (nI tk2_299), .int (nI ts2_300)])), (tb, .inl (E.2.1 0, 160, .inl fb))]) (k' := 0) (n' := 0) C (run_SN (As := [.int r_3]) (rest := [.int (nI op1)]) C (c_under X.2.1 E ro r_3) ms_X11_under (List.mem_of_getElem? (i := 14) rfl) rfl rfl rfl rfl dX5_readSaying_135) (roK hro) [] [0, 1, 2, 3, 4] rfl rfl rfl rfl (fun r_325 uz hw => ?_)
                        rcases hw with hw | hw | hw
                        · refine an2 hw ?_
                          clear hw
                          intro he_327 he_328 hw
                          have h_326 := hw
                          clear hw
                          have he_327 := he_327.symm
                          subst he_327
                          subst he_328
                          refine ww_eq (ws' := [(po, .inl (E.2.1 1, 32, .inl f_323)), (pa, .inl (E.2.1 1, 32, .inl f_324)), (qs, .inr (5, [.ref qt, .ref po, .ref pa, .ref pf, .ref pd, .int (nI (n1 + 1)), .int (nI (tn1 + 1)), .int an, .int wr, .int pl])), (qt, .inr (10, [.ref tb, .int (nI tl), .int (nI ta2_298), .int (nI tk2_299), .int (nI ts2_300)])), (tb, .inl (E.2.1 0, 160, .inl fb))]) ?_ rfl rfl rfl
                          have hun := uN_a0 (x := r_3) (by assumption)
                          have hov := OPV.ext hopv ef_323 (by omega) (by omega) (by omega)
                          have hov2 := hov.2
                          refine ww_iconst (v := 1) C dX5_readSaying_138 rfl ?_
                          refine ww_isub (v := (-1)) C dX5_readSaying_139 (by decide) ?_
                          refine ww_iadd (v := (nI (op1 - 1))) C dX5_readSaying_140 (nI_subc (a := op1) (c := 1) (by omega) rfl) ?_
                          refine ww_istore_n (lv' := [(1, .int (nI (op1 - 1))), (5, .int 0), (4, .int r_251), (3, .int r_3), (2, .int (nI n1)), (0, .ref qs)]) C dX5_readSaying_141 rfl rfl rfl ?_
                          refine ww_iinc (j := 4) (v := (nI (n1 + 1))) (lv' := [(2, .int (nI (n1 + 1))), (1, .int (nI (op1 - 1))), (5, .int 0), (4, .int r_251), (3, .int r_3), (0, .ref qs)]) C dX5_readSaying_142 rfl (nI_add n1 1) rfl rfl ?_
                          refine ww_goto (tgt := 4) C dX5_readSaying_145 (by decide) ?_
                          exact ww_lv [0, 1, 5] rfl (ww_sub [2, 3, 4, 0, 1] rfl rfl (ih_4 (n1 + 1) (op1 - 1) (tn1 + 1) ta2_298 tk2_299 ts2_300 f_323 f_324 (by omega) (by omega) (by omega) hov.1 (by omega) (by omega) (by omega) (by omega) (by omega) (by omega) h_305 (by omega)))
                        · refine an2 hw ?_
                          clear hw
                          intro he_330 he_331 hw
                          have h_329 := hw
                          clear hw
                          have he_330 := he_330.symm
                          subst he_330
                          subst he_331
                          refine ww_eq (ws' := [(po, .inl (E.2.1 1, 32, .inl f_323)), (pa, .inl (E.2.1 1, 32, .inl f_324)), (qs, .inr (5, [.ref qt, .ref po, .ref pa, .ref pf, .ref pd, .int (nI (n1 + 1)), .int (nI (tn1 + 1)), .int an, .int wr, .int pl])), (qt, .inr (10, [.ref tb, .int (nI tl), .int (nI ta2_298), .int (nI tk2_299), .int (nI ts2_300)])), (tb, .inl (E.2.1 0, 160, .inl fb))]) ?_ rfl rfl rfl
                          have hun := uN_a2 (x := r_3) (by assumption)
                          have hov := OPV.ext hopv ef_323 (by omega) (by omega) (by omega)
                          have hov2 := hov.2
                          refine ww_iconst (v := 1) C dX5_readSaying_138 rfl ?_
                          refine ww_isub (v := 1) C dX5_readSaying_139 (by decide) ?_
                          refine ww_iadd (v := (nI (op1 + 1))) C dX5_readSaying_140 (nI_add op1 1) ?_
                          refine ww_istore_n (lv' := [(1, .int (nI (op1 + 1))), (5, .int 0), (4, .int r_251), (3, .int r_3), (2, .int (nI n1)), (0, .ref qs)]) C dX5_readSaying_141 rfl rfl rfl ?_
                          refine ww_iinc (j := 4) (v := (nI (n1 + 1))) (lv' := [(2, .int (nI (n1 + 1))), (1, .int (nI (op1 + 1))), (5, .int 0), (4, .int r_251), (3, .int r_3), (0, .ref qs)]) C dX5_readSaying_142 rfl (nI_add n1 1) rfl rfl ?_
                          refine ww_goto (tgt := 4) C dX5_readSaying_145 (by decide) ?_
                          exact ww_lv [0, 1, 5] rfl (ww_sub [2, 3, 4, 0, 1] rfl rfl (ih_4 (n1 + 1) (op1 + 1) (tn1 + 1) ta2_298 tk2_299 ts2_300 f_323 f_324 (by omega) (by omega) (by omega) hov.1 (by omega) (by omega) (by omega) (by omega) (by omega) (by omega) h_305 (by omega)))
                        · refine an2 hw ?_
                          clear hw
                          intro he_333 he_334 hw
                          have h_332 := hw
                          clear hw
                          have he_333 := he_333.symm
                          subst he_333
                          subst he_334
                          refine ww_eq (ws' := [(po, .inl (E.2.1 1, 32, .inl f_323)), (pa, .inl (E.2.1 1, 32, .inl f_324)), (qs, .inr (5, [.ref qt, .ref po, .ref pa, .ref pf, .ref pd, .int (nI (n1 + 1)), .int (nI (tn1 + 1)), .int an, .int wr, .int pl])), (qt, .inr (10, [.ref tb, .int (nI tl), .int (nI ta2_298), .int (nI tk2_299), .int (nI ts2_300)])), (tb, .inl (E.2.1 0, 160, .inl fb))]) ?_ rfl rfl rfl
                          have hun := uN_a1 (x := r_3) (by assumption)
                          have hov := OPV.ext hopv ef_323 (by omega) (by omega) (by omega)
                          have hov2 := hov.2
                          refine ww_iconst (v := 1) C dX5_readSaying_138 rfl ?_
                          refine ww_isub (v := 0) C dX5_readSaying_139 (by decide) ?_
                          refine ww_iadd (v := (nI op1)) C dX5_readSaying_140 (nI_add op1 0) ?_
                          refine ww_istore_n (lv' := [(1, .int (nI op1)), (5, .int 0), (4, .int r_251), (3, .int r_3), (2, .int (nI n1)), (0, .ref qs)]) C dX5_readSaying_141 rfl rfl rfl ?_
                          refine ww_iinc (j := 4) (v := (nI (n1 + 1))) (lv' := [(2, .int (nI (n1 + 1))), (1, .int (nI op1)), (5, .int 0), (4, .int r_251), (3, .int r_3), (0, .ref qs)]) C dX5_readSaying_142 rfl (nI_add n1 1) rfl rfl ?_
                          refine ww_goto (tgt := 4) C dX5_readSaying_145 (by decide) ?_
                          exact ww_lv [0, 1, 5] rfl (ww_sub [2, 3, 4, 0, 1] rfl rfl (ih_4 (n1 + 1) op1 (tn1 + 1) ta2_298 tk2_299 ts2_300 f_323 f_324 (by omega) (by omega) (by omega) hov.1 (by omega) (by omega) (by omega) (by omega) (by omega) (by omega) h_305 (by omega)))
                      · have zc_322 : r_3.toInt ≥ 5 := i_nlt rfl rfl c_322
                        omega
                    · refine ex6 hw ?_
                      clear hw
                      intro ta2_309 tk2_310 ts2_311 tn2_312 wr2_313 pl2_314 hw
                      refine an6 hw ?_
                      clear hw
                      intro he_320 he_321 h_315 h_316 h_317 h_318 hw
                      have h_319 := hw
                      clear hw
                      have he_320 := he_320.symm
                      subst he_320
                      subst he_321
                      refine ww_eq (ws' := [(po, .inl (E.2.1 1, 32, .inl fo1)), (pa, .inl (E.2.1 1, 32, .inl fa1)), (qs, .inr (5, [.ref qt, .ref po, .ref pa, .ref pf, .ref pd, .int (nI n1), .int tn2_312, .int an, .int wr2_313, .int pl2_314])), (qt, .inr (10, [.ref tb, .int (nI tl), .int (nI ta2_309), .int (nI tk2_310), .int (nI ts2_311)])), (tb, .inl (E.2.1 0, 160, .inl fb))]) ?_ rfl rfl rfl
                      refine ww_if_ne_f (tgt := 78) C dX5_readSaying_73 (by decide) (rfl) ?_
                      refine ww_iconst (v := 0) C dX5_readSaying_76 rfl ?_
                      exact ww_zret (u := [(qs, .inr (5, [.ref qt, .ref po, .ref pa, .ref pf, .ref pd, .int (nI n1), .int tn2_312, .int an, .int wr2_313, .int pl2_314])), (qt, .inr (10, [.ref tb, .int (nI tl), .int (nI ta2_309), .int (nI tk2_310), .int (nI ts2_311)])), (tb, .inl (E.2.1 0, 160, .inl fb)), (po, .inl (E.2.1 1, 32, .inl fo1)), (pa, .inl (E.2.1 1, 32, .inl fa1))]) C hT [2, 3, 4, 0, 1] rfl rfl rfl rfl rfl dX5_readSaying_77 (Or.inr ⟨ta2_309, tk2_310, ts2_311, (nI n1), tn2_312, wr2_313, pl2_314, fo1, fa1, rfl, rfl, (by first | assumption | omega | decide), (by first | assumption | omega | decide), (by first | assumption | omega | decide), (by omega), h_319⟩)
                  · have zc_296 : r_3.toInt = 5 := i_eq rfl rfl c_296
                    omega
            · have zc_12 : r_3.toInt = (-4) := i_eq rfl rfl c_12
              refine ww_aload_n C dX5_readSaying_25 3 rfl rfl ?_
              refine ww_iconst (v := 2) C dX5_readSaying_26 rfl ?_
              refine ww_ci (wr := [(po, .inl (E.2.1 1, 32, .inl fo1)), (pa, .inl (E.2.1 1, 32, .inl fa1)), (tb, .inl (E.2.1 0, 160, .inl fb))]) (k' := 0) (n' := 0) C (run_V (As := [.int 2]) (rest := []) C (q_fail X.2.1 E ro qs 2 qt po pa pf pd (nI n1) (nI tn1) an wr pl tb tl (nI ta1) tk1 ts1 (by omega)) mi_X5_fail wl_X5_63 rfl 0 5 rfl rfl rfl rfl rfl dX5_readSaying_27) (roK hro) [2, 3] [0, 1, 4] rfl rfl rfl rfl (fun r_335 uz hw => ?_)
              refine an1 hw ?_
              clear hw
              intro he_336 hw
              have he_337 := hw
              clear hw
              have he_336 := he_336.symm
              subst he_336
              subst he_337
              refine ww_eq (ws' := [(po, .inl (E.2.1 1, 32, .inl fo1)), (pa, .inl (E.2.1 1, 32, .inl fa1)), (tb, .inl (E.2.1 0, 160, .inl fb)), (qs, .inr (5, [.ref qt, .ref po, .ref pa, .ref pf, .ref pd, .int (nI n1), .int (nI tn1), .int an, .int 2, .int (nI ts1)])), (qt, .inr (10, [.ref tb, .int (nI tl), .int (nI ta1), .int (nI tk1), .int (nI ts1)]))]) ?_ rfl rfl rfl
              exact ww_zret (u := [(qs, .inr (5, [.ref qt, .ref po, .ref pa, .ref pf, .ref pd, .int (nI n1), .int (nI tn1), .int an, .int 2, .int (nI ts1)])), (qt, .inr (10, [.ref tb, .int (nI tl), .int (nI ta1), .int (nI tk1), .int (nI ts1)])), (tb, .inl (E.2.1 0, 160, .inl fb)), (po, .inl (E.2.1 1, 32, .inl fo1)), (pa, .inl (E.2.1 1, 32, .inl fa1))]) C hT [3, 4, 2, 0, 1] rfl rfl rfl rfl rfl dX5_readSaying_30 (Or.inr ⟨ta1, tk1, ts1, (nI n1), (nI tn1), 2, (nI ts1), fo1, fa1, rfl, rfl, (by first | assumption | omega | decide), (by first | assumption | omega | decide), (by first | assumption | omega | decide), (by omega), hfg1⟩)
  exact ww_lv [0, 1, 2] rfl (ww_sub [0, 1, 2, 3, 4] rfl rfl (loop_4 _ 0 1 0 ta tk ts fo fa (by omega) (by omega) rfl OPV.nil (by omega) (by omega) (by omega) (by omega) (by omega) (by omega) hfg (Nat.lt_succ_self _)))
