theorem dX5_readSaying_0 : decode cX5_readSaying 0 = .ok (.iconst 1, 1) := by decide +kernel
theorem dX5_readSaying_1 : decode cX5_readSaying 1 = .ok (.istore_n 1, 1) := by decide +kernel
theorem dX5_readSaying_2 : decode cX5_readSaying 2 = .ok (.iconst 0, 1) := by decide +kernel
theorem dX5_readSaying_3 : decode cX5_readSaying 3 = .ok (.istore_n 2, 1) := by decide +kernel
theorem dX5_readSaying_4 : decode cX5_readSaying 4 = .ok (.iload_n 2, 1) := by decide +kernel
theorem dX5_readSaying_5 : decode cX5_readSaying 5 = .ok (.bipush 32, 2) := by decide +kernel
theorem dX5_readSaying_7 : decode cX5_readSaying 7 = .ok (.if_icmp .gt 141, 3) := by decide +kernel
theorem dX5_readSaying_148 : decode cX5_readSaying 148 = .ok (.iconst 1, 1) := by decide +kernel
theorem dX5_readSaying_149 : decode cX5_readSaying 149 = .ok (.ireturn, 1) := by decide +kernel
theorem dX5_readSaying_10 : decode cX5_readSaying 10 = .ok (.iload_n 1, 1) := by decide +kernel
theorem dX5_readSaying_11 : decode cX5_readSaying 11 = .ok (.ifCond .le 137, 3) := by decide +kernel
theorem dX5_readSaying_14 : decode cX5_readSaying 14 = .ok (.aload_n 0, 1) := by decide +kernel
theorem dX5_readSaying_15 : decode cX5_readSaying 15 = .ok (.invokevirtual 89, 3) := by decide +kernel
theorem wl_X5_89 : Cond.methodLink RX5 89 yX5_opOfName ∈ TB := tbm (tq3 (List.mem_of_getElem? (i := 102) (by decide +kernel))) (by decide +kernel)
theorem wc_X5_opOfName : Cond.code yX5_opOfName cX5_opOfName 1 (some .int) ∈ TB := tbm (tq3 (List.mem_of_getElem? (i := 105) (rfl))) (by decide +kernel)
theorem wi_X5_opOfName : Cond.instanceMethod yX5_opOfName ∈ TB := tbm (tq3 (List.mem_of_getElem? (i := 104) (by decide +kernel))) (by decide +kernel)
theorem ws_X5_opOfName : Cond.selects RX5 yX5_opOfName yX5_opOfName ∈ TB := tbm (tq0 (List.mem_of_getElem? (i := 9) (by decide +kernel))) (by decide +kernel)
theorem mi_X5_opOfName : MI yX5_opOfName cX5_opOfName 1 (some .int) 0 := ⟨wc_X5_opOfName, wn_X5, ⟨by decide +kernel, by decide +kernel, by decide +kernel⟩, wi_X5_opOfName, ws_X5_opOfName⟩
theorem dX5_readSaying_18 : decode cX5_readSaying 18 = .ok (.istore_n 3, 1) := by decide +kernel
theorem dX5_readSaying_19 : decode cX5_readSaying 19 = .ok (.iload_n 3, 1) := by decide +kernel
theorem dX5_readSaying_20 : decode cX5_readSaying 20 = .ok (.bipush (-4), 2) := by decide +kernel
theorem dX5_readSaying_22 : decode cX5_readSaying 22 = .ok (.if_icmp .ne 9, 3) := by decide +kernel
theorem dX5_readSaying_25 : decode cX5_readSaying 25 = .ok (.aload_n 0, 1) := by decide +kernel
theorem dX5_readSaying_26 : decode cX5_readSaying 26 = .ok (.iconst 2, 1) := by decide +kernel
theorem dX5_readSaying_27 : decode cX5_readSaying 27 = .ok (.invokevirtual 63, 3) := by decide +kernel
theorem dX5_readSaying_30 : decode cX5_readSaying 30 = .ok (.ireturn, 1) := by decide +kernel
theorem dX5_readSaying_31 : decode cX5_readSaying 31 = .ok (.iload_n 3, 1) := by decide +kernel
theorem dX5_readSaying_32 : decode cX5_readSaying 32 = .ok (.ifCond .ne 10, 3) := by decide +kernel
theorem dX5_readSaying_42 : decode cX5_readSaying 42 = .ok (.iconst 0, 1) := by decide +kernel
theorem dX5_readSaying_43 : decode cX5_readSaying 43 = .ok (.istore 4, 2) := by decide +kernel
theorem dX5_readSaying_45 : decode cX5_readSaying 45 = .ok (.aload_n 0, 1) := by decide +kernel
theorem dX5_readSaying_46 : decode cX5_readSaying 46 = .ok (.getfield 12, 3) := by decide +kernel
theorem dX5_readSaying_49 : decode cX5_readSaying 49 = .ok (.ldc 95, 2) := by decide +kernel
theorem dX5_readSaying_51 : decode cX5_readSaying 51 = .ok (.invokevirtual 78, 3) := by decide +kernel
theorem dX5_readSaying_54 : decode cX5_readSaying 54 = .ok (.ifCond .ne 8, 3) := by decide +kernel
theorem dX5_readSaying_62 : decode cX5_readSaying 62 = .ok (.iconst 1, 1) := by decide +kernel
theorem dX5_readSaying_63 : decode cX5_readSaying 63 = .ok (.goto 4, 3) := by decide +kernel
theorem dX5_readSaying_67 : decode cX5_readSaying 67 = .ok (.istore 5, 2) := by decide +kernel
theorem dX5_readSaying_69 : decode cX5_readSaying 69 = .ok (.aload_n 0, 1) := by decide +kernel
theorem dX5_readSaying_70 : decode cX5_readSaying 70 = .ok (.invokevirtual 97, 3) := by decide +kernel
theorem wl_X5_97 : Cond.methodLink RX5 97 yX5_take ∈ TB := tbm (tq3 (List.mem_of_getElem? (i := 127) (by decide +kernel))) (by decide +kernel)
theorem wc_X5_take : Cond.code yX5_take cX5_take 1 (some .boolean) ∈ TB := tbm (tq3 (List.mem_of_getElem? (i := 130) (rfl))) (by decide +kernel)
theorem wi_X5_take : Cond.instanceMethod yX5_take ∈ TB := tbm (tq3 (List.mem_of_getElem? (i := 129) (by decide +kernel))) (by decide +kernel)
theorem ws_X5_take : Cond.selects RX5 yX5_take yX5_take ∈ TB := tbm (tq0 (List.mem_of_getElem? (i := 12) (by decide +kernel))) (by decide +kernel)
theorem mi_X5_take : MI yX5_take cX5_take 1 (some .boolean) 0 := ⟨wc_X5_take, wn_X5, ⟨by decide +kernel, by decide +kernel, by decide +kernel⟩, wi_X5_take, ws_X5_take⟩
theorem dX5_readSaying_73 : decode cX5_readSaying 73 = .ok (.ifCond .ne 5, 3) := by decide +kernel
theorem dX5_readSaying_78 : decode cX5_readSaying 78 = .ok (.iload_n 3, 1) := by decide +kernel
theorem dX5_readSaying_79 : decode cX5_readSaying 79 = .ok (.iconst 5, 1) := by decide +kernel
theorem dX5_readSaying_80 : decode cX5_readSaying 80 = .ok (.if_icmp .lt 31, 3) := by decide +kernel
theorem dX5_readSaying_111 : decode cX5_readSaying 111 = .ok (.aload_n 0, 1) := by decide +kernel
theorem dX5_readSaying_112 : decode cX5_readSaying 112 = .ok (.getfield 18, 3) := by decide +kernel
theorem wf_X5_18 : Cond.fieldLink RX5 18 RX5 "ops" "[I" ∈ TB := tbm (tq1 (List.mem_of_getElem? (i := 100) (by decide +kernel))) (by decide +kernel)
theorem fg_X5_18 : FG RX5 18 5 1 := ⟨RX5, TX5, 10, uw_X5, wf_X5_18, rfl, by decide, rfl⟩
theorem dX5_readSaying_115 : decode cX5_readSaying 115 = .ok (.iload_n 2, 1) := by decide +kernel
theorem dX5_readSaying_116 : decode cX5_readSaying 116 = .ok (.iload_n 3, 1) := by decide +kernel
theorem dX5_readSaying_117 : decode cX5_readSaying 117 = .ok (.iastore, 1) := by decide +kernel
theorem dX5_readSaying_118 : decode cX5_readSaying 118 = .ok (.aload_n 0, 1) := by decide +kernel
theorem dX5_readSaying_119 : decode cX5_readSaying 119 = .ok (.getfield 22, 3) := by decide +kernel
theorem wf_X5_22 : Cond.fieldLink RX5 22 RX5 "args" "[I" ∈ TB := tbm (tq1 (List.mem_of_getElem? (i := 101) (by decide +kernel))) (by decide +kernel)
theorem fg_X5_22 : FG RX5 22 5 2 := ⟨RX5, TX5, 10, uw_X5, wf_X5_22, rfl, by decide, rfl⟩
theorem dX5_readSaying_122 : decode cX5_readSaying 122 = .ok (.iload_n 2, 1) := by decide +kernel
theorem dX5_readSaying_123 : decode cX5_readSaying 123 = .ok (.iload 4, 2) := by decide +kernel
theorem dX5_readSaying_125 : decode cX5_readSaying 125 = .ok (.iastore, 1) := by decide +kernel
theorem dX5_readSaying_126 : decode cX5_readSaying 126 = .ok (.aload_n 0, 1) := by decide +kernel
theorem dX5_readSaying_127 : decode cX5_readSaying 127 = .ok (.iload_n 2, 1) := by decide +kernel
theorem dX5_readSaying_128 : decode cX5_readSaying 128 = .ok (.iconst 1, 1) := by decide +kernel
theorem dX5_readSaying_129 : decode cX5_readSaying 129 = .ok (.iadd, 1) := by decide +kernel
theorem dX5_readSaying_130 : decode cX5_readSaying 130 = .ok (.putfield 31, 3) := by decide +kernel
theorem wf_X5_31 : Cond.fieldLink RX5 31 RX5 "nodes" "I" ∈ TB := tbm (tq1 (List.mem_of_getElem? (i := 104) (by decide +kernel))) (by decide +kernel)
theorem fp_X5_31 : FP RX5 31 5 5 .int false := ⟨RX5, TX5, 10, tyX5, uw_X5, wf_X5_31, rfl, by decide, rfl, tyX5_ok, nmX5, rfl, by decide +kernel⟩
theorem dX5_readSaying_133 : decode cX5_readSaying 133 = .ok (.iload_n 1, 1) := by decide +kernel
theorem dX5_readSaying_134 : decode cX5_readSaying 134 = .ok (.iload_n 3, 1) := by decide +kernel
theorem dX5_readSaying_135 : decode cX5_readSaying 135 = .ok (.invokestatic 104, 3) := by decide +kernel
theorem dX5_readSaying_138 : decode cX5_readSaying 138 = .ok (.iconst 1, 1) := by decide +kernel
theorem dX5_readSaying_139 : decode cX5_readSaying 139 = .ok (.isub, 1) := by decide +kernel
theorem dX5_readSaying_140 : decode cX5_readSaying 140 = .ok (.iadd, 1) := by decide +kernel
theorem dX5_readSaying_141 : decode cX5_readSaying 141 = .ok (.istore_n 1, 1) := by decide +kernel
theorem dX5_readSaying_142 : decode cX5_readSaying 142 = .ok (.iinc 2 1, 3) := by decide +kernel
theorem dX5_readSaying_145 : decode cX5_readSaying 145 = .ok (.goto (-141), 3) := by decide +kernel
theorem dX5_readSaying_83 : decode cX5_readSaying 83 = .ok (.aload_n 0, 1) := by decide +kernel
theorem dX5_readSaying_84 : decode cX5_readSaying 84 = .ok (.iload 5, 2) := by decide +kernel
theorem dX5_readSaying_86 : decode cX5_readSaying 86 = .ok (.invokevirtual 100, 3) := by decide +kernel
theorem wl_X5_100 : Cond.methodLink RX5 100 yX5_knowers ∈ TB := tbm (tq3 (List.mem_of_getElem? (i := 131) (by decide +kernel))) (by decide +kernel)
theorem wc_X5_knowers : Cond.code yX5_knowers cX5_knowers 3 (some .int) ∈ TB := tbm (tq3 (List.mem_of_getElem? (i := 134) (rfl))) (by decide +kernel)
theorem wi_X5_knowers : Cond.instanceMethod yX5_knowers ∈ TB := tbm (tq3 (List.mem_of_getElem? (i := 133) (by decide +kernel))) (by decide +kernel)
theorem ws_X5_knowers : Cond.selects RX5 yX5_knowers yX5_knowers ∈ TB := tbm (tq0 (List.mem_of_getElem? (i := 13) (by decide +kernel))) (by decide +kernel)
theorem mi_X5_knowers : MI yX5_knowers cX5_knowers 3 (some .int) 1 := ⟨wc_X5_knowers, wn_X5, ⟨by decide +kernel, by decide +kernel, by decide +kernel⟩, wi_X5_knowers, ws_X5_knowers⟩
theorem dX5_readSaying_89 : decode cX5_readSaying 89 = .ok (.istore 4, 2) := by decide +kernel
theorem dX5_readSaying_91 : decode cX5_readSaying 91 = .ok (.iload 4, 2) := by decide +kernel
theorem dX5_readSaying_93 : decode cX5_readSaying 93 = .ok (.ifCond .ne 9, 3) := by decide +kernel
theorem dX5_readSaying_102 : decode cX5_readSaying 102 = .ok (.aload_n 0, 1) := by decide +kernel
theorem dX5_readSaying_103 : decode cX5_readSaying 103 = .ok (.invokevirtual 97, 3) := by decide +kernel
theorem dX5_readSaying_106 : decode cX5_readSaying 106 = .ok (.ifCond .ne 5, 3) := by decide +kernel
theorem dX5_readSaying_109 : decode cX5_readSaying 109 = .ok (.iconst 0, 1) := by decide +kernel
theorem dX5_readSaying_110 : decode cX5_readSaying 110 = .ok (.ireturn, 1) := by decide +kernel
theorem dX5_readSaying_96 : decode cX5_readSaying 96 = .ok (.aload_n 0, 1) := by decide +kernel
theorem dX5_readSaying_97 : decode cX5_readSaying 97 = .ok (.iconst 2, 1) := by decide +kernel
theorem dX5_readSaying_98 : decode cX5_readSaying 98 = .ok (.invokevirtual 63, 3) := by decide +kernel
theorem dX5_readSaying_101 : decode cX5_readSaying 101 = .ok (.ireturn, 1) := by decide +kernel
theorem dX5_readSaying_76 : decode cX5_readSaying 76 = .ok (.iconst 0, 1) := by decide +kernel
theorem dX5_readSaying_77 : decode cX5_readSaying 77 = .ok (.ireturn, 1) := by decide +kernel
theorem dX5_readSaying_57 : decode cX5_readSaying 57 = .ok (.iload_n 3, 1) := by decide +kernel
theorem dX5_readSaying_58 : decode cX5_readSaying 58 = .ok (.iconst 5, 1) := by decide +kernel
theorem dX5_readSaying_59 : decode cX5_readSaying 59 = .ok (.if_icmp .ne 7, 3) := by decide +kernel
theorem dX5_readSaying_66 : decode cX5_readSaying 66 = .ok (.iconst 0, 1) := by decide +kernel
theorem dX5_readSaying_35 : decode cX5_readSaying 35 = .ok (.aload_n 0, 1) := by decide +kernel
theorem dX5_readSaying_36 : decode cX5_readSaying 36 = .ok (.invokevirtual 92, 3) := by decide +kernel
theorem dX5_readSaying_39 : decode cX5_readSaying 39 = .ok (.goto 4, 3) := by decide +kernel
set_option maxRecDepth 100000 in
set_option maxHeartbeats 4000000 in
theorem q_readSaying (l : Launch) (E : EV) (ro : va_W) (qs : Nat) (qt : Nat) (po : Nat) (pa : Nat) (pf : Nat) (pd : Nat) (an : Int32) (wr : Int32) (pl : Int32) (tb : Nat) (tl : Nat) (ta : Nat) (tk : Nat) (ts : Nat) (fb : Nat → Int32) (fo : Nat → Int32) (fa : Nat → Int32) (hts : ts ≤ ta) (hta : ta ≤ tl) (htl : tl ≤ 160) (htk : tk ≤ 3) (hs9 : tk = 2 → ts < ta) (hfg : FG2 tk fb ts) : CT l yX5_readSaying (Cond.code yX5_readSaying cX5_readSaying 6 (some .boolean) :: TB) ({ frames := 7, cells := 0, slots := 0, locals := 147 }) E ro [.ref qs] [(qs, .inr (5, [.ref qt, .ref po, .ref pa, .ref pf, .ref pd, .int 0, .int 0, .int an, .int wr, .int pl])), (qt, .inr (10, [.ref tb, .int (nI tl), .int (nI ta), .int (nI tk), .int (nI ts)])), (tb, .inl (E.2.1 0, 160, .inl fb)), (po, .inl (E.2.1 1, 32, .inl fo)), (pa, .inl (E.2.1 1, 32, .inl fa))] (Qi E (fun (rz : Int32) uz => (∃ (ta2 : Nat) (tk2 : Nat) (ts2 : Nat) (nn : Nat) (tn2 : Nat) (fo2 : Nat → Int32) (fa2 : Nat → Int32), rz = 1 ∧ uz = [(qs, .inr (5, [.ref qt, .ref po, .ref pa, .ref pf, .ref pd, .int (nI nn), .int (nI tn2), .int an, .int wr, .int pl])), (qt, .inr (10, [.ref tb, .int (nI tl), .int (nI ta2), .int (nI tk2), .int (nI ts2)])), (tb, .inl (E.2.1 0, 160, .inl fb)), (po, .inl (E.2.1 1, 32, .inl fo2)), (pa, .inl (E.2.1 1, 32, .inl fa2))] ∧ (ts2 ≤ ta2) ∧ (ta2 ≤ tl) ∧ (tk2 ≤ 3) ∧ (tk2 = 2 → ts2 < ta2) ∧ (FG2 tk2 fb ts2) ∧ (tn2 ≤ 32) ∧ (WFs nn fo2)) ∨ (∃ (ta2 : Nat) (tk2 : Nat) (ts2 : Nat) (nd2 : Int32) (tn2 : Int32) (wr2 : Int32) (pl2 : Int32) (fo2 : Nat → Int32) (fa2 : Nat → Int32), rz = 0 ∧ uz = [(qs, .inr (5, [.ref qt, .ref po, .ref pa, .ref pf, .ref pd, .int nd2, .int tn2, .int an, .int wr2, .int pl2])), (qt, .inr (10, [.ref tb, .int (nI tl), .int (nI ta2), .int (nI tk2), .int (nI ts2)])), (tb, .inl (E.2.1 0, 160, .inl fb)), (po, .inl (E.2.1 1, 32, .inl fo2)), (pa, .inl (E.2.1 1, 32, .inl fa2))] ∧ (ts2 ≤ ta2) ∧ (ta2 ≤ tl) ∧ (tk2 ≤ 3) ∧ (tk2 = 2 → ts2 < ta2) ∧ (FG2 tk2 fb ts2)))) 0 0 := by
  refine ct_of rfl rfl ?_
  intro X C hT hin hro
  show WW X 6 E 0 [(0, .ref qs)] [] [(qs, .inr (5, [.ref qt, .ref po, .ref pa, .ref pf, .ref pd, .int 0, .int 0, .int an, .int wr, .int pl])), (qt, .inr (10, [.ref tb, .int (nI tl), .int (nI ta), .int (nI tk), .int (nI ts)])), (tb, .inl (E.2.1 0, 160, .inl fb)), (po, .inl (E.2.1 1, 32, .inl fo)), (pa, .inl (E.2.1 1, 32, .inl fa))] 0 0
  refine ww_iconst (v := 1) C dX5_readSaying_0 rfl ?_
  refine ww_istore_n (lv' := [(1, .int 1), (0, .ref qs)]) C dX5_readSaying_1 rfl rfl rfl ?_
  refine ww_iconst (v := 0) C dX5_readSaying_2 rfl ?_
  refine ww_istore_n (lv' := [(2, .int 0), (1, .int 1), (0, .ref qs)]) C dX5_readSaying_3 rfl rfl rfl ?_
  have loop_4 : ∀ (fu : Nat) (n1 : Nat) (op1 : Nat) (tn1 : Nat) (ta1 : Nat) (tk1 : Nat) (ts1 : Nat) (fo1 : Nat → Int32) (fa1 : Nat → Int32), (n1 ≤ tn1) → (tn1 ≤ 32) → ((op1 : Int) = opn fo1 n1) → (OPV n1 fo1) → (n1 = 0 → op1 = 1) → (op1 ≤ n1 + 1) → (ts1 ≤ ta1) → (ta1 ≤ tl) → (tk1 ≤ 3) → (tk1 = 2 → ts1 < ta1) → (FG2 tk1 fb ts1) → 33 - n1 < fu → WW X 6 E 4 [(2, .int (nI n1)), (1, .int (nI op1)), (0, .ref qs)] [] [(qs, .inr (5, [.ref qt, .ref po, .ref pa, .ref pf, .ref pd, .int (nI n1), .int (nI tn1), .int an, .int wr, .int pl])), (qt, .inr (10, [.ref tb, .int (nI tl), .int (nI ta1), .int (nI tk1), .int (nI ts1)])), (tb, .inl (E.2.1 0, 160, .inl fb)), (po, .inl (E.2.1 1, 32, .inl fo1)), (pa, .inl (E.2.1 1, 32, .inl fa1))] 0 0 := by
    intro fu
    induction fu with
    | zero => intro n1 op1 tn1 ta1 tk1 ts1 fo1 fa1 hn1 htn1 hop1 hopv hn0 hopb hts1 hta1 htk1 hs91 hfg1 hmeas; exact absurd hmeas (Nat.not_lt_zero _)
    | succ fu ih_4 =>
      intro n1 op1 tn1 ta1 tk1 ts1 fo1 fa1 hn1 htn1 hop1 hopv hn0 hopb hts1 hta1 htk1 hs91 hfg1 hmeas
      refine ww_iload_n C dX5_readSaying_4 0 rfl rfl ?_
      refine ww_bipush (v := 32) C dX5_readSaying_5 rfl ?_
      refine ww_icmp_gt (tgt := 148) C dX5_readSaying_7 (by decide) (fun c_1 => ?_) (fun c_1 => ?_)
      · have zc_1 : ((n1 : Nat) : Int) > 32 := i_lt rfl (nI_toInt (n := n1) (by omega)) c_1
        refine ww_iconst (v := 1) C dX5_readSaying_148 rfl ?_
        exact ww_zret (u := [(qs, .inr (5, [.ref qt, .ref po, .ref pa, .ref pf, .ref pd, .int (nI n1), .int (nI tn1), .int an, .int wr, .int pl])), (qt, .inr (10, [.ref tb, .int (nI tl), .int (nI ta1), .int (nI tk1), .int (nI ts1)])), (tb, .inl (E.2.1 0, 160, .inl fb)), (po, .inl (E.2.1 1, 32, .inl fo1)), (pa, .inl (E.2.1 1, 32, .inl fa1))]) C hT [0, 1, 2, 3, 4] rfl rfl rfl rfl rfl dX5_readSaying_149 (Or.inl ⟨ta1, tk1, ts1, n1, tn1, fo1, fa1, rfl, rfl, (by first | assumption | omega | decide), (by first | assumption | omega | decide), (by first | assumption | omega | decide), (by omega), hfg1, (by first | assumption | omega | decide), (OPV.wf hopv (by omega) (by omega) (by omega))⟩)
      · have zc_1 : ((n1 : Nat) : Int) ≤ 32 := i_nlt rfl (nI_toInt (n := n1) (by omega)) c_1
        refine ww_iload_n C dX5_readSaying_10 1 rfl rfl ?_
        refine ww_if_le (tgt := 148) C dX5_readSaying_11 (by decide) (fun c_2 => ?_) (fun c_2 => ?_)
        · have zc_2 : ((op1 : Nat) : Int) ≤ 0 := i_le (nI_toInt (n := op1) (by omega)) rfl c_2
          refine ww_iconst (v := 1) C dX5_readSaying_148 rfl ?_
          exact ww_zret (u := [(qs, .inr (5, [.ref qt, .ref po, .ref pa, .ref pf, .ref pd, .int (nI n1), .int (nI tn1), .int an, .int wr, .int pl])), (qt, .inr (10, [.ref tb, .int (nI tl), .int (nI ta1), .int (nI tk1), .int (nI ts1)])), (tb, .inl (E.2.1 0, 160, .inl fb)), (po, .inl (E.2.1 1, 32, .inl fo1)), (pa, .inl (E.2.1 1, 32, .inl fa1))]) C hT [0, 1, 2, 3, 4] rfl rfl rfl rfl rfl dX5_readSaying_149 (Or.inl ⟨ta1, tk1, ts1, n1, tn1, fo1, fa1, rfl, rfl, (by first | assumption | omega | decide), (by first | assumption | omega | decide), (by first | assumption | omega | decide), (by omega), hfg1, (by first | assumption | omega | decide), (OPV.wf hopv (by omega) (by omega) (by omega))⟩)
        · have zc_2 : ((op1 : Nat) : Int) > 0 := i_nle (nI_toInt (n := op1) (by omega)) rfl c_2
          refine ww_aload_n C dX5_readSaying_14 2 rfl rfl ?_
          refine ww_ci (wr := [(po, .inl (E.2.1 1, 32, .inl fo1)), (pa, .inl (E.2.1 1, 32, .inl fa1))]) (k' := 0) (n' := 0) C (run_V (As := []) (rest := []) C (q_opOfName X.2.1 E ro qs qt po pa pf pd (nI n1) (nI tn1) an wr pl tb tl ta1 tk1 ts1 fb (by omega) (by omega) (by omega) (by omega) (by omega) hfg1) mi_X5_opOfName wl_X5_89 rfl 0 5 rfl rfl rfl rfl rfl dX5_readSaying_15) (roK hro) [0, 1, 2] [3, 4] rfl rfl rfl rfl (fun r_3 uz hw => ?_)
          rcases hw with ⟨rfl, rfl⟩ | ⟨rfl, h_4, h_5⟩
          · refine ww_eq (ws' := [(po, .inl (E.2.1 1, 32, .inl fo1)), (pa, .inl (E.2.1 1, 32, .inl fa1)), (qs, .inr (5, [.ref qt, .ref po, .ref pa, .ref pf, .ref pd, .int (nI n1), .int (nI tn1), .int an, .int wr, .int pl])), (qt, .inr (10, [.ref tb, .int (nI tl), .int (nI ta1), .int (nI tk1), .int (nI ts1)])), (tb, .inl (E.2.1 0, 160, .inl fb))]) ?_ rfl rfl rfl
            refine ww_istore_n (lv' := [(3, .int (-4)), (2, .int (nI n1)), (1, .int (nI op1)), (0, .ref qs)]) C dX5_readSaying_18 rfl rfl rfl ?_
            refine ww_iload_n C dX5_readSaying_19 0 rfl rfl ?_
            refine ww_bipush (v := (-4)) C dX5_readSaying_20 rfl ?_
            refine ww_icmp_ne_f (tgt := 31) C dX5_readSaying_22 (by decide) (rfl) ?_
            refine ww_aload_n C dX5_readSaying_25 3 rfl rfl ?_
            refine ww_iconst (v := 2) C dX5_readSaying_26 rfl ?_
            refine ww_ci (wr := [(po, .inl (E.2.1 1, 32, .inl fo1)), (pa, .inl (E.2.1 1, 32, .inl fa1)), (tb, .inl (E.2.1 0, 160, .inl fb))]) (k' := 0) (n' := 0) C (run_V (As := [.int 2]) (rest := []) C (q_fail X.2.1 E ro qs 2 qt po pa pf pd (nI n1) (nI tn1) an wr pl tb tl (nI ta1) tk1 ts1 (by omega)) mi_X5_fail wl_X5_63 rfl 0 5 rfl rfl rfl rfl rfl dX5_readSaying_27) (roK hro) [2, 3] [0, 1, 4] rfl rfl rfl rfl (fun r_6 uz hw => ?_)
            obtain ⟨rfl, rfl⟩ := hw
            refine ww_eq (ws' := [(po, .inl (E.2.1 1, 32, .inl fo1)), (pa, .inl (E.2.1 1, 32, .inl fa1)), (tb, .inl (E.2.1 0, 160, .inl fb)), (qs, .inr (5, [.ref qt, .ref po, .ref pa, .ref pf, .ref pd, .int (nI n1), .int (nI tn1), .int an, .int 2, .int (nI ts1)])), (qt, .inr (10, [.ref tb, .int (nI tl), .int (nI ta1), .int (nI tk1), .int (nI ts1)]))]) ?_ rfl rfl rfl
            exact ww_zret (u := [(qs, .inr (5, [.ref qt, .ref po, .ref pa, .ref pf, .ref pd, .int (nI n1), .int (nI tn1), .int an, .int 2, .int (nI ts1)])), (qt, .inr (10, [.ref tb, .int (nI tl), .int (nI ta1), .int (nI tk1), .int (nI ts1)])), (tb, .inl (E.2.1 0, 160, .inl fb)), (po, .inl (E.2.1 1, 32, .inl fo1)), (pa, .inl (E.2.1 1, 32, .inl fa1))]) C hT [3, 4, 2, 0, 1] rfl rfl rfl rfl rfl dX5_readSaying_30 (Or.inr ⟨ta1, tk1, ts1, (nI n1), (nI tn1), 2, (nI ts1), fo1, fa1, rfl, rfl, (by first | assumption | omega | decide), (by first | assumption | omega | decide), (by first | assumption | omega | decide), (by omega), hfg1⟩)
          · refine ww_eq (ws' := [(po, .inl (E.2.1 1, 32, .inl fo1)), (pa, .inl (E.2.1 1, 32, .inl fa1)), (qs, .inr (5, [.ref qt, .ref po, .ref pa, .ref pf, .ref pd, .int (nI n1), .int (nI tn1), .int an, .int wr, .int pl])), (qt, .inr (10, [.ref tb, .int (nI tl), .int (nI ta1), .int (nI tk1), .int (nI ts1)])), (tb, .inl (E.2.1 0, 160, .inl fb))]) ?_ rfl rfl rfl
            refine ww_istore_n (lv' := [(3, .int r_3), (2, .int (nI n1)), (1, .int (nI op1)), (0, .ref qs)]) C dX5_readSaying_18 rfl rfl rfl ?_
            refine ww_iload_n C dX5_readSaying_19 0 rfl rfl ?_
            refine ww_bipush (v := (-4)) C dX5_readSaying_20 rfl ?_
            refine ww_icmp_ne (tgt := 31) C dX5_readSaying_22 (by decide) (fun c_7 => ?_) (fun c_7 => ?_)
            · have zc_7 : r_3.toInt ≠ (-4) := i_ne rfl rfl c_7
              refine ww_iload_n C dX5_readSaying_31 0 rfl rfl ?_
              refine ww_if_ne (tgt := 42) C dX5_readSaying_32 (by decide) (fun c_8 => ?_) (fun c_8 => ?_)
              · have zc_8 : r_3.toInt ≠ 0 := i_ne rfl rfl c_8
                refine ww_iconst (v := 0) C dX5_readSaying_42 rfl ?_
                refine ww_istore (lv' := [(4, .int 0), (3, .int r_3), (2, .int (nI n1)), (1, .int (nI op1)), (0, .ref qs)]) C dX5_readSaying_43 rfl rfl ?_
                refine ww_aload_n C dX5_readSaying_45 4 rfl rfl ?_
                refine ww_get C fg_X5_12 2 rfl rfl dX5_readSaying_46 ?_
                refine ww_ldcS (tx := "know") C (List.mem_of_getElem? (i := 9) rfl) rfl dX5_readSaying_49 ?_
                refine ww_ci (wr := [(po, .inl (E.2.1 1, 32, .inl fo1)), (pa, .inl (E.2.1 1, 32, .inl fa1)), (qs, .inr (5, [.ref qt, .ref po, .ref pa, .ref pf, .ref pd, .int (nI n1), .int (nI tn1), .int an, .int wr, .int pl]))]) (k' := 0) (n' := 0) C (run_V (As := [.ref (E.2.2 95)]) (rest := []) C (t_isName X.2.1 E ro qt tb tl ta1 tk1 ts1 fb 9 (by decide) (by omega) (by omega) (by omega) (by omega)) mi_X10_isName wl_X5_78 rfl 0 10 rfl rfl rfl rfl rfl dX5_readSaying_51) (roK hro) [3, 4] [0, 1, 2] rfl rfl rfl rfl (fun r_9 uz hw => ?_)
                rcases hw with ⟨rfl, rfl⟩ | ⟨rfl, rfl⟩
                · refine ww_eq (ws' := [(po, .inl (E.2.1 1, 32, .inl fo1)), (pa, .inl (E.2.1 1, 32, .inl fa1)), (qs, .inr (5, [.ref qt, .ref po, .ref pa, .ref pf, .ref pd, .int (nI n1), .int (nI tn1), .int an, .int wr, .int pl])), (qt, .inr (10, [.ref tb, .int (nI tl), .int (nI ta1), .int (nI tk1), .int (nI ts1)])), (tb, .inl (E.2.1 0, 160, .inl fb))]) ?_ rfl rfl rfl
                  refine ww_if_ne_t (tgt := 62) C dX5_readSaying_54 (by decide) (by decide) ?_
                  refine ww_iconst (v := 1) C dX5_readSaying_62 rfl ?_
                  refine ww_goto (tgt := 67) C dX5_readSaying_63 (by decide) ?_
                  refine ww_istore (lv' := [(5, .int 1), (4, .int 0), (3, .int r_3), (2, .int (nI n1)), (1, .int (nI op1)), (0, .ref qs)]) C dX5_readSaying_67 rfl rfl ?_
                  refine ww_aload_n C dX5_readSaying_69 5 rfl rfl ?_
                  refine ww_ci (wr := [(po, .inl (E.2.1 1, 32, .inl fo1)), (pa, .inl (E.2.1 1, 32, .inl fa1))]) (k' := 0) (n' := 0) C (run_V (As := []) (rest := []) C (q_take X.2.1 E ro qs qt po pa pf pd (nI n1) tn1 an wr pl tb tl ta1 tk1 ts1 fb (by omega) (by omega) (by omega) (by omega) (by omega) hfg1 (by omega)) mi_X5_take wl_X5_97 rfl 0 5 rfl rfl rfl rfl rfl dX5_readSaying_70) (roK hro) [2, 3, 4] [0, 1] rfl rfl rfl rfl (fun r_10 uz hw => ?_)
                  rcases hw with ⟨ta2_11, tk2_12, ts2_13, rfl, rfl, h_14, h_15, h_16, h_17, h_18, h_19⟩ | ⟨ta2_20, tk2_21, ts2_22, tn2_23, wr2_24, pl2_25, rfl, rfl, h_26, h_27, h_28, h_29, h_30⟩
                  · refine ww_eq (ws' := [(po, .inl (E.2.1 1, 32, .inl fo1)), (pa, .inl (E.2.1 1, 32, .inl fa1)), (qs, .inr (5, [.ref qt, .ref po, .ref pa, .ref pf, .ref pd, .int (nI n1), .int (nI (tn1 + 1)), .int an, .int wr, .int pl])), (qt, .inr (10, [.ref tb, .int (nI tl), .int (nI ta2_11), .int (nI tk2_12), .int (nI ts2_13)])), (tb, .inl (E.2.1 0, 160, .inl fb))]) ?_ rfl rfl rfl
                    refine ww_if_ne_t (tgt := 78) C dX5_readSaying_73 (by decide) (by decide) ?_
                    refine ww_iload_n C dX5_readSaying_78 2 rfl rfl ?_
                    refine ww_iconst (v := 5) C dX5_readSaying_79 rfl ?_
                    refine ww_icmp_lt (tgt := 111) C dX5_readSaying_80 (by decide) (fun c_31 => ?_) (fun c_31 => ?_)
                    · have zc_31 : r_3.toInt < 5 := i_lt rfl rfl c_31
                      refine ww_aload_n C dX5_readSaying_111 5 rfl rfl ?_
                      refine ww_get C fg_X5_18 2 rfl rfl dX5_readSaying_112 ?_
                      refine ww_iload_n C dX5_readSaying_115 3 rfl rfl ?_
                      refine ww_iload_n C dX5_readSaying_116 2 rfl rfl ?_
                      obtain ⟨f_32, ef_32⟩ : ∃ z : Nat → Int32, upd fo1 n1 r_3 = z := ⟨_, rfl⟩
                      refine ww_iast (ws' := [(po, .inl (E.2.1 1, 32, .inl f_32)), (pa, .inl (E.2.1 1, 32, .inl fa1)), (qs, .inr (5, [.ref qt, .ref po, .ref pa, .ref pf, .ref pd, .int (nI n1), .int (nI (tn1 + 1)), .int an, .int wr, .int pl])), (qt, .inr (10, [.ref tb, .int (nI tl), .int (nI ta2_11), .int (nI tk2_12), .int (nI ts2_13)])), (tb, .inl (E.2.1 0, 160, .inl fb))]) C 0 rfl (vp_in_nI (by omega) (by omega)) (ldn2 (by omega) ef_32) rfl dX5_readSaying_117 ?_
                      refine ww_aload_n C dX5_readSaying_118 5 rfl rfl ?_
                      refine ww_get C fg_X5_22 2 rfl rfl dX5_readSaying_119 ?_
                      refine ww_iload_n C dX5_readSaying_122 3 rfl rfl ?_
                      refine ww_iload C dX5_readSaying_123 1 rfl ?_
                      obtain ⟨f_33, ef_33⟩ : ∃ z : Nat → Int32, upd fa1 n1 0 = z := ⟨_, rfl⟩
                      refine ww_iast (ws' := [(po, .inl (E.2.1 1, 32, .inl f_32)), (pa, .inl (E.2.1 1, 32, .inl f_33)), (qs, .inr (5, [.ref qt, .ref po, .ref pa, .ref pf, .ref pd, .int (nI n1), .int (nI (tn1 + 1)), .int an, .int wr, .int pl])), (qt, .inr (10, [.ref tb, .int (nI tl), .int (nI ta2_11), .int (nI tk2_12), .int (nI ts2_13)])), (tb, .inl (E.2.1 0, 160, .inl fb))]) C 1 rfl (vp_in_nI (by omega) (by omega)) (ldn2 (by omega) ef_33) rfl dX5_readSaying_125 ?_
                      refine ww_aload_n C dX5_readSaying_126 5 rfl rfl ?_
                      refine ww_iload_n C dX5_readSaying_127 3 rfl rfl ?_
                      refine ww_iconst (v := 1) C dX5_readSaying_128 rfl ?_
                      refine ww_iadd (v := (nI (n1 + 1))) C dX5_readSaying_129 (nI_add n1 1) ?_
                      refine ww_put (ws' := [(po, .inl (E.2.1 1, 32, .inl f_32)), (pa, .inl (E.2.1 1, 32, .inl f_33)), (qs, .inr (5, [.ref qt, .ref po, .ref pa, .ref pf, .ref pd, .int (nI (n1 + 1)), .int (nI (tn1 + 1)), .int an, .int wr, .int pl])), (qt, .inr (10, [.ref tb, .int (nI tl), .int (nI ta2_11), .int (nI tk2_12), .int (nI ts2_13)])), (tb, .inl (E.2.1 0, 160, .inl fb))]) C fp_X5_31 2 rfl rfl rfl rfl rfl dX5_readSaying_130 ?_
                      refine ww_iload_n C dX5_readSaying_133 4 rfl rfl ?_
                      refine ww_iload_n C dX5_readSaying_134 2 rfl rfl ?_
                      refine ww_ci (wr := [(po, .inl (E.2.1 1, 32, .inl f_32)), (pa, .inl (E.2.1 1, 32, .inl f_33)), (qs, .inr (5, [.ref qt, .ref po, .ref pa, .ref pf, .ref pd, .int (nI (n1 + 1)), .int (nI (tn1 + 1)), .int an, .int wr, .int pl])), (qt, .inr (10, [.ref tb, .int (nI tl), .int (nI ta2_11), .int (nI tk2_12), .int (nI ts2_13)])), (tb, .inl (E.2.1 0, 160, .inl fb))]) (k' := 0) (n' := 0) C (run_SN (As := [.int r_3]) (rest := [.int (nI op1)]) C (c_under X.2.1 E ro r_3) ms_X11_under (List.mem_of_getElem? (i := 14) rfl) rfl rfl rfl rfl dX5_readSaying_135) (roK hro) [] [0, 1, 2, 3, 4] rfl rfl rfl rfl (fun r_34 uz hw => ?_)
                      rcases hw with ⟨rfl, rfl, h_35⟩ | ⟨rfl, rfl, h_36⟩ | ⟨rfl, rfl, h_37⟩
                      · refine ww_eq (ws' := [(po, .inl (E.2.1 1, 32, .inl f_32)), (pa, .inl (E.2.1 1, 32, .inl f_33)), (qs, .inr (5, [.ref qt, .ref po, .ref pa, .ref pf, .ref pd, .int (nI (n1 + 1)), .int (nI (tn1 + 1)), .int an, .int wr, .int pl])), (qt, .inr (10, [.ref tb, .int (nI tl), .int (nI ta2_11), .int (nI tk2_12), .int (nI ts2_13)])), (tb, .inl (E.2.1 0, 160, .inl fb))]) ?_ rfl rfl rfl
                        have hun := uN_a0 (x := r_3) (by assumption)
                        have hov := OPV.ext hopv ef_32 (by omega) (by omega) (by omega)
                        have hov2 := hov.2
                        refine ww_iconst (v := 1) C dX5_readSaying_138 rfl ?_
                        refine ww_isub (v := (-1)) C dX5_readSaying_139 (by decide) ?_
                        refine ww_iadd (v := (nI (op1 - 1))) C dX5_readSaying_140 (nI_subc (a := op1) (c := 1) (by omega) rfl) ?_
                        refine ww_istore_n (lv' := [(1, .int (nI (op1 - 1))), (5, .int 1), (4, .int 0), (3, .int r_3), (2, .int (nI n1)), (0, .ref qs)]) C dX5_readSaying_141 rfl rfl rfl ?_
                        refine ww_iinc (j := 4) (v := (nI (n1 + 1))) (lv' := [(2, .int (nI (n1 + 1))), (1, .int (nI (op1 - 1))), (5, .int 1), (4, .int 0), (3, .int r_3), (0, .ref qs)]) C dX5_readSaying_142 rfl (nI_add n1 1) rfl rfl ?_
                        refine ww_goto (tgt := 4) C dX5_readSaying_145 (by decide) ?_
                        exact ww_lv [0, 1, 5] rfl (ww_sub [2, 3, 4, 0, 1] rfl rfl (ih_4 (n1 + 1) (op1 - 1) (tn1 + 1) ta2_11 tk2_12 ts2_13 f_32 f_33 (by omega) (by omega) (by omega) hov.1 (by omega) (by omega) (by omega) (by omega) (by omega) (by omega) h_18 (by omega)))
                      · refine ww_eq (ws' := [(po, .inl (E.2.1 1, 32, .inl f_32)), (pa, .inl (E.2.1 1, 32, .inl f_33)), (qs, .inr (5, [.ref qt, .ref po, .ref pa, .ref pf, .ref pd, .int (nI (n1 + 1)), .int (nI (tn1 + 1)), .int an, .int wr, .int pl])), (qt, .inr (10, [.ref tb, .int (nI tl), .int (nI ta2_11), .int (nI tk2_12), .int (nI ts2_13)])), (tb, .inl (E.2.1 0, 160, .inl fb))]) ?_ rfl rfl rfl
                        have hun := uN_a2 (x := r_3) (by assumption)
                        have hov := OPV.ext hopv ef_32 (by omega) (by omega) (by omega)
                        have hov2 := hov.2
                        refine ww_iconst (v := 1) C dX5_readSaying_138 rfl ?_
                        refine ww_isub (v := 1) C dX5_readSaying_139 (by decide) ?_
                        refine ww_iadd (v := (nI (op1 + 1))) C dX5_readSaying_140 (nI_add op1 1) ?_
                        refine ww_istore_n (lv' := [(1, .int (nI (op1 + 1))), (5, .int 1), (4, .int 0), (3, .int r_3), (2, .int (nI n1)), (0, .ref qs)]) C dX5_readSaying_141 rfl rfl rfl ?_
                        refine ww_iinc (j := 4) (v := (nI (n1 + 1))) (lv' := [(2, .int (nI (n1 + 1))), (1, .int (nI (op1 + 1))), (5, .int 1), (4, .int 0), (3, .int r_3), (0, .ref qs)]) C dX5_readSaying_142 rfl (nI_add n1 1) rfl rfl ?_
                        refine ww_goto (tgt := 4) C dX5_readSaying_145 (by decide) ?_
                        exact ww_lv [0, 1, 5] rfl (ww_sub [2, 3, 4, 0, 1] rfl rfl (ih_4 (n1 + 1) (op1 + 1) (tn1 + 1) ta2_11 tk2_12 ts2_13 f_32 f_33 (by omega) (by omega) (by omega) hov.1 (by omega) (by omega) (by omega) (by omega) (by omega) (by omega) h_18 (by omega)))
                      · refine ww_eq (ws' := [(po, .inl (E.2.1 1, 32, .inl f_32)), (pa, .inl (E.2.1 1, 32, .inl f_33)), (qs, .inr (5, [.ref qt, .ref po, .ref pa, .ref pf, .ref pd, .int (nI (n1 + 1)), .int (nI (tn1 + 1)), .int an, .int wr, .int pl])), (qt, .inr (10, [.ref tb, .int (nI tl), .int (nI ta2_11), .int (nI tk2_12), .int (nI ts2_13)])), (tb, .inl (E.2.1 0, 160, .inl fb))]) ?_ rfl rfl rfl
                        have hun := uN_a1 (x := r_3) (by assumption)
                        have hov := OPV.ext hopv ef_32 (by omega) (by omega) (by omega)
                        have hov2 := hov.2
                        refine ww_iconst (v := 1) C dX5_readSaying_138 rfl ?_
                        refine ww_isub (v := 0) C dX5_readSaying_139 (by decide) ?_
                        refine ww_iadd (v := (nI op1)) C dX5_readSaying_140 (nI_add op1 0) ?_
                        refine ww_istore_n (lv' := [(1, .int (nI op1)), (5, .int 1), (4, .int 0), (3, .int r_3), (2, .int (nI n1)), (0, .ref qs)]) C dX5_readSaying_141 rfl rfl rfl ?_
                        refine ww_iinc (j := 4) (v := (nI (n1 + 1))) (lv' := [(2, .int (nI (n1 + 1))), (1, .int (nI op1)), (5, .int 1), (4, .int 0), (3, .int r_3), (0, .ref qs)]) C dX5_readSaying_142 rfl (nI_add n1 1) rfl rfl ?_
                        refine ww_goto (tgt := 4) C dX5_readSaying_145 (by decide) ?_
                        exact ww_lv [0, 1, 5] rfl (ww_sub [2, 3, 4, 0, 1] rfl rfl (ih_4 (n1 + 1) op1 (tn1 + 1) ta2_11 tk2_12 ts2_13 f_32 f_33 (by omega) (by omega) (by omega) hov.1 (by omega) (by omega) (by omega) (by omega) (by omega) (by omega) h_18 (by omega)))
                    · have zc_31 : r_3.toInt ≥ 5 := i_nlt rfl rfl c_31
                      refine ww_aload_n C dX5_readSaying_83 5 rfl rfl ?_
                      refine ww_iload C dX5_readSaying_84 0 rfl ?_
                      refine ww_ci (wr := [(po, .inl (E.2.1 1, 32, .inl fo1)), (pa, .inl (E.2.1 1, 32, .inl fa1))]) (k' := 0) (n' := 0) C (run_V (As := [.int 1]) (rest := []) C (q_knowers X.2.1 E ro qs 1 qt po pa pf pd (nI n1) (nI (tn1 + 1)) an wr pl tb tl ta2_11 tk2_12 ts2_13 fb (by omega) (by omega) (by omega) (by omega) (by omega) h_18) mi_X5_knowers wl_X5_100 rfl 0 5 rfl rfl rfl rfl rfl dX5_readSaying_86) (roK hro) [2, 3, 4] [0, 1] rfl rfl rfl rfl (fun r_38 uz hw => ?_)
                      obtain rfl := hw
                      refine ww_eq (ws' := [(po, .inl (E.2.1 1, 32, .inl fo1)), (pa, .inl (E.2.1 1, 32, .inl fa1)), (qs, .inr (5, [.ref qt, .ref po, .ref pa, .ref pf, .ref pd, .int (nI n1), .int (nI (tn1 + 1)), .int an, .int wr, .int pl])), (qt, .inr (10, [.ref tb, .int (nI tl), .int (nI ta2_11), .int (nI tk2_12), .int (nI ts2_13)])), (tb, .inl (E.2.1 0, 160, .inl fb))]) ?_ rfl rfl rfl
                      refine ww_istore (lv' := [(4, .int r_38), (5, .int 1), (3, .int r_3), (2, .int (nI n1)), (1, .int (nI op1)), (0, .ref qs)]) C dX5_readSaying_89 rfl rfl ?_
                      refine ww_iload C dX5_readSaying_91 0 rfl ?_
                      refine ww_if_ne (tgt := 102) C dX5_readSaying_93 (by decide) (fun c_39 => ?_) (fun c_39 => ?_)
                      · have zc_39 : r_38.toInt ≠ 0 := i_ne rfl rfl c_39
                        refine ww_aload_n C dX5_readSaying_102 5 rfl rfl ?_
                        refine ww_ci (wr := [(po, .inl (E.2.1 1, 32, .inl fo1)), (pa, .inl (E.2.1 1, 32, .inl fa1))]) (k' := 0) (n' := 0) C (run_V (As := []) (rest := []) C (q_take X.2.1 E ro qs qt po pa pf pd (nI n1) (tn1 + 1) an wr pl tb tl ta2_11 tk2_12 ts2_13 fb (by omega) (by omega) (by omega) (by omega) (by omega) h_18 (by omega)) mi_X5_take wl_X5_97 rfl 0 5 rfl rfl rfl rfl rfl dX5_readSaying_103) (roK hro) [2, 3, 4] [0, 1] rfl rfl rfl rfl (fun r_40 uz hw => ?_)
                        rcases hw with ⟨ta2_41, tk2_42, ts2_43, rfl, rfl, h_44, h_45, h_46, h_47, h_48, h_49⟩ | ⟨ta2_50, tk2_51, ts2_52, tn2_53, wr2_54, pl2_55, rfl, rfl, h_56, h_57, h_58, h_59, h_60⟩
                        · refine ww_eq (ws' := [(po, .inl (E.2.1 1, 32, .inl fo1)), (pa, .inl (E.2.1 1, 32, .inl fa1)), (qs, .inr (5, [.ref qt, .ref po, .ref pa, .ref pf, .ref pd, .int (nI n1), .int (nI ((tn1 + 1) + 1)), .int an, .int wr, .int pl])), (qt, .inr (10, [.ref tb, .int (nI tl), .int (nI ta2_41), .int (nI tk2_42), .int (nI ts2_43)])), (tb, .inl (E.2.1 0, 160, .inl fb))]) ?_ rfl rfl rfl
                          refine ww_if_ne_t (tgt := 111) C dX5_readSaying_106 (by decide) (by decide) ?_
                          refine ww_aload_n C dX5_readSaying_111 5 rfl rfl ?_
                          refine ww_get C fg_X5_18 2 rfl rfl dX5_readSaying_112 ?_
                          refine ww_iload_n C dX5_readSaying_115 3 rfl rfl ?_
                          refine ww_iload_n C dX5_readSaying_116 2 rfl rfl ?_
                          obtain ⟨f_61, ef_61⟩ : ∃ z : Nat → Int32, upd fo1 n1 r_3 = z := ⟨_, rfl⟩
                          refine ww_iast (ws' := [(po, .inl (E.2.1 1, 32, .inl f_61)), (pa, .inl (E.2.1 1, 32, .inl fa1)), (qs, .inr (5, [.ref qt, .ref po, .ref pa, .ref pf, .ref pd, .int (nI n1), .int (nI ((tn1 + 1) + 1)), .int an, .int wr, .int pl])), (qt, .inr (10, [.ref tb, .int (nI tl), .int (nI ta2_41), .int (nI tk2_42), .int (nI ts2_43)])), (tb, .inl (E.2.1 0, 160, .inl fb))]) C 0 rfl (vp_in_nI (by omega) (by omega)) (ldn2 (by omega) ef_61) rfl dX5_readSaying_117 ?_
                          refine ww_aload_n C dX5_readSaying_118 5 rfl rfl ?_
                          refine ww_get C fg_X5_22 2 rfl rfl dX5_readSaying_119 ?_
                          refine ww_iload_n C dX5_readSaying_122 3 rfl rfl ?_
                          refine ww_iload C dX5_readSaying_123 0 rfl ?_
                          obtain ⟨f_62, ef_62⟩ : ∃ z : Nat → Int32, upd fa1 n1 r_38 = z := ⟨_, rfl⟩
                          refine ww_iast (ws' := [(po, .inl (E.2.1 1, 32, .inl f_61)), (pa, .inl (E.2.1 1, 32, .inl f_62)), (qs, .inr (5, [.ref qt, .ref po, .ref pa, .ref pf, .ref pd, .int (nI n1), .int (nI ((tn1 + 1) + 1)), .int an, .int wr, .int pl])), (qt, .inr (10, [.ref tb, .int (nI tl), .int (nI ta2_41), .int (nI tk2_42), .int (nI ts2_43)])), (tb, .inl (E.2.1 0, 160, .inl fb))]) C 1 rfl (vp_in_nI (by omega) (by omega)) (ldn2 (by omega) ef_62) rfl dX5_readSaying_125 ?_
                          refine ww_aload_n C dX5_readSaying_126 5 rfl rfl ?_
                          refine ww_iload_n C dX5_readSaying_127 3 rfl rfl ?_
                          refine ww_iconst (v := 1) C dX5_readSaying_128 rfl ?_
                          refine ww_iadd (v := (nI (n1 + 1))) C dX5_readSaying_129 (nI_add n1 1) ?_
                          refine ww_put (ws' := [(po, .inl (E.2.1 1, 32, .inl f_61)), (pa, .inl (E.2.1 1, 32, .inl f_62)), (qs, .inr (5, [.ref qt, .ref po, .ref pa, .ref pf, .ref pd, .int (nI (n1 + 1)), .int (nI ((tn1 + 1) + 1)), .int an, .int wr, .int pl])), (qt, .inr (10, [.ref tb, .int (nI tl), .int (nI ta2_41), .int (nI tk2_42), .int (nI ts2_43)])), (tb, .inl (E.2.1 0, 160, .inl fb))]) C fp_X5_31 2 rfl rfl rfl rfl rfl dX5_readSaying_130 ?_
                          refine ww_iload_n C dX5_readSaying_133 4 rfl rfl ?_
                          refine ww_iload_n C dX5_readSaying_134 2 rfl rfl ?_
                          refine ww_ci (wr := [(po, .inl (E.2.1 1, 32, .inl f_61)), (pa, .inl (E.2.1 1, 32, .inl f_62)), (qs, .inr (5, [.ref qt, .ref po, .ref pa, .ref pf, .ref pd, .int (nI (n1 + 1)), .int (nI ((tn1 + 1) + 1)), .int an, .int wr, .int pl])), (qt, .inr (10, [.ref tb, .int (nI tl), .int (nI ta2_41), .int (nI tk2_42), .int (nI ts2_43)])), (tb, .inl (E.2.1 0, 160, .inl fb))]) (k' := 0) (n' := 0) C (run_SN (As := [.int r_3]) (rest := [.int (nI op1)]) C (c_under X.2.1 E ro r_3) ms_X11_under (List.mem_of_getElem? (i := 14) rfl) rfl rfl rfl rfl dX5_readSaying_135) (roK hro) [] [0, 1, 2, 3, 4] rfl rfl rfl rfl (fun r_63 uz hw => ?_)
                          rcases hw with ⟨rfl, rfl, h_64⟩ | ⟨rfl, rfl, h_65⟩ | ⟨rfl, rfl, h_66⟩
                          · refine ww_eq (ws' := [(po, .inl (E.2.1 1, 32, .inl f_61)), (pa, .inl (E.2.1 1, 32, .inl f_62)), (qs, .inr (5, [.ref qt, .ref po, .ref pa, .ref pf, .ref pd, .int (nI (n1 + 1)), .int (nI ((tn1 + 1) + 1)), .int an, .int wr, .int pl])), (qt, .inr (10, [.ref tb, .int (nI tl), .int (nI ta2_41), .int (nI tk2_42), .int (nI ts2_43)])), (tb, .inl (E.2.1 0, 160, .inl fb))]) ?_ rfl rfl rfl
                            have hun := uN_a0 (x := r_3) (by assumption)
                            have hov := OPV.ext hopv ef_61 (by omega) (by omega) (by omega)
                            have hov2 := hov.2
                            refine ww_iconst (v := 1) C dX5_readSaying_138 rfl ?_
                            refine ww_isub (v := (-1)) C dX5_readSaying_139 (by decide) ?_
                            refine ww_iadd (v := (nI (op1 - 1))) C dX5_readSaying_140 (nI_subc (a := op1) (c := 1) (by omega) rfl) ?_
                            refine ww_istore_n (lv' := [(1, .int (nI (op1 - 1))), (4, .int r_38), (5, .int 1), (3, .int r_3), (2, .int (nI n1)), (0, .ref qs)]) C dX5_readSaying_141 rfl rfl rfl ?_
                            refine ww_iinc (j := 4) (v := (nI (n1 + 1))) (lv' := [(2, .int (nI (n1 + 1))), (1, .int (nI (op1 - 1))), (4, .int r_38), (5, .int 1), (3, .int r_3), (0, .ref qs)]) C dX5_readSaying_142 rfl (nI_add n1 1) rfl rfl ?_
                            refine ww_goto (tgt := 4) C dX5_readSaying_145 (by decide) ?_
                            exact ww_lv [0, 1, 5] rfl (ww_sub [2, 3, 4, 0, 1] rfl rfl (ih_4 (n1 + 1) (op1 - 1) ((tn1 + 1) + 1) ta2_41 tk2_42 ts2_43 f_61 f_62 (by omega) (by omega) (by omega) hov.1 (by omega) (by omega) (by omega) (by omega) (by omega) (by omega) h_48 (by omega)))
                          · refine ww_eq (ws' := [(po, .inl (E.2.1 1, 32, .inl f_61)), (pa, .inl (E.2.1 1, 32, .inl f_62)), (qs, .inr (5, [.ref qt, .ref po, .ref pa, .ref pf, .ref pd, .int (nI (n1 + 1)), .int (nI ((tn1 + 1) + 1)), .int an, .int wr, .int pl])), (qt, .inr (10, [.ref tb, .int (nI tl), .int (nI ta2_41), .int (nI tk2_42), .int (nI ts2_43)])), (tb, .inl (E.2.1 0, 160, .inl fb))]) ?_ rfl rfl rfl
                            have hun := uN_a2 (x := r_3) (by assumption)
                            have hov := OPV.ext hopv ef_61 (by omega) (by omega) (by omega)
                            have hov2 := hov.2
                            refine ww_iconst (v := 1) C dX5_readSaying_138 rfl ?_
                            refine ww_isub (v := 1) C dX5_readSaying_139 (by decide) ?_
                            refine ww_iadd (v := (nI (op1 + 1))) C dX5_readSaying_140 (nI_add op1 1) ?_
                            refine ww_istore_n (lv' := [(1, .int (nI (op1 + 1))), (4, .int r_38), (5, .int 1), (3, .int r_3), (2, .int (nI n1)), (0, .ref qs)]) C dX5_readSaying_141 rfl rfl rfl ?_
                            refine ww_iinc (j := 4) (v := (nI (n1 + 1))) (lv' := [(2, .int (nI (n1 + 1))), (1, .int (nI (op1 + 1))), (4, .int r_38), (5, .int 1), (3, .int r_3), (0, .ref qs)]) C dX5_readSaying_142 rfl (nI_add n1 1) rfl rfl ?_
                            refine ww_goto (tgt := 4) C dX5_readSaying_145 (by decide) ?_
                            exact ww_lv [0, 1, 5] rfl (ww_sub [2, 3, 4, 0, 1] rfl rfl (ih_4 (n1 + 1) (op1 + 1) ((tn1 + 1) + 1) ta2_41 tk2_42 ts2_43 f_61 f_62 (by omega) (by omega) (by omega) hov.1 (by omega) (by omega) (by omega) (by omega) (by omega) (by omega) h_48 (by omega)))
                          · refine ww_eq (ws' := [(po, .inl (E.2.1 1, 32, .inl f_61)), (pa, .inl (E.2.1 1, 32, .inl f_62)), (qs, .inr (5, [.ref qt, .ref po, .ref pa, .ref pf, .ref pd, .int (nI (n1 + 1)), .int (nI ((tn1 + 1) + 1)), .int an, .int wr, .int pl])), (qt, .inr (10, [.ref tb, .int (nI tl), .int (nI ta2_41), .int (nI tk2_42), .int (nI ts2_43)])), (tb, .inl (E.2.1 0, 160, .inl fb))]) ?_ rfl rfl rfl
                            have hun := uN_a1 (x := r_3) (by assumption)
                            have hov := OPV.ext hopv ef_61 (by omega) (by omega) (by omega)
                            have hov2 := hov.2
                            refine ww_iconst (v := 1) C dX5_readSaying_138 rfl ?_
                            refine ww_isub (v := 0) C dX5_readSaying_139 (by decide) ?_
                            refine ww_iadd (v := (nI op1)) C dX5_readSaying_140 (nI_add op1 0) ?_
                            refine ww_istore_n (lv' := [(1, .int (nI op1)), (4, .int r_38), (5, .int 1), (3, .int r_3), (2, .int (nI n1)), (0, .ref qs)]) C dX5_readSaying_141 rfl rfl rfl ?_
                            refine ww_iinc (j := 4) (v := (nI (n1 + 1))) (lv' := [(2, .int (nI (n1 + 1))), (1, .int (nI op1)), (4, .int r_38), (5, .int 1), (3, .int r_3), (0, .ref qs)]) C dX5_readSaying_142 rfl (nI_add n1 1) rfl rfl ?_
                            refine ww_goto (tgt := 4) C dX5_readSaying_145 (by decide) ?_
                            exact ww_lv [0, 1, 5] rfl (ww_sub [2, 3, 4, 0, 1] rfl rfl (ih_4 (n1 + 1) op1 ((tn1 + 1) + 1) ta2_41 tk2_42 ts2_43 f_61 f_62 (by omega) (by omega) (by omega) hov.1 (by omega) (by omega) (by omega) (by omega) (by omega) (by omega) h_48 (by omega)))
                        · refine ww_eq (ws' := [(po, .inl (E.2.1 1, 32, .inl fo1)), (pa, .inl (E.2.1 1, 32, .inl fa1)), (qs, .inr (5, [.ref qt, .ref po, .ref pa, .ref pf, .ref pd, .int (nI n1), .int tn2_53, .int an, .int wr2_54, .int pl2_55])), (qt, .inr (10, [.ref tb, .int (nI tl), .int (nI ta2_50), .int (nI tk2_51), .int (nI ts2_52)])), (tb, .inl (E.2.1 0, 160, .inl fb))]) ?_ rfl rfl rfl
                          refine ww_if_ne_f (tgt := 111) C dX5_readSaying_106 (by decide) (rfl) ?_
                          refine ww_iconst (v := 0) C dX5_readSaying_109 rfl ?_
                          exact ww_zret (u := [(qs, .inr (5, [.ref qt, .ref po, .ref pa, .ref pf, .ref pd, .int (nI n1), .int tn2_53, .int an, .int wr2_54, .int pl2_55])), (qt, .inr (10, [.ref tb, .int (nI tl), .int (nI ta2_50), .int (nI tk2_51), .int (nI ts2_52)])), (tb, .inl (E.2.1 0, 160, .inl fb)), (po, .inl (E.2.1 1, 32, .inl fo1)), (pa, .inl (E.2.1 1, 32, .inl fa1))]) C hT [2, 3, 4, 0, 1] rfl rfl rfl rfl rfl dX5_readSaying_110 (Or.inr ⟨ta2_50, tk2_51, ts2_52, (nI n1), tn2_53, wr2_54, pl2_55, fo1, fa1, rfl, rfl, (by first | assumption | omega | decide), (by first | assumption | omega | decide), (by first | assumption | omega | decide), (by omega), h_60⟩)
                      · have zc_39 : r_38.toInt = 0 := i_eq rfl rfl c_39
                        refine ww_aload_n C dX5_readSaying_96 5 rfl rfl ?_
                        refine ww_iconst (v := 2) C dX5_readSaying_97 rfl ?_
                        refine ww_ci (wr := [(po, .inl (E.2.1 1, 32, .inl fo1)), (pa, .inl (E.2.1 1, 32, .inl fa1)), (tb, .inl (E.2.1 0, 160, .inl fb))]) (k' := 0) (n' := 0) C (run_V (As := [.int 2]) (rest := []) C (q_fail X.2.1 E ro qs 2 qt po pa pf pd (nI n1) (nI (tn1 + 1)) an wr pl tb tl (nI ta2_11) tk2_12 ts2_13 (by omega)) mi_X5_fail wl_X5_63 rfl 0 5 rfl rfl rfl rfl rfl dX5_readSaying_98) (roK hro) [2, 3] [0, 1, 4] rfl rfl rfl rfl (fun r_67 uz hw => ?_)
                        obtain ⟨rfl, rfl⟩ := hw
                        refine ww_eq (ws' := [(po, .inl (E.2.1 1, 32, .inl fo1)), (pa, .inl (E.2.1 1, 32, .inl fa1)), (tb, .inl (E.2.1 0, 160, .inl fb)), (qs, .inr (5, [.ref qt, .ref po, .ref pa, .ref pf, .ref pd, .int (nI n1), .int (nI (tn1 + 1)), .int an, .int 2, .int (nI ts2_13)])), (qt, .inr (10, [.ref tb, .int (nI tl), .int (nI ta2_11), .int (nI tk2_12), .int (nI ts2_13)]))]) ?_ rfl rfl rfl
                        exact ww_zret (u := [(qs, .inr (5, [.ref qt, .ref po, .ref pa, .ref pf, .ref pd, .int (nI n1), .int (nI (tn1 + 1)), .int an, .int 2, .int (nI ts2_13)])), (qt, .inr (10, [.ref tb, .int (nI tl), .int (nI ta2_11), .int (nI tk2_12), .int (nI ts2_13)])), (tb, .inl (E.2.1 0, 160, .inl fb)), (po, .inl (E.2.1 1, 32, .inl fo1)), (pa, .inl (E.2.1 1, 32, .inl fa1))]) C hT [3, 4, 2, 0, 1] rfl rfl rfl rfl rfl dX5_readSaying_101 (Or.inr ⟨ta2_11, tk2_12, ts2_13, (nI n1), (nI (tn1 + 1)), 2, (nI ts2_13), fo1, fa1, rfl, rfl, (by first | assumption | omega | decide), (by first | assumption | omega | decide), (by first | assumption | omega | decide), (by omega), h_18⟩)
                  · refine ww_eq (ws' := [(po, .inl (E.2.1 1, 32, .inl fo1)), (pa, .inl (E.2.1 1, 32, .inl fa1)), (qs, .inr (5, [.ref qt, .ref po, .ref pa, .ref pf, .ref pd, .int (nI n1), .int tn2_23, .int an, .int wr2_24, .int pl2_25])), (qt, .inr (10, [.ref tb, .int (nI tl), .int (nI ta2_20), .int (nI tk2_21), .int (nI ts2_22)])), (tb, .inl (E.2.1 0, 160, .inl fb))]) ?_ rfl rfl rfl
                    refine ww_if_ne_f (tgt := 78) C dX5_readSaying_73 (by decide) (rfl) ?_
                    refine ww_iconst (v := 0) C dX5_readSaying_76 rfl ?_
                    exact ww_zret (u := [(qs, .inr (5, [.ref qt, .ref po, .ref pa, .ref pf, .ref pd, .int (nI n1), .int tn2_23, .int an, .int wr2_24, .int pl2_25])), (qt, .inr (10, [.ref tb, .int (nI tl), .int (nI ta2_20), .int (nI tk2_21), .int (nI ts2_22)])), (tb, .inl (E.2.1 0, 160, .inl fb)), (po, .inl (E.2.1 1, 32, .inl fo1)), (pa, .inl (E.2.1 1, 32, .inl fa1))]) C hT [2, 3, 4, 0, 1] rfl rfl rfl rfl rfl dX5_readSaying_77 (Or.inr ⟨ta2_20, tk2_21, ts2_22, (nI n1), tn2_23, wr2_24, pl2_25, fo1, fa1, rfl, rfl, (by first | assumption | omega | decide), (by first | assumption | omega | decide), (by first | assumption | omega | decide), (by omega), h_30⟩)
                · refine ww_eq (ws' := [(po, .inl (E.2.1 1, 32, .inl fo1)), (pa, .inl (E.2.1 1, 32, .inl fa1)), (qs, .inr (5, [.ref qt, .ref po, .ref pa, .ref pf, .ref pd, .int (nI n1), .int (nI tn1), .int an, .int wr, .int pl])), (qt, .inr (10, [.ref tb, .int (nI tl), .int (nI ta1), .int (nI tk1), .int (nI ts1)])), (tb, .inl (E.2.1 0, 160, .inl fb))]) ?_ rfl rfl rfl
                  refine ww_if_ne_f (tgt := 62) C dX5_readSaying_54 (by decide) (rfl) ?_
                  refine ww_iload_n C dX5_readSaying_57 1 rfl rfl ?_
                  refine ww_iconst (v := 5) C dX5_readSaying_58 rfl ?_
                  refine ww_icmp_ne (tgt := 66) C dX5_readSaying_59 (by decide) (fun c_68 => ?_) (fun c_68 => ?_)
                  · have zc_68 : r_3.toInt ≠ 5 := i_ne rfl rfl c_68
                    refine ww_iconst (v := 0) C dX5_readSaying_66 rfl ?_
                    refine ww_istore (lv' := [(5, .int 0), (4, .int 0), (3, .int r_3), (2, .int (nI n1)), (1, .int (nI op1)), (0, .ref qs)]) C dX5_readSaying_67 rfl rfl ?_
                    refine ww_aload_n C dX5_readSaying_69 5 rfl rfl ?_
                    refine ww_ci (wr := [(po, .inl (E.2.1 1, 32, .inl fo1)), (pa, .inl (E.2.1 1, 32, .inl fa1))]) (k' := 0) (n' := 0) C (run_V (As := []) (rest := []) C (q_take X.2.1 E ro qs qt po pa pf pd (nI n1) tn1 an wr pl tb tl ta1 tk1 ts1 fb (by omega) (by omega) (by omega) (by omega) (by omega) hfg1 (by omega)) mi_X5_take wl_X5_97 rfl 0 5 rfl rfl rfl rfl rfl dX5_readSaying_70) (roK hro) [2, 3, 4] [0, 1] rfl rfl rfl rfl (fun r_69 uz hw => ?_)
                    rcases hw with ⟨ta2_70, tk2_71, ts2_72, rfl, rfl, h_73, h_74, h_75, h_76, h_77, h_78⟩ | ⟨ta2_79, tk2_80, ts2_81, tn2_82, wr2_83, pl2_84, rfl, rfl, h_85, h_86, h_87, h_88, h_89⟩
                    · refine ww_eq (ws' := [(po, .inl (E.2.1 1, 32, .inl fo1)), (pa, .inl (E.2.1 1, 32, .inl fa1)), (qs, .inr (5, [.ref qt, .ref po, .ref pa, .ref pf, .ref pd, .int (nI n1), .int (nI (tn1 + 1)), .int an, .int wr, .int pl])), (qt, .inr (10, [.ref tb, .int (nI tl), .int (nI ta2_70), .int (nI tk2_71), .int (nI ts2_72)])), (tb, .inl (E.2.1 0, 160, .inl fb))]) ?_ rfl rfl rfl
                      refine ww_if_ne_t (tgt := 78) C dX5_readSaying_73 (by decide) (by decide) ?_
                      refine ww_iload_n C dX5_readSaying_78 2 rfl rfl ?_
                      refine ww_iconst (v := 5) C dX5_readSaying_79 rfl ?_
                      refine ww_icmp_lt (tgt := 111) C dX5_readSaying_80 (by decide) (fun c_90 => ?_) (fun c_90 => ?_)
                      · have zc_90 : r_3.toInt < 5 := i_lt rfl rfl c_90
                        refine ww_aload_n C dX5_readSaying_111 5 rfl rfl ?_
                        refine ww_get C fg_X5_18 2 rfl rfl dX5_readSaying_112 ?_
                        refine ww_iload_n C dX5_readSaying_115 3 rfl rfl ?_
                        refine ww_iload_n C dX5_readSaying_116 2 rfl rfl ?_
                        obtain ⟨f_91, ef_91⟩ : ∃ z : Nat → Int32, upd fo1 n1 r_3 = z := ⟨_, rfl⟩
                        refine ww_iast (ws' := [(po, .inl (E.2.1 1, 32, .inl f_91)), (pa, .inl (E.2.1 1, 32, .inl fa1)), (qs, .inr (5, [.ref qt, .ref po, .ref pa, .ref pf, .ref pd, .int (nI n1), .int (nI (tn1 + 1)), .int an, .int wr, .int pl])), (qt, .inr (10, [.ref tb, .int (nI tl), .int (nI ta2_70), .int (nI tk2_71), .int (nI ts2_72)])), (tb, .inl (E.2.1 0, 160, .inl fb))]) C 0 rfl (vp_in_nI (by omega) (by omega)) (ldn2 (by omega) ef_91) rfl dX5_readSaying_117 ?_
                        refine ww_aload_n C dX5_readSaying_118 5 rfl rfl ?_
                        refine ww_get C fg_X5_22 2 rfl rfl dX5_readSaying_119 ?_
                        refine ww_iload_n C dX5_readSaying_122 3 rfl rfl ?_
                        refine ww_iload C dX5_readSaying_123 1 rfl ?_
                        obtain ⟨f_92, ef_92⟩ : ∃ z : Nat → Int32, upd fa1 n1 0 = z := ⟨_, rfl⟩
                        refine ww_iast (ws' := [(po, .inl (E.2.1 1, 32, .inl f_91)), (pa, .inl (E.2.1 1, 32, .inl f_92)), (qs, .inr (5, [.ref qt, .ref po, .ref pa, .ref pf, .ref pd, .int (nI n1), .int (nI (tn1 + 1)), .int an, .int wr, .int pl])), (qt, .inr (10, [.ref tb, .int (nI tl), .int (nI ta2_70), .int (nI tk2_71), .int (nI ts2_72)])), (tb, .inl (E.2.1 0, 160, .inl fb))]) C 1 rfl (vp_in_nI (by omega) (by omega)) (ldn2 (by omega) ef_92) rfl dX5_readSaying_125 ?_
                        refine ww_aload_n C dX5_readSaying_126 5 rfl rfl ?_
                        refine ww_iload_n C dX5_readSaying_127 3 rfl rfl ?_
                        refine ww_iconst (v := 1) C dX5_readSaying_128 rfl ?_
                        refine ww_iadd (v := (nI (n1 + 1))) C dX5_readSaying_129 (nI_add n1 1) ?_
                        refine ww_put (ws' := [(po, .inl (E.2.1 1, 32, .inl f_91)), (pa, .inl (E.2.1 1, 32, .inl f_92)), (qs, .inr (5, [.ref qt, .ref po, .ref pa, .ref pf, .ref pd, .int (nI (n1 + 1)), .int (nI (tn1 + 1)), .int an, .int wr, .int pl])), (qt, .inr (10, [.ref tb, .int (nI tl), .int (nI ta2_70), .int (nI tk2_71), .int (nI ts2_72)])), (tb, .inl (E.2.1 0, 160, .inl fb))]) C fp_X5_31 2 rfl rfl rfl rfl rfl dX5_readSaying_130 ?_
                        refine ww_iload_n C dX5_readSaying_133 4 rfl rfl ?_
                        refine ww_iload_n C dX5_readSaying_134 2 rfl rfl ?_
                        refine ww_ci (wr := [(po, .inl (E.2.1 1, 32, .inl f_91)), (pa, .inl (E.2.1 1, 32, .inl f_92)), (qs, .inr (5, [.ref qt, .ref po, .ref pa, .ref pf, .ref pd, .int (nI (n1 + 1)), .int (nI (tn1 + 1)), .int an, .int wr, .int pl])), (qt, .inr (10, [.ref tb, .int (nI tl), .int (nI ta2_70), .int (nI tk2_71), .int (nI ts2_72)])), (tb, .inl (E.2.1 0, 160, .inl fb))]) (k' := 0) (n' := 0) C (run_SN (As := [.int r_3]) (rest := [.int (nI op1)]) C (c_under X.2.1 E ro r_3) ms_X11_under (List.mem_of_getElem? (i := 14) rfl) rfl rfl rfl rfl dX5_readSaying_135) (roK hro) [] [0, 1, 2, 3, 4] rfl rfl rfl rfl (fun r_93 uz hw => ?_)
                        rcases hw with ⟨rfl, rfl, h_94⟩ | ⟨rfl, rfl, h_95⟩ | ⟨rfl, rfl, h_96⟩
                        · refine ww_eq (ws' := [(po, .inl (E.2.1 1, 32, .inl f_91)), (pa, .inl (E.2.1 1, 32, .inl f_92)), (qs, .inr (5, [.ref qt, .ref po, .ref pa, .ref pf, .ref pd, .int (nI (n1 + 1)), .int (nI (tn1 + 1)), .int an, .int wr, .int pl])), (qt, .inr (10, [.ref tb, .int (nI tl), .int (nI ta2_70), .int (nI tk2_71), .int (nI ts2_72)])), (tb, .inl (E.2.1 0, 160, .inl fb))]) ?_ rfl rfl rfl
                          have hun := uN_a0 (x := r_3) (by assumption)
                          have hov := OPV.ext hopv ef_91 (by omega) (by omega) (by omega)
                          have hov2 := hov.2
                          refine ww_iconst (v := 1) C dX5_readSaying_138 rfl ?_
                          refine ww_isub (v := (-1)) C dX5_readSaying_139 (by decide) ?_
                          refine ww_iadd (v := (nI (op1 - 1))) C dX5_readSaying_140 (nI_subc (a := op1) (c := 1) (by omega) rfl) ?_
                          refine ww_istore_n (lv' := [(1, .int (nI (op1 - 1))), (5, .int 0), (4, .int 0), (3, .int r_3), (2, .int (nI n1)), (0, .ref qs)]) C dX5_readSaying_141 rfl rfl rfl ?_
                          refine ww_iinc (j := 4) (v := (nI (n1 + 1))) (lv' := [(2, .int (nI (n1 + 1))), (1, .int (nI (op1 - 1))), (5, .int 0), (4, .int 0), (3, .int r_3), (0, .ref qs)]) C dX5_readSaying_142 rfl (nI_add n1 1) rfl rfl ?_
                          refine ww_goto (tgt := 4) C dX5_readSaying_145 (by decide) ?_
                          exact ww_lv [0, 1, 5] rfl (ww_sub [2, 3, 4, 0, 1] rfl rfl (ih_4 (n1 + 1) (op1 - 1) (tn1 + 1) ta2_70 tk2_71 ts2_72 f_91 f_92 (by omega) (by omega) (by omega) hov.1 (by omega) (by omega) (by omega) (by omega) (by omega) (by omega) h_77 (by omega)))
                        · refine ww_eq (ws' := [(po, .inl (E.2.1 1, 32, .inl f_91)), (pa, .inl (E.2.1 1, 32, .inl f_92)), (qs, .inr (5, [.ref qt, .ref po, .ref pa, .ref pf, .ref pd, .int (nI (n1 + 1)), .int (nI (tn1 + 1)), .int an, .int wr, .int pl])), (qt, .inr (10, [.ref tb, .int (nI tl), .int (nI ta2_70), .int (nI tk2_71), .int (nI ts2_72)])), (tb, .inl (E.2.1 0, 160, .inl fb))]) ?_ rfl rfl rfl
                          have hun := uN_a2 (x := r_3) (by assumption)
                          have hov := OPV.ext hopv ef_91 (by omega) (by omega) (by omega)
                          have hov2 := hov.2
                          refine ww_iconst (v := 1) C dX5_readSaying_138 rfl ?_
                          refine ww_isub (v := 1) C dX5_readSaying_139 (by decide) ?_
                          refine ww_iadd (v := (nI (op1 + 1))) C dX5_readSaying_140 (nI_add op1 1) ?_
                          refine ww_istore_n (lv' := [(1, .int (nI (op1 + 1))), (5, .int 0), (4, .int 0), (3, .int r_3), (2, .int (nI n1)), (0, .ref qs)]) C dX5_readSaying_141 rfl rfl rfl ?_
                          refine ww_iinc (j := 4) (v := (nI (n1 + 1))) (lv' := [(2, .int (nI (n1 + 1))), (1, .int (nI (op1 + 1))), (5, .int 0), (4, .int 0), (3, .int r_3), (0, .ref qs)]) C dX5_readSaying_142 rfl (nI_add n1 1) rfl rfl ?_
                          refine ww_goto (tgt := 4) C dX5_readSaying_145 (by decide) ?_
                          exact ww_lv [0, 1, 5] rfl (ww_sub [2, 3, 4, 0, 1] rfl rfl (ih_4 (n1 + 1) (op1 + 1) (tn1 + 1) ta2_70 tk2_71 ts2_72 f_91 f_92 (by omega) (by omega) (by omega) hov.1 (by omega) (by omega) (by omega) (by omega) (by omega) (by omega) h_77 (by omega)))
                        · refine ww_eq (ws' := [(po, .inl (E.2.1 1, 32, .inl f_91)), (pa, .inl (E.2.1 1, 32, .inl f_92)), (qs, .inr (5, [.ref qt, .ref po, .ref pa, .ref pf, .ref pd, .int (nI (n1 + 1)), .int (nI (tn1 + 1)), .int an, .int wr, .int pl])), (qt, .inr (10, [.ref tb, .int (nI tl), .int (nI ta2_70), .int (nI tk2_71), .int (nI ts2_72)])), (tb, .inl (E.2.1 0, 160, .inl fb))]) ?_ rfl rfl rfl
                          have hun := uN_a1 (x := r_3) (by assumption)
                          have hov := OPV.ext hopv ef_91 (by omega) (by omega) (by omega)
                          have hov2 := hov.2
                          refine ww_iconst (v := 1) C dX5_readSaying_138 rfl ?_
                          refine ww_isub (v := 0) C dX5_readSaying_139 (by decide) ?_
                          refine ww_iadd (v := (nI op1)) C dX5_readSaying_140 (nI_add op1 0) ?_
                          refine ww_istore_n (lv' := [(1, .int (nI op1)), (5, .int 0), (4, .int 0), (3, .int r_3), (2, .int (nI n1)), (0, .ref qs)]) C dX5_readSaying_141 rfl rfl rfl ?_
                          refine ww_iinc (j := 4) (v := (nI (n1 + 1))) (lv' := [(2, .int (nI (n1 + 1))), (1, .int (nI op1)), (5, .int 0), (4, .int 0), (3, .int r_3), (0, .ref qs)]) C dX5_readSaying_142 rfl (nI_add n1 1) rfl rfl ?_
                          refine ww_goto (tgt := 4) C dX5_readSaying_145 (by decide) ?_
                          exact ww_lv [0, 1, 5] rfl (ww_sub [2, 3, 4, 0, 1] rfl rfl (ih_4 (n1 + 1) op1 (tn1 + 1) ta2_70 tk2_71 ts2_72 f_91 f_92 (by omega) (by omega) (by omega) hov.1 (by omega) (by omega) (by omega) (by omega) (by omega) (by omega) h_77 (by omega)))
                      · have zc_90 : r_3.toInt ≥ 5 := i_nlt rfl rfl c_90
                        refine ww_aload_n C dX5_readSaying_83 5 rfl rfl ?_
                        refine ww_iload C dX5_readSaying_84 0 rfl ?_
                        refine ww_ci (wr := [(po, .inl (E.2.1 1, 32, .inl fo1)), (pa, .inl (E.2.1 1, 32, .inl fa1))]) (k' := 0) (n' := 0) C (run_V (As := [.int 0]) (rest := []) C (q_knowers X.2.1 E ro qs 0 qt po pa pf pd (nI n1) (nI (tn1 + 1)) an wr pl tb tl ta2_70 tk2_71 ts2_72 fb (by omega) (by omega) (by omega) (by omega) (by omega) h_77) mi_X5_knowers wl_X5_100 rfl 0 5 rfl rfl rfl rfl rfl dX5_readSaying_86) (roK hro) [2, 3, 4] [0, 1] rfl rfl rfl rfl (fun r_97 uz hw => ?_)
                        obtain rfl := hw
                        refine ww_eq (ws' := [(po, .inl (E.2.1 1, 32, .inl fo1)), (pa, .inl (E.2.1 1, 32, .inl fa1)), (qs, .inr (5, [.ref qt, .ref po, .ref pa, .ref pf, .ref pd, .int (nI n1), .int (nI (tn1 + 1)), .int an, .int wr, .int pl])), (qt, .inr (10, [.ref tb, .int (nI tl), .int (nI ta2_70), .int (nI tk2_71), .int (nI ts2_72)])), (tb, .inl (E.2.1 0, 160, .inl fb))]) ?_ rfl rfl rfl
                        refine ww_istore (lv' := [(4, .int r_97), (5, .int 0), (3, .int r_3), (2, .int (nI n1)), (1, .int (nI op1)), (0, .ref qs)]) C dX5_readSaying_89 rfl rfl ?_
                        refine ww_iload C dX5_readSaying_91 0 rfl ?_
                        refine ww_if_ne (tgt := 102) C dX5_readSaying_93 (by decide) (fun c_98 => ?_) (fun c_98 => ?_)
                        · have zc_98 : r_97.toInt ≠ 0 := i_ne rfl rfl c_98
                          refine ww_aload_n C dX5_readSaying_102 5 rfl rfl ?_
                          refine ww_ci (wr := [(po, .inl (E.2.1 1, 32, .inl fo1)), (pa, .inl (E.2.1 1, 32, .inl fa1))]) (k' := 0) (n' := 0) C (run_V (As := []) (rest := []) C (q_take X.2.1 E ro qs qt po pa pf pd (nI n1) (tn1 + 1) an wr pl tb tl ta2_70 tk2_71 ts2_72 fb (by omega) (by omega) (by omega) (by omega) (by omega) h_77 (by omega)) mi_X5_take wl_X5_97 rfl 0 5 rfl rfl rfl rfl rfl dX5_readSaying_103) (roK hro) [2, 3, 4] [0, 1] rfl rfl rfl rfl (fun r_99 uz hw => ?_)
                          rcases hw with ⟨ta2_100, tk2_101, ts2_102, rfl, rfl, h_103, h_104, h_105, h_106, h_107, h_108⟩ | ⟨ta2_109, tk2_110, ts2_111, tn2_112, wr2_113, pl2_114, rfl, rfl, h_115, h_116, h_117, h_118, h_119⟩
                          · refine ww_eq (ws' := [(po, .inl (E.2.1 1, 32, .inl fo1)), (pa, .inl (E.2.1 1, 32, .inl fa1)), (qs, .inr (5, [.ref qt, .ref po, .ref pa, .ref pf, .ref pd, .int (nI n1), .int (nI ((tn1 + 1) + 1)), .int an, .int wr, .int pl])), (qt, .inr (10, [.ref tb, .int (nI tl), .int (nI ta2_100), .int (nI tk2_101), .int (nI ts2_102)])), (tb, .inl (E.2.1 0, 160, .inl fb))]) ?_ rfl rfl rfl
                            refine ww_if_ne_t (tgt := 111) C dX5_readSaying_106 (by decide) (by decide) ?_
                            refine ww_aload_n C dX5_readSaying_111 5 rfl rfl ?_
                            refine ww_get C fg_X5_18 2 rfl rfl dX5_readSaying_112 ?_
                            refine ww_iload_n C dX5_readSaying_115 3 rfl rfl ?_
                            refine ww_iload_n C dX5_readSaying_116 2 rfl rfl ?_
                            obtain ⟨f_120, ef_120⟩ : ∃ z : Nat → Int32, upd fo1 n1 r_3 = z := ⟨_, rfl⟩
                            refine ww_iast (ws' := [(po, .inl (E.2.1 1, 32, .inl f_120)), (pa, .inl (E.2.1 1, 32, .inl fa1)), (qs, .inr (5, [.ref qt, .ref po, .ref pa, .ref pf, .ref pd, .int (nI n1), .int (nI ((tn1 + 1) + 1)), .int an, .int wr, .int pl])), (qt, .inr (10, [.ref tb, .int (nI tl), .int (nI ta2_100), .int (nI tk2_101), .int (nI ts2_102)])), (tb, .inl (E.2.1 0, 160, .inl fb))]) C 0 rfl (vp_in_nI (by omega) (by omega)) (ldn2 (by omega) ef_120) rfl dX5_readSaying_117 ?_
                            refine ww_aload_n C dX5_readSaying_118 5 rfl rfl ?_
                            refine ww_get C fg_X5_22 2 rfl rfl dX5_readSaying_119 ?_
                            refine ww_iload_n C dX5_readSaying_122 3 rfl rfl ?_
                            refine ww_iload C dX5_readSaying_123 0 rfl ?_
                            obtain ⟨f_121, ef_121⟩ : ∃ z : Nat → Int32, upd fa1 n1 r_97 = z := ⟨_, rfl⟩
                            refine ww_iast (ws' := [(po, .inl (E.2.1 1, 32, .inl f_120)), (pa, .inl (E.2.1 1, 32, .inl f_121)), (qs, .inr (5, [.ref qt, .ref po, .ref pa, .ref pf, .ref pd, .int (nI n1), .int (nI ((tn1 + 1) + 1)), .int an, .int wr, .int pl])), (qt, .inr (10, [.ref tb, .int (nI tl), .int (nI ta2_100), .int (nI tk2_101), .int (nI ts2_102)])), (tb, .inl (E.2.1 0, 160, .inl fb))]) C 1 rfl (vp_in_nI (by omega) (by omega)) (ldn2 (by omega) ef_121) rfl dX5_readSaying_125 ?_
                            refine ww_aload_n C dX5_readSaying_126 5 rfl rfl ?_
                            refine ww_iload_n C dX5_readSaying_127 3 rfl rfl ?_
                            refine ww_iconst (v := 1) C dX5_readSaying_128 rfl ?_
                            refine ww_iadd (v := (nI (n1 + 1))) C dX5_readSaying_129 (nI_add n1 1) ?_
                            refine ww_put (ws' := [(po, .inl (E.2.1 1, 32, .inl f_120)), (pa, .inl (E.2.1 1, 32, .inl f_121)), (qs, .inr (5, [.ref qt, .ref po, .ref pa, .ref pf, .ref pd, .int (nI (n1 + 1)), .int (nI ((tn1 + 1) + 1)), .int an, .int wr, .int pl])), (qt, .inr (10, [.ref tb, .int (nI tl), .int (nI ta2_100), .int (nI tk2_101), .int (nI ts2_102)])), (tb, .inl (E.2.1 0, 160, .inl fb))]) C fp_X5_31 2 rfl rfl rfl rfl rfl dX5_readSaying_130 ?_
                            refine ww_iload_n C dX5_readSaying_133 4 rfl rfl ?_
                            refine ww_iload_n C dX5_readSaying_134 2 rfl rfl ?_
                            refine ww_ci (wr := [(po, .inl (E.2.1 1, 32, .inl f_120)), (pa, .inl (E.2.1 1, 32, .inl f_121)), (qs, .inr (5, [.ref qt, .ref po, .ref pa, .ref pf, .ref pd, .int (nI (n1 + 1)), .int (nI ((tn1 + 1) + 1)), .int an, .int wr, .int pl])), (qt, .inr (10, [.ref tb, .int (nI tl), .int (nI ta2_100), .int (nI tk2_101), .int (nI ts2_102)])), (tb, .inl (E.2.1 0, 160, .inl fb))]) (k' := 0) (n' := 0) C (run_SN (As := [.int r_3]) (rest := [.int (nI op1)]) C (c_under X.2.1 E ro r_3) ms_X11_under (List.mem_of_getElem? (i := 14) rfl) rfl rfl rfl rfl dX5_readSaying_135) (roK hro) [] [0, 1, 2, 3, 4] rfl rfl rfl rfl (fun r_122 uz hw => ?_)
                            rcases hw with ⟨rfl, rfl, h_123⟩ | ⟨rfl, rfl, h_124⟩ | ⟨rfl, rfl, h_125⟩
                            · refine ww_eq (ws' := [(po, .inl (E.2.1 1, 32, .inl f_120)), (pa, .inl (E.2.1 1, 32, .inl f_121)), (qs, .inr (5, [.ref qt, .ref po, .ref pa, .ref pf, .ref pd, .int (nI (n1 + 1)), .int (nI ((tn1 + 1) + 1)), .int an, .int wr, .int pl])), (qt, .inr (10, [.ref tb, .int (nI tl), .int (nI ta2_100), .int (nI tk2_101), .int (nI ts2_102)])), (tb, .inl (E.2.1 0, 160, .inl fb))]) ?_ rfl rfl rfl
                              have hun := uN_a0 (x := r_3) (by assumption)
                              have hov := OPV.ext hopv ef_120 (by omega) (by omega) (by omega)
                              have hov2 := hov.2
                              refine ww_iconst (v := 1) C dX5_readSaying_138 rfl ?_
                              refine ww_isub (v := (-1)) C dX5_readSaying_139 (by decide) ?_
                              refine ww_iadd (v := (nI (op1 - 1))) C dX5_readSaying_140 (nI_subc (a := op1) (c := 1) (by omega) rfl) ?_
                              refine ww_istore_n (lv' := [(1, .int (nI (op1 - 1))), (4, .int r_97), (5, .int 0), (3, .int r_3), (2, .int (nI n1)), (0, .ref qs)]) C dX5_readSaying_141 rfl rfl rfl ?_
                              refine ww_iinc (j := 4) (v := (nI (n1 + 1))) (lv' := [(2, .int (nI (n1 + 1))), (1, .int (nI (op1 - 1))), (4, .int r_97), (5, .int 0), (3, .int r_3), (0, .ref qs)]) C dX5_readSaying_142 rfl (nI_add n1 1) rfl rfl ?_
                              refine ww_goto (tgt := 4) C dX5_readSaying_145 (by decide) ?_
                              exact ww_lv [0, 1, 5] rfl (ww_sub [2, 3, 4, 0, 1] rfl rfl (ih_4 (n1 + 1) (op1 - 1) ((tn1 + 1) + 1) ta2_100 tk2_101 ts2_102 f_120 f_121 (by omega) (by omega) (by omega) hov.1 (by omega) (by omega) (by omega) (by omega) (by omega) (by omega) h_107 (by omega)))
                            · refine ww_eq (ws' := [(po, .inl (E.2.1 1, 32, .inl f_120)), (pa, .inl (E.2.1 1, 32, .inl f_121)), (qs, .inr (5, [.ref qt, .ref po, .ref pa, .ref pf, .ref pd, .int (nI (n1 + 1)), .int (nI ((tn1 + 1) + 1)), .int an, .int wr, .int pl])), (qt, .inr (10, [.ref tb, .int (nI tl), .int (nI ta2_100), .int (nI tk2_101), .int (nI ts2_102)])), (tb, .inl (E.2.1 0, 160, .inl fb))]) ?_ rfl rfl rfl
                              have hun := uN_a2 (x := r_3) (by assumption)
                              have hov := OPV.ext hopv ef_120 (by omega) (by omega) (by omega)
                              have hov2 := hov.2
                              refine ww_iconst (v := 1) C dX5_readSaying_138 rfl ?_
                              refine ww_isub (v := 1) C dX5_readSaying_139 (by decide) ?_
                              refine ww_iadd (v := (nI (op1 + 1))) C dX5_readSaying_140 (nI_add op1 1) ?_
                              refine ww_istore_n (lv' := [(1, .int (nI (op1 + 1))), (4, .int r_97), (5, .int 0), (3, .int r_3), (2, .int (nI n1)), (0, .ref qs)]) C dX5_readSaying_141 rfl rfl rfl ?_
                              refine ww_iinc (j := 4) (v := (nI (n1 + 1))) (lv' := [(2, .int (nI (n1 + 1))), (1, .int (nI (op1 + 1))), (4, .int r_97), (5, .int 0), (3, .int r_3), (0, .ref qs)]) C dX5_readSaying_142 rfl (nI_add n1 1) rfl rfl ?_
                              refine ww_goto (tgt := 4) C dX5_readSaying_145 (by decide) ?_
                              exact ww_lv [0, 1, 5] rfl (ww_sub [2, 3, 4, 0, 1] rfl rfl (ih_4 (n1 + 1) (op1 + 1) ((tn1 + 1) + 1) ta2_100 tk2_101 ts2_102 f_120 f_121 (by omega) (by omega) (by omega) hov.1 (by omega) (by omega) (by omega) (by omega) (by omega) (by omega) h_107 (by omega)))
                            · refine ww_eq (ws' := [(po, .inl (E.2.1 1, 32, .inl f_120)), (pa, .inl (E.2.1 1, 32, .inl f_121)), (qs, .inr (5, [.ref qt, .ref po, .ref pa, .ref pf, .ref pd, .int (nI (n1 + 1)), .int (nI ((tn1 + 1) + 1)), .int an, .int wr, .int pl])), (qt, .inr (10, [.ref tb, .int (nI tl), .int (nI ta2_100), .int (nI tk2_101), .int (nI ts2_102)])), (tb, .inl (E.2.1 0, 160, .inl fb))]) ?_ rfl rfl rfl
                              have hun := uN_a1 (x := r_3) (by assumption)
                              have hov := OPV.ext hopv ef_120 (by omega) (by omega) (by omega)
                              have hov2 := hov.2
                              refine ww_iconst (v := 1) C dX5_readSaying_138 rfl ?_
                              refine ww_isub (v := 0) C dX5_readSaying_139 (by decide) ?_
                              refine ww_iadd (v := (nI op1)) C dX5_readSaying_140 (nI_add op1 0) ?_
                              refine ww_istore_n (lv' := [(1, .int (nI op1)), (4, .int r_97), (5, .int 0), (3, .int r_3), (2, .int (nI n1)), (0, .ref qs)]) C dX5_readSaying_141 rfl rfl rfl ?_
                              refine ww_iinc (j := 4) (v := (nI (n1 + 1))) (lv' := [(2, .int (nI (n1 + 1))), (1, .int (nI op1)), (4, .int r_97), (5, .int 0), (3, .int r_3), (0, .ref qs)]) C dX5_readSaying_142 rfl (nI_add n1 1) rfl rfl ?_
                              refine ww_goto (tgt := 4) C dX5_readSaying_145 (by decide) ?_
                              exact ww_lv [0, 1, 5] rfl (ww_sub [2, 3, 4, 0, 1] rfl rfl (ih_4 (n1 + 1) op1 ((tn1 + 1) + 1) ta2_100 tk2_101 ts2_102 f_120 f_121 (by omega) (by omega) (by omega) hov.1 (by omega) (by omega) (by omega) (by omega) (by omega) (by omega) h_107 (by omega)))
                          · refine ww_eq (ws' := [(po, .inl (E.2.1 1, 32, .inl fo1)), (pa, .inl (E.2.1 1, 32, .inl fa1)), (qs, .inr (5, [.ref qt, .ref po, .ref pa, .ref pf, .ref pd, .int (nI n1), .int tn2_112, .int an, .int wr2_113, .int pl2_114])), (qt, .inr (10, [.ref tb, .int (nI tl), .int (nI ta2_109), .int (nI tk2_110), .int (nI ts2_111)])), (tb, .inl (E.2.1 0, 160, .inl fb))]) ?_ rfl rfl rfl
                            refine ww_if_ne_f (tgt := 111) C dX5_readSaying_106 (by decide) (rfl) ?_
                            refine ww_iconst (v := 0) C dX5_readSaying_109 rfl ?_
                            exact ww_zret (u := [(qs, .inr (5, [.ref qt, .ref po, .ref pa, .ref pf, .ref pd, .int (nI n1), .int tn2_112, .int an, .int wr2_113, .int pl2_114])), (qt, .inr (10, [.ref tb, .int (nI tl), .int (nI ta2_109), .int (nI tk2_110), .int (nI ts2_111)])), (tb, .inl (E.2.1 0, 160, .inl fb)), (po, .inl (E.2.1 1, 32, .inl fo1)), (pa, .inl (E.2.1 1, 32, .inl fa1))]) C hT [2, 3, 4, 0, 1] rfl rfl rfl rfl rfl dX5_readSaying_110 (Or.inr ⟨ta2_109, tk2_110, ts2_111, (nI n1), tn2_112, wr2_113, pl2_114, fo1, fa1, rfl, rfl, (by first | assumption | omega | decide), (by first | assumption | omega | decide), (by first | assumption | omega | decide), (by omega), h_119⟩)
                        · have zc_98 : r_97.toInt = 0 := i_eq rfl rfl c_98
                          refine ww_aload_n C dX5_readSaying_96 5 rfl rfl ?_
                          refine ww_iconst (v := 2) C dX5_readSaying_97 rfl ?_
                          refine ww_ci (wr := [(po, .inl (E.2.1 1, 32, .inl fo1)), (pa, .inl (E.2.1 1, 32, .inl fa1)), (tb, .inl (E.2.1 0, 160, .inl fb))]) (k' := 0) (n' := 0) C (run_V (As := [.int 2]) (rest := []) C (q_fail X.2.1 E ro qs 2 qt po pa pf pd (nI n1) (nI (tn1 + 1)) an wr pl tb tl (nI ta2_70) tk2_71 ts2_72 (by omega)) mi_X5_fail wl_X5_63 rfl 0 5 rfl rfl rfl rfl rfl dX5_readSaying_98) (roK hro) [2, 3] [0, 1, 4] rfl rfl rfl rfl (fun r_126 uz hw => ?_)
                          obtain ⟨rfl, rfl⟩ := hw
                          refine ww_eq (ws' := [(po, .inl (E.2.1 1, 32, .inl fo1)), (pa, .inl (E.2.1 1, 32, .inl fa1)), (tb, .inl (E.2.1 0, 160, .inl fb)), (qs, .inr (5, [.ref qt, .ref po, .ref pa, .ref pf, .ref pd, .int (nI n1), .int (nI (tn1 + 1)), .int an, .int 2, .int (nI ts2_72)])), (qt, .inr (10, [.ref tb, .int (nI tl), .int (nI ta2_70), .int (nI tk2_71), .int (nI ts2_72)]))]) ?_ rfl rfl rfl
                          exact ww_zret (u := [(qs, .inr (5, [.ref qt, .ref po, .ref pa, .ref pf, .ref pd, .int (nI n1), .int (nI (tn1 + 1)), .int an, .int 2, .int (nI ts2_72)])), (qt, .inr (10, [.ref tb, .int (nI tl), .int (nI ta2_70), .int (nI tk2_71), .int (nI ts2_72)])), (tb, .inl (E.2.1 0, 160, .inl fb)), (po, .inl (E.2.1 1, 32, .inl fo1)), (pa, .inl (E.2.1 1, 32, .inl fa1))]) C hT [3, 4, 2, 0, 1] rfl rfl rfl rfl rfl dX5_readSaying_101 (Or.inr ⟨ta2_70, tk2_71, ts2_72, (nI n1), (nI (tn1 + 1)), 2, (nI ts2_72), fo1, fa1, rfl, rfl, (by first | assumption | omega | decide), (by first | assumption | omega | decide), (by first | assumption | omega | decide), (by omega), h_77⟩)
                    · refine ww_eq (ws' := [(po, .inl (E.2.1 1, 32, .inl fo1)), (pa, .inl (E.2.1 1, 32, .inl fa1)), (qs, .inr (5, [.ref qt, .ref po, .ref pa, .ref pf, .ref pd, .int (nI n1), .int tn2_82, .int an, .int wr2_83, .int pl2_84])), (qt, .inr (10, [.ref tb, .int (nI tl), .int (nI ta2_79), .int (nI tk2_80), .int (nI ts2_81)])), (tb, .inl (E.2.1 0, 160, .inl fb))]) ?_ rfl rfl rfl
                      refine ww_if_ne_f (tgt := 78) C dX5_readSaying_73 (by decide) (rfl) ?_
                      refine ww_iconst (v := 0) C dX5_readSaying_76 rfl ?_
                      exact ww_zret (u := [(qs, .inr (5, [.ref qt, .ref po, .ref pa, .ref pf, .ref pd, .int (nI n1), .int tn2_82, .int an, .int wr2_83, .int pl2_84])), (qt, .inr (10, [.ref tb, .int (nI tl), .int (nI ta2_79), .int (nI tk2_80), .int (nI ts2_81)])), (tb, .inl (E.2.1 0, 160, .inl fb)), (po, .inl (E.2.1 1, 32, .inl fo1)), (pa, .inl (E.2.1 1, 32, .inl fa1))]) C hT [2, 3, 4, 0, 1] rfl rfl rfl rfl rfl dX5_readSaying_77 (Or.inr ⟨ta2_79, tk2_80, ts2_81, (nI n1), tn2_82, wr2_83, pl2_84, fo1, fa1, rfl, rfl, (by first | assumption | omega | decide), (by first | assumption | omega | decide), (by first | assumption | omega | decide), (by omega), h_89⟩)
                  · have zc_68 : r_3.toInt = 5 := i_eq rfl rfl c_68
                    refine ww_iconst (v := 1) C dX5_readSaying_62 rfl ?_
                    refine ww_goto (tgt := 67) C dX5_readSaying_63 (by decide) ?_
                    refine ww_istore (lv' := [(5, .int 1), (4, .int 0), (3, .int r_3), (2, .int (nI n1)), (1, .int (nI op1)), (0, .ref qs)]) C dX5_readSaying_67 rfl rfl ?_
                    refine ww_aload_n C dX5_readSaying_69 5 rfl rfl ?_
                    refine ww_ci (wr := [(po, .inl (E.2.1 1, 32, .inl fo1)), (pa, .inl (E.2.1 1, 32, .inl fa1))]) (k' := 0) (n' := 0) C (run_V (As := []) (rest := []) C (q_take X.2.1 E ro qs qt po pa pf pd (nI n1) tn1 an wr pl tb tl ta1 tk1 ts1 fb (by omega) (by omega) (by omega) (by omega) (by omega) hfg1 (by omega)) mi_X5_take wl_X5_97 rfl 0 5 rfl rfl rfl rfl rfl dX5_readSaying_70) (roK hro) [2, 3, 4] [0, 1] rfl rfl rfl rfl (fun r_127 uz hw => ?_)
                    rcases hw with ⟨ta2_128, tk2_129, ts2_130, rfl, rfl, h_131, h_132, h_133, h_134, h_135, h_136⟩ | ⟨ta2_137, tk2_138, ts2_139, tn2_140, wr2_141, pl2_142, rfl, rfl, h_143, h_144, h_145, h_146, h_147⟩
                    · refine ww_eq (ws' := [(po, .inl (E.2.1 1, 32, .inl fo1)), (pa, .inl (E.2.1 1, 32, .inl fa1)), (qs, .inr (5, [.ref qt, .ref po, .ref pa, .ref pf, .ref pd, .int (nI n1), .int (nI (tn1 + 1)), .int an, .int wr, .int pl])), (qt, .inr (10, [.ref tb, .int (nI tl), .int (nI ta2_128), .int (nI tk2_129), .int (nI ts2_130)])), (tb, .inl (E.2.1 0, 160, .inl fb))]) ?_ rfl rfl rfl
                      refine ww_if_ne_t (tgt := 78) C dX5_readSaying_73 (by decide) (by decide) ?_
                      refine ww_iload_n C dX5_readSaying_78 2 rfl rfl ?_
                      refine ww_iconst (v := 5) C dX5_readSaying_79 rfl ?_
                      refine ww_icmp_lt (tgt := 111) C dX5_readSaying_80 (by decide) (fun c_148 => ?_) (fun c_148 => ?_)
                      · have zc_148 : r_3.toInt < 5 := i_lt rfl rfl c_148
                        omega
                      · have zc_148 : r_3.toInt ≥ 5 := i_nlt rfl rfl c_148
                        refine ww_aload_n C dX5_readSaying_83 5 rfl rfl ?_
                        refine ww_iload C dX5_readSaying_84 0 rfl ?_
                        refine ww_ci (wr := [(po, .inl (E.2.1 1, 32, .inl fo1)), (pa, .inl (E.2.1 1, 32, .inl fa1))]) (k' := 0) (n' := 0) C (run_V (As := [.int 1]) (rest := []) C (q_knowers X.2.1 E ro qs 1 qt po pa pf pd (nI n1) (nI (tn1 + 1)) an wr pl tb tl ta2_128 tk2_129 ts2_130 fb (by omega) (by omega) (by omega) (by omega) (by omega) h_135) mi_X5_knowers wl_X5_100 rfl 0 5 rfl rfl rfl rfl rfl dX5_readSaying_86) (roK hro) [2, 3, 4] [0, 1] rfl rfl rfl rfl (fun r_149 uz hw => ?_)
                        obtain rfl := hw
                        refine ww_eq (ws' := [(po, .inl (E.2.1 1, 32, .inl fo1)), (pa, .inl (E.2.1 1, 32, .inl fa1)), (qs, .inr (5, [.ref qt, .ref po, .ref pa, .ref pf, .ref pd, .int (nI n1), .int (nI (tn1 + 1)), .int an, .int wr, .int pl])), (qt, .inr (10, [.ref tb, .int (nI tl), .int (nI ta2_128), .int (nI tk2_129), .int (nI ts2_130)])), (tb, .inl (E.2.1 0, 160, .inl fb))]) ?_ rfl rfl rfl
                        refine ww_istore (lv' := [(4, .int r_149), (5, .int 1), (3, .int r_3), (2, .int (nI n1)), (1, .int (nI op1)), (0, .ref qs)]) C dX5_readSaying_89 rfl rfl ?_
                        refine ww_iload C dX5_readSaying_91 0 rfl ?_
                        refine ww_if_ne (tgt := 102) C dX5_readSaying_93 (by decide) (fun c_150 => ?_) (fun c_150 => ?_)
                        · have zc_150 : r_149.toInt ≠ 0 := i_ne rfl rfl c_150
                          refine ww_aload_n C dX5_readSaying_102 5 rfl rfl ?_
                          refine ww_ci (wr := [(po, .inl (E.2.1 1, 32, .inl fo1)), (pa, .inl (E.2.1 1, 32, .inl fa1))]) (k' := 0) (n' := 0) C (run_V (As := []) (rest := []) C (q_take X.2.1 E ro qs qt po pa pf pd (nI n1) (tn1 + 1) an wr pl tb tl ta2_128 tk2_129 ts2_130 fb (by omega) (by omega) (by omega) (by omega) (by omega) h_135 (by omega)) mi_X5_take wl_X5_97 rfl 0 5 rfl rfl rfl rfl rfl dX5_readSaying_103) (roK hro) [2, 3, 4] [0, 1] rfl rfl rfl rfl (fun r_151 uz hw => ?_)
                          rcases hw with ⟨ta2_152, tk2_153, ts2_154, rfl, rfl, h_155, h_156, h_157, h_158, h_159, h_160⟩ | ⟨ta2_161, tk2_162, ts2_163, tn2_164, wr2_165, pl2_166, rfl, rfl, h_167, h_168, h_169, h_170, h_171⟩
                          · refine ww_eq (ws' := [(po, .inl (E.2.1 1, 32, .inl fo1)), (pa, .inl (E.2.1 1, 32, .inl fa1)), (qs, .inr (5, [.ref qt, .ref po, .ref pa, .ref pf, .ref pd, .int (nI n1), .int (nI ((tn1 + 1) + 1)), .int an, .int wr, .int pl])), (qt, .inr (10, [.ref tb, .int (nI tl), .int (nI ta2_152), .int (nI tk2_153), .int (nI ts2_154)])), (tb, .inl (E.2.1 0, 160, .inl fb))]) ?_ rfl rfl rfl
                            refine ww_if_ne_t (tgt := 111) C dX5_readSaying_106 (by decide) (by decide) ?_
                            refine ww_aload_n C dX5_readSaying_111 5 rfl rfl ?_
                            refine ww_get C fg_X5_18 2 rfl rfl dX5_readSaying_112 ?_
                            refine ww_iload_n C dX5_readSaying_115 3 rfl rfl ?_
                            refine ww_iload_n C dX5_readSaying_116 2 rfl rfl ?_
                            obtain ⟨f_172, ef_172⟩ : ∃ z : Nat → Int32, upd fo1 n1 r_3 = z := ⟨_, rfl⟩
                            refine ww_iast (ws' := [(po, .inl (E.2.1 1, 32, .inl f_172)), (pa, .inl (E.2.1 1, 32, .inl fa1)), (qs, .inr (5, [.ref qt, .ref po, .ref pa, .ref pf, .ref pd, .int (nI n1), .int (nI ((tn1 + 1) + 1)), .int an, .int wr, .int pl])), (qt, .inr (10, [.ref tb, .int (nI tl), .int (nI ta2_152), .int (nI tk2_153), .int (nI ts2_154)])), (tb, .inl (E.2.1 0, 160, .inl fb))]) C 0 rfl (vp_in_nI (by omega) (by omega)) (ldn2 (by omega) ef_172) rfl dX5_readSaying_117 ?_
                            refine ww_aload_n C dX5_readSaying_118 5 rfl rfl ?_
                            refine ww_get C fg_X5_22 2 rfl rfl dX5_readSaying_119 ?_
                            refine ww_iload_n C dX5_readSaying_122 3 rfl rfl ?_
                            refine ww_iload C dX5_readSaying_123 0 rfl ?_
                            obtain ⟨f_173, ef_173⟩ : ∃ z : Nat → Int32, upd fa1 n1 r_149 = z := ⟨_, rfl⟩
                            refine ww_iast (ws' := [(po, .inl (E.2.1 1, 32, .inl f_172)), (pa, .inl (E.2.1 1, 32, .inl f_173)), (qs, .inr (5, [.ref qt, .ref po, .ref pa, .ref pf, .ref pd, .int (nI n1), .int (nI ((tn1 + 1) + 1)), .int an, .int wr, .int pl])), (qt, .inr (10, [.ref tb, .int (nI tl), .int (nI ta2_152), .int (nI tk2_153), .int (nI ts2_154)])), (tb, .inl (E.2.1 0, 160, .inl fb))]) C 1 rfl (vp_in_nI (by omega) (by omega)) (ldn2 (by omega) ef_173) rfl dX5_readSaying_125 ?_
                            refine ww_aload_n C dX5_readSaying_126 5 rfl rfl ?_
                            refine ww_iload_n C dX5_readSaying_127 3 rfl rfl ?_
                            refine ww_iconst (v := 1) C dX5_readSaying_128 rfl ?_
                            refine ww_iadd (v := (nI (n1 + 1))) C dX5_readSaying_129 (nI_add n1 1) ?_
                            refine ww_put (ws' := [(po, .inl (E.2.1 1, 32, .inl f_172)), (pa, .inl (E.2.1 1, 32, .inl f_173)), (qs, .inr (5, [.ref qt, .ref po, .ref pa, .ref pf, .ref pd, .int (nI (n1 + 1)), .int (nI ((tn1 + 1) + 1)), .int an, .int wr, .int pl])), (qt, .inr (10, [.ref tb, .int (nI tl), .int (nI ta2_152), .int (nI tk2_153), .int (nI ts2_154)])), (tb, .inl (E.2.1 0, 160, .inl fb))]) C fp_X5_31 2 rfl rfl rfl rfl rfl dX5_readSaying_130 ?_
                            refine ww_iload_n C dX5_readSaying_133 4 rfl rfl ?_
                            refine ww_iload_n C dX5_readSaying_134 2 rfl rfl ?_
                            refine ww_ci (wr := [(po, .inl (E.2.1 1, 32, .inl f_172)), (pa, .inl (E.2.1 1, 32, .inl f_173)), (qs, .inr (5, [.ref qt, .ref po, .ref pa, .ref pf, .ref pd, .int (nI (n1 + 1)), .int (nI ((tn1 + 1) + 1)), .int an, .int wr, .int pl])), (qt, .inr (10, [.ref tb, .int (nI tl), .int (nI ta2_152), .int (nI tk2_153), .int (nI ts2_154)])), (tb, .inl (E.2.1 0, 160, .inl fb))]) (k' := 0) (n' := 0) C (run_SN (As := [.int r_3]) (rest := [.int (nI op1)]) C (c_under X.2.1 E ro r_3) ms_X11_under (List.mem_of_getElem? (i := 14) rfl) rfl rfl rfl rfl dX5_readSaying_135) (roK hro) [] [0, 1, 2, 3, 4] rfl rfl rfl rfl (fun r_174 uz hw => ?_)
                            rcases hw with ⟨rfl, rfl, h_175⟩ | ⟨rfl, rfl, h_176⟩ | ⟨rfl, rfl, h_177⟩
                            · refine ww_eq (ws' := [(po, .inl (E.2.1 1, 32, .inl f_172)), (pa, .inl (E.2.1 1, 32, .inl f_173)), (qs, .inr (5, [.ref qt, .ref po, .ref pa, .ref pf, .ref pd, .int (nI (n1 + 1)), .int (nI ((tn1 + 1) + 1)), .int an, .int wr, .int pl])), (qt, .inr (10, [.ref tb, .int (nI tl), .int (nI ta2_152), .int (nI tk2_153), .int (nI ts2_154)])), (tb, .inl (E.2.1 0, 160, .inl fb))]) ?_ rfl rfl rfl
                              have hun := uN_a0 (x := r_3) (by assumption)
                              have hov := OPV.ext hopv ef_172 (by omega) (by omega) (by omega)
                              have hov2 := hov.2
                              refine ww_iconst (v := 1) C dX5_readSaying_138 rfl ?_
                              refine ww_isub (v := (-1)) C dX5_readSaying_139 (by decide) ?_
                              refine ww_iadd (v := (nI (op1 - 1))) C dX5_readSaying_140 (nI_subc (a := op1) (c := 1) (by omega) rfl) ?_
                              refine ww_istore_n (lv' := [(1, .int (nI (op1 - 1))), (4, .int r_149), (5, .int 1), (3, .int r_3), (2, .int (nI n1)), (0, .ref qs)]) C dX5_readSaying_141 rfl rfl rfl ?_
                              refine ww_iinc (j := 4) (v := (nI (n1 + 1))) (lv' := [(2, .int (nI (n1 + 1))), (1, .int (nI (op1 - 1))), (4, .int r_149), (5, .int 1), (3, .int r_3), (0, .ref qs)]) C dX5_readSaying_142 rfl (nI_add n1 1) rfl rfl ?_
                              refine ww_goto (tgt := 4) C dX5_readSaying_145 (by decide) ?_
                              exact ww_lv [0, 1, 5] rfl (ww_sub [2, 3, 4, 0, 1] rfl rfl (ih_4 (n1 + 1) (op1 - 1) ((tn1 + 1) + 1) ta2_152 tk2_153 ts2_154 f_172 f_173 (by omega) (by omega) (by omega) hov.1 (by omega) (by omega) (by omega) (by omega) (by omega) (by omega) h_159 (by omega)))
                            · refine ww_eq (ws' := [(po, .inl (E.2.1 1, 32, .inl f_172)), (pa, .inl (E.2.1 1, 32, .inl f_173)), (qs, .inr (5, [.ref qt, .ref po, .ref pa, .ref pf, .ref pd, .int (nI (n1 + 1)), .int (nI ((tn1 + 1) + 1)), .int an, .int wr, .int pl])), (qt, .inr (10, [.ref tb, .int (nI tl), .int (nI ta2_152), .int (nI tk2_153), .int (nI ts2_154)])), (tb, .inl (E.2.1 0, 160, .inl fb))]) ?_ rfl rfl rfl
                              have hun := uN_a2 (x := r_3) (by assumption)
                              have hov := OPV.ext hopv ef_172 (by omega) (by omega) (by omega)
                              have hov2 := hov.2
                              refine ww_iconst (v := 1) C dX5_readSaying_138 rfl ?_
                              refine ww_isub (v := 1) C dX5_readSaying_139 (by decide) ?_
                              refine ww_iadd (v := (nI (op1 + 1))) C dX5_readSaying_140 (nI_add op1 1) ?_
                              refine ww_istore_n (lv' := [(1, .int (nI (op1 + 1))), (4, .int r_149), (5, .int 1), (3, .int r_3), (2, .int (nI n1)), (0, .ref qs)]) C dX5_readSaying_141 rfl rfl rfl ?_
                              refine ww_iinc (j := 4) (v := (nI (n1 + 1))) (lv' := [(2, .int (nI (n1 + 1))), (1, .int (nI (op1 + 1))), (4, .int r_149), (5, .int 1), (3, .int r_3), (0, .ref qs)]) C dX5_readSaying_142 rfl (nI_add n1 1) rfl rfl ?_
                              refine ww_goto (tgt := 4) C dX5_readSaying_145 (by decide) ?_
                              exact ww_lv [0, 1, 5] rfl (ww_sub [2, 3, 4, 0, 1] rfl rfl (ih_4 (n1 + 1) (op1 + 1) ((tn1 + 1) + 1) ta2_152 tk2_153 ts2_154 f_172 f_173 (by omega) (by omega) (by omega) hov.1 (by omega) (by omega) (by omega) (by omega) (by omega) (by omega) h_159 (by omega)))
                            · refine ww_eq (ws' := [(po, .inl (E.2.1 1, 32, .inl f_172)), (pa, .inl (E.2.1 1, 32, .inl f_173)), (qs, .inr (5, [.ref qt, .ref po, .ref pa, .ref pf, .ref pd, .int (nI (n1 + 1)), .int (nI ((tn1 + 1) + 1)), .int an, .int wr, .int pl])), (qt, .inr (10, [.ref tb, .int (nI tl), .int (nI ta2_152), .int (nI tk2_153), .int (nI ts2_154)])), (tb, .inl (E.2.1 0, 160, .inl fb))]) ?_ rfl rfl rfl
                              have hun := uN_a1 (x := r_3) (by assumption)
                              have hov := OPV.ext hopv ef_172 (by omega) (by omega) (by omega)
                              have hov2 := hov.2
                              refine ww_iconst (v := 1) C dX5_readSaying_138 rfl ?_
                              refine ww_isub (v := 0) C dX5_readSaying_139 (by decide) ?_
                              refine ww_iadd (v := (nI op1)) C dX5_readSaying_140 (nI_add op1 0) ?_
                              refine ww_istore_n (lv' := [(1, .int (nI op1)), (4, .int r_149), (5, .int 1), (3, .int r_3), (2, .int (nI n1)), (0, .ref qs)]) C dX5_readSaying_141 rfl rfl rfl ?_
                              refine ww_iinc (j := 4) (v := (nI (n1 + 1))) (lv' := [(2, .int (nI (n1 + 1))), (1, .int (nI op1)), (4, .int r_149), (5, .int 1), (3, .int r_3), (0, .ref qs)]) C dX5_readSaying_142 rfl (nI_add n1 1) rfl rfl ?_
                              refine ww_goto (tgt := 4) C dX5_readSaying_145 (by decide) ?_
                              exact ww_lv [0, 1, 5] rfl (ww_sub [2, 3, 4, 0, 1] rfl rfl (ih_4 (n1 + 1) op1 ((tn1 + 1) + 1) ta2_152 tk2_153 ts2_154 f_172 f_173 (by omega) (by omega) (by omega) hov.1 (by omega) (by omega) (by omega) (by omega) (by omega) (by omega) h_159 (by omega)))
                          · refine ww_eq (ws' := [(po, .inl (E.2.1 1, 32, .inl fo1)), (pa, .inl (E.2.1 1, 32, .inl fa1)), (qs, .inr (5, [.ref qt, .ref po, .ref pa, .ref pf, .ref pd, .int (nI n1), .int tn2_164, .int an, .int wr2_165, .int pl2_166])), (qt, .inr (10, [.ref tb, .int (nI tl), .int (nI ta2_161), .int (nI tk2_162), .int (nI ts2_163)])), (tb, .inl (E.2.1 0, 160, .inl fb))]) ?_ rfl rfl rfl
                            refine ww_if_ne_f (tgt := 111) C dX5_readSaying_106 (by decide) (rfl) ?_
                            refine ww_iconst (v := 0) C dX5_readSaying_109 rfl ?_
                            exact ww_zret (u := [(qs, .inr (5, [.ref qt, .ref po, .ref pa, .ref pf, .ref pd, .int (nI n1), .int tn2_164, .int an, .int wr2_165, .int pl2_166])), (qt, .inr (10, [.ref tb, .int (nI tl), .int (nI ta2_161), .int (nI tk2_162), .int (nI ts2_163)])), (tb, .inl (E.2.1 0, 160, .inl fb)), (po, .inl (E.2.1 1, 32, .inl fo1)), (pa, .inl (E.2.1 1, 32, .inl fa1))]) C hT [2, 3, 4, 0, 1] rfl rfl rfl rfl rfl dX5_readSaying_110 (Or.inr ⟨ta2_161, tk2_162, ts2_163, (nI n1), tn2_164, wr2_165, pl2_166, fo1, fa1, rfl, rfl, (by first | assumption | omega | decide), (by first | assumption | omega | decide), (by first | assumption | omega | decide), (by omega), h_171⟩)
                        · have zc_150 : r_149.toInt = 0 := i_eq rfl rfl c_150
                          refine ww_aload_n C dX5_readSaying_96 5 rfl rfl ?_
                          refine ww_iconst (v := 2) C dX5_readSaying_97 rfl ?_
                          refine ww_ci (wr := [(po, .inl (E.2.1 1, 32, .inl fo1)), (pa, .inl (E.2.1 1, 32, .inl fa1)), (tb, .inl (E.2.1 0, 160, .inl fb))]) (k' := 0) (n' := 0) C (run_V (As := [.int 2]) (rest := []) C (q_fail X.2.1 E ro qs 2 qt po pa pf pd (nI n1) (nI (tn1 + 1)) an wr pl tb tl (nI ta2_128) tk2_129 ts2_130 (by omega)) mi_X5_fail wl_X5_63 rfl 0 5 rfl rfl rfl rfl rfl dX5_readSaying_98) (roK hro) [2, 3] [0, 1, 4] rfl rfl rfl rfl (fun r_178 uz hw => ?_)
                          obtain ⟨rfl, rfl⟩ := hw
                          refine ww_eq (ws' := [(po, .inl (E.2.1 1, 32, .inl fo1)), (pa, .inl (E.2.1 1, 32, .inl fa1)), (tb, .inl (E.2.1 0, 160, .inl fb)), (qs, .inr (5, [.ref qt, .ref po, .ref pa, .ref pf, .ref pd, .int (nI n1), .int (nI (tn1 + 1)), .int an, .int 2, .int (nI ts2_130)])), (qt, .inr (10, [.ref tb, .int (nI tl), .int (nI ta2_128), .int (nI tk2_129), .int (nI ts2_130)]))]) ?_ rfl rfl rfl
                          exact ww_zret (u := [(qs, .inr (5, [.ref qt, .ref po, .ref pa, .ref pf, .ref pd, .int (nI n1), .int (nI (tn1 + 1)), .int an, .int 2, .int (nI ts2_130)])), (qt, .inr (10, [.ref tb, .int (nI tl), .int (nI ta2_128), .int (nI tk2_129), .int (nI ts2_130)])), (tb, .inl (E.2.1 0, 160, .inl fb)), (po, .inl (E.2.1 1, 32, .inl fo1)), (pa, .inl (E.2.1 1, 32, .inl fa1))]) C hT [3, 4, 2, 0, 1] rfl rfl rfl rfl rfl dX5_readSaying_101 (Or.inr ⟨ta2_128, tk2_129, ts2_130, (nI n1), (nI (tn1 + 1)), 2, (nI ts2_130), fo1, fa1, rfl, rfl, (by first | assumption | omega | decide), (by first | assumption | omega | decide), (by first | assumption | omega | decide), (by omega), h_135⟩)
                    · refine ww_eq (ws' := [(po, .inl (E.2.1 1, 32, .inl fo1)), (pa, .inl (E.2.1 1, 32, .inl fa1)), (qs, .inr (5, [.ref qt, .ref po, .ref pa, .ref pf, .ref pd, .int (nI n1), .int tn2_140, .int an, .int wr2_141, .int pl2_142])), (qt, .inr (10, [.ref tb, .int (nI tl), .int (nI ta2_137), .int (nI tk2_138), .int (nI ts2_139)])), (tb, .inl (E.2.1 0, 160, .inl fb))]) ?_ rfl rfl rfl
                      refine ww_if_ne_f (tgt := 78) C dX5_readSaying_73 (by decide) (rfl) ?_
                      refine ww_iconst (v := 0) C dX5_readSaying_76 rfl ?_
                      exact ww_zret (u := [(qs, .inr (5, [.ref qt, .ref po, .ref pa, .ref pf, .ref pd, .int (nI n1), .int tn2_140, .int an, .int wr2_141, .int pl2_142])), (qt, .inr (10, [.ref tb, .int (nI tl), .int (nI ta2_137), .int (nI tk2_138), .int (nI ts2_139)])), (tb, .inl (E.2.1 0, 160, .inl fb)), (po, .inl (E.2.1 1, 32, .inl fo1)), (pa, .inl (E.2.1 1, 32, .inl fa1))]) C hT [2, 3, 4, 0, 1] rfl rfl rfl rfl rfl dX5_readSaying_77 (Or.inr ⟨ta2_137, tk2_138, ts2_139, (nI n1), tn2_140, wr2_141, pl2_142, fo1, fa1, rfl, rfl, (by first | assumption | omega | decide), (by first | assumption | omega | decide), (by first | assumption | omega | decide), (by omega), h_147⟩)
              · have zc_8 : r_3.toInt = 0 := i_eq rfl rfl c_8
                refine ww_aload_n C dX5_readSaying_35 3 rfl rfl ?_
                refine ww_ci (wr := [(po, .inl (E.2.1 1, 32, .inl fo1)), (pa, .inl (E.2.1 1, 32, .inl fa1))]) (k' := 0) (n' := 0) C (run_V (As := []) (rest := []) C (q_factOfName X.2.1 E ro qs qt po pa pf pd (nI n1) (nI tn1) an wr pl tb tl ta1 tk1 ts1 fb (by omega) (by omega) (by omega) (by omega) (by omega) hfg1) mi_X5_factOfName wl_X5_92 rfl 0 5 rfl rfl rfl rfl rfl dX5_readSaying_36) (roK hro) [2, 3, 4] [0, 1] rfl rfl rfl rfl (fun r_179 uz hw => ?_)
                obtain rfl := hw
                refine ww_eq (ws' := [(po, .inl (E.2.1 1, 32, .inl fo1)), (pa, .inl (E.2.1 1, 32, .inl fa1)), (qs, .inr (5, [.ref qt, .ref po, .ref pa, .ref pf, .ref pd, .int (nI n1), .int (nI tn1), .int an, .int wr, .int pl])), (qt, .inr (10, [.ref tb, .int (nI tl), .int (nI ta1), .int (nI tk1), .int (nI ts1)])), (tb, .inl (E.2.1 0, 160, .inl fb))]) ?_ rfl rfl rfl
                refine ww_goto (tgt := 43) C dX5_readSaying_39 (by decide) ?_
                refine ww_istore (lv' := [(4, .int r_179), (3, .int r_3), (2, .int (nI n1)), (1, .int (nI op1)), (0, .ref qs)]) C dX5_readSaying_43 rfl rfl ?_
                refine ww_aload_n C dX5_readSaying_45 4 rfl rfl ?_
                refine ww_get C fg_X5_12 2 rfl rfl dX5_readSaying_46 ?_
                refine ww_ldcS (tx := "know") C (List.mem_of_getElem? (i := 9) rfl) rfl dX5_readSaying_49 ?_
                refine ww_ci (wr := [(po, .inl (E.2.1 1, 32, .inl fo1)), (pa, .inl (E.2.1 1, 32, .inl fa1)), (qs, .inr (5, [.ref qt, .ref po, .ref pa, .ref pf, .ref pd, .int (nI n1), .int (nI tn1), .int an, .int wr, .int pl]))]) (k' := 0) (n' := 0) C (run_V (As := [.ref (E.2.2 95)]) (rest := []) C (t_isName X.2.1 E ro qt tb tl ta1 tk1 ts1 fb 9 (by decide) (by omega) (by omega) (by omega) (by omega)) mi_X10_isName wl_X5_78 rfl 0 10 rfl rfl rfl rfl rfl dX5_readSaying_51) (roK hro) [3, 4] [0, 1, 2] rfl rfl rfl rfl (fun r_180 uz hw => ?_)
                rcases hw with ⟨rfl, rfl⟩ | ⟨rfl, rfl⟩
                · refine ww_eq (ws' := [(po, .inl (E.2.1 1, 32, .inl fo1)), (pa, .inl (E.2.1 1, 32, .inl fa1)), (qs, .inr (5, [.ref qt, .ref po, .ref pa, .ref pf, .ref pd, .int (nI n1), .int (nI tn1), .int an, .int wr, .int pl])), (qt, .inr (10, [.ref tb, .int (nI tl), .int (nI ta1), .int (nI tk1), .int (nI ts1)])), (tb, .inl (E.2.1 0, 160, .inl fb))]) ?_ rfl rfl rfl
                  refine ww_if_ne_t (tgt := 62) C dX5_readSaying_54 (by decide) (by decide) ?_
                  refine ww_iconst (v := 1) C dX5_readSaying_62 rfl ?_
                  refine ww_goto (tgt := 67) C dX5_readSaying_63 (by decide) ?_
                  refine ww_istore (lv' := [(5, .int 1), (4, .int r_179), (3, .int r_3), (2, .int (nI n1)), (1, .int (nI op1)), (0, .ref qs)]) C dX5_readSaying_67 rfl rfl ?_
                  refine ww_aload_n C dX5_readSaying_69 5 rfl rfl ?_
                  refine ww_ci (wr := [(po, .inl (E.2.1 1, 32, .inl fo1)), (pa, .inl (E.2.1 1, 32, .inl fa1))]) (k' := 0) (n' := 0) C (run_V (As := []) (rest := []) C (q_take X.2.1 E ro qs qt po pa pf pd (nI n1) tn1 an wr pl tb tl ta1 tk1 ts1 fb (by omega) (by omega) (by omega) (by omega) (by omega) hfg1 (by omega)) mi_X5_take wl_X5_97 rfl 0 5 rfl rfl rfl rfl rfl dX5_readSaying_70) (roK hro) [2, 3, 4] [0, 1] rfl rfl rfl rfl (fun r_181 uz hw => ?_)
                  rcases hw with ⟨ta2_182, tk2_183, ts2_184, rfl, rfl, h_185, h_186, h_187, h_188, h_189, h_190⟩ | ⟨ta2_191, tk2_192, ts2_193, tn2_194, wr2_195, pl2_196, rfl, rfl, h_197, h_198, h_199, h_200, h_201⟩
                  · refine ww_eq (ws' := [(po, .inl (E.2.1 1, 32, .inl fo1)), (pa, .inl (E.2.1 1, 32, .inl fa1)), (qs, .inr (5, [.ref qt, .ref po, .ref pa, .ref pf, .ref pd, .int (nI n1), .int (nI (tn1 + 1)), .int an, .int wr, .int pl])), (qt, .inr (10, [.ref tb, .int (nI tl), .int (nI ta2_182), .int (nI tk2_183), .int (nI ts2_184)])), (tb, .inl (E.2.1 0, 160, .inl fb))]) ?_ rfl rfl rfl
                    refine ww_if_ne_t (tgt := 78) C dX5_readSaying_73 (by decide) (by decide) ?_
                    refine ww_iload_n C dX5_readSaying_78 2 rfl rfl ?_
                    refine ww_iconst (v := 5) C dX5_readSaying_79 rfl ?_
                    refine ww_icmp_lt (tgt := 111) C dX5_readSaying_80 (by decide) (fun c_202 => ?_) (fun c_202 => ?_)
                    · have zc_202 : r_3.toInt < 5 := i_lt rfl rfl c_202
                      refine ww_aload_n C dX5_readSaying_111 5 rfl rfl ?_
                      refine ww_get C fg_X5_18 2 rfl rfl dX5_readSaying_112 ?_
                      refine ww_iload_n C dX5_readSaying_115 3 rfl rfl ?_
                      refine ww_iload_n C dX5_readSaying_116 2 rfl rfl ?_
                      obtain ⟨f_203, ef_203⟩ : ∃ z : Nat → Int32, upd fo1 n1 r_3 = z := ⟨_, rfl⟩
                      refine ww_iast (ws' := [(po, .inl (E.2.1 1, 32, .inl f_203)), (pa, .inl (E.2.1 1, 32, .inl fa1)), (qs, .inr (5, [.ref qt, .ref po, .ref pa, .ref pf, .ref pd, .int (nI n1), .int (nI (tn1 + 1)), .int an, .int wr, .int pl])), (qt, .inr (10, [.ref tb, .int (nI tl), .int (nI ta2_182), .int (nI tk2_183), .int (nI ts2_184)])), (tb, .inl (E.2.1 0, 160, .inl fb))]) C 0 rfl (vp_in_nI (by omega) (by omega)) (ldn2 (by omega) ef_203) rfl dX5_readSaying_117 ?_
                      refine ww_aload_n C dX5_readSaying_118 5 rfl rfl ?_
                      refine ww_get C fg_X5_22 2 rfl rfl dX5_readSaying_119 ?_
                      refine ww_iload_n C dX5_readSaying_122 3 rfl rfl ?_
                      refine ww_iload C dX5_readSaying_123 1 rfl ?_
                      obtain ⟨f_204, ef_204⟩ : ∃ z : Nat → Int32, upd fa1 n1 r_179 = z := ⟨_, rfl⟩
                      refine ww_iast (ws' := [(po, .inl (E.2.1 1, 32, .inl f_203)), (pa, .inl (E.2.1 1, 32, .inl f_204)), (qs, .inr (5, [.ref qt, .ref po, .ref pa, .ref pf, .ref pd, .int (nI n1), .int (nI (tn1 + 1)), .int an, .int wr, .int pl])), (qt, .inr (10, [.ref tb, .int (nI tl), .int (nI ta2_182), .int (nI tk2_183), .int (nI ts2_184)])), (tb, .inl (E.2.1 0, 160, .inl fb))]) C 1 rfl (vp_in_nI (by omega) (by omega)) (ldn2 (by omega) ef_204) rfl dX5_readSaying_125 ?_
                      refine ww_aload_n C dX5_readSaying_126 5 rfl rfl ?_
                      refine ww_iload_n C dX5_readSaying_127 3 rfl rfl ?_
                      refine ww_iconst (v := 1) C dX5_readSaying_128 rfl ?_
                      refine ww_iadd (v := (nI (n1 + 1))) C dX5_readSaying_129 (nI_add n1 1) ?_
                      refine ww_put (ws' := [(po, .inl (E.2.1 1, 32, .inl f_203)), (pa, .inl (E.2.1 1, 32, .inl f_204)), (qs, .inr (5, [.ref qt, .ref po, .ref pa, .ref pf, .ref pd, .int (nI (n1 + 1)), .int (nI (tn1 + 1)), .int an, .int wr, .int pl])), (qt, .inr (10, [.ref tb, .int (nI tl), .int (nI ta2_182), .int (nI tk2_183), .int (nI ts2_184)])), (tb, .inl (E.2.1 0, 160, .inl fb))]) C fp_X5_31 2 rfl rfl rfl rfl rfl dX5_readSaying_130 ?_
                      refine ww_iload_n C dX5_readSaying_133 4 rfl rfl ?_
                      refine ww_iload_n C dX5_readSaying_134 2 rfl rfl ?_
                      refine ww_ci (wr := [(po, .inl (E.2.1 1, 32, .inl f_203)), (pa, .inl (E.2.1 1, 32, .inl f_204)), (qs, .inr (5, [.ref qt, .ref po, .ref pa, .ref pf, .ref pd, .int (nI (n1 + 1)), .int (nI (tn1 + 1)), .int an, .int wr, .int pl])), (qt, .inr (10, [.ref tb, .int (nI tl), .int (nI ta2_182), .int (nI tk2_183), .int (nI ts2_184)])), (tb, .inl (E.2.1 0, 160, .inl fb))]) (k' := 0) (n' := 0) C (run_SN (As := [.int r_3]) (rest := [.int (nI op1)]) C (c_under X.2.1 E ro r_3) ms_X11_under (List.mem_of_getElem? (i := 14) rfl) rfl rfl rfl rfl dX5_readSaying_135) (roK hro) [] [0, 1, 2, 3, 4] rfl rfl rfl rfl (fun r_205 uz hw => ?_)
                      rcases hw with ⟨rfl, rfl, h_206⟩ | ⟨rfl, rfl, h_207⟩ | ⟨rfl, rfl, h_208⟩
                      · refine ww_eq (ws' := [(po, .inl (E.2.1 1, 32, .inl f_203)), (pa, .inl (E.2.1 1, 32, .inl f_204)), (qs, .inr (5, [.ref qt, .ref po, .ref pa, .ref pf, .ref pd, .int (nI (n1 + 1)), .int (nI (tn1 + 1)), .int an, .int wr, .int pl])), (qt, .inr (10, [.ref tb, .int (nI tl), .int (nI ta2_182), .int (nI tk2_183), .int (nI ts2_184)])), (tb, .inl (E.2.1 0, 160, .inl fb))]) ?_ rfl rfl rfl
                        have hun := uN_a0 (x := r_3) (by assumption)
                        have hov := OPV.ext hopv ef_203 (by omega) (by omega) (by omega)
                        have hov2 := hov.2
                        refine ww_iconst (v := 1) C dX5_readSaying_138 rfl ?_
                        refine ww_isub (v := (-1)) C dX5_readSaying_139 (by decide) ?_
                        refine ww_iadd (v := (nI (op1 - 1))) C dX5_readSaying_140 (nI_subc (a := op1) (c := 1) (by omega) rfl) ?_
                        refine ww_istore_n (lv' := [(1, .int (nI (op1 - 1))), (5, .int 1), (4, .int r_179), (3, .int r_3), (2, .int (nI n1)), (0, .ref qs)]) C dX5_readSaying_141 rfl rfl rfl ?_
                        refine ww_iinc (j := 4) (v := (nI (n1 + 1))) (lv' := [(2, .int (nI (n1 + 1))), (1, .int (nI (op1 - 1))), (5, .int 1), (4, .int r_179), (3, .int r_3), (0, .ref qs)]) C dX5_readSaying_142 rfl (nI_add n1 1) rfl rfl ?_
                        refine ww_goto (tgt := 4) C dX5_readSaying_145 (by decide) ?_
                        exact ww_lv [0, 1, 5] rfl (ww_sub [2, 3, 4, 0, 1] rfl rfl (ih_4 (n1 + 1) (op1 - 1) (tn1 + 1) ta2_182 tk2_183 ts2_184 f_203 f_204 (by omega) (by omega) (by omega) hov.1 (by omega) (by omega) (by omega) (by omega) (by omega) (by omega) h_189 (by omega)))
                      · refine ww_eq (ws' := [(po, .inl (E.2.1 1, 32, .inl f_203)), (pa, .inl (E.2.1 1, 32, .inl f_204)), (qs, .inr (5, [.ref qt, .ref po, .ref pa, .ref pf, .ref pd, .int (nI (n1 + 1)), .int (nI (tn1 + 1)), .int an, .int wr, .int pl])), (qt, .inr (10, [.ref tb, .int (nI tl), .int (nI ta2_182), .int (nI tk2_183), .int (nI ts2_184)])), (tb, .inl (E.2.1 0, 160, .inl fb))]) ?_ rfl rfl rfl
                        have hun := uN_a2 (x := r_3) (by assumption)
                        have hov := OPV.ext hopv ef_203 (by omega) (by omega) (by omega)
                        have hov2 := hov.2
                        refine ww_iconst (v := 1) C dX5_readSaying_138 rfl ?_
                        refine ww_isub (v := 1) C dX5_readSaying_139 (by decide) ?_
                        refine ww_iadd (v := (nI (op1 + 1))) C dX5_readSaying_140 (nI_add op1 1) ?_
                        refine ww_istore_n (lv' := [(1, .int (nI (op1 + 1))), (5, .int 1), (4, .int r_179), (3, .int r_3), (2, .int (nI n1)), (0, .ref qs)]) C dX5_readSaying_141 rfl rfl rfl ?_
                        refine ww_iinc (j := 4) (v := (nI (n1 + 1))) (lv' := [(2, .int (nI (n1 + 1))), (1, .int (nI (op1 + 1))), (5, .int 1), (4, .int r_179), (3, .int r_3), (0, .ref qs)]) C dX5_readSaying_142 rfl (nI_add n1 1) rfl rfl ?_
                        refine ww_goto (tgt := 4) C dX5_readSaying_145 (by decide) ?_
                        exact ww_lv [0, 1, 5] rfl (ww_sub [2, 3, 4, 0, 1] rfl rfl (ih_4 (n1 + 1) (op1 + 1) (tn1 + 1) ta2_182 tk2_183 ts2_184 f_203 f_204 (by omega) (by omega) (by omega) hov.1 (by omega) (by omega) (by omega) (by omega) (by omega) (by omega) h_189 (by omega)))
                      · refine ww_eq (ws' := [(po, .inl (E.2.1 1, 32, .inl f_203)), (pa, .inl (E.2.1 1, 32, .inl f_204)), (qs, .inr (5, [.ref qt, .ref po, .ref pa, .ref pf, .ref pd, .int (nI (n1 + 1)), .int (nI (tn1 + 1)), .int an, .int wr, .int pl])), (qt, .inr (10, [.ref tb, .int (nI tl), .int (nI ta2_182), .int (nI tk2_183), .int (nI ts2_184)])), (tb, .inl (E.2.1 0, 160, .inl fb))]) ?_ rfl rfl rfl
                        have hun := uN_a1 (x := r_3) (by assumption)
                        have hov := OPV.ext hopv ef_203 (by omega) (by omega) (by omega)
                        have hov2 := hov.2
                        refine ww_iconst (v := 1) C dX5_readSaying_138 rfl ?_
                        refine ww_isub (v := 0) C dX5_readSaying_139 (by decide) ?_
                        refine ww_iadd (v := (nI op1)) C dX5_readSaying_140 (nI_add op1 0) ?_
                        refine ww_istore_n (lv' := [(1, .int (nI op1)), (5, .int 1), (4, .int r_179), (3, .int r_3), (2, .int (nI n1)), (0, .ref qs)]) C dX5_readSaying_141 rfl rfl rfl ?_
                        refine ww_iinc (j := 4) (v := (nI (n1 + 1))) (lv' := [(2, .int (nI (n1 + 1))), (1, .int (nI op1)), (5, .int 1), (4, .int r_179), (3, .int r_3), (0, .ref qs)]) C dX5_readSaying_142 rfl (nI_add n1 1) rfl rfl ?_
                        refine ww_goto (tgt := 4) C dX5_readSaying_145 (by decide) ?_
                        exact ww_lv [0, 1, 5] rfl (ww_sub [2, 3, 4, 0, 1] rfl rfl (ih_4 (n1 + 1) op1 (tn1 + 1) ta2_182 tk2_183 ts2_184 f_203 f_204 (by omega) (by omega) (by omega) hov.1 (by omega) (by omega) (by omega) (by omega) (by omega) (by omega) h_189 (by omega)))
                    · have zc_202 : r_3.toInt ≥ 5 := i_nlt rfl rfl c_202
                      omega
                  · refine ww_eq (ws' := [(po, .inl (E.2.1 1, 32, .inl fo1)), (pa, .inl (E.2.1 1, 32, .inl fa1)), (qs, .inr (5, [.ref qt, .ref po, .ref pa, .ref pf, .ref pd, .int (nI n1), .int tn2_194, .int an, .int wr2_195, .int pl2_196])), (qt, .inr (10, [.ref tb, .int (nI tl), .int (nI ta2_191), .int (nI tk2_192), .int (nI ts2_193)])), (tb, .inl (E.2.1 0, 160, .inl fb))]) ?_ rfl rfl rfl
                    refine ww_if_ne_f (tgt := 78) C dX5_readSaying_73 (by decide) (rfl) ?_
                    refine ww_iconst (v := 0) C dX5_readSaying_76 rfl ?_
                    exact ww_zret (u := [(qs, .inr (5, [.ref qt, .ref po, .ref pa, .ref pf, .ref pd, .int (nI n1), .int tn2_194, .int an, .int wr2_195, .int pl2_196])), (qt, .inr (10, [.ref tb, .int (nI tl), .int (nI ta2_191), .int (nI tk2_192), .int (nI ts2_193)])), (tb, .inl (E.2.1 0, 160, .inl fb)), (po, .inl (E.2.1 1, 32, .inl fo1)), (pa, .inl (E.2.1 1, 32, .inl fa1))]) C hT [2, 3, 4, 0, 1] rfl rfl rfl rfl rfl dX5_readSaying_77 (Or.inr ⟨ta2_191, tk2_192, ts2_193, (nI n1), tn2_194, wr2_195, pl2_196, fo1, fa1, rfl, rfl, (by first | assumption | omega | decide), (by first | assumption | omega | decide), (by first | assumption | omega | decide), (by omega), h_201⟩)
                · refine ww_eq (ws' := [(po, .inl (E.2.1 1, 32, .inl fo1)), (pa, .inl (E.2.1 1, 32, .inl fa1)), (qs, .inr (5, [.ref qt, .ref po, .ref pa, .ref pf, .ref pd, .int (nI n1), .int (nI tn1), .int an, .int wr, .int pl])), (qt, .inr (10, [.ref tb, .int (nI tl), .int (nI ta1), .int (nI tk1), .int (nI ts1)])), (tb, .inl (E.2.1 0, 160, .inl fb))]) ?_ rfl rfl rfl
                  refine ww_if_ne_f (tgt := 62) C dX5_readSaying_54 (by decide) (rfl) ?_
                  refine ww_iload_n C dX5_readSaying_57 1 rfl rfl ?_
                  refine ww_iconst (v := 5) C dX5_readSaying_58 rfl ?_
                  refine ww_icmp_ne (tgt := 66) C dX5_readSaying_59 (by decide) (fun c_209 => ?_) (fun c_209 => ?_)
                  · have zc_209 : r_3.toInt ≠ 5 := i_ne rfl rfl c_209
                    refine ww_iconst (v := 0) C dX5_readSaying_66 rfl ?_
                    refine ww_istore (lv' := [(5, .int 0), (4, .int r_179), (3, .int r_3), (2, .int (nI n1)), (1, .int (nI op1)), (0, .ref qs)]) C dX5_readSaying_67 rfl rfl ?_
                    refine ww_aload_n C dX5_readSaying_69 5 rfl rfl ?_
                    refine ww_ci (wr := [(po, .inl (E.2.1 1, 32, .inl fo1)), (pa, .inl (E.2.1 1, 32, .inl fa1))]) (k' := 0) (n' := 0) C (run_V (As := []) (rest := []) C (q_take X.2.1 E ro qs qt po pa pf pd (nI n1) tn1 an wr pl tb tl ta1 tk1 ts1 fb (by omega) (by omega) (by omega) (by omega) (by omega) hfg1 (by omega)) mi_X5_take wl_X5_97 rfl 0 5 rfl rfl rfl rfl rfl dX5_readSaying_70) (roK hro) [2, 3, 4] [0, 1] rfl rfl rfl rfl (fun r_210 uz hw => ?_)
                    rcases hw with ⟨ta2_211, tk2_212, ts2_213, rfl, rfl, h_214, h_215, h_216, h_217, h_218, h_219⟩ | ⟨ta2_220, tk2_221, ts2_222, tn2_223, wr2_224, pl2_225, rfl, rfl, h_226, h_227, h_228, h_229, h_230⟩
                    · refine ww_eq (ws' := [(po, .inl (E.2.1 1, 32, .inl fo1)), (pa, .inl (E.2.1 1, 32, .inl fa1)), (qs, .inr (5, [.ref qt, .ref po, .ref pa, .ref pf, .ref pd, .int (nI n1), .int (nI (tn1 + 1)), .int an, .int wr, .int pl])), (qt, .inr (10, [.ref tb, .int (nI tl), .int (nI ta2_211), .int (nI tk2_212), .int (nI ts2_213)])), (tb, .inl (E.2.1 0, 160, .inl fb))]) ?_ rfl rfl rfl
                      refine ww_if_ne_t (tgt := 78) C dX5_readSaying_73 (by decide) (by decide) ?_
                      refine ww_iload_n C dX5_readSaying_78 2 rfl rfl ?_
                      refine ww_iconst (v := 5) C dX5_readSaying_79 rfl ?_
                      refine ww_icmp_lt (tgt := 111) C dX5_readSaying_80 (by decide) (fun c_231 => ?_) (fun c_231 => ?_)
                      · have zc_231 : r_3.toInt < 5 := i_lt rfl rfl c_231
                        refine ww_aload_n C dX5_readSaying_111 5 rfl rfl ?_
                        refine ww_get C fg_X5_18 2 rfl rfl dX5_readSaying_112 ?_
                        refine ww_iload_n C dX5_readSaying_115 3 rfl rfl ?_
                        refine ww_iload_n C dX5_readSaying_116 2 rfl rfl ?_
                        obtain ⟨f_232, ef_232⟩ : ∃ z : Nat → Int32, upd fo1 n1 r_3 = z := ⟨_, rfl⟩
                        refine ww_iast (ws' := [(po, .inl (E.2.1 1, 32, .inl f_232)), (pa, .inl (E.2.1 1, 32, .inl fa1)), (qs, .inr (5, [.ref qt, .ref po, .ref pa, .ref pf, .ref pd, .int (nI n1), .int (nI (tn1 + 1)), .int an, .int wr, .int pl])), (qt, .inr (10, [.ref tb, .int (nI tl), .int (nI ta2_211), .int (nI tk2_212), .int (nI ts2_213)])), (tb, .inl (E.2.1 0, 160, .inl fb))]) C 0 rfl (vp_in_nI (by omega) (by omega)) (ldn2 (by omega) ef_232) rfl dX5_readSaying_117 ?_
                        refine ww_aload_n C dX5_readSaying_118 5 rfl rfl ?_
                        refine ww_get C fg_X5_22 2 rfl rfl dX5_readSaying_119 ?_
                        refine ww_iload_n C dX5_readSaying_122 3 rfl rfl ?_
                        refine ww_iload C dX5_readSaying_123 1 rfl ?_
                        obtain ⟨f_233, ef_233⟩ : ∃ z : Nat → Int32, upd fa1 n1 r_179 = z := ⟨_, rfl⟩
                        refine ww_iast (ws' := [(po, .inl (E.2.1 1, 32, .inl f_232)), (pa, .inl (E.2.1 1, 32, .inl f_233)), (qs, .inr (5, [.ref qt, .ref po, .ref pa, .ref pf, .ref pd, .int (nI n1), .int (nI (tn1 + 1)), .int an, .int wr, .int pl])), (qt, .inr (10, [.ref tb, .int (nI tl), .int (nI ta2_211), .int (nI tk2_212), .int (nI ts2_213)])), (tb, .inl (E.2.1 0, 160, .inl fb))]) C 1 rfl (vp_in_nI (by omega) (by omega)) (ldn2 (by omega) ef_233) rfl dX5_readSaying_125 ?_
                        refine ww_aload_n C dX5_readSaying_126 5 rfl rfl ?_
                        refine ww_iload_n C dX5_readSaying_127 3 rfl rfl ?_
                        refine ww_iconst (v := 1) C dX5_readSaying_128 rfl ?_
                        refine ww_iadd (v := (nI (n1 + 1))) C dX5_readSaying_129 (nI_add n1 1) ?_
                        refine ww_put (ws' := [(po, .inl (E.2.1 1, 32, .inl f_232)), (pa, .inl (E.2.1 1, 32, .inl f_233)), (qs, .inr (5, [.ref qt, .ref po, .ref pa, .ref pf, .ref pd, .int (nI (n1 + 1)), .int (nI (tn1 + 1)), .int an, .int wr, .int pl])), (qt, .inr (10, [.ref tb, .int (nI tl), .int (nI ta2_211), .int (nI tk2_212), .int (nI ts2_213)])), (tb, .inl (E.2.1 0, 160, .inl fb))]) C fp_X5_31 2 rfl rfl rfl rfl rfl dX5_readSaying_130 ?_
                        refine ww_iload_n C dX5_readSaying_133 4 rfl rfl ?_
                        refine ww_iload_n C dX5_readSaying_134 2 rfl rfl ?_
                        refine ww_ci (wr := [(po, .inl (E.2.1 1, 32, .inl f_232)), (pa, .inl (E.2.1 1, 32, .inl f_233)), (qs, .inr (5, [.ref qt, .ref po, .ref pa, .ref pf, .ref pd, .int (nI (n1 + 1)), .int (nI (tn1 + 1)), .int an, .int wr, .int pl])), (qt, .inr (10, [.ref tb, .int (nI tl), .int (nI ta2_211), .int (nI tk2_212), .int (nI ts2_213)])), (tb, .inl (E.2.1 0, 160, .inl fb))]) (k' := 0) (n' := 0) C (run_SN (As := [.int r_3]) (rest := [.int (nI op1)]) C (c_under X.2.1 E ro r_3) ms_X11_under (List.mem_of_getElem? (i := 14) rfl) rfl rfl rfl rfl dX5_readSaying_135) (roK hro) [] [0, 1, 2, 3, 4] rfl rfl rfl rfl (fun r_234 uz hw => ?_)
                        rcases hw with ⟨rfl, rfl, h_235⟩ | ⟨rfl, rfl, h_236⟩ | ⟨rfl, rfl, h_237⟩
                        · refine ww_eq (ws' := [(po, .inl (E.2.1 1, 32, .inl f_232)), (pa, .inl (E.2.1 1, 32, .inl f_233)), (qs, .inr (5, [.ref qt, .ref po, .ref pa, .ref pf, .ref pd, .int (nI (n1 + 1)), .int (nI (tn1 + 1)), .int an, .int wr, .int pl])), (qt, .inr (10, [.ref tb, .int (nI tl), .int (nI ta2_211), .int (nI tk2_212), .int (nI ts2_213)])), (tb, .inl (E.2.1 0, 160, .inl fb))]) ?_ rfl rfl rfl
                          have hun := uN_a0 (x := r_3) (by assumption)
                          have hov := OPV.ext hopv ef_232 (by omega) (by omega) (by omega)
                          have hov2 := hov.2
                          refine ww_iconst (v := 1) C dX5_readSaying_138 rfl ?_
                          refine ww_isub (v := (-1)) C dX5_readSaying_139 (by decide) ?_
                          refine ww_iadd (v := (nI (op1 - 1))) C dX5_readSaying_140 (nI_subc (a := op1) (c := 1) (by omega) rfl) ?_
                          refine ww_istore_n (lv' := [(1, .int (nI (op1 - 1))), (5, .int 0), (4, .int r_179), (3, .int r_3), (2, .int (nI n1)), (0, .ref qs)]) C dX5_readSaying_141 rfl rfl rfl ?_
                          refine ww_iinc (j := 4) (v := (nI (n1 + 1))) (lv' := [(2, .int (nI (n1 + 1))), (1, .int (nI (op1 - 1))), (5, .int 0), (4, .int r_179), (3, .int r_3), (0, .ref qs)]) C dX5_readSaying_142 rfl (nI_add n1 1) rfl rfl ?_
                          refine ww_goto (tgt := 4) C dX5_readSaying_145 (by decide) ?_
                          exact ww_lv [0, 1, 5] rfl (ww_sub [2, 3, 4, 0, 1] rfl rfl (ih_4 (n1 + 1) (op1 - 1) (tn1 + 1) ta2_211 tk2_212 ts2_213 f_232 f_233 (by omega) (by omega) (by omega) hov.1 (by omega) (by omega) (by omega) (by omega) (by omega) (by omega) h_218 (by omega)))
                        · refine ww_eq (ws' := [(po, .inl (E.2.1 1, 32, .inl f_232)), (pa, .inl (E.2.1 1, 32, .inl f_233)), (qs, .inr (5, [.ref qt, .ref po, .ref pa, .ref pf, .ref pd, .int (nI (n1 + 1)), .int (nI (tn1 + 1)), .int an, .int wr, .int pl])), (qt, .inr (10, [.ref tb, .int (nI tl), .int (nI ta2_211), .int (nI tk2_212), .int (nI ts2_213)])), (tb, .inl (E.2.1 0, 160, .inl fb))]) ?_ rfl rfl rfl
                          have hun := uN_a2 (x := r_3) (by assumption)
                          have hov := OPV.ext hopv ef_232 (by omega) (by omega) (by omega)
                          have hov2 := hov.2
                          refine ww_iconst (v := 1) C dX5_readSaying_138 rfl ?_
                          refine ww_isub (v := 1) C dX5_readSaying_139 (by decide) ?_
                          refine ww_iadd (v := (nI (op1 + 1))) C dX5_readSaying_140 (nI_add op1 1) ?_
                          refine ww_istore_n (lv' := [(1, .int (nI (op1 + 1))), (5, .int 0), (4, .int r_179), (3, .int r_3), (2, .int (nI n1)), (0, .ref qs)]) C dX5_readSaying_141 rfl rfl rfl ?_
                          refine ww_iinc (j := 4) (v := (nI (n1 + 1))) (lv' := [(2, .int (nI (n1 + 1))), (1, .int (nI (op1 + 1))), (5, .int 0), (4, .int r_179), (3, .int r_3), (0, .ref qs)]) C dX5_readSaying_142 rfl (nI_add n1 1) rfl rfl ?_
                          refine ww_goto (tgt := 4) C dX5_readSaying_145 (by decide) ?_
                          exact ww_lv [0, 1, 5] rfl (ww_sub [2, 3, 4, 0, 1] rfl rfl (ih_4 (n1 + 1) (op1 + 1) (tn1 + 1) ta2_211 tk2_212 ts2_213 f_232 f_233 (by omega) (by omega) (by omega) hov.1 (by omega) (by omega) (by omega) (by omega) (by omega) (by omega) h_218 (by omega)))
                        · refine ww_eq (ws' := [(po, .inl (E.2.1 1, 32, .inl f_232)), (pa, .inl (E.2.1 1, 32, .inl f_233)), (qs, .inr (5, [.ref qt, .ref po, .ref pa, .ref pf, .ref pd, .int (nI (n1 + 1)), .int (nI (tn1 + 1)), .int an, .int wr, .int pl])), (qt, .inr (10, [.ref tb, .int (nI tl), .int (nI ta2_211), .int (nI tk2_212), .int (nI ts2_213)])), (tb, .inl (E.2.1 0, 160, .inl fb))]) ?_ rfl rfl rfl
                          have hun := uN_a1 (x := r_3) (by assumption)
                          have hov := OPV.ext hopv ef_232 (by omega) (by omega) (by omega)
                          have hov2 := hov.2
                          refine ww_iconst (v := 1) C dX5_readSaying_138 rfl ?_
                          refine ww_isub (v := 0) C dX5_readSaying_139 (by decide) ?_
                          refine ww_iadd (v := (nI op1)) C dX5_readSaying_140 (nI_add op1 0) ?_
                          refine ww_istore_n (lv' := [(1, .int (nI op1)), (5, .int 0), (4, .int r_179), (3, .int r_3), (2, .int (nI n1)), (0, .ref qs)]) C dX5_readSaying_141 rfl rfl rfl ?_
                          refine ww_iinc (j := 4) (v := (nI (n1 + 1))) (lv' := [(2, .int (nI (n1 + 1))), (1, .int (nI op1)), (5, .int 0), (4, .int r_179), (3, .int r_3), (0, .ref qs)]) C dX5_readSaying_142 rfl (nI_add n1 1) rfl rfl ?_
                          refine ww_goto (tgt := 4) C dX5_readSaying_145 (by decide) ?_
                          exact ww_lv [0, 1, 5] rfl (ww_sub [2, 3, 4, 0, 1] rfl rfl (ih_4 (n1 + 1) op1 (tn1 + 1) ta2_211 tk2_212 ts2_213 f_232 f_233 (by omega) (by omega) (by omega) hov.1 (by omega) (by omega) (by omega) (by omega) (by omega) (by omega) h_218 (by omega)))
                      · have zc_231 : r_3.toInt ≥ 5 := i_nlt rfl rfl c_231
                        omega
                    · refine ww_eq (ws' := [(po, .inl (E.2.1 1, 32, .inl fo1)), (pa, .inl (E.2.1 1, 32, .inl fa1)), (qs, .inr (5, [.ref qt, .ref po, .ref pa, .ref pf, .ref pd, .int (nI n1), .int tn2_223, .int an, .int wr2_224, .int pl2_225])), (qt, .inr (10, [.ref tb, .int (nI tl), .int (nI ta2_220), .int (nI tk2_221), .int (nI ts2_222)])), (tb, .inl (E.2.1 0, 160, .inl fb))]) ?_ rfl rfl rfl
                      refine ww_if_ne_f (tgt := 78) C dX5_readSaying_73 (by decide) (rfl) ?_
                      refine ww_iconst (v := 0) C dX5_readSaying_76 rfl ?_
                      exact ww_zret (u := [(qs, .inr (5, [.ref qt, .ref po, .ref pa, .ref pf, .ref pd, .int (nI n1), .int tn2_223, .int an, .int wr2_224, .int pl2_225])), (qt, .inr (10, [.ref tb, .int (nI tl), .int (nI ta2_220), .int (nI tk2_221), .int (nI ts2_222)])), (tb, .inl (E.2.1 0, 160, .inl fb)), (po, .inl (E.2.1 1, 32, .inl fo1)), (pa, .inl (E.2.1 1, 32, .inl fa1))]) C hT [2, 3, 4, 0, 1] rfl rfl rfl rfl rfl dX5_readSaying_77 (Or.inr ⟨ta2_220, tk2_221, ts2_222, (nI n1), tn2_223, wr2_224, pl2_225, fo1, fa1, rfl, rfl, (by first | assumption | omega | decide), (by first | assumption | omega | decide), (by first | assumption | omega | decide), (by omega), h_230⟩)
                  · have zc_209 : r_3.toInt = 5 := i_eq rfl rfl c_209
                    omega
            · have zc_7 : r_3.toInt = (-4) := i_eq rfl rfl c_7
              refine ww_aload_n C dX5_readSaying_25 3 rfl rfl ?_
              refine ww_iconst (v := 2) C dX5_readSaying_26 rfl ?_
              refine ww_ci (wr := [(po, .inl (E.2.1 1, 32, .inl fo1)), (pa, .inl (E.2.1 1, 32, .inl fa1)), (tb, .inl (E.2.1 0, 160, .inl fb))]) (k' := 0) (n' := 0) C (run_V (As := [.int 2]) (rest := []) C (q_fail X.2.1 E ro qs 2 qt po pa pf pd (nI n1) (nI tn1) an wr pl tb tl (nI ta1) tk1 ts1 (by omega)) mi_X5_fail wl_X5_63 rfl 0 5 rfl rfl rfl rfl rfl dX5_readSaying_27) (roK hro) [2, 3] [0, 1, 4] rfl rfl rfl rfl (fun r_238 uz hw => ?_)
              obtain ⟨rfl, rfl⟩ := hw
              refine ww_eq (ws' := [(po, .inl (E.2.1 1, 32, .inl fo1)), (pa, .inl (E.2.1 1, 32, .inl fa1)), (tb, .inl (E.2.1 0, 160, .inl fb)), (qs, .inr (5, [.ref qt, .ref po, .ref pa, .ref pf, .ref pd, .int (nI n1), .int (nI tn1), .int an, .int 2, .int (nI ts1)])), (qt, .inr (10, [.ref tb, .int (nI tl), .int (nI ta1), .int (nI tk1), .int (nI ts1)]))]) ?_ rfl rfl rfl
              exact ww_zret (u := [(qs, .inr (5, [.ref qt, .ref po, .ref pa, .ref pf, .ref pd, .int (nI n1), .int (nI tn1), .int an, .int 2, .int (nI ts1)])), (qt, .inr (10, [.ref tb, .int (nI tl), .int (nI ta1), .int (nI tk1), .int (nI ts1)])), (tb, .inl (E.2.1 0, 160, .inl fb)), (po, .inl (E.2.1 1, 32, .inl fo1)), (pa, .inl (E.2.1 1, 32, .inl fa1))]) C hT [3, 4, 2, 0, 1] rfl rfl rfl rfl rfl dX5_readSaying_30 (Or.inr ⟨ta1, tk1, ts1, (nI n1), (nI tn1), 2, (nI ts1), fo1, fa1, rfl, rfl, (by first | assumption | omega | decide), (by first | assumption | omega | decide), (by first | assumption | omega | decide), (by omega), hfg1⟩)
  exact ww_lv [0, 1, 2] rfl (ww_sub [0, 1, 2, 3, 4] rfl rfl (loop_4 _ 0 1 0 ta tk ts fo fa (by omega) (by omega) rfl OPV.nil (by omega) (by omega) (by omega) (by omega) (by omega) (by omega) hfg (Nat.lt_succ_self _)))
