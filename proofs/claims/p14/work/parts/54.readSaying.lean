section
theorem dX5_readSaying_0 : decode cX5_readSaying 0 = .ok (.iconst 1, 1) := dl_4 (by decide +kernel)
theorem dX5_readSaying_1 : decode cX5_readSaying 1 = .ok (.istore_n 1, 1) := dl_60 (by decide +kernel)
theorem dX5_readSaying_2 : decode cX5_readSaying 2 = .ok (.iconst 0, 1) := dl_3 (by decide +kernel)
theorem dX5_readSaying_3 : decode cX5_readSaying 3 = .ok (.istore_n 2, 1) := dl_61 (by decide +kernel)
theorem dX5_readSaying_4 : decode cX5_readSaying 4 = .ok (.iload_n 2, 1) := dl_28 (by decide +kernel)
theorem dX5_readSaying_5 : decode cX5_readSaying 5 = .ok (.bipush 32, 2) := dl_16 (by decide +kernel)
theorem dX5_readSaying_7 : decode cX5_readSaying 7 = .ok (.if_icmp .gt 141, 3) := dl_163 (by decide +kernel)
theorem dX5_readSaying_148 : decode cX5_readSaying 148 = .ok (.iconst 1, 1) := dl_4 (by decide +kernel)
theorem dX5_readSaying_149 : decode cX5_readSaying 149 = .ok (.ireturn, 1) := dl_172 (by decide +kernel)
theorem dX5_readSaying_10 : decode cX5_readSaying 10 = .ok (.iload_n 1, 1) := dl_27 (by decide +kernel)
theorem dX5_readSaying_11 : decode cX5_readSaying 11 = .ok (.ifCond .le 137, 3) := dl_158 (by decide +kernel)
theorem dX5_readSaying_14 : decode cX5_readSaying 14 = .ok (.aload_n 0, 1) := dl_42 (by decide +kernel)
theorem dX5_readSaying_15 : decode cX5_readSaying 15 = .ok (.invokevirtual 89, 3) := dl_182 (by decide +kernel)
theorem wl_X5_89 : Cond.methodLink RX5 89 yX5_opOfName ∈ TB := tbm (tq3 (List.mem_of_getElem? (i := 102) (by decide +kernel))) (by decide +kernel)
theorem wc_X5_opOfName : Cond.code yX5_opOfName cX5_opOfName 1 (some .int) ∈ TB := tbm (tq3 (List.mem_of_getElem? (i := 105) (rfl))) (by decide +kernel)
theorem wi_X5_opOfName : Cond.instanceMethod yX5_opOfName ∈ TB := tbm (tq3 (List.mem_of_getElem? (i := 104) (by decide +kernel))) (by decide +kernel)
theorem ws_X5_opOfName : Cond.selects RX5 yX5_opOfName yX5_opOfName ∈ TB := tbm (tq0 (List.mem_of_getElem? (i := 9) (by decide +kernel))) (by decide +kernel)
theorem mi_X5_opOfName : MI yX5_opOfName cX5_opOfName 1 (some .int) 0 := ⟨wc_X5_opOfName, wn_X5, ⟨by decide +kernel, by decide +kernel, by decide +kernel⟩, wi_X5_opOfName, ws_X5_opOfName⟩
theorem dX5_readSaying_18 : decode cX5_readSaying 18 = .ok (.istore_n 3, 1) := dl_62 (by decide +kernel)
theorem dX5_readSaying_19 : decode cX5_readSaying 19 = .ok (.iload_n 3, 1) := dl_29 (by decide +kernel)
theorem dX5_readSaying_20 : decode cX5_readSaying 20 = .ok (.bipush (-4), 2) := dl_16 (by decide +kernel)
theorem dX5_readSaying_22 : decode cX5_readSaying 22 = .ok (.if_icmp .ne 9, 3) := dl_160 (by decide +kernel)
theorem dX5_readSaying_25 : decode cX5_readSaying 25 = .ok (.aload_n 0, 1) := dl_42 (by decide +kernel)
theorem dX5_readSaying_26 : decode cX5_readSaying 26 = .ok (.iconst 2, 1) := dl_5 (by decide +kernel)
theorem dX5_readSaying_27 : decode cX5_readSaying 27 = .ok (.invokevirtual 63, 3) := dl_182 (by decide +kernel)
theorem dX5_readSaying_30 : decode cX5_readSaying 30 = .ok (.ireturn, 1) := dl_172 (by decide +kernel)
theorem dX5_readSaying_31 : decode cX5_readSaying 31 = .ok (.iload_n 3, 1) := dl_29 (by decide +kernel)
theorem dX5_readSaying_32 : decode cX5_readSaying 32 = .ok (.ifCond .ne 10, 3) := dl_154 (by decide +kernel)
theorem dX5_readSaying_42 : decode cX5_readSaying 42 = .ok (.iconst 0, 1) := dl_3 (by decide +kernel)
theorem dX5_readSaying_43 : decode cX5_readSaying 43 = .ok (.istore 4, 2) := dl_54 (by decide +kernel)
theorem dX5_readSaying_45 : decode cX5_readSaying 45 = .ok (.aload_n 0, 1) := dl_42 (by decide +kernel)
theorem dX5_readSaying_46 : decode cX5_readSaying 46 = .ok (.getfield 12, 3) := dl_180 (by decide +kernel)
theorem dX5_readSaying_49 : decode cX5_readSaying 49 = .ok (.ldc 95, 2) := dl_18 (by decide +kernel)
theorem dX5_readSaying_51 : decode cX5_readSaying 51 = .ok (.invokevirtual 78, 3) := dl_182 (by decide +kernel)
theorem dX5_readSaying_54 : decode cX5_readSaying 54 = .ok (.ifCond .ne 8, 3) := dl_154 (by decide +kernel)
theorem dX5_readSaying_62 : decode cX5_readSaying 62 = .ok (.iconst 1, 1) := dl_4 (by decide +kernel)
theorem dX5_readSaying_63 : decode cX5_readSaying 63 = .ok (.goto 4, 3) := dl_167 (by decide +kernel)
theorem dX5_readSaying_67 : decode cX5_readSaying 67 = .ok (.istore 5, 2) := dl_54 (by decide +kernel)
theorem dX5_readSaying_69 : decode cX5_readSaying 69 = .ok (.aload_n 0, 1) := dl_42 (by decide +kernel)
theorem dX5_readSaying_70 : decode cX5_readSaying 70 = .ok (.invokevirtual 97, 3) := dl_182 (by decide +kernel)
theorem wl_X5_97 : Cond.methodLink RX5 97 yX5_take ∈ TB := tbm (tq3 (List.mem_of_getElem? (i := 127) (by decide +kernel))) (by decide +kernel)
theorem wc_X5_take : Cond.code yX5_take cX5_take 1 (some .boolean) ∈ TB := tbm (tq3 (List.mem_of_getElem? (i := 130) (rfl))) (by decide +kernel)
theorem wi_X5_take : Cond.instanceMethod yX5_take ∈ TB := tbm (tq3 (List.mem_of_getElem? (i := 129) (by decide +kernel))) (by decide +kernel)
theorem ws_X5_take : Cond.selects RX5 yX5_take yX5_take ∈ TB := tbm (tq0 (List.mem_of_getElem? (i := 12) (by decide +kernel))) (by decide +kernel)
theorem mi_X5_take : MI yX5_take cX5_take 1 (some .boolean) 0 := ⟨wc_X5_take, wn_X5, ⟨by decide +kernel, by decide +kernel, by decide +kernel⟩, wi_X5_take, ws_X5_take⟩
theorem dX5_readSaying_73 : decode cX5_readSaying 73 = .ok (.ifCond .ne 5, 3) := dl_154 (by decide +kernel)
theorem dX5_readSaying_78 : decode cX5_readSaying 78 = .ok (.iload_n 3, 1) := dl_29 (by decide +kernel)
theorem dX5_readSaying_79 : decode cX5_readSaying 79 = .ok (.iconst 5, 1) := dl_8 (by decide +kernel)
theorem dX5_readSaying_80 : decode cX5_readSaying 80 = .ok (.if_icmp .lt 31, 3) := dl_161 (by decide +kernel)
theorem dX5_readSaying_111 : decode cX5_readSaying 111 = .ok (.aload_n 0, 1) := dl_42 (by decide +kernel)
theorem dX5_readSaying_112 : decode cX5_readSaying 112 = .ok (.getfield 18, 3) := dl_180 (by decide +kernel)
theorem wf_X5_18 : Cond.fieldLink RX5 18 RX5 "ops" "[I" ∈ TB := tbm (tq1 (List.mem_of_getElem? (i := 100) (by decide +kernel))) (by decide +kernel)
theorem fg_X5_18 : FG RX5 18 5 1 := ⟨RX5, TX5, 10, uw_X5, wf_X5_18, rfl, by decide, rfl⟩
theorem dX5_readSaying_115 : decode cX5_readSaying 115 = .ok (.iload_n 2, 1) := dl_28 (by decide +kernel)
theorem dX5_readSaying_116 : decode cX5_readSaying 116 = .ok (.iload_n 3, 1) := dl_29 (by decide +kernel)
theorem dX5_readSaying_117 : decode cX5_readSaying 117 = .ok (.iastore, 1) := dl_79 (by decide +kernel)
theorem dX5_readSaying_118 : decode cX5_readSaying 118 = .ok (.aload_n 0, 1) := dl_42 (by decide +kernel)
theorem dX5_readSaying_119 : decode cX5_readSaying 119 = .ok (.getfield 22, 3) := dl_180 (by decide +kernel)
theorem wf_X5_22 : Cond.fieldLink RX5 22 RX5 "args" "[I" ∈ TB := tbm (tq1 (List.mem_of_getElem? (i := 101) (by decide +kernel))) (by decide +kernel)
theorem fg_X5_22 : FG RX5 22 5 2 := ⟨RX5, TX5, 10, uw_X5, wf_X5_22, rfl, by decide, rfl⟩
theorem dX5_readSaying_122 : decode cX5_readSaying 122 = .ok (.iload_n 2, 1) := dl_28 (by decide +kernel)
theorem dX5_readSaying_123 : decode cX5_readSaying 123 = .ok (.iload 4, 2) := dl_21 (by decide +kernel)
theorem dX5_readSaying_125 : decode cX5_readSaying 125 = .ok (.iastore, 1) := dl_79 (by decide +kernel)
theorem dX5_readSaying_126 : decode cX5_readSaying 126 = .ok (.aload_n 0, 1) := dl_42 (by decide +kernel)
theorem dX5_readSaying_127 : decode cX5_readSaying 127 = .ok (.iload_n 2, 1) := dl_28 (by decide +kernel)
theorem dX5_readSaying_128 : decode cX5_readSaying 128 = .ok (.iconst 1, 1) := dl_4 (by decide +kernel)
theorem dX5_readSaying_129 : decode cX5_readSaying 129 = .ok (.iadd, 1) := dl_96 (by decide +kernel)
theorem dX5_readSaying_130 : decode cX5_readSaying 130 = .ok (.putfield 31, 3) := dl_181 (by decide +kernel)
theorem wf_X5_31 : Cond.fieldLink RX5 31 RX5 "nodes" "I" ∈ TB := tbm (tq1 (List.mem_of_getElem? (i := 104) (by decide +kernel))) (by decide +kernel)
theorem fp_X5_31 : FP RX5 31 5 5 .int false := ⟨RX5, TX5, 10, tyX5, uw_X5, wf_X5_31, rfl, by decide, rfl, tyX5_ok, nmX5, rfl, by decide +kernel⟩
theorem dX5_readSaying_133 : decode cX5_readSaying 133 = .ok (.iload_n 1, 1) := dl_27 (by decide +kernel)
theorem dX5_readSaying_134 : decode cX5_readSaying 134 = .ok (.iload_n 3, 1) := dl_29 (by decide +kernel)
theorem dX5_readSaying_135 : decode cX5_readSaying 135 = .ok (.invokestatic 104, 3) := dl_184 (by decide +kernel)
theorem dX5_readSaying_138 : decode cX5_readSaying 138 = .ok (.iconst 1, 1) := dl_4 (by decide +kernel)
theorem dX5_readSaying_139 : decode cX5_readSaying 139 = .ok (.isub, 1) := dl_100 (by decide +kernel)
theorem dX5_readSaying_140 : decode cX5_readSaying 140 = .ok (.iadd, 1) := dl_96 (by decide +kernel)
theorem dX5_readSaying_141 : decode cX5_readSaying 141 = .ok (.istore_n 1, 1) := dl_60 (by decide +kernel)
theorem dX5_readSaying_142 : decode cX5_readSaying 142 = .ok (.iinc 2 1, 3) := dl_132 (by decide +kernel)
theorem dX5_readSaying_145 : decode cX5_readSaying 145 = .ok (.goto (-141), 3) := dl_167 (by decide +kernel)
theorem dX5_readSaying_83 : decode cX5_readSaying 83 = .ok (.aload_n 0, 1) := dl_42 (by decide +kernel)
theorem dX5_readSaying_84 : decode cX5_readSaying 84 = .ok (.iload 5, 2) := dl_21 (by decide +kernel)
theorem dX5_readSaying_86 : decode cX5_readSaying 86 = .ok (.invokevirtual 100, 3) := dl_182 (by decide +kernel)
theorem wl_X5_100 : Cond.methodLink RX5 100 yX5_knowers ∈ TB := tbm (tq3 (List.mem_of_getElem? (i := 131) (by decide +kernel))) (by decide +kernel)
theorem wc_X5_knowers : Cond.code yX5_knowers cX5_knowers 3 (some .int) ∈ TB := tbm (tq3 (List.mem_of_getElem? (i := 134) (rfl))) (by decide +kernel)
theorem wi_X5_knowers : Cond.instanceMethod yX5_knowers ∈ TB := tbm (tq3 (List.mem_of_getElem? (i := 133) (by decide +kernel))) (by decide +kernel)
theorem ws_X5_knowers : Cond.selects RX5 yX5_knowers yX5_knowers ∈ TB := tbm (tq0 (List.mem_of_getElem? (i := 13) (by decide +kernel))) (by decide +kernel)
theorem mi_X5_knowers : MI yX5_knowers cX5_knowers 3 (some .int) 1 := ⟨wc_X5_knowers, wn_X5, ⟨by decide +kernel, by decide +kernel, by decide +kernel⟩, wi_X5_knowers, ws_X5_knowers⟩
theorem dX5_readSaying_89 : decode cX5_readSaying 89 = .ok (.istore 4, 2) := dl_54 (by decide +kernel)
theorem dX5_readSaying_91 : decode cX5_readSaying 91 = .ok (.iload 4, 2) := dl_21 (by decide +kernel)
theorem dX5_readSaying_93 : decode cX5_readSaying 93 = .ok (.ifCond .ne 9, 3) := dl_154 (by decide +kernel)
theorem dX5_readSaying_102 : decode cX5_readSaying 102 = .ok (.aload_n 0, 1) := dl_42 (by decide +kernel)
theorem dX5_readSaying_103 : decode cX5_readSaying 103 = .ok (.invokevirtual 97, 3) := dl_182 (by decide +kernel)
theorem dX5_readSaying_106 : decode cX5_readSaying 106 = .ok (.ifCond .ne 5, 3) := dl_154 (by decide +kernel)
theorem dX5_readSaying_109 : decode cX5_readSaying 109 = .ok (.iconst 0, 1) := dl_3 (by decide +kernel)
theorem dX5_readSaying_110 : decode cX5_readSaying 110 = .ok (.ireturn, 1) := dl_172 (by decide +kernel)
theorem dX5_readSaying_96 : decode cX5_readSaying 96 = .ok (.aload_n 0, 1) := dl_42 (by decide +kernel)
theorem dX5_readSaying_97 : decode cX5_readSaying 97 = .ok (.iconst 2, 1) := dl_5 (by decide +kernel)
theorem dX5_readSaying_98 : decode cX5_readSaying 98 = .ok (.invokevirtual 63, 3) := dl_182 (by decide +kernel)
theorem dX5_readSaying_101 : decode cX5_readSaying 101 = .ok (.ireturn, 1) := dl_172 (by decide +kernel)
theorem dX5_readSaying_76 : decode cX5_readSaying 76 = .ok (.iconst 0, 1) := dl_3 (by decide +kernel)
theorem dX5_readSaying_77 : decode cX5_readSaying 77 = .ok (.ireturn, 1) := dl_172 (by decide +kernel)
theorem dX5_readSaying_57 : decode cX5_readSaying 57 = .ok (.iload_n 3, 1) := dl_29 (by decide +kernel)
theorem dX5_readSaying_58 : decode cX5_readSaying 58 = .ok (.iconst 5, 1) := dl_8 (by decide +kernel)
theorem dX5_readSaying_59 : decode cX5_readSaying 59 = .ok (.if_icmp .ne 7, 3) := dl_160 (by decide +kernel)
theorem dX5_readSaying_66 : decode cX5_readSaying 66 = .ok (.iconst 0, 1) := dl_3 (by decide +kernel)
theorem dX5_readSaying_35 : decode cX5_readSaying 35 = .ok (.aload_n 0, 1) := dl_42 (by decide +kernel)
theorem dX5_readSaying_36 : decode cX5_readSaying 36 = .ok (.invokevirtual 92, 3) := dl_182 (by decide +kernel)
theorem dX5_readSaying_39 : decode cX5_readSaying 39 = .ok (.goto 4, 3) := dl_167 (by decide +kernel)
set_option maxRecDepth 100000 in
set_option maxHeartbeats 4000000 in
theorem q_readSaying (l : Launch) (E : EV) (ro : va_W) (qs : Nat) (qt : Nat) (po : Nat) (pa : Nat) (pf : Nat) (pd : Nat) (an : Int32) (wr : Int32) (pl : Int32) (tb : Nat) (tl : Nat) (ta : Nat) (tk : Nat) (ts : Nat) (fb : Nat → Int32) (fo : Nat → Int32) (fa : Nat → Int32) (p_ : Nat) (hts : ts ≤ ta) (hta : ta ≤ tl) (htl : tl ≤ 160) (htk : tk ≤ 3) (hs9 : tk = 2 → ts < ta) (hfg : TX (cz fb tl) ts tk ta) (htok : TK (cz fb tl) p_ ts tk ta) : CT l yX5_readSaying (Cond.code yX5_readSaying cX5_readSaying 6 (some .boolean) :: TB) ({ frames := 7, cells := 0, slots := 0, locals := 147 }) E ro [.ref qs] [(qs, .inr (5, [.ref qt, .ref po, .ref pa, .ref pf, .ref pd, .int 0, .int 0, .int an, .int wr, .int pl])), (qt, .inr (10, [.ref tb, .int (nI tl), .int (nI ta), .int (nI tk), .int (nI ts)])), (tb, .inl (E.2.1 0, 160, .inl fb)), (po, .inl (E.2.1 1, 32, .inl fo)), (pa, .inl (E.2.1 1, 32, .inl fa))] (Qi E (fun (rz : Int32) uz => (∃ (ta2 : Nat) (tk2 : Nat) (ts2 : Nat) (nn : Nat) (tn2 : Nat) (p2 : Nat) (fo2 : Nat → Int32) (fa2 : Nat → Int32), rz = 1 ∧ uz = [(qs, .inr (5, [.ref qt, .ref po, .ref pa, .ref pf, .ref pd, .int (nI nn), .int (nI tn2), .int an, .int wr, .int pl])), (qt, .inr (10, [.ref tb, .int (nI tl), .int (nI ta2), .int (nI tk2), .int (nI ts2)])), (tb, .inl (E.2.1 0, 160, .inl fb)), (po, .inl (E.2.1 1, 32, .inl fo2)), (pa, .inl (E.2.1 1, 32, .inl fa2))] ∧ (ts2 ≤ ta2) ∧ (ta2 ≤ tl) ∧ (tk2 ≤ 3) ∧ (tk2 = 2 → ts2 < ta2) ∧ (TX (cz fb tl) ts2 tk2 ta2) ∧ (tn2 ≤ 32) ∧ (WFs nn fo2) ∧ (TK (cz fb tl) p2 ts2 tk2 ta2) ∧ (RUN (cz fb tl) p_ nn ∧ it (cz fb tl) p_ nn = .inr (p2, tn2, 0)) ∧ (OPX (cz fb tl) p_ nn fo2 fa2)) ∨ (∃ (ta2 : Nat) (tk2 : Nat) (ts2 : Nat) (nd2 : Int32) (tn2 : Int32) (wr2 : Int32) (pl2 : Nat) (fo2 : Nat → Int32) (fa2 : Nat → Int32), rz = 0 ∧ uz = [(qs, .inr (5, [.ref qt, .ref po, .ref pa, .ref pf, .ref pd, .int nd2, .int tn2, .int an, .int wr2, .int (nI pl2)])), (qt, .inr (10, [.ref tb, .int (nI tl), .int (nI ta2), .int (nI tk2), .int (nI ts2)])), (tb, .inl (E.2.1 0, 160, .inl fb)), (po, .inl (E.2.1 1, 32, .inl fo2)), (pa, .inl (E.2.1 1, 32, .inl fa2))] ∧ (ts2 ≤ ta2) ∧ (ta2 ≤ tl) ∧ (tk2 ≤ 3) ∧ (tk2 = 2 → ts2 < ta2) ∧ (TX (cz fb tl) ts2 tk2 ta2) ∧ (it (cz fb tl) p_ 33 = .inl pl2)))) 0 0 := by
  refine ct_of rfl rfl ?_
  intro X C hT hin hro
  show WW X 6 E 0 [(0, .ref qs)] [] [(qs, .inr (5, [.ref qt, .ref po, .ref pa, .ref pf, .ref pd, .int 0, .int 0, .int an, .int wr, .int pl])), (qt, .inr (10, [.ref tb, .int (nI tl), .int (nI ta), .int (nI tk), .int (nI ts)])), (tb, .inl (E.2.1 0, 160, .inl fb)), (po, .inl (E.2.1 1, 32, .inl fo)), (pa, .inl (E.2.1 1, 32, .inl fa))] 0 0
  refine ww_iconst (v := 1) C dX5_readSaying_0 rfl ?_
  refine ww_istore_n (lv' := [(1, .int 1), (0, .ref qs)]) C dX5_readSaying_1 rfl rfl rfl ?_
  refine ww_iconst (v := 0) C dX5_readSaying_2 rfl ?_
  refine ww_istore_n (lv' := [(2, .int 0), (1, .int 1), (0, .ref qs)]) C dX5_readSaying_3 rfl rfl rfl ?_
  have loop_4 : ∀ (fu : Nat) (n1 : Nat) (op1 : Nat) (tn1 : Nat) (ta1 : Nat) (tk1 : Nat) (ts1 : Nat) (p1 : Nat) (fo1 : Nat → Int32) (fa1 : Nat → Int32), (n1 ≤ tn1) → (tn1 ≤ 32) → ((op1 : Int) = opn fo1 n1) → (OPV n1 fo1) → (n1 = 0 → op1 = 1) → (op1 ≤ n1 + 1) → (ts1 ≤ ta1) → (ta1 ≤ tl) → (tk1 ≤ 3) → (tk1 = 2 → ts1 < ta1) → (TX (cz fb tl) ts1 tk1 ta1) → (TK (cz fb tl) p1 ts1 tk1 ta1) → (it (cz fb tl) p_ n1 = .inr (p1, tn1, op1)) → (RUN (cz fb tl) p_ n1) → (OPX (cz fb tl) p_ n1 fo1 fa1) → 33 - n1 < fu → WW X 6 E 4 [(2, .int (nI n1)), (1, .int (nI op1)), (0, .ref qs)] [] [(qs, .inr (5, [.ref qt, .ref po, .ref pa, .ref pf, .ref pd, .int (nI n1), .int (nI tn1), .int an, .int wr, .int pl])), (qt, .inr (10, [.ref tb, .int (nI tl), .int (nI ta1), .int (nI tk1), .int (nI ts1)])), (tb, .inl (E.2.1 0, 160, .inl fb)), (po, .inl (E.2.1 1, 32, .inl fo1)), (pa, .inl (E.2.1 1, 32, .inl fa1))] 0 0 := by
    intro fu
    induction fu with
    | zero => intro n1 op1 tn1 ta1 tk1 ts1 p1 fo1 fa1 hn1 htn1 hop1 hopv hn0 hopb hts1 hta1 htk1 hs91 hfg1 htk0 hit hrun hopx hmeas; exact absurd hmeas (Nat.not_lt_zero _)
    | succ fu ih_4 =>
      intro n1 op1 tn1 ta1 tk1 ts1 p1 fo1 fa1 hn1 htn1 hop1 hopv hn0 hopb hts1 hta1 htk1 hs91 hfg1 htk0 hit hrun hopx hmeas
      refine ww_iload_n C dX5_readSaying_4 0 rfl rfl ?_
      refine ww_bipush (v := 32) C dX5_readSaying_5 rfl ?_
      refine ww_icmp_gt (tgt := 148) C dX5_readSaying_7 (by decide) (fun c_1 => ?_) (fun c_1 => ?_)
      · have zc_1 : ((n1 : Nat) : Int) > 32 := i_lt rfl (nI_toInt (n := n1) (by omega)) c_1
        refine ww_iconst (v := 1) C dX5_readSaying_148 rfl ?_
        exact ww_zret (u := [(qs, .inr (5, [.ref qt, .ref po, .ref pa, .ref pf, .ref pd, .int (nI n1), .int (nI tn1), .int an, .int wr, .int pl])), (qt, .inr (10, [.ref tb, .int (nI tl), .int (nI ta1), .int (nI tk1), .int (nI ts1)])), (tb, .inl (E.2.1 0, 160, .inl fb)), (po, .inl (E.2.1 1, 32, .inl fo1)), (pa, .inl (E.2.1 1, 32, .inl fa1))]) C hT [0, 1, 2, 3, 4] rfl rfl rfl rfl rfl dX5_readSaying_149 (Or.inl ⟨ta1, tk1, ts1, n1, tn1, p1, fo1, fa1, rfl, rfl, (by first | assumption | omega | decide), (by first | assumption | omega | decide), (by first | assumption | omega | decide), (by omega), hfg1, (by first | assumption | omega | decide), (OPV.wf hopv (by omega) (by omega) (by omega)), htk0, ⟨hrun, by rw [hit, show op1 = 0 by omega]⟩, hopx⟩)
      · have zc_1 : ((n1 : Nat) : Int) ≤ 32 := i_nlt rfl (nI_toInt (n := n1) (by omega)) c_1
        refine ww_iload_n C dX5_readSaying_10 1 rfl rfl ?_
        refine ww_if_le (tgt := 148) C dX5_readSaying_11 (by decide) (fun c_2 => ?_) (fun c_2 => ?_)
        · have zc_2 : ((op1 : Nat) : Int) ≤ 0 := i_le (nI_toInt (n := op1) (by omega)) rfl c_2
          refine ww_iconst (v := 1) C dX5_readSaying_148 rfl ?_
          exact ww_zret (u := [(qs, .inr (5, [.ref qt, .ref po, .ref pa, .ref pf, .ref pd, .int (nI n1), .int (nI tn1), .int an, .int wr, .int pl])), (qt, .inr (10, [.ref tb, .int (nI tl), .int (nI ta1), .int (nI tk1), .int (nI ts1)])), (tb, .inl (E.2.1 0, 160, .inl fb)), (po, .inl (E.2.1 1, 32, .inl fo1)), (pa, .inl (E.2.1 1, 32, .inl fa1))]) C hT [0, 1, 2, 3, 4] rfl rfl rfl rfl rfl dX5_readSaying_149 (Or.inl ⟨ta1, tk1, ts1, n1, tn1, p1, fo1, fa1, rfl, rfl, (by first | assumption | omega | decide), (by first | assumption | omega | decide), (by first | assumption | omega | decide), (by omega), hfg1, (by first | assumption | omega | decide), (OPV.wf hopv (by omega) (by omega) (by omega)), htk0, ⟨hrun, by rw [hit, show op1 = 0 by omega]⟩, hopx⟩)
        · have zc_2 : ((op1 : Nat) : Int) > 0 := i_nle (nI_toInt (n := op1) (by omega)) rfl c_2
          refine ww_aload_n C dX5_readSaying_14 2 rfl rfl ?_
          refine ww_ci (wr := [(po, .inl (E.2.1 1, 32, .inl fo1)), (pa, .inl (E.2.1 1, 32, .inl fa1))]) (k' := 0) (n' := 0) C (run_V (As := []) (rest := []) C (q_opOfName X.2.1 E ro qs qt po pa pf pd (nI n1) (nI tn1) an wr pl tb tl ta1 tk1 ts1 fb (by omega) (by omega) (by omega) (by omega) (by omega) hfg1) mi_X5_opOfName wl_X5_89 rfl 0 5 rfl rfl rfl rfl rfl dX5_readSaying_15) (roK hro) [0, 1, 2] [3, 4] rfl rfl rfl rfl (fun r_3 uz hw => ?_)
          rcases hw with hw | hw
          · refine an2 hw ?_
            clear hw
            intro he_5 he_6 hw
            have h_4 := hw
            clear hw
            have he_5 := he_5.symm
            subst he_5
            subst he_6
            refine ww_eq (ws' := [(po, .inl (E.2.1 1, 32, .inl fo1)), (pa, .inl (E.2.1 1, 32, .inl fa1)), (qs, .inr (5, [.ref qt, .ref po, .ref pa, .ref pf, .ref pd, .int (nI n1), .int (nI tn1), .int an, .int wr, .int pl])), (qt, .inr (10, [.ref tb, .int (nI tl), .int (nI ta1), .int (nI tk1), .int (nI ts1)])), (tb, .inl (E.2.1 0, 160, .inl fb))]) ?_ rfl rfl rfl
            refine ww_istore_n (lv' := [(3, .int (-4)), (2, .int (nI n1)), (1, .int (nI op1)), (0, .ref qs)]) C dX5_readSaying_18 rfl rfl rfl ?_
            refine ww_iload_n C dX5_readSaying_19 0 rfl rfl ?_
            refine ww_bipush (v := (-4)) C dX5_readSaying_20 rfl ?_
            refine ww_icmp_ne_f (tgt := 31) C dX5_readSaying_22 (by decide) (rfl) ?_
            refine ww_aload_n C dX5_readSaying_25 3 rfl rfl ?_
            refine ww_iconst (v := 2) C dX5_readSaying_26 rfl ?_
            refine ww_ci (wr := [(po, .inl (E.2.1 1, 32, .inl fo1)), (pa, .inl (E.2.1 1, 32, .inl fa1)), (tb, .inl (E.2.1 0, 160, .inl fb))]) (k' := 0) (n' := 0) C (run_V (As := [.int 2]) (rest := []) C (q_fail X.2.1 E ro qs 2 qt po pa pf pd (nI n1) (nI tn1) an wr pl tb tl (nI ta1) tk1 ts1 (by omega)) mi_X5_fail wl_X5_63 rfl 0 5 rfl rfl rfl rfl rfl dX5_readSaying_27) (roK hro) [2, 3] [0, 1, 4] rfl rfl rfl rfl (fun r_11 uz hw => ?_)
            refine an1 hw ?_
            clear hw
            intro he_12 hw
            have he_13 := hw
            clear hw
            have he_12 := he_12.symm
            subst he_12
            subst he_13
            refine ww_eq (ws' := [(po, .inl (E.2.1 1, 32, .inl fo1)), (pa, .inl (E.2.1 1, 32, .inl fa1)), (tb, .inl (E.2.1 0, 160, .inl fb)), (qs, .inr (5, [.ref qt, .ref po, .ref pa, .ref pf, .ref pd, .int (nI n1), .int (nI tn1), .int an, .int 2, .int (nI ts1)])), (qt, .inr (10, [.ref tb, .int (nI tl), .int (nI ta1), .int (nI tk1), .int (nI ts1)]))]) ?_ rfl rfl rfl
            exact ww_zret (u := [(qs, .inr (5, [.ref qt, .ref po, .ref pa, .ref pf, .ref pd, .int (nI n1), .int (nI tn1), .int an, .int 2, .int (nI ts1)])), (qt, .inr (10, [.ref tb, .int (nI tl), .int (nI ta1), .int (nI tk1), .int (nI ts1)])), (tb, .inl (E.2.1 0, 160, .inl fb)), (po, .inl (E.2.1 1, 32, .inl fo1)), (pa, .inl (E.2.1 1, 32, .inl fa1))]) C hT [3, 4, 2, 0, 1] rfl rfl rfl rfl rfl dX5_readSaying_30 (Or.inr ⟨ta1, tk1, ts1, (nI n1), (nI tn1), 2, ts1, fo1, fa1, rfl, rfl, (by first | assumption | omega | decide), (by first | assumption | omega | decide), (by first | assumption | omega | decide), (by omega), hfg1, (it_bad hit (by omega) (sg_f1 htk0 (Or.inl h_4)) (by omega))⟩)
          · refine an3 hw ?_
            clear hw
            intro he_10 h_7 h_8 hw
            have h_9 := hw
            clear hw
            subst he_10
            refine ww_eq (ws' := [(po, .inl (E.2.1 1, 32, .inl fo1)), (pa, .inl (E.2.1 1, 32, .inl fa1)), (qs, .inr (5, [.ref qt, .ref po, .ref pa, .ref pf, .ref pd, .int (nI n1), .int (nI tn1), .int an, .int wr, .int pl])), (qt, .inr (10, [.ref tb, .int (nI tl), .int (nI ta1), .int (nI tk1), .int (nI ts1)])), (tb, .inl (E.2.1 0, 160, .inl fb))]) ?_ rfl rfl rfl
            refine ww_istore_n (lv' := [(3, .int r_3), (2, .int (nI n1)), (1, .int (nI op1)), (0, .ref qs)]) C dX5_readSaying_18 rfl rfl rfl ?_
            refine ww_iload_n C dX5_readSaying_19 0 rfl rfl ?_
            refine ww_bipush (v := (-4)) C dX5_readSaying_20 rfl ?_
            refine ww_icmp_ne (tgt := 31) C dX5_readSaying_22 (by decide) (fun c_14 => ?_) (fun c_14 => ?_)
            · have zc_14 : r_3.toInt ≠ (-4) := i_ne rfl rfl c_14
              have hAk_15 := h_9.2
              have hA0k_15 := opV_0 (aT (cz fb tl) ts1 tk1 ta1) h_9.2
              have hA5k_15 := opV_5 (aT (cz fb tl) ts1 tk1 ta1) h_9.2
              have hAkk_15 := opV_k (aT (cz fb tl) ts1 tk1 ta1) h_9.2
              rw [← h_9.1] at hA0k_15 hA5k_15 hAkk_15
              refine ww_iload_n C dX5_readSaying_31 0 rfl rfl ?_
              refine ww_if_ne (tgt := 42) C dX5_readSaying_32 (by decide) (fun c_16 => ?_) (fun c_16 => ?_)
              · have zc_16 : r_3.toInt ≠ 0 := i_ne rfl rfl c_16
                refine ww_iconst (v := 0) C dX5_readSaying_42 rfl ?_
                refine ww_istore (lv' := [(4, .int 0), (3, .int r_3), (2, .int (nI n1)), (1, .int (nI op1)), (0, .ref qs)]) C dX5_readSaying_43 rfl rfl ?_
                refine ww_aload_n C dX5_readSaying_45 4 rfl rfl ?_
                refine ww_get C fg_X5_12 2 rfl rfl dX5_readSaying_46 ?_
                refine ww_ldcS (tx := "know") C (List.mem_of_getElem? (i := 9) rfl) rfl dX5_readSaying_49 ?_
                refine ww_ci (wr := [(po, .inl (E.2.1 1, 32, .inl fo1)), (pa, .inl (E.2.1 1, 32, .inl fa1)), (qs, .inr (5, [.ref qt, .ref po, .ref pa, .ref pf, .ref pd, .int (nI n1), .int (nI tn1), .int an, .int wr, .int pl]))]) (k' := 0) (n' := 0) C (run_V (As := [.ref (E.2.2 95)]) (rest := []) C (t_isName X.2.1 E ro qt tb tl ta1 tk1 ts1 fb 9 (by decide) (by omega) (by omega) (by omega) (by omega)) mi_X10_isName wl_X5_78 rfl 0 10 rfl rfl rfl rfl rfl dX5_readSaying_51) (roK hro) [3, 4] [0, 1, 2] rfl rfl rfl rfl (fun r_17 uz hw => ?_)
                rcases hw with hw | hw
                · refine an2 hw ?_
                  clear hw
                  intro he_19 he_20 hw
                  have h_18 := hw
                  clear hw
                  have he_19 := he_19.symm
                  subst he_19
                  subst he_20
                  refine ww_eq (ws' := [(po, .inl (E.2.1 1, 32, .inl fo1)), (pa, .inl (E.2.1 1, 32, .inl fa1)), (qs, .inr (5, [.ref qt, .ref po, .ref pa, .ref pf, .ref pd, .int (nI n1), .int (nI tn1), .int an, .int wr, .int pl])), (qt, .inr (10, [.ref tb, .int (nI tl), .int (nI ta1), .int (nI tk1), .int (nI ts1)])), (tb, .inl (E.2.1 0, 160, .inl fb))]) ?_ rfl rfl rfl
                  have hNk_24 := aT_of (show IN (cz fb tl) ts1 tk1 ta1 8 from h_18) (by decide)
                  refine ww_if_ne_t (tgt := 62) C dX5_readSaying_54 (by decide) (by decide) ?_
                  refine ww_iconst (v := 1) C dX5_readSaying_62 rfl ?_
                  refine ww_goto (tgt := 67) C dX5_readSaying_63 (by decide) ?_
                  refine ww_istore (lv' := [(5, .int 1), (4, .int 0), (3, .int r_3), (2, .int (nI n1)), (1, .int (nI op1)), (0, .ref qs)]) C dX5_readSaying_67 rfl rfl ?_
                  refine ww_aload_n C dX5_readSaying_69 5 rfl rfl ?_
                  refine ww_ci (wr := [(po, .inl (E.2.1 1, 32, .inl fo1)), (pa, .inl (E.2.1 1, 32, .inl fa1))]) (k' := 0) (n' := 0) C (run_V (As := []) (rest := []) C (q_take X.2.1 E ro qs qt po pa pf pd (nI n1) tn1 an wr pl tb tl ta1 tk1 ts1 fb (by omega) (by omega) (by omega) (by omega) (by omega) hfg1 (by omega)) mi_X5_take wl_X5_97 rfl 0 5 rfl rfl rfl rfl rfl dX5_readSaying_70) (roK hro) [2, 3, 4] [0, 1] rfl rfl rfl rfl (fun r_25 uz hw => ?_)
                  rcases hw with hw | hw
                  · refine ex3 hw ?_
                    clear hw
                    intro ta2_26 tk2_27 ts2_28 hw
                    refine an8 hw ?_
                    clear hw
                    intro he_37 he_38 h_29 h_30 h_31 h_32 h_33 h_34 hw
                    refine an1 hw ?_
                    clear hw
                    intro h_35 hw
                    have h_36 := hw
                    clear hw
                    have he_37 := he_37.symm
                    subst he_37
                    subst he_38
                    refine ww_eq (ws' := [(po, .inl (E.2.1 1, 32, .inl fo1)), (pa, .inl (E.2.1 1, 32, .inl fa1)), (qs, .inr (5, [.ref qt, .ref po, .ref pa, .ref pf, .ref pd, .int (nI n1), .int (nI (tn1 + 1)), .int an, .int wr, .int pl])), (qt, .inr (10, [.ref tb, .int (nI tl), .int (nI ta2_26), .int (nI tk2_27), .int (nI ts2_28)])), (tb, .inl (E.2.1 0, 160, .inl fb))]) ?_ rfl rfl rfl
                    refine ww_if_ne_t (tgt := 78) C dX5_readSaying_73 (by decide) (by decide) ?_
                    refine ww_iload_n C dX5_readSaying_78 2 rfl rfl ?_
                    refine ww_iconst (v := 5) C dX5_readSaying_79 rfl ?_
                    refine ww_icmp_lt (tgt := 111) C dX5_readSaying_80 (by decide) (fun c_53 => ?_) (fun c_53 => ?_)
                    · have zc_53 : r_3.toInt < 5 := i_lt rfl rfl c_53
                      refine ww_aload_n C dX5_readSaying_111 5 rfl rfl ?_
                      refine ww_get C fg_X5_18 2 rfl rfl dX5_readSaying_112 ?_
                      refine ww_iload_n C dX5_readSaying_115 3 rfl rfl ?_
                      refine ww_iload_n C dX5_readSaying_116 2 rfl rfl ?_
                      obtain ⟨f_54, ef_54⟩ : ∃ z : Nat → Int32, upd fo1 n1 r_3 = z := ⟨_, rfl⟩
                      refine ww_iast (ws' := [(po, .inl (E.2.1 1, 32, .inl f_54)), (pa, .inl (E.2.1 1, 32, .inl fa1)), (qs, .inr (5, [.ref qt, .ref po, .ref pa, .ref pf, .ref pd, .int (nI n1), .int (nI (tn1 + 1)), .int an, .int wr, .int pl])), (qt, .inr (10, [.ref tb, .int (nI tl), .int (nI ta2_26), .int (nI tk2_27), .int (nI ts2_28)])), (tb, .inl (E.2.1 0, 160, .inl fb))]) C 0 rfl (vp_in_nI (by omega) (by omega)) (ldn2 (by omega) ef_54) rfl dX5_readSaying_117 ?_
                      refine ww_aload_n C dX5_readSaying_118 5 rfl rfl ?_
                      refine ww_get C fg_X5_22 2 rfl rfl dX5_readSaying_119 ?_
                      refine ww_iload_n C dX5_readSaying_122 3 rfl rfl ?_
                      refine ww_iload C dX5_readSaying_123 1 rfl ?_
                      obtain ⟨f_55, ef_55⟩ : ∃ z : Nat → Int32, upd fa1 n1 0 = z := ⟨_, rfl⟩
                      refine ww_iast (ws' := [(po, .inl (E.2.1 1, 32, .inl f_54)), (pa, .inl (E.2.1 1, 32, .inl f_55)), (qs, .inr (5, [.ref qt, .ref po, .ref pa, .ref pf, .ref pd, .int (nI n1), .int (nI (tn1 + 1)), .int an, .int wr, .int pl])), (qt, .inr (10, [.ref tb, .int (nI tl), .int (nI ta2_26), .int (nI tk2_27), .int (nI ts2_28)])), (tb, .inl (E.2.1 0, 160, .inl fb))]) C 1 rfl (vp_in_nI (by omega) (by omega)) (ldn2 (by omega) ef_55) rfl dX5_readSaying_125 ?_
                      refine ww_aload_n C dX5_readSaying_126 5 rfl rfl ?_
                      refine ww_iload_n C dX5_readSaying_127 3 rfl rfl ?_
                      refine ww_iconst (v := 1) C dX5_readSaying_128 rfl ?_
                      refine ww_iadd (v := (nI (n1 + 1))) C dX5_readSaying_129 (nI_add n1 1) ?_
                      refine ww_put (ws' := [(po, .inl (E.2.1 1, 32, .inl f_54)), (pa, .inl (E.2.1 1, 32, .inl f_55)), (qs, .inr (5, [.ref qt, .ref po, .ref pa, .ref pf, .ref pd, .int (nI (n1 + 1)), .int (nI (tn1 + 1)), .int an, .int wr, .int pl])), (qt, .inr (10, [.ref tb, .int (nI tl), .int (nI ta2_26), .int (nI tk2_27), .int (nI ts2_28)])), (tb, .inl (E.2.1 0, 160, .inl fb))]) C fp_X5_31 2 rfl rfl rfl rfl rfl dX5_readSaying_130 ?_
                      refine ww_iload_n C dX5_readSaying_133 4 rfl rfl ?_
                      refine ww_iload_n C dX5_readSaying_134 2 rfl rfl ?_
                      refine ww_ci (wr := [(po, .inl (E.2.1 1, 32, .inl f_54)), (pa, .inl (E.2.1 1, 32, .inl f_55)), (qs, .inr (5, [.ref qt, .ref po, .ref pa, .ref pf, .ref pd, .int (nI (n1 + 1)), .int (nI (tn1 + 1)), .int an, .int wr, .int pl])), (qt, .inr (10, [.ref tb, .int (nI tl), .int (nI ta2_26), .int (nI tk2_27), .int (nI ts2_28)])), (tb, .inl (E.2.1 0, 160, .inl fb))]) (k' := 0) (n' := 0) C (run_SN (As := [.int r_3]) (rest := [.int (nI op1)]) C (c_under X.2.1 E ro r_3) ms_X11_under (List.mem_of_getElem? (i := 14) rfl) rfl rfl rfl rfl dX5_readSaying_135) (roK hro) [] [0, 1, 2, 3, 4] rfl rfl rfl rfl (fun r_56 uz hw => ?_)
                      rcases hw with hw | hw | hw
                      · refine an2 hw ?_
                        clear hw
                        intro he_58 he_59 hw
                        have h_57 := hw
                        clear hw
                        have he_58 := he_58.symm
                        subst he_58
                        subst he_59
                        refine ww_eq (ws' := [(po, .inl (E.2.1 1, 32, .inl f_54)), (pa, .inl (E.2.1 1, 32, .inl f_55)), (qs, .inr (5, [.ref qt, .ref po, .ref pa, .ref pf, .ref pd, .int (nI (n1 + 1)), .int (nI (tn1 + 1)), .int an, .int wr, .int pl])), (qt, .inr (10, [.ref tb, .int (nI tl), .int (nI ta2_26), .int (nI tk2_27), .int (nI ts2_28)])), (tb, .inl (E.2.1 0, 160, .inl fb))]) ?_ rfl rfl rfl
                        have hun := uN_a0 (x := r_3) (by assumption)
                        have hov := OPV.ext hopv ef_54 (by omega) (by omega) (by omega)
                        have hov2 := hov.2
                        have hwt := wt_u (aT (cz fb tl) ts1 tk1 ta1) h_9.2
                        rw [← h_9.1] at hwt
                        refine ww_iconst (v := 1) C dX5_readSaying_138 rfl ?_
                        refine ww_isub (v := (-1)) C dX5_readSaying_139 (by decide) ?_
                        refine ww_iadd (v := (nI (op1 - 1))) C dX5_readSaying_140 (nI_subc (a := op1) (c := 1) (by omega) rfl) ?_
                        refine ww_istore_n (lv' := [(1, .int (nI (op1 - 1))), (5, .int 1), (4, .int 0), (3, .int r_3), (2, .int (nI n1)), (0, .ref qs)]) C dX5_readSaying_141 rfl rfl rfl ?_
                        refine ww_iinc (j := 4) (v := (nI (n1 + 1))) (lv' := [(2, .int (nI (n1 + 1))), (1, .int (nI (op1 - 1))), (5, .int 1), (4, .int 0), (3, .int r_3), (0, .ref qs)]) C dX5_readSaying_142 rfl (nI_add n1 1) rfl rfl ?_
                        refine ww_goto (tgt := 4) C dX5_readSaying_145 (by decide) ?_
                        exact ww_lv [0, 1, 5] rfl (ww_sub [2, 3, 4, 0, 1] rfl rfl (ih_4 (n1 + 1) (op1 - 1) (tn1 + 1) ta2_26 tk2_27 ts2_28 ta1 f_54 f_55 (by omega) (by omega) (by omega) hov.1 (by omega) (by omega) (by omega) (by omega) (by omega) (by omega) h_33 h_34 ((it_s hit (by omega)).trans (sg_a htk0 (by omega) (by omega) h_34 h_35 (by omega))) (RUN.ext hrun hit (by omega)) (OPX.ext hopx ef_54 ef_55 (aI_t hit htk0) (gI_a hit htk0 (by omega)) h_9.1 (argV_0 (by omega) (by omega)) h_9.2 (by decide)) (by omega)))
                      · refine an2 hw ?_
                        clear hw
                        intro he_61 he_62 hw
                        have h_60 := hw
                        clear hw
                        have he_61 := he_61.symm
                        subst he_61
                        subst he_62
                        refine ww_eq (ws' := [(po, .inl (E.2.1 1, 32, .inl f_54)), (pa, .inl (E.2.1 1, 32, .inl f_55)), (qs, .inr (5, [.ref qt, .ref po, .ref pa, .ref pf, .ref pd, .int (nI (n1 + 1)), .int (nI (tn1 + 1)), .int an, .int wr, .int pl])), (qt, .inr (10, [.ref tb, .int (nI tl), .int (nI ta2_26), .int (nI tk2_27), .int (nI ts2_28)])), (tb, .inl (E.2.1 0, 160, .inl fb))]) ?_ rfl rfl rfl
                        have hun := uN_a2 (x := r_3) (by assumption)
                        have hov := OPV.ext hopv ef_54 (by omega) (by omega) (by omega)
                        have hov2 := hov.2
                        have hwt := wt_u (aT (cz fb tl) ts1 tk1 ta1) h_9.2
                        rw [← h_9.1] at hwt
                        refine ww_iconst (v := 1) C dX5_readSaying_138 rfl ?_
                        refine ww_isub (v := 1) C dX5_readSaying_139 (by decide) ?_
                        refine ww_iadd (v := (nI (op1 + 1))) C dX5_readSaying_140 (nI_add op1 1) ?_
                        refine ww_istore_n (lv' := [(1, .int (nI (op1 + 1))), (5, .int 1), (4, .int 0), (3, .int r_3), (2, .int (nI n1)), (0, .ref qs)]) C dX5_readSaying_141 rfl rfl rfl ?_
                        refine ww_iinc (j := 4) (v := (nI (n1 + 1))) (lv' := [(2, .int (nI (n1 + 1))), (1, .int (nI (op1 + 1))), (5, .int 1), (4, .int 0), (3, .int r_3), (0, .ref qs)]) C dX5_readSaying_142 rfl (nI_add n1 1) rfl rfl ?_
                        refine ww_goto (tgt := 4) C dX5_readSaying_145 (by decide) ?_
                        exact ww_lv [0, 1, 5] rfl (ww_sub [2, 3, 4, 0, 1] rfl rfl (ih_4 (n1 + 1) (op1 + 1) (tn1 + 1) ta2_26 tk2_27 ts2_28 ta1 f_54 f_55 (by omega) (by omega) (by omega) hov.1 (by omega) (by omega) (by omega) (by omega) (by omega) (by omega) h_33 h_34 ((it_s hit (by omega)).trans (sg_a htk0 (by omega) (by omega) h_34 h_35 (by omega))) (RUN.ext hrun hit (by omega)) (OPX.ext hopx ef_54 ef_55 (aI_t hit htk0) (gI_a hit htk0 (by omega)) h_9.1 (argV_0 (by omega) (by omega)) h_9.2 (by decide)) (by omega)))
                      · refine an2 hw ?_
                        clear hw
                        intro he_64 he_65 hw
                        have h_63 := hw
                        clear hw
                        have he_64 := he_64.symm
                        subst he_64
                        subst he_65
                        refine ww_eq (ws' := [(po, .inl (E.2.1 1, 32, .inl f_54)), (pa, .inl (E.2.1 1, 32, .inl f_55)), (qs, .inr (5, [.ref qt, .ref po, .ref pa, .ref pf, .ref pd, .int (nI (n1 + 1)), .int (nI (tn1 + 1)), .int an, .int wr, .int pl])), (qt, .inr (10, [.ref tb, .int (nI tl), .int (nI ta2_26), .int (nI tk2_27), .int (nI ts2_28)])), (tb, .inl (E.2.1 0, 160, .inl fb))]) ?_ rfl rfl rfl
                        have hun := uN_a1 (x := r_3) (by assumption)
                        have hov := OPV.ext hopv ef_54 (by omega) (by omega) (by omega)
                        have hov2 := hov.2
                        have hwt := wt_u (aT (cz fb tl) ts1 tk1 ta1) h_9.2
                        rw [← h_9.1] at hwt
                        refine ww_iconst (v := 1) C dX5_readSaying_138 rfl ?_
                        refine ww_isub (v := 0) C dX5_readSaying_139 (by decide) ?_
                        refine ww_iadd (v := (nI op1)) C dX5_readSaying_140 (nI_add op1 0) ?_
                        refine ww_istore_n (lv' := [(1, .int (nI op1)), (5, .int 1), (4, .int 0), (3, .int r_3), (2, .int (nI n1)), (0, .ref qs)]) C dX5_readSaying_141 rfl rfl rfl ?_
                        refine ww_iinc (j := 4) (v := (nI (n1 + 1))) (lv' := [(2, .int (nI (n1 + 1))), (1, .int (nI op1)), (5, .int 1), (4, .int 0), (3, .int r_3), (0, .ref qs)]) C dX5_readSaying_142 rfl (nI_add n1 1) rfl rfl ?_
                        refine ww_goto (tgt := 4) C dX5_readSaying_145 (by decide) ?_
                        exact ww_lv [0, 1, 5] rfl (ww_sub [2, 3, 4, 0, 1] rfl rfl (ih_4 (n1 + 1) op1 (tn1 + 1) ta2_26 tk2_27 ts2_28 ta1 f_54 f_55 (by omega) (by omega) (by omega) hov.1 (by omega) (by omega) (by omega) (by omega) (by omega) (by omega) h_33 h_34 ((it_s hit (by omega)).trans (sg_a htk0 (by omega) (by omega) h_34 h_35 (by omega))) (RUN.ext hrun hit (by omega)) (OPX.ext hopx ef_54 ef_55 (aI_t hit htk0) (gI_a hit htk0 (by omega)) h_9.1 (argV_0 (by omega) (by omega)) h_9.2 (by decide)) (by omega)))
                    · have zc_53 : r_3.toInt ≥ 5 := i_nlt rfl rfl c_53
                      refine ww_aload_n C dX5_readSaying_83 5 rfl rfl ?_
                      refine ww_iload C dX5_readSaying_84 0 rfl ?_
                      refine ww_ci (wr := [(po, .inl (E.2.1 1, 32, .inl fo1)), (pa, .inl (E.2.1 1, 32, .inl fa1))]) (k' := 0) (n' := 0) C (run_V (As := [.int 1]) (rest := []) C (q_knowers1 X.2.1 E ro qs qt po pa pf pd (nI n1) (nI (tn1 + 1)) an wr pl tb tl ta2_26 tk2_27 ts2_28 fb (by omega) (by omega) (by omega) (by omega) (by omega) h_33) mi_X5_knowers wl_X5_100 rfl 0 5 rfl rfl rfl rfl rfl dX5_readSaying_86) (roK hro) [2, 3, 4] [0, 1] rfl rfl rfl rfl (fun r_66 uz hw => ?_)
                      refine an2 hw ?_
                      clear hw
                      intro he_68 he_69 hw
                      have h_67 := hw
                      clear hw
                      have he_68 := he_68.symm
                      subst he_68
                      subst he_69
                      refine ww_eq (ws' := [(po, .inl (E.2.1 1, 32, .inl fo1)), (pa, .inl (E.2.1 1, 32, .inl fa1)), (qs, .inr (5, [.ref qt, .ref po, .ref pa, .ref pf, .ref pd, .int (nI n1), .int (nI (tn1 + 1)), .int an, .int wr, .int pl])), (qt, .inr (10, [.ref tb, .int (nI tl), .int (nI ta2_26), .int (nI tk2_27), .int (nI ts2_28)])), (tb, .inl (E.2.1 0, 160, .inl fb))]) ?_ rfl rfl rfl
                      refine ww_istore (lv' := [(4, .int (nI (gO (gT (cz fb tl) ts2_28 tk2_27 ta2_26)))), (5, .int 1), (3, .int r_3), (2, .int (nI n1)), (1, .int (nI op1)), (0, .ref qs)]) C dX5_readSaying_89 rfl rfl ?_
                      have hga : gA (aT (cz fb tl) ts1 tk1 ta1) (gT (cz fb tl) ts2_28 tk2_27 ta2_26) = gO (gT (cz fb tl) ts2_28 tk2_27 ta2_26) := gA_1 (by omega)
                      refine ww_iload C dX5_readSaying_91 0 rfl ?_
                      refine ww_if_ne (tgt := 102) C dX5_readSaying_93 (by decide) (fun c_70 => ?_) (fun c_70 => ?_)
                      · have zc_70 : ((gO (gT (cz fb tl) ts2_28 tk2_27 ta2_26) : Nat) : Int) ≠ 0 := i_ne (nI_toInt (n := gO (gT (cz fb tl) ts2_28 tk2_27 ta2_26)) (by omega)) rfl c_70
                        have hgn := hga
                        replace hgn : gA (aT (cz fb tl) ts1 tk1 ta1) (gT (cz fb tl) ts2_28 tk2_27 ta2_26) ≠ 0 := by rw [hga]; omega
                        refine ww_aload_n C dX5_readSaying_102 5 rfl rfl ?_
                        refine ww_ci (wr := [(po, .inl (E.2.1 1, 32, .inl fo1)), (pa, .inl (E.2.1 1, 32, .inl fa1))]) (k' := 0) (n' := 0) C (run_V (As := []) (rest := []) C (q_take X.2.1 E ro qs qt po pa pf pd (nI n1) (tn1 + 1) an wr pl tb tl ta2_26 tk2_27 ts2_28 fb (by omega) (by omega) (by omega) (by omega) (by omega) h_33 (by omega)) mi_X5_take wl_X5_97 rfl 0 5 rfl rfl rfl rfl rfl dX5_readSaying_103) (roK hro) [2, 3, 4] [0, 1] rfl rfl rfl rfl (fun r_71 uz hw => ?_)
                        rcases hw with hw | hw
                        · refine ex3 hw ?_
                          clear hw
                          intro ta2_72 tk2_73 ts2_74 hw
                          refine an8 hw ?_
                          clear hw
                          intro he_83 he_84 h_75 h_76 h_77 h_78 h_79 h_80 hw
                          refine an1 hw ?_
                          clear hw
                          intro h_81 hw
                          have h_82 := hw
                          clear hw
                          have he_83 := he_83.symm
                          subst he_83
                          subst he_84
                          refine ww_eq (ws' := [(po, .inl (E.2.1 1, 32, .inl fo1)), (pa, .inl (E.2.1 1, 32, .inl fa1)), (qs, .inr (5, [.ref qt, .ref po, .ref pa, .ref pf, .ref pd, .int (nI n1), .int (nI ((tn1 + 1) + 1)), .int an, .int wr, .int pl])), (qt, .inr (10, [.ref tb, .int (nI tl), .int (nI ta2_72), .int (nI tk2_73), .int (nI ts2_74)])), (tb, .inl (E.2.1 0, 160, .inl fb))]) ?_ rfl rfl rfl
                          refine ww_if_ne_t (tgt := 111) C dX5_readSaying_106 (by decide) (by decide) ?_
                          refine ww_aload_n C dX5_readSaying_111 5 rfl rfl ?_
                          refine ww_get C fg_X5_18 2 rfl rfl dX5_readSaying_112 ?_
                          refine ww_iload_n C dX5_readSaying_115 3 rfl rfl ?_
                          refine ww_iload_n C dX5_readSaying_116 2 rfl rfl ?_
                          obtain ⟨f_99, ef_99⟩ : ∃ z : Nat → Int32, upd fo1 n1 r_3 = z := ⟨_, rfl⟩
                          refine ww_iast (ws' := [(po, .inl (E.2.1 1, 32, .inl f_99)), (pa, .inl (E.2.1 1, 32, .inl fa1)), (qs, .inr (5, [.ref qt, .ref po, .ref pa, .ref pf, .ref pd, .int (nI n1), .int (nI ((tn1 + 1) + 1)), .int an, .int wr, .int pl])), (qt, .inr (10, [.ref tb, .int (nI tl), .int (nI ta2_72), .int (nI tk2_73), .int (nI ts2_74)])), (tb, .inl (E.2.1 0, 160, .inl fb))]) C 0 rfl (vp_in_nI (by omega) (by omega)) (ldn2 (by omega) ef_99) rfl dX5_readSaying_117 ?_
                          refine ww_aload_n C dX5_readSaying_118 5 rfl rfl ?_
                          refine ww_get C fg_X5_22 2 rfl rfl dX5_readSaying_119 ?_
                          refine ww_iload_n C dX5_readSaying_122 3 rfl rfl ?_
                          refine ww_iload C dX5_readSaying_123 0 rfl ?_
                          obtain ⟨f_100, ef_100⟩ : ∃ z : Nat → Int32, upd fa1 n1 (nI (gO (gT (cz fb tl) ts2_28 tk2_27 ta2_26))) = z := ⟨_, rfl⟩
                          refine ww_iast (ws' := [(po, .inl (E.2.1 1, 32, .inl f_99)), (pa, .inl (E.2.1 1, 32, .inl f_100)), (qs, .inr (5, [.ref qt, .ref po, .ref pa, .ref pf, .ref pd, .int (nI n1), .int (nI ((tn1 + 1) + 1)), .int an, .int wr, .int pl])), (qt, .inr (10, [.ref tb, .int (nI tl), .int (nI ta2_72), .int (nI tk2_73), .int (nI ts2_74)])), (tb, .inl (E.2.1 0, 160, .inl fb))]) C 1 rfl (vp_in_nI (by omega) (by omega)) (ldn2 (by omega) ef_100) rfl dX5_readSaying_125 ?_
                          refine ww_aload_n C dX5_readSaying_126 5 rfl rfl ?_
                          refine ww_iload_n C dX5_readSaying_127 3 rfl rfl ?_
                          refine ww_iconst (v := 1) C dX5_readSaying_128 rfl ?_
                          refine ww_iadd (v := (nI (n1 + 1))) C dX5_readSaying_129 (nI_add n1 1) ?_
                          refine ww_put (ws' := [(po, .inl (E.2.1 1, 32, .inl f_99)), (pa, .inl (E.2.1 1, 32, .inl f_100)), (qs, .inr (5, [.ref qt, .ref po, .ref pa, .ref pf, .ref pd, .int (nI (n1 + 1)), .int (nI ((tn1 + 1) + 1)), .int an, .int wr, .int pl])), (qt, .inr (10, [.ref tb, .int (nI tl), .int (nI ta2_72), .int (nI tk2_73), .int (nI ts2_74)])), (tb, .inl (E.2.1 0, 160, .inl fb))]) C fp_X5_31 2 rfl rfl rfl rfl rfl dX5_readSaying_130 ?_
                          refine ww_iload_n C dX5_readSaying_133 4 rfl rfl ?_
                          refine ww_iload_n C dX5_readSaying_134 2 rfl rfl ?_
                          refine ww_ci (wr := [(po, .inl (E.2.1 1, 32, .inl f_99)), (pa, .inl (E.2.1 1, 32, .inl f_100)), (qs, .inr (5, [.ref qt, .ref po, .ref pa, .ref pf, .ref pd, .int (nI (n1 + 1)), .int (nI ((tn1 + 1) + 1)), .int an, .int wr, .int pl])), (qt, .inr (10, [.ref tb, .int (nI tl), .int (nI ta2_72), .int (nI tk2_73), .int (nI ts2_74)])), (tb, .inl (E.2.1 0, 160, .inl fb))]) (k' := 0) (n' := 0) C (run_SN (As := [.int r_3]) (rest := [.int (nI op1)]) C (c_under X.2.1 E ro r_3) ms_X11_under (List.mem_of_getElem? (i := 14) rfl) rfl rfl rfl rfl dX5_readSaying_135) (roK hro) [] [0, 1, 2, 3, 4] rfl rfl rfl rfl (fun r_101 uz hw => ?_)
                          rcases hw with hw | hw | hw
                          · refine an2 hw ?_
                            clear hw
                            intro he_103 he_104 hw
                            have h_102 := hw
                            clear hw
                            have he_103 := he_103.symm
                            subst he_103
                            subst he_104
                            refine ww_eq (ws' := [(po, .inl (E.2.1 1, 32, .inl f_99)), (pa, .inl (E.2.1 1, 32, .inl f_100)), (qs, .inr (5, [.ref qt, .ref po, .ref pa, .ref pf, .ref pd, .int (nI (n1 + 1)), .int (nI ((tn1 + 1) + 1)), .int an, .int wr, .int pl])), (qt, .inr (10, [.ref tb, .int (nI tl), .int (nI ta2_72), .int (nI tk2_73), .int (nI ts2_74)])), (tb, .inl (E.2.1 0, 160, .inl fb))]) ?_ rfl rfl rfl
                            have hun := uN_a0 (x := r_3) (by assumption)
                            have hov := OPV.ext hopv ef_99 (by omega) (by omega) (by omega)
                            have hov2 := hov.2
                            have hwt := wt_u (aT (cz fb tl) ts1 tk1 ta1) h_9.2
                            rw [← h_9.1] at hwt
                            refine ww_iconst (v := 1) C dX5_readSaying_138 rfl ?_
                            refine ww_isub (v := (-1)) C dX5_readSaying_139 (by decide) ?_
                            refine ww_iadd (v := (nI (op1 - 1))) C dX5_readSaying_140 (nI_subc (a := op1) (c := 1) (by omega) rfl) ?_
                            refine ww_istore_n (lv' := [(1, .int (nI (op1 - 1))), (4, .int (nI (gO (gT (cz fb tl) ts2_28 tk2_27 ta2_26)))), (5, .int 1), (3, .int r_3), (2, .int (nI n1)), (0, .ref qs)]) C dX5_readSaying_141 rfl rfl rfl ?_
                            refine ww_iinc (j := 4) (v := (nI (n1 + 1))) (lv' := [(2, .int (nI (n1 + 1))), (1, .int (nI (op1 - 1))), (4, .int (nI (gO (gT (cz fb tl) ts2_28 tk2_27 ta2_26)))), (5, .int 1), (3, .int r_3), (0, .ref qs)]) C dX5_readSaying_142 rfl (nI_add n1 1) rfl rfl ?_
                            refine ww_goto (tgt := 4) C dX5_readSaying_145 (by decide) ?_
                            exact ww_lv [0, 1, 5] rfl (ww_sub [2, 3, 4, 0, 1] rfl rfl (ih_4 (n1 + 1) (op1 - 1) ((tn1 + 1) + 1) ta2_72 tk2_73 ts2_74 ta2_26 f_99 f_100 (by omega) (by omega) (by omega) hov.1 (by omega) (by omega) (by omega) (by omega) (by omega) (by omega) h_79 h_80 ((it_s hit (by omega)).trans ((sg_b htk0 (by omega) (by omega) (by omega) h_34 h_35 hgn (by omega) h_80 h_81).trans (by first | rfl | (exfalso; omega)))) (RUN.ext hrun hit (by omega)) (OPX.ext hopx ef_99 ef_100 (aI_t hit htk0) ((gI_b hit htk0 (by omega) h_34).trans hga) h_9.1 (argV_g (by omega)) h_9.2 (by omega)) (by omega)))
                          · refine an2 hw ?_
                            clear hw
                            intro he_106 he_107 hw
                            have h_105 := hw
                            clear hw
                            have he_106 := he_106.symm
                            subst he_106
                            subst he_107
                            refine ww_eq (ws' := [(po, .inl (E.2.1 1, 32, .inl f_99)), (pa, .inl (E.2.1 1, 32, .inl f_100)), (qs, .inr (5, [.ref qt, .ref po, .ref pa, .ref pf, .ref pd, .int (nI (n1 + 1)), .int (nI ((tn1 + 1) + 1)), .int an, .int wr, .int pl])), (qt, .inr (10, [.ref tb, .int (nI tl), .int (nI ta2_72), .int (nI tk2_73), .int (nI ts2_74)])), (tb, .inl (E.2.1 0, 160, .inl fb))]) ?_ rfl rfl rfl
                            have hun := uN_a2 (x := r_3) (by assumption)
                            have hov := OPV.ext hopv ef_99 (by omega) (by omega) (by omega)
                            have hov2 := hov.2
                            have hwt := wt_u (aT (cz fb tl) ts1 tk1 ta1) h_9.2
                            rw [← h_9.1] at hwt
                            refine ww_iconst (v := 1) C dX5_readSaying_138 rfl ?_
                            refine ww_isub (v := 1) C dX5_readSaying_139 (by decide) ?_
                            refine ww_iadd (v := (nI (op1 + 1))) C dX5_readSaying_140 (nI_add op1 1) ?_
                            refine ww_istore_n (lv' := [(1, .int (nI (op1 + 1))), (4, .int (nI (gO (gT (cz fb tl) ts2_28 tk2_27 ta2_26)))), (5, .int 1), (3, .int r_3), (2, .int (nI n1)), (0, .ref qs)]) C dX5_readSaying_141 rfl rfl rfl ?_
                            refine ww_iinc (j := 4) (v := (nI (n1 + 1))) (lv' := [(2, .int (nI (n1 + 1))), (1, .int (nI (op1 + 1))), (4, .int (nI (gO (gT (cz fb tl) ts2_28 tk2_27 ta2_26)))), (5, .int 1), (3, .int r_3), (0, .ref qs)]) C dX5_readSaying_142 rfl (nI_add n1 1) rfl rfl ?_
                            refine ww_goto (tgt := 4) C dX5_readSaying_145 (by decide) ?_
                            exact ww_lv [0, 1, 5] rfl (ww_sub [2, 3, 4, 0, 1] rfl rfl (ih_4 (n1 + 1) (op1 + 1) ((tn1 + 1) + 1) ta2_72 tk2_73 ts2_74 ta2_26 f_99 f_100 (by omega) (by omega) (by omega) hov.1 (by omega) (by omega) (by omega) (by omega) (by omega) (by omega) h_79 h_80 ((it_s hit (by omega)).trans ((sg_b htk0 (by omega) (by omega) (by omega) h_34 h_35 hgn (by omega) h_80 h_81).trans (by first | rfl | (exfalso; omega)))) (RUN.ext hrun hit (by omega)) (OPX.ext hopx ef_99 ef_100 (aI_t hit htk0) ((gI_b hit htk0 (by omega) h_34).trans hga) h_9.1 (argV_g (by omega)) h_9.2 (by omega)) (by omega)))
                          · refine an2 hw ?_
                            clear hw
                            intro he_109 he_110 hw
                            have h_108 := hw
                            clear hw
                            have he_109 := he_109.symm
                            subst he_109
                            subst he_110
                            refine ww_eq (ws' := [(po, .inl (E.2.1 1, 32, .inl f_99)), (pa, .inl (E.2.1 1, 32, .inl f_100)), (qs, .inr (5, [.ref qt, .ref po, .ref pa, .ref pf, .ref pd, .int (nI (n1 + 1)), .int (nI ((tn1 + 1) + 1)), .int an, .int wr, .int pl])), (qt, .inr (10, [.ref tb, .int (nI tl), .int (nI ta2_72), .int (nI tk2_73), .int (nI ts2_74)])), (tb, .inl (E.2.1 0, 160, .inl fb))]) ?_ rfl rfl rfl
                            have hun := uN_a1 (x := r_3) (by assumption)
                            have hov := OPV.ext hopv ef_99 (by omega) (by omega) (by omega)
                            have hov2 := hov.2
                            have hwt := wt_u (aT (cz fb tl) ts1 tk1 ta1) h_9.2
                            rw [← h_9.1] at hwt
                            refine ww_iconst (v := 1) C dX5_readSaying_138 rfl ?_
                            refine ww_isub (v := 0) C dX5_readSaying_139 (by decide) ?_
                            refine ww_iadd (v := (nI op1)) C dX5_readSaying_140 (nI_add op1 0) ?_
                            refine ww_istore_n (lv' := [(1, .int (nI op1)), (4, .int (nI (gO (gT (cz fb tl) ts2_28 tk2_27 ta2_26)))), (5, .int 1), (3, .int r_3), (2, .int (nI n1)), (0, .ref qs)]) C dX5_readSaying_141 rfl rfl rfl ?_
                            refine ww_iinc (j := 4) (v := (nI (n1 + 1))) (lv' := [(2, .int (nI (n1 + 1))), (1, .int (nI op1)), (4, .int (nI (gO (gT (cz fb tl) ts2_28 tk2_27 ta2_26)))), (5, .int 1), (3, .int r_3), (0, .ref qs)]) C dX5_readSaying_142 rfl (nI_add n1 1) rfl rfl ?_
                            refine ww_goto (tgt := 4) C dX5_readSaying_145 (by decide) ?_
                            exact ww_lv [0, 1, 5] rfl (ww_sub [2, 3, 4, 0, 1] rfl rfl (ih_4 (n1 + 1) op1 ((tn1 + 1) + 1) ta2_72 tk2_73 ts2_74 ta2_26 f_99 f_100 (by omega) (by omega) (by omega) hov.1 (by omega) (by omega) (by omega) (by omega) (by omega) (by omega) h_79 h_80 ((it_s hit (by omega)).trans ((sg_b htk0 (by omega) (by omega) (by omega) h_34 h_35 hgn (by omega) h_80 h_81).trans (by first | rfl | (exfalso; omega)))) (RUN.ext hrun hit (by omega)) (OPX.ext hopx ef_99 ef_100 (aI_t hit htk0) ((gI_b hit htk0 (by omega) h_34).trans hga) h_9.1 (argV_g (by omega)) h_9.2 (by omega)) (by omega)))
                        · refine ex6 hw ?_
                          clear hw
                          intro ta2_85 tk2_86 ts2_87 tn2_88 wr2_89 pl2_90 hw
                          refine an7 hw ?_
                          clear hw
                          intro he_97 he_98 h_91 h_92 h_93 h_94 h_95 hw
                          have h_96 := hw
                          clear hw
                          have he_97 := he_97.symm
                          subst he_97
                          subst he_98
                          refine ww_eq (ws' := [(po, .inl (E.2.1 1, 32, .inl fo1)), (pa, .inl (E.2.1 1, 32, .inl fa1)), (qs, .inr (5, [.ref qt, .ref po, .ref pa, .ref pf, .ref pd, .int (nI n1), .int tn2_88, .int an, .int wr2_89, .int (nI pl2_90)])), (qt, .inr (10, [.ref tb, .int (nI tl), .int (nI ta2_85), .int (nI tk2_86), .int (nI ts2_87)])), (tb, .inl (E.2.1 0, 160, .inl fb))]) ?_ rfl rfl rfl
                          refine ww_if_ne_f (tgt := 111) C dX5_readSaying_106 (by decide) (rfl) ?_
                          refine ww_iconst (v := 0) C dX5_readSaying_109 rfl ?_
                          exact ww_zret (u := [(qs, .inr (5, [.ref qt, .ref po, .ref pa, .ref pf, .ref pd, .int (nI n1), .int tn2_88, .int an, .int wr2_89, .int (nI pl2_90)])), (qt, .inr (10, [.ref tb, .int (nI tl), .int (nI ta2_85), .int (nI tk2_86), .int (nI ts2_87)])), (tb, .inl (E.2.1 0, 160, .inl fb)), (po, .inl (E.2.1 1, 32, .inl fo1)), (pa, .inl (E.2.1 1, 32, .inl fa1))]) C hT [2, 3, 4, 0, 1] rfl rfl rfl rfl rfl dX5_readSaying_110 (Or.inr ⟨ta2_85, tk2_86, ts2_87, (nI n1), tn2_88, wr2_89, pl2_90, fo1, fa1, rfl, rfl, (by first | assumption | omega | decide), (by first | assumption | omega | decide), (by first | assumption | omega | decide), (by omega), h_95, (by rcases h_96 with ⟨h8, h9⟩ | ⟨h7, h8, h9⟩ <;> subst h9 <;> first | exact it_bad hit (by omega) (sg_f3 htk0 (by omega) (by omega) (by omega) h_34 h_35 (Or.inr h8)) (by omega) | exact it_bad hit (by omega) (sg_f4 htk0 (by omega) (by omega) (by omega) h_34 h_35 hgn h7 h8) (by omega))⟩)
                      · have zc_70 : ((gO (gT (cz fb tl) ts2_28 tk2_27 ta2_26) : Nat) : Int) = 0 := i_eq (nI_toInt (n := gO (gT (cz fb tl) ts2_28 tk2_27 ta2_26)) (by omega)) rfl c_70
                        refine ww_aload_n C dX5_readSaying_96 5 rfl rfl ?_
                        refine ww_iconst (v := 2) C dX5_readSaying_97 rfl ?_
                        refine ww_ci (wr := [(po, .inl (E.2.1 1, 32, .inl fo1)), (pa, .inl (E.2.1 1, 32, .inl fa1)), (tb, .inl (E.2.1 0, 160, .inl fb))]) (k' := 0) (n' := 0) C (run_V (As := [.int 2]) (rest := []) C (q_fail X.2.1 E ro qs 2 qt po pa pf pd (nI n1) (nI (tn1 + 1)) an wr pl tb tl (nI ta2_26) tk2_27 ts2_28 (by omega)) mi_X5_fail wl_X5_63 rfl 0 5 rfl rfl rfl rfl rfl dX5_readSaying_98) (roK hro) [2, 3] [0, 1, 4] rfl rfl rfl rfl (fun r_111 uz hw => ?_)
                        refine an1 hw ?_
                        clear hw
                        intro he_112 hw
                        have he_113 := hw
                        clear hw
                        have he_112 := he_112.symm
                        subst he_112
                        subst he_113
                        refine ww_eq (ws' := [(po, .inl (E.2.1 1, 32, .inl fo1)), (pa, .inl (E.2.1 1, 32, .inl fa1)), (tb, .inl (E.2.1 0, 160, .inl fb)), (qs, .inr (5, [.ref qt, .ref po, .ref pa, .ref pf, .ref pd, .int (nI n1), .int (nI (tn1 + 1)), .int an, .int 2, .int (nI ts2_28)])), (qt, .inr (10, [.ref tb, .int (nI tl), .int (nI ta2_26), .int (nI tk2_27), .int (nI ts2_28)]))]) ?_ rfl rfl rfl
                        exact ww_zret (u := [(qs, .inr (5, [.ref qt, .ref po, .ref pa, .ref pf, .ref pd, .int (nI n1), .int (nI (tn1 + 1)), .int an, .int 2, .int (nI ts2_28)])), (qt, .inr (10, [.ref tb, .int (nI tl), .int (nI ta2_26), .int (nI tk2_27), .int (nI ts2_28)])), (tb, .inl (E.2.1 0, 160, .inl fb)), (po, .inl (E.2.1 1, 32, .inl fo1)), (pa, .inl (E.2.1 1, 32, .inl fa1))]) C hT [3, 4, 2, 0, 1] rfl rfl rfl rfl rfl dX5_readSaying_101 (Or.inr ⟨ta2_26, tk2_27, ts2_28, (nI n1), (nI (tn1 + 1)), 2, ts2_28, fo1, fa1, rfl, rfl, (by first | assumption | omega | decide), (by first | assumption | omega | decide), (by first | assumption | omega | decide), (by omega), h_33, (it_bad hit (by omega) (sg_f3 htk0 (by omega) (by omega) (by omega) h_34 h_35 (Or.inl (by rw [hga]; omega))) (by omega))⟩)
                  · refine ex6 hw ?_
                    clear hw
                    intro ta2_39 tk2_40 ts2_41 tn2_42 wr2_43 pl2_44 hw
                    refine an7 hw ?_
                    clear hw
                    intro he_51 he_52 h_45 h_46 h_47 h_48 h_49 hw
                    have h_50 := hw
                    clear hw
                    have he_51 := he_51.symm
                    subst he_51
                    subst he_52
                    refine ww_eq (ws' := [(po, .inl (E.2.1 1, 32, .inl fo1)), (pa, .inl (E.2.1 1, 32, .inl fa1)), (qs, .inr (5, [.ref qt, .ref po, .ref pa, .ref pf, .ref pd, .int (nI n1), .int tn2_42, .int an, .int wr2_43, .int (nI pl2_44)])), (qt, .inr (10, [.ref tb, .int (nI tl), .int (nI ta2_39), .int (nI tk2_40), .int (nI ts2_41)])), (tb, .inl (E.2.1 0, 160, .inl fb))]) ?_ rfl rfl rfl
                    refine ww_if_ne_f (tgt := 78) C dX5_readSaying_73 (by decide) (rfl) ?_
                    refine ww_iconst (v := 0) C dX5_readSaying_76 rfl ?_
                    exact ww_zret (u := [(qs, .inr (5, [.ref qt, .ref po, .ref pa, .ref pf, .ref pd, .int (nI n1), .int tn2_42, .int an, .int wr2_43, .int (nI pl2_44)])), (qt, .inr (10, [.ref tb, .int (nI tl), .int (nI ta2_39), .int (nI tk2_40), .int (nI ts2_41)])), (tb, .inl (E.2.1 0, 160, .inl fb)), (po, .inl (E.2.1 1, 32, .inl fo1)), (pa, .inl (E.2.1 1, 32, .inl fa1))]) C hT [2, 3, 4, 0, 1] rfl rfl rfl rfl rfl dX5_readSaying_77 (Or.inr ⟨ta2_39, tk2_40, ts2_41, (nI n1), tn2_42, wr2_43, pl2_44, fo1, fa1, rfl, rfl, (by first | assumption | omega | decide), (by first | assumption | omega | decide), (by first | assumption | omega | decide), (by omega), h_49, (by rcases h_50 with ⟨h8, h9⟩ | ⟨h7, h8, h9⟩ <;> subst h9 <;> first | exact it_bad hit (by omega) (sg_f1 htk0 (Or.inr h8)) (by omega) | exact it_bad hit (by omega) (sg_f2 htk0 (by omega) h7 h8) (by omega))⟩)
                · refine an2 hw ?_
                  clear hw
                  intro he_22 he_23 hw
                  have h_21 := hw
                  clear hw
                  have he_22 := he_22.symm
                  subst he_22
                  subst he_23
                  refine ww_eq (ws' := [(po, .inl (E.2.1 1, 32, .inl fo1)), (pa, .inl (E.2.1 1, 32, .inl fa1)), (qs, .inr (5, [.ref qt, .ref po, .ref pa, .ref pf, .ref pd, .int (nI n1), .int (nI tn1), .int an, .int wr, .int pl])), (qt, .inr (10, [.ref tb, .int (nI tl), .int (nI ta1), .int (nI tk1), .int (nI ts1)])), (tb, .inl (E.2.1 0, 160, .inl fb))]) ?_ rfl rfl rfl
                  have hNk_114 := aT_nn (show ¬ IN (cz fb tl) ts1 tk1 ta1 8 from h_21) (by decide)
                  refine ww_if_ne_f (tgt := 62) C dX5_readSaying_54 (by decide) (rfl) ?_
                  refine ww_iload_n C dX5_readSaying_57 1 rfl rfl ?_
                  refine ww_iconst (v := 5) C dX5_readSaying_58 rfl ?_
                  refine ww_icmp_ne (tgt := 66) C dX5_readSaying_59 (by decide) (fun c_115 => ?_) (fun c_115 => ?_)
                  · have zc_115 : r_3.toInt ≠ 5 := i_ne rfl rfl c_115
                    refine ww_iconst (v := 0) C dX5_readSaying_66 rfl ?_
                    refine ww_istore (lv' := [(5, .int 0), (4, .int 0), (3, .int r_3), (2, .int (nI n1)), (1, .int (nI op1)), (0, .ref qs)]) C dX5_readSaying_67 rfl rfl ?_
                    refine ww_aload_n C dX5_readSaying_69 5 rfl rfl ?_
                    refine ww_ci (wr := [(po, .inl (E.2.1 1, 32, .inl fo1)), (pa, .inl (E.2.1 1, 32, .inl fa1))]) (k' := 0) (n' := 0) C (run_V (As := []) (rest := []) C (q_take X.2.1 E ro qs qt po pa pf pd (nI n1) tn1 an wr pl tb tl ta1 tk1 ts1 fb (by omega) (by omega) (by omega) (by omega) (by omega) hfg1 (by omega)) mi_X5_take wl_X5_97 rfl 0 5 rfl rfl rfl rfl rfl dX5_readSaying_70) (roK hro) [2, 3, 4] [0, 1] rfl rfl rfl rfl (fun r_116 uz hw => ?_)
                    rcases hw with hw | hw
                    · refine ex3 hw ?_
                      clear hw
                      intro ta2_117 tk2_118 ts2_119 hw
                      refine an8 hw ?_
                      clear hw
                      intro he_128 he_129 h_120 h_121 h_122 h_123 h_124 h_125 hw
                      refine an1 hw ?_
                      clear hw
                      intro h_126 hw
                      have h_127 := hw
                      clear hw
                      have he_128 := he_128.symm
                      subst he_128
                      subst he_129
                      refine ww_eq (ws' := [(po, .inl (E.2.1 1, 32, .inl fo1)), (pa, .inl (E.2.1 1, 32, .inl fa1)), (qs, .inr (5, [.ref qt, .ref po, .ref pa, .ref pf, .ref pd, .int (nI n1), .int (nI (tn1 + 1)), .int an, .int wr, .int pl])), (qt, .inr (10, [.ref tb, .int (nI tl), .int (nI ta2_117), .int (nI tk2_118), .int (nI ts2_119)])), (tb, .inl (E.2.1 0, 160, .inl fb))]) ?_ rfl rfl rfl
                      refine ww_if_ne_t (tgt := 78) C dX5_readSaying_73 (by decide) (by decide) ?_
                      refine ww_iload_n C dX5_readSaying_78 2 rfl rfl ?_
                      refine ww_iconst (v := 5) C dX5_readSaying_79 rfl ?_
                      refine ww_icmp_lt (tgt := 111) C dX5_readSaying_80 (by decide) (fun c_144 => ?_) (fun c_144 => ?_)
                      · have zc_144 : r_3.toInt < 5 := i_lt rfl rfl c_144
                        refine ww_aload_n C dX5_readSaying_111 5 rfl rfl ?_
                        refine ww_get C fg_X5_18 2 rfl rfl dX5_readSaying_112 ?_
                        refine ww_iload_n C dX5_readSaying_115 3 rfl rfl ?_
                        refine ww_iload_n C dX5_readSaying_116 2 rfl rfl ?_
                        obtain ⟨f_145, ef_145⟩ : ∃ z : Nat → Int32, upd fo1 n1 r_3 = z := ⟨_, rfl⟩
                        refine ww_iast (ws' := [(po, .inl (E.2.1 1, 32, .inl f_145)), (pa, .inl (E.2.1 1, 32, .inl fa1)), (qs, .inr (5, [.ref qt, .ref po, .ref pa, .ref pf, .ref pd, .int (nI n1), .int (nI (tn1 + 1)), .int an, .int wr, .int pl])), (qt, .inr (10, [.ref tb, .int (nI tl), .int (nI ta2_117), .int (nI tk2_118), .int (nI ts2_119)])), (tb, .inl (E.2.1 0, 160, .inl fb))]) C 0 rfl (vp_in_nI (by omega) (by omega)) (ldn2 (by omega) ef_145) rfl dX5_readSaying_117 ?_
                        refine ww_aload_n C dX5_readSaying_118 5 rfl rfl ?_
                        refine ww_get C fg_X5_22 2 rfl rfl dX5_readSaying_119 ?_
                        refine ww_iload_n C dX5_readSaying_122 3 rfl rfl ?_
                        refine ww_iload C dX5_readSaying_123 1 rfl ?_
                        obtain ⟨f_146, ef_146⟩ : ∃ z : Nat → Int32, upd fa1 n1 0 = z := ⟨_, rfl⟩
                        refine ww_iast (ws' := [(po, .inl (E.2.1 1, 32, .inl f_145)), (pa, .inl (E.2.1 1, 32, .inl f_146)), (qs, .inr (5, [.ref qt, .ref po, .ref pa, .ref pf, .ref pd, .int (nI n1), .int (nI (tn1 + 1)), .int an, .int wr, .int pl])), (qt, .inr (10, [.ref tb, .int (nI tl), .int (nI ta2_117), .int (nI tk2_118), .int (nI ts2_119)])), (tb, .inl (E.2.1 0, 160, .inl fb))]) C 1 rfl (vp_in_nI (by omega) (by omega)) (ldn2 (by omega) ef_146) rfl dX5_readSaying_125 ?_
                        refine ww_aload_n C dX5_readSaying_126 5 rfl rfl ?_
                        refine ww_iload_n C dX5_readSaying_127 3 rfl rfl ?_
                        refine ww_iconst (v := 1) C dX5_readSaying_128 rfl ?_
                        refine ww_iadd (v := (nI (n1 + 1))) C dX5_readSaying_129 (nI_add n1 1) ?_
                        refine ww_put (ws' := [(po, .inl (E.2.1 1, 32, .inl f_145)), (pa, .inl (E.2.1 1, 32, .inl f_146)), (qs, .inr (5, [.ref qt, .ref po, .ref pa, .ref pf, .ref pd, .int (nI (n1 + 1)), .int (nI (tn1 + 1)), .int an, .int wr, .int pl])), (qt, .inr (10, [.ref tb, .int (nI tl), .int (nI ta2_117), .int (nI tk2_118), .int (nI ts2_119)])), (tb, .inl (E.2.1 0, 160, .inl fb))]) C fp_X5_31 2 rfl rfl rfl rfl rfl dX5_readSaying_130 ?_
                        refine ww_iload_n C dX5_readSaying_133 4 rfl rfl ?_
                        refine ww_iload_n C dX5_readSaying_134 2 rfl rfl ?_
                        refine ww_ci (wr := [(po, .inl (E.2.1 1, 32, .inl f_145)), (pa, .inl (E.2.1 1, 32, .inl f_146)), (qs, .inr (5, [.ref qt, .ref po, .ref pa, .ref pf, .ref pd, .int (nI (n1 + 1)), .int (nI (tn1 + 1)), .int an, .int wr, .int pl])), (qt, .inr (10, [.ref tb, .int (nI tl), .int (nI ta2_117), .int (nI tk2_118), .int (nI ts2_119)])), (tb, .inl (E.2.1 0, 160, .inl fb))]) (k' := 0) (n' := 0) C (run_SN (As := [.int r_3]) (rest := [.int (nI op1)]) C (c_under X.2.1 E ro r_3) ms_X11_under (List.mem_of_getElem? (i := 14) rfl) rfl rfl rfl rfl dX5_readSaying_135) (roK hro) [] [0, 1, 2, 3, 4] rfl rfl rfl rfl (fun r_147 uz hw => ?_)
                        rcases hw with hw | hw | hw
                        · refine an2 hw ?_
                          clear hw
                          intro he_149 he_150 hw
                          have h_148 := hw
                          clear hw
                          have he_149 := he_149.symm
                          subst he_149
                          subst he_150
                          refine ww_eq (ws' := [(po, .inl (E.2.1 1, 32, .inl f_145)), (pa, .inl (E.2.1 1, 32, .inl f_146)), (qs, .inr (5, [.ref qt, .ref po, .ref pa, .ref pf, .ref pd, .int (nI (n1 + 1)), .int (nI (tn1 + 1)), .int an, .int wr, .int pl])), (qt, .inr (10, [.ref tb, .int (nI tl), .int (nI ta2_117), .int (nI tk2_118), .int (nI ts2_119)])), (tb, .inl (E.2.1 0, 160, .inl fb))]) ?_ rfl rfl rfl
                          have hun := uN_a0 (x := r_3) (by assumption)
                          have hov := OPV.ext hopv ef_145 (by omega) (by omega) (by omega)
                          have hov2 := hov.2
                          have hwt := wt_u (aT (cz fb tl) ts1 tk1 ta1) h_9.2
                          rw [← h_9.1] at hwt
                          refine ww_iconst (v := 1) C dX5_readSaying_138 rfl ?_
                          refine ww_isub (v := (-1)) C dX5_readSaying_139 (by decide) ?_
                          refine ww_iadd (v := (nI (op1 - 1))) C dX5_readSaying_140 (nI_subc (a := op1) (c := 1) (by omega) rfl) ?_
                          refine ww_istore_n (lv' := [(1, .int (nI (op1 - 1))), (5, .int 0), (4, .int 0), (3, .int r_3), (2, .int (nI n1)), (0, .ref qs)]) C dX5_readSaying_141 rfl rfl rfl ?_
                          refine ww_iinc (j := 4) (v := (nI (n1 + 1))) (lv' := [(2, .int (nI (n1 + 1))), (1, .int (nI (op1 - 1))), (5, .int 0), (4, .int 0), (3, .int r_3), (0, .ref qs)]) C dX5_readSaying_142 rfl (nI_add n1 1) rfl rfl ?_
                          refine ww_goto (tgt := 4) C dX5_readSaying_145 (by decide) ?_
                          exact ww_lv [0, 1, 5] rfl (ww_sub [2, 3, 4, 0, 1] rfl rfl (ih_4 (n1 + 1) (op1 - 1) (tn1 + 1) ta2_117 tk2_118 ts2_119 ta1 f_145 f_146 (by omega) (by omega) (by omega) hov.1 (by omega) (by omega) (by omega) (by omega) (by omega) (by omega) h_124 h_125 ((it_s hit (by omega)).trans (sg_a htk0 (by omega) (by omega) h_125 h_126 (by omega))) (RUN.ext hrun hit (by omega)) (OPX.ext hopx ef_145 ef_146 (aI_t hit htk0) (gI_a hit htk0 (by omega)) h_9.1 (argV_0 (by omega) (by omega)) h_9.2 (by decide)) (by omega)))
                        · refine an2 hw ?_
                          clear hw
                          intro he_152 he_153 hw
                          have h_151 := hw
                          clear hw
                          have he_152 := he_152.symm
                          subst he_152
                          subst he_153
                          refine ww_eq (ws' := [(po, .inl (E.2.1 1, 32, .inl f_145)), (pa, .inl (E.2.1 1, 32, .inl f_146)), (qs, .inr (5, [.ref qt, .ref po, .ref pa, .ref pf, .ref pd, .int (nI (n1 + 1)), .int (nI (tn1 + 1)), .int an, .int wr, .int pl])), (qt, .inr (10, [.ref tb, .int (nI tl), .int (nI ta2_117), .int (nI tk2_118), .int (nI ts2_119)])), (tb, .inl (E.2.1 0, 160, .inl fb))]) ?_ rfl rfl rfl
                          have hun := uN_a2 (x := r_3) (by assumption)
                          have hov := OPV.ext hopv ef_145 (by omega) (by omega) (by omega)
                          have hov2 := hov.2
                          have hwt := wt_u (aT (cz fb tl) ts1 tk1 ta1) h_9.2
                          rw [← h_9.1] at hwt
                          refine ww_iconst (v := 1) C dX5_readSaying_138 rfl ?_
                          refine ww_isub (v := 1) C dX5_readSaying_139 (by decide) ?_
                          refine ww_iadd (v := (nI (op1 + 1))) C dX5_readSaying_140 (nI_add op1 1) ?_
                          refine ww_istore_n (lv' := [(1, .int (nI (op1 + 1))), (5, .int 0), (4, .int 0), (3, .int r_3), (2, .int (nI n1)), (0, .ref qs)]) C dX5_readSaying_141 rfl rfl rfl ?_
                          refine ww_iinc (j := 4) (v := (nI (n1 + 1))) (lv' := [(2, .int (nI (n1 + 1))), (1, .int (nI (op1 + 1))), (5, .int 0), (4, .int 0), (3, .int r_3), (0, .ref qs)]) C dX5_readSaying_142 rfl (nI_add n1 1) rfl rfl ?_
                          refine ww_goto (tgt := 4) C dX5_readSaying_145 (by decide) ?_
                          exact ww_lv [0, 1, 5] rfl (ww_sub [2, 3, 4, 0, 1] rfl rfl (ih_4 (n1 + 1) (op1 + 1) (tn1 + 1) ta2_117 tk2_118 ts2_119 ta1 f_145 f_146 (by omega) (by omega) (by omega) hov.1 (by omega) (by omega) (by omega) (by omega) (by omega) (by omega) h_124 h_125 ((it_s hit (by omega)).trans (sg_a htk0 (by omega) (by omega) h_125 h_126 (by omega))) (RUN.ext hrun hit (by omega)) (OPX.ext hopx ef_145 ef_146 (aI_t hit htk0) (gI_a hit htk0 (by omega)) h_9.1 (argV_0 (by omega) (by omega)) h_9.2 (by decide)) (by omega)))
                        · refine an2 hw ?_
                          clear hw
                          intro he_155 he_156 hw
                          have h_154 := hw
                          clear hw
                          have he_155 := he_155.symm
                          subst he_155
                          subst he_156
                          refine ww_eq (ws' := [(po, .inl (E.2.1 1, 32, .inl f_145)), (pa, .inl (E.2.1 1, 32, .inl f_146)), (qs, .inr (5, [.ref qt, .ref po, .ref pa, .ref pf, .ref pd, .int (nI (n1 + 1)), .int (nI (tn1 + 1)), .int an, .int wr, .int pl])), (qt, .inr (10, [.ref tb, .int (nI tl), .int (nI ta2_117), .int (nI tk2_118), .int (nI ts2_119)])), (tb, .inl (E.2.1 0, 160, .inl fb))]) ?_ rfl rfl rfl
                          have hun := uN_a1 (x := r_3) (by assumption)
                          have hov := OPV.ext hopv ef_145 (by omega) (by omega) (by omega)
                          have hov2 := hov.2
                          have hwt := wt_u (aT (cz fb tl) ts1 tk1 ta1) h_9.2
                          rw [← h_9.1] at hwt
                          refine ww_iconst (v := 1) C dX5_readSaying_138 rfl ?_
                          refine ww_isub (v := 0) C dX5_readSaying_139 (by decide) ?_
                          refine ww_iadd (v := (nI op1)) C dX5_readSaying_140 (nI_add op1 0) ?_
                          refine ww_istore_n (lv' := [(1, .int (nI op1)), (5, .int 0), (4, .int 0), (3, .int r_3), (2, .int (nI n1)), (0, .ref qs)]) C dX5_readSaying_141 rfl rfl rfl ?_
                          refine ww_iinc (j := 4) (v := (nI (n1 + 1))) (lv' := [(2, .int (nI (n1 + 1))), (1, .int (nI op1)), (5, .int 0), (4, .int 0), (3, .int r_3), (0, .ref qs)]) C dX5_readSaying_142 rfl (nI_add n1 1) rfl rfl ?_
                          refine ww_goto (tgt := 4) C dX5_readSaying_145 (by decide) ?_
                          exact ww_lv [0, 1, 5] rfl (ww_sub [2, 3, 4, 0, 1] rfl rfl (ih_4 (n1 + 1) op1 (tn1 + 1) ta2_117 tk2_118 ts2_119 ta1 f_145 f_146 (by omega) (by omega) (by omega) hov.1 (by omega) (by omega) (by omega) (by omega) (by omega) (by omega) h_124 h_125 ((it_s hit (by omega)).trans (sg_a htk0 (by omega) (by omega) h_125 h_126 (by omega))) (RUN.ext hrun hit (by omega)) (OPX.ext hopx ef_145 ef_146 (aI_t hit htk0) (gI_a hit htk0 (by omega)) h_9.1 (argV_0 (by omega) (by omega)) h_9.2 (by decide)) (by omega)))
                      · have zc_144 : r_3.toInt ≥ 5 := i_nlt rfl rfl c_144
                        refine ww_aload_n C dX5_readSaying_83 5 rfl rfl ?_
                        refine ww_iload C dX5_readSaying_84 0 rfl ?_
                        refine ww_ci (wr := [(po, .inl (E.2.1 1, 32, .inl fo1)), (pa, .inl (E.2.1 1, 32, .inl fa1))]) (k' := 0) (n' := 0) C (run_V (As := [.int 0]) (rest := []) C (q_knowers0 X.2.1 E ro qs qt po pa pf pd (nI n1) (nI (tn1 + 1)) an wr pl tb tl ta2_117 tk2_118 ts2_119 fb (by omega) (by omega) (by omega) (by omega) (by omega) h_124) mi_X5_knowers wl_X5_100 rfl 0 5 rfl rfl rfl rfl rfl dX5_readSaying_86) (roK hro) [2, 3, 4] [0, 1] rfl rfl rfl rfl (fun r_157 uz hw => ?_)
                        refine an2 hw ?_
                        clear hw
                        intro he_159 he_160 hw
                        have h_158 := hw
                        clear hw
                        have he_159 := he_159.symm
                        subst he_159
                        subst he_160
                        refine ww_eq (ws' := [(po, .inl (E.2.1 1, 32, .inl fo1)), (pa, .inl (E.2.1 1, 32, .inl fa1)), (qs, .inr (5, [.ref qt, .ref po, .ref pa, .ref pf, .ref pd, .int (nI n1), .int (nI (tn1 + 1)), .int an, .int wr, .int pl])), (qt, .inr (10, [.ref tb, .int (nI tl), .int (nI ta2_117), .int (nI tk2_118), .int (nI ts2_119)])), (tb, .inl (E.2.1 0, 160, .inl fb))]) ?_ rfl rfl rfl
                        refine ww_istore (lv' := [(4, .int (nI (gT (cz fb tl) ts2_119 tk2_118 ta2_117))), (5, .int 0), (3, .int r_3), (2, .int (nI n1)), (1, .int (nI op1)), (0, .ref qs)]) C dX5_readSaying_89 rfl rfl ?_
                        have hga : gA (aT (cz fb tl) ts1 tk1 ta1) (gT (cz fb tl) ts2_119 tk2_118 ta2_117) = (gT (cz fb tl) ts2_119 tk2_118 ta2_117) := gA_0 (by omega)
                        refine ww_iload C dX5_readSaying_91 0 rfl ?_
                        refine ww_if_ne (tgt := 102) C dX5_readSaying_93 (by decide) (fun c_161 => ?_) (fun c_161 => ?_)
                        · have zc_161 : ((gT (cz fb tl) ts2_119 tk2_118 ta2_117 : Nat) : Int) ≠ 0 := i_ne (nI_toInt (n := gT (cz fb tl) ts2_119 tk2_118 ta2_117) (by omega)) rfl c_161
                          have hgn := hga
                          replace hgn : gA (aT (cz fb tl) ts1 tk1 ta1) (gT (cz fb tl) ts2_119 tk2_118 ta2_117) ≠ 0 := by rw [hga]; omega
                          refine ww_aload_n C dX5_readSaying_102 5 rfl rfl ?_
                          refine ww_ci (wr := [(po, .inl (E.2.1 1, 32, .inl fo1)), (pa, .inl (E.2.1 1, 32, .inl fa1))]) (k' := 0) (n' := 0) C (run_V (As := []) (rest := []) C (q_take X.2.1 E ro qs qt po pa pf pd (nI n1) (tn1 + 1) an wr pl tb tl ta2_117 tk2_118 ts2_119 fb (by omega) (by omega) (by omega) (by omega) (by omega) h_124 (by omega)) mi_X5_take wl_X5_97 rfl 0 5 rfl rfl rfl rfl rfl dX5_readSaying_103) (roK hro) [2, 3, 4] [0, 1] rfl rfl rfl rfl (fun r_162 uz hw => ?_)
                          rcases hw with hw | hw
                          · refine ex3 hw ?_
                            clear hw
                            intro ta2_163 tk2_164 ts2_165 hw
                            refine an8 hw ?_
                            clear hw
                            intro he_174 he_175 h_166 h_167 h_168 h_169 h_170 h_171 hw
                            refine an1 hw ?_
                            clear hw
                            intro h_172 hw
                            have h_173 := hw
                            clear hw
                            have he_174 := he_174.symm
                            subst he_174
                            subst he_175
                            refine ww_eq (ws' := [(po, .inl (E.2.1 1, 32, .inl fo1)), (pa, .inl (E.2.1 1, 32, .inl fa1)), (qs, .inr (5, [.ref qt, .ref po, .ref pa, .ref pf, .ref pd, .int (nI n1), .int (nI ((tn1 + 1) + 1)), .int an, .int wr, .int pl])), (qt, .inr (10, [.ref tb, .int (nI tl), .int (nI ta2_163), .int (nI tk2_164), .int (nI ts2_165)])), (tb, .inl (E.2.1 0, 160, .inl fb))]) ?_ rfl rfl rfl
                            refine ww_if_ne_t (tgt := 111) C dX5_readSaying_106 (by decide) (by decide) ?_
                            refine ww_aload_n C dX5_readSaying_111 5 rfl rfl ?_
                            refine ww_get C fg_X5_18 2 rfl rfl dX5_readSaying_112 ?_
                            refine ww_iload_n C dX5_readSaying_115 3 rfl rfl ?_
                            refine ww_iload_n C dX5_readSaying_116 2 rfl rfl ?_
                            obtain ⟨f_190, ef_190⟩ : ∃ z : Nat → Int32, upd fo1 n1 r_3 = z := ⟨_, rfl⟩
                            refine ww_iast (ws' := [(po, .inl (E.2.1 1, 32, .inl f_190)), (pa, .inl (E.2.1 1, 32, .inl fa1)), (qs, .inr (5, [.ref qt, .ref po, .ref pa, .ref pf, .ref pd, .int (nI n1), .int (nI ((tn1 + 1) + 1)), .int an, .int wr, .int pl])), (qt, .inr (10, [.ref tb, .int (nI tl), .int (nI ta2_163), .int (nI tk2_164), .int (nI ts2_165)])), (tb, .inl (E.2.1 0, 160, .inl fb))]) C 0 rfl (vp_in_nI (by omega) (by omega)) (ldn2 (by omega) ef_190) rfl dX5_readSaying_117 ?_
                            refine ww_aload_n C dX5_readSaying_118 5 rfl rfl ?_
                            refine ww_get C fg_X5_22 2 rfl rfl dX5_readSaying_119 ?_
                            refine ww_iload_n C dX5_readSaying_122 3 rfl rfl ?_
                            refine ww_iload C dX5_readSaying_123 0 rfl ?_
                            obtain ⟨f_191, ef_191⟩ : ∃ z : Nat → Int32, upd fa1 n1 (nI (gT (cz fb tl) ts2_119 tk2_118 ta2_117)) = z := ⟨_, rfl⟩
                            refine ww_iast (ws' := [(po, .inl (E.2.1 1, 32, .inl f_190)), (pa, .inl (E.2.1 1, 32, .inl f_191)), (qs, .inr (5, [.ref qt, .ref po, .ref pa, .ref pf, .ref pd, .int (nI n1), .int (nI ((tn1 + 1) + 1)), .int an, .int wr, .int pl])), (qt, .inr (10, [.ref tb, .int (nI tl), .int (nI ta2_163), .int (nI tk2_164), .int (nI ts2_165)])), (tb, .inl (E.2.1 0, 160, .inl fb))]) C 1 rfl (vp_in_nI (by omega) (by omega)) (ldn2 (by omega) ef_191) rfl dX5_readSaying_125 ?_
                            refine ww_aload_n C dX5_readSaying_126 5 rfl rfl ?_
                            refine ww_iload_n C dX5_readSaying_127 3 rfl rfl ?_
                            refine ww_iconst (v := 1) C dX5_readSaying_128 rfl ?_
                            refine ww_iadd (v := (nI (n1 + 1))) C dX5_readSaying_129 (nI_add n1 1) ?_
                            refine ww_put (ws' := [(po, .inl (E.2.1 1, 32, .inl f_190)), (pa, .inl (E.2.1 1, 32, .inl f_191)), (qs, .inr (5, [.ref qt, .ref po, .ref pa, .ref pf, .ref pd, .int (nI (n1 + 1)), .int (nI ((tn1 + 1) + 1)), .int an, .int wr, .int pl])), (qt, .inr (10, [.ref tb, .int (nI tl), .int (nI ta2_163), .int (nI tk2_164), .int (nI ts2_165)])), (tb, .inl (E.2.1 0, 160, .inl fb))]) C fp_X5_31 2 rfl rfl rfl rfl rfl dX5_readSaying_130 ?_
                            refine ww_iload_n C dX5_readSaying_133 4 rfl rfl ?_
                            refine ww_iload_n C dX5_readSaying_134 2 rfl rfl ?_
                            refine ww_ci (wr := [(po, .inl (E.2.1 1, 32, .inl f_190)), (pa, .inl (E.2.1 1, 32, .inl f_191)), (qs, .inr (5, [.ref qt, .ref po, .ref pa, .ref pf, .ref pd, .int (nI (n1 + 1)), .int (nI ((tn1 + 1) + 1)), .int an, .int wr, .int pl])), (qt, .inr (10, [.ref tb, .int (nI tl), .int (nI ta2_163), .int (nI tk2_164), .int (nI ts2_165)])), (tb, .inl (E.2.1 0, 160, .inl fb))]) (k' := 0) (n' := 0) C (run_SN (As := [.int r_3]) (rest := [.int (nI op1)]) C (c_under X.2.1 E ro r_3) ms_X11_under (List.mem_of_getElem? (i := 14) rfl) rfl rfl rfl rfl dX5_readSaying_135) (roK hro) [] [0, 1, 2, 3, 4] rfl rfl rfl rfl (fun r_192 uz hw => ?_)
                            rcases hw with hw | hw | hw
                            · refine an2 hw ?_
                              clear hw
                              intro he_194 he_195 hw
                              have h_193 := hw
                              clear hw
                              have he_194 := he_194.symm
                              subst he_194
                              subst he_195
                              refine ww_eq (ws' := [(po, .inl (E.2.1 1, 32, .inl f_190)), (pa, .inl (E.2.1 1, 32, .inl f_191)), (qs, .inr (5, [.ref qt, .ref po, .ref pa, .ref pf, .ref pd, .int (nI (n1 + 1)), .int (nI ((tn1 + 1) + 1)), .int an, .int wr, .int pl])), (qt, .inr (10, [.ref tb, .int (nI tl), .int (nI ta2_163), .int (nI tk2_164), .int (nI ts2_165)])), (tb, .inl (E.2.1 0, 160, .inl fb))]) ?_ rfl rfl rfl
                              have hun := uN_a0 (x := r_3) (by assumption)
                              have hov := OPV.ext hopv ef_190 (by omega) (by omega) (by omega)
                              have hov2 := hov.2
                              have hwt := wt_u (aT (cz fb tl) ts1 tk1 ta1) h_9.2
                              rw [← h_9.1] at hwt
                              refine ww_iconst (v := 1) C dX5_readSaying_138 rfl ?_
                              refine ww_isub (v := (-1)) C dX5_readSaying_139 (by decide) ?_
                              refine ww_iadd (v := (nI (op1 - 1))) C dX5_readSaying_140 (nI_subc (a := op1) (c := 1) (by omega) rfl) ?_
                              refine ww_istore_n (lv' := [(1, .int (nI (op1 - 1))), (4, .int (nI (gT (cz fb tl) ts2_119 tk2_118 ta2_117))), (5, .int 0), (3, .int r_3), (2, .int (nI n1)), (0, .ref qs)]) C dX5_readSaying_141 rfl rfl rfl ?_
                              refine ww_iinc (j := 4) (v := (nI (n1 + 1))) (lv' := [(2, .int (nI (n1 + 1))), (1, .int (nI (op1 - 1))), (4, .int (nI (gT (cz fb tl) ts2_119 tk2_118 ta2_117))), (5, .int 0), (3, .int r_3), (0, .ref qs)]) C dX5_readSaying_142 rfl (nI_add n1 1) rfl rfl ?_
                              refine ww_goto (tgt := 4) C dX5_readSaying_145 (by decide) ?_
                              exact ww_lv [0, 1, 5] rfl (ww_sub [2, 3, 4, 0, 1] rfl rfl (ih_4 (n1 + 1) (op1 - 1) ((tn1 + 1) + 1) ta2_163 tk2_164 ts2_165 ta2_117 f_190 f_191 (by omega) (by omega) (by omega) hov.1 (by omega) (by omega) (by omega) (by omega) (by omega) (by omega) h_170 h_171 ((it_s hit (by omega)).trans ((sg_b htk0 (by omega) (by omega) (by omega) h_125 h_126 hgn (by omega) h_171 h_172).trans (by first | rfl | (exfalso; omega)))) (RUN.ext hrun hit (by omega)) (OPX.ext hopx ef_190 ef_191 (aI_t hit htk0) ((gI_b hit htk0 (by omega) h_125).trans hga) h_9.1 (argV_g (by omega)) h_9.2 (by omega)) (by omega)))
                            · refine an2 hw ?_
                              clear hw
                              intro he_197 he_198 hw
                              have h_196 := hw
                              clear hw
                              have he_197 := he_197.symm
                              subst he_197
                              subst he_198
                              refine ww_eq (ws' := [(po, .inl (E.2.1 1, 32, .inl f_190)), (pa, .inl (E.2.1 1, 32, .inl f_191)), (qs, .inr (5, [.ref qt, .ref po, .ref pa, .ref pf, .ref pd, .int (nI (n1 + 1)), .int (nI ((tn1 + 1) + 1)), .int an, .int wr, .int pl])), (qt, .inr (10, [.ref tb, .int (nI tl), .int (nI ta2_163), .int (nI tk2_164), .int (nI ts2_165)])), (tb, .inl (E.2.1 0, 160, .inl fb))]) ?_ rfl rfl rfl
                              have hun := uN_a2 (x := r_3) (by assumption)
                              have hov := OPV.ext hopv ef_190 (by omega) (by omega) (by omega)
                              have hov2 := hov.2
                              have hwt := wt_u (aT (cz fb tl) ts1 tk1 ta1) h_9.2
                              rw [← h_9.1] at hwt
                              refine ww_iconst (v := 1) C dX5_readSaying_138 rfl ?_
                              refine ww_isub (v := 1) C dX5_readSaying_139 (by decide) ?_
                              refine ww_iadd (v := (nI (op1 + 1))) C dX5_readSaying_140 (nI_add op1 1) ?_
                              refine ww_istore_n (lv' := [(1, .int (nI (op1 + 1))), (4, .int (nI (gT (cz fb tl) ts2_119 tk2_118 ta2_117))), (5, .int 0), (3, .int r_3), (2, .int (nI n1)), (0, .ref qs)]) C dX5_readSaying_141 rfl rfl rfl ?_
                              refine ww_iinc (j := 4) (v := (nI (n1 + 1))) (lv' := [(2, .int (nI (n1 + 1))), (1, .int (nI (op1 + 1))), (4, .int (nI (gT (cz fb tl) ts2_119 tk2_118 ta2_117))), (5, .int 0), (3, .int r_3), (0, .ref qs)]) C dX5_readSaying_142 rfl (nI_add n1 1) rfl rfl ?_
                              refine ww_goto (tgt := 4) C dX5_readSaying_145 (by decide) ?_
                              exact ww_lv [0, 1, 5] rfl (ww_sub [2, 3, 4, 0, 1] rfl rfl (ih_4 (n1 + 1) (op1 + 1) ((tn1 + 1) + 1) ta2_163 tk2_164 ts2_165 ta2_117 f_190 f_191 (by omega) (by omega) (by omega) hov.1 (by omega) (by omega) (by omega) (by omega) (by omega) (by omega) h_170 h_171 ((it_s hit (by omega)).trans ((sg_b htk0 (by omega) (by omega) (by omega) h_125 h_126 hgn (by omega) h_171 h_172).trans (by first | rfl | (exfalso; omega)))) (RUN.ext hrun hit (by omega)) (OPX.ext hopx ef_190 ef_191 (aI_t hit htk0) ((gI_b hit htk0 (by omega) h_125).trans hga) h_9.1 (argV_g (by omega)) h_9.2 (by omega)) (by omega)))
                            · refine an2 hw ?_
                              clear hw
                              intro he_200 he_201 hw
                              have h_199 := hw
                              clear hw
                              have he_200 := he_200.symm
                              subst he_200
                              subst he_201
                              refine ww_eq (ws' := [(po, .inl (E.2.1 1, 32, .inl f_190)), (pa, .inl (E.2.1 1, 32, .inl f_191)), (qs, .inr (5, [.ref qt, .ref po, .ref pa, .ref pf, .ref pd, .int (nI (n1 + 1)), .int (nI ((tn1 + 1) + 1)), .int an, .int wr, .int pl])), (qt, .inr (10, [.ref tb, .int (nI tl), .int (nI ta2_163), .int (nI tk2_164), .int (nI ts2_165)])), (tb, .inl (E.2.1 0, 160, .inl fb))]) ?_ rfl rfl rfl
                              have hun := uN_a1 (x := r_3) (by assumption)
                              have hov := OPV.ext hopv ef_190 (by omega) (by omega) (by omega)
                              have hov2 := hov.2
                              have hwt := wt_u (aT (cz fb tl) ts1 tk1 ta1) h_9.2
                              rw [← h_9.1] at hwt
                              refine ww_iconst (v := 1) C dX5_readSaying_138 rfl ?_
                              refine ww_isub (v := 0) C dX5_readSaying_139 (by decide) ?_
                              refine ww_iadd (v := (nI op1)) C dX5_readSaying_140 (nI_add op1 0) ?_
                              refine ww_istore_n (lv' := [(1, .int (nI op1)), (4, .int (nI (gT (cz fb tl) ts2_119 tk2_118 ta2_117))), (5, .int 0), (3, .int r_3), (2, .int (nI n1)), (0, .ref qs)]) C dX5_readSaying_141 rfl rfl rfl ?_
                              refine ww_iinc (j := 4) (v := (nI (n1 + 1))) (lv' := [(2, .int (nI (n1 + 1))), (1, .int (nI op1)), (4, .int (nI (gT (cz fb tl) ts2_119 tk2_118 ta2_117))), (5, .int 0), (3, .int r_3), (0, .ref qs)]) C dX5_readSaying_142 rfl (nI_add n1 1) rfl rfl ?_
                              refine ww_goto (tgt := 4) C dX5_readSaying_145 (by decide) ?_
                              exact ww_lv [0, 1, 5] rfl (ww_sub [2, 3, 4, 0, 1] rfl rfl (ih_4 (n1 + 1) op1 ((tn1 + 1) + 1) ta2_163 tk2_164 ts2_165 ta2_117 f_190 f_191 (by omega) (by omega) (by omega) hov.1 (by omega) (by omega) (by omega) (by omega) (by omega) (by omega) h_170 h_171 ((it_s hit (by omega)).trans ((sg_b htk0 (by omega) (by omega) (by omega) h_125 h_126 hgn (by omega) h_171 h_172).trans (by first | rfl | (exfalso; omega)))) (RUN.ext hrun hit (by omega)) (OPX.ext hopx ef_190 ef_191 (aI_t hit htk0) ((gI_b hit htk0 (by omega) h_125).trans hga) h_9.1 (argV_g (by omega)) h_9.2 (by omega)) (by omega)))
                          · refine ex6 hw ?_
                            clear hw
                            intro ta2_176 tk2_177 ts2_178 tn2_179 wr2_180 pl2_181 hw
                            refine an7 hw ?_
                            clear hw
                            intro he_188 he_189 h_182 h_183 h_184 h_185 h_186 hw
                            have h_187 := hw
                            clear hw
                            have he_188 := he_188.symm
                            subst he_188
                            subst he_189
                            refine ww_eq (ws' := [(po, .inl (E.2.1 1, 32, .inl fo1)), (pa, .inl (E.2.1 1, 32, .inl fa1)), (qs, .inr (5, [.ref qt, .ref po, .ref pa, .ref pf, .ref pd, .int (nI n1), .int tn2_179, .int an, .int wr2_180, .int (nI pl2_181)])), (qt, .inr (10, [.ref tb, .int (nI tl), .int (nI ta2_176), .int (nI tk2_177), .int (nI ts2_178)])), (tb, .inl (E.2.1 0, 160, .inl fb))]) ?_ rfl rfl rfl
                            refine ww_if_ne_f (tgt := 111) C dX5_readSaying_106 (by decide) (rfl) ?_
                            refine ww_iconst (v := 0) C dX5_readSaying_109 rfl ?_
                            exact ww_zret (u := [(qs, .inr (5, [.ref qt, .ref po, .ref pa, .ref pf, .ref pd, .int (nI n1), .int tn2_179, .int an, .int wr2_180, .int (nI pl2_181)])), (qt, .inr (10, [.ref tb, .int (nI tl), .int (nI ta2_176), .int (nI tk2_177), .int (nI ts2_178)])), (tb, .inl (E.2.1 0, 160, .inl fb)), (po, .inl (E.2.1 1, 32, .inl fo1)), (pa, .inl (E.2.1 1, 32, .inl fa1))]) C hT [2, 3, 4, 0, 1] rfl rfl rfl rfl rfl dX5_readSaying_110 (Or.inr ⟨ta2_176, tk2_177, ts2_178, (nI n1), tn2_179, wr2_180, pl2_181, fo1, fa1, rfl, rfl, (by first | assumption | omega | decide), (by first | assumption | omega | decide), (by first | assumption | omega | decide), (by omega), h_186, (by rcases h_187 with ⟨h8, h9⟩ | ⟨h7, h8, h9⟩ <;> subst h9 <;> first | exact it_bad hit (by omega) (sg_f3 htk0 (by omega) (by omega) (by omega) h_125 h_126 (Or.inr h8)) (by omega) | exact it_bad hit (by omega) (sg_f4 htk0 (by omega) (by omega) (by omega) h_125 h_126 hgn h7 h8) (by omega))⟩)
                        · have zc_161 : ((gT (cz fb tl) ts2_119 tk2_118 ta2_117 : Nat) : Int) = 0 := i_eq (nI_toInt (n := gT (cz fb tl) ts2_119 tk2_118 ta2_117) (by omega)) rfl c_161
                          refine ww_aload_n C dX5_readSaying_96 5 rfl rfl ?_
                          refine ww_iconst (v := 2) C dX5_readSaying_97 rfl ?_
                          refine ww_ci (wr := [(po, .inl (E.2.1 1, 32, .inl fo1)), (pa, .inl (E.2.1 1, 32, .inl fa1)), (tb, .inl (E.2.1 0, 160, .inl fb))]) (k' := 0) (n' := 0) C (run_V (As := [.int 2]) (rest := []) C (q_fail X.2.1 E ro qs 2 qt po pa pf pd (nI n1) (nI (tn1 + 1)) an wr pl tb tl (nI ta2_117) tk2_118 ts2_119 (by omega)) mi_X5_fail wl_X5_63 rfl 0 5 rfl rfl rfl rfl rfl dX5_readSaying_98) (roK hro) [2, 3] [0, 1, 4] rfl rfl rfl rfl (fun r_202 uz hw => ?_)
                          refine an1 hw ?_
                          clear hw
                          intro he_203 hw
                          have he_204 := hw
                          clear hw
                          have he_203 := he_203.symm
                          subst he_203
                          subst he_204
                          refine ww_eq (ws' := [(po, .inl (E.2.1 1, 32, .inl fo1)), (pa, .inl (E.2.1 1, 32, .inl fa1)), (tb, .inl (E.2.1 0, 160, .inl fb)), (qs, .inr (5, [.ref qt, .ref po, .ref pa, .ref pf, .ref pd, .int (nI n1), .int (nI (tn1 + 1)), .int an, .int 2, .int (nI ts2_119)])), (qt, .inr (10, [.ref tb, .int (nI tl), .int (nI ta2_117), .int (nI tk2_118), .int (nI ts2_119)]))]) ?_ rfl rfl rfl
                          exact ww_zret (u := [(qs, .inr (5, [.ref qt, .ref po, .ref pa, .ref pf, .ref pd, .int (nI n1), .int (nI (tn1 + 1)), .int an, .int 2, .int (nI ts2_119)])), (qt, .inr (10, [.ref tb, .int (nI tl), .int (nI ta2_117), .int (nI tk2_118), .int (nI ts2_119)])), (tb, .inl (E.2.1 0, 160, .inl fb)), (po, .inl (E.2.1 1, 32, .inl fo1)), (pa, .inl (E.2.1 1, 32, .inl fa1))]) C hT [3, 4, 2, 0, 1] rfl rfl rfl rfl rfl dX5_readSaying_101 (Or.inr ⟨ta2_117, tk2_118, ts2_119, (nI n1), (nI (tn1 + 1)), 2, ts2_119, fo1, fa1, rfl, rfl, (by first | assumption | omega | decide), (by first | assumption | omega | decide), (by first | assumption | omega | decide), (by omega), h_124, (it_bad hit (by omega) (sg_f3 htk0 (by omega) (by omega) (by omega) h_125 h_126 (Or.inl (by rw [hga]; omega))) (by omega))⟩)
                    · refine ex6 hw ?_
                      clear hw
                      intro ta2_130 tk2_131 ts2_132 tn2_133 wr2_134 pl2_135 hw
                      refine an7 hw ?_
                      clear hw
                      intro he_142 he_143 h_136 h_137 h_138 h_139 h_140 hw
                      have h_141 := hw
                      clear hw
                      have he_142 := he_142.symm
                      subst he_142
                      subst he_143
                      refine ww_eq (ws' := [(po, .inl (E.2.1 1, 32, .inl fo1)), (pa, .inl (E.2.1 1, 32, .inl fa1)), (qs, .inr (5, [.ref qt, .ref po, .ref pa, .ref pf, .ref pd, .int (nI n1), .int tn2_133, .int an, .int wr2_134, .int (nI pl2_135)])), (qt, .inr (10, [.ref tb, .int (nI tl), .int (nI ta2_130), .int (nI tk2_131), .int (nI ts2_132)])), (tb, .inl (E.2.1 0, 160, .inl fb))]) ?_ rfl rfl rfl
                      refine ww_if_ne_f (tgt := 78) C dX5_readSaying_73 (by decide) (rfl) ?_
                      refine ww_iconst (v := 0) C dX5_readSaying_76 rfl ?_
                      exact ww_zret (u := [(qs, .inr (5, [.ref qt, .ref po, .ref pa, .ref pf, .ref pd, .int (nI n1), .int tn2_133, .int an, .int wr2_134, .int (nI pl2_135)])), (qt, .inr (10, [.ref tb, .int (nI tl), .int (nI ta2_130), .int (nI tk2_131), .int (nI ts2_132)])), (tb, .inl (E.2.1 0, 160, .inl fb)), (po, .inl (E.2.1 1, 32, .inl fo1)), (pa, .inl (E.2.1 1, 32, .inl fa1))]) C hT [2, 3, 4, 0, 1] rfl rfl rfl rfl rfl dX5_readSaying_77 (Or.inr ⟨ta2_130, tk2_131, ts2_132, (nI n1), tn2_133, wr2_134, pl2_135, fo1, fa1, rfl, rfl, (by first | assumption | omega | decide), (by first | assumption | omega | decide), (by first | assumption | omega | decide), (by omega), h_140, (by rcases h_141 with ⟨h8, h9⟩ | ⟨h7, h8, h9⟩ <;> subst h9 <;> first | exact it_bad hit (by omega) (sg_f1 htk0 (Or.inr h8)) (by omega) | exact it_bad hit (by omega) (sg_f2 htk0 (by omega) h7 h8) (by omega))⟩)
                  · have zc_115 : r_3.toInt = 5 := i_eq rfl rfl c_115
                    refine ww_iconst (v := 1) C dX5_readSaying_62 rfl ?_
                    refine ww_goto (tgt := 67) C dX5_readSaying_63 (by decide) ?_
                    refine ww_istore (lv' := [(5, .int 1), (4, .int 0), (3, .int r_3), (2, .int (nI n1)), (1, .int (nI op1)), (0, .ref qs)]) C dX5_readSaying_67 rfl rfl ?_
                    refine ww_aload_n C dX5_readSaying_69 5 rfl rfl ?_
                    refine ww_ci (wr := [(po, .inl (E.2.1 1, 32, .inl fo1)), (pa, .inl (E.2.1 1, 32, .inl fa1))]) (k' := 0) (n' := 0) C (run_V (As := []) (rest := []) C (q_take X.2.1 E ro qs qt po pa pf pd (nI n1) tn1 an wr pl tb tl ta1 tk1 ts1 fb (by omega) (by omega) (by omega) (by omega) (by omega) hfg1 (by omega)) mi_X5_take wl_X5_97 rfl 0 5 rfl rfl rfl rfl rfl dX5_readSaying_70) (roK hro) [2, 3, 4] [0, 1] rfl rfl rfl rfl (fun r_205 uz hw => ?_)
                    rcases hw with hw | hw
                    · refine ex3 hw ?_
                      clear hw
                      intro ta2_206 tk2_207 ts2_208 hw
                      refine an8 hw ?_
                      clear hw
                      intro he_217 he_218 h_209 h_210 h_211 h_212 h_213 h_214 hw
                      refine an1 hw ?_
                      clear hw
                      intro h_215 hw
                      have h_216 := hw
                      clear hw
                      have he_217 := he_217.symm
                      subst he_217
                      subst he_218
                      refine ww_eq (ws' := [(po, .inl (E.2.1 1, 32, .inl fo1)), (pa, .inl (E.2.1 1, 32, .inl fa1)), (qs, .inr (5, [.ref qt, .ref po, .ref pa, .ref pf, .ref pd, .int (nI n1), .int (nI (tn1 + 1)), .int an, .int wr, .int pl])), (qt, .inr (10, [.ref tb, .int (nI tl), .int (nI ta2_206), .int (nI tk2_207), .int (nI ts2_208)])), (tb, .inl (E.2.1 0, 160, .inl fb))]) ?_ rfl rfl rfl
                      refine ww_if_ne_t (tgt := 78) C dX5_readSaying_73 (by decide) (by decide) ?_
                      refine ww_iload_n C dX5_readSaying_78 2 rfl rfl ?_
                      refine ww_iconst (v := 5) C dX5_readSaying_79 rfl ?_
                      refine ww_icmp_lt (tgt := 111) C dX5_readSaying_80 (by decide) (fun c_233 => ?_) (fun c_233 => ?_)
                      · have zc_233 : r_3.toInt < 5 := i_lt rfl rfl c_233
                        omega
                      · have zc_233 : r_3.toInt ≥ 5 := i_nlt rfl rfl c_233
                        refine ww_aload_n C dX5_readSaying_83 5 rfl rfl ?_
                        refine ww_iload C dX5_readSaying_84 0 rfl ?_
                        refine ww_ci (wr := [(po, .inl (E.2.1 1, 32, .inl fo1)), (pa, .inl (E.2.1 1, 32, .inl fa1))]) (k' := 0) (n' := 0) C (run_V (As := [.int 1]) (rest := []) C (q_knowers1 X.2.1 E ro qs qt po pa pf pd (nI n1) (nI (tn1 + 1)) an wr pl tb tl ta2_206 tk2_207 ts2_208 fb (by omega) (by omega) (by omega) (by omega) (by omega) h_213) mi_X5_knowers wl_X5_100 rfl 0 5 rfl rfl rfl rfl rfl dX5_readSaying_86) (roK hro) [2, 3, 4] [0, 1] rfl rfl rfl rfl (fun r_234 uz hw => ?_)
                        refine an2 hw ?_
                        clear hw
                        intro he_236 he_237 hw
                        have h_235 := hw
                        clear hw
                        have he_236 := he_236.symm
                        subst he_236
                        subst he_237
                        refine ww_eq (ws' := [(po, .inl (E.2.1 1, 32, .inl fo1)), (pa, .inl (E.2.1 1, 32, .inl fa1)), (qs, .inr (5, [.ref qt, .ref po, .ref pa, .ref pf, .ref pd, .int (nI n1), .int (nI (tn1 + 1)), .int an, .int wr, .int pl])), (qt, .inr (10, [.ref tb, .int (nI tl), .int (nI ta2_206), .int (nI tk2_207), .int (nI ts2_208)])), (tb, .inl (E.2.1 0, 160, .inl fb))]) ?_ rfl rfl rfl
                        refine ww_istore (lv' := [(4, .int (nI (gO (gT (cz fb tl) ts2_208 tk2_207 ta2_206)))), (5, .int 1), (3, .int r_3), (2, .int (nI n1)), (1, .int (nI op1)), (0, .ref qs)]) C dX5_readSaying_89 rfl rfl ?_
                        have hga : gA (aT (cz fb tl) ts1 tk1 ta1) (gT (cz fb tl) ts2_208 tk2_207 ta2_206) = gO (gT (cz fb tl) ts2_208 tk2_207 ta2_206) := gA_1 (by omega)
                        refine ww_iload C dX5_readSaying_91 0 rfl ?_
                        refine ww_if_ne (tgt := 102) C dX5_readSaying_93 (by decide) (fun c_238 => ?_) (fun c_238 => ?_)
                        · have zc_238 : ((gO (gT (cz fb tl) ts2_208 tk2_207 ta2_206) : Nat) : Int) ≠ 0 := i_ne (nI_toInt (n := gO (gT (cz fb tl) ts2_208 tk2_207 ta2_206)) (by omega)) rfl c_238
                          have hgn := hga
                          replace hgn : gA (aT (cz fb tl) ts1 tk1 ta1) (gT (cz fb tl) ts2_208 tk2_207 ta2_206) ≠ 0 := by rw [hga]; omega
                          refine ww_aload_n C dX5_readSaying_102 5 rfl rfl ?_
                          refine ww_ci (wr := [(po, .inl (E.2.1 1, 32, .inl fo1)), (pa, .inl (E.2.1 1, 32, .inl fa1))]) (k' := 0) (n' := 0) C (run_V (As := []) (rest := []) C (q_take X.2.1 E ro qs qt po pa pf pd (nI n1) (tn1 + 1) an wr pl tb tl ta2_206 tk2_207 ts2_208 fb (by omega) (by omega) (by omega) (by omega) (by omega) h_213 (by omega)) mi_X5_take wl_X5_97 rfl 0 5 rfl rfl rfl rfl rfl dX5_readSaying_103) (roK hro) [2, 3, 4] [0, 1] rfl rfl rfl rfl (fun r_239 uz hw => ?_)
                          rcases hw with hw | hw
                          · refine ex3 hw ?_
                            clear hw
                            intro ta2_240 tk2_241 ts2_242 hw
                            refine an8 hw ?_
                            clear hw
                            intro he_251 he_252 h_243 h_244 h_245 h_246 h_247 h_248 hw
                            refine an1 hw ?_
                            clear hw
                            intro h_249 hw
                            have h_250 := hw
                            clear hw
                            have he_251 := he_251.symm
                            subst he_251
                            subst he_252
                            refine ww_eq (ws' := [(po, .inl (E.2.1 1, 32, .inl fo1)), (pa, .inl (E.2.1 1, 32, .inl fa1)), (qs, .inr (5, [.ref qt, .ref po, .ref pa, .ref pf, .ref pd, .int (nI n1), .int (nI ((tn1 + 1) + 1)), .int an, .int wr, .int pl])), (qt, .inr (10, [.ref tb, .int (nI tl), .int (nI ta2_240), .int (nI tk2_241), .int (nI ts2_242)])), (tb, .inl (E.2.1 0, 160, .inl fb))]) ?_ rfl rfl rfl
                            refine ww_if_ne_t (tgt := 111) C dX5_readSaying_106 (by decide) (by decide) ?_
                            refine ww_aload_n C dX5_readSaying_111 5 rfl rfl ?_
                            refine ww_get C fg_X5_18 2 rfl rfl dX5_readSaying_112 ?_
                            refine ww_iload_n C dX5_readSaying_115 3 rfl rfl ?_
                            refine ww_iload_n C dX5_readSaying_116 2 rfl rfl ?_
                            obtain ⟨f_267, ef_267⟩ : ∃ z : Nat → Int32, upd fo1 n1 r_3 = z := ⟨_, rfl⟩
                            refine ww_iast (ws' := [(po, .inl (E.2.1 1, 32, .inl f_267)), (pa, .inl (E.2.1 1, 32, .inl fa1)), (qs, .inr (5, [.ref qt, .ref po, .ref pa, .ref pf, .ref pd, .int (nI n1), .int (nI ((tn1 + 1) + 1)), .int an, .int wr, .int pl])), (qt, .inr (10, [.ref tb, .int (nI tl), .int (nI ta2_240), .int (nI tk2_241), .int (nI ts2_242)])), (tb, .inl (E.2.1 0, 160, .inl fb))]) C 0 rfl (vp_in_nI (by omega) (by omega)) (ldn2 (by omega) ef_267) rfl dX5_readSaying_117 ?_
                            refine ww_aload_n C dX5_readSaying_118 5 rfl rfl ?_
                            refine ww_get C fg_X5_22 2 rfl rfl dX5_readSaying_119 ?_
                            refine ww_iload_n C dX5_readSaying_122 3 rfl rfl ?_
                            refine ww_iload C dX5_readSaying_123 0 rfl ?_
                            obtain ⟨f_268, ef_268⟩ : ∃ z : Nat → Int32, upd fa1 n1 (nI (gO (gT (cz fb tl) ts2_208 tk2_207 ta2_206))) = z := ⟨_, rfl⟩
                            refine ww_iast (ws' := [(po, .inl (E.2.1 1, 32, .inl f_267)), (pa, .inl (E.2.1 1, 32, .inl f_268)), (qs, .inr (5, [.ref qt, .ref po, .ref pa, .ref pf, .ref pd, .int (nI n1), .int (nI ((tn1 + 1) + 1)), .int an, .int wr, .int pl])), (qt, .inr (10, [.ref tb, .int (nI tl), .int (nI ta2_240), .int (nI tk2_241), .int (nI ts2_242)])), (tb, .inl (E.2.1 0, 160, .inl fb))]) C 1 rfl (vp_in_nI (by omega) (by omega)) (ldn2 (by omega) ef_268) rfl dX5_readSaying_125 ?_
                            refine ww_aload_n C dX5_readSaying_126 5 rfl rfl ?_
                            refine ww_iload_n C dX5_readSaying_127 3 rfl rfl ?_
                            refine ww_iconst (v := 1) C dX5_readSaying_128 rfl ?_
                            refine ww_iadd (v := (nI (n1 + 1))) C dX5_readSaying_129 (nI_add n1 1) ?_
                            refine ww_put (ws' := [(po, .inl (E.2.1 1, 32, .inl f_267)), (pa, .inl (E.2.1 1, 32, .inl f_268)), (qs, .inr (5, [.ref qt, .ref po, .ref pa, .ref pf, .ref pd, .int (nI (n1 + 1)), .int (nI ((tn1 + 1) + 1)), .int an, .int wr, .int pl])), (qt, .inr (10, [.ref tb, .int (nI tl), .int (nI ta2_240), .int (nI tk2_241), .int (nI ts2_242)])), (tb, .inl (E.2.1 0, 160, .inl fb))]) C fp_X5_31 2 rfl rfl rfl rfl rfl dX5_readSaying_130 ?_
                            refine ww_iload_n C dX5_readSaying_133 4 rfl rfl ?_
                            refine ww_iload_n C dX5_readSaying_134 2 rfl rfl ?_
                            refine ww_ci (wr := [(po, .inl (E.2.1 1, 32, .inl f_267)), (pa, .inl (E.2.1 1, 32, .inl f_268)), (qs, .inr (5, [.ref qt, .ref po, .ref pa, .ref pf, .ref pd, .int (nI (n1 + 1)), .int (nI ((tn1 + 1) + 1)), .int an, .int wr, .int pl])), (qt, .inr (10, [.ref tb, .int (nI tl), .int (nI ta2_240), .int (nI tk2_241), .int (nI ts2_242)])), (tb, .inl (E.2.1 0, 160, .inl fb))]) (k' := 0) (n' := 0) C (run_SN (As := [.int r_3]) (rest := [.int (nI op1)]) C (c_under X.2.1 E ro r_3) ms_X11_under (List.mem_of_getElem? (i := 14) rfl) rfl rfl rfl rfl dX5_readSaying_135) (roK hro) [] [0, 1, 2, 3, 4] rfl rfl rfl rfl (fun r_269 uz hw => ?_)
                            rcases hw with hw | hw | hw
                            · refine an2 hw ?_
                              clear hw
                              intro he_271 he_272 hw
                              have h_270 := hw
                              clear hw
                              have he_271 := he_271.symm
                              subst he_271
                              subst he_272
                              refine ww_eq (ws' := [(po, .inl (E.2.1 1, 32, .inl f_267)), (pa, .inl (E.2.1 1, 32, .inl f_268)), (qs, .inr (5, [.ref qt, .ref po, .ref pa, .ref pf, .ref pd, .int (nI (n1 + 1)), .int (nI ((tn1 + 1) + 1)), .int an, .int wr, .int pl])), (qt, .inr (10, [.ref tb, .int (nI tl), .int (nI ta2_240), .int (nI tk2_241), .int (nI ts2_242)])), (tb, .inl (E.2.1 0, 160, .inl fb))]) ?_ rfl rfl rfl
                              have hun := uN_a0 (x := r_3) (by assumption)
                              have hov := OPV.ext hopv ef_267 (by omega) (by omega) (by omega)
                              have hov2 := hov.2
                              have hwt := wt_u (aT (cz fb tl) ts1 tk1 ta1) h_9.2
                              rw [← h_9.1] at hwt
                              refine ww_iconst (v := 1) C dX5_readSaying_138 rfl ?_
                              refine ww_isub (v := (-1)) C dX5_readSaying_139 (by decide) ?_
                              refine ww_iadd (v := (nI (op1 - 1))) C dX5_readSaying_140 (nI_subc (a := op1) (c := 1) (by omega) rfl) ?_
                              refine ww_istore_n (lv' := [(1, .int (nI (op1 - 1))), (4, .int (nI (gO (gT (cz fb tl) ts2_208 tk2_207 ta2_206)))), (5, .int 1), (3, .int r_3), (2, .int (nI n1)), (0, .ref qs)]) C dX5_readSaying_141 rfl rfl rfl ?_
                              refine ww_iinc (j := 4) (v := (nI (n1 + 1))) (lv' := [(2, .int (nI (n1 + 1))), (1, .int (nI (op1 - 1))), (4, .int (nI (gO (gT (cz fb tl) ts2_208 tk2_207 ta2_206)))), (5, .int 1), (3, .int r_3), (0, .ref qs)]) C dX5_readSaying_142 rfl (nI_add n1 1) rfl rfl ?_
                              refine ww_goto (tgt := 4) C dX5_readSaying_145 (by decide) ?_
                              exact ww_lv [0, 1, 5] rfl (ww_sub [2, 3, 4, 0, 1] rfl rfl (ih_4 (n1 + 1) (op1 - 1) ((tn1 + 1) + 1) ta2_240 tk2_241 ts2_242 ta2_206 f_267 f_268 (by omega) (by omega) (by omega) hov.1 (by omega) (by omega) (by omega) (by omega) (by omega) (by omega) h_247 h_248 ((it_s hit (by omega)).trans ((sg_b htk0 (by omega) (by omega) (by omega) h_214 h_215 hgn (by omega) h_248 h_249).trans (by first | rfl | (exfalso; omega)))) (RUN.ext hrun hit (by omega)) (OPX.ext hopx ef_267 ef_268 (aI_t hit htk0) ((gI_b hit htk0 (by omega) h_214).trans hga) h_9.1 (argV_g (by omega)) h_9.2 (by omega)) (by omega)))
                            · refine an2 hw ?_
                              clear hw
                              intro he_274 he_275 hw
                              have h_273 := hw
                              clear hw
                              have he_274 := he_274.symm
                              subst he_274
                              subst he_275
                              refine ww_eq (ws' := [(po, .inl (E.2.1 1, 32, .inl f_267)), (pa, .inl (E.2.1 1, 32, .inl f_268)), (qs, .inr (5, [.ref qt, .ref po, .ref pa, .ref pf, .ref pd, .int (nI (n1 + 1)), .int (nI ((tn1 + 1) + 1)), .int an, .int wr, .int pl])), (qt, .inr (10, [.ref tb, .int (nI tl), .int (nI ta2_240), .int (nI tk2_241), .int (nI ts2_242)])), (tb, .inl (E.2.1 0, 160, .inl fb))]) ?_ rfl rfl rfl
                              have hun := uN_a2 (x := r_3) (by assumption)
                              have hov := OPV.ext hopv ef_267 (by omega) (by omega) (by omega)
                              have hov2 := hov.2
                              have hwt := wt_u (aT (cz fb tl) ts1 tk1 ta1) h_9.2
                              rw [← h_9.1] at hwt
                              refine ww_iconst (v := 1) C dX5_readSaying_138 rfl ?_
                              refine ww_isub (v := 1) C dX5_readSaying_139 (by decide) ?_
                              refine ww_iadd (v := (nI (op1 + 1))) C dX5_readSaying_140 (nI_add op1 1) ?_
                              refine ww_istore_n (lv' := [(1, .int (nI (op1 + 1))), (4, .int (nI (gO (gT (cz fb tl) ts2_208 tk2_207 ta2_206)))), (5, .int 1), (3, .int r_3), (2, .int (nI n1)), (0, .ref qs)]) C dX5_readSaying_141 rfl rfl rfl ?_
                              refine ww_iinc (j := 4) (v := (nI (n1 + 1))) (lv' := [(2, .int (nI (n1 + 1))), (1, .int (nI (op1 + 1))), (4, .int (nI (gO (gT (cz fb tl) ts2_208 tk2_207 ta2_206)))), (5, .int 1), (3, .int r_3), (0, .ref qs)]) C dX5_readSaying_142 rfl (nI_add n1 1) rfl rfl ?_
                              refine ww_goto (tgt := 4) C dX5_readSaying_145 (by decide) ?_
                              exact ww_lv [0, 1, 5] rfl (ww_sub [2, 3, 4, 0, 1] rfl rfl (ih_4 (n1 + 1) (op1 + 1) ((tn1 + 1) + 1) ta2_240 tk2_241 ts2_242 ta2_206 f_267 f_268 (by omega) (by omega) (by omega) hov.1 (by omega) (by omega) (by omega) (by omega) (by omega) (by omega) h_247 h_248 ((it_s hit (by omega)).trans ((sg_b htk0 (by omega) (by omega) (by omega) h_214 h_215 hgn (by omega) h_248 h_249).trans (by first | rfl | (exfalso; omega)))) (RUN.ext hrun hit (by omega)) (OPX.ext hopx ef_267 ef_268 (aI_t hit htk0) ((gI_b hit htk0 (by omega) h_214).trans hga) h_9.1 (argV_g (by omega)) h_9.2 (by omega)) (by omega)))
                            · refine an2 hw ?_
                              clear hw
                              intro he_277 he_278 hw
                              have h_276 := hw
                              clear hw
                              have he_277 := he_277.symm
                              subst he_277
                              subst he_278
                              refine ww_eq (ws' := [(po, .inl (E.2.1 1, 32, .inl f_267)), (pa, .inl (E.2.1 1, 32, .inl f_268)), (qs, .inr (5, [.ref qt, .ref po, .ref pa, .ref pf, .ref pd, .int (nI (n1 + 1)), .int (nI ((tn1 + 1) + 1)), .int an, .int wr, .int pl])), (qt, .inr (10, [.ref tb, .int (nI tl), .int (nI ta2_240), .int (nI tk2_241), .int (nI ts2_242)])), (tb, .inl (E.2.1 0, 160, .inl fb))]) ?_ rfl rfl rfl
                              have hun := uN_a1 (x := r_3) (by assumption)
                              have hov := OPV.ext hopv ef_267 (by omega) (by omega) (by omega)
                              have hov2 := hov.2
                              have hwt := wt_u (aT (cz fb tl) ts1 tk1 ta1) h_9.2
                              rw [← h_9.1] at hwt
                              refine ww_iconst (v := 1) C dX5_readSaying_138 rfl ?_
                              refine ww_isub (v := 0) C dX5_readSaying_139 (by decide) ?_
                              refine ww_iadd (v := (nI op1)) C dX5_readSaying_140 (nI_add op1 0) ?_
                              refine ww_istore_n (lv' := [(1, .int (nI op1)), (4, .int (nI (gO (gT (cz fb tl) ts2_208 tk2_207 ta2_206)))), (5, .int 1), (3, .int r_3), (2, .int (nI n1)), (0, .ref qs)]) C dX5_readSaying_141 rfl rfl rfl ?_
                              refine ww_iinc (j := 4) (v := (nI (n1 + 1))) (lv' := [(2, .int (nI (n1 + 1))), (1, .int (nI op1)), (4, .int (nI (gO (gT (cz fb tl) ts2_208 tk2_207 ta2_206)))), (5, .int 1), (3, .int r_3), (0, .ref qs)]) C dX5_readSaying_142 rfl (nI_add n1 1) rfl rfl ?_
                              refine ww_goto (tgt := 4) C dX5_readSaying_145 (by decide) ?_
                              exact ww_lv [0, 1, 5] rfl (ww_sub [2, 3, 4, 0, 1] rfl rfl (ih_4 (n1 + 1) op1 ((tn1 + 1) + 1) ta2_240 tk2_241 ts2_242 ta2_206 f_267 f_268 (by omega) (by omega) (by omega) hov.1 (by omega) (by omega) (by omega) (by omega) (by omega) (by omega) h_247 h_248 ((it_s hit (by omega)).trans ((sg_b htk0 (by omega) (by omega) (by omega) h_214 h_215 hgn (by omega) h_248 h_249).trans (by first | rfl | (exfalso; omega)))) (RUN.ext hrun hit (by omega)) (OPX.ext hopx ef_267 ef_268 (aI_t hit htk0) ((gI_b hit htk0 (by omega) h_214).trans hga) h_9.1 (argV_g (by omega)) h_9.2 (by omega)) (by omega)))
                          · refine ex6 hw ?_
                            clear hw
                            intro ta2_253 tk2_254 ts2_255 tn2_256 wr2_257 pl2_258 hw
                            refine an7 hw ?_
                            clear hw
                            intro he_265 he_266 h_259 h_260 h_261 h_262 h_263 hw
                            have h_264 := hw
                            clear hw
                            have he_265 := he_265.symm
                            subst he_265
                            subst he_266
                            refine ww_eq (ws' := [(po, .inl (E.2.1 1, 32, .inl fo1)), (pa, .inl (E.2.1 1, 32, .inl fa1)), (qs, .inr (5, [.ref qt, .ref po, .ref pa, .ref pf, .ref pd, .int (nI n1), .int tn2_256, .int an, .int wr2_257, .int (nI pl2_258)])), (qt, .inr (10, [.ref tb, .int (nI tl), .int (nI ta2_253), .int (nI tk2_254), .int (nI ts2_255)])), (tb, .inl (E.2.1 0, 160, .inl fb))]) ?_ rfl rfl rfl
                            refine ww_if_ne_f (tgt := 111) C dX5_readSaying_106 (by decide) (rfl) ?_
                            refine ww_iconst (v := 0) C dX5_readSaying_109 rfl ?_
                            exact ww_zret (u := [(qs, .inr (5, [.ref qt, .ref po, .ref pa, .ref pf, .ref pd, .int (nI n1), .int tn2_256, .int an, .int wr2_257, .int (nI pl2_258)])), (qt, .inr (10, [.ref tb, .int (nI tl), .int (nI ta2_253), .int (nI tk2_254), .int (nI ts2_255)])), (tb, .inl (E.2.1 0, 160, .inl fb)), (po, .inl (E.2.1 1, 32, .inl fo1)), (pa, .inl (E.2.1 1, 32, .inl fa1))]) C hT [2, 3, 4, 0, 1] rfl rfl rfl rfl rfl dX5_readSaying_110 (Or.inr ⟨ta2_253, tk2_254, ts2_255, (nI n1), tn2_256, wr2_257, pl2_258, fo1, fa1, rfl, rfl, (by first | assumption | omega | decide), (by first | assumption | omega | decide), (by first | assumption | omega | decide), (by omega), h_263, (by rcases h_264 with ⟨h8, h9⟩ | ⟨h7, h8, h9⟩ <;> subst h9 <;> first | exact it_bad hit (by omega) (sg_f3 htk0 (by omega) (by omega) (by omega) h_214 h_215 (Or.inr h8)) (by omega) | exact it_bad hit (by omega) (sg_f4 htk0 (by omega) (by omega) (by omega) h_214 h_215 hgn h7 h8) (by omega))⟩)
                        · have zc_238 : ((gO (gT (cz fb tl) ts2_208 tk2_207 ta2_206) : Nat) : Int) = 0 := i_eq (nI_toInt (n := gO (gT (cz fb tl) ts2_208 tk2_207 ta2_206)) (by omega)) rfl c_238
                          refine ww_aload_n C dX5_readSaying_96 5 rfl rfl ?_
                          refine ww_iconst (v := 2) C dX5_readSaying_97 rfl ?_
                          refine ww_ci (wr := [(po, .inl (E.2.1 1, 32, .inl fo1)), (pa, .inl (E.2.1 1, 32, .inl fa1)), (tb, .inl (E.2.1 0, 160, .inl fb))]) (k' := 0) (n' := 0) C (run_V (As := [.int 2]) (rest := []) C (q_fail X.2.1 E ro qs 2 qt po pa pf pd (nI n1) (nI (tn1 + 1)) an wr pl tb tl (nI ta2_206) tk2_207 ts2_208 (by omega)) mi_X5_fail wl_X5_63 rfl 0 5 rfl rfl rfl rfl rfl dX5_readSaying_98) (roK hro) [2, 3] [0, 1, 4] rfl rfl rfl rfl (fun r_279 uz hw => ?_)
                          refine an1 hw ?_
                          clear hw
                          intro he_280 hw
                          have he_281 := hw
                          clear hw
                          have he_280 := he_280.symm
                          subst he_280
                          subst he_281
                          refine ww_eq (ws' := [(po, .inl (E.2.1 1, 32, .inl fo1)), (pa, .inl (E.2.1 1, 32, .inl fa1)), (tb, .inl (E.2.1 0, 160, .inl fb)), (qs, .inr (5, [.ref qt, .ref po, .ref pa, .ref pf, .ref pd, .int (nI n1), .int (nI (tn1 + 1)), .int an, .int 2, .int (nI ts2_208)])), (qt, .inr (10, [.ref tb, .int (nI tl), .int (nI ta2_206), .int (nI tk2_207), .int (nI ts2_208)]))]) ?_ rfl rfl rfl
                          exact ww_zret (u := [(qs, .inr (5, [.ref qt, .ref po, .ref pa, .ref pf, .ref pd, .int (nI n1), .int (nI (tn1 + 1)), .int an, .int 2, .int (nI ts2_208)])), (qt, .inr (10, [.ref tb, .int (nI tl), .int (nI ta2_206), .int (nI tk2_207), .int (nI ts2_208)])), (tb, .inl (E.2.1 0, 160, .inl fb)), (po, .inl (E.2.1 1, 32, .inl fo1)), (pa, .inl (E.2.1 1, 32, .inl fa1))]) C hT [3, 4, 2, 0, 1] rfl rfl rfl rfl rfl dX5_readSaying_101 (Or.inr ⟨ta2_206, tk2_207, ts2_208, (nI n1), (nI (tn1 + 1)), 2, ts2_208, fo1, fa1, rfl, rfl, (by first | assumption | omega | decide), (by first | assumption | omega | decide), (by first | assumption | omega | decide), (by omega), h_213, (it_bad hit (by omega) (sg_f3 htk0 (by omega) (by omega) (by omega) h_214 h_215 (Or.inl (by rw [hga]; omega))) (by omega))⟩)
                    · refine ex6 hw ?_
                      clear hw
                      intro ta2_219 tk2_220 ts2_221 tn2_222 wr2_223 pl2_224 hw
                      refine an7 hw ?_
                      clear hw
                      intro he_231 he_232 h_225 h_226 h_227 h_228 h_229 hw
                      have h_230 := hw
                      clear hw
                      have he_231 := he_231.symm
                      subst he_231
                      subst he_232
                      refine ww_eq (ws' := [(po, .inl (E.2.1 1, 32, .inl fo1)), (pa, .inl (E.2.1 1, 32, .inl fa1)), (qs, .inr (5, [.ref qt, .ref po, .ref pa, .ref pf, .ref pd, .int (nI n1), .int tn2_222, .int an, .int wr2_223, .int (nI pl2_224)])), (qt, .inr (10, [.ref tb, .int (nI tl), .int (nI ta2_219), .int (nI tk2_220), .int (nI ts2_221)])), (tb, .inl (E.2.1 0, 160, .inl fb))]) ?_ rfl rfl rfl
                      refine ww_if_ne_f (tgt := 78) C dX5_readSaying_73 (by decide) (rfl) ?_
                      refine ww_iconst (v := 0) C dX5_readSaying_76 rfl ?_
                      exact ww_zret (u := [(qs, .inr (5, [.ref qt, .ref po, .ref pa, .ref pf, .ref pd, .int (nI n1), .int tn2_222, .int an, .int wr2_223, .int (nI pl2_224)])), (qt, .inr (10, [.ref tb, .int (nI tl), .int (nI ta2_219), .int (nI tk2_220), .int (nI ts2_221)])), (tb, .inl (E.2.1 0, 160, .inl fb)), (po, .inl (E.2.1 1, 32, .inl fo1)), (pa, .inl (E.2.1 1, 32, .inl fa1))]) C hT [2, 3, 4, 0, 1] rfl rfl rfl rfl rfl dX5_readSaying_77 (Or.inr ⟨ta2_219, tk2_220, ts2_221, (nI n1), tn2_222, wr2_223, pl2_224, fo1, fa1, rfl, rfl, (by first | assumption | omega | decide), (by first | assumption | omega | decide), (by first | assumption | omega | decide), (by omega), h_229, (by rcases h_230 with ⟨h8, h9⟩ | ⟨h7, h8, h9⟩ <;> subst h9 <;> first | exact it_bad hit (by omega) (sg_f1 htk0 (Or.inr h8)) (by omega) | exact it_bad hit (by omega) (sg_f2 htk0 (by omega) h7 h8) (by omega))⟩)
              · have zc_16 : r_3.toInt = 0 := i_eq rfl rfl c_16
                refine ww_aload_n C dX5_readSaying_35 3 rfl rfl ?_
                refine ww_ci (wr := [(po, .inl (E.2.1 1, 32, .inl fo1)), (pa, .inl (E.2.1 1, 32, .inl fa1))]) (k' := 0) (n' := 0) C (run_V (As := []) (rest := []) C (q_factOfName X.2.1 E ro qs qt po pa pf pd (nI n1) (nI tn1) an wr pl tb tl ta1 tk1 ts1 fb (by omega) (by omega) (by omega) (by omega) (by omega) hfg1) mi_X5_factOfName wl_X5_92 rfl 0 5 rfl rfl rfl rfl rfl dX5_readSaying_36) (roK hro) [2, 3, 4] [0, 1] rfl rfl rfl rfl (fun r_282 uz hw => ?_)
                refine an1 hw ?_
                clear hw
                intro he_283 hw
                have he_284 := hw
                clear hw
                have he_283 := he_283.symm
                subst he_283
                subst he_284
                refine ww_eq (ws' := [(po, .inl (E.2.1 1, 32, .inl fo1)), (pa, .inl (E.2.1 1, 32, .inl fa1)), (qs, .inr (5, [.ref qt, .ref po, .ref pa, .ref pf, .ref pd, .int (nI n1), .int (nI tn1), .int an, .int wr, .int pl])), (qt, .inr (10, [.ref tb, .int (nI tl), .int (nI ta1), .int (nI tk1), .int (nI ts1)])), (tb, .inl (E.2.1 0, 160, .inl fb))]) ?_ rfl rfl rfl
                refine ww_goto (tgt := 43) C dX5_readSaying_39 (by decide) ?_
                refine ww_istore (lv' := [(4, .int (fv (aT (cz fb tl) ts1 tk1 ta1))), (3, .int r_3), (2, .int (nI n1)), (1, .int (nI op1)), (0, .ref qs)]) C dX5_readSaying_43 rfl rfl ?_
                refine ww_aload_n C dX5_readSaying_45 4 rfl rfl ?_
                refine ww_get C fg_X5_12 2 rfl rfl dX5_readSaying_46 ?_
                refine ww_ldcS (tx := "know") C (List.mem_of_getElem? (i := 9) rfl) rfl dX5_readSaying_49 ?_
                refine ww_ci (wr := [(po, .inl (E.2.1 1, 32, .inl fo1)), (pa, .inl (E.2.1 1, 32, .inl fa1)), (qs, .inr (5, [.ref qt, .ref po, .ref pa, .ref pf, .ref pd, .int (nI n1), .int (nI tn1), .int an, .int wr, .int pl]))]) (k' := 0) (n' := 0) C (run_V (As := [.ref (E.2.2 95)]) (rest := []) C (t_isName X.2.1 E ro qt tb tl ta1 tk1 ts1 fb 9 (by decide) (by omega) (by omega) (by omega) (by omega)) mi_X10_isName wl_X5_78 rfl 0 10 rfl rfl rfl rfl rfl dX5_readSaying_51) (roK hro) [3, 4] [0, 1, 2] rfl rfl rfl rfl (fun r_285 uz hw => ?_)
                rcases hw with hw | hw
                · refine an2 hw ?_
                  clear hw
                  intro he_287 he_288 hw
                  have h_286 := hw
                  clear hw
                  have he_287 := he_287.symm
                  subst he_287
                  subst he_288
                  refine ww_eq (ws' := [(po, .inl (E.2.1 1, 32, .inl fo1)), (pa, .inl (E.2.1 1, 32, .inl fa1)), (qs, .inr (5, [.ref qt, .ref po, .ref pa, .ref pf, .ref pd, .int (nI n1), .int (nI tn1), .int an, .int wr, .int pl])), (qt, .inr (10, [.ref tb, .int (nI tl), .int (nI ta1), .int (nI tk1), .int (nI ts1)])), (tb, .inl (E.2.1 0, 160, .inl fb))]) ?_ rfl rfl rfl
                  have hNk_292 := aT_of (show IN (cz fb tl) ts1 tk1 ta1 8 from h_286) (by decide)
                  refine ww_if_ne_t (tgt := 62) C dX5_readSaying_54 (by decide) (by decide) ?_
                  refine ww_iconst (v := 1) C dX5_readSaying_62 rfl ?_
                  refine ww_goto (tgt := 67) C dX5_readSaying_63 (by decide) ?_
                  refine ww_istore (lv' := [(5, .int 1), (4, .int (fv (aT (cz fb tl) ts1 tk1 ta1))), (3, .int r_3), (2, .int (nI n1)), (1, .int (nI op1)), (0, .ref qs)]) C dX5_readSaying_67 rfl rfl ?_
                  refine ww_aload_n C dX5_readSaying_69 5 rfl rfl ?_
                  refine ww_ci (wr := [(po, .inl (E.2.1 1, 32, .inl fo1)), (pa, .inl (E.2.1 1, 32, .inl fa1))]) (k' := 0) (n' := 0) C (run_V (As := []) (rest := []) C (q_take X.2.1 E ro qs qt po pa pf pd (nI n1) tn1 an wr pl tb tl ta1 tk1 ts1 fb (by omega) (by omega) (by omega) (by omega) (by omega) hfg1 (by omega)) mi_X5_take wl_X5_97 rfl 0 5 rfl rfl rfl rfl rfl dX5_readSaying_70) (roK hro) [2, 3, 4] [0, 1] rfl rfl rfl rfl (fun r_293 uz hw => ?_)
                  rcases hw with hw | hw
                  · refine ex3 hw ?_
                    clear hw
                    intro ta2_294 tk2_295 ts2_296 hw
                    refine an8 hw ?_
                    clear hw
                    intro he_305 he_306 h_297 h_298 h_299 h_300 h_301 h_302 hw
                    refine an1 hw ?_
                    clear hw
                    intro h_303 hw
                    have h_304 := hw
                    clear hw
                    have he_305 := he_305.symm
                    subst he_305
                    subst he_306
                    refine ww_eq (ws' := [(po, .inl (E.2.1 1, 32, .inl fo1)), (pa, .inl (E.2.1 1, 32, .inl fa1)), (qs, .inr (5, [.ref qt, .ref po, .ref pa, .ref pf, .ref pd, .int (nI n1), .int (nI (tn1 + 1)), .int an, .int wr, .int pl])), (qt, .inr (10, [.ref tb, .int (nI tl), .int (nI ta2_294), .int (nI tk2_295), .int (nI ts2_296)])), (tb, .inl (E.2.1 0, 160, .inl fb))]) ?_ rfl rfl rfl
                    refine ww_if_ne_t (tgt := 78) C dX5_readSaying_73 (by decide) (by decide) ?_
                    refine ww_iload_n C dX5_readSaying_78 2 rfl rfl ?_
                    refine ww_iconst (v := 5) C dX5_readSaying_79 rfl ?_
                    refine ww_icmp_lt (tgt := 111) C dX5_readSaying_80 (by decide) (fun c_321 => ?_) (fun c_321 => ?_)
                    · have zc_321 : r_3.toInt < 5 := i_lt rfl rfl c_321
                      refine ww_aload_n C dX5_readSaying_111 5 rfl rfl ?_
                      refine ww_get C fg_X5_18 2 rfl rfl dX5_readSaying_112 ?_
                      refine ww_iload_n C dX5_readSaying_115 3 rfl rfl ?_
                      refine ww_iload_n C dX5_readSaying_116 2 rfl rfl ?_
                      obtain ⟨f_322, ef_322⟩ : ∃ z : Nat → Int32, upd fo1 n1 r_3 = z := ⟨_, rfl⟩
                      refine ww_iast (ws' := [(po, .inl (E.2.1 1, 32, .inl f_322)), (pa, .inl (E.2.1 1, 32, .inl fa1)), (qs, .inr (5, [.ref qt, .ref po, .ref pa, .ref pf, .ref pd, .int (nI n1), .int (nI (tn1 + 1)), .int an, .int wr, .int pl])), (qt, .inr (10, [.ref tb, .int (nI tl), .int (nI ta2_294), .int (nI tk2_295), .int (nI ts2_296)])), (tb, .inl (E.2.1 0, 160, .inl fb))]) C 0 rfl (vp_in_nI (by omega) (by omega)) (ldn2 (by omega) ef_322) rfl dX5_readSaying_117 ?_
                      refine ww_aload_n C dX5_readSaying_118 5 rfl rfl ?_
                      refine ww_get C fg_X5_22 2 rfl rfl dX5_readSaying_119 ?_
                      refine ww_iload_n C dX5_readSaying_122 3 rfl rfl ?_
                      refine ww_iload C dX5_readSaying_123 1 rfl ?_
                      obtain ⟨f_323, ef_323⟩ : ∃ z : Nat → Int32, upd fa1 n1 (fv (aT (cz fb tl) ts1 tk1 ta1)) = z := ⟨_, rfl⟩
                      refine ww_iast (ws' := [(po, .inl (E.2.1 1, 32, .inl f_322)), (pa, .inl (E.2.1 1, 32, .inl f_323)), (qs, .inr (5, [.ref qt, .ref po, .ref pa, .ref pf, .ref pd, .int (nI n1), .int (nI (tn1 + 1)), .int an, .int wr, .int pl])), (qt, .inr (10, [.ref tb, .int (nI tl), .int (nI ta2_294), .int (nI tk2_295), .int (nI ts2_296)])), (tb, .inl (E.2.1 0, 160, .inl fb))]) C 1 rfl (vp_in_nI (by omega) (by omega)) (ldn2 (by omega) ef_323) rfl dX5_readSaying_125 ?_
                      refine ww_aload_n C dX5_readSaying_126 5 rfl rfl ?_
                      refine ww_iload_n C dX5_readSaying_127 3 rfl rfl ?_
                      refine ww_iconst (v := 1) C dX5_readSaying_128 rfl ?_
                      refine ww_iadd (v := (nI (n1 + 1))) C dX5_readSaying_129 (nI_add n1 1) ?_
                      refine ww_put (ws' := [(po, .inl (E.2.1 1, 32, .inl f_322)), (pa, .inl (E.2.1 1, 32, .inl f_323)), (qs, .inr (5, [.ref qt, .ref po, .ref pa, .ref pf, .ref pd, .int (nI (n1 + 1)), .int (nI (tn1 + 1)), .int an, .int wr, .int pl])), (qt, .inr (10, [.ref tb, .int (nI tl), .int (nI ta2_294), .int (nI tk2_295), .int (nI ts2_296)])), (tb, .inl (E.2.1 0, 160, .inl fb))]) C fp_X5_31 2 rfl rfl rfl rfl rfl dX5_readSaying_130 ?_
                      refine ww_iload_n C dX5_readSaying_133 4 rfl rfl ?_
                      refine ww_iload_n C dX5_readSaying_134 2 rfl rfl ?_
                      refine ww_ci (wr := [(po, .inl (E.2.1 1, 32, .inl f_322)), (pa, .inl (E.2.1 1, 32, .inl f_323)), (qs, .inr (5, [.ref qt, .ref po, .ref pa, .ref pf, .ref pd, .int (nI (n1 + 1)), .int (nI (tn1 + 1)), .int an, .int wr, .int pl])), (qt, .inr (10, [.ref tb, .int (nI tl), .int (nI ta2_294), .int (nI tk2_295), .int (nI ts2_296)])), (tb, .inl (E.2.1 0, 160, .inl fb))]) (k' := 0) (n' := 0) C (run_SN (As := [.int r_3]) (rest := [.int (nI op1)]) C (c_under X.2.1 E ro r_3) ms_X11_under (List.mem_of_getElem? (i := 14) rfl) rfl rfl rfl rfl dX5_readSaying_135) (roK hro) [] [0, 1, 2, 3, 4] rfl rfl rfl rfl (fun r_324 uz hw => ?_)
                      rcases hw with hw | hw | hw
                      · refine an2 hw ?_
                        clear hw
                        intro he_326 he_327 hw
                        have h_325 := hw
                        clear hw
                        have he_326 := he_326.symm
                        subst he_326
                        subst he_327
                        refine ww_eq (ws' := [(po, .inl (E.2.1 1, 32, .inl f_322)), (pa, .inl (E.2.1 1, 32, .inl f_323)), (qs, .inr (5, [.ref qt, .ref po, .ref pa, .ref pf, .ref pd, .int (nI (n1 + 1)), .int (nI (tn1 + 1)), .int an, .int wr, .int pl])), (qt, .inr (10, [.ref tb, .int (nI tl), .int (nI ta2_294), .int (nI tk2_295), .int (nI ts2_296)])), (tb, .inl (E.2.1 0, 160, .inl fb))]) ?_ rfl rfl rfl
                        have hun := uN_a0 (x := r_3) (by assumption)
                        have hov := OPV.ext hopv ef_322 (by omega) (by omega) (by omega)
                        have hov2 := hov.2
                        have hwt := wt_u (aT (cz fb tl) ts1 tk1 ta1) h_9.2
                        rw [← h_9.1] at hwt
                        refine ww_iconst (v := 1) C dX5_readSaying_138 rfl ?_
                        refine ww_isub (v := (-1)) C dX5_readSaying_139 (by decide) ?_
                        refine ww_iadd (v := (nI (op1 - 1))) C dX5_readSaying_140 (nI_subc (a := op1) (c := 1) (by omega) rfl) ?_
                        refine ww_istore_n (lv' := [(1, .int (nI (op1 - 1))), (5, .int 1), (4, .int (fv (aT (cz fb tl) ts1 tk1 ta1))), (3, .int r_3), (2, .int (nI n1)), (0, .ref qs)]) C dX5_readSaying_141 rfl rfl rfl ?_
                        refine ww_iinc (j := 4) (v := (nI (n1 + 1))) (lv' := [(2, .int (nI (n1 + 1))), (1, .int (nI (op1 - 1))), (5, .int 1), (4, .int (fv (aT (cz fb tl) ts1 tk1 ta1))), (3, .int r_3), (0, .ref qs)]) C dX5_readSaying_142 rfl (nI_add n1 1) rfl rfl ?_
                        refine ww_goto (tgt := 4) C dX5_readSaying_145 (by decide) ?_
                        exact ww_lv [0, 1, 5] rfl (ww_sub [2, 3, 4, 0, 1] rfl rfl (ih_4 (n1 + 1) (op1 - 1) (tn1 + 1) ta2_294 tk2_295 ts2_296 ta1 f_322 f_323 (by omega) (by omega) (by omega) hov.1 (by omega) (by omega) (by omega) (by omega) (by omega) (by omega) h_301 h_302 ((it_s hit (by omega)).trans (sg_a htk0 (by omega) (by omega) h_302 h_303 (by omega))) (RUN.ext hrun hit (by omega)) (OPX.ext hopx ef_322 ef_323 (aI_t hit htk0) (gI_a hit htk0 (by omega)) h_9.1 (argV_f (by omega)) h_9.2 (by decide)) (by omega)))
                      · refine an2 hw ?_
                        clear hw
                        intro he_329 he_330 hw
                        have h_328 := hw
                        clear hw
                        have he_329 := he_329.symm
                        subst he_329
                        subst he_330
                        refine ww_eq (ws' := [(po, .inl (E.2.1 1, 32, .inl f_322)), (pa, .inl (E.2.1 1, 32, .inl f_323)), (qs, .inr (5, [.ref qt, .ref po, .ref pa, .ref pf, .ref pd, .int (nI (n1 + 1)), .int (nI (tn1 + 1)), .int an, .int wr, .int pl])), (qt, .inr (10, [.ref tb, .int (nI tl), .int (nI ta2_294), .int (nI tk2_295), .int (nI ts2_296)])), (tb, .inl (E.2.1 0, 160, .inl fb))]) ?_ rfl rfl rfl
                        have hun := uN_a2 (x := r_3) (by assumption)
                        have hov := OPV.ext hopv ef_322 (by omega) (by omega) (by omega)
                        have hov2 := hov.2
                        have hwt := wt_u (aT (cz fb tl) ts1 tk1 ta1) h_9.2
                        rw [← h_9.1] at hwt
                        refine ww_iconst (v := 1) C dX5_readSaying_138 rfl ?_
                        refine ww_isub (v := 1) C dX5_readSaying_139 (by decide) ?_
                        refine ww_iadd (v := (nI (op1 + 1))) C dX5_readSaying_140 (nI_add op1 1) ?_
                        refine ww_istore_n (lv' := [(1, .int (nI (op1 + 1))), (5, .int 1), (4, .int (fv (aT (cz fb tl) ts1 tk1 ta1))), (3, .int r_3), (2, .int (nI n1)), (0, .ref qs)]) C dX5_readSaying_141 rfl rfl rfl ?_
                        refine ww_iinc (j := 4) (v := (nI (n1 + 1))) (lv' := [(2, .int (nI (n1 + 1))), (1, .int (nI (op1 + 1))), (5, .int 1), (4, .int (fv (aT (cz fb tl) ts1 tk1 ta1))), (3, .int r_3), (0, .ref qs)]) C dX5_readSaying_142 rfl (nI_add n1 1) rfl rfl ?_
                        refine ww_goto (tgt := 4) C dX5_readSaying_145 (by decide) ?_
                        exact ww_lv [0, 1, 5] rfl (ww_sub [2, 3, 4, 0, 1] rfl rfl (ih_4 (n1 + 1) (op1 + 1) (tn1 + 1) ta2_294 tk2_295 ts2_296 ta1 f_322 f_323 (by omega) (by omega) (by omega) hov.1 (by omega) (by omega) (by omega) (by omega) (by omega) (by omega) h_301 h_302 ((it_s hit (by omega)).trans (sg_a htk0 (by omega) (by omega) h_302 h_303 (by omega))) (RUN.ext hrun hit (by omega)) (OPX.ext hopx ef_322 ef_323 (aI_t hit htk0) (gI_a hit htk0 (by omega)) h_9.1 (argV_f (by omega)) h_9.2 (by decide)) (by omega)))
                      · refine an2 hw ?_
                        clear hw
                        intro he_332 he_333 hw
                        have h_331 := hw
                        clear hw
                        have he_332 := he_332.symm
                        subst he_332
                        subst he_333
                        refine ww_eq (ws' := [(po, .inl (E.2.1 1, 32, .inl f_322)), (pa, .inl (E.2.1 1, 32, .inl f_323)), (qs, .inr (5, [.ref qt, .ref po, .ref pa, .ref pf, .ref pd, .int (nI (n1 + 1)), .int (nI (tn1 + 1)), .int an, .int wr, .int pl])), (qt, .inr (10, [.ref tb, .int (nI tl), .int (nI ta2_294), .int (nI tk2_295), .int (nI ts2_296)])), (tb, .inl (E.2.1 0, 160, .inl fb))]) ?_ rfl rfl rfl
                        have hun := uN_a1 (x := r_3) (by assumption)
                        have hov := OPV.ext hopv ef_322 (by omega) (by omega) (by omega)
                        have hov2 := hov.2
                        have hwt := wt_u (aT (cz fb tl) ts1 tk1 ta1) h_9.2
                        rw [← h_9.1] at hwt
                        refine ww_iconst (v := 1) C dX5_readSaying_138 rfl ?_
                        refine ww_isub (v := 0) C dX5_readSaying_139 (by decide) ?_
                        refine ww_iadd (v := (nI op1)) C dX5_readSaying_140 (nI_add op1 0) ?_
                        refine ww_istore_n (lv' := [(1, .int (nI op1)), (5, .int 1), (4, .int (fv (aT (cz fb tl) ts1 tk1 ta1))), (3, .int r_3), (2, .int (nI n1)), (0, .ref qs)]) C dX5_readSaying_141 rfl rfl rfl ?_
                        refine ww_iinc (j := 4) (v := (nI (n1 + 1))) (lv' := [(2, .int (nI (n1 + 1))), (1, .int (nI op1)), (5, .int 1), (4, .int (fv (aT (cz fb tl) ts1 tk1 ta1))), (3, .int r_3), (0, .ref qs)]) C dX5_readSaying_142 rfl (nI_add n1 1) rfl rfl ?_
                        refine ww_goto (tgt := 4) C dX5_readSaying_145 (by decide) ?_
                        exact ww_lv [0, 1, 5] rfl (ww_sub [2, 3, 4, 0, 1] rfl rfl (ih_4 (n1 + 1) op1 (tn1 + 1) ta2_294 tk2_295 ts2_296 ta1 f_322 f_323 (by omega) (by omega) (by omega) hov.1 (by omega) (by omega) (by omega) (by omega) (by omega) (by omega) h_301 h_302 ((it_s hit (by omega)).trans (sg_a htk0 (by omega) (by omega) h_302 h_303 (by omega))) (RUN.ext hrun hit (by omega)) (OPX.ext hopx ef_322 ef_323 (aI_t hit htk0) (gI_a hit htk0 (by omega)) h_9.1 (argV_f (by omega)) h_9.2 (by decide)) (by omega)))
                    · have zc_321 : r_3.toInt ≥ 5 := i_nlt rfl rfl c_321
                      omega
                  · refine ex6 hw ?_
                    clear hw
                    intro ta2_307 tk2_308 ts2_309 tn2_310 wr2_311 pl2_312 hw
                    refine an7 hw ?_
                    clear hw
                    intro he_319 he_320 h_313 h_314 h_315 h_316 h_317 hw
                    have h_318 := hw
                    clear hw
                    have he_319 := he_319.symm
                    subst he_319
                    subst he_320
                    refine ww_eq (ws' := [(po, .inl (E.2.1 1, 32, .inl fo1)), (pa, .inl (E.2.1 1, 32, .inl fa1)), (qs, .inr (5, [.ref qt, .ref po, .ref pa, .ref pf, .ref pd, .int (nI n1), .int tn2_310, .int an, .int wr2_311, .int (nI pl2_312)])), (qt, .inr (10, [.ref tb, .int (nI tl), .int (nI ta2_307), .int (nI tk2_308), .int (nI ts2_309)])), (tb, .inl (E.2.1 0, 160, .inl fb))]) ?_ rfl rfl rfl
                    refine ww_if_ne_f (tgt := 78) C dX5_readSaying_73 (by decide) (rfl) ?_
                    refine ww_iconst (v := 0) C dX5_readSaying_76 rfl ?_
                    exact ww_zret (u := [(qs, .inr (5, [.ref qt, .ref po, .ref pa, .ref pf, .ref pd, .int (nI n1), .int tn2_310, .int an, .int wr2_311, .int (nI pl2_312)])), (qt, .inr (10, [.ref tb, .int (nI tl), .int (nI ta2_307), .int (nI tk2_308), .int (nI ts2_309)])), (tb, .inl (E.2.1 0, 160, .inl fb)), (po, .inl (E.2.1 1, 32, .inl fo1)), (pa, .inl (E.2.1 1, 32, .inl fa1))]) C hT [2, 3, 4, 0, 1] rfl rfl rfl rfl rfl dX5_readSaying_77 (Or.inr ⟨ta2_307, tk2_308, ts2_309, (nI n1), tn2_310, wr2_311, pl2_312, fo1, fa1, rfl, rfl, (by first | assumption | omega | decide), (by first | assumption | omega | decide), (by first | assumption | omega | decide), (by omega), h_317, (by rcases h_318 with ⟨h8, h9⟩ | ⟨h7, h8, h9⟩ <;> subst h9 <;> first | exact it_bad hit (by omega) (sg_f1 htk0 (Or.inr h8)) (by omega) | exact it_bad hit (by omega) (sg_f2 htk0 (by omega) h7 h8) (by omega))⟩)
                · refine an2 hw ?_
                  clear hw
                  intro he_290 he_291 hw
                  have h_289 := hw
                  clear hw
                  have he_290 := he_290.symm
                  subst he_290
                  subst he_291
                  refine ww_eq (ws' := [(po, .inl (E.2.1 1, 32, .inl fo1)), (pa, .inl (E.2.1 1, 32, .inl fa1)), (qs, .inr (5, [.ref qt, .ref po, .ref pa, .ref pf, .ref pd, .int (nI n1), .int (nI tn1), .int an, .int wr, .int pl])), (qt, .inr (10, [.ref tb, .int (nI tl), .int (nI ta1), .int (nI tk1), .int (nI ts1)])), (tb, .inl (E.2.1 0, 160, .inl fb))]) ?_ rfl rfl rfl
                  have hNk_334 := aT_nn (show ¬ IN (cz fb tl) ts1 tk1 ta1 8 from h_289) (by decide)
                  refine ww_if_ne_f (tgt := 62) C dX5_readSaying_54 (by decide) (rfl) ?_
                  refine ww_iload_n C dX5_readSaying_57 1 rfl rfl ?_
                  refine ww_iconst (v := 5) C dX5_readSaying_58 rfl ?_
                  refine ww_icmp_ne (tgt := 66) C dX5_readSaying_59 (by decide) (fun c_335 => ?_) (fun c_335 => ?_)
                  · have zc_335 : r_3.toInt ≠ 5 := i_ne rfl rfl c_335
                    refine ww_iconst (v := 0) C dX5_readSaying_66 rfl ?_
                    refine ww_istore (lv' := [(5, .int 0), (4, .int (fv (aT (cz fb tl) ts1 tk1 ta1))), (3, .int r_3), (2, .int (nI n1)), (1, .int (nI op1)), (0, .ref qs)]) C dX5_readSaying_67 rfl rfl ?_
                    refine ww_aload_n C dX5_readSaying_69 5 rfl rfl ?_
                    refine ww_ci (wr := [(po, .inl (E.2.1 1, 32, .inl fo1)), (pa, .inl (E.2.1 1, 32, .inl fa1))]) (k' := 0) (n' := 0) C (run_V (As := []) (rest := []) C (q_take X.2.1 E ro qs qt po pa pf pd (nI n1) tn1 an wr pl tb tl ta1 tk1 ts1 fb (by omega) (by omega) (by omega) (by omega) (by omega) hfg1 (by omega)) mi_X5_take wl_X5_97 rfl 0 5 rfl rfl rfl rfl rfl dX5_readSaying_70) (roK hro) [2, 3, 4] [0, 1] rfl rfl rfl rfl (fun r_336 uz hw => ?_)
                    rcases hw with hw | hw
                    · refine ex3 hw ?_
                      clear hw
                      intro ta2_337 tk2_338 ts2_339 hw
                      refine an8 hw ?_
                      clear hw
                      intro he_348 he_349 h_340 h_341 h_342 h_343 h_344 h_345 hw
                      refine an1 hw ?_
                      clear hw
                      intro h_346 hw
                      have h_347 := hw
                      clear hw
                      have he_348 := he_348.symm
                      subst he_348
                      subst he_349
                      refine ww_eq (ws' := [(po, .inl (E.2.1 1, 32, .inl fo1)), (pa, .inl (E.2.1 1, 32, .inl fa1)), (qs, .inr (5, [.ref qt, .ref po, .ref pa, .ref pf, .ref pd, .int (nI n1), .int (nI (tn1 + 1)), .int an, .int wr, .int pl])), (qt, .inr (10, [.ref tb, .int (nI tl), .int (nI ta2_337), .int (nI tk2_338), .int (nI ts2_339)])), (tb, .inl (E.2.1 0, 160, .inl fb))]) ?_ rfl rfl rfl
                      refine ww_if_ne_t (tgt := 78) C dX5_readSaying_73 (by decide) (by decide) ?_
                      refine ww_iload_n C dX5_readSaying_78 2 rfl rfl ?_
                      refine ww_iconst (v := 5) C dX5_readSaying_79 rfl ?_
                      refine ww_icmp_lt (tgt := 111) C dX5_readSaying_80 (by decide) (fun c_364 => ?_) (fun c_364 => ?_)
                      · have zc_364 : r_3.toInt < 5 := i_lt rfl rfl c_364
                        refine ww_aload_n C dX5_readSaying_111 5 rfl rfl ?_
                        refine ww_get C fg_X5_18 2 rfl rfl dX5_readSaying_112 ?_
                        refine ww_iload_n C dX5_readSaying_115 3 rfl rfl ?_
                        refine ww_iload_n C dX5_readSaying_116 2 rfl rfl ?_
                        obtain ⟨f_365, ef_365⟩ : ∃ z : Nat → Int32, upd fo1 n1 r_3 = z := ⟨_, rfl⟩
                        refine ww_iast (ws' := [(po, .inl (E.2.1 1, 32, .inl f_365)), (pa, .inl (E.2.1 1, 32, .inl fa1)), (qs, .inr (5, [.ref qt, .ref po, .ref pa, .ref pf, .ref pd, .int (nI n1), .int (nI (tn1 + 1)), .int an, .int wr, .int pl])), (qt, .inr (10, [.ref tb, .int (nI tl), .int (nI ta2_337), .int (nI tk2_338), .int (nI ts2_339)])), (tb, .inl (E.2.1 0, 160, .inl fb))]) C 0 rfl (vp_in_nI (by omega) (by omega)) (ldn2 (by omega) ef_365) rfl dX5_readSaying_117 ?_
                        refine ww_aload_n C dX5_readSaying_118 5 rfl rfl ?_
                        refine ww_get C fg_X5_22 2 rfl rfl dX5_readSaying_119 ?_
                        refine ww_iload_n C dX5_readSaying_122 3 rfl rfl ?_
                        refine ww_iload C dX5_readSaying_123 1 rfl ?_
                        obtain ⟨f_366, ef_366⟩ : ∃ z : Nat → Int32, upd fa1 n1 (fv (aT (cz fb tl) ts1 tk1 ta1)) = z := ⟨_, rfl⟩
                        refine ww_iast (ws' := [(po, .inl (E.2.1 1, 32, .inl f_365)), (pa, .inl (E.2.1 1, 32, .inl f_366)), (qs, .inr (5, [.ref qt, .ref po, .ref pa, .ref pf, .ref pd, .int (nI n1), .int (nI (tn1 + 1)), .int an, .int wr, .int pl])), (qt, .inr (10, [.ref tb, .int (nI tl), .int (nI ta2_337), .int (nI tk2_338), .int (nI ts2_339)])), (tb, .inl (E.2.1 0, 160, .inl fb))]) C 1 rfl (vp_in_nI (by omega) (by omega)) (ldn2 (by omega) ef_366) rfl dX5_readSaying_125 ?_
                        refine ww_aload_n C dX5_readSaying_126 5 rfl rfl ?_
                        refine ww_iload_n C dX5_readSaying_127 3 rfl rfl ?_
                        refine ww_iconst (v := 1) C dX5_readSaying_128 rfl ?_
                        refine ww_iadd (v := (nI (n1 + 1))) C dX5_readSaying_129 (nI_add n1 1) ?_
                        refine ww_put (ws' := [(po, .inl (E.2.1 1, 32, .inl f_365)), (pa, .inl (E.2.1 1, 32, .inl f_366)), (qs, .inr (5, [.ref qt, .ref po, .ref pa, .ref pf, .ref pd, .int (nI (n1 + 1)), .int (nI (tn1 + 1)), .int an, .int wr, .int pl])), (qt, .inr (10, [.ref tb, .int (nI tl), .int (nI ta2_337), .int (nI tk2_338), .int (nI ts2_339)])), (tb, .inl (E.2.1 0, 160, .inl fb))]) C fp_X5_31 2 rfl rfl rfl rfl rfl dX5_readSaying_130 ?_
                        refine ww_iload_n C dX5_readSaying_133 4 rfl rfl ?_
                        refine ww_iload_n C dX5_readSaying_134 2 rfl rfl ?_
                        refine ww_ci (wr := [(po, .inl (E.2.1 1, 32, .inl f_365)), (pa, .inl (E.2.1 1, 32, .inl f_366)), (qs, .inr (5, [.ref qt, .ref po, .ref pa, .ref pf, .ref pd, .int (nI (n1 + 1)), .int (nI (tn1 + 1)), .int an, .int wr, .int pl])), (qt, .inr (10, [.ref tb, .int (nI tl), .int (nI ta2_337), .int (nI tk2_338), .int (nI ts2_339)])), (tb, .inl (E.2.1 0, 160, .inl fb))]) (k' := 0) (n' := 0) C (run_SN (As := [.int r_3]) (rest := [.int (nI op1)]) C (c_under X.2.1 E ro r_3) ms_X11_under (List.mem_of_getElem? (i := 14) rfl) rfl rfl rfl rfl dX5_readSaying_135) (roK hro) [] [0, 1, 2, 3, 4] rfl rfl rfl rfl (fun r_367 uz hw => ?_)
                        rcases hw with hw | hw | hw
                        · refine an2 hw ?_
                          clear hw
                          intro he_369 he_370 hw
                          have h_368 := hw
                          clear hw
                          have he_369 := he_369.symm
                          subst he_369
                          subst he_370
                          refine ww_eq (ws' := [(po, .inl (E.2.1 1, 32, .inl f_365)), (pa, .inl (E.2.1 1, 32, .inl f_366)), (qs, .inr (5, [.ref qt, .ref po, .ref pa, .ref pf, .ref pd, .int (nI (n1 + 1)), .int (nI (tn1 + 1)), .int an, .int wr, .int pl])), (qt, .inr (10, [.ref tb, .int (nI tl), .int (nI ta2_337), .int (nI tk2_338), .int (nI ts2_339)])), (tb, .inl (E.2.1 0, 160, .inl fb))]) ?_ rfl rfl rfl
                          have hun := uN_a0 (x := r_3) (by assumption)
                          have hov := OPV.ext hopv ef_365 (by omega) (by omega) (by omega)
                          have hov2 := hov.2
                          have hwt := wt_u (aT (cz fb tl) ts1 tk1 ta1) h_9.2
                          rw [← h_9.1] at hwt
                          refine ww_iconst (v := 1) C dX5_readSaying_138 rfl ?_
                          refine ww_isub (v := (-1)) C dX5_readSaying_139 (by decide) ?_
                          refine ww_iadd (v := (nI (op1 - 1))) C dX5_readSaying_140 (nI_subc (a := op1) (c := 1) (by omega) rfl) ?_
                          refine ww_istore_n (lv' := [(1, .int (nI (op1 - 1))), (5, .int 0), (4, .int (fv (aT (cz fb tl) ts1 tk1 ta1))), (3, .int r_3), (2, .int (nI n1)), (0, .ref qs)]) C dX5_readSaying_141 rfl rfl rfl ?_
                          refine ww_iinc (j := 4) (v := (nI (n1 + 1))) (lv' := [(2, .int (nI (n1 + 1))), (1, .int (nI (op1 - 1))), (5, .int 0), (4, .int (fv (aT (cz fb tl) ts1 tk1 ta1))), (3, .int r_3), (0, .ref qs)]) C dX5_readSaying_142 rfl (nI_add n1 1) rfl rfl ?_
                          refine ww_goto (tgt := 4) C dX5_readSaying_145 (by decide) ?_
                          exact ww_lv [0, 1, 5] rfl (ww_sub [2, 3, 4, 0, 1] rfl rfl (ih_4 (n1 + 1) (op1 - 1) (tn1 + 1) ta2_337 tk2_338 ts2_339 ta1 f_365 f_366 (by omega) (by omega) (by omega) hov.1 (by omega) (by omega) (by omega) (by omega) (by omega) (by omega) h_344 h_345 ((it_s hit (by omega)).trans (sg_a htk0 (by omega) (by omega) h_345 h_346 (by omega))) (RUN.ext hrun hit (by omega)) (OPX.ext hopx ef_365 ef_366 (aI_t hit htk0) (gI_a hit htk0 (by omega)) h_9.1 (argV_f (by omega)) h_9.2 (by decide)) (by omega)))
                        · refine an2 hw ?_
                          clear hw
                          intro he_372 he_373 hw
                          have h_371 := hw
                          clear hw
                          have he_372 := he_372.symm
                          subst he_372
                          subst he_373
                          refine ww_eq (ws' := [(po, .inl (E.2.1 1, 32, .inl f_365)), (pa, .inl (E.2.1 1, 32, .inl f_366)), (qs, .inr (5, [.ref qt, .ref po, .ref pa, .ref pf, .ref pd, .int (nI (n1 + 1)), .int (nI (tn1 + 1)), .int an, .int wr, .int pl])), (qt, .inr (10, [.ref tb, .int (nI tl), .int (nI ta2_337), .int (nI tk2_338), .int (nI ts2_339)])), (tb, .inl (E.2.1 0, 160, .inl fb))]) ?_ rfl rfl rfl
                          have hun := uN_a2 (x := r_3) (by assumption)
                          have hov := OPV.ext hopv ef_365 (by omega) (by omega) (by omega)
                          have hov2 := hov.2
                          have hwt := wt_u (aT (cz fb tl) ts1 tk1 ta1) h_9.2
                          rw [← h_9.1] at hwt
                          refine ww_iconst (v := 1) C dX5_readSaying_138 rfl ?_
                          refine ww_isub (v := 1) C dX5_readSaying_139 (by decide) ?_
                          refine ww_iadd (v := (nI (op1 + 1))) C dX5_readSaying_140 (nI_add op1 1) ?_
                          refine ww_istore_n (lv' := [(1, .int (nI (op1 + 1))), (5, .int 0), (4, .int (fv (aT (cz fb tl) ts1 tk1 ta1))), (3, .int r_3), (2, .int (nI n1)), (0, .ref qs)]) C dX5_readSaying_141 rfl rfl rfl ?_
                          refine ww_iinc (j := 4) (v := (nI (n1 + 1))) (lv' := [(2, .int (nI (n1 + 1))), (1, .int (nI (op1 + 1))), (5, .int 0), (4, .int (fv (aT (cz fb tl) ts1 tk1 ta1))), (3, .int r_3), (0, .ref qs)]) C dX5_readSaying_142 rfl (nI_add n1 1) rfl rfl ?_
                          refine ww_goto (tgt := 4) C dX5_readSaying_145 (by decide) ?_
                          exact ww_lv [0, 1, 5] rfl (ww_sub [2, 3, 4, 0, 1] rfl rfl (ih_4 (n1 + 1) (op1 + 1) (tn1 + 1) ta2_337 tk2_338 ts2_339 ta1 f_365 f_366 (by omega) (by omega) (by omega) hov.1 (by omega) (by omega) (by omega) (by omega) (by omega) (by omega) h_344 h_345 ((it_s hit (by omega)).trans (sg_a htk0 (by omega) (by omega) h_345 h_346 (by omega))) (RUN.ext hrun hit (by omega)) (OPX.ext hopx ef_365 ef_366 (aI_t hit htk0) (gI_a hit htk0 (by omega)) h_9.1 (argV_f (by omega)) h_9.2 (by decide)) (by omega)))
                        · refine an2 hw ?_
                          clear hw
                          intro he_375 he_376 hw
                          have h_374 := hw
                          clear hw
                          have he_375 := he_375.symm
                          subst he_375
                          subst he_376
                          refine ww_eq (ws' := [(po, .inl (E.2.1 1, 32, .inl f_365)), (pa, .inl (E.2.1 1, 32, .inl f_366)), (qs, .inr (5, [.ref qt, .ref po, .ref pa, .ref pf, .ref pd, .int (nI (n1 + 1)), .int (nI (tn1 + 1)), .int an, .int wr, .int pl])), (qt, .inr (10, [.ref tb, .int (nI tl), .int (nI ta2_337), .int (nI tk2_338), .int (nI ts2_339)])), (tb, .inl (E.2.1 0, 160, .inl fb))]) ?_ rfl rfl rfl
                          have hun := uN_a1 (x := r_3) (by assumption)
                          have hov := OPV.ext hopv ef_365 (by omega) (by omega) (by omega)
                          have hov2 := hov.2
                          have hwt := wt_u (aT (cz fb tl) ts1 tk1 ta1) h_9.2
                          rw [← h_9.1] at hwt
                          refine ww_iconst (v := 1) C dX5_readSaying_138 rfl ?_
                          refine ww_isub (v := 0) C dX5_readSaying_139 (by decide) ?_
                          refine ww_iadd (v := (nI op1)) C dX5_readSaying_140 (nI_add op1 0) ?_
                          refine ww_istore_n (lv' := [(1, .int (nI op1)), (5, .int 0), (4, .int (fv (aT (cz fb tl) ts1 tk1 ta1))), (3, .int r_3), (2, .int (nI n1)), (0, .ref qs)]) C dX5_readSaying_141 rfl rfl rfl ?_
                          refine ww_iinc (j := 4) (v := (nI (n1 + 1))) (lv' := [(2, .int (nI (n1 + 1))), (1, .int (nI op1)), (5, .int 0), (4, .int (fv (aT (cz fb tl) ts1 tk1 ta1))), (3, .int r_3), (0, .ref qs)]) C dX5_readSaying_142 rfl (nI_add n1 1) rfl rfl ?_
                          refine ww_goto (tgt := 4) C dX5_readSaying_145 (by decide) ?_
                          exact ww_lv [0, 1, 5] rfl (ww_sub [2, 3, 4, 0, 1] rfl rfl (ih_4 (n1 + 1) op1 (tn1 + 1) ta2_337 tk2_338 ts2_339 ta1 f_365 f_366 (by omega) (by omega) (by omega) hov.1 (by omega) (by omega) (by omega) (by omega) (by omega) (by omega) h_344 h_345 ((it_s hit (by omega)).trans (sg_a htk0 (by omega) (by omega) h_345 h_346 (by omega))) (RUN.ext hrun hit (by omega)) (OPX.ext hopx ef_365 ef_366 (aI_t hit htk0) (gI_a hit htk0 (by omega)) h_9.1 (argV_f (by omega)) h_9.2 (by decide)) (by omega)))
                      · have zc_364 : r_3.toInt ≥ 5 := i_nlt rfl rfl c_364
                        omega
                    · refine ex6 hw ?_
                      clear hw
                      intro ta2_350 tk2_351 ts2_352 tn2_353 wr2_354 pl2_355 hw
                      refine an7 hw ?_
                      clear hw
                      intro he_362 he_363 h_356 h_357 h_358 h_359 h_360 hw
                      have h_361 := hw
                      clear hw
                      have he_362 := he_362.symm
                      subst he_362
                      subst he_363
                      refine ww_eq (ws' := [(po, .inl (E.2.1 1, 32, .inl fo1)), (pa, .inl (E.2.1 1, 32, .inl fa1)), (qs, .inr (5, [.ref qt, .ref po, .ref pa, .ref pf, .ref pd, .int (nI n1), .int tn2_353, .int an, .int wr2_354, .int (nI pl2_355)])), (qt, .inr (10, [.ref tb, .int (nI tl), .int (nI ta2_350), .int (nI tk2_351), .int (nI ts2_352)])), (tb, .inl (E.2.1 0, 160, .inl fb))]) ?_ rfl rfl rfl
                      refine ww_if_ne_f (tgt := 78) C dX5_readSaying_73 (by decide) (rfl) ?_
                      refine ww_iconst (v := 0) C dX5_readSaying_76 rfl ?_
                      exact ww_zret (u := [(qs, .inr (5, [.ref qt, .ref po, .ref pa, .ref pf, .ref pd, .int (nI n1), .int tn2_353, .int an, .int wr2_354, .int (nI pl2_355)])), (qt, .inr (10, [.ref tb, .int (nI tl), .int (nI ta2_350), .int (nI tk2_351), .int (nI ts2_352)])), (tb, .inl (E.2.1 0, 160, .inl fb)), (po, .inl (E.2.1 1, 32, .inl fo1)), (pa, .inl (E.2.1 1, 32, .inl fa1))]) C hT [2, 3, 4, 0, 1] rfl rfl rfl rfl rfl dX5_readSaying_77 (Or.inr ⟨ta2_350, tk2_351, ts2_352, (nI n1), tn2_353, wr2_354, pl2_355, fo1, fa1, rfl, rfl, (by first | assumption | omega | decide), (by first | assumption | omega | decide), (by first | assumption | omega | decide), (by omega), h_360, (by rcases h_361 with ⟨h8, h9⟩ | ⟨h7, h8, h9⟩ <;> subst h9 <;> first | exact it_bad hit (by omega) (sg_f1 htk0 (Or.inr h8)) (by omega) | exact it_bad hit (by omega) (sg_f2 htk0 (by omega) h7 h8) (by omega))⟩)
                  · have zc_335 : r_3.toInt = 5 := i_eq rfl rfl c_335
                    omega
            · have zc_14 : r_3.toInt = (-4) := i_eq rfl rfl c_14
              omega
  exact ww_lv [0, 1, 2] rfl (ww_sub [0, 1, 2, 3, 4] rfl rfl (loop_4 _ 0 1 0 ta tk ts p_ fo fa (by omega) (by omega) rfl OPV.nil (by omega) (by omega) (by omega) (by omega) (by omega) (by omega) hfg htok rfl RUN.nil OPX.nil (Nat.lt_succ_self _)))
end
section
theorem dX8_init_0 : decode cX8_init 0 = .ok (.aload_n 0, 1) := dl_42 (by decide +kernel)
theorem dX8_init_1 : decode cX8_init 1 = .ok (.invokespecial 3, 3) := dl_183 (by decide +kernel)
theorem wl_X8_3 : Cond.methodLink RX8 3 objectInit ∈ TB := tbm (tq3 (List.mem_of_getElem? (i := 153) (by decide +kernel))) (by decide +kernel)
theorem wi_obj : Cond.instanceMethod objectInit ∈ TB := tbm (tq1 (List.mem_of_getElem? (i := 27) (by decide +kernel))) (by decide +kernel)
theorem wc_obj : Cond.code objectInit ⟨#[0xb1]⟩ 1 none ∈ TB := tbm (tq1 (List.mem_of_getElem? (i := 28) (by decide +kernel))) (by decide +kernel)
theorem dX8_init_4 : decode cX8_init 4 = .ok (.aload_n 0, 1) := dl_42 (by decide +kernel)
theorem dX8_init_5 : decode cX8_init 5 = .ok (.iload_n 1, 1) := dl_27 (by decide +kernel)
theorem dX8_init_6 : decode cX8_init 6 = .ok (.newarray .int, 2) := by decide +kernel
theorem wa_int : Cond.arrayClass .int ∈ TB := tbm (tq1 (List.mem_of_getElem? (i := 61) (by decide +kernel))) (by decide +kernel)
theorem dX8_init_8 : decode cX8_init 8 = .ok (.putfield 9, 3) := dl_181 (by decide +kernel)
theorem wf_X8_9 : Cond.fieldLink RX8 9 RX8 "ops" "[I" ∈ TB := tbm (tq3 (List.mem_of_getElem? (i := 154) (by decide +kernel))) (by decide +kernel)
theorem fp_X8_9 : FP RX8 9 8 0 (.array .int) true := ⟨RX8, TX8, 7, tyX8, uw_X8, wf_X8_9, rfl, by decide, rfl, tyX8_ok, nmX8, rfl, by decide +kernel⟩
theorem dX8_init_11 : decode cX8_init 11 = .ok (.aload_n 0, 1) := dl_42 (by decide +kernel)
theorem dX8_init_12 : decode cX8_init 12 = .ok (.iload_n 1, 1) := dl_27 (by decide +kernel)
theorem dX8_init_13 : decode cX8_init 13 = .ok (.newarray .int, 2) := by decide +kernel
theorem dX8_init_15 : decode cX8_init 15 = .ok (.putfield 15, 3) := dl_181 (by decide +kernel)
theorem wf_X8_15 : Cond.fieldLink RX8 15 RX8 "args" "[I" ∈ TB := tbm (tq3 (List.mem_of_getElem? (i := 157) (by decide +kernel))) (by decide +kernel)
theorem fp_X8_15 : FP RX8 15 8 1 (.array .int) true := ⟨RX8, TX8, 7, tyX8, uw_X8, wf_X8_15, rfl, by decide, rfl, tyX8_ok, nmX8, rfl, by decide +kernel⟩
theorem dX8_init_18 : decode cX8_init 18 = .ok (.aload_n 0, 1) := dl_42 (by decide +kernel)
theorem dX8_init_19 : decode cX8_init 19 = .ok (.iload_n 2, 1) := dl_28 (by decide +kernel)
theorem dX8_init_20 : decode cX8_init 20 = .ok (.putfield 18, 3) := dl_181 (by decide +kernel)
theorem wf_X8_18 : Cond.fieldLink RX8 18 RX8 "tokens" "I" ∈ TB := tbm (tq3 (List.mem_of_getElem? (i := 160) (by decide +kernel))) (by decide +kernel)
theorem fp_X8_18 : FP RX8 18 8 2 .int true := ⟨RX8, TX8, 7, tyX8, uw_X8, wf_X8_18, rfl, by decide, rfl, tyX8_ok, nmX8, rfl, by decide +kernel⟩
theorem dX8_init_23 : decode cX8_init 23 = .ok (.aload_n 0, 1) := dl_42 (by decide +kernel)
theorem dX8_init_24 : decode cX8_init 24 = .ok (.iload_n 3, 1) := dl_29 (by decide +kernel)
theorem dX8_init_25 : decode cX8_init 25 = .ok (.putfield 22, 3) := dl_181 (by decide +kernel)
theorem wf_X8_22 : Cond.fieldLink RX8 22 RX8 "afters" "I" ∈ TB := tbm (tq3 (List.mem_of_getElem? (i := 162) (by decide +kernel))) (by decide +kernel)
theorem fp_X8_22 : FP RX8 22 8 3 .int true := ⟨RX8, TX8, 7, tyX8, uw_X8, wf_X8_22, rfl, by decide, rfl, tyX8_ok, nmX8, rfl, by decide +kernel⟩
theorem dX8_init_28 : decode cX8_init 28 = .ok (.aload_n 0, 1) := dl_42 (by decide +kernel)
theorem dX8_init_29 : decode cX8_init 29 = .ok (.iconst 2, 1) := dl_5 (by decide +kernel)
theorem dX8_init_30 : decode cX8_init 30 = .ok (.newarray .int, 2) := by decide +kernel
theorem dX8_init_32 : decode cX8_init 32 = .ok (.putfield 25, 3) := dl_181 (by decide +kernel)
theorem wf_X8_25 : Cond.fieldLink RX8 25 RX8 "after" "[I" ∈ TB := tbm (tq3 (List.mem_of_getElem? (i := 165) (by decide +kernel))) (by decide +kernel)
theorem fp_X8_25 : FP RX8 25 8 4 (.array .int) true := ⟨RX8, TX8, 7, tyX8, uw_X8, wf_X8_25, rfl, by decide, rfl, tyX8_ok, nmX8, rfl, by decide +kernel⟩
theorem dX8_init_35 : decode cX8_init 35 = .ok (.return_, 1) := dl_177 (by decide +kernel)
set_option maxRecDepth 100000 in
set_option maxHeartbeats 4000000 in
theorem k_Saying (l : Launch) (E : EV) (ro : va_W) (sg : Nat) (nn : Nat) (tk : Int32) (na : Nat) (hnn : nn ≤ 32) : CT l yX8_init (Cond.code yX8_init cX8_init 4 none :: TB) ({ frames := 1, cells := 3, slots := 66, locals := 12 }) E ro [.ref sg, .int (nI nn), .int tk, .int (nI na)] [(sg, .inr (8, [.null, .null, .int 0, .int 0, .null, .int 0, .int 0]))] (Qv E (fun uz => (∃ (sx : Nat) (sy : Nat) (sz : Nat), uz = [(sg, .inr (8, [.ref sx, .ref sy, .int tk, .int (nI na), .ref sz, .int 0, .int 0])), (sx, .inl (E.2.1 1, nn, .inl (fun _ => 0))), (sy, .inl (E.2.1 1, nn, .inl (fun _ => 0))), (sz, .inl (E.2.1 1, 2, .inl (fun _ => 0)))]))) 3 66 := by
  refine ct_of rfl rfl ?_
  intro X C hT hin hro
  show WW X 4 E 0 [(0, .ref sg), (1, .int (nI nn)), (2, .int tk), (3, .int (nI na))] [] [(sg, .inr (8, [.null, .null, .int 0, .int 0, .null, .int 0, .int 0]))] 0 0
  refine ww_aload_n C dX8_init_0 0 rfl rfl ?_
  refine ww_objInit C wl_X8_3 wi_obj wc_obj rfl dX8_init_1 ?_
  refine ww_aload_n C dX8_init_4 0 rfl rfl ?_
  refine ww_iload_n C dX8_init_5 1 rfl rfl ?_
  refine ww_newi (N := nn) (k' := 1) (n' := 32) C wa_int (nI_nn (by omega)) (nI_clamp (by omega)) (ble4 (by omega)) (cnN_le (s := 32) (by omega) rfl) dX8_init_6 (fun q_1 => ?_)
  refine ww_eq (ws' := [(sg, .inr (8, [.null, .null, .int 0, .int 0, .null, .int 0, .int 0])), (q_1, .inl (E.2.1 1, nn, .inl (fun _ => 0)))]) ?_ rfl rfl rfl
  refine ww_putF (ws' := [(sg, .inr (8, [.ref q_1, .null, .int 0, .int 0, .null, .int 0, .int 0])), (q_1, .inl (E.2.1 1, nn, .inl (fun _ => 0)))]) C fp_X8_9 hin ⟨_, _, rfl⟩ 0 rfl rfl rfl rfl rfl dX8_init_8 ?_
  refine ww_aload_n C dX8_init_11 0 rfl rfl ?_
  refine ww_iload_n C dX8_init_12 1 rfl rfl ?_
  refine ww_newi (N := nn) (k' := 2) (n' := 64) C wa_int (nI_nn (by omega)) (nI_clamp (by omega)) (ble4 (by omega)) (cnN_le (s := 32) (by omega) rfl) dX8_init_13 (fun q_2 => ?_)
  refine ww_eq (ws' := [(sg, .inr (8, [.ref q_1, .null, .int 0, .int 0, .null, .int 0, .int 0])), (q_1, .inl (E.2.1 1, nn, .inl (fun _ => 0))), (q_2, .inl (E.2.1 1, nn, .inl (fun _ => 0)))]) ?_ rfl rfl rfl
  refine ww_putF (ws' := [(sg, .inr (8, [.ref q_1, .ref q_2, .int 0, .int 0, .null, .int 0, .int 0])), (q_1, .inl (E.2.1 1, nn, .inl (fun _ => 0))), (q_2, .inl (E.2.1 1, nn, .inl (fun _ => 0)))]) C fp_X8_15 hin ⟨_, _, rfl⟩ 0 rfl rfl rfl rfl rfl dX8_init_15 ?_
  refine ww_aload_n C dX8_init_18 0 rfl rfl ?_
  refine ww_iload_n C dX8_init_19 2 rfl rfl ?_
  refine ww_putF (ws' := [(sg, .inr (8, [.ref q_1, .ref q_2, .int tk, .int 0, .null, .int 0, .int 0])), (q_1, .inl (E.2.1 1, nn, .inl (fun _ => 0))), (q_2, .inl (E.2.1 1, nn, .inl (fun _ => 0)))]) C fp_X8_18 hin ⟨_, _, rfl⟩ 0 rfl rfl rfl rfl rfl dX8_init_20 ?_
  refine ww_aload_n C dX8_init_23 0 rfl rfl ?_
  refine ww_iload_n C dX8_init_24 3 rfl rfl ?_
  refine ww_putF (ws' := [(sg, .inr (8, [.ref q_1, .ref q_2, .int tk, .int (nI na), .null, .int 0, .int 0])), (q_1, .inl (E.2.1 1, nn, .inl (fun _ => 0))), (q_2, .inl (E.2.1 1, nn, .inl (fun _ => 0)))]) C fp_X8_22 hin ⟨_, _, rfl⟩ 0 rfl rfl rfl rfl rfl dX8_init_25 ?_
  refine ww_aload_n C dX8_init_28 0 rfl rfl ?_
  refine ww_iconst (v := 2) C dX8_init_29 rfl ?_
  refine ww_newi (N := 2) (k' := 3) (n' := 66) C wa_int (by decide) rfl rfl rfl dX8_init_30 (fun q_3 => ?_)
  refine ww_eq (ws' := [(sg, .inr (8, [.ref q_1, .ref q_2, .int tk, .int (nI na), .null, .int 0, .int 0])), (q_1, .inl (E.2.1 1, nn, .inl (fun _ => 0))), (q_2, .inl (E.2.1 1, nn, .inl (fun _ => 0))), (q_3, .inl (E.2.1 1, 2, .inl (fun _ => 0)))]) ?_ rfl rfl rfl
  refine ww_putF (ws' := [(sg, .inr (8, [.ref q_1, .ref q_2, .int tk, .int (nI na), .ref q_3, .int 0, .int 0])), (q_1, .inl (E.2.1 1, nn, .inl (fun _ => 0))), (q_2, .inl (E.2.1 1, nn, .inl (fun _ => 0))), (q_3, .inl (E.2.1 1, 2, .inl (fun _ => 0)))]) C fp_X8_25 hin ⟨_, _, rfl⟩ 0 rfl rfl rfl rfl rfl dX8_init_32 ?_
  exact ww_vret (u := [(sg, .inr (8, [.ref q_1, .ref q_2, .int tk, .int (nI na), .ref q_3, .int 0, .int 0])), (q_1, .inl (E.2.1 1, nn, .inl (fun _ => 0))), (q_2, .inl (E.2.1 1, nn, .inl (fun _ => 0))), (q_3, .inl (E.2.1 1, 2, .inl (fun _ => 0)))]) C hT [0, 1, 2, 3] rfl rfl rfl rfl dX8_init_35 (⟨q_1, q_2, q_3, rfl⟩)
/-! how deep a saying is, what it names -/
def dpC (op : Int32) (a b : Nat) : Nat := (if uN op = 0 then 0 else if uN op = 2 then max a b else a) + (if 5 ≤ op.toInt then 1 else 0)
/-- the row of depths when the last d nodes are taken -/
def dSt (nn : Nat) (o : Nat → Int32) : Nat → Nat → Nat
  | 0 => fun _ => 0
  | d + 1 => va_up (dSt nn o d) (lastN o (nn - 1 - d)) (dpC (o (nn - 1 - d)) (dSt nn o d (lastN o (nn - 1 - d))) (dSt nn o d (lastN o (nn - 1 - d) + 1)))
def dPl (nn : Nat) (o : Nat → Int32) : Nat := dSt nn o nn 0
theorem dpC_le {op : Int32} {a b d : Nat} (ha : a ≤ d) (hb : b ≤ d) : dpC op a b ≤ d + 1 := by
  unfold dpC
  by_cases h0 : uN op = 0
  · rw [if_pos h0]; split <;> omega
  · rw [if_neg h0]
    by_cases h2 : uN op = 2
    · rw [if_pos h2]; split <;> omega
    · rw [if_neg h2]; split <;> omega
theorem dSt_le {nn : Nat} {o : Nat → Int32} : ∀ d j, dSt nn o d j ≤ d
  | 0, _ => Nat.le_refl 0
  | d + 1, j => by
    show va_up (dSt nn o d) (lastN o (nn - 1 - d)) _ j ≤ d + 1
    by_cases q : j = lastN o (nn - 1 - d)
    · rw [q, vup_s]; exact dpC_le (dSt_le d _) (dSt_le d _)
    · rw [vup_n q]; exact Nat.le_succ_of_le (dSt_le d j)
theorem opn_cg {o o' : Nat → Int32} : ∀ n : Nat, (∀ i, i < n → o i = o' i) → opn o n = opn o' n
  | 0, _ => rfl
  | n + 1, h => by rw [opn_s, opn_s, opn_cg n (fun i hi => h i (by omega)), h n (by omega)]
/-- the row of depths stands -/
def DSI (nn : Nat) (o : Nat → Int32) (i : Nat) (f : Nat → Int32) : Prop := ∀ j : Nat, (j : Int) < opn o i → f j = nI (dSt nn o (nn - i) j)
theorem DSI.nil {nn : Nat} {o f : Nat → Int32} (h0 : opn o nn = 0) : DSI nn o nn f := fun j h => absurd h (by omega)
theorem DSI.at {nn i k : Nat} {o f : Nat → Int32} {x : Int32} (h : DSI nn o i f) (hk : (k : Int) < opn o i) (e : f k = x) : x = nI (dSt nn o (nn - i) k) := e.symm.trans (h k hk)
theorem DSI.res {nn i : Nat} {o f : Nat → Int32} {x : Int32} (h : DSI nn o i f) (hi : i = 0) (e : f 0 = x) : x = nI (dPl nn o) := by
  subst hi; exact DSI.at h (k := 0) (show ((0 : Nat) : Int) < 1 by omega) e
theorem DSI.s {nn i l : Nat} {o f f' : Nat → Int32} {r : Int32} (h : DSI nn o (i + 1) f) (hi : i < nn) (hl : (l : Int) = opn o i - 1) (hr : r = nI (dpC (o i) (dSt nn o (nn - (i + 1)) l) (dSt nn o (nn - (i + 1)) (l + 1)))) (e : upd f l r = f') : DSI nn o i f' := by
  intro j hj
  have e1 : nn - i = (nn - (i + 1)) + 1 := by omega
  have e2 : nn - 1 - (nn - (i + 1)) = i := by omega
  have e3 : lastN o i = l := by unfold lastN; omega
  have e4 : dSt nn o (nn - i) = va_up (dSt nn o (nn - (i + 1))) l (dpC (o i) (dSt nn o (nn - (i + 1)) l) (dSt nn o (nn - (i + 1)) (l + 1))) := by
    rw [e1]
    show va_up (dSt nn o (nn - (i + 1))) (lastN o (nn - 1 - (nn - (i + 1)))) _ = _
    rw [e2, e3]
  rw [e4, ← e]
  by_cases q : j = l
  · rw [q, pk_us, vup_s]; exact hr
  · rw [pk_un q, vup_n q]
    have h1 := opn_s o i
    have h2 := uN_in (o i)
    exact h j (by omega)
theorem dpr {op r v : Int32} {a b : Nat} (h5 : (op.toInt < 5 ∧ r = v) ∨ (5 ≤ op.toInt ∧ v + 1 = r)) (hv : (uN op = 0 ∧ v = 0) ∨ (uN op = 1 ∧ v = nI a) ∨ (uN op = 2 ∧ v = nI (max a b))) : r = nI (dpC op a b) := by
  have e : v = nI (if uN op = 0 then 0 else if uN op = 2 then max a b else a) := by
    rcases hv with ⟨h, e⟩ | ⟨h, e⟩ | ⟨h, e⟩
    · rw [if_pos h]; exact e
    · rw [if_neg (by omega), if_neg (by omega)]; exact e
    · rw [if_neg (by omega), if_pos h]; exact e
  unfold dpC
  rcases h5 with ⟨h, e1⟩ | ⟨h, e1⟩
  · rw [if_neg (show ¬ 5 ≤ op.toInt by omega), e1]; exact e
  · rw [if_pos h, ← e1, e]; exact nI_add _ 1
theorem dmx {x y z : Int32} {a b : Nat} (hx : x = nI a) (hy : y = nI b) (ha : a ≤ 32) (hb : b ≤ 32) (e : (if x < y then y else x) = z) : z = nI (max a b) := by
  rw [← e]
  have h1 : x.toInt = a := by rw [hx]; exact nI_toInt (by omega)
  have h2 : y.toInt = b := by rw [hy]; exact nI_toInt (by omega)
  by_cases q : x < y
  · rw [if_pos q, hy]
    have h3 := Int32.lt_iff_toInt_lt.mp q
    congr 1; omega
  · rw [if_neg q, hx]
    have h3 : ¬ x.toInt < y.toInt := fun z => q (Int32.lt_iff_toInt_lt.mpr z)
    congr 1; omega
section DSIS
variable {nn i l l2 : Nat} {o f f' : Nat → Int32} {x y r v p q : Int32}
theorem DSI.c0 (h : DSI nn o (i + 1) f) (hi : i < nn) (hl : (l : Int) = opn o i - 1) (hx : o i = x) (hu : uN x = 0) (hy : o i = y) (h5 : (y.toInt < 5 ∧ r = 0) ∨ (5 ≤ y.toInt ∧ (0 : Int32) + 1 = r)) (e : upd f l r = f') : DSI nn o i f' := by
  subst hy; rw [← hx] at hu
  exact h.s hi hl (dpr h5 (Or.inl ⟨hu, rfl⟩)) e
theorem DSI.c1 (h : DSI nn o (i + 1) f) (hi : i < nn) (hl : (l : Int) = opn o i - 1) (hx : o i = x) (hu : uN x = 1) (hy : o i = y) (hv : f l = v) (h5 : (y.toInt < 5 ∧ r = v) ∨ (5 ≤ y.toInt ∧ v + 1 = r)) (e : upd f l r = f') : DSI nn o i f' := by
  have h1 := opn_s o i
  have h2 : uN (o i) = 1 := by rw [hx]; exact hu
  rw [hy] at h1 h2
  exact h.s hi hl (by rw [hy]; exact dpr h5 (Or.inr (Or.inl ⟨h2, h.at (by rw [← hy] at h1 h2; omega) hv⟩))) e
theorem DSI.c2 (h : DSI nn o (i + 1) f) (hi : i < nn) (h32 : nn ≤ 32) (hl : (l : Int) = opn o i - 1) (hx : o i = x) (hu : uN x = 2) (hy : o i = y) (hp : f l = p) (h2 : l2 = l + 1) (hq : f l2 = q) (hm : (if p < q then q else p) = v) (h5 : (y.toInt < 5 ∧ r = v) ∨ (5 ≤ y.toInt ∧ v + 1 = r)) (e : upd f l r = f') : DSI nn o i f' := by
  subst h2
  have h1 := opn_s o i
  have h2 : uN (o i) = 2 := by rw [hx]; exact hu
  have ha := dSt_le (nn := nn) (o := o) (nn - (i + 1)) l
  have hb := dSt_le (nn := nn) (o := o) (nn - (i + 1)) (l + 1)
  refine h.s hi hl ?_ e
  rw [hy] at h2 ⊢
  exact dpr h5 (Or.inr (Or.inr ⟨h2, dmx (h.at (by rw [hy] at h1; omega) hp) (h.at (by rw [hy] at h1; omega) hq) (by omega) (by omega) hm⟩))
end DSIS
theorem dSt_cg {nn : Nat} {o o' : Nat → Int32} (h : ∀ i, i < nn → o i = o' i) : ∀ d, d ≤ nn → dSt nn o d = dSt nn o' d
  | 0, _ => rfl
  | d + 1, hd => by
    have h1 := h (nn - 1 - d) (by omega)
    have h2 : lastN o (nn - 1 - d) = lastN o' (nn - 1 - d) := by unfold lastN; rw [opn_cg _ (fun i hi => h i (by omega))]
    show va_up (dSt nn o d) (lastN o (nn - 1 - d)) _ = va_up (dSt nn o' d) (lastN o' (nn - 1 - d)) _
    rw [dSt_cg h d (by omega), h2, h1]
/-- the facts that are named -/
def nPl (o ar : Nat → Int32) : Nat → Int32
  | 0 => 0
  | i + 1 => if o i = 0 then nPl o ar i ||| ar i else nPl o ar i
theorem nPl_cg {o ar o' ar' : Nat → Int32} : ∀ n : Nat, (∀ i, i < n → o i = o' i ∧ ar i = ar' i) → nPl o ar n = nPl o' ar' n
  | 0, _ => rfl
  | n + 1, h => by
    show (if o n = 0 then nPl o ar n ||| ar n else nPl o ar n) = (if o' n = 0 then nPl o' ar' n ||| ar' n else nPl o' ar' n)
    rw [nPl_cg n (fun i hi => h i (by omega)), (h n (by omega)).1, (h n (by omega)).2]

theorem dPl_cg {nn : Nat} {o o' : Nat → Int32} (h : ∀ i, i < nn → o i = o' i) : dPl nn o = dPl nn o' := by unfold dPl; rw [dSt_cg h nn (Nat.le_refl _)]
theorem nPl_y {fo fa : Nat → Int32} {i : Nat} {x y m m' : Int32} (h : m = nPl fo fa i) (ex : fo i = x) (hx : x.toInt = 0) (ey : fa i = y) (e : m ||| y = m') : m' = nPl fo fa (i + 1) := by
  show m' = if fo i = 0 then nPl fo fa i ||| fa i else nPl fo fa i
  rw [if_pos (by rw [ex]; exact i_z hx), ← e, h, ey]
theorem nPl_n {fo fa : Nat → Int32} {i : Nat} {x m : Int32} (h : m = nPl fo fa i) (ex : fo i = x) (hx : x.toInt ≠ 0) : m = nPl fo fa (i + 1) := by
  show m = if fo i = 0 then nPl fo fa i ||| fa i else nPl fo fa i
  rw [if_neg (by rw [ex]; exact i_nz hx)]; exact h
theorem dn_made {nn i : Nat} {fo fa so sr : Nat → Int32} {dp nm : Int32} (h1 : dp = nI (dPl nn fo)) (h2 : nm = nPl fo fa i) (hi : i = nn) (hc : ∀ i, i < nn → so i = fo i ∧ sr i = fa i) : dp = nI (dPl nn so) ∧ nm = nPl so sr nn := by
  subst hi
  exact ⟨by rw [h1, dPl_cg (fun j hj => (hc j hj).1)], by rw [h2]; exact (nPl_cg i hc).symm⟩
theorem dX5_deepest_0 : decode cX5_deepest 0 = .ok (.iconst 0, 1) := dl_3 (by decide +kernel)
theorem dX5_deepest_1 : decode cX5_deepest 1 = .ok (.istore_n 1, 1) := dl_60 (by decide +kernel)
theorem dX5_deepest_2 : decode cX5_deepest 2 = .ok (.aload_n 0, 1) := dl_42 (by decide +kernel)
theorem dX5_deepest_3 : decode cX5_deepest 3 = .ok (.getfield 31, 3) := dl_180 (by decide +kernel)
theorem fg_X5_31 : FG RX5 31 5 5 := ⟨RX5, TX5, 10, uw_X5, wf_X5_31, rfl, by decide, rfl⟩
theorem dX5_deepest_6 : decode cX5_deepest 6 = .ok (.iconst 1, 1) := dl_4 (by decide +kernel)
theorem dX5_deepest_7 : decode cX5_deepest 7 = .ok (.isub, 1) := dl_100 (by decide +kernel)
theorem dX5_deepest_8 : decode cX5_deepest 8 = .ok (.istore_n 2, 1) := dl_61 (by decide +kernel)
theorem dX5_deepest_9 : decode cX5_deepest 9 = .ok (.iload_n 2, 1) := dl_28 (by decide +kernel)
theorem dX5_deepest_10 : decode cX5_deepest 10 = .ok (.ifCond .lt 88, 3) := dl_155 (by decide +kernel)
theorem dX5_deepest_98 : decode cX5_deepest 98 = .ok (.aload_n 0, 1) := dl_42 (by decide +kernel)
theorem dX5_deepest_99 : decode cX5_deepest 99 = .ok (.getfield 28, 3) := dl_180 (by decide +kernel)
theorem wf_X5_28 : Cond.fieldLink RX5 28 RX5 "depths" "[I" ∈ TB := tbm (tq1 (List.mem_of_getElem? (i := 103) (by decide +kernel))) (by decide +kernel)
theorem fg_X5_28 : FG RX5 28 5 4 := ⟨RX5, TX5, 10, uw_X5, wf_X5_28, rfl, by decide, rfl⟩
theorem dX5_deepest_102 : decode cX5_deepest 102 = .ok (.iconst 0, 1) := dl_3 (by decide +kernel)
theorem dX5_deepest_103 : decode cX5_deepest 103 = .ok (.iaload, 1) := dl_46 (by decide +kernel)
theorem dX5_deepest_104 : decode cX5_deepest 104 = .ok (.ireturn, 1) := dl_172 (by decide +kernel)
theorem dX5_deepest_13 : decode cX5_deepest 13 = .ok (.aload_n 0, 1) := dl_42 (by decide +kernel)
theorem dX5_deepest_14 : decode cX5_deepest 14 = .ok (.getfield 18, 3) := dl_180 (by decide +kernel)
theorem dX5_deepest_17 : decode cX5_deepest 17 = .ok (.iload_n 2, 1) := dl_28 (by decide +kernel)
theorem dX5_deepest_18 : decode cX5_deepest 18 = .ok (.iaload, 1) := dl_46 (by decide +kernel)
theorem dX5_deepest_19 : decode cX5_deepest 19 = .ok (.invokestatic 104, 3) := dl_184 (by decide +kernel)
theorem dX5_deepest_22 : decode cX5_deepest 22 = .ok (.istore_n 3, 1) := dl_62 (by decide +kernel)
theorem dX5_deepest_23 : decode cX5_deepest 23 = .ok (.iload_n 1, 1) := dl_27 (by decide +kernel)
theorem dX5_deepest_24 : decode cX5_deepest 24 = .ok (.iconst 1, 1) := dl_4 (by decide +kernel)
theorem dX5_deepest_25 : decode cX5_deepest 25 = .ok (.iload_n 3, 1) := dl_29 (by decide +kernel)
theorem dX5_deepest_26 : decode cX5_deepest 26 = .ok (.isub, 1) := dl_100 (by decide +kernel)
theorem dX5_deepest_27 : decode cX5_deepest 27 = .ok (.iadd, 1) := dl_96 (by decide +kernel)
theorem dX5_deepest_28 : decode cX5_deepest 28 = .ok (.istore_n 1, 1) := dl_60 (by decide +kernel)
theorem dX5_deepest_29 : decode cX5_deepest 29 = .ok (.iload_n 3, 1) := dl_29 (by decide +kernel)
theorem dX5_deepest_30 : decode cX5_deepest 30 = .ok (.ifCond .le 14, 3) := dl_158 (by decide +kernel)
theorem dX5_deepest_44 : decode cX5_deepest 44 = .ok (.iconst 0, 1) := dl_3 (by decide +kernel)
theorem dX5_deepest_45 : decode cX5_deepest 45 = .ok (.istore 4, 2) := dl_54 (by decide +kernel)
theorem dX5_deepest_47 : decode cX5_deepest 47 = .ok (.iload_n 3, 1) := dl_29 (by decide +kernel)
theorem dX5_deepest_48 : decode cX5_deepest 48 = .ok (.iconst 2, 1) := dl_5 (by decide +kernel)
theorem dX5_deepest_49 : decode cX5_deepest 49 = .ok (.if_icmp .ne 16, 3) := dl_160 (by decide +kernel)
theorem dX5_deepest_65 : decode cX5_deepest 65 = .ok (.aload_n 0, 1) := dl_42 (by decide +kernel)
theorem dX5_deepest_66 : decode cX5_deepest 66 = .ok (.getfield 28, 3) := dl_180 (by decide +kernel)
theorem dX5_deepest_69 : decode cX5_deepest 69 = .ok (.iload_n 1, 1) := dl_27 (by decide +kernel)
theorem dX5_deepest_70 : decode cX5_deepest 70 = .ok (.iconst 1, 1) := dl_4 (by decide +kernel)
theorem dX5_deepest_71 : decode cX5_deepest 71 = .ok (.isub, 1) := dl_100 (by decide +kernel)
theorem dX5_deepest_72 : decode cX5_deepest 72 = .ok (.aload_n 0, 1) := dl_42 (by decide +kernel)
theorem dX5_deepest_73 : decode cX5_deepest 73 = .ok (.getfield 18, 3) := dl_180 (by decide +kernel)
theorem dX5_deepest_76 : decode cX5_deepest 76 = .ok (.iload_n 2, 1) := dl_28 (by decide +kernel)
theorem dX5_deepest_77 : decode cX5_deepest 77 = .ok (.iaload, 1) := dl_46 (by decide +kernel)
theorem dX5_deepest_78 : decode cX5_deepest 78 = .ok (.iconst 5, 1) := dl_8 (by decide +kernel)
theorem dX5_deepest_79 : decode cX5_deepest 79 = .ok (.if_icmp .lt 10, 3) := dl_161 (by decide +kernel)
theorem dX5_deepest_89 : decode cX5_deepest 89 = .ok (.iload 4, 2) := dl_21 (by decide +kernel)
theorem dX5_deepest_91 : decode cX5_deepest 91 = .ok (.iastore, 1) := dl_79 (by decide +kernel)
theorem dX5_deepest_92 : decode cX5_deepest 92 = .ok (.iinc 2 (-1), 3) := dl_132 (by decide +kernel)
theorem dX5_deepest_95 : decode cX5_deepest 95 = .ok (.goto (-86), 3) := dl_167 (by decide +kernel)
theorem dX5_deepest_82 : decode cX5_deepest 82 = .ok (.iload 4, 2) := dl_21 (by decide +kernel)
theorem dX5_deepest_84 : decode cX5_deepest 84 = .ok (.iconst 1, 1) := dl_4 (by decide +kernel)
theorem dX5_deepest_85 : decode cX5_deepest 85 = .ok (.iadd, 1) := dl_96 (by decide +kernel)
theorem dX5_deepest_86 : decode cX5_deepest 86 = .ok (.goto 5, 3) := dl_167 (by decide +kernel)
theorem dX5_deepest_33 : decode cX5_deepest 33 = .ok (.aload_n 0, 1) := dl_42 (by decide +kernel)
theorem dX5_deepest_34 : decode cX5_deepest 34 = .ok (.getfield 28, 3) := dl_180 (by decide +kernel)
theorem dX5_deepest_37 : decode cX5_deepest 37 = .ok (.iload_n 1, 1) := dl_27 (by decide +kernel)
theorem dX5_deepest_38 : decode cX5_deepest 38 = .ok (.iconst 1, 1) := dl_4 (by decide +kernel)
theorem dX5_deepest_39 : decode cX5_deepest 39 = .ok (.isub, 1) := dl_100 (by decide +kernel)
theorem dX5_deepest_40 : decode cX5_deepest 40 = .ok (.iaload, 1) := dl_46 (by decide +kernel)
theorem dX5_deepest_41 : decode cX5_deepest 41 = .ok (.goto 4, 3) := dl_167 (by decide +kernel)
theorem dX5_deepest_52 : decode cX5_deepest 52 = .ok (.iload 4, 2) := dl_21 (by decide +kernel)
theorem dX5_deepest_54 : decode cX5_deepest 54 = .ok (.aload_n 0, 1) := dl_42 (by decide +kernel)
theorem dX5_deepest_55 : decode cX5_deepest 55 = .ok (.getfield 28, 3) := dl_180 (by decide +kernel)
theorem dX5_deepest_58 : decode cX5_deepest 58 = .ok (.iload_n 1, 1) := dl_27 (by decide +kernel)
theorem dX5_deepest_59 : decode cX5_deepest 59 = .ok (.iaload, 1) := dl_46 (by decide +kernel)
theorem dX5_deepest_60 : decode cX5_deepest 60 = .ok (.invokestatic 166, 3) := dl_184 (by decide +kernel)
theorem wl_X5_166 : Cond.methodLink RX5 166 Lib.Math.max.name ∈ TB := tbm (tq3 (List.mem_of_getElem? (i := 192) (by decide +kernel))) (by decide +kernel)
theorem wt_Mmax : Cond.static Lib.Math.max.name ∈ TB := tbm (tq3 (List.mem_of_getElem? (i := 193) (by decide +kernel))) (by decide +kernel)
theorem wn_Math : Cond.initialized "java/lang/Math" ∈ TB := tbm (tq1 (List.mem_of_getElem? (i := 14) (by decide +kernel))) (by decide +kernel)
theorem wc_Mmax : Cond.code Lib.Math.max.name Lib.Math.max.code 2 (some .int) ∈ TB := tbm (tq3 (List.mem_of_getElem? (i := 194) (rfl))) (by decide +kernel)
theorem dX5_deepest_63 : decode cX5_deepest 63 = .ok (.istore 4, 2) := dl_54 (by decide +kernel)
set_option maxRecDepth 100000 in
set_option maxHeartbeats 4000000 in
theorem q_deepest (l : Launch) (E : EV) (ro : va_W) (qs : Nat) (qt : Nat) (po : Nat) (pa : Nat) (pf : Nat) (pd : Nat) (nn : Nat) (tn : Int32) (an : Int32) (wr : Int32) (pl : Int32) (fo : Nat → Int32) (fd : Nat → Int32) (hwf : WFs nn fo) : CT l yX5_deepest (Cond.code yX5_deepest cX5_deepest 5 (some .int) :: TB) ({ frames := 1, cells := 0, slots := 0, locals := 24 }) E ro [.ref qs] [(qs, .inr (5, [.ref qt, .ref po, .ref pa, .ref pf, .ref pd, .int (nI nn), .int tn, .int an, .int wr, .int pl])), (po, .inl (E.2.1 1, 32, .inl fo)), (pd, .inl (E.2.1 1, 32, .inl fd))] (Qi E (fun (rz : Int32) uz => (∃ (fd2 : Nat → Int32), uz = [(qs, .inr (5, [.ref qt, .ref po, .ref pa, .ref pf, .ref pd, .int (nI nn), .int tn, .int an, .int wr, .int pl])), (po, .inl (E.2.1 1, 32, .inl fo)), (pd, .inl (E.2.1 1, 32, .inl fd2))] ∧ (rz = nI (dPl nn fo))))) 0 0 := by
  refine ct_of rfl rfl ?_
  intro X C hT hin hro
  show WW X 5 E 0 [(0, .ref qs)] [] [(qs, .inr (5, [.ref qt, .ref po, .ref pa, .ref pf, .ref pd, .int (nI nn), .int tn, .int an, .int wr, .int pl])), (po, .inl (E.2.1 1, 32, .inl fo)), (pd, .inl (E.2.1 1, 32, .inl fd))] 0 0
  have hwn : 1 ≤ nn ∧ nn ≤ 32 := ⟨hwf.1, hwf.2.1⟩
  refine ww_iconst (v := 0) C dX5_deepest_0 rfl ?_
  refine ww_istore_n (lv' := [(1, .int 0), (0, .ref qs)]) C dX5_deepest_1 rfl rfl rfl ?_
  refine ww_aload_n C dX5_deepest_2 1 rfl rfl ?_
  refine ww_get C fg_X5_31 0 rfl rfl dX5_deepest_3 ?_
  refine ww_iconst (v := 1) C dX5_deepest_6 rfl ?_
  obtain ⟨x_1, ex_1⟩ : ∃ z : Int32, (nI nn) - (1 : Int32) = z := ⟨_, rfl⟩
  have zx_1 : x_1.toInt = ((nn : Nat) : Int) - 1 := by rw [← ex_1]; exact i_sub (nI_toInt (n := nn) (by omega)) rfl (by omega) (by omega)
  refine ww_isub (v := x_1) C dX5_deepest_7 ex_1 ?_
  refine ww_istore_n (lv' := [(2, .int x_1), (1, .int 0), (0, .ref qs)]) C dX5_deepest_8 rfl rfl rfl ?_
  have loop_9 : ∀ (fu : Nat) (xi : Int32) (ii : Nat) (tt : Nat) (f1 : Nat → Int32), (xi.toInt = (ii : Int) - 1) → (ii ≤ nn) → ((tt : Int) = opn fo ii) → (DSI nn fo ii f1) → ii < fu → WW X 5 E 9 [(2, .int xi), (1, .int (nI tt)), (0, .ref qs)] [] [(qs, .inr (5, [.ref qt, .ref po, .ref pa, .ref pf, .ref pd, .int (nI nn), .int tn, .int an, .int wr, .int pl])), (po, .inl (E.2.1 1, 32, .inl fo)), (pd, .inl (E.2.1 1, 32, .inl f1))] 0 0 := by
    intro fu
    induction fu with
    | zero => intro xi ii tt f1 hxi hii htt hds hmeas; exact absurd hmeas (Nat.not_lt_zero _)
    | succ fu ih_9 =>
      intro xi ii tt f1 hxi hii htt hds hmeas
      refine ww_iload_n C dX5_deepest_9 0 rfl rfl ?_
      refine ww_if_lt (tgt := 98) C dX5_deepest_10 (by decide) (fun c_2 => ?_) (fun c_2 => ?_)
      · have zc_2 : ((ii : Int) - 1) < 0 := i_lt hxi rfl c_2
        refine ww_aload_n C dX5_deepest_98 2 rfl rfl ?_
        refine ww_get C fg_X5_28 0 rfl rfl dX5_deepest_99 ?_
        refine ww_iconst (v := 0) C dX5_deepest_102 rfl ?_
        obtain ⟨x_3, ex_3⟩ : ∃ z : Int32, f1 0 = z := ⟨_, rfl⟩
        refine ww_iald (v := x_3) C 2 rfl (vin rfl) ex_3 dX5_deepest_103 ?_
        exact ww_iret (u := [(qs, .inr (5, [.ref qt, .ref po, .ref pa, .ref pf, .ref pd, .int (nI nn), .int tn, .int an, .int wr, .int pl])), (po, .inl (E.2.1 1, 32, .inl fo)), (pd, .inl (E.2.1 1, 32, .inl f1))]) C hT [0, 1, 2] rfl rfl rfl rfl dX5_deepest_104 (⟨f1, rfl, (DSI.res hds (by omega) ex_3)⟩)
      · have zc_2 : ((ii : Int) - 1) ≥ 0 := i_nlt hxi rfl c_2
        obtain ⟨j_4, hj_4, rfl⟩ := i_nat (x := xi) (N := 31) (by omega) (by omega)
        have hzj_4 := nI_toInt (n := j_4) (by omega)
        refine ww_aload_n C dX5_deepest_13 2 rfl rfl ?_
        refine ww_get C fg_X5_18 0 rfl rfl dX5_deepest_14 ?_
        refine ww_iload_n C dX5_deepest_17 0 rfl rfl ?_
        obtain ⟨x_5, ex_5⟩ : ∃ z : Int32, fo j_4 = z := ⟨_, rfl⟩
        refine ww_iald (v := x_5) C 1 rfl (vp_in_nI (by omega) (by omega)) (ldn (by omega) ex_5) dX5_deepest_18 ?_
        refine ww_ci (wr := [(qs, .inr (5, [.ref qt, .ref po, .ref pa, .ref pf, .ref pd, .int (nI nn), .int tn, .int an, .int wr, .int pl])), (po, .inl (E.2.1 1, 32, .inl fo)), (pd, .inl (E.2.1 1, 32, .inl f1))]) (k' := 0) (n' := 0) C (run_SN (As := [.int x_5]) (rest := []) C (c_under X.2.1 E ro x_5) ms_X11_under (List.mem_of_getElem? (i := 14) rfl) rfl rfl rfl rfl dX5_deepest_19) (roK hro) [] [0, 1, 2] rfl rfl rfl rfl (fun r_6 uz hw => ?_)
        rcases hw with hw | hw | hw
        · refine an2 hw ?_
          clear hw
          intro he_8 he_9 hw
          have h_7 := hw
          clear hw
          have he_8 := he_8.symm
          subst he_8
          subst he_9
          refine ww_eq (ws' := [(qs, .inr (5, [.ref qt, .ref po, .ref pa, .ref pf, .ref pd, .int (nI nn), .int tn, .int an, .int wr, .int pl])), (po, .inl (E.2.1 1, 32, .inl fo)), (pd, .inl (E.2.1 1, 32, .inl f1))]) ?_ rfl rfl rfl
          have hun := uN_a0 (by assumption)
          have hoj_4 := opn_s fo j_4
          have h1j_4 := hwf.2.2.2.1 j_4 (by omega)
          have h2j_4 := opn_le hwf (i := j_4 + 1) (by omega)
          have h3j_4 := opn_le hwf (i := j_4) (by omega)
          have h4j_4 : ii = j_4 + 1 := by omega
          rw [h4j_4] at htt hds
          rw [ex_5, hun] at hoj_4
          refine ww_istore_n (lv' := [(3, .int 0), (2, .int (nI j_4)), (1, .int (nI tt)), (0, .ref qs)]) C dX5_deepest_22 rfl rfl rfl ?_
          refine ww_iload_n C dX5_deepest_23 2 rfl rfl ?_
          refine ww_iconst (v := 1) C dX5_deepest_24 rfl ?_
          refine ww_iload_n C dX5_deepest_25 0 rfl rfl ?_
          refine ww_isub (v := 1) C dX5_deepest_26 (by decide) ?_
          refine ww_iadd (v := (nI (tt + 1))) C dX5_deepest_27 (nI_add tt 1) ?_
          refine ww_istore_n (lv' := [(1, .int (nI (tt + 1))), (3, .int 0), (2, .int (nI j_4)), (0, .ref qs)]) C dX5_deepest_28 rfl rfl rfl ?_
          refine ww_iload_n C dX5_deepest_29 1 rfl rfl ?_
          refine ww_if_le_t (tgt := 44) C dX5_deepest_30 (by decide) (by decide) ?_
          refine ww_iconst (v := 0) C dX5_deepest_44 rfl ?_
          refine ww_istore (lv' := [(4, .int 0), (1, .int (nI (tt + 1))), (3, .int 0), (2, .int (nI j_4)), (0, .ref qs)]) C dX5_deepest_45 rfl rfl ?_
          refine ww_iload_n C dX5_deepest_47 2 rfl rfl ?_
          refine ww_iconst (v := 2) C dX5_deepest_48 rfl ?_
          refine ww_icmp_ne_t (tgt := 65) C dX5_deepest_49 (by decide) (by decide) ?_
          refine ww_aload_n C dX5_deepest_65 4 rfl rfl ?_
          refine ww_get C fg_X5_28 0 rfl rfl dX5_deepest_66 ?_
          refine ww_iload_n C dX5_deepest_69 1 rfl rfl ?_
          refine ww_iconst (v := 1) C dX5_deepest_70 rfl ?_
          refine ww_isub (v := (nI ((tt + 1) - 1))) C dX5_deepest_71 (pk_sub (a := (tt + 1)) (b := 1) (by omega)) ?_
          refine ww_aload_n C dX5_deepest_72 4 rfl rfl ?_
          refine ww_get C fg_X5_18 0 rfl rfl dX5_deepest_73 ?_
          refine ww_iload_n C dX5_deepest_76 3 rfl rfl ?_
          obtain ⟨x_16, ex_16⟩ : ∃ z : Int32, fo j_4 = z := ⟨_, rfl⟩
          refine ww_iald (v := x_16) C 1 rfl (vp_in_nI (by omega) (by omega)) (ldn (by omega) ex_16) dX5_deepest_77 ?_
          refine ww_iconst (v := 5) C dX5_deepest_78 rfl ?_
          refine ww_icmp_lt (tgt := 89) C dX5_deepest_79 (by decide) (fun c_17 => ?_) (fun c_17 => ?_)
          · have zc_17 : x_16.toInt < 5 := i_lt rfl rfl c_17
            refine ww_iload C dX5_deepest_89 0 rfl ?_
            obtain ⟨f_18, ef_18⟩ : ∃ z : Nat → Int32, upd f1 ((tt + 1) - 1) 0 = z := ⟨_, rfl⟩
            refine ww_iast (ws' := [(qs, .inr (5, [.ref qt, .ref po, .ref pa, .ref pf, .ref pd, .int (nI nn), .int tn, .int an, .int wr, .int pl])), (po, .inl (E.2.1 1, 32, .inl fo)), (pd, .inl (E.2.1 1, 32, .inl f_18))]) C 2 rfl (vp_in_nI (by omega) (by omega)) (ldn2 (by omega) ef_18) rfl dX5_deepest_91 ?_
            obtain ⟨x_19, ex_19⟩ : ∃ z : Int32, (nI j_4) + Int32.ofInt (-1) = z := ⟨_, rfl⟩
            have zx_19 : x_19.toInt = ((j_4 : Nat) : Int) - 1 := by rw [← ex_19]; exact i_dec (c := 1) (nI_toInt (n := j_4) (by omega)) rfl (by omega) (by omega)
            refine ww_iinc (j := 3) (v := x_19) (lv' := [(2, .int x_19), (4, .int 0), (1, .int (nI (tt + 1))), (3, .int 0), (0, .ref qs)]) C dX5_deepest_92 rfl ex_19 rfl rfl ?_
            refine ww_goto (tgt := 9) C dX5_deepest_95 (by decide) ?_
            exact ww_lv [0, 2, 4] rfl (ww_sub [0, 1, 2] rfl rfl (ih_9 x_19 j_4 (tt + 1) f_18 (by omega) (by omega) (by omega) (DSI.c0 hds (by omega) (by omega) ex_5 hun ex_16 (by first | exact Or.inl ⟨by omega, rfl⟩ | exact Or.inr ⟨by omega, rfl⟩ | exact Or.inr ⟨by omega, rfl⟩) ef_18) (by omega)))
          · have zc_17 : x_16.toInt ≥ 5 := i_nlt rfl rfl c_17
            refine ww_iload C dX5_deepest_82 0 rfl ?_
            refine ww_iconst (v := 1) C dX5_deepest_84 rfl ?_
            refine ww_iadd (v := 1) C dX5_deepest_85 (by decide) ?_
            refine ww_goto (tgt := 91) C dX5_deepest_86 (by decide) ?_
            obtain ⟨f_20, ef_20⟩ : ∃ z : Nat → Int32, upd f1 ((tt + 1) - 1) 1 = z := ⟨_, rfl⟩
            refine ww_iast (ws' := [(qs, .inr (5, [.ref qt, .ref po, .ref pa, .ref pf, .ref pd, .int (nI nn), .int tn, .int an, .int wr, .int pl])), (po, .inl (E.2.1 1, 32, .inl fo)), (pd, .inl (E.2.1 1, 32, .inl f_20))]) C 2 rfl (vp_in_nI (by omega) (by omega)) (ldn2 (by omega) ef_20) rfl dX5_deepest_91 ?_
            obtain ⟨x_21, ex_21⟩ : ∃ z : Int32, (nI j_4) + Int32.ofInt (-1) = z := ⟨_, rfl⟩
            have zx_21 : x_21.toInt = ((j_4 : Nat) : Int) - 1 := by rw [← ex_21]; exact i_dec (c := 1) (nI_toInt (n := j_4) (by omega)) rfl (by omega) (by omega)
            refine ww_iinc (j := 3) (v := x_21) (lv' := [(2, .int x_21), (4, .int 0), (1, .int (nI (tt + 1))), (3, .int 0), (0, .ref qs)]) C dX5_deepest_92 rfl ex_21 rfl rfl ?_
            refine ww_goto (tgt := 9) C dX5_deepest_95 (by decide) ?_
            exact ww_lv [0, 2, 4] rfl (ww_sub [0, 1, 2] rfl rfl (ih_9 x_21 j_4 (tt + 1) f_20 (by omega) (by omega) (by omega) (DSI.c0 hds (by omega) (by omega) ex_5 hun ex_16 (by first | exact Or.inl ⟨by omega, rfl⟩ | exact Or.inr ⟨by omega, rfl⟩ | exact Or.inr ⟨by omega, rfl⟩) ef_20) (by omega)))
        · refine an2 hw ?_
          clear hw
          intro he_11 he_12 hw
          have h_10 := hw
          clear hw
          have he_11 := he_11.symm
          subst he_11
          subst he_12
          refine ww_eq (ws' := [(qs, .inr (5, [.ref qt, .ref po, .ref pa, .ref pf, .ref pd, .int (nI nn), .int tn, .int an, .int wr, .int pl])), (po, .inl (E.2.1 1, 32, .inl fo)), (pd, .inl (E.2.1 1, 32, .inl f1))]) ?_ rfl rfl rfl
          have hun := uN_a2 (by assumption)
          have hoj_4 := opn_s fo j_4
          have h1j_4 := hwf.2.2.2.1 j_4 (by omega)
          have h2j_4 := opn_le hwf (i := j_4 + 1) (by omega)
          have h3j_4 := opn_le hwf (i := j_4) (by omega)
          have h4j_4 : ii = j_4 + 1 := by omega
          rw [h4j_4] at htt hds
          rw [ex_5, hun] at hoj_4
          refine ww_istore_n (lv' := [(3, .int 2), (2, .int (nI j_4)), (1, .int (nI tt)), (0, .ref qs)]) C dX5_deepest_22 rfl rfl rfl ?_
          refine ww_iload_n C dX5_deepest_23 2 rfl rfl ?_
          refine ww_iconst (v := 1) C dX5_deepest_24 rfl ?_
          refine ww_iload_n C dX5_deepest_25 0 rfl rfl ?_
          refine ww_isub (v := (-1)) C dX5_deepest_26 (by decide) ?_
          refine ww_iadd (v := (nI (tt - 1))) C dX5_deepest_27 (nI_subc (a := tt) (c := 1) (by omega) rfl) ?_
          refine ww_istore_n (lv' := [(1, .int (nI (tt - 1))), (3, .int 2), (2, .int (nI j_4)), (0, .ref qs)]) C dX5_deepest_28 rfl rfl rfl ?_
          refine ww_iload_n C dX5_deepest_29 1 rfl rfl ?_
          refine ww_if_le_f (tgt := 44) C dX5_deepest_30 (by decide) (by decide) ?_
          refine ww_aload_n C dX5_deepest_33 3 rfl rfl ?_
          refine ww_get C fg_X5_28 0 rfl rfl dX5_deepest_34 ?_
          refine ww_iload_n C dX5_deepest_37 0 rfl rfl ?_
          refine ww_iconst (v := 1) C dX5_deepest_38 rfl ?_
          refine ww_isub (v := (nI ((tt - 1) - 1))) C dX5_deepest_39 (pk_sub (a := (tt - 1)) (b := 1) (by omega)) ?_
          obtain ⟨x_22, ex_22⟩ : ∃ z : Int32, f1 ((tt - 1) - 1) = z := ⟨_, rfl⟩
          refine ww_iald (v := x_22) C 2 rfl (vp_in_nI (by omega) (by omega)) (ldn (by omega) ex_22) dX5_deepest_40 ?_
          refine ww_goto (tgt := 45) C dX5_deepest_41 (by decide) ?_
          refine ww_istore (lv' := [(4, .int x_22), (1, .int (nI (tt - 1))), (3, .int 2), (2, .int (nI j_4)), (0, .ref qs)]) C dX5_deepest_45 rfl rfl ?_
          refine ww_iload_n C dX5_deepest_47 2 rfl rfl ?_
          refine ww_iconst (v := 2) C dX5_deepest_48 rfl ?_
          refine ww_icmp_ne_f (tgt := 65) C dX5_deepest_49 (by decide) (rfl) ?_
          refine ww_iload C dX5_deepest_52 0 rfl ?_
          refine ww_aload_n C dX5_deepest_54 4 rfl rfl ?_
          refine ww_get C fg_X5_28 0 rfl rfl dX5_deepest_55 ?_
          refine ww_iload_n C dX5_deepest_58 1 rfl rfl ?_
          obtain ⟨x_23, ex_23⟩ : ∃ z : Int32, f1 (tt - 1) = z := ⟨_, rfl⟩
          refine ww_iald (v := x_23) C 2 rfl (vp_in_nI (by omega) (by omega)) (ldn (by omega) ex_23) dX5_deepest_59 ?_
          obtain ⟨x_24, ex_24⟩ : ∃ z : Int32, (if x_22 < x_23 then x_23 else x_22) = z := ⟨_, rfl⟩
          refine ww_mmax (v := x_24) C wl_X5_166 wt_Mmax wn_Math wc_Mmax rfl ex_24 dX5_deepest_60 ?_
          refine ww_istore (lv' := [(4, .int x_24), (1, .int (nI (tt - 1))), (3, .int 2), (2, .int (nI j_4)), (0, .ref qs)]) C dX5_deepest_63 rfl rfl ?_
          refine ww_aload_n C dX5_deepest_65 4 rfl rfl ?_
          refine ww_get C fg_X5_28 0 rfl rfl dX5_deepest_66 ?_
          refine ww_iload_n C dX5_deepest_69 1 rfl rfl ?_
          refine ww_iconst (v := 1) C dX5_deepest_70 rfl ?_
          refine ww_isub (v := (nI ((tt - 1) - 1))) C dX5_deepest_71 (pk_sub (a := (tt - 1)) (b := 1) (by omega)) ?_
          refine ww_aload_n C dX5_deepest_72 4 rfl rfl ?_
          refine ww_get C fg_X5_18 0 rfl rfl dX5_deepest_73 ?_
          refine ww_iload_n C dX5_deepest_76 3 rfl rfl ?_
          obtain ⟨x_25, ex_25⟩ : ∃ z : Int32, fo j_4 = z := ⟨_, rfl⟩
          refine ww_iald (v := x_25) C 1 rfl (vp_in_nI (by omega) (by omega)) (ldn (by omega) ex_25) dX5_deepest_77 ?_
          refine ww_iconst (v := 5) C dX5_deepest_78 rfl ?_
          refine ww_icmp_lt (tgt := 89) C dX5_deepest_79 (by decide) (fun c_26 => ?_) (fun c_26 => ?_)
          · have zc_26 : x_25.toInt < 5 := i_lt rfl rfl c_26
            refine ww_iload C dX5_deepest_89 0 rfl ?_
            obtain ⟨f_27, ef_27⟩ : ∃ z : Nat → Int32, upd f1 ((tt - 1) - 1) x_24 = z := ⟨_, rfl⟩
            refine ww_iast (ws' := [(qs, .inr (5, [.ref qt, .ref po, .ref pa, .ref pf, .ref pd, .int (nI nn), .int tn, .int an, .int wr, .int pl])), (po, .inl (E.2.1 1, 32, .inl fo)), (pd, .inl (E.2.1 1, 32, .inl f_27))]) C 2 rfl (vp_in_nI (by omega) (by omega)) (ldn2 (by omega) ef_27) rfl dX5_deepest_91 ?_
            obtain ⟨x_28, ex_28⟩ : ∃ z : Int32, (nI j_4) + Int32.ofInt (-1) = z := ⟨_, rfl⟩
            have zx_28 : x_28.toInt = ((j_4 : Nat) : Int) - 1 := by rw [← ex_28]; exact i_dec (c := 1) (nI_toInt (n := j_4) (by omega)) rfl (by omega) (by omega)
            refine ww_iinc (j := 3) (v := x_28) (lv' := [(2, .int x_28), (4, .int x_24), (1, .int (nI (tt - 1))), (3, .int 2), (0, .ref qs)]) C dX5_deepest_92 rfl ex_28 rfl rfl ?_
            refine ww_goto (tgt := 9) C dX5_deepest_95 (by decide) ?_
            exact ww_lv [0, 2, 4] rfl (ww_sub [0, 1, 2] rfl rfl (ih_9 x_28 j_4 (tt - 1) f_27 (by omega) (by omega) (by omega) (DSI.c2 hds (by omega) hwn.2 (by omega) ex_5 hun ex_25 ex_22 (by omega) ex_23 ex_24 (by first | exact Or.inl ⟨by omega, rfl⟩ | exact Or.inr ⟨by omega, rfl⟩ | exact Or.inr ⟨by omega, rfl⟩) ef_27) (by omega)))
          · have zc_26 : x_25.toInt ≥ 5 := i_nlt rfl rfl c_26
            refine ww_iload C dX5_deepest_82 0 rfl ?_
            refine ww_iconst (v := 1) C dX5_deepest_84 rfl ?_
            obtain ⟨x_29, ex_29⟩ : ∃ z : Int32, x_24 + (1 : Int32) = z := ⟨_, rfl⟩
            refine ww_iadd (v := x_29) C dX5_deepest_85 ex_29 ?_
            refine ww_goto (tgt := 91) C dX5_deepest_86 (by decide) ?_
            obtain ⟨f_30, ef_30⟩ : ∃ z : Nat → Int32, upd f1 ((tt - 1) - 1) x_29 = z := ⟨_, rfl⟩
            refine ww_iast (ws' := [(qs, .inr (5, [.ref qt, .ref po, .ref pa, .ref pf, .ref pd, .int (nI nn), .int tn, .int an, .int wr, .int pl])), (po, .inl (E.2.1 1, 32, .inl fo)), (pd, .inl (E.2.1 1, 32, .inl f_30))]) C 2 rfl (vp_in_nI (by omega) (by omega)) (ldn2 (by omega) ef_30) rfl dX5_deepest_91 ?_
            obtain ⟨x_31, ex_31⟩ : ∃ z : Int32, (nI j_4) + Int32.ofInt (-1) = z := ⟨_, rfl⟩
            have zx_31 : x_31.toInt = ((j_4 : Nat) : Int) - 1 := by rw [← ex_31]; exact i_dec (c := 1) (nI_toInt (n := j_4) (by omega)) rfl (by omega) (by omega)
            refine ww_iinc (j := 3) (v := x_31) (lv' := [(2, .int x_31), (4, .int x_24), (1, .int (nI (tt - 1))), (3, .int 2), (0, .ref qs)]) C dX5_deepest_92 rfl ex_31 rfl rfl ?_
            refine ww_goto (tgt := 9) C dX5_deepest_95 (by decide) ?_
            exact ww_lv [0, 2, 4] rfl (ww_sub [0, 1, 2] rfl rfl (ih_9 x_31 j_4 (tt - 1) f_30 (by omega) (by omega) (by omega) (DSI.c2 hds (by omega) hwn.2 (by omega) ex_5 hun ex_25 ex_22 (by omega) ex_23 ex_24 (by first | exact Or.inl ⟨by omega, rfl⟩ | exact Or.inr ⟨by omega, rfl⟩ | exact Or.inr ⟨by omega, ex_29⟩) ef_30) (by omega)))
        · refine an2 hw ?_
          clear hw
          intro he_14 he_15 hw
          have h_13 := hw
          clear hw
          have he_14 := he_14.symm
          subst he_14
          subst he_15
          refine ww_eq (ws' := [(qs, .inr (5, [.ref qt, .ref po, .ref pa, .ref pf, .ref pd, .int (nI nn), .int tn, .int an, .int wr, .int pl])), (po, .inl (E.2.1 1, 32, .inl fo)), (pd, .inl (E.2.1 1, 32, .inl f1))]) ?_ rfl rfl rfl
          have hun := uN_a1 (by assumption)
          have hoj_4 := opn_s fo j_4
          have h1j_4 := hwf.2.2.2.1 j_4 (by omega)
          have h2j_4 := opn_le hwf (i := j_4 + 1) (by omega)
          have h3j_4 := opn_le hwf (i := j_4) (by omega)
          have h4j_4 : ii = j_4 + 1 := by omega
          rw [h4j_4] at htt hds
          rw [ex_5, hun] at hoj_4
          refine ww_istore_n (lv' := [(3, .int 1), (2, .int (nI j_4)), (1, .int (nI tt)), (0, .ref qs)]) C dX5_deepest_22 rfl rfl rfl ?_
          refine ww_iload_n C dX5_deepest_23 2 rfl rfl ?_
          refine ww_iconst (v := 1) C dX5_deepest_24 rfl ?_
          refine ww_iload_n C dX5_deepest_25 0 rfl rfl ?_
          refine ww_isub (v := 0) C dX5_deepest_26 (by decide) ?_
          refine ww_iadd (v := (nI tt)) C dX5_deepest_27 (nI_add tt 0) ?_
          refine ww_istore_n (lv' := [(1, .int (nI tt)), (3, .int 1), (2, .int (nI j_4)), (0, .ref qs)]) C dX5_deepest_28 rfl rfl rfl ?_
          refine ww_iload_n C dX5_deepest_29 1 rfl rfl ?_
          refine ww_if_le_f (tgt := 44) C dX5_deepest_30 (by decide) (by decide) ?_
          refine ww_aload_n C dX5_deepest_33 3 rfl rfl ?_
          refine ww_get C fg_X5_28 0 rfl rfl dX5_deepest_34 ?_
          refine ww_iload_n C dX5_deepest_37 0 rfl rfl ?_
          refine ww_iconst (v := 1) C dX5_deepest_38 rfl ?_
          refine ww_isub (v := (nI (tt - 1))) C dX5_deepest_39 (pk_sub (a := tt) (b := 1) (by omega)) ?_
          obtain ⟨x_32, ex_32⟩ : ∃ z : Int32, f1 (tt - 1) = z := ⟨_, rfl⟩
          refine ww_iald (v := x_32) C 2 rfl (vp_in_nI (by omega) (by omega)) (ldn (by omega) ex_32) dX5_deepest_40 ?_
          refine ww_goto (tgt := 45) C dX5_deepest_41 (by decide) ?_
          refine ww_istore (lv' := [(4, .int x_32), (1, .int (nI tt)), (3, .int 1), (2, .int (nI j_4)), (0, .ref qs)]) C dX5_deepest_45 rfl rfl ?_
          refine ww_iload_n C dX5_deepest_47 2 rfl rfl ?_
          refine ww_iconst (v := 2) C dX5_deepest_48 rfl ?_
          refine ww_icmp_ne_t (tgt := 65) C dX5_deepest_49 (by decide) (by decide) ?_
          refine ww_aload_n C dX5_deepest_65 4 rfl rfl ?_
          refine ww_get C fg_X5_28 0 rfl rfl dX5_deepest_66 ?_
          refine ww_iload_n C dX5_deepest_69 1 rfl rfl ?_
          refine ww_iconst (v := 1) C dX5_deepest_70 rfl ?_
          refine ww_isub (v := (nI (tt - 1))) C dX5_deepest_71 (pk_sub (a := tt) (b := 1) (by omega)) ?_
          refine ww_aload_n C dX5_deepest_72 4 rfl rfl ?_
          refine ww_get C fg_X5_18 0 rfl rfl dX5_deepest_73 ?_
          refine ww_iload_n C dX5_deepest_76 3 rfl rfl ?_
          obtain ⟨x_33, ex_33⟩ : ∃ z : Int32, fo j_4 = z := ⟨_, rfl⟩
          refine ww_iald (v := x_33) C 1 rfl (vp_in_nI (by omega) (by omega)) (ldn (by omega) ex_33) dX5_deepest_77 ?_
          refine ww_iconst (v := 5) C dX5_deepest_78 rfl ?_
          refine ww_icmp_lt (tgt := 89) C dX5_deepest_79 (by decide) (fun c_34 => ?_) (fun c_34 => ?_)
          · have zc_34 : x_33.toInt < 5 := i_lt rfl rfl c_34
            refine ww_iload C dX5_deepest_89 0 rfl ?_
            obtain ⟨f_35, ef_35⟩ : ∃ z : Nat → Int32, upd f1 (tt - 1) x_32 = z := ⟨_, rfl⟩
            refine ww_iast (ws' := [(qs, .inr (5, [.ref qt, .ref po, .ref pa, .ref pf, .ref pd, .int (nI nn), .int tn, .int an, .int wr, .int pl])), (po, .inl (E.2.1 1, 32, .inl fo)), (pd, .inl (E.2.1 1, 32, .inl f_35))]) C 2 rfl (vp_in_nI (by omega) (by omega)) (ldn2 (by omega) ef_35) rfl dX5_deepest_91 ?_
            obtain ⟨x_36, ex_36⟩ : ∃ z : Int32, (nI j_4) + Int32.ofInt (-1) = z := ⟨_, rfl⟩
            have zx_36 : x_36.toInt = ((j_4 : Nat) : Int) - 1 := by rw [← ex_36]; exact i_dec (c := 1) (nI_toInt (n := j_4) (by omega)) rfl (by omega) (by omega)
            refine ww_iinc (j := 3) (v := x_36) (lv' := [(2, .int x_36), (4, .int x_32), (1, .int (nI tt)), (3, .int 1), (0, .ref qs)]) C dX5_deepest_92 rfl ex_36 rfl rfl ?_
            refine ww_goto (tgt := 9) C dX5_deepest_95 (by decide) ?_
            exact ww_lv [0, 2, 4] rfl (ww_sub [0, 1, 2] rfl rfl (ih_9 x_36 j_4 tt f_35 (by omega) (by omega) (by omega) (DSI.c1 hds (by omega) (by omega) ex_5 hun ex_33 ex_32 (by first | exact Or.inl ⟨by omega, rfl⟩ | exact Or.inr ⟨by omega, rfl⟩ | exact Or.inr ⟨by omega, ex_29⟩) ef_35) (by omega)))
          · have zc_34 : x_33.toInt ≥ 5 := i_nlt rfl rfl c_34
            refine ww_iload C dX5_deepest_82 0 rfl ?_
            refine ww_iconst (v := 1) C dX5_deepest_84 rfl ?_
            obtain ⟨x_37, ex_37⟩ : ∃ z : Int32, x_32 + (1 : Int32) = z := ⟨_, rfl⟩
            refine ww_iadd (v := x_37) C dX5_deepest_85 ex_37 ?_
            refine ww_goto (tgt := 91) C dX5_deepest_86 (by decide) ?_
            obtain ⟨f_38, ef_38⟩ : ∃ z : Nat → Int32, upd f1 (tt - 1) x_37 = z := ⟨_, rfl⟩
            refine ww_iast (ws' := [(qs, .inr (5, [.ref qt, .ref po, .ref pa, .ref pf, .ref pd, .int (nI nn), .int tn, .int an, .int wr, .int pl])), (po, .inl (E.2.1 1, 32, .inl fo)), (pd, .inl (E.2.1 1, 32, .inl f_38))]) C 2 rfl (vp_in_nI (by omega) (by omega)) (ldn2 (by omega) ef_38) rfl dX5_deepest_91 ?_
            obtain ⟨x_39, ex_39⟩ : ∃ z : Int32, (nI j_4) + Int32.ofInt (-1) = z := ⟨_, rfl⟩
            have zx_39 : x_39.toInt = ((j_4 : Nat) : Int) - 1 := by rw [← ex_39]; exact i_dec (c := 1) (nI_toInt (n := j_4) (by omega)) rfl (by omega) (by omega)
            refine ww_iinc (j := 3) (v := x_39) (lv' := [(2, .int x_39), (4, .int x_32), (1, .int (nI tt)), (3, .int 1), (0, .ref qs)]) C dX5_deepest_92 rfl ex_39 rfl rfl ?_
            refine ww_goto (tgt := 9) C dX5_deepest_95 (by decide) ?_
            exact ww_lv [0, 2, 4] rfl (ww_sub [0, 1, 2] rfl rfl (ih_9 x_39 j_4 tt f_38 (by omega) (by omega) (by omega) (DSI.c1 hds (by omega) (by omega) ex_5 hun ex_33 ex_32 (by first | exact Or.inl ⟨by omega, rfl⟩ | exact Or.inr ⟨by omega, rfl⟩ | exact Or.inr ⟨by omega, ex_37⟩) ef_38) (by omega)))
  exact ww_lv [0, 1, 2] rfl (ww_sub [0, 1, 2] rfl rfl (loop_9 _ x_1 nn 0 fd (by omega) (by omega) (by have := hwf.2.2.2.2; omega) (DSI.nil hwf.2.2.2.2) (Nat.lt_succ_self _)))
theorem cpy_at {f g h : Nat → Int32} {n i : Nat} (e : va_cpy f g 0 0 n = h) (hi : i < n) : h i = f i := by
  rw [← e]; unfold va_cpy; rw [if_pos (by omega)]; congr 1; omega
theorem OPX.cpy {c : Nat → Int} {p n : Nat} {fo fa so sr : Nat → Int32} (h : OPX c p n fo fa) (e : ∀ i, i < n → so i = fo i ∧ sr i = fa i) : OPX c p n so sr := fun i hi => by
  rw [(e i hi).1, (e i hi).2]; exact h i hi
theorem dX5_made_0 : decode cX5_made 0 = .ok (.new 143, 3) := dl_187 (by decide +kernel)
theorem wk_X5_143 : Cond.classLink RX5 143 RX8 ∈ TB := tbm (tq3 (List.mem_of_getElem? (i := 148) (by decide +kernel))) (by decide +kernel)
theorem wq_X8 : Cond.instantiable RX8 7 ∈ TB := tbm (tq3 (List.mem_of_getElem? (i := 149) (by decide +kernel))) (by decide +kernel)
theorem wn_X8 : Cond.initialized RX8 ∈ TB := tbm (tq1 (List.mem_of_getElem? (i := 20) (by decide +kernel))) (by decide +kernel)
theorem cn_X5_143 : CN RX5 143 8 7 [.null, .null, .int 0, .int 0, .null, .int 0, .int 0] := ⟨RX8, TX8, tyX8, uw_X8, wk_X5_143, wq_X8, wn_X8, rfl, tyX8_ok, by decide +kernel⟩
theorem dX5_made_3 : decode cX5_made 3 = .ok (.dup, 1) := dl_89 (by decide +kernel)
theorem dX5_made_4 : decode cX5_made 4 = .ok (.aload_n 0, 1) := dl_42 (by decide +kernel)
theorem dX5_made_5 : decode cX5_made 5 = .ok (.getfield 31, 3) := dl_180 (by decide +kernel)
theorem dX5_made_8 : decode cX5_made 8 = .ok (.aload_n 0, 1) := dl_42 (by decide +kernel)
theorem dX5_made_9 : decode cX5_made 9 = .ok (.getfield 35, 3) := dl_180 (by decide +kernel)
theorem dX5_made_12 : decode cX5_made 12 = .ok (.aload_n 0, 1) := dl_42 (by decide +kernel)
theorem dX5_made_13 : decode cX5_made 13 = .ok (.getfield 38, 3) := dl_180 (by decide +kernel)
theorem dX5_made_16 : decode cX5_made 16 = .ok (.invokespecial 145, 3) := dl_183 (by decide +kernel)
theorem wl_X5_145 : Cond.methodLink RX5 145 yX8_init ∈ TB := tbm (tq3 (List.mem_of_getElem? (i := 150) (by decide +kernel))) (by decide +kernel)
theorem wc_X8_init : Cond.code yX8_init cX8_init 4 none ∈ TB := tbm (tq3 (List.mem_of_getElem? (i := 152) (rfl))) (by decide +kernel)
theorem wi_X8_init : Cond.instanceMethod yX8_init ∈ TB := tbm (tq3 (List.mem_of_getElem? (i := 151) (by decide +kernel))) (by decide +kernel)
theorem mn_X8_init : MN yX8_init cX8_init 4 3 := ⟨wc_X8_init, wn_X8, ⟨by decide +kernel, by decide +kernel, by decide +kernel⟩, wi_X8_init, rfl⟩
theorem dX5_made_19 : decode cX5_made 19 = .ok (.astore_n 1, 1) := dl_76 (by decide +kernel)
theorem dX5_made_20 : decode cX5_made 20 = .ok (.aload_n 0, 1) := dl_42 (by decide +kernel)
theorem dX5_made_21 : decode cX5_made 21 = .ok (.getfield 18, 3) := dl_180 (by decide +kernel)
theorem dX5_made_24 : decode cX5_made 24 = .ok (.iconst 0, 1) := dl_3 (by decide +kernel)
theorem dX5_made_25 : decode cX5_made 25 = .ok (.aload_n 1, 1) := dl_43 (by decide +kernel)
theorem dX5_made_26 : decode cX5_made 26 = .ok (.getfield 148, 3) := dl_180 (by decide +kernel)
theorem wf_X5_148 : Cond.fieldLink RX5 148 RX8 "ops" "[I" ∈ TB := tbm (tq3 (List.mem_of_getElem? (i := 156) (by decide +kernel))) (by decide +kernel)
theorem fg_X5_148 : FG RX5 148 8 0 := ⟨RX8, TX8, 7, uw_X8, wf_X5_148, rfl, by decide, rfl⟩
theorem dX5_made_29 : decode cX5_made 29 = .ok (.iconst 0, 1) := dl_3 (by decide +kernel)
theorem dX5_made_30 : decode cX5_made 30 = .ok (.aload_n 0, 1) := dl_42 (by decide +kernel)
theorem dX5_made_31 : decode cX5_made 31 = .ok (.getfield 31, 3) := dl_180 (by decide +kernel)
theorem dX5_made_34 : decode cX5_made 34 = .ok (.invokestatic 149, 3) := dl_184 (by decide +kernel)
theorem wl_X5_149 : Cond.methodLink RX5 149 arraycopyName ∈ TB := tbm (tq3 (List.mem_of_getElem? (i := 187) (by decide +kernel))) (by decide +kernel)
theorem dX5_made_37 : decode cX5_made 37 = .ok (.aload_n 0, 1) := dl_42 (by decide +kernel)
theorem dX5_made_38 : decode cX5_made 38 = .ok (.getfield 22, 3) := dl_180 (by decide +kernel)
theorem dX5_made_41 : decode cX5_made 41 = .ok (.iconst 0, 1) := dl_3 (by decide +kernel)
theorem dX5_made_42 : decode cX5_made 42 = .ok (.aload_n 1, 1) := dl_43 (by decide +kernel)
theorem dX5_made_43 : decode cX5_made 43 = .ok (.getfield 155, 3) := dl_180 (by decide +kernel)
theorem wf_X5_155 : Cond.fieldLink RX5 155 RX8 "args" "[I" ∈ TB := tbm (tq3 (List.mem_of_getElem? (i := 159) (by decide +kernel))) (by decide +kernel)
theorem fg_X5_155 : FG RX5 155 8 1 := ⟨RX8, TX8, 7, uw_X8, wf_X5_155, rfl, by decide, rfl⟩
theorem dX5_made_46 : decode cX5_made 46 = .ok (.iconst 0, 1) := dl_3 (by decide +kernel)
theorem dX5_made_47 : decode cX5_made 47 = .ok (.aload_n 0, 1) := dl_42 (by decide +kernel)
theorem dX5_made_48 : decode cX5_made 48 = .ok (.getfield 31, 3) := dl_180 (by decide +kernel)
theorem dX5_made_51 : decode cX5_made 51 = .ok (.invokestatic 149, 3) := dl_184 (by decide +kernel)
theorem dX5_made_54 : decode cX5_made 54 = .ok (.aload_n 0, 1) := dl_42 (by decide +kernel)
theorem dX5_made_55 : decode cX5_made 55 = .ok (.getfield 25, 3) := dl_180 (by decide +kernel)
theorem dX5_made_58 : decode cX5_made 58 = .ok (.iconst 0, 1) := dl_3 (by decide +kernel)
theorem dX5_made_59 : decode cX5_made 59 = .ok (.aload_n 1, 1) := dl_43 (by decide +kernel)
theorem dX5_made_60 : decode cX5_made 60 = .ok (.getfield 156, 3) := dl_180 (by decide +kernel)
theorem wf_X5_156 : Cond.fieldLink RX5 156 RX8 "after" "[I" ∈ TB := tbm (tq3 (List.mem_of_getElem? (i := 167) (by decide +kernel))) (by decide +kernel)
theorem fg_X5_156 : FG RX5 156 8 4 := ⟨RX8, TX8, 7, uw_X8, wf_X5_156, rfl, by decide, rfl⟩
theorem dX5_made_63 : decode cX5_made 63 = .ok (.iconst 0, 1) := dl_3 (by decide +kernel)
theorem dX5_made_64 : decode cX5_made 64 = .ok (.aload_n 0, 1) := dl_42 (by decide +kernel)
theorem dX5_made_65 : decode cX5_made 65 = .ok (.getfield 38, 3) := dl_180 (by decide +kernel)
theorem dX5_made_68 : decode cX5_made 68 = .ok (.invokestatic 149, 3) := dl_184 (by decide +kernel)
theorem dX5_made_71 : decode cX5_made 71 = .ok (.aload_n 1, 1) := dl_43 (by decide +kernel)
theorem dX5_made_72 : decode cX5_made 72 = .ok (.aload_n 0, 1) := dl_42 (by decide +kernel)
theorem dX5_made_73 : decode cX5_made 73 = .ok (.invokevirtual 157, 3) := dl_182 (by decide +kernel)
theorem wl_X5_157 : Cond.methodLink RX5 157 yX5_deepest ∈ TB := tbm (tq3 (List.mem_of_getElem? (i := 188) (by decide +kernel))) (by decide +kernel)
theorem wc_X5_deepest : Cond.code yX5_deepest cX5_deepest 5 (some .int) ∈ TB := tbm (tq3 (List.mem_of_getElem? (i := 191) (rfl))) (by decide +kernel)
theorem wi_X5_deepest : Cond.instanceMethod yX5_deepest ∈ TB := tbm (tq3 (List.mem_of_getElem? (i := 190) (by decide +kernel))) (by decide +kernel)
theorem ws_X5_deepest : Cond.selects RX5 yX5_deepest yX5_deepest ∈ TB := tbm (tq0 (List.mem_of_getElem? (i := 15) (by decide +kernel))) (by decide +kernel)
theorem mi_X5_deepest : MI yX5_deepest cX5_deepest 5 (some .int) 0 := ⟨wc_X5_deepest, wn_X5, ⟨by decide +kernel, by decide +kernel, by decide +kernel⟩, wi_X5_deepest, ws_X5_deepest⟩
theorem dX5_made_76 : decode cX5_made 76 = .ok (.putfield 160, 3) := dl_181 (by decide +kernel)
theorem wf_X5_160 : Cond.fieldLink RX5 160 RX8 "deep" "I" ∈ TB := tbm (tq3 (List.mem_of_getElem? (i := 168) (by decide +kernel))) (by decide +kernel)
theorem fp_X5_160 : FP RX5 160 8 5 .int false := ⟨RX8, TX8, 7, tyX8, uw_X8, wf_X5_160, rfl, by decide, rfl, tyX8_ok, nmX8, rfl, by decide +kernel⟩
theorem dX5_made_79 : decode cX5_made 79 = .ok (.iconst 0, 1) := dl_3 (by decide +kernel)
theorem dX5_made_80 : decode cX5_made 80 = .ok (.istore_n 2, 1) := dl_61 (by decide +kernel)
theorem dX5_made_81 : decode cX5_made 81 = .ok (.iload_n 2, 1) := dl_28 (by decide +kernel)
theorem dX5_made_82 : decode cX5_made 82 = .ok (.aload_n 0, 1) := dl_42 (by decide +kernel)
theorem dX5_made_83 : decode cX5_made 83 = .ok (.getfield 31, 3) := dl_180 (by decide +kernel)
theorem dX5_made_86 : decode cX5_made 86 = .ok (.if_icmp .ge 33, 3) := dl_162 (by decide +kernel)
theorem dX5_made_119 : decode cX5_made 119 = .ok (.aload_n 1, 1) := dl_43 (by decide +kernel)
theorem dX5_made_120 : decode cX5_made 120 = .ok (.areturn, 1) := dl_176 (by decide +kernel)
theorem dX5_made_89 : decode cX5_made 89 = .ok (.aload_n 0, 1) := dl_42 (by decide +kernel)
theorem dX5_made_90 : decode cX5_made 90 = .ok (.getfield 18, 3) := dl_180 (by decide +kernel)
theorem dX5_made_93 : decode cX5_made 93 = .ok (.iload_n 2, 1) := dl_28 (by decide +kernel)
theorem dX5_made_94 : decode cX5_made 94 = .ok (.iaload, 1) := dl_46 (by decide +kernel)
theorem dX5_made_95 : decode cX5_made 95 = .ok (.ifCond .ne 18, 3) := dl_154 (by decide +kernel)
theorem dX5_made_113 : decode cX5_made 113 = .ok (.iinc 2 1, 3) := dl_132 (by decide +kernel)
theorem dX5_made_116 : decode cX5_made 116 = .ok (.goto (-35), 3) := dl_167 (by decide +kernel)
theorem dX5_made_98 : decode cX5_made 98 = .ok (.aload_n 1, 1) := dl_43 (by decide +kernel)
theorem dX5_made_99 : decode cX5_made 99 = .ok (.dup, 1) := dl_89 (by decide +kernel)
theorem dX5_made_100 : decode cX5_made 100 = .ok (.getfield 163, 3) := dl_180 (by decide +kernel)
theorem wf_X5_163 : Cond.fieldLink RX5 163 RX8 "names" "I" ∈ TB := tbm (tq3 (List.mem_of_getElem? (i := 170) (by decide +kernel))) (by decide +kernel)
theorem fg_X5_163 : FG RX5 163 8 6 := ⟨RX8, TX8, 7, uw_X8, wf_X5_163, rfl, by decide, rfl⟩
theorem dX5_made_103 : decode cX5_made 103 = .ok (.aload_n 0, 1) := dl_42 (by decide +kernel)
theorem dX5_made_104 : decode cX5_made 104 = .ok (.getfield 22, 3) := dl_180 (by decide +kernel)
theorem dX5_made_107 : decode cX5_made 107 = .ok (.iload_n 2, 1) := dl_28 (by decide +kernel)
theorem dX5_made_108 : decode cX5_made 108 = .ok (.iaload, 1) := dl_46 (by decide +kernel)
theorem dX5_made_109 : decode cX5_made 109 = .ok (.ior, 1) := dl_128 (by decide +kernel)
theorem dX5_made_110 : decode cX5_made 110 = .ok (.putfield 163, 3) := dl_181 (by decide +kernel)
theorem fp_X5_163 : FP RX5 163 8 6 .int false := ⟨RX8, TX8, 7, tyX8, uw_X8, wf_X5_163, rfl, by decide, rfl, tyX8_ok, nmX8, rfl, by decide +kernel⟩
set_option maxRecDepth 100000 in
set_option maxHeartbeats 4000000 in
theorem q_made (l : Launch) (E : EV) (ro : va_W) (qs : Nat) (qt : Nat) (po : Nat) (pa : Nat) (pf : Nat) (pd : Nat) (nn : Nat) (tn : Int32) (na : Nat) (wr : Int32) (pl : Int32) (fo : Nat → Int32) (fa : Nat → Int32) (af : Nat → Int32) (fd : Nat → Int32) (hwf : WFs nn fo) (hafi : AFI na af) (hna : na ≤ 2) : CT l yX5_made (Cond.code yX5_made cX5_made 3 (some (.object "WhoKnows$Saying")) :: TB) ({ frames := 2, cells := 4, slots := 73, locals := 64 }) E ro [.ref qs] [(qs, .inr (5, [.ref qt, .ref po, .ref pa, .ref pf, .ref pd, .int (nI nn), .int tn, .int (nI na), .int wr, .int pl])), (po, .inl (E.2.1 1, 32, .inl fo)), (pa, .inl (E.2.1 1, 32, .inl fa)), (pf, .inl (E.2.1 1, 2, .inl af)), (pd, .inl (E.2.1 1, 32, .inl fd))] (Qq E (fun (rz : Option Nat) uz => (∃ (sg : Nat) (sx : Nat) (sy : Nat) (sz : Nat) (dp : Int32) (nm : Int32) (fd2 : Nat → Int32) (so : Nat → Int32) (sr : Nat → Int32) (sf : Nat → Int32), rz = some sg ∧ uz = [(qs, .inr (5, [.ref qt, .ref po, .ref pa, .ref pf, .ref pd, .int (nI nn), .int tn, .int (nI na), .int wr, .int pl])), (po, .inl (E.2.1 1, 32, .inl fo)), (pa, .inl (E.2.1 1, 32, .inl fa)), (pf, .inl (E.2.1 1, 2, .inl af)), (pd, .inl (E.2.1 1, 32, .inl fd2)), (sg, .inr (8, [.ref sx, .ref sy, .int tn, .int (nI na), .ref sz, .int dp, .int nm])), (sx, .inl (E.2.1 1, nn, .inl so)), (sy, .inl (E.2.1 1, nn, .inl sr)), (sz, .inl (E.2.1 1, 2, .inl sf))] ∧ (WFs nn so ∧ AFI na sf) ∧ (∀ i, i < nn → so i = fo i ∧ sr i = fa i) ∧ (∀ i, i < na → sf i = af i) ∧ (dp = nI (dPl nn so) ∧ nm = nPl so sr nn)))) 4 73 := by
  refine ct_of rfl rfl ?_
  intro X C hT hin hro
  show WW X 3 E 0 [(0, .ref qs)] [] [(qs, .inr (5, [.ref qt, .ref po, .ref pa, .ref pf, .ref pd, .int (nI nn), .int tn, .int (nI na), .int wr, .int pl])), (po, .inl (E.2.1 1, 32, .inl fo)), (pa, .inl (E.2.1 1, 32, .inl fa)), (pf, .inl (E.2.1 1, 2, .inl af)), (pd, .inl (E.2.1 1, 32, .inl fd))] 0 0
  have hwn : 1 ≤ nn ∧ nn ≤ 32 := ⟨hwf.1, hwf.2.1⟩
  refine ww_new (k' := 1) (n' := 7) C cn_X5_143 rfl dX5_made_0 (fun q_1 => ?_)
  refine ww_eq (ws' := [(qs, .inr (5, [.ref qt, .ref po, .ref pa, .ref pf, .ref pd, .int (nI nn), .int tn, .int (nI na), .int wr, .int pl])), (po, .inl (E.2.1 1, 32, .inl fo)), (pa, .inl (E.2.1 1, 32, .inl fa)), (pf, .inl (E.2.1 1, 2, .inl af)), (pd, .inl (E.2.1 1, 32, .inl fd)), (q_1, .inr (8, [.null, .null, .int 0, .int 0, .null, .int 0, .int 0]))]) ?_ rfl rfl rfl
  refine ww_dup C dX5_made_3 rfl ?_
  refine ww_aload_n C dX5_made_4 0 rfl rfl ?_
  refine ww_get C fg_X5_31 0 rfl rfl dX5_made_5 ?_
  refine ww_aload_n C dX5_made_8 0 rfl rfl ?_
  refine ww_get C fg_X5_35 0 rfl rfl dX5_made_9 ?_
  refine ww_aload_n C dX5_made_12 0 rfl rfl ?_
  refine ww_get C fg_X5_38 0 rfl rfl dX5_made_13 ?_
  refine ww_cv (wr := [(qs, .inr (5, [.ref qt, .ref po, .ref pa, .ref pf, .ref pd, .int (nI nn), .int tn, .int (nI na), .int wr, .int pl])), (po, .inl (E.2.1 1, 32, .inl fo)), (pa, .inl (E.2.1 1, 32, .inl fa)), (pf, .inl (E.2.1 1, 2, .inl af)), (pd, .inl (E.2.1 1, 32, .inl fd))]) (k' := 4) (n' := 73) C (run_I (As := [.int (nI nn), .int tn, .int (nI na)]) (rest := [.ref q_1]) C (k_Saying X.2.1 E ro q_1 nn tn na (by omega)) mn_X8_init wl_X5_145 rfl rfl rfl rfl dX5_made_16) (roK hro) [5] [0, 1, 2, 3, 4] rfl rfl rfl rfl (fun uz hw => ?_)
  refine ex3 hw ?_
  clear hw
  intro sx_3 sy_4 sz_5 hw
  have he_6 := hw
  clear hw
  subst he_6
  refine ww_eq (ws' := [(qs, .inr (5, [.ref qt, .ref po, .ref pa, .ref pf, .ref pd, .int (nI nn), .int tn, .int (nI na), .int wr, .int pl])), (po, .inl (E.2.1 1, 32, .inl fo)), (pa, .inl (E.2.1 1, 32, .inl fa)), (pf, .inl (E.2.1 1, 2, .inl af)), (pd, .inl (E.2.1 1, 32, .inl fd)), (q_1, .inr (8, [.ref sx_3, .ref sy_4, .int tn, .int (nI na), .ref sz_5, .int 0, .int 0])), (sx_3, .inl (E.2.1 1, nn, .inl (fun _ => 0))), (sy_4, .inl (E.2.1 1, nn, .inl (fun _ => 0))), (sz_5, .inl (E.2.1 1, 2, .inl (fun _ => 0)))]) ?_ rfl rfl rfl
  refine ww_astore_n (lv' := [(1, .ref q_1), (0, .ref qs)]) C dX5_made_19 rfl rfl rfl ?_
  refine ww_aload_n C dX5_made_20 1 rfl rfl ?_
  refine ww_get C fg_X5_18 0 rfl rfl dX5_made_21 ?_
  refine ww_iconst (v := 0) C dX5_made_24 rfl ?_
  refine ww_aload_n C dX5_made_25 0 rfl rfl ?_
  refine ww_get C fg_X5_148 5 rfl rfl dX5_made_26 ?_
  refine ww_iconst (v := 0) C dX5_made_29 rfl ?_
  refine ww_aload_n C dX5_made_30 1 rfl rfl ?_
  refine ww_get C fg_X5_31 0 rfl rfl dX5_made_31 ?_
  obtain ⟨f_7, ef_7⟩ : ∃ z : Nat → Int32, va_cpy fo (fun _ => 0) 0 0 nn = z := ⟨_, rfl⟩
  refine ww_copyi (ws' := [(qs, .inr (5, [.ref qt, .ref po, .ref pa, .ref pf, .ref pd, .int (nI nn), .int tn, .int (nI na), .int wr, .int pl])), (po, .inl (E.2.1 1, 32, .inl fo)), (pa, .inl (E.2.1 1, 32, .inl fa)), (pf, .inl (E.2.1 1, 2, .inl af)), (pd, .inl (E.2.1 1, 32, .inl fd)), (q_1, .inr (8, [.ref sx_3, .ref sy_4, .int tn, .int (nI na), .ref sz_5, .int 0, .int 0])), (sx_3, .inl (E.2.1 1, nn, .inl f_7)), (sy_4, .inl (E.2.1 1, nn, .inl (fun _ => 0))), (sz_5, .inl (E.2.1 1, 2, .inl (fun _ => 0)))]) C wl_X5_149 wn_ac wt_ac wn_Sys 1 6 rfl rfl (by decide) (by decide) (nI_nn (by omega)) (by rw [nI_clamp (by omega)]; show 0 + nn ≤ 32; omega) (by rw [nI_clamp (by omega)]; show 0 + nn ≤ nn; omega) rfl (by rw [nI_clamp (by omega)]; exact ef_7) rfl dX5_made_34 ?_
  refine ww_aload_n C dX5_made_37 1 rfl rfl ?_
  refine ww_get C fg_X5_22 0 rfl rfl dX5_made_38 ?_
  refine ww_iconst (v := 0) C dX5_made_41 rfl ?_
  refine ww_aload_n C dX5_made_42 0 rfl rfl ?_
  refine ww_get C fg_X5_155 5 rfl rfl dX5_made_43 ?_
  refine ww_iconst (v := 0) C dX5_made_46 rfl ?_
  refine ww_aload_n C dX5_made_47 1 rfl rfl ?_
  refine ww_get C fg_X5_31 0 rfl rfl dX5_made_48 ?_
  obtain ⟨f_8, ef_8⟩ : ∃ z : Nat → Int32, va_cpy fa (fun _ => 0) 0 0 nn = z := ⟨_, rfl⟩
  refine ww_copyi (ws' := [(qs, .inr (5, [.ref qt, .ref po, .ref pa, .ref pf, .ref pd, .int (nI nn), .int tn, .int (nI na), .int wr, .int pl])), (po, .inl (E.2.1 1, 32, .inl fo)), (pa, .inl (E.2.1 1, 32, .inl fa)), (pf, .inl (E.2.1 1, 2, .inl af)), (pd, .inl (E.2.1 1, 32, .inl fd)), (q_1, .inr (8, [.ref sx_3, .ref sy_4, .int tn, .int (nI na), .ref sz_5, .int 0, .int 0])), (sx_3, .inl (E.2.1 1, nn, .inl f_7)), (sy_4, .inl (E.2.1 1, nn, .inl f_8)), (sz_5, .inl (E.2.1 1, 2, .inl (fun _ => 0)))]) C wl_X5_149 wn_ac wt_ac wn_Sys 2 7 rfl rfl (by decide) (by decide) (nI_nn (by omega)) (by rw [nI_clamp (by omega)]; show 0 + nn ≤ 32; omega) (by rw [nI_clamp (by omega)]; show 0 + nn ≤ nn; omega) rfl (by rw [nI_clamp (by omega)]; exact ef_8) rfl dX5_made_51 ?_
  refine ww_aload_n C dX5_made_54 1 rfl rfl ?_
  refine ww_get C fg_X5_25 0 rfl rfl dX5_made_55 ?_
  refine ww_iconst (v := 0) C dX5_made_58 rfl ?_
  refine ww_aload_n C dX5_made_59 0 rfl rfl ?_
  refine ww_get C fg_X5_156 5 rfl rfl dX5_made_60 ?_
  refine ww_iconst (v := 0) C dX5_made_63 rfl ?_
  refine ww_aload_n C dX5_made_64 1 rfl rfl ?_
  refine ww_get C fg_X5_38 0 rfl rfl dX5_made_65 ?_
  obtain ⟨f_9, ef_9⟩ : ∃ z : Nat → Int32, va_cpy af (fun _ => 0) 0 0 na = z := ⟨_, rfl⟩
  refine ww_copyi (ws' := [(qs, .inr (5, [.ref qt, .ref po, .ref pa, .ref pf, .ref pd, .int (nI nn), .int tn, .int (nI na), .int wr, .int pl])), (po, .inl (E.2.1 1, 32, .inl fo)), (pa, .inl (E.2.1 1, 32, .inl fa)), (pf, .inl (E.2.1 1, 2, .inl af)), (pd, .inl (E.2.1 1, 32, .inl fd)), (q_1, .inr (8, [.ref sx_3, .ref sy_4, .int tn, .int (nI na), .ref sz_5, .int 0, .int 0])), (sx_3, .inl (E.2.1 1, nn, .inl f_7)), (sy_4, .inl (E.2.1 1, nn, .inl f_8)), (sz_5, .inl (E.2.1 1, 2, .inl f_9))]) C wl_X5_149 wn_ac wt_ac wn_Sys 3 8 rfl rfl (by decide) (by decide) (nI_nn (by omega)) (by rw [nI_clamp (by omega)]; show 0 + na ≤ 2; omega) (by rw [nI_clamp (by omega)]; show 0 + na ≤ 2; omega) rfl (by rw [nI_clamp (by omega)]; exact ef_9) rfl dX5_made_68 ?_
  refine ww_aload_n C dX5_made_71 0 rfl rfl ?_
  refine ww_aload_n C dX5_made_72 1 rfl rfl ?_
  refine ww_ci (wr := [(pa, .inl (E.2.1 1, 32, .inl fa)), (pf, .inl (E.2.1 1, 2, .inl af)), (q_1, .inr (8, [.ref sx_3, .ref sy_4, .int tn, .int (nI na), .ref sz_5, .int 0, .int 0])), (sx_3, .inl (E.2.1 1, nn, .inl f_7)), (sy_4, .inl (E.2.1 1, nn, .inl f_8)), (sz_5, .inl (E.2.1 1, 2, .inl f_9))]) (k' := 4) (n' := 73) C (run_V (As := []) (rest := [.ref q_1]) C (q_deepest X.2.1 E ro qs qt po pa pf pd nn tn (nI na) wr pl fo fd (by omega)) mi_X5_deepest wl_X5_157 rfl 0 5 rfl rfl rfl rfl rfl dX5_made_73) (roK hro) [0, 1, 4] [2, 3, 5, 6, 7, 8] rfl rfl (plk (by decide +kernel)) rfl (fun r_10 uz hw => ?_)
  refine ex1 hw ?_
  clear hw
  intro fd2_11 hw
  refine an1 hw ?_
  clear hw
  intro he_13 hw
  have h_12 := hw
  clear hw
  subst he_13
  refine ww_eq (ws' := [(pa, .inl (E.2.1 1, 32, .inl fa)), (pf, .inl (E.2.1 1, 2, .inl af)), (q_1, .inr (8, [.ref sx_3, .ref sy_4, .int tn, .int (nI na), .ref sz_5, .int 0, .int 0])), (sx_3, .inl (E.2.1 1, nn, .inl f_7)), (sy_4, .inl (E.2.1 1, nn, .inl f_8)), (sz_5, .inl (E.2.1 1, 2, .inl f_9)), (qs, .inr (5, [.ref qt, .ref po, .ref pa, .ref pf, .ref pd, .int (nI nn), .int tn, .int (nI na), .int wr, .int pl])), (po, .inl (E.2.1 1, 32, .inl fo)), (pd, .inl (E.2.1 1, 32, .inl fd2_11))]) ?_ rfl rfl rfl
  refine ww_put (ws' := [(pa, .inl (E.2.1 1, 32, .inl fa)), (pf, .inl (E.2.1 1, 2, .inl af)), (q_1, .inr (8, [.ref sx_3, .ref sy_4, .int tn, .int (nI na), .ref sz_5, .int r_10, .int 0])), (sx_3, .inl (E.2.1 1, nn, .inl f_7)), (sy_4, .inl (E.2.1 1, nn, .inl f_8)), (sz_5, .inl (E.2.1 1, 2, .inl f_9)), (qs, .inr (5, [.ref qt, .ref po, .ref pa, .ref pf, .ref pd, .int (nI nn), .int tn, .int (nI na), .int wr, .int pl])), (po, .inl (E.2.1 1, 32, .inl fo)), (pd, .inl (E.2.1 1, 32, .inl fd2_11))]) C fp_X5_160 2 rfl rfl rfl rfl rfl dX5_made_76 ?_
  refine ww_iconst (v := 0) C dX5_made_79 rfl ?_
  refine ww_istore_n (lv' := [(2, .int 0), (1, .ref q_1), (0, .ref qs)]) C dX5_made_80 rfl rfl rfl ?_
  have loop_81 : ∀ (fu : Nat) (i1 : Nat) (nm1 : Int32), (i1 ≤ nn) → (nm1 = nPl fo fa i1) → nn - i1 < fu → WW X 3 E 81 [(2, .int (nI i1)), (1, .ref q_1), (0, .ref qs)] [] [(pa, .inl (E.2.1 1, 32, .inl fa)), (pf, .inl (E.2.1 1, 2, .inl af)), (q_1, .inr (8, [.ref sx_3, .ref sy_4, .int tn, .int (nI na), .ref sz_5, .int r_10, .int nm1])), (sx_3, .inl (E.2.1 1, nn, .inl f_7)), (sy_4, .inl (E.2.1 1, nn, .inl f_8)), (sz_5, .inl (E.2.1 1, 2, .inl f_9)), (qs, .inr (5, [.ref qt, .ref po, .ref pa, .ref pf, .ref pd, .int (nI nn), .int tn, .int (nI na), .int wr, .int pl])), (po, .inl (E.2.1 1, 32, .inl fo)), (pd, .inl (E.2.1 1, 32, .inl fd2_11))] 4 73 := by
    intro fu
    induction fu with
    | zero => intro i1 nm1 hi1 hnm hmeas; exact absurd hmeas (Nat.not_lt_zero _)
    | succ fu ih_81 =>
      intro i1 nm1 hi1 hnm hmeas
      refine ww_iload_n C dX5_made_81 0 rfl rfl ?_
      refine ww_aload_n C dX5_made_82 2 rfl rfl ?_
      refine ww_get C fg_X5_31 6 rfl rfl dX5_made_83 ?_
      refine ww_icmp_ge (tgt := 119) C dX5_made_86 (by decide) (fun c_14 => ?_) (fun c_14 => ?_)
      · have zc_14 : ((i1 : Nat) : Int) ≥ ((nn : Nat) : Int) := i_le (nI_toInt (n := nn) (by omega)) (nI_toInt (n := i1) (by omega)) c_14
        refine ww_aload_n C dX5_made_119 1 rfl rfl ?_
        refine ww_eq (st' := [va_rf (some q_1)]) ?_ rfl rfl rfl
        exact ww_qret (u := [(qs, .inr (5, [.ref qt, .ref po, .ref pa, .ref pf, .ref pd, .int (nI nn), .int tn, .int (nI na), .int wr, .int pl])), (po, .inl (E.2.1 1, 32, .inl fo)), (pa, .inl (E.2.1 1, 32, .inl fa)), (pf, .inl (E.2.1 1, 2, .inl af)), (pd, .inl (E.2.1 1, 32, .inl fd2_11)), (q_1, .inr (8, [.ref sx_3, .ref sy_4, .int tn, .int (nI na), .ref sz_5, .int r_10, .int nm1])), (sx_3, .inl (E.2.1 1, nn, .inl f_7)), (sy_4, .inl (E.2.1 1, nn, .inl f_8)), (sz_5, .inl (E.2.1 1, 2, .inl f_9))]) C hT (Or.inl ⟨_, rfl⟩) [6, 7, 0, 1, 8, 2, 3, 4, 5] (gqk (by eq_refl)) (ndk (by decide +kernel)) rfl rfl dX5_made_120 (⟨q_1, sx_3, sy_4, sz_5, r_10, nm1, fd2_11, f_7, f_8, f_9, rfl, rfl, ⟨WFs.cpy hwf ef_7, AFI.cpy hafi ef_9⟩, (fun i hi => ⟨cpy_at ef_7 hi, cpy_at ef_8 hi⟩), (fun i hi => cpy_at ef_9 hi), (dn_made h_12 hnm (by omega) (fun i hi => ⟨cpy_at ef_7 hi, cpy_at ef_8 hi⟩))⟩)
      · have zc_14 : ((i1 : Nat) : Int) < ((nn : Nat) : Int) := i_nle (nI_toInt (n := nn) (by omega)) (nI_toInt (n := i1) (by omega)) c_14
        refine ww_aload_n C dX5_made_89 2 rfl rfl ?_
        refine ww_get C fg_X5_18 6 rfl rfl dX5_made_90 ?_
        refine ww_iload_n C dX5_made_93 0 rfl rfl ?_
        obtain ⟨x_15, ex_15⟩ : ∃ z : Int32, fo i1 = z := ⟨_, rfl⟩
        refine ww_iald (v := x_15) C 7 rfl (vp_in_nI (by omega) (by omega)) (ldn (by omega) ex_15) dX5_made_94 ?_
        refine ww_if_ne (tgt := 113) C dX5_made_95 (by decide) (fun c_16 => ?_) (fun c_16 => ?_)
        · have zc_16 : x_15.toInt ≠ 0 := i_ne rfl rfl c_16
          refine ww_iinc (j := 0) (v := (nI (i1 + 1))) (lv' := [(2, .int (nI (i1 + 1))), (1, .ref q_1), (0, .ref qs)]) C dX5_made_113 rfl (nI_add i1 1) rfl rfl ?_
          refine ww_goto (tgt := 81) C dX5_made_116 (by decide) ?_
          exact ww_lv [0, 1, 2] rfl (ww_sub [0, 1, 2, 3, 4, 5, 6, 7, 8] (ndk (by decide +kernel)) (gqk (by eq_refl)) (ih_81 (i1 + 1) nm1 (by omega) (nPl_n hnm ex_15 (by omega)) (by omega)))
        · have zc_16 : x_15.toInt = 0 := i_eq rfl rfl c_16
          refine ww_aload_n C dX5_made_98 1 rfl rfl ?_
          refine ww_dup C dX5_made_99 rfl ?_
          refine ww_get C fg_X5_163 2 rfl rfl dX5_made_100 ?_
          refine ww_aload_n C dX5_made_103 2 rfl rfl ?_
          refine ww_get C fg_X5_22 6 rfl rfl dX5_made_104 ?_
          refine ww_iload_n C dX5_made_107 0 rfl rfl ?_
          obtain ⟨x_17, ex_17⟩ : ∃ z : Int32, fa i1 = z := ⟨_, rfl⟩
          refine ww_iald (v := x_17) C 0 rfl (vp_in_nI (by omega) (by omega)) (ldn (by omega) ex_17) dX5_made_108 ?_
          obtain ⟨x_18, ex_18⟩ : ∃ z : Int32, nm1 ||| x_17 = z := ⟨_, rfl⟩
          refine ww_ior (v := x_18) C dX5_made_109 ex_18 ?_
          refine ww_put (ws' := [(pa, .inl (E.2.1 1, 32, .inl fa)), (pf, .inl (E.2.1 1, 2, .inl af)), (q_1, .inr (8, [.ref sx_3, .ref sy_4, .int tn, .int (nI na), .ref sz_5, .int r_10, .int x_18])), (sx_3, .inl (E.2.1 1, nn, .inl f_7)), (sy_4, .inl (E.2.1 1, nn, .inl f_8)), (sz_5, .inl (E.2.1 1, 2, .inl f_9)), (qs, .inr (5, [.ref qt, .ref po, .ref pa, .ref pf, .ref pd, .int (nI nn), .int tn, .int (nI na), .int wr, .int pl])), (po, .inl (E.2.1 1, 32, .inl fo)), (pd, .inl (E.2.1 1, 32, .inl fd2_11))]) C fp_X5_163 2 rfl rfl rfl rfl rfl dX5_made_110 ?_
          refine ww_iinc (j := 0) (v := (nI (i1 + 1))) (lv' := [(2, .int (nI (i1 + 1))), (1, .ref q_1), (0, .ref qs)]) C dX5_made_113 rfl (nI_add i1 1) rfl rfl ?_
          refine ww_goto (tgt := 81) C dX5_made_116 (by decide) ?_
          exact ww_lv [0, 1, 2] rfl (ww_sub [0, 1, 2, 3, 4, 5, 6, 7, 8] (ndk (by decide +kernel)) (gqk (by eq_refl)) (ih_81 (i1 + 1) x_18 (by omega) (nPl_y hnm ex_15 (by omega) ex_17 ex_18) (by omega)))
  exact ww_lv [0, 1, 2] rfl (ww_sub [0, 1, 2, 3, 4, 5, 6, 7, 8] (ndk (by decide +kernel)) (gqk (by eq_refl)) (loop_81 _ 0 0 (by omega) rfl (Nat.lt_succ_self _)))
end
section
theorem dX5_parse_0 : decode cX5_parse 0 = .ok (.aload_n 0, 1) := dl_42 (by decide +kernel)
theorem dX5_parse_1 : decode cX5_parse 1 = .ok (.iconst 0, 1) := dl_3 (by decide +kernel)
theorem dX5_parse_2 : decode cX5_parse 2 = .ok (.putfield 31, 3) := dl_181 (by decide +kernel)
theorem dX5_parse_5 : decode cX5_parse 5 = .ok (.aload_n 0, 1) := dl_42 (by decide +kernel)
theorem dX5_parse_6 : decode cX5_parse 6 = .ok (.iconst 0, 1) := dl_3 (by decide +kernel)
theorem dX5_parse_7 : decode cX5_parse 7 = .ok (.putfield 35, 3) := dl_181 (by decide +kernel)
theorem dX5_parse_10 : decode cX5_parse 10 = .ok (.aload_n 0, 1) := dl_42 (by decide +kernel)
theorem dX5_parse_11 : decode cX5_parse 11 = .ok (.iconst 0, 1) := dl_3 (by decide +kernel)
theorem dX5_parse_12 : decode cX5_parse 12 = .ok (.putfield 38, 3) := dl_181 (by decide +kernel)
theorem dX5_parse_15 : decode cX5_parse 15 = .ok (.aload_n 0, 1) := dl_42 (by decide +kernel)
theorem dX5_parse_16 : decode cX5_parse 16 = .ok (.iconst 0, 1) := dl_3 (by decide +kernel)
theorem dX5_parse_17 : decode cX5_parse 17 = .ok (.putfield 41, 3) := dl_181 (by decide +kernel)
theorem dX5_parse_20 : decode cX5_parse 20 = .ok (.aload_n 0, 1) := dl_42 (by decide +kernel)
theorem dX5_parse_21 : decode cX5_parse 21 = .ok (.iconst 0, 1) := dl_3 (by decide +kernel)
theorem dX5_parse_22 : decode cX5_parse 22 = .ok (.putfield 44, 3) := dl_181 (by decide +kernel)
theorem dX5_parse_25 : decode cX5_parse 25 = .ok (.aload_n 0, 1) := dl_42 (by decide +kernel)
theorem dX5_parse_26 : decode cX5_parse 26 = .ok (.getfield 12, 3) := dl_180 (by decide +kernel)
theorem dX5_parse_29 : decode cX5_parse 29 = .ok (.invokevirtual 47, 3) := dl_182 (by decide +kernel)
theorem wl_X5_47 : Cond.methodLink RX5 47 yX10_rewind ∈ TB := tbm (tq3 (List.mem_of_getElem? (i := 10) (by decide +kernel))) (by decide +kernel)
theorem wc_X10_rewind : Cond.code yX10_rewind cX10_rewind 1 none ∈ TB := tbm (tq3 (List.mem_of_getElem? (i := 13) (rfl))) (by decide +kernel)
theorem wi_X10_rewind : Cond.instanceMethod yX10_rewind ∈ TB := tbm (tq3 (List.mem_of_getElem? (i := 11) (by decide +kernel))) (by decide +kernel)
theorem ws_X10_rewind : Cond.selects RX10 yX10_rewind yX10_rewind ∈ TB := tbm (tq3 (List.mem_of_getElem? (i := 12) (by decide +kernel))) (by decide +kernel)
theorem mi_X10_rewind : MI yX10_rewind cX10_rewind 1 none 0 := ⟨wc_X10_rewind, wn_X10, ⟨by decide +kernel, by decide +kernel, by decide +kernel⟩, wi_X10_rewind, ws_X10_rewind⟩
theorem dX5_parse_32 : decode cX5_parse 32 = .ok (.aload_n 0, 1) := dl_42 (by decide +kernel)
theorem dX5_parse_33 : decode cX5_parse 33 = .ok (.invokevirtual 50, 3) := dl_182 (by decide +kernel)
theorem dX5_parse_36 : decode cX5_parse 36 = .ok (.ifCond .eq 17, 3) := dl_153 (by decide +kernel)
theorem dX5_parse_39 : decode cX5_parse 39 = .ok (.aload_n 0, 1) := dl_42 (by decide +kernel)
theorem dX5_parse_40 : decode cX5_parse 40 = .ok (.invokevirtual 54, 3) := dl_182 (by decide +kernel)
theorem wl_X5_54 : Cond.methodLink RX5 54 yX5_readAfters ∈ TB := tbm (tq3 (List.mem_of_getElem? (i := 33) (by decide +kernel))) (by decide +kernel)
theorem wc_X5_readAfters : Cond.code yX5_readAfters cX5_readAfters 2 (some .boolean) ∈ TB := tbm (tq3 (List.mem_of_getElem? (i := 36) (rfl))) (by decide +kernel)
theorem wi_X5_readAfters : Cond.instanceMethod yX5_readAfters ∈ TB := tbm (tq3 (List.mem_of_getElem? (i := 35) (by decide +kernel))) (by decide +kernel)
theorem ws_X5_readAfters : Cond.selects RX5 yX5_readAfters yX5_readAfters ∈ TB := tbm (tq0 (List.mem_of_getElem? (i := 6) (by decide +kernel))) (by decide +kernel)
theorem mi_X5_readAfters : MI yX5_readAfters cX5_readAfters 2 (some .boolean) 0 := ⟨wc_X5_readAfters, wn_X5, ⟨by decide +kernel, by decide +kernel, by decide +kernel⟩, wi_X5_readAfters, ws_X5_readAfters⟩
theorem dX5_parse_43 : decode cX5_parse 43 = .ok (.ifCond .eq 10, 3) := dl_153 (by decide +kernel)
theorem dX5_parse_46 : decode cX5_parse 46 = .ok (.aload_n 0, 1) := dl_42 (by decide +kernel)
theorem dX5_parse_47 : decode cX5_parse 47 = .ok (.invokevirtual 57, 3) := dl_182 (by decide +kernel)
theorem wl_X5_57 : Cond.methodLink RX5 57 yX5_readSaying ∈ TB := tbm (tq3 (List.mem_of_getElem? (i := 98) (by decide +kernel))) (by decide +kernel)
theorem wc_X5_readSaying : Cond.code yX5_readSaying cX5_readSaying 6 (some .boolean) ∈ TB := tbm (tq3 (List.mem_of_getElem? (i := 101) (rfl))) (by decide +kernel)
theorem wi_X5_readSaying : Cond.instanceMethod yX5_readSaying ∈ TB := tbm (tq3 (List.mem_of_getElem? (i := 100) (by decide +kernel))) (by decide +kernel)
theorem ws_X5_readSaying : Cond.selects RX5 yX5_readSaying yX5_readSaying ∈ TB := tbm (tq0 (List.mem_of_getElem? (i := 8) (by decide +kernel))) (by decide +kernel)
theorem mi_X5_readSaying : MI yX5_readSaying cX5_readSaying 6 (some .boolean) 0 := ⟨wc_X5_readSaying, wn_X5, ⟨by decide +kernel, by decide +kernel, by decide +kernel⟩, wi_X5_readSaying, ws_X5_readSaying⟩
theorem dX5_parse_50 : decode cX5_parse 50 = .ok (.ifCond .ne 5, 3) := dl_154 (by decide +kernel)
theorem dX5_parse_55 : decode cX5_parse 55 = .ok (.aload_n 0, 1) := dl_42 (by decide +kernel)
theorem dX5_parse_56 : decode cX5_parse 56 = .ok (.getfield 12, 3) := dl_180 (by decide +kernel)
theorem dX5_parse_59 : decode cX5_parse 59 = .ok (.getfield 60, 3) := dl_180 (by decide +kernel)
theorem dX5_parse_62 : decode cX5_parse 62 = .ok (.ifCond .eq 11, 3) := dl_153 (by decide +kernel)
theorem dX5_parse_73 : decode cX5_parse 73 = .ok (.aload_n 0, 1) := dl_42 (by decide +kernel)
theorem dX5_parse_74 : decode cX5_parse 74 = .ok (.invokevirtual 67, 3) := dl_182 (by decide +kernel)
theorem wl_X5_67 : Cond.methodLink RX5 67 yX5_made ∈ TB := tbm (tq3 (List.mem_of_getElem? (i := 144) (by decide +kernel))) (by decide +kernel)
theorem wc_X5_made : Cond.code yX5_made cX5_made 3 (some (.object "WhoKnows$Saying")) ∈ TB := tbm (tq3 (List.mem_of_getElem? (i := 147) (rfl))) (by decide +kernel)
theorem wi_X5_made : Cond.instanceMethod yX5_made ∈ TB := tbm (tq3 (List.mem_of_getElem? (i := 146) (by decide +kernel))) (by decide +kernel)
theorem ws_X5_made : Cond.selects RX5 yX5_made yX5_made ∈ TB := tbm (tq0 (List.mem_of_getElem? (i := 14) (by decide +kernel))) (by decide +kernel)
theorem mi_X5_made : MI yX5_made cX5_made 3 (some (.object "WhoKnows$Saying")) 0 := ⟨wc_X5_made, wn_X5, ⟨by decide +kernel, by decide +kernel, by decide +kernel⟩, wi_X5_made, ws_X5_made⟩
theorem dX5_parse_77 : decode cX5_parse 77 = .ok (.areturn, 1) := dl_176 (by decide +kernel)
theorem dX5_parse_65 : decode cX5_parse 65 = .ok (.aload_n 0, 1) := dl_42 (by decide +kernel)
theorem dX5_parse_66 : decode cX5_parse 66 = .ok (.iconst 2, 1) := dl_5 (by decide +kernel)
theorem dX5_parse_67 : decode cX5_parse 67 = .ok (.invokevirtual 63, 3) := dl_182 (by decide +kernel)
theorem dX5_parse_70 : decode cX5_parse 70 = .ok (.pop, 1) := dl_87 (by decide +kernel)
theorem dX5_parse_71 : decode cX5_parse 71 = .ok (.aconst_null, 1) := dl_1 (by decide +kernel)
theorem dX5_parse_72 : decode cX5_parse 72 = .ok (.areturn, 1) := dl_176 (by decide +kernel)
theorem dX5_parse_53 : decode cX5_parse 53 = .ok (.aconst_null, 1) := dl_1 (by decide +kernel)
theorem dX5_parse_54 : decode cX5_parse 54 = .ok (.areturn, 1) := dl_176 (by decide +kernel)
set_option maxRecDepth 100000 in
set_option maxHeartbeats 4000000 in
theorem q_parse (l : Launch) (E : EV) (ro : va_W) (qs : Nat) (qt : Nat) (po : Nat) (pa : Nat) (pf : Nat) (pd : Nat) (nd : Int32) (tn : Int32) (an : Int32) (wr : Int32) (pl : Int32) (tb : Nat) (tl : Nat) (ta : Int32) (tk : Int32) (ts : Int32) (fb : Nat → Int32) (fo : Nat → Int32) (fa : Nat → Int32) (af : Nat → Int32) (fd : Nat → Int32) (htl : tl ≤ 160) : CT l yX5_parse (Cond.code yX5_parse cX5_parse 1 (some (.object "WhoKnows$Saying")) :: TB) ({ frames := 8, cells := 4, slots := 73, locals := 172 }) E ro [.ref qs] [(qs, .inr (5, [.ref qt, .ref po, .ref pa, .ref pf, .ref pd, .int nd, .int tn, .int an, .int wr, .int pl])), (qt, .inr (10, [.ref tb, .int (nI tl), .int ta, .int tk, .int ts])), (tb, .inl (E.2.1 0, 160, .inl fb)), (po, .inl (E.2.1 1, 32, .inl fo)), (pa, .inl (E.2.1 1, 32, .inl fa)), (pf, .inl (E.2.1 1, 2, .inl af)), (pd, .inl (E.2.1 1, 32, .inl fd))] (Qq E (fun (rz : Option Nat) uz => (∃ (ndz : Int32) (tnz : Int32) (anz : Int32) (wrz : Int32) (taz : Int32) (tkz : Int32) (tsz : Int32) (plz : Nat) (foz : Nat → Int32) (faz : Nat → Int32) (afz : Nat → Int32) (fdz : Nat → Int32), rz = none ∧ uz = [(qs, .inr (5, [.ref qt, .ref po, .ref pa, .ref pf, .ref pd, .int ndz, .int tnz, .int anz, .int wrz, .int (nI plz)])), (qt, .inr (10, [.ref tb, .int (nI tl), .int taz, .int tkz, .int tsz])), (tb, .inl (E.2.1 0, 160, .inl fb)), (po, .inl (E.2.1 1, 32, .inl foz)), (pa, .inl (E.2.1 1, 32, .inl faz)), (pf, .inl (E.2.1 1, 2, .inl afz)), (pd, .inl (E.2.1 1, 32, .inl fdz))] ∧ (SBAD (cz fb tl) plz)) ∨ (∃ (ndz : Int32) (tnz : Int32) (anz : Int32) (wrz : Int32) (plz : Int32) (taz : Int32) (tkz : Int32) (tsz : Int32) (foz : Nat → Int32) (faz : Nat → Int32) (afz : Nat → Int32) (fdz : Nat → Int32) (sg : Nat) (nn : Nat) (na : Nat) (sx : Nat) (sy : Nat) (sz : Nat) (tm : Nat) (p_ : Nat) (v_ : Nat) (w_ : Nat) (dp : Int32) (nm : Int32) (so : Nat → Int32) (sr : Nat → Int32) (sf : Nat → Int32), rz = some sg ∧ uz = [(qs, .inr (5, [.ref qt, .ref po, .ref pa, .ref pf, .ref pd, .int ndz, .int tnz, .int anz, .int wrz, .int plz])), (qt, .inr (10, [.ref tb, .int (nI tl), .int taz, .int tkz, .int tsz])), (tb, .inl (E.2.1 0, 160, .inl fb)), (po, .inl (E.2.1 1, 32, .inl foz)), (pa, .inl (E.2.1 1, 32, .inl faz)), (pf, .inl (E.2.1 1, 2, .inl afz)), (pd, .inl (E.2.1 1, 32, .inl fdz)), (sg, .inr (8, [.ref sx, .ref sy, .int (nI tm), .int (nI na), .ref sz, .int dp, .int nm])), (sx, .inl (E.2.1 1, nn, .inl so)), (sy, .inl (E.2.1 1, nn, .inl sr)), (sz, .inl (E.2.1 1, 2, .inl sf))] ∧ (WFs nn so ∧ AFI na sf) ∧ (na ≤ 2) ∧ (SOK (cz fb tl) p_ na v_ w_ nn tm ∧ OPX (cz fb tl) p_ nn so sr ∧ (0 < na → sf 0 = nI v_) ∧ (1 < na → sf 1 = nI w_)) ∧ (tm ≤ 32) ∧ (dp = nI (dPl nn so) ∧ nm = nPl so sr nn)))) 4 73 := by
  refine ct_of rfl rfl ?_
  intro X C hT hin hro
  show WW X 1 E 0 [(0, .ref qs)] [] [(qs, .inr (5, [.ref qt, .ref po, .ref pa, .ref pf, .ref pd, .int nd, .int tn, .int an, .int wr, .int pl])), (qt, .inr (10, [.ref tb, .int (nI tl), .int ta, .int tk, .int ts])), (tb, .inl (E.2.1 0, 160, .inl fb)), (po, .inl (E.2.1 1, 32, .inl fo)), (pa, .inl (E.2.1 1, 32, .inl fa)), (pf, .inl (E.2.1 1, 2, .inl af)), (pd, .inl (E.2.1 1, 32, .inl fd))] 0 0
  refine ww_aload_n C dX5_parse_0 0 rfl rfl ?_
  refine ww_iconst (v := 0) C dX5_parse_1 rfl ?_
  refine ww_put (ws' := [(qs, .inr (5, [.ref qt, .ref po, .ref pa, .ref pf, .ref pd, .int 0, .int tn, .int an, .int wr, .int pl])), (qt, .inr (10, [.ref tb, .int (nI tl), .int ta, .int tk, .int ts])), (tb, .inl (E.2.1 0, 160, .inl fb)), (po, .inl (E.2.1 1, 32, .inl fo)), (pa, .inl (E.2.1 1, 32, .inl fa)), (pf, .inl (E.2.1 1, 2, .inl af)), (pd, .inl (E.2.1 1, 32, .inl fd))]) C fp_X5_31 0 rfl rfl rfl rfl rfl dX5_parse_2 ?_
  refine ww_aload_n C dX5_parse_5 0 rfl rfl ?_
  refine ww_iconst (v := 0) C dX5_parse_6 rfl ?_
  refine ww_put (ws' := [(qs, .inr (5, [.ref qt, .ref po, .ref pa, .ref pf, .ref pd, .int 0, .int 0, .int an, .int wr, .int pl])), (qt, .inr (10, [.ref tb, .int (nI tl), .int ta, .int tk, .int ts])), (tb, .inl (E.2.1 0, 160, .inl fb)), (po, .inl (E.2.1 1, 32, .inl fo)), (pa, .inl (E.2.1 1, 32, .inl fa)), (pf, .inl (E.2.1 1, 2, .inl af)), (pd, .inl (E.2.1 1, 32, .inl fd))]) C fp_X5_35 0 rfl rfl rfl rfl rfl dX5_parse_7 ?_
  refine ww_aload_n C dX5_parse_10 0 rfl rfl ?_
  refine ww_iconst (v := 0) C dX5_parse_11 rfl ?_
  refine ww_put (ws' := [(qs, .inr (5, [.ref qt, .ref po, .ref pa, .ref pf, .ref pd, .int 0, .int 0, .int 0, .int wr, .int pl])), (qt, .inr (10, [.ref tb, .int (nI tl), .int ta, .int tk, .int ts])), (tb, .inl (E.2.1 0, 160, .inl fb)), (po, .inl (E.2.1 1, 32, .inl fo)), (pa, .inl (E.2.1 1, 32, .inl fa)), (pf, .inl (E.2.1 1, 2, .inl af)), (pd, .inl (E.2.1 1, 32, .inl fd))]) C fp_X5_38 0 rfl rfl rfl rfl rfl dX5_parse_12 ?_
  refine ww_aload_n C dX5_parse_15 0 rfl rfl ?_
  refine ww_iconst (v := 0) C dX5_parse_16 rfl ?_
  refine ww_put (ws' := [(qs, .inr (5, [.ref qt, .ref po, .ref pa, .ref pf, .ref pd, .int 0, .int 0, .int 0, .int 0, .int pl])), (qt, .inr (10, [.ref tb, .int (nI tl), .int ta, .int tk, .int ts])), (tb, .inl (E.2.1 0, 160, .inl fb)), (po, .inl (E.2.1 1, 32, .inl fo)), (pa, .inl (E.2.1 1, 32, .inl fa)), (pf, .inl (E.2.1 1, 2, .inl af)), (pd, .inl (E.2.1 1, 32, .inl fd))]) C fp_X5_41 0 rfl rfl rfl rfl rfl dX5_parse_17 ?_
  refine ww_aload_n C dX5_parse_20 0 rfl rfl ?_
  refine ww_iconst (v := 0) C dX5_parse_21 rfl ?_
  refine ww_put (ws' := [(qs, .inr (5, [.ref qt, .ref po, .ref pa, .ref pf, .ref pd, .int 0, .int 0, .int 0, .int 0, .int 0])), (qt, .inr (10, [.ref tb, .int (nI tl), .int ta, .int tk, .int ts])), (tb, .inl (E.2.1 0, 160, .inl fb)), (po, .inl (E.2.1 1, 32, .inl fo)), (pa, .inl (E.2.1 1, 32, .inl fa)), (pf, .inl (E.2.1 1, 2, .inl af)), (pd, .inl (E.2.1 1, 32, .inl fd))]) C fp_X5_44 0 rfl rfl rfl rfl rfl dX5_parse_22 ?_
  refine ww_aload_n C dX5_parse_25 0 rfl rfl ?_
  refine ww_get C fg_X5_12 0 rfl rfl dX5_parse_26 ?_
  refine ww_cv (wr := [(qs, .inr (5, [.ref qt, .ref po, .ref pa, .ref pf, .ref pd, .int 0, .int 0, .int 0, .int 0, .int 0])), (tb, .inl (E.2.1 0, 160, .inl fb)), (po, .inl (E.2.1 1, 32, .inl fo)), (pa, .inl (E.2.1 1, 32, .inl fa)), (pf, .inl (E.2.1 1, 2, .inl af)), (pd, .inl (E.2.1 1, 32, .inl fd))]) (k' := 0) (n' := 0) C (run_V (As := []) (rest := []) C (t_rewind X.2.1 E ro qt tb tl ta tk ts) mi_X10_rewind wl_X5_47 rfl 0 10 rfl rfl rfl rfl rfl dX5_parse_29) (roK hro) [1] [0, 2, 3, 4, 5, 6] rfl rfl rfl rfl (fun uz hw => ?_)
  have he_2 := hw
  clear hw
  subst he_2
  refine ww_eq (ws' := [(qs, .inr (5, [.ref qt, .ref po, .ref pa, .ref pf, .ref pd, .int 0, .int 0, .int 0, .int 0, .int 0])), (tb, .inl (E.2.1 0, 160, .inl fb)), (po, .inl (E.2.1 1, 32, .inl fo)), (pa, .inl (E.2.1 1, 32, .inl fa)), (pf, .inl (E.2.1 1, 2, .inl af)), (pd, .inl (E.2.1 1, 32, .inl fd)), (qt, .inr (10, [.ref tb, .int (nI tl), .int 0, .int tk, .int ts]))]) ?_ rfl rfl rfl
  refine ww_aload_n C dX5_parse_32 0 rfl rfl ?_
  refine ww_ci (wr := [(po, .inl (E.2.1 1, 32, .inl fo)), (pa, .inl (E.2.1 1, 32, .inl fa)), (pf, .inl (E.2.1 1, 2, .inl af)), (pd, .inl (E.2.1 1, 32, .inl fd))]) (k' := 0) (n' := 0) C (run_V (As := []) (rest := []) C (q_next X.2.1 E ro qs qt po pa pf pd 0 0 0 0 0 tb tl 0 tk ts fb (by omega) (by omega)) mi_X5_next wl_X5_50 rfl 0 5 rfl rfl rfl rfl rfl dX5_parse_33) (roK hro) [0, 6, 1] [2, 3, 4, 5] rfl rfl rfl rfl (fun r_3 uz hw => ?_)
  rcases hw with hw | hw
  · refine ex3 hw ?_
    clear hw
    intro ta2_4 tk2_5 ts2_6 hw
    refine an8 hw ?_
    clear hw
    intro he_14 he_15 h_7 h_8 h_9 h_10 h_11 h_12 hw
    have h_13 := hw
    clear hw
    have he_14 := he_14.symm
    subst he_14
    subst he_15
    refine ww_eq (ws' := [(po, .inl (E.2.1 1, 32, .inl fo)), (pa, .inl (E.2.1 1, 32, .inl fa)), (pf, .inl (E.2.1 1, 2, .inl af)), (pd, .inl (E.2.1 1, 32, .inl fd)), (qs, .inr (5, [.ref qt, .ref po, .ref pa, .ref pf, .ref pd, .int 0, .int 0, .int 0, .int 0, .int 0])), (qt, .inr (10, [.ref tb, .int (nI tl), .int (nI ta2_4), .int (nI tk2_5), .int (nI ts2_6)])), (tb, .inl (E.2.1 0, 160, .inl fb))]) ?_ rfl rfl rfl
    refine ww_if_eq_f (tgt := 53) C dX5_parse_36 (by decide) (by decide) ?_
    refine ww_aload_n C dX5_parse_39 0 rfl rfl ?_
    refine ww_ci (wr := [(po, .inl (E.2.1 1, 32, .inl fo)), (pa, .inl (E.2.1 1, 32, .inl fa)), (pd, .inl (E.2.1 1, 32, .inl fd))]) (k' := 0) (n' := 0) C (run_V (As := []) (rest := []) C (q_readAfters X.2.1 E ro qs qt po pa pf pd 0 0 0 0 tb tl ta2_4 tk2_5 ts2_6 fb af 0 (by omega) (by omega) (by omega) (by omega) (by omega) h_11 h_12) mi_X5_readAfters wl_X5_54 rfl 0 5 rfl rfl rfl rfl rfl dX5_parse_40) (roK hro) [4, 5, 6, 2] [0, 1, 3] rfl rfl rfl rfl (fun r_28 uz hw => ?_)
    rcases hw with hw | hw
    · refine ex8 hw ?_
      clear hw
      intro ta2_29 tk2_30 ts2_31 an2_32 p2_33 v__34 w__35 af2_36 hw
      refine an8 hw ?_
      clear hw
      intro he_47 he_48 h_37 h_38 h_39 h_40 h_41 h_42 hw
      refine an3 hw ?_
      clear hw
      intro h_43 h_44 h_45 hw
      have h_46 := hw
      clear hw
      have he_47 := he_47.symm
      subst he_47
      subst he_48
      refine ww_eq (ws' := [(po, .inl (E.2.1 1, 32, .inl fo)), (pa, .inl (E.2.1 1, 32, .inl fa)), (pd, .inl (E.2.1 1, 32, .inl fd)), (qs, .inr (5, [.ref qt, .ref po, .ref pa, .ref pf, .ref pd, .int 0, .int 0, .int (nI an2_32), .int 0, .int 0])), (qt, .inr (10, [.ref tb, .int (nI tl), .int (nI ta2_29), .int (nI tk2_30), .int (nI ts2_31)])), (tb, .inl (E.2.1 0, 160, .inl fb)), (pf, .inl (E.2.1 1, 2, .inl af2_36))]) ?_ rfl rfl rfl
      refine ww_if_eq_f (tgt := 53) C dX5_parse_43 (by decide) (by decide) ?_
      refine ww_aload_n C dX5_parse_46 0 rfl rfl ?_
      refine ww_ci (wr := [(pd, .inl (E.2.1 1, 32, .inl fd)), (pf, .inl (E.2.1 1, 2, .inl af2_36))]) (k' := 0) (n' := 0) C (run_V (As := []) (rest := []) C (q_readSaying X.2.1 E ro qs qt po pa pf pd (nI an2_32) 0 0 tb tl ta2_29 tk2_30 ts2_31 fb fo fa p2_33 (by omega) (by omega) (by omega) (by omega) (by omega) h_41 h_42) mi_X5_readSaying wl_X5_57 rfl 0 5 rfl rfl rfl rfl rfl dX5_parse_47) (roK hro) [3, 4, 5, 0, 1] [2, 6] rfl rfl rfl rfl (fun r_64 uz hw => ?_)
      rcases hw with hw | hw
      · refine ex8 hw ?_
        clear hw
        intro ta2_65 tk2_66 ts2_67 nn_68 tn2_69 p2_70 fo2_71 fa2_72 hw
        refine an8 hw ?_
        clear hw
        intro he_83 he_84 h_73 h_74 h_75 h_76 h_77 h_78 hw
        refine an3 hw ?_
        clear hw
        intro h_79 h_80 h_81 hw
        have h_82 := hw
        clear hw
        have he_83 := he_83.symm
        subst he_83
        subst he_84
        refine ww_eq (ws' := [(pd, .inl (E.2.1 1, 32, .inl fd)), (pf, .inl (E.2.1 1, 2, .inl af2_36)), (qs, .inr (5, [.ref qt, .ref po, .ref pa, .ref pf, .ref pd, .int (nI nn_68), .int (nI tn2_69), .int (nI an2_32), .int 0, .int 0])), (qt, .inr (10, [.ref tb, .int (nI tl), .int (nI ta2_65), .int (nI tk2_66), .int (nI ts2_67)])), (tb, .inl (E.2.1 0, 160, .inl fb)), (po, .inl (E.2.1 1, 32, .inl fo2_71)), (pa, .inl (E.2.1 1, 32, .inl fa2_72))]) ?_ rfl rfl rfl
        refine ww_if_ne_t (tgt := 55) C dX5_parse_50 (by decide) (by decide) ?_
        refine ww_aload_n C dX5_parse_55 0 rfl rfl ?_
        refine ww_get C fg_X5_12 2 rfl rfl dX5_parse_56 ?_
        refine ww_get C fg_X5_60 3 rfl rfl dX5_parse_59 ?_
        refine ww_if_eq (tgt := 73) C dX5_parse_62 (by decide) (fun c_102 => ?_) (fun c_102 => ?_)
        · have zc_102 : ((tk2_66 : Nat) : Int) = 0 := i_eq (nI_toInt (n := tk2_66) (by omega)) rfl c_102
          refine ww_aload_n C dX5_parse_73 0 rfl rfl ?_
          refine ww_cq (wr := [(qt, .inr (10, [.ref tb, .int (nI tl), .int (nI ta2_65), .int (nI tk2_66), .int (nI ts2_67)])), (tb, .inl (E.2.1 0, 160, .inl fb))]) (k' := 4) (n' := 73) C (run_V (As := []) (rest := []) C (q_made X.2.1 E ro qs qt po pa pf pd nn_68 (nI tn2_69) an2_32 0 0 fo2_71 fa2_72 af2_36 fd (by assumption) (by assumption) (by omega)) mi_X5_made wl_X5_67 rfl 0 5 rfl rfl rfl rfl rfl dX5_parse_74) (roK hro) [2, 5, 6, 1, 0] [3, 4] rfl rfl rfl rfl (fun r_103 uz hw => ?_)
          refine ex8 hw ?_
          clear hw
          intro sg_104 sx_105 sy_106 sz_107 dp_108 nm_109 fd2_110 so_111 hw
          refine ex2 hw ?_
          clear hw
          intro sr_112 sf_113 hw
          refine an5 hw ?_
          clear hw
          intro he_118 he_119 h_114 h_115 h_116 hw
          have h_117 := hw
          clear hw
          have he_118 := he_118.symm
          subst he_118
          subst he_119
          refine ww_eq (st' := [.ref sg_104]) (ws' := [(qt, .inr (10, [.ref tb, .int (nI tl), .int (nI ta2_65), .int (nI tk2_66), .int (nI ts2_67)])), (tb, .inl (E.2.1 0, 160, .inl fb)), (qs, .inr (5, [.ref qt, .ref po, .ref pa, .ref pf, .ref pd, .int (nI nn_68), .int (nI tn2_69), .int (nI an2_32), .int 0, .int 0])), (po, .inl (E.2.1 1, 32, .inl fo2_71)), (pa, .inl (E.2.1 1, 32, .inl fa2_72)), (pf, .inl (E.2.1 1, 2, .inl af2_36)), (pd, .inl (E.2.1 1, 32, .inl fd2_110)), (sg_104, .inr (8, [.ref sx_105, .ref sy_106, .int (nI tn2_69), .int (nI an2_32), .ref sz_107, .int dp_108, .int nm_109])), (sx_105, .inl (E.2.1 1, nn_68, .inl so_111)), (sy_106, .inl (E.2.1 1, nn_68, .inl sr_112)), (sz_107, .inl (E.2.1 1, 2, .inl sf_113))]) ?_ rfl rfl rfl
          refine ww_eq (st' := [va_rf (some sg_104)]) ?_ rfl rfl rfl
          exact ww_qret (u := [(qs, .inr (5, [.ref qt, .ref po, .ref pa, .ref pf, .ref pd, .int (nI nn_68), .int (nI tn2_69), .int (nI an2_32), .int 0, .int 0])), (qt, .inr (10, [.ref tb, .int (nI tl), .int (nI ta2_65), .int (nI tk2_66), .int (nI ts2_67)])), (tb, .inl (E.2.1 0, 160, .inl fb)), (po, .inl (E.2.1 1, 32, .inl fo2_71)), (pa, .inl (E.2.1 1, 32, .inl fa2_72)), (pf, .inl (E.2.1 1, 2, .inl af2_36)), (pd, .inl (E.2.1 1, 32, .inl fd2_110)), (sg_104, .inr (8, [.ref sx_105, .ref sy_106, .int (nI tn2_69), .int (nI an2_32), .ref sz_107, .int dp_108, .int nm_109])), (sx_105, .inl (E.2.1 1, nn_68, .inl so_111)), (sy_106, .inl (E.2.1 1, nn_68, .inl sr_112)), (sz_107, .inl (E.2.1 1, 2, .inl sf_113))]) C hT (Or.inl ⟨_, rfl⟩) [2, 0, 1, 3, 4, 5, 6, 7, 8, 9, 10] (gqk (by eq_refl)) (ndk (by decide +kernel)) rfl rfl dX5_parse_77 (Or.inr ⟨(nI nn_68), (nI tn2_69), (nI an2_32), 0, 0, (nI ta2_65), (nI tk2_66), (nI ts2_67), fo2_71, fa2_72, af2_36, fd2_110, sg_104, nn_68, an2_32, sx_105, sy_106, sz_107, tn2_69, p2_33, v__34, w__35, dp_108, nm_109, so_111, sr_112, sf_113, rfl, rfl, (by first | assumption | omega | decide), (by first | assumption | omega | decide), ⟨⟨(by rw [← h_12.2.1]; exact h_13), h_45, (by have h9 := h_79.2.1; omega), h_81.1, _, h_81.2, (by rw [← h_80.2.1]; omega)⟩, OPX.cpy h_82 h_115, (fun h => (h_116 0 (by omega)).trans (h_46.1 h)), (fun h => (h_116 1 (by omega)).trans (h_46.2 h))⟩, (by first | assumption | omega | decide), (by first | assumption | omega | decide)⟩)
        · have zc_102 : ((tk2_66 : Nat) : Int) ≠ 0 := i_ne (nI_toInt (n := tk2_66) (by omega)) rfl c_102
          refine ww_aload_n C dX5_parse_65 0 rfl rfl ?_
          refine ww_iconst (v := 2) C dX5_parse_66 rfl ?_
          refine ww_ci (wr := [(pd, .inl (E.2.1 1, 32, .inl fd)), (pf, .inl (E.2.1 1, 2, .inl af2_36)), (tb, .inl (E.2.1 0, 160, .inl fb)), (po, .inl (E.2.1 1, 32, .inl fo2_71)), (pa, .inl (E.2.1 1, 32, .inl fa2_72))]) (k' := 0) (n' := 0) C (run_V (As := [.int 2]) (rest := []) C (q_fail X.2.1 E ro qs 2 qt po pa pf pd (nI nn_68) (nI tn2_69) (nI an2_32) 0 0 tb tl (nI ta2_65) tk2_66 ts2_67 (by omega)) mi_X5_fail wl_X5_63 rfl 0 5 rfl rfl rfl rfl rfl dX5_parse_67) (roK hro) [2, 3] [0, 1, 4, 5, 6] rfl rfl rfl rfl (fun r_120 uz hw => ?_)
          refine an1 hw ?_
          clear hw
          intro he_121 hw
          have he_122 := hw
          clear hw
          have he_121 := he_121.symm
          subst he_121
          subst he_122
          refine ww_eq (ws' := [(pd, .inl (E.2.1 1, 32, .inl fd)), (pf, .inl (E.2.1 1, 2, .inl af2_36)), (tb, .inl (E.2.1 0, 160, .inl fb)), (po, .inl (E.2.1 1, 32, .inl fo2_71)), (pa, .inl (E.2.1 1, 32, .inl fa2_72)), (qs, .inr (5, [.ref qt, .ref po, .ref pa, .ref pf, .ref pd, .int (nI nn_68), .int (nI tn2_69), .int (nI an2_32), .int 2, .int (nI ts2_67)])), (qt, .inr (10, [.ref tb, .int (nI tl), .int (nI ta2_65), .int (nI tk2_66), .int (nI ts2_67)]))]) ?_ rfl rfl rfl
          refine ww_pop C dX5_parse_70 rfl ?_
          refine ww_null C dX5_parse_71 ?_
          refine ww_eq (st' := [va_rf none]) ?_ rfl rfl rfl
          exact ww_qret (u := [(qs, .inr (5, [.ref qt, .ref po, .ref pa, .ref pf, .ref pd, .int (nI nn_68), .int (nI tn2_69), .int (nI an2_32), .int 2, .int (nI ts2_67)])), (qt, .inr (10, [.ref tb, .int (nI tl), .int (nI ta2_65), .int (nI tk2_66), .int (nI ts2_67)])), (tb, .inl (E.2.1 0, 160, .inl fb)), (po, .inl (E.2.1 1, 32, .inl fo2_71)), (pa, .inl (E.2.1 1, 32, .inl fa2_72)), (pf, .inl (E.2.1 1, 2, .inl af2_36)), (pd, .inl (E.2.1 1, 32, .inl fd))]) C hT (Or.inl ⟨_, rfl⟩) [5, 6, 2, 3, 4, 1, 0] rfl rfl rfl rfl dX5_parse_72 (Or.inl ⟨(nI nn_68), (nI tn2_69), (nI an2_32), 2, (nI ta2_65), (nI tk2_66), (nI ts2_67), ts2_67, fo2_71, fa2_72, af2_36, fd, rfl, rfl, (Or.inr (Or.inr ⟨_, _, _, _, (by rw [← h_12.2.1]; exact h_13), h_45, Or.inr ⟨_, _, it_ok h_81.2 (by have h9 := h_79.2.1; omega), (by rw [← h_80.2.1]; omega), h_80.1⟩⟩))⟩)
      · refine ex8 hw ?_
        clear hw
        intro ta2_85 tk2_86 ts2_87 nd2_88 tn2_89 wr2_90 pl2_91 fo2_92 hw
        refine ex1 hw ?_
        clear hw
        intro fa2_93 hw
        refine an7 hw ?_
        clear hw
        intro he_100 he_101 h_94 h_95 h_96 h_97 h_98 hw
        have h_99 := hw
        clear hw
        have he_100 := he_100.symm
        subst he_100
        subst he_101
        refine ww_eq (ws' := [(pd, .inl (E.2.1 1, 32, .inl fd)), (pf, .inl (E.2.1 1, 2, .inl af2_36)), (qs, .inr (5, [.ref qt, .ref po, .ref pa, .ref pf, .ref pd, .int nd2_88, .int tn2_89, .int (nI an2_32), .int wr2_90, .int (nI pl2_91)])), (qt, .inr (10, [.ref tb, .int (nI tl), .int (nI ta2_85), .int (nI tk2_86), .int (nI ts2_87)])), (tb, .inl (E.2.1 0, 160, .inl fb)), (po, .inl (E.2.1 1, 32, .inl fo2_92)), (pa, .inl (E.2.1 1, 32, .inl fa2_93))]) ?_ rfl rfl rfl
        refine ww_if_ne_f (tgt := 55) C dX5_parse_50 (by decide) (rfl) ?_
        refine ww_null C dX5_parse_53 ?_
        refine ww_eq (st' := [va_rf none]) ?_ rfl rfl rfl
        exact ww_qret (u := [(qs, .inr (5, [.ref qt, .ref po, .ref pa, .ref pf, .ref pd, .int nd2_88, .int tn2_89, .int (nI an2_32), .int wr2_90, .int (nI pl2_91)])), (qt, .inr (10, [.ref tb, .int (nI tl), .int (nI ta2_85), .int (nI tk2_86), .int (nI ts2_87)])), (tb, .inl (E.2.1 0, 160, .inl fb)), (po, .inl (E.2.1 1, 32, .inl fo2_92)), (pa, .inl (E.2.1 1, 32, .inl fa2_93)), (pf, .inl (E.2.1 1, 2, .inl af2_36)), (pd, .inl (E.2.1 1, 32, .inl fd))]) C hT (Or.inl ⟨_, rfl⟩) [2, 3, 4, 5, 6, 1, 0] rfl rfl rfl rfl dX5_parse_54 (Or.inl ⟨nd2_88, tn2_89, (nI an2_32), wr2_90, (nI ta2_85), (nI tk2_86), (nI ts2_87), pl2_91, fo2_92, fa2_93, af2_36, fd, rfl, rfl, (Or.inr (Or.inr ⟨_, _, _, _, (by rw [← h_12.2.1]; exact h_13), h_45, Or.inl h_99⟩))⟩)
    · refine ex7 hw ?_
      clear hw
      intro ta2_49 tk2_50 ts2_51 an2_52 wr2_53 pl2_54 af2_55 hw
      refine an7 hw ?_
      clear hw
      intro he_62 he_63 h_56 h_57 h_58 h_59 h_60 hw
      have h_61 := hw
      clear hw
      have he_62 := he_62.symm
      subst he_62
      subst he_63
      refine ww_eq (ws' := [(po, .inl (E.2.1 1, 32, .inl fo)), (pa, .inl (E.2.1 1, 32, .inl fa)), (pd, .inl (E.2.1 1, 32, .inl fd)), (qs, .inr (5, [.ref qt, .ref po, .ref pa, .ref pf, .ref pd, .int 0, .int 0, .int an2_52, .int wr2_53, .int (nI pl2_54)])), (qt, .inr (10, [.ref tb, .int (nI tl), .int (nI ta2_49), .int (nI tk2_50), .int (nI ts2_51)])), (tb, .inl (E.2.1 0, 160, .inl fb)), (pf, .inl (E.2.1 1, 2, .inl af2_55))]) ?_ rfl rfl rfl
      refine ww_if_eq_t (tgt := 53) C dX5_parse_43 (by decide) (rfl) ?_
      refine ww_null C dX5_parse_53 ?_
      refine ww_eq (st' := [va_rf none]) ?_ rfl rfl rfl
      exact ww_qret (u := [(qs, .inr (5, [.ref qt, .ref po, .ref pa, .ref pf, .ref pd, .int 0, .int 0, .int an2_52, .int wr2_53, .int (nI pl2_54)])), (qt, .inr (10, [.ref tb, .int (nI tl), .int (nI ta2_49), .int (nI tk2_50), .int (nI ts2_51)])), (tb, .inl (E.2.1 0, 160, .inl fb)), (po, .inl (E.2.1 1, 32, .inl fo)), (pa, .inl (E.2.1 1, 32, .inl fa)), (pf, .inl (E.2.1 1, 2, .inl af2_55)), (pd, .inl (E.2.1 1, 32, .inl fd))]) C hT (Or.inl ⟨_, rfl⟩) [3, 4, 5, 0, 1, 6, 2] rfl rfl rfl rfl dX5_parse_54 (Or.inl ⟨0, 0, an2_52, wr2_53, (nI ta2_49), (nI tk2_50), (nI ts2_51), pl2_54, fo, fa, af2_55, fd, rfl, rfl, (Or.inr (Or.inl ⟨(by rw [← h_12.2.1]; exact h_13), h_61⟩))⟩)
  · refine ex3 hw ?_
    clear hw
    intro ta2_16 tk2_17 ts2_18 hw
    refine an8 hw ?_
    clear hw
    intro he_26 he_27 h_19 h_20 h_21 h_22 h_23 h_24 hw
    have h_25 := hw
    clear hw
    have he_26 := he_26.symm
    subst he_26
    subst he_27
    refine ww_eq (ws' := [(po, .inl (E.2.1 1, 32, .inl fo)), (pa, .inl (E.2.1 1, 32, .inl fa)), (pf, .inl (E.2.1 1, 2, .inl af)), (pd, .inl (E.2.1 1, 32, .inl fd)), (qs, .inr (5, [.ref qt, .ref po, .ref pa, .ref pf, .ref pd, .int 0, .int 0, .int 0, .int 1, .int (nI ts2_18)])), (qt, .inr (10, [.ref tb, .int (nI tl), .int (nI ta2_16), .int (nI tk2_17), .int (nI ts2_18)])), (tb, .inl (E.2.1 0, 160, .inl fb))]) ?_ rfl rfl rfl
    refine ww_if_eq_t (tgt := 53) C dX5_parse_36 (by decide) (rfl) ?_
    refine ww_null C dX5_parse_53 ?_
    refine ww_eq (st' := [va_rf none]) ?_ rfl rfl rfl
    exact ww_qret (u := [(qs, .inr (5, [.ref qt, .ref po, .ref pa, .ref pf, .ref pd, .int 0, .int 0, .int 0, .int 1, .int (nI ts2_18)])), (qt, .inr (10, [.ref tb, .int (nI tl), .int (nI ta2_16), .int (nI tk2_17), .int (nI ts2_18)])), (tb, .inl (E.2.1 0, 160, .inl fb)), (po, .inl (E.2.1 1, 32, .inl fo)), (pa, .inl (E.2.1 1, 32, .inl fa)), (pf, .inl (E.2.1 1, 2, .inl af)), (pd, .inl (E.2.1 1, 32, .inl fd))]) C hT (Or.inl ⟨_, rfl⟩) [4, 5, 6, 0, 1, 2, 3] rfl rfl rfl rfl dX5_parse_54 (Or.inl ⟨0, 0, 0, 1, (nI ta2_16), (nI tk2_17), (nI ts2_18), ts2_18, fo, fa, af, fd, rfl, rfl, (Or.inl ⟨h_24.2.1.symm.trans h_25, h_24.1⟩)⟩)
end
