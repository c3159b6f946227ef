theorem dX12_readAct_0 : decode cX12_readAct 0 = .ok (.aload_n 0, 1) := by decide +kernel
theorem dX12_readAct_1 : decode cX12_readAct 1 = .ok (.invokevirtual 194, 3) := by decide +kernel
theorem wl_X12_194 : Cond.methodLink RX12 194 yX12_nameHere ∈ TB := tbm (tq6 (List.mem_of_getElem? (i := 73) (by decide +kernel))) (by decide +kernel)
theorem wc_X12_nameHere : Cond.code yX12_nameHere cX12_nameHere 4 (some .int) ∈ TB := tbm (tq6 (List.mem_of_getElem? (i := 76) (rfl))) (by decide +kernel)
theorem wi_X12_nameHere : Cond.instanceMethod yX12_nameHere ∈ TB := tbm (tq6 (List.mem_of_getElem? (i := 75) (by decide +kernel))) (by decide +kernel)
theorem ws_X12_nameHere : Cond.selects RX12 yX12_nameHere yX12_nameHere ∈ TB := tbm (tq0 (List.mem_of_getElem? (i := 47) (by decide +kernel))) (by decide +kernel)
theorem mi_X12_nameHere : MI yX12_nameHere cX12_nameHere 4 (some .int) 0 := ⟨wc_X12_nameHere, wn_X12, ⟨by decide +kernel, by decide +kernel, by decide +kernel⟩, wi_X12_nameHere, ws_X12_nameHere⟩
theorem dX12_readAct_4 : decode cX12_readAct 4 = .ok (.istore_n 1, 1) := by decide +kernel
theorem dX12_readAct_5 : decode cX12_readAct 5 = .ok (.aload_n 0, 1) := by decide +kernel
theorem dX12_readAct_6 : decode cX12_readAct 6 = .ok (.invokevirtual 198, 3) := by decide +kernel
theorem wl_X12_198 : Cond.methodLink RX12 198 yX12_counts ∈ TB := tbm (tq6 (List.mem_of_getElem? (i := 81) (by decide +kernel))) (by decide +kernel)
theorem wc_X12_counts : Cond.code yX12_counts cX12_counts 1 none ∈ TB := tbm (tq6 (List.mem_of_getElem? (i := 84) (rfl))) (by decide +kernel)
theorem wi_X12_counts : Cond.instanceMethod yX12_counts ∈ TB := tbm (tq6 (List.mem_of_getElem? (i := 83) (by decide +kernel))) (by decide +kernel)
theorem ws_X12_counts : Cond.selects RX12 yX12_counts yX12_counts ∈ TB := tbm (tq0 (List.mem_of_getElem? (i := 49) (by decide +kernel))) (by decide +kernel)
theorem mi_X12_counts : MI yX12_counts cX12_counts 1 none 0 := ⟨wc_X12_counts, wn_X12, ⟨by decide +kernel, by decide +kernel, by decide +kernel⟩, wi_X12_counts, ws_X12_counts⟩
theorem dX12_readAct_9 : decode cX12_readAct 9 = .ok (.aload_n 0, 1) := by decide +kernel
theorem dX12_readAct_10 : decode cX12_readAct 10 = .ok (.getfield 157, 3) := by decide +kernel
theorem dX12_readAct_13 : decode cX12_readAct 13 = .ok (.ifCond .ne 20, 3) := by decide +kernel
theorem dX12_readAct_16 : decode cX12_readAct 16 = .ok (.iload_n 1, 1) := by decide +kernel
theorem dX12_readAct_17 : decode cX12_readAct 17 = .ok (.bipush (-4), 2) := by decide +kernel
theorem dX12_readAct_19 : decode cX12_readAct 19 = .ok (.if_icmp .eq 9, 3) := by decide +kernel
theorem dX12_readAct_28 : decode cX12_readAct 28 = .ok (.aload_n 0, 1) := by decide +kernel
theorem dX12_readAct_29 : decode cX12_readAct 29 = .ok (.iconst 2, 1) := by decide +kernel
theorem dX12_readAct_30 : decode cX12_readAct 30 = .ok (.invokevirtual 186, 3) := by decide +kernel
theorem dX12_readAct_33 : decode cX12_readAct 33 = .ok (.iconst 0, 1) := by decide +kernel
theorem dX12_readAct_34 : decode cX12_readAct 34 = .ok (.istore_n 2, 1) := by decide +kernel
theorem dX12_readAct_35 : decode cX12_readAct 35 = .ok (.aload_n 0, 1) := by decide +kernel
theorem dX12_readAct_36 : decode cX12_readAct 36 = .ok (.getfield 157, 3) := by decide +kernel
theorem dX12_readAct_39 : decode cX12_readAct 39 = .ok (.ifCond .ne 63, 3) := by decide +kernel
theorem dX12_readAct_102 : decode cX12_readAct 102 = .ok (.aload_n 0, 1) := by decide +kernel
theorem dX12_readAct_103 : decode cX12_readAct 103 = .ok (.invokevirtual 201, 3) := by decide +kernel
theorem wl_X12_201 : Cond.methodLink RX12 201 yX12_next ∈ TB := tbm (tq6 (List.mem_of_getElem? (i := 53) (by decide +kernel))) (by decide +kernel)
theorem wc_X12_next : Cond.code yX12_next cX12_next 2 none ∈ TB := tbm (tq6 (List.mem_of_getElem? (i := 56) (rfl))) (by decide +kernel)
theorem wi_X12_next : Cond.instanceMethod yX12_next ∈ TB := tbm (tq6 (List.mem_of_getElem? (i := 55) (by decide +kernel))) (by decide +kernel)
theorem ws_X12_next : Cond.selects RX12 yX12_next yX12_next ∈ TB := tbm (tq0 (List.mem_of_getElem? (i := 43) (by decide +kernel))) (by decide +kernel)
theorem mi_X12_next : MI yX12_next cX12_next 2 none 0 := ⟨wc_X12_next, wn_X12, ⟨by decide +kernel, by decide +kernel, by decide +kernel⟩, wi_X12_next, ws_X12_next⟩
theorem dX12_readAct_106 : decode cX12_readAct 106 = .ok (.aload_n 0, 1) := by decide +kernel
theorem dX12_readAct_107 : decode cX12_readAct 107 = .ok (.getfield 157, 3) := by decide +kernel
theorem dX12_readAct_110 : decode cX12_readAct 110 = .ok (.ifCond .ne 40, 3) := by decide +kernel
theorem dX12_readAct_150 : decode cX12_readAct 150 = .ok (.return_, 1) := by decide +kernel
theorem dX12_readAct_22 : decode cX12_readAct 22 = .ok (.iload_n 1, 1) := by decide +kernel
theorem dX12_readAct_23 : decode cX12_readAct 23 = .ok (.bipush 13, 2) := by decide +kernel
theorem dX12_readAct_25 : decode cX12_readAct 25 = .ok (.if_icmp .ne 8, 3) := by decide +kernel
theorem dX12_readAct_42 : decode cX12_readAct 42 = .ok (.iload_n 1, 1) := by decide +kernel
theorem dX12_readAct_43 : decode cX12_readAct 43 = .ok (.bipush 8, 2) := by decide +kernel
theorem dX12_readAct_45 : decode cX12_readAct 45 = .ok (.if_icmp .lt 57, 3) := by decide +kernel
theorem dX12_readAct_113 : decode cX12_readAct 113 = .ok (.sipush 768, 3) := by decide +kernel
theorem dX12_readAct_116 : decode cX12_readAct 116 = .ok (.aload_n 0, 1) := by decide +kernel
theorem dX12_readAct_117 : decode cX12_readAct 117 = .ok (.getfield 37, 3) := by decide +kernel
theorem wf_X12_37 : Cond.fieldLink RX12 37 RX12 "actMany" "[I" ∈ TB := tbm (tq5 (List.mem_of_getElem? (i := 97) (by decide +kernel))) (by decide +kernel)
theorem fg_X12_37 : FG RX12 37 12 19 := ⟨RX12, TX12, 45, uw_X12, wf_X12_37, rfl, by decide, rfl⟩
theorem dX12_readAct_120 : decode cX12_readAct 120 = .ok (.bipush 24, 2) := by decide +kernel
theorem dX12_readAct_122 : decode cX12_readAct 122 = .ok (.iaload, 1) := by decide +kernel
theorem dX12_readAct_123 : decode cX12_readAct 123 = .ok (.iadd, 1) := by decide +kernel
theorem dX12_readAct_124 : decode cX12_readAct 124 = .ok (.istore_n 3, 1) := by decide +kernel
theorem dX12_readAct_125 : decode cX12_readAct 125 = .ok (.aload_n 0, 1) := by decide +kernel
theorem dX12_readAct_126 : decode cX12_readAct 126 = .ok (.getfield 31, 3) := by decide +kernel
theorem wf_X12_31 : Cond.fieldLink RX12 31 RX12 "actOf" "[I" ∈ TB := tbm (tq5 (List.mem_of_getElem? (i := 95) (by decide +kernel))) (by decide +kernel)
theorem fg_X12_31 : FG RX12 31 12 17 := ⟨RX12, TX12, 45, uw_X12, wf_X12_31, rfl, by decide, rfl⟩
theorem dX12_readAct_129 : decode cX12_readAct 129 = .ok (.iload_n 3, 1) := by decide +kernel
theorem dX12_readAct_130 : decode cX12_readAct 130 = .ok (.iload_n 1, 1) := by decide +kernel
theorem dX12_readAct_131 : decode cX12_readAct 131 = .ok (.iastore, 1) := by decide +kernel
theorem dX12_readAct_132 : decode cX12_readAct 132 = .ok (.aload_n 0, 1) := by decide +kernel
theorem dX12_readAct_133 : decode cX12_readAct 133 = .ok (.getfield 34, 3) := by decide +kernel
theorem wf_X12_34 : Cond.fieldLink RX12 34 RX12 "whom" "[I" ∈ TB := tbm (tq5 (List.mem_of_getElem? (i := 96) (by decide +kernel))) (by decide +kernel)
theorem fg_X12_34 : FG RX12 34 12 18 := ⟨RX12, TX12, 45, uw_X12, wf_X12_34, rfl, by decide, rfl⟩
theorem dX12_readAct_136 : decode cX12_readAct 136 = .ok (.iload_n 3, 1) := by decide +kernel
theorem dX12_readAct_137 : decode cX12_readAct 137 = .ok (.iload_n 2, 1) := by decide +kernel
theorem dX12_readAct_138 : decode cX12_readAct 138 = .ok (.iastore, 1) := by decide +kernel
theorem dX12_readAct_139 : decode cX12_readAct 139 = .ok (.aload_n 0, 1) := by decide +kernel
theorem dX12_readAct_140 : decode cX12_readAct 140 = .ok (.getfield 37, 3) := by decide +kernel
theorem dX12_readAct_143 : decode cX12_readAct 143 = .ok (.bipush 24, 2) := by decide +kernel
theorem dX12_readAct_145 : decode cX12_readAct 145 = .ok (.dup2, 1) := by decide +kernel
theorem dX12_readAct_146 : decode cX12_readAct 146 = .ok (.iaload, 1) := by decide +kernel
theorem dX12_readAct_147 : decode cX12_readAct 147 = .ok (.iconst 1, 1) := by decide +kernel
theorem dX12_readAct_148 : decode cX12_readAct 148 = .ok (.iadd, 1) := by decide +kernel
theorem dX12_readAct_149 : decode cX12_readAct 149 = .ok (.iastore, 1) := by decide +kernel
theorem dX12_readAct_48 : decode cX12_readAct 48 = .ok (.aload_n 0, 1) := by decide +kernel
theorem dX12_readAct_49 : decode cX12_readAct 49 = .ok (.invokevirtual 201, 3) := by decide +kernel
theorem dX12_readAct_52 : decode cX12_readAct 52 = .ok (.aload_n 0, 1) := by decide +kernel
theorem dX12_readAct_53 : decode cX12_readAct 53 = .ok (.invokevirtual 198, 3) := by decide +kernel
theorem dX12_readAct_56 : decode cX12_readAct 56 = .ok (.aload_n 0, 1) := by decide +kernel
theorem dX12_readAct_57 : decode cX12_readAct 57 = .ok (.getfield 157, 3) := by decide +kernel
theorem dX12_readAct_60 : decode cX12_readAct 60 = .ok (.ifCond .ne 10, 3) := by decide +kernel
theorem dX12_readAct_63 : decode cX12_readAct 63 = .ok (.aload_n 0, 1) := by decide +kernel
theorem dX12_readAct_64 : decode cX12_readAct 64 = .ok (.invokevirtual 204, 3) := by decide +kernel
theorem wl_X12_204 : Cond.methodLink RX12 204 yX12_groupHere ∈ TB := tbm (tq6 (List.mem_of_getElem? (i := 85) (by decide +kernel))) (by decide +kernel)
theorem wc_X12_groupHere : Cond.code yX12_groupHere cX12_groupHere 5 (some .int) ∈ TB := tbm (tq6 (List.mem_of_getElem? (i := 88) (rfl))) (by decide +kernel)
theorem wi_X12_groupHere : Cond.instanceMethod yX12_groupHere ∈ TB := tbm (tq6 (List.mem_of_getElem? (i := 87) (by decide +kernel))) (by decide +kernel)
theorem ws_X12_groupHere : Cond.selects RX12 yX12_groupHere yX12_groupHere ∈ TB := tbm (tq0 (List.mem_of_getElem? (i := 50) (by decide +kernel))) (by decide +kernel)
theorem mi_X12_groupHere : MI yX12_groupHere cX12_groupHere 5 (some .int) 0 := ⟨wc_X12_groupHere, wn_X12, ⟨by decide +kernel, by decide +kernel, by decide +kernel⟩, wi_X12_groupHere, ws_X12_groupHere⟩
theorem dX12_readAct_67 : decode cX12_readAct 67 = .ok (.goto 4, 3) := by decide +kernel
theorem dX12_readAct_71 : decode cX12_readAct 71 = .ok (.istore_n 2, 1) := by decide +kernel
theorem dX12_readAct_72 : decode cX12_readAct 72 = .ok (.aload_n 0, 1) := by decide +kernel
theorem dX12_readAct_73 : decode cX12_readAct 73 = .ok (.getfield 157, 3) := by decide +kernel
theorem dX12_readAct_76 : decode cX12_readAct 76 = .ok (.ifCond .ne 26, 3) := by decide +kernel
theorem dX12_readAct_79 : decode cX12_readAct 79 = .ok (.iload_n 2, 1) := by decide +kernel
theorem dX12_readAct_80 : decode cX12_readAct 80 = .ok (.ifCond .eq 17, 3) := by decide +kernel
theorem dX12_readAct_97 : decode cX12_readAct 97 = .ok (.aload_n 0, 1) := by decide +kernel
theorem dX12_readAct_98 : decode cX12_readAct 98 = .ok (.iconst 2, 1) := by decide +kernel
theorem dX12_readAct_99 : decode cX12_readAct 99 = .ok (.invokevirtual 186, 3) := by decide +kernel
theorem dX12_readAct_83 : decode cX12_readAct 83 = .ok (.iload_n 1, 1) := by decide +kernel
theorem dX12_readAct_84 : decode cX12_readAct 84 = .ok (.bipush 10, 2) := by decide +kernel
theorem dX12_readAct_86 : decode cX12_readAct 86 = .ok (.if_icmp .ge 16, 3) := by decide +kernel
theorem dX12_readAct_89 : decode cX12_readAct 89 = .ok (.iload_n 2, 1) := by decide +kernel
theorem dX12_readAct_90 : decode cX12_readAct 90 = .ok (.invokestatic 145, 3) := by decide +kernel
theorem dX12_readAct_93 : decode cX12_readAct 93 = .ok (.iconst 1, 1) := by decide +kernel
theorem dX12_readAct_94 : decode cX12_readAct 94 = .ok (.if_icmp .le 8, 3) := by decide +kernel
theorem dX12_readAct_70 : decode cX12_readAct 70 = .ok (.iconst 0, 1) := by decide +kernel
set_option maxRecDepth 100000 in
set_option maxHeartbeats 4000000 in
theorem r_readAct (l : Launch) (E : EV) (ro : va_W) (hm : Nat) (m_manys : Nat) (m_reals : Nat) (m_factsOf : Nat) (m_possible : Nat) (q_undos : Nat) (q_models : Nat) (m_tape : Nat) (q_taped : Nat) (q_fault : Int32) (q_wrongAt : Int32) (q_spot : Nat) (q_place : Nat) (q_token : Nat) (q_value : Nat) (m_ends : Nat) (m_letters : Nat) (m_actOf : Nat) (m_whom : Nat) (m_actMany : Nat) (m_tokens : Nat) (m_afters : Nat) (m_afterOf : Nat) (q_counted : Nat) (m_pile : Nat) (m_caseMany : Nat) (m_happen : Nat) (m_hasIf : Nat) (m_becomes : Nat) (m_goneOf : Nat) (m_heard : Nat) (m_pairs : Nat) (m_heaps : Nat) (q_rounds : Int32) (q_heapMany : Int32) (m_led : Nat) (m_newAt : Nat) (m_knowing : Nat) (m_firsts : Nat) (q_people : Nat) (m_secrets : Nat) (m_tried : Nat) (m_lanes : Nat) (m_lengths : Nat) (m_cells : Nat) (f_tape : Nat → Int32) (f_ends : Nat → Int32) (f_letters : Nat → Int32) (f_actMany : Nat → Int32) (f_actOf : Nat → Int32) (f_whom : Nat → Int32) (hb_ends : EN f_ends) (hb_actMany : NB 25 32 f_actMany) (hq_taped : q_taped ≤ 160) (hq_spot : q_spot ≤ q_taped) (hq_place : q_place ≤ q_spot) (hq_token : q_token ≤ 2) (hq_value : q_value ≤ 9) (hq_counted : q_counted ≤ 32) (ham : cN f_actMany 24 ≤ q_counted) : CT l yX12_readAct (Cond.code yX12_readAct cX12_readAct 4 none :: TB) ({ frames := 2, cells := 0, slots := 0, locals := 49 }) E ro [.ref hm] [(hm, .inr (12, [.ref m_manys, .ref m_reals, .ref m_factsOf, .ref m_possible, .int (nI q_undos), .int (nI q_models), .ref m_tape, .int (nI q_taped), .int q_fault, .int 0, .int q_wrongAt, .int (nI q_spot), .int (nI q_place), .int (nI q_token), .int (nI q_value), .ref m_ends, .ref m_letters, .ref m_actOf, .ref m_whom, .ref m_actMany, .ref m_tokens, .ref m_afters, .ref m_afterOf, .int (nI q_counted), .ref m_pile, .ref m_caseMany, .ref m_happen, .ref m_hasIf, .ref m_becomes, .ref m_goneOf, .ref m_heard, .ref m_pairs, .ref m_heaps, .int q_rounds, .int q_heapMany, .ref m_led, .ref m_newAt, .ref m_knowing, .ref m_firsts, .int (nI q_people), .ref m_secrets, .ref m_tried, .ref m_lanes, .ref m_lengths, .ref m_cells])), (m_tape, .inl (E.2.1 1, 160, .inl f_tape)), (m_ends, .inl (E.2.1 1, 15, .inl f_ends)), (m_letters, .inl (E.2.1 1, 50, .inl f_letters)), (m_actMany, .inl (E.2.1 1, 25, .inl f_actMany)), (m_actOf, .inl (E.2.1 1, 800, .inl f_actOf)), (m_whom, .inl (E.2.1 1, 800, .inl f_whom))] (Qv E (fun uz => (∃ (sp2 : Nat) (pl2 : Nat) (tk2 : Nat) (vl2 : Nat) (ct2 : Nat) (ac_ : Nat) (f_actManyz : Nat → Int32) (f_actOfz : Nat → Int32) (f_whomz : Nat → Int32), uz = [(hm, .inr (12, [.ref m_manys, .ref m_reals, .ref m_factsOf, .ref m_possible, .int (nI q_undos), .int (nI q_models), .ref m_tape, .int (nI q_taped), .int q_fault, .int 0, .int q_wrongAt, .int (nI sp2), .int (nI pl2), .int (nI tk2), .int (nI vl2), .ref m_ends, .ref m_letters, .ref m_actOf, .ref m_whom, .ref m_actMany, .ref m_tokens, .ref m_afters, .ref m_afterOf, .int (nI ct2), .ref m_pile, .ref m_caseMany, .ref m_happen, .ref m_hasIf, .ref m_becomes, .ref m_goneOf, .ref m_heard, .ref m_pairs, .ref m_heaps, .int q_rounds, .int q_heapMany, .ref m_led, .ref m_newAt, .ref m_knowing, .ref m_firsts, .int (nI q_people), .ref m_secrets, .ref m_tried, .ref m_lanes, .ref m_lengths, .ref m_cells])), (m_tape, .inl (E.2.1 1, 160, .inl f_tape)), (m_ends, .inl (E.2.1 1, 15, .inl f_ends)), (m_letters, .inl (E.2.1 1, 50, .inl f_letters)), (m_actMany, .inl (E.2.1 1, 25, .inl f_actManyz)), (m_actOf, .inl (E.2.1 1, 800, .inl f_actOfz)), (m_whom, .inl (E.2.1 1, 800, .inl f_whomz))] ∧ (pl2 ≤ sp2) ∧ (sp2 ≤ q_taped) ∧ (tk2 ≤ 2) ∧ (vl2 ≤ 9) ∧ (NB 25 32 f_actManyz) ∧ (ct2 ≤ 32) ∧ (q_counted < ct2) ∧ (upd f_actMany 24 (nI (cN f_actMany 24 + 1)) = f_actManyz) ∧ (upd f_actOf (768 + cN f_actMany 24) (nI ac_) = f_actOfz) ∧ (ac_ ≤ 12)) ∨ (∃ (sp2 : Nat) (pl2 : Nat) (tk2 : Nat) (vl2 : Nat) (ct2 : Nat) (wr2 : Nat) (wa2 : Int32), uz = [(hm, .inr (12, [.ref m_manys, .ref m_reals, .ref m_factsOf, .ref m_possible, .int (nI q_undos), .int (nI q_models), .ref m_tape, .int (nI q_taped), .int q_fault, .int (nI wr2), .int wa2, .int (nI sp2), .int (nI pl2), .int (nI tk2), .int (nI vl2), .ref m_ends, .ref m_letters, .ref m_actOf, .ref m_whom, .ref m_actMany, .ref m_tokens, .ref m_afters, .ref m_afterOf, .int (nI ct2), .ref m_pile, .ref m_caseMany, .ref m_happen, .ref m_hasIf, .ref m_becomes, .ref m_goneOf, .ref m_heard, .ref m_pairs, .ref m_heaps, .int q_rounds, .int q_heapMany, .ref m_led, .ref m_newAt, .ref m_knowing, .ref m_firsts, .int (nI q_people), .ref m_secrets, .ref m_tried, .ref m_lanes, .ref m_lengths, .ref m_cells])), (m_tape, .inl (E.2.1 1, 160, .inl f_tape)), (m_ends, .inl (E.2.1 1, 15, .inl f_ends)), (m_letters, .inl (E.2.1 1, 50, .inl f_letters)), (m_actMany, .inl (E.2.1 1, 25, .inl f_actMany)), (m_actOf, .inl (E.2.1 1, 800, .inl f_actOf)), (m_whom, .inl (E.2.1 1, 800, .inl f_whom))] ∧ (pl2 ≤ sp2) ∧ (sp2 ≤ q_taped) ∧ (tk2 ≤ 2) ∧ (vl2 ≤ 9) ∧ (0 < wr2) ∧ (wr2 ≤ 5) ∧ (ct2 ≤ 40) ∧ (q_counted ≤ ct2)))) 0 0 := by
  refine ct_of rfl rfl ?_
  intro X C hT hin hro
  show WW X 4 E 0 [(0, .ref hm)] [] [(hm, .inr (12, [.ref m_manys, .ref m_reals, .ref m_factsOf, .ref m_possible, .int (nI q_undos), .int (nI q_models), .ref m_tape, .int (nI q_taped), .int q_fault, .int 0, .int q_wrongAt, .int (nI q_spot), .int (nI q_place), .int (nI q_token), .int (nI q_value), .ref m_ends, .ref m_letters, .ref m_actOf, .ref m_whom, .ref m_actMany, .ref m_tokens, .ref m_afters, .ref m_afterOf, .int (nI q_counted), .ref m_pile, .ref m_caseMany, .ref m_happen, .ref m_hasIf, .ref m_becomes, .ref m_goneOf, .ref m_heard, .ref m_pairs, .ref m_heaps, .int q_rounds, .int q_heapMany, .ref m_led, .ref m_newAt, .ref m_knowing, .ref m_firsts, .int (nI q_people), .ref m_secrets, .ref m_tried, .ref m_lanes, .ref m_lengths, .ref m_cells])), (m_tape, .inl (E.2.1 1, 160, .inl f_tape)), (m_ends, .inl (E.2.1 1, 15, .inl f_ends)), (m_letters, .inl (E.2.1 1, 50, .inl f_letters)), (m_actMany, .inl (E.2.1 1, 25, .inl f_actMany)), (m_actOf, .inl (E.2.1 1, 800, .inl f_actOf)), (m_whom, .inl (E.2.1 1, 800, .inl f_whom))] 0 0
  refine ww_aload_n C dX12_readAct_0 0 rfl rfl ?_
  refine ww_ci (wr := [(m_actMany, .inl (E.2.1 1, 25, .inl f_actMany)), (m_actOf, .inl (E.2.1 1, 800, .inl f_actOf)), (m_whom, .inl (E.2.1 1, 800, .inl f_whom))]) (k' := 0) (n' := 0) C (run_V (As := []) (rest := []) C (r_nameHere X.2.1 E ro hm m_manys m_reals m_factsOf m_possible q_undos q_models m_tape q_taped q_fault 0 q_wrongAt q_spot q_place q_token (nI q_value) m_ends m_letters m_actOf m_whom m_actMany m_tokens m_afters m_afterOf (nI q_counted) m_pile m_caseMany m_happen m_hasIf m_becomes m_goneOf m_heard m_pairs m_heaps q_rounds q_heapMany m_led m_newAt m_knowing m_firsts q_people m_secrets m_tried m_lanes m_lengths m_cells f_tape f_ends f_letters hb_ends (by omega) (by omega) (by omega) (by omega)) mi_X12_nameHere wl_X12_194 rfl 0 12 rfl rfl rfl rfl rfl dX12_readAct_1) (roK hro) [0, 1, 2, 3] [4, 5, 6] rfl rfl rfl rfl (fun r_1 uz hw => ?_)
  rcases hw with hw | hw
  · refine an1 hw ?_
    clear hw
    intro he_2 hw
    have he_3 := hw
    clear hw
    have he_2 := he_2.symm
    subst he_2
    subst he_3
    refine ww_eq (ws' := [(m_actMany, .inl (E.2.1 1, 25, .inl f_actMany)), (m_actOf, .inl (E.2.1 1, 800, .inl f_actOf)), (m_whom, .inl (E.2.1 1, 800, .inl f_whom)), (hm, .inr (12, [.ref m_manys, .ref m_reals, .ref m_factsOf, .ref m_possible, .int (nI q_undos), .int (nI q_models), .ref m_tape, .int (nI q_taped), .int q_fault, .int 0, .int q_wrongAt, .int (nI q_spot), .int (nI q_place), .int (nI q_token), .int (nI q_value), .ref m_ends, .ref m_letters, .ref m_actOf, .ref m_whom, .ref m_actMany, .ref m_tokens, .ref m_afters, .ref m_afterOf, .int (nI q_counted), .ref m_pile, .ref m_caseMany, .ref m_happen, .ref m_hasIf, .ref m_becomes, .ref m_goneOf, .ref m_heard, .ref m_pairs, .ref m_heaps, .int q_rounds, .int q_heapMany, .ref m_led, .ref m_newAt, .ref m_knowing, .ref m_firsts, .int (nI q_people), .ref m_secrets, .ref m_tried, .ref m_lanes, .ref m_lengths, .ref m_cells])), (m_tape, .inl (E.2.1 1, 160, .inl f_tape)), (m_ends, .inl (E.2.1 1, 15, .inl f_ends)), (m_letters, .inl (E.2.1 1, 50, .inl f_letters))]) ?_ rfl rfl rfl
    refine ww_istore_n (lv' := [(1, .int (-4)), (0, .ref hm)]) C dX12_readAct_4 rfl rfl rfl ?_
    refine ww_aload_n C dX12_readAct_5 1 rfl rfl ?_
    refine ww_cv (wr := [(m_actMany, .inl (E.2.1 1, 25, .inl f_actMany)), (m_actOf, .inl (E.2.1 1, 800, .inl f_actOf)), (m_whom, .inl (E.2.1 1, 800, .inl f_whom)), (m_tape, .inl (E.2.1 1, 160, .inl f_tape)), (m_ends, .inl (E.2.1 1, 15, .inl f_ends)), (m_letters, .inl (E.2.1 1, 50, .inl f_letters))]) (k' := 0) (n' := 0) C (run_V (As := []) (rest := []) C (r_counts X.2.1 E ro hm m_manys m_reals m_factsOf m_possible q_undos q_models m_tape q_taped q_fault 0 q_wrongAt (nI q_spot) (nI q_place) q_token (nI q_value) m_ends m_letters m_actOf m_whom m_actMany m_tokens m_afters m_afterOf q_counted m_pile m_caseMany m_happen m_hasIf m_becomes m_goneOf m_heard m_pairs m_heaps q_rounds q_heapMany m_led m_newAt m_knowing m_firsts q_people m_secrets m_tried m_lanes m_lengths m_cells (by omega) (by omega) (by omega)) mi_X12_counts wl_X12_198 rfl 0 12 rfl rfl rfl rfl rfl dX12_readAct_6) (roK hro) [3] [0, 1, 2, 4, 5, 6] rfl rfl rfl rfl (fun uz hw => ?_)
    rcases hw with hw | hw
    · refine an1 hw ?_
      clear hw
      intro he_11 hw
      have h_10 := hw
      clear hw
      subst he_11
      refine ww_eq (ws' := [(m_actMany, .inl (E.2.1 1, 25, .inl f_actMany)), (m_actOf, .inl (E.2.1 1, 800, .inl f_actOf)), (m_whom, .inl (E.2.1 1, 800, .inl f_whom)), (m_tape, .inl (E.2.1 1, 160, .inl f_tape)), (m_ends, .inl (E.2.1 1, 15, .inl f_ends)), (m_letters, .inl (E.2.1 1, 50, .inl f_letters)), (hm, .inr (12, [.ref m_manys, .ref m_reals, .ref m_factsOf, .ref m_possible, .int (nI q_undos), .int (nI q_models), .ref m_tape, .int (nI q_taped), .int q_fault, .int 0, .int q_wrongAt, .int (nI q_spot), .int (nI q_place), .int (nI q_token), .int (nI q_value), .ref m_ends, .ref m_letters, .ref m_actOf, .ref m_whom, .ref m_actMany, .ref m_tokens, .ref m_afters, .ref m_afterOf, .int (nI (q_counted + 1)), .ref m_pile, .ref m_caseMany, .ref m_happen, .ref m_hasIf, .ref m_becomes, .ref m_goneOf, .ref m_heard, .ref m_pairs, .ref m_heaps, .int q_rounds, .int q_heapMany, .ref m_led, .ref m_newAt, .ref m_knowing, .ref m_firsts, .int (nI q_people), .ref m_secrets, .ref m_tried, .ref m_lanes, .ref m_lengths, .ref m_cells]))]) ?_ rfl rfl rfl
      refine ww_aload_n C dX12_readAct_9 1 rfl rfl ?_
      refine ww_get C fg_X12_157 6 rfl rfl dX12_readAct_10 ?_
      refine ww_if_ne_f (tgt := 33) C dX12_readAct_13 (by decide) (rfl) ?_
      refine ww_iload_n C dX12_readAct_16 0 rfl rfl ?_
      refine ww_bipush (v := (-4)) C dX12_readAct_17 rfl ?_
      refine ww_icmp_eq_t (tgt := 28) C dX12_readAct_19 (by decide) (rfl) ?_
      refine ww_aload_n C dX12_readAct_28 1 rfl rfl ?_
      refine ww_iconst (v := 2) C dX12_readAct_29 rfl ?_
      refine ww_cv (wr := [(m_actMany, .inl (E.2.1 1, 25, .inl f_actMany)), (m_actOf, .inl (E.2.1 1, 800, .inl f_actOf)), (m_whom, .inl (E.2.1 1, 800, .inl f_whom)), (m_tape, .inl (E.2.1 1, 160, .inl f_tape)), (m_ends, .inl (E.2.1 1, 15, .inl f_ends)), (m_letters, .inl (E.2.1 1, 50, .inl f_letters))]) (k' := 0) (n' := 0) C (run_V (As := [.int 2]) (rest := []) C (r_fails X.2.1 E ro hm 2 m_manys m_reals m_factsOf m_possible q_undos q_models m_tape q_taped q_fault 0 q_wrongAt (nI q_spot) (nI q_place) (nI q_token) (nI q_value) m_ends m_letters m_actOf m_whom m_actMany m_tokens m_afters m_afterOf (nI (q_counted + 1)) m_pile m_caseMany m_happen m_hasIf m_becomes m_goneOf m_heard m_pairs m_heaps q_rounds q_heapMany m_led m_newAt m_knowing m_firsts q_people m_secrets m_tried m_lanes m_lengths m_cells (by omega)) mi_X12_fails wl_X12_186 rfl 0 12 rfl rfl rfl rfl rfl dX12_readAct_30) (roK hro) [6] [0, 1, 2, 3, 4, 5] rfl rfl rfl rfl (fun uz hw => ?_)
      rcases hw with hw | hw
      · refine an1 hw ?_
        clear hw
        intro he_16 hw
        have h_15 := hw
        clear hw
        subst he_16
        refine ww_eq (ws' := [(m_actMany, .inl (E.2.1 1, 25, .inl f_actMany)), (m_actOf, .inl (E.2.1 1, 800, .inl f_actOf)), (m_whom, .inl (E.2.1 1, 800, .inl f_whom)), (m_tape, .inl (E.2.1 1, 160, .inl f_tape)), (m_ends, .inl (E.2.1 1, 15, .inl f_ends)), (m_letters, .inl (E.2.1 1, 50, .inl f_letters)), (hm, .inr (12, [.ref m_manys, .ref m_reals, .ref m_factsOf, .ref m_possible, .int (nI q_undos), .int (nI q_models), .ref m_tape, .int (nI q_taped), .int q_fault, .int 2, .int (nI q_place), .int (nI q_spot), .int (nI q_place), .int (nI q_token), .int (nI q_value), .ref m_ends, .ref m_letters, .ref m_actOf, .ref m_whom, .ref m_actMany, .ref m_tokens, .ref m_afters, .ref m_afterOf, .int (nI (q_counted + 1)), .ref m_pile, .ref m_caseMany, .ref m_happen, .ref m_hasIf, .ref m_becomes, .ref m_goneOf, .ref m_heard, .ref m_pairs, .ref m_heaps, .int q_rounds, .int q_heapMany, .ref m_led, .ref m_newAt, .ref m_knowing, .ref m_firsts, .int (nI q_people), .ref m_secrets, .ref m_tried, .ref m_lanes, .ref m_lengths, .ref m_cells]))]) ?_ rfl rfl rfl
        refine ww_iconst (v := 0) C dX12_readAct_33 rfl ?_
        refine ww_istore_n (lv' := [(2, .int 0), (1, .int (-4)), (0, .ref hm)]) C dX12_readAct_34 rfl rfl rfl ?_
        refine ww_aload_n C dX12_readAct_35 2 rfl rfl ?_
        refine ww_get C fg_X12_157 6 rfl rfl dX12_readAct_36 ?_
        refine ww_if_ne_t (tgt := 102) C dX12_readAct_39 (by decide) (by decide) ?_
        refine ww_aload_n C dX12_readAct_102 2 rfl rfl ?_
        refine ww_cv (wr := [(m_actMany, .inl (E.2.1 1, 25, .inl f_actMany)), (m_actOf, .inl (E.2.1 1, 800, .inl f_actOf)), (m_whom, .inl (E.2.1 1, 800, .inl f_whom)), (m_ends, .inl (E.2.1 1, 15, .inl f_ends)), (m_letters, .inl (E.2.1 1, 50, .inl f_letters))]) (k' := 0) (n' := 0) C (run_V (As := []) (rest := []) C (r_next X.2.1 E ro hm m_manys m_reals m_factsOf m_possible q_undos q_models m_tape q_taped q_fault 2 (nI q_place) q_spot (nI q_place) q_token q_value m_ends m_letters m_actOf m_whom m_actMany m_tokens m_afters m_afterOf (nI (q_counted + 1)) m_pile m_caseMany m_happen m_hasIf m_becomes m_goneOf m_heard m_pairs m_heaps q_rounds q_heapMany m_led m_newAt m_knowing m_firsts q_people m_secrets m_tried m_lanes m_lengths m_cells f_tape (by omega) (by omega) (by omega) (by omega) (by omega)) mi_X12_next wl_X12_201 rfl 0 12 rfl rfl rfl rfl rfl dX12_readAct_103) (roK hro) [6, 3] [0, 1, 2, 4, 5] rfl rfl rfl rfl (fun uz hw => ?_)
        rcases hw with hw | hw | hw
        · refine an1 hw ?_
          clear hw
          intro he_21 hw
          have h_20 := hw
          clear hw
          subst he_21
          refine ww_eq (ws' := [(m_actMany, .inl (E.2.1 1, 25, .inl f_actMany)), (m_actOf, .inl (E.2.1 1, 800, .inl f_actOf)), (m_whom, .inl (E.2.1 1, 800, .inl f_whom)), (m_ends, .inl (E.2.1 1, 15, .inl f_ends)), (m_letters, .inl (E.2.1 1, 50, .inl f_letters)), (hm, .inr (12, [.ref m_manys, .ref m_reals, .ref m_factsOf, .ref m_possible, .int (nI q_undos), .int (nI q_models), .ref m_tape, .int (nI q_taped), .int q_fault, .int 2, .int (nI q_place), .int (nI q_spot), .int (nI q_place), .int (nI q_token), .int (nI q_value), .ref m_ends, .ref m_letters, .ref m_actOf, .ref m_whom, .ref m_actMany, .ref m_tokens, .ref m_afters, .ref m_afterOf, .int (nI (q_counted + 1)), .ref m_pile, .ref m_caseMany, .ref m_happen, .ref m_hasIf, .ref m_becomes, .ref m_goneOf, .ref m_heard, .ref m_pairs, .ref m_heaps, .int q_rounds, .int q_heapMany, .ref m_led, .ref m_newAt, .ref m_knowing, .ref m_firsts, .int (nI q_people), .ref m_secrets, .ref m_tried, .ref m_lanes, .ref m_lengths, .ref m_cells])), (m_tape, .inl (E.2.1 1, 160, .inl f_tape))]) ?_ rfl rfl rfl
          refine ww_aload_n C dX12_readAct_106 2 rfl rfl ?_
          refine ww_get C fg_X12_157 5 rfl rfl dX12_readAct_107 ?_
          refine ww_if_ne_t (tgt := 150) C dX12_readAct_110 (by decide) (by decide) ?_
          exact ww_vret (u := [(hm, .inr (12, [.ref m_manys, .ref m_reals, .ref m_factsOf, .ref m_possible, .int (nI q_undos), .int (nI q_models), .ref m_tape, .int (nI q_taped), .int q_fault, .int 2, .int (nI q_place), .int (nI q_spot), .int (nI q_place), .int (nI q_token), .int (nI q_value), .ref m_ends, .ref m_letters, .ref m_actOf, .ref m_whom, .ref m_actMany, .ref m_tokens, .ref m_afters, .ref m_afterOf, .int (nI (q_counted + 1)), .ref m_pile, .ref m_caseMany, .ref m_happen, .ref m_hasIf, .ref m_becomes, .ref m_goneOf, .ref m_heard, .ref m_pairs, .ref m_heaps, .int q_rounds, .int q_heapMany, .ref m_led, .ref m_newAt, .ref m_knowing, .ref m_firsts, .int (nI q_people), .ref m_secrets, .ref m_tried, .ref m_lanes, .ref m_lengths, .ref m_cells])), (m_tape, .inl (E.2.1 1, 160, .inl f_tape)), (m_ends, .inl (E.2.1 1, 15, .inl f_ends)), (m_letters, .inl (E.2.1 1, 50, .inl f_letters)), (m_actMany, .inl (E.2.1 1, 25, .inl f_actMany)), (m_actOf, .inl (E.2.1 1, 800, .inl f_actOf)), (m_whom, .inl (E.2.1 1, 800, .inl f_whom))]) C hT [5, 6, 3, 4, 0, 1, 2] rfl rfl rfl rfl dX12_readAct_150 (Or.inr ⟨q_spot, q_place, q_token, q_value, (q_counted + 1), 2, (nI q_place), rfl, (by first | assumption | omega | decide), (by first | assumption | omega | decide), (by first | assumption | omega | decide), (by first | assumption | omega | decide), (by omega), (by omega), (by omega), (by omega)⟩)
        · refine ex4 hw ?_
          clear hw
          intro sp2_22 pl2_23 tk2_24 vl2_25 hw
          refine an5 hw ?_
          clear hw
          intro he_31 h_26 h_27 h_28 h_29 hw
          have h_30 := hw
          clear hw
          subst he_31
          omega
        · refine ex4 hw ?_
          clear hw
          intro sp2_32 pl2_33 tk2_34 vl2_35 hw
          refine an5 hw ?_
          clear hw
          intro he_41 h_36 h_37 h_38 h_39 hw
          have h_40 := hw
          clear hw
          subst he_41
          omega
      · refine an1 hw ?_
        clear hw
        intro he_18 hw
        have h_17 := hw
        clear hw
        subst he_18
        omega
    · refine an1 hw ?_
      clear hw
      intro he_13 hw
      have h_12 := hw
      clear hw
      subst he_13
      refine ww_eq (ws' := [(m_actMany, .inl (E.2.1 1, 25, .inl f_actMany)), (m_actOf, .inl (E.2.1 1, 800, .inl f_actOf)), (m_whom, .inl (E.2.1 1, 800, .inl f_whom)), (m_tape, .inl (E.2.1 1, 160, .inl f_tape)), (m_ends, .inl (E.2.1 1, 15, .inl f_ends)), (m_letters, .inl (E.2.1 1, 50, .inl f_letters)), (hm, .inr (12, [.ref m_manys, .ref m_reals, .ref m_factsOf, .ref m_possible, .int (nI q_undos), .int (nI q_models), .ref m_tape, .int (nI q_taped), .int q_fault, .int 5, .int (nI q_place), .int (nI q_spot), .int (nI q_place), .int (nI q_token), .int (nI q_value), .ref m_ends, .ref m_letters, .ref m_actOf, .ref m_whom, .ref m_actMany, .ref m_tokens, .ref m_afters, .ref m_afterOf, .int (nI (q_counted + 1)), .ref m_pile, .ref m_caseMany, .ref m_happen, .ref m_hasIf, .ref m_becomes, .ref m_goneOf, .ref m_heard, .ref m_pairs, .ref m_heaps, .int q_rounds, .int q_heapMany, .ref m_led, .ref m_newAt, .ref m_knowing, .ref m_firsts, .int (nI q_people), .ref m_secrets, .ref m_tried, .ref m_lanes, .ref m_lengths, .ref m_cells]))]) ?_ rfl rfl rfl
      refine ww_aload_n C dX12_readAct_9 1 rfl rfl ?_
      refine ww_get C fg_X12_157 6 rfl rfl dX12_readAct_10 ?_
      refine ww_if_ne_t (tgt := 33) C dX12_readAct_13 (by decide) (by decide) ?_
      refine ww_iconst (v := 0) C dX12_readAct_33 rfl ?_
      refine ww_istore_n (lv' := [(2, .int 0), (1, .int (-4)), (0, .ref hm)]) C dX12_readAct_34 rfl rfl rfl ?_
      refine ww_aload_n C dX12_readAct_35 2 rfl rfl ?_
      refine ww_get C fg_X12_157 6 rfl rfl dX12_readAct_36 ?_
      refine ww_if_ne_t (tgt := 102) C dX12_readAct_39 (by decide) (by decide) ?_
      refine ww_aload_n C dX12_readAct_102 2 rfl rfl ?_
      refine ww_cv (wr := [(m_actMany, .inl (E.2.1 1, 25, .inl f_actMany)), (m_actOf, .inl (E.2.1 1, 800, .inl f_actOf)), (m_whom, .inl (E.2.1 1, 800, .inl f_whom)), (m_ends, .inl (E.2.1 1, 15, .inl f_ends)), (m_letters, .inl (E.2.1 1, 50, .inl f_letters))]) (k' := 0) (n' := 0) C (run_V (As := []) (rest := []) C (r_next X.2.1 E ro hm m_manys m_reals m_factsOf m_possible q_undos q_models m_tape q_taped q_fault 5 (nI q_place) q_spot (nI q_place) q_token q_value m_ends m_letters m_actOf m_whom m_actMany m_tokens m_afters m_afterOf (nI (q_counted + 1)) m_pile m_caseMany m_happen m_hasIf m_becomes m_goneOf m_heard m_pairs m_heaps q_rounds q_heapMany m_led m_newAt m_knowing m_firsts q_people m_secrets m_tried m_lanes m_lengths m_cells f_tape (by omega) (by omega) (by omega) (by omega) (by omega)) mi_X12_next wl_X12_201 rfl 0 12 rfl rfl rfl rfl rfl dX12_readAct_103) (roK hro) [6, 3] [0, 1, 2, 4, 5] rfl rfl rfl rfl (fun uz hw => ?_)
      rcases hw with hw | hw | hw
      · refine an1 hw ?_
        clear hw
        intro he_44 hw
        have h_43 := hw
        clear hw
        subst he_44
        refine ww_eq (ws' := [(m_actMany, .inl (E.2.1 1, 25, .inl f_actMany)), (m_actOf, .inl (E.2.1 1, 800, .inl f_actOf)), (m_whom, .inl (E.2.1 1, 800, .inl f_whom)), (m_ends, .inl (E.2.1 1, 15, .inl f_ends)), (m_letters, .inl (E.2.1 1, 50, .inl f_letters)), (hm, .inr (12, [.ref m_manys, .ref m_reals, .ref m_factsOf, .ref m_possible, .int (nI q_undos), .int (nI q_models), .ref m_tape, .int (nI q_taped), .int q_fault, .int 5, .int (nI q_place), .int (nI q_spot), .int (nI q_place), .int (nI q_token), .int (nI q_value), .ref m_ends, .ref m_letters, .ref m_actOf, .ref m_whom, .ref m_actMany, .ref m_tokens, .ref m_afters, .ref m_afterOf, .int (nI (q_counted + 1)), .ref m_pile, .ref m_caseMany, .ref m_happen, .ref m_hasIf, .ref m_becomes, .ref m_goneOf, .ref m_heard, .ref m_pairs, .ref m_heaps, .int q_rounds, .int q_heapMany, .ref m_led, .ref m_newAt, .ref m_knowing, .ref m_firsts, .int (nI q_people), .ref m_secrets, .ref m_tried, .ref m_lanes, .ref m_lengths, .ref m_cells])), (m_tape, .inl (E.2.1 1, 160, .inl f_tape))]) ?_ rfl rfl rfl
        refine ww_aload_n C dX12_readAct_106 2 rfl rfl ?_
        refine ww_get C fg_X12_157 5 rfl rfl dX12_readAct_107 ?_
        refine ww_if_ne_t (tgt := 150) C dX12_readAct_110 (by decide) (by decide) ?_
        exact ww_vret (u := [(hm, .inr (12, [.ref m_manys, .ref m_reals, .ref m_factsOf, .ref m_possible, .int (nI q_undos), .int (nI q_models), .ref m_tape, .int (nI q_taped), .int q_fault, .int 5, .int (nI q_place), .int (nI q_spot), .int (nI q_place), .int (nI q_token), .int (nI q_value), .ref m_ends, .ref m_letters, .ref m_actOf, .ref m_whom, .ref m_actMany, .ref m_tokens, .ref m_afters, .ref m_afterOf, .int (nI (q_counted + 1)), .ref m_pile, .ref m_caseMany, .ref m_happen, .ref m_hasIf, .ref m_becomes, .ref m_goneOf, .ref m_heard, .ref m_pairs, .ref m_heaps, .int q_rounds, .int q_heapMany, .ref m_led, .ref m_newAt, .ref m_knowing, .ref m_firsts, .int (nI q_people), .ref m_secrets, .ref m_tried, .ref m_lanes, .ref m_lengths, .ref m_cells])), (m_tape, .inl (E.2.1 1, 160, .inl f_tape)), (m_ends, .inl (E.2.1 1, 15, .inl f_ends)), (m_letters, .inl (E.2.1 1, 50, .inl f_letters)), (m_actMany, .inl (E.2.1 1, 25, .inl f_actMany)), (m_actOf, .inl (E.2.1 1, 800, .inl f_actOf)), (m_whom, .inl (E.2.1 1, 800, .inl f_whom))]) C hT [5, 6, 3, 4, 0, 1, 2] rfl rfl rfl rfl dX12_readAct_150 (Or.inr ⟨q_spot, q_place, q_token, q_value, (q_counted + 1), 5, (nI q_place), rfl, (by first | assumption | omega | decide), (by first | assumption | omega | decide), (by first | assumption | omega | decide), (by first | assumption | omega | decide), (by omega), (by omega), (by omega), (by omega)⟩)
      · refine ex4 hw ?_
        clear hw
        intro sp2_45 pl2_46 tk2_47 vl2_48 hw
        refine an5 hw ?_
        clear hw
        intro he_54 h_49 h_50 h_51 h_52 hw
        have h_53 := hw
        clear hw
        subst he_54
        omega
      · refine ex4 hw ?_
        clear hw
        intro sp2_55 pl2_56 tk2_57 vl2_58 hw
        refine an5 hw ?_
        clear hw
        intro he_64 h_59 h_60 h_61 h_62 hw
        have h_63 := hw
        clear hw
        subst he_64
        omega
  · refine ex1 hw ?_
    clear hw
    intro nn_4 hw
    refine an3 hw ?_
    clear hw
    intro he_7 he_8 h_5 hw
    have h_6 := hw
    clear hw
    have he_7 := he_7.symm
    subst he_7
    subst he_8
    refine ww_eq (ws' := [(m_actMany, .inl (E.2.1 1, 25, .inl f_actMany)), (m_actOf, .inl (E.2.1 1, 800, .inl f_actOf)), (m_whom, .inl (E.2.1 1, 800, .inl f_whom)), (hm, .inr (12, [.ref m_manys, .ref m_reals, .ref m_factsOf, .ref m_possible, .int (nI q_undos), .int (nI q_models), .ref m_tape, .int (nI q_taped), .int q_fault, .int 0, .int q_wrongAt, .int (nI q_spot), .int (nI q_place), .int (nI q_token), .int (nI q_value), .ref m_ends, .ref m_letters, .ref m_actOf, .ref m_whom, .ref m_actMany, .ref m_tokens, .ref m_afters, .ref m_afterOf, .int (nI q_counted), .ref m_pile, .ref m_caseMany, .ref m_happen, .ref m_hasIf, .ref m_becomes, .ref m_goneOf, .ref m_heard, .ref m_pairs, .ref m_heaps, .int q_rounds, .int q_heapMany, .ref m_led, .ref m_newAt, .ref m_knowing, .ref m_firsts, .int (nI q_people), .ref m_secrets, .ref m_tried, .ref m_lanes, .ref m_lengths, .ref m_cells])), (m_tape, .inl (E.2.1 1, 160, .inl f_tape)), (m_ends, .inl (E.2.1 1, 15, .inl f_ends)), (m_letters, .inl (E.2.1 1, 50, .inl f_letters))]) ?_ rfl rfl rfl
    refine ww_istore_n (lv' := [(1, .int (nI nn_4)), (0, .ref hm)]) C dX12_readAct_4 rfl rfl rfl ?_
    refine ww_aload_n C dX12_readAct_5 1 rfl rfl ?_
    refine ww_cv (wr := [(m_actMany, .inl (E.2.1 1, 25, .inl f_actMany)), (m_actOf, .inl (E.2.1 1, 800, .inl f_actOf)), (m_whom, .inl (E.2.1 1, 800, .inl f_whom)), (m_tape, .inl (E.2.1 1, 160, .inl f_tape)), (m_ends, .inl (E.2.1 1, 15, .inl f_ends)), (m_letters, .inl (E.2.1 1, 50, .inl f_letters))]) (k' := 0) (n' := 0) C (run_V (As := []) (rest := []) C (r_counts X.2.1 E ro hm m_manys m_reals m_factsOf m_possible q_undos q_models m_tape q_taped q_fault 0 q_wrongAt (nI q_spot) (nI q_place) q_token (nI q_value) m_ends m_letters m_actOf m_whom m_actMany m_tokens m_afters m_afterOf q_counted m_pile m_caseMany m_happen m_hasIf m_becomes m_goneOf m_heard m_pairs m_heaps q_rounds q_heapMany m_led m_newAt m_knowing m_firsts q_people m_secrets m_tried m_lanes m_lengths m_cells (by omega) (by omega) (by omega)) mi_X12_counts wl_X12_198 rfl 0 12 rfl rfl rfl rfl rfl dX12_readAct_6) (roK hro) [3] [0, 1, 2, 4, 5, 6] rfl rfl rfl rfl (fun uz hw => ?_)
    rcases hw with hw | hw
    · refine an1 hw ?_
      clear hw
      intro he_67 hw
      have h_66 := hw
      clear hw
      subst he_67
      refine ww_eq (ws' := [(m_actMany, .inl (E.2.1 1, 25, .inl f_actMany)), (m_actOf, .inl (E.2.1 1, 800, .inl f_actOf)), (m_whom, .inl (E.2.1 1, 800, .inl f_whom)), (m_tape, .inl (E.2.1 1, 160, .inl f_tape)), (m_ends, .inl (E.2.1 1, 15, .inl f_ends)), (m_letters, .inl (E.2.1 1, 50, .inl f_letters)), (hm, .inr (12, [.ref m_manys, .ref m_reals, .ref m_factsOf, .ref m_possible, .int (nI q_undos), .int (nI q_models), .ref m_tape, .int (nI q_taped), .int q_fault, .int 0, .int q_wrongAt, .int (nI q_spot), .int (nI q_place), .int (nI q_token), .int (nI q_value), .ref m_ends, .ref m_letters, .ref m_actOf, .ref m_whom, .ref m_actMany, .ref m_tokens, .ref m_afters, .ref m_afterOf, .int (nI (q_counted + 1)), .ref m_pile, .ref m_caseMany, .ref m_happen, .ref m_hasIf, .ref m_becomes, .ref m_goneOf, .ref m_heard, .ref m_pairs, .ref m_heaps, .int q_rounds, .int q_heapMany, .ref m_led, .ref m_newAt, .ref m_knowing, .ref m_firsts, .int (nI q_people), .ref m_secrets, .ref m_tried, .ref m_lanes, .ref m_lengths, .ref m_cells]))]) ?_ rfl rfl rfl
      refine ww_aload_n C dX12_readAct_9 1 rfl rfl ?_
      refine ww_get C fg_X12_157 6 rfl rfl dX12_readAct_10 ?_
      refine ww_if_ne_f (tgt := 33) C dX12_readAct_13 (by decide) (rfl) ?_
      refine ww_iload_n C dX12_readAct_16 0 rfl rfl ?_
      refine ww_bipush (v := (-4)) C dX12_readAct_17 rfl ?_
      refine ww_icmp_eq (tgt := 28) C dX12_readAct_19 (by decide) (fun c_70 => ?_) (fun c_70 => ?_)
      · have zc_70 : ((nn_4 : Nat) : Int) = (-4) := i_eq (nI_toInt (n := nn_4) (by omega)) rfl c_70
        refine ww_aload_n C dX12_readAct_28 1 rfl rfl ?_
        refine ww_iconst (v := 2) C dX12_readAct_29 rfl ?_
        refine ww_cv (wr := [(m_actMany, .inl (E.2.1 1, 25, .inl f_actMany)), (m_actOf, .inl (E.2.1 1, 800, .inl f_actOf)), (m_whom, .inl (E.2.1 1, 800, .inl f_whom)), (m_tape, .inl (E.2.1 1, 160, .inl f_tape)), (m_ends, .inl (E.2.1 1, 15, .inl f_ends)), (m_letters, .inl (E.2.1 1, 50, .inl f_letters))]) (k' := 0) (n' := 0) C (run_V (As := [.int 2]) (rest := []) C (r_fails X.2.1 E ro hm 2 m_manys m_reals m_factsOf m_possible q_undos q_models m_tape q_taped q_fault 0 q_wrongAt (nI q_spot) (nI q_place) (nI q_token) (nI q_value) m_ends m_letters m_actOf m_whom m_actMany m_tokens m_afters m_afterOf (nI (q_counted + 1)) m_pile m_caseMany m_happen m_hasIf m_becomes m_goneOf m_heard m_pairs m_heaps q_rounds q_heapMany m_led m_newAt m_knowing m_firsts q_people m_secrets m_tried m_lanes m_lengths m_cells (by omega)) mi_X12_fails wl_X12_186 rfl 0 12 rfl rfl rfl rfl rfl dX12_readAct_30) (roK hro) [6] [0, 1, 2, 3, 4, 5] rfl rfl rfl rfl (fun uz hw => ?_)
        rcases hw with hw | hw
        · refine an1 hw ?_
          clear hw
          intro he_73 hw
          have h_72 := hw
          clear hw
          subst he_73
          refine ww_eq (ws' := [(m_actMany, .inl (E.2.1 1, 25, .inl f_actMany)), (m_actOf, .inl (E.2.1 1, 800, .inl f_actOf)), (m_whom, .inl (E.2.1 1, 800, .inl f_whom)), (m_tape, .inl (E.2.1 1, 160, .inl f_tape)), (m_ends, .inl (E.2.1 1, 15, .inl f_ends)), (m_letters, .inl (E.2.1 1, 50, .inl f_letters)), (hm, .inr (12, [.ref m_manys, .ref m_reals, .ref m_factsOf, .ref m_possible, .int (nI q_undos), .int (nI q_models), .ref m_tape, .int (nI q_taped), .int q_fault, .int 2, .int (nI q_place), .int (nI q_spot), .int (nI q_place), .int (nI q_token), .int (nI q_value), .ref m_ends, .ref m_letters, .ref m_actOf, .ref m_whom, .ref m_actMany, .ref m_tokens, .ref m_afters, .ref m_afterOf, .int (nI (q_counted + 1)), .ref m_pile, .ref m_caseMany, .ref m_happen, .ref m_hasIf, .ref m_becomes, .ref m_goneOf, .ref m_heard, .ref m_pairs, .ref m_heaps, .int q_rounds, .int q_heapMany, .ref m_led, .ref m_newAt, .ref m_knowing, .ref m_firsts, .int (nI q_people), .ref m_secrets, .ref m_tried, .ref m_lanes, .ref m_lengths, .ref m_cells]))]) ?_ rfl rfl rfl
          refine ww_iconst (v := 0) C dX12_readAct_33 rfl ?_
          refine ww_istore_n (lv' := [(2, .int 0), (1, .int (nI nn_4)), (0, .ref hm)]) C dX12_readAct_34 rfl rfl rfl ?_
          refine ww_aload_n C dX12_readAct_35 2 rfl rfl ?_
          refine ww_get C fg_X12_157 6 rfl rfl dX12_readAct_36 ?_
          refine ww_if_ne_t (tgt := 102) C dX12_readAct_39 (by decide) (by decide) ?_
          refine ww_aload_n C dX12_readAct_102 2 rfl rfl ?_
          refine ww_cv (wr := [(m_actMany, .inl (E.2.1 1, 25, .inl f_actMany)), (m_actOf, .inl (E.2.1 1, 800, .inl f_actOf)), (m_whom, .inl (E.2.1 1, 800, .inl f_whom)), (m_ends, .inl (E.2.1 1, 15, .inl f_ends)), (m_letters, .inl (E.2.1 1, 50, .inl f_letters))]) (k' := 0) (n' := 0) C (run_V (As := []) (rest := []) C (r_next X.2.1 E ro hm m_manys m_reals m_factsOf m_possible q_undos q_models m_tape q_taped q_fault 2 (nI q_place) q_spot (nI q_place) q_token q_value m_ends m_letters m_actOf m_whom m_actMany m_tokens m_afters m_afterOf (nI (q_counted + 1)) m_pile m_caseMany m_happen m_hasIf m_becomes m_goneOf m_heard m_pairs m_heaps q_rounds q_heapMany m_led m_newAt m_knowing m_firsts q_people m_secrets m_tried m_lanes m_lengths m_cells f_tape (by omega) (by omega) (by omega) (by omega) (by omega)) mi_X12_next wl_X12_201 rfl 0 12 rfl rfl rfl rfl rfl dX12_readAct_103) (roK hro) [6, 3] [0, 1, 2, 4, 5] rfl rfl rfl rfl (fun uz hw => ?_)
          rcases hw with hw | hw | hw
          · refine an1 hw ?_
            clear hw
            intro he_78 hw
            have h_77 := hw
            clear hw
            subst he_78
            refine ww_eq (ws' := [(m_actMany, .inl (E.2.1 1, 25, .inl f_actMany)), (m_actOf, .inl (E.2.1 1, 800, .inl f_actOf)), (m_whom, .inl (E.2.1 1, 800, .inl f_whom)), (m_ends, .inl (E.2.1 1, 15, .inl f_ends)), (m_letters, .inl (E.2.1 1, 50, .inl f_letters)), (hm, .inr (12, [.ref m_manys, .ref m_reals, .ref m_factsOf, .ref m_possible, .int (nI q_undos), .int (nI q_models), .ref m_tape, .int (nI q_taped), .int q_fault, .int 2, .int (nI q_place), .int (nI q_spot), .int (nI q_place), .int (nI q_token), .int (nI q_value), .ref m_ends, .ref m_letters, .ref m_actOf, .ref m_whom, .ref m_actMany, .ref m_tokens, .ref m_afters, .ref m_afterOf, .int (nI (q_counted + 1)), .ref m_pile, .ref m_caseMany, .ref m_happen, .ref m_hasIf, .ref m_becomes, .ref m_goneOf, .ref m_heard, .ref m_pairs, .ref m_heaps, .int q_rounds, .int q_heapMany, .ref m_led, .ref m_newAt, .ref m_knowing, .ref m_firsts, .int (nI q_people), .ref m_secrets, .ref m_tried, .ref m_lanes, .ref m_lengths, .ref m_cells])), (m_tape, .inl (E.2.1 1, 160, .inl f_tape))]) ?_ rfl rfl rfl
            refine ww_aload_n C dX12_readAct_106 2 rfl rfl ?_
            refine ww_get C fg_X12_157 5 rfl rfl dX12_readAct_107 ?_
            refine ww_if_ne_t (tgt := 150) C dX12_readAct_110 (by decide) (by decide) ?_
            exact ww_vret (u := [(hm, .inr (12, [.ref m_manys, .ref m_reals, .ref m_factsOf, .ref m_possible, .int (nI q_undos), .int (nI q_models), .ref m_tape, .int (nI q_taped), .int q_fault, .int 2, .int (nI q_place), .int (nI q_spot), .int (nI q_place), .int (nI q_token), .int (nI q_value), .ref m_ends, .ref m_letters, .ref m_actOf, .ref m_whom, .ref m_actMany, .ref m_tokens, .ref m_afters, .ref m_afterOf, .int (nI (q_counted + 1)), .ref m_pile, .ref m_caseMany, .ref m_happen, .ref m_hasIf, .ref m_becomes, .ref m_goneOf, .ref m_heard, .ref m_pairs, .ref m_heaps, .int q_rounds, .int q_heapMany, .ref m_led, .ref m_newAt, .ref m_knowing, .ref m_firsts, .int (nI q_people), .ref m_secrets, .ref m_tried, .ref m_lanes, .ref m_lengths, .ref m_cells])), (m_tape, .inl (E.2.1 1, 160, .inl f_tape)), (m_ends, .inl (E.2.1 1, 15, .inl f_ends)), (m_letters, .inl (E.2.1 1, 50, .inl f_letters)), (m_actMany, .inl (E.2.1 1, 25, .inl f_actMany)), (m_actOf, .inl (E.2.1 1, 800, .inl f_actOf)), (m_whom, .inl (E.2.1 1, 800, .inl f_whom))]) C hT [5, 6, 3, 4, 0, 1, 2] rfl rfl rfl rfl dX12_readAct_150 (Or.inr ⟨q_spot, q_place, q_token, q_value, (q_counted + 1), 2, (nI q_place), rfl, (by first | assumption | omega | decide), (by first | assumption | omega | decide), (by first | assumption | omega | decide), (by first | assumption | omega | decide), (by omega), (by omega), (by omega), (by omega)⟩)
          · refine ex4 hw ?_
            clear hw
            intro sp2_79 pl2_80 tk2_81 vl2_82 hw
            refine an5 hw ?_
            clear hw
            intro he_88 h_83 h_84 h_85 h_86 hw
            have h_87 := hw
            clear hw
            subst he_88
            omega
          · refine ex4 hw ?_
            clear hw
            intro sp2_89 pl2_90 tk2_91 vl2_92 hw
            refine an5 hw ?_
            clear hw
            intro he_98 h_93 h_94 h_95 h_96 hw
            have h_97 := hw
            clear hw
            subst he_98
            omega
        · refine an1 hw ?_
          clear hw
          intro he_75 hw
          have h_74 := hw
          clear hw
          subst he_75
          omega
      · have zc_70 : ((nn_4 : Nat) : Int) ≠ (-4) := i_ne (nI_toInt (n := nn_4) (by omega)) rfl c_70
        refine ww_iload_n C dX12_readAct_22 0 rfl rfl ?_
        refine ww_bipush (v := 13) C dX12_readAct_23 rfl ?_
        refine ww_icmp_ne (tgt := 33) C dX12_readAct_25 (by decide) (fun c_99 => ?_) (fun c_99 => ?_)
        · have zc_99 : ((nn_4 : Nat) : Int) ≠ 13 := i_ne (nI_toInt (n := nn_4) (by omega)) rfl c_99
          refine ww_iconst (v := 0) C dX12_readAct_33 rfl ?_
          refine ww_istore_n (lv' := [(2, .int 0), (1, .int (nI nn_4)), (0, .ref hm)]) C dX12_readAct_34 rfl rfl rfl ?_
          refine ww_aload_n C dX12_readAct_35 2 rfl rfl ?_
          refine ww_get C fg_X12_157 6 rfl rfl dX12_readAct_36 ?_
          refine ww_if_ne_f (tgt := 102) C dX12_readAct_39 (by decide) (rfl) ?_
          refine ww_iload_n C dX12_readAct_42 1 rfl rfl ?_
          refine ww_bipush (v := 8) C dX12_readAct_43 rfl ?_
          refine ww_icmp_lt (tgt := 102) C dX12_readAct_45 (by decide) (fun c_100 => ?_) (fun c_100 => ?_)
          · have zc_100 : ((nn_4 : Nat) : Int) < 8 := i_lt (nI_toInt (n := nn_4) (by omega)) rfl c_100
            refine ww_aload_n C dX12_readAct_102 2 rfl rfl ?_
            refine ww_cv (wr := [(m_actMany, .inl (E.2.1 1, 25, .inl f_actMany)), (m_actOf, .inl (E.2.1 1, 800, .inl f_actOf)), (m_whom, .inl (E.2.1 1, 800, .inl f_whom)), (m_ends, .inl (E.2.1 1, 15, .inl f_ends)), (m_letters, .inl (E.2.1 1, 50, .inl f_letters))]) (k' := 0) (n' := 0) C (run_V (As := []) (rest := []) C (r_next X.2.1 E ro hm m_manys m_reals m_factsOf m_possible q_undos q_models m_tape q_taped q_fault 0 q_wrongAt q_spot (nI q_place) q_token q_value m_ends m_letters m_actOf m_whom m_actMany m_tokens m_afters m_afterOf (nI (q_counted + 1)) m_pile m_caseMany m_happen m_hasIf m_becomes m_goneOf m_heard m_pairs m_heaps q_rounds q_heapMany m_led m_newAt m_knowing m_firsts q_people m_secrets m_tried m_lanes m_lengths m_cells f_tape (by omega) (by omega) (by omega) (by omega) (by omega)) mi_X12_next wl_X12_201 rfl 0 12 rfl rfl rfl rfl rfl dX12_readAct_103) (roK hro) [6, 3] [0, 1, 2, 4, 5] rfl rfl rfl rfl (fun uz hw => ?_)
            rcases hw with hw | hw | hw
            · refine an1 hw ?_
              clear hw
              intro he_103 hw
              have h_102 := hw
              clear hw
              subst he_103
              omega
            · refine ex4 hw ?_
              clear hw
              intro sp2_104 pl2_105 tk2_106 vl2_107 hw
              refine an5 hw ?_
              clear hw
              intro he_113 h_108 h_109 h_110 h_111 hw
              have h_112 := hw
              clear hw
              subst he_113
              refine ww_eq (ws' := [(m_actMany, .inl (E.2.1 1, 25, .inl f_actMany)), (m_actOf, .inl (E.2.1 1, 800, .inl f_actOf)), (m_whom, .inl (E.2.1 1, 800, .inl f_whom)), (m_ends, .inl (E.2.1 1, 15, .inl f_ends)), (m_letters, .inl (E.2.1 1, 50, .inl f_letters)), (hm, .inr (12, [.ref m_manys, .ref m_reals, .ref m_factsOf, .ref m_possible, .int (nI q_undos), .int (nI q_models), .ref m_tape, .int (nI q_taped), .int q_fault, .int 0, .int q_wrongAt, .int (nI sp2_104), .int (nI pl2_105), .int (nI tk2_106), .int (nI vl2_107), .ref m_ends, .ref m_letters, .ref m_actOf, .ref m_whom, .ref m_actMany, .ref m_tokens, .ref m_afters, .ref m_afterOf, .int (nI (q_counted + 1)), .ref m_pile, .ref m_caseMany, .ref m_happen, .ref m_hasIf, .ref m_becomes, .ref m_goneOf, .ref m_heard, .ref m_pairs, .ref m_heaps, .int q_rounds, .int q_heapMany, .ref m_led, .ref m_newAt, .ref m_knowing, .ref m_firsts, .int (nI q_people), .ref m_secrets, .ref m_tried, .ref m_lanes, .ref m_lengths, .ref m_cells])), (m_tape, .inl (E.2.1 1, 160, .inl f_tape))]) ?_ rfl rfl rfl
              refine ww_aload_n C dX12_readAct_106 2 rfl rfl ?_
              refine ww_get C fg_X12_157 5 rfl rfl dX12_readAct_107 ?_
              refine ww_if_ne_f (tgt := 150) C dX12_readAct_110 (by decide) (rfl) ?_
              refine ww_sipush (v := 768) C dX12_readAct_113 rfl ?_
              refine ww_aload_n C dX12_readAct_116 2 rfl rfl ?_
              refine ww_get C fg_X12_37 5 rfl rfl dX12_readAct_117 ?_
              refine ww_bipush (v := 24) C dX12_readAct_120 rfl ?_
              have hbx_124 := (hb_actMany 24 (by omega)).2
              refine ww_iald (v := (nI (cN f_actMany 24))) C 0 rfl (vin rfl) (hb_actMany 24 (by omega)).1 dX12_readAct_122 ?_
              refine ww_iadd (v := (nI (768 + (cN f_actMany 24)))) C dX12_readAct_123 (nI_add 768 (cN f_actMany 24)) ?_
              refine ww_istore_n (lv' := [(3, .int (nI (768 + (cN f_actMany 24)))), (2, .int 0), (1, .int (nI nn_4)), (0, .ref hm)]) C dX12_readAct_124 rfl rfl rfl ?_
              refine ww_aload_n C dX12_readAct_125 3 rfl rfl ?_
              refine ww_get C fg_X12_31 5 rfl rfl dX12_readAct_126 ?_
              refine ww_iload_n C dX12_readAct_129 0 rfl rfl ?_
              refine ww_iload_n C dX12_readAct_130 2 rfl rfl ?_
              obtain ⟨f_125, ef_125⟩ : ∃ z : Nat → Int32, upd f_actOf (768 + (cN f_actMany 24)) (nI nn_4) = z := ⟨_, rfl⟩
              refine ww_iast (ws' := [(m_actMany, .inl (E.2.1 1, 25, .inl f_actMany)), (m_actOf, .inl (E.2.1 1, 800, .inl f_125)), (m_whom, .inl (E.2.1 1, 800, .inl f_whom)), (m_ends, .inl (E.2.1 1, 15, .inl f_ends)), (m_letters, .inl (E.2.1 1, 50, .inl f_letters)), (hm, .inr (12, [.ref m_manys, .ref m_reals, .ref m_factsOf, .ref m_possible, .int (nI q_undos), .int (nI q_models), .ref m_tape, .int (nI q_taped), .int q_fault, .int 0, .int q_wrongAt, .int (nI sp2_104), .int (nI pl2_105), .int (nI tk2_106), .int (nI vl2_107), .ref m_ends, .ref m_letters, .ref m_actOf, .ref m_whom, .ref m_actMany, .ref m_tokens, .ref m_afters, .ref m_afterOf, .int (nI (q_counted + 1)), .ref m_pile, .ref m_caseMany, .ref m_happen, .ref m_hasIf, .ref m_becomes, .ref m_goneOf, .ref m_heard, .ref m_pairs, .ref m_heaps, .int q_rounds, .int q_heapMany, .ref m_led, .ref m_newAt, .ref m_knowing, .ref m_firsts, .int (nI q_people), .ref m_secrets, .ref m_tried, .ref m_lanes, .ref m_lengths, .ref m_cells])), (m_tape, .inl (E.2.1 1, 160, .inl f_tape))]) C 1 rfl (vp_in_nI (by omega) (by omega)) (ldn2 (by omega) ef_125) rfl dX12_readAct_131 ?_
              refine ww_aload_n C dX12_readAct_132 3 rfl rfl ?_
              refine ww_get C fg_X12_34 5 rfl rfl dX12_readAct_133 ?_
              refine ww_iload_n C dX12_readAct_136 0 rfl rfl ?_
              refine ww_iload_n C dX12_readAct_137 1 rfl rfl ?_
              obtain ⟨f_126, ef_126⟩ : ∃ z : Nat → Int32, upd f_whom (768 + (cN f_actMany 24)) 0 = z := ⟨_, rfl⟩
              refine ww_iast (ws' := [(m_actMany, .inl (E.2.1 1, 25, .inl f_actMany)), (m_actOf, .inl (E.2.1 1, 800, .inl f_125)), (m_whom, .inl (E.2.1 1, 800, .inl f_126)), (m_ends, .inl (E.2.1 1, 15, .inl f_ends)), (m_letters, .inl (E.2.1 1, 50, .inl f_letters)), (hm, .inr (12, [.ref m_manys, .ref m_reals, .ref m_factsOf, .ref m_possible, .int (nI q_undos), .int (nI q_models), .ref m_tape, .int (nI q_taped), .int q_fault, .int 0, .int q_wrongAt, .int (nI sp2_104), .int (nI pl2_105), .int (nI tk2_106), .int (nI vl2_107), .ref m_ends, .ref m_letters, .ref m_actOf, .ref m_whom, .ref m_actMany, .ref m_tokens, .ref m_afters, .ref m_afterOf, .int (nI (q_counted + 1)), .ref m_pile, .ref m_caseMany, .ref m_happen, .ref m_hasIf, .ref m_becomes, .ref m_goneOf, .ref m_heard, .ref m_pairs, .ref m_heaps, .int q_rounds, .int q_heapMany, .ref m_led, .ref m_newAt, .ref m_knowing, .ref m_firsts, .int (nI q_people), .ref m_secrets, .ref m_tried, .ref m_lanes, .ref m_lengths, .ref m_cells])), (m_tape, .inl (E.2.1 1, 160, .inl f_tape))]) C 2 rfl (vp_in_nI (by omega) (by omega)) (ldn2 (by omega) ef_126) rfl dX12_readAct_138 ?_
              refine ww_aload_n C dX12_readAct_139 3 rfl rfl ?_
              refine ww_get C fg_X12_37 5 rfl rfl dX12_readAct_140 ?_
              refine ww_bipush (v := 24) C dX12_readAct_143 rfl ?_
              refine ww_dup2 C dX12_readAct_145 rfl rfl ?_
              have hbx_127 := (hb_actMany 24 (by omega)).2
              refine ww_iald (v := (nI (cN f_actMany 24))) C 0 rfl (vin rfl) (hb_actMany 24 (by omega)).1 dX12_readAct_146 ?_
              refine ww_iconst (v := 1) C dX12_readAct_147 rfl ?_
              refine ww_iadd (v := (nI ((cN f_actMany 24) + 1))) C dX12_readAct_148 (nI_add (cN f_actMany 24) 1) ?_
              obtain ⟨f_128, ef_128⟩ : ∃ z : Nat → Int32, upd f_actMany 24 (nI ((cN f_actMany 24) + 1)) = z := ⟨_, rfl⟩
              refine ww_iast (ws' := [(m_actMany, .inl (E.2.1 1, 25, .inl f_128)), (m_actOf, .inl (E.2.1 1, 800, .inl f_125)), (m_whom, .inl (E.2.1 1, 800, .inl f_126)), (m_ends, .inl (E.2.1 1, 15, .inl f_ends)), (m_letters, .inl (E.2.1 1, 50, .inl f_letters)), (hm, .inr (12, [.ref m_manys, .ref m_reals, .ref m_factsOf, .ref m_possible, .int (nI q_undos), .int (nI q_models), .ref m_tape, .int (nI q_taped), .int q_fault, .int 0, .int q_wrongAt, .int (nI sp2_104), .int (nI pl2_105), .int (nI tk2_106), .int (nI vl2_107), .ref m_ends, .ref m_letters, .ref m_actOf, .ref m_whom, .ref m_actMany, .ref m_tokens, .ref m_afters, .ref m_afterOf, .int (nI (q_counted + 1)), .ref m_pile, .ref m_caseMany, .ref m_happen, .ref m_hasIf, .ref m_becomes, .ref m_goneOf, .ref m_heard, .ref m_pairs, .ref m_heaps, .int q_rounds, .int q_heapMany, .ref m_led, .ref m_newAt, .ref m_knowing, .ref m_firsts, .int (nI q_people), .ref m_secrets, .ref m_tried, .ref m_lanes, .ref m_lengths, .ref m_cells])), (m_tape, .inl (E.2.1 1, 160, .inl f_tape))]) C 0 rfl (vin rfl) ef_128 rfl dX12_readAct_149 ?_
              exact ww_vret (u := [(hm, .inr (12, [.ref m_manys, .ref m_reals, .ref m_factsOf, .ref m_possible, .int (nI q_undos), .int (nI q_models), .ref m_tape, .int (nI q_taped), .int q_fault, .int 0, .int q_wrongAt, .int (nI sp2_104), .int (nI pl2_105), .int (nI tk2_106), .int (nI vl2_107), .ref m_ends, .ref m_letters, .ref m_actOf, .ref m_whom, .ref m_actMany, .ref m_tokens, .ref m_afters, .ref m_afterOf, .int (nI (q_counted + 1)), .ref m_pile, .ref m_caseMany, .ref m_happen, .ref m_hasIf, .ref m_becomes, .ref m_goneOf, .ref m_heard, .ref m_pairs, .ref m_heaps, .int q_rounds, .int q_heapMany, .ref m_led, .ref m_newAt, .ref m_knowing, .ref m_firsts, .int (nI q_people), .ref m_secrets, .ref m_tried, .ref m_lanes, .ref m_lengths, .ref m_cells])), (m_tape, .inl (E.2.1 1, 160, .inl f_tape)), (m_ends, .inl (E.2.1 1, 15, .inl f_ends)), (m_letters, .inl (E.2.1 1, 50, .inl f_letters)), (m_actMany, .inl (E.2.1 1, 25, .inl f_128)), (m_actOf, .inl (E.2.1 1, 800, .inl f_125)), (m_whom, .inl (E.2.1 1, 800, .inl f_126))]) C hT [5, 6, 3, 4, 0, 1, 2] rfl rfl rfl rfl dX12_readAct_150 (Or.inl ⟨sp2_104, pl2_105, tk2_106, vl2_107, (q_counted + 1), nn_4, f_128, f_125, f_126, rfl, (by first | assumption | omega | decide), (by first | assumption | omega | decide), (by first | assumption | omega | decide), (by first | assumption | omega | decide), (NB.put hb_actMany (t := (cN f_actMany 24) + 1) (by omega) (by decide) ef_128), (by omega), (by omega), ef_128, ef_125, (by omega)⟩)
            · refine ex4 hw ?_
              clear hw
              intro sp2_114 pl2_115 tk2_116 vl2_117 hw
              refine an5 hw ?_
              clear hw
              intro he_123 h_118 h_119 h_120 h_121 hw
              have h_122 := hw
              clear hw
              subst he_123
              refine ww_eq (ws' := [(m_actMany, .inl (E.2.1 1, 25, .inl f_actMany)), (m_actOf, .inl (E.2.1 1, 800, .inl f_actOf)), (m_whom, .inl (E.2.1 1, 800, .inl f_whom)), (m_ends, .inl (E.2.1 1, 15, .inl f_ends)), (m_letters, .inl (E.2.1 1, 50, .inl f_letters)), (hm, .inr (12, [.ref m_manys, .ref m_reals, .ref m_factsOf, .ref m_possible, .int (nI q_undos), .int (nI q_models), .ref m_tape, .int (nI q_taped), .int q_fault, .int 1, .int (nI pl2_115), .int (nI sp2_114), .int (nI pl2_115), .int (nI tk2_116), .int (nI vl2_117), .ref m_ends, .ref m_letters, .ref m_actOf, .ref m_whom, .ref m_actMany, .ref m_tokens, .ref m_afters, .ref m_afterOf, .int (nI (q_counted + 1)), .ref m_pile, .ref m_caseMany, .ref m_happen, .ref m_hasIf, .ref m_becomes, .ref m_goneOf, .ref m_heard, .ref m_pairs, .ref m_heaps, .int q_rounds, .int q_heapMany, .ref m_led, .ref m_newAt, .ref m_knowing, .ref m_firsts, .int (nI q_people), .ref m_secrets, .ref m_tried, .ref m_lanes, .ref m_lengths, .ref m_cells])), (m_tape, .inl (E.2.1 1, 160, .inl f_tape))]) ?_ rfl rfl rfl
              refine ww_aload_n C dX12_readAct_106 2 rfl rfl ?_
              refine ww_get C fg_X12_157 5 rfl rfl dX12_readAct_107 ?_
              refine ww_if_ne_t (tgt := 150) C dX12_readAct_110 (by decide) (by decide) ?_
              exact ww_vret (u := [(hm, .inr (12, [.ref m_manys, .ref m_reals, .ref m_factsOf, .ref m_possible, .int (nI q_undos), .int (nI q_models), .ref m_tape, .int (nI q_taped), .int q_fault, .int 1, .int (nI pl2_115), .int (nI sp2_114), .int (nI pl2_115), .int (nI tk2_116), .int (nI vl2_117), .ref m_ends, .ref m_letters, .ref m_actOf, .ref m_whom, .ref m_actMany, .ref m_tokens, .ref m_afters, .ref m_afterOf, .int (nI (q_counted + 1)), .ref m_pile, .ref m_caseMany, .ref m_happen, .ref m_hasIf, .ref m_becomes, .ref m_goneOf, .ref m_heard, .ref m_pairs, .ref m_heaps, .int q_rounds, .int q_heapMany, .ref m_led, .ref m_newAt, .ref m_knowing, .ref m_firsts, .int (nI q_people), .ref m_secrets, .ref m_tried, .ref m_lanes, .ref m_lengths, .ref m_cells])), (m_tape, .inl (E.2.1 1, 160, .inl f_tape)), (m_ends, .inl (E.2.1 1, 15, .inl f_ends)), (m_letters, .inl (E.2.1 1, 50, .inl f_letters)), (m_actMany, .inl (E.2.1 1, 25, .inl f_actMany)), (m_actOf, .inl (E.2.1 1, 800, .inl f_actOf)), (m_whom, .inl (E.2.1 1, 800, .inl f_whom))]) C hT [5, 6, 3, 4, 0, 1, 2] rfl rfl rfl rfl dX12_readAct_150 (Or.inr ⟨sp2_114, pl2_115, tk2_116, vl2_117, (q_counted + 1), 1, (nI pl2_115), rfl, (by first | assumption | omega | decide), (by first | assumption | omega | decide), (by first | assumption | omega | decide), (by first | assumption | omega | decide), (by omega), (by omega), (by omega), (by omega)⟩)
          · have zc_100 : ((nn_4 : Nat) : Int) ≥ 8 := i_nlt (nI_toInt (n := nn_4) (by omega)) rfl c_100
            refine ww_aload_n C dX12_readAct_48 2 rfl rfl ?_
            refine ww_cv (wr := [(m_actMany, .inl (E.2.1 1, 25, .inl f_actMany)), (m_actOf, .inl (E.2.1 1, 800, .inl f_actOf)), (m_whom, .inl (E.2.1 1, 800, .inl f_whom)), (m_ends, .inl (E.2.1 1, 15, .inl f_ends)), (m_letters, .inl (E.2.1 1, 50, .inl f_letters))]) (k' := 0) (n' := 0) C (run_V (As := []) (rest := []) C (r_next X.2.1 E ro hm m_manys m_reals m_factsOf m_possible q_undos q_models m_tape q_taped q_fault 0 q_wrongAt q_spot (nI q_place) q_token q_value m_ends m_letters m_actOf m_whom m_actMany m_tokens m_afters m_afterOf (nI (q_counted + 1)) m_pile m_caseMany m_happen m_hasIf m_becomes m_goneOf m_heard m_pairs m_heaps q_rounds q_heapMany m_led m_newAt m_knowing m_firsts q_people m_secrets m_tried m_lanes m_lengths m_cells f_tape (by omega) (by omega) (by omega) (by omega) (by omega)) mi_X12_next wl_X12_201 rfl 0 12 rfl rfl rfl rfl rfl dX12_readAct_49) (roK hro) [6, 3] [0, 1, 2, 4, 5] rfl rfl rfl rfl (fun uz hw => ?_)
            rcases hw with hw | hw | hw
            · refine an1 hw ?_
              clear hw
              intro he_131 hw
              have h_130 := hw
              clear hw
              subst he_131
              omega
            · refine ex4 hw ?_
              clear hw
              intro sp2_132 pl2_133 tk2_134 vl2_135 hw
              refine an5 hw ?_
              clear hw
              intro he_141 h_136 h_137 h_138 h_139 hw
              have h_140 := hw
              clear hw
              subst he_141
              refine ww_eq (ws' := [(m_actMany, .inl (E.2.1 1, 25, .inl f_actMany)), (m_actOf, .inl (E.2.1 1, 800, .inl f_actOf)), (m_whom, .inl (E.2.1 1, 800, .inl f_whom)), (m_ends, .inl (E.2.1 1, 15, .inl f_ends)), (m_letters, .inl (E.2.1 1, 50, .inl f_letters)), (hm, .inr (12, [.ref m_manys, .ref m_reals, .ref m_factsOf, .ref m_possible, .int (nI q_undos), .int (nI q_models), .ref m_tape, .int (nI q_taped), .int q_fault, .int 0, .int q_wrongAt, .int (nI sp2_132), .int (nI pl2_133), .int (nI tk2_134), .int (nI vl2_135), .ref m_ends, .ref m_letters, .ref m_actOf, .ref m_whom, .ref m_actMany, .ref m_tokens, .ref m_afters, .ref m_afterOf, .int (nI (q_counted + 1)), .ref m_pile, .ref m_caseMany, .ref m_happen, .ref m_hasIf, .ref m_becomes, .ref m_goneOf, .ref m_heard, .ref m_pairs, .ref m_heaps, .int q_rounds, .int q_heapMany, .ref m_led, .ref m_newAt, .ref m_knowing, .ref m_firsts, .int (nI q_people), .ref m_secrets, .ref m_tried, .ref m_lanes, .ref m_lengths, .ref m_cells])), (m_tape, .inl (E.2.1 1, 160, .inl f_tape))]) ?_ rfl rfl rfl
              refine ww_aload_n C dX12_readAct_52 2 rfl rfl ?_
              refine ww_cv (wr := [(m_actMany, .inl (E.2.1 1, 25, .inl f_actMany)), (m_actOf, .inl (E.2.1 1, 800, .inl f_actOf)), (m_whom, .inl (E.2.1 1, 800, .inl f_whom)), (m_ends, .inl (E.2.1 1, 15, .inl f_ends)), (m_letters, .inl (E.2.1 1, 50, .inl f_letters)), (m_tape, .inl (E.2.1 1, 160, .inl f_tape))]) (k' := 0) (n' := 0) C (run_V (As := []) (rest := []) C (r_counts X.2.1 E ro hm m_manys m_reals m_factsOf m_possible q_undos q_models m_tape q_taped q_fault 0 q_wrongAt (nI sp2_132) (nI pl2_133) tk2_134 (nI vl2_135) m_ends m_letters m_actOf m_whom m_actMany m_tokens m_afters m_afterOf (q_counted + 1) m_pile m_caseMany m_happen m_hasIf m_becomes m_goneOf m_heard m_pairs m_heaps q_rounds q_heapMany m_led m_newAt m_knowing m_firsts q_people m_secrets m_tried m_lanes m_lengths m_cells (by omega) (by omega) (by omega)) mi_X12_counts wl_X12_198 rfl 0 12 rfl rfl rfl rfl rfl dX12_readAct_53) (roK hro) [5] [0, 1, 2, 3, 4, 6] rfl rfl rfl rfl (fun uz hw => ?_)
              rcases hw with hw | hw
              · refine an1 hw ?_
                clear hw
                intro he_154 hw
                have h_153 := hw
                clear hw
                subst he_154
                refine ww_eq (ws' := [(m_actMany, .inl (E.2.1 1, 25, .inl f_actMany)), (m_actOf, .inl (E.2.1 1, 800, .inl f_actOf)), (m_whom, .inl (E.2.1 1, 800, .inl f_whom)), (m_ends, .inl (E.2.1 1, 15, .inl f_ends)), (m_letters, .inl (E.2.1 1, 50, .inl f_letters)), (m_tape, .inl (E.2.1 1, 160, .inl f_tape)), (hm, .inr (12, [.ref m_manys, .ref m_reals, .ref m_factsOf, .ref m_possible, .int (nI q_undos), .int (nI q_models), .ref m_tape, .int (nI q_taped), .int q_fault, .int 0, .int q_wrongAt, .int (nI sp2_132), .int (nI pl2_133), .int (nI tk2_134), .int (nI vl2_135), .ref m_ends, .ref m_letters, .ref m_actOf, .ref m_whom, .ref m_actMany, .ref m_tokens, .ref m_afters, .ref m_afterOf, .int (nI ((q_counted + 1) + 1)), .ref m_pile, .ref m_caseMany, .ref m_happen, .ref m_hasIf, .ref m_becomes, .ref m_goneOf, .ref m_heard, .ref m_pairs, .ref m_heaps, .int q_rounds, .int q_heapMany, .ref m_led, .ref m_newAt, .ref m_knowing, .ref m_firsts, .int (nI q_people), .ref m_secrets, .ref m_tried, .ref m_lanes, .ref m_lengths, .ref m_cells]))]) ?_ rfl rfl rfl
                refine ww_aload_n C dX12_readAct_56 2 rfl rfl ?_
                refine ww_get C fg_X12_157 6 rfl rfl dX12_readAct_57 ?_
                refine ww_if_ne_f (tgt := 70) C dX12_readAct_60 (by decide) (rfl) ?_
                refine ww_aload_n C dX12_readAct_63 2 rfl rfl ?_
                refine ww_ci (wr := [(m_actMany, .inl (E.2.1 1, 25, .inl f_actMany)), (m_actOf, .inl (E.2.1 1, 800, .inl f_actOf)), (m_whom, .inl (E.2.1 1, 800, .inl f_whom)), (m_ends, .inl (E.2.1 1, 15, .inl f_ends)), (m_letters, .inl (E.2.1 1, 50, .inl f_letters))]) (k' := 0) (n' := 0) C (run_V (As := []) (rest := []) C (r_groupHere X.2.1 E ro hm m_manys m_reals m_factsOf m_possible q_undos q_models m_tape q_taped q_fault 0 q_wrongAt sp2_132 pl2_133 tk2_134 (nI vl2_135) m_ends m_letters m_actOf m_whom m_actMany m_tokens m_afters m_afterOf (nI ((q_counted + 1) + 1)) m_pile m_caseMany m_happen m_hasIf m_becomes m_goneOf m_heard m_pairs m_heaps q_rounds q_heapMany m_led m_newAt m_knowing m_firsts q_people m_secrets m_tried m_lanes m_lengths m_cells f_tape (by omega) (by omega) (by omega) (by omega)) mi_X12_groupHere wl_X12_204 rfl 0 12 rfl rfl rfl rfl rfl dX12_readAct_64) (roK hro) [6, 5] [0, 1, 2, 3, 4] rfl rfl rfl rfl (fun r_157 uz hw => ?_)
                rcases hw with hw | hw
                · refine an1 hw ?_
                  clear hw
                  intro he_158 hw
                  have he_159 := hw
                  clear hw
                  have he_158 := he_158.symm
                  subst he_158
                  subst he_159
                  refine ww_eq (ws' := [(m_actMany, .inl (E.2.1 1, 25, .inl f_actMany)), (m_actOf, .inl (E.2.1 1, 800, .inl f_actOf)), (m_whom, .inl (E.2.1 1, 800, .inl f_whom)), (m_ends, .inl (E.2.1 1, 15, .inl f_ends)), (m_letters, .inl (E.2.1 1, 50, .inl f_letters)), (hm, .inr (12, [.ref m_manys, .ref m_reals, .ref m_factsOf, .ref m_possible, .int (nI q_undos), .int (nI q_models), .ref m_tape, .int (nI q_taped), .int q_fault, .int 0, .int q_wrongAt, .int (nI sp2_132), .int (nI pl2_133), .int (nI tk2_134), .int (nI vl2_135), .ref m_ends, .ref m_letters, .ref m_actOf, .ref m_whom, .ref m_actMany, .ref m_tokens, .ref m_afters, .ref m_afterOf, .int (nI ((q_counted + 1) + 1)), .ref m_pile, .ref m_caseMany, .ref m_happen, .ref m_hasIf, .ref m_becomes, .ref m_goneOf, .ref m_heard, .ref m_pairs, .ref m_heaps, .int q_rounds, .int q_heapMany, .ref m_led, .ref m_newAt, .ref m_knowing, .ref m_firsts, .int (nI q_people), .ref m_secrets, .ref m_tried, .ref m_lanes, .ref m_lengths, .ref m_cells])), (m_tape, .inl (E.2.1 1, 160, .inl f_tape))]) ?_ rfl rfl rfl
                  refine ww_goto (tgt := 71) C dX12_readAct_67 (by decide) ?_
                  refine ww_istore_n (lv' := [(2, .int 0), (1, .int (nI nn_4)), (0, .ref hm)]) C dX12_readAct_71 rfl rfl rfl ?_
                  refine ww_aload_n C dX12_readAct_72 2 rfl rfl ?_
                  refine ww_get C fg_X12_157 5 rfl rfl dX12_readAct_73 ?_
                  refine ww_if_ne_f (tgt := 102) C dX12_readAct_76 (by decide) (rfl) ?_
                  refine ww_iload_n C dX12_readAct_79 0 rfl rfl ?_
                  refine ww_if_eq_t (tgt := 97) C dX12_readAct_80 (by decide) (rfl) ?_
                  refine ww_aload_n C dX12_readAct_97 2 rfl rfl ?_
                  refine ww_iconst (v := 2) C dX12_readAct_98 rfl ?_
                  refine ww_cv (wr := [(m_actMany, .inl (E.2.1 1, 25, .inl f_actMany)), (m_actOf, .inl (E.2.1 1, 800, .inl f_actOf)), (m_whom, .inl (E.2.1 1, 800, .inl f_whom)), (m_ends, .inl (E.2.1 1, 15, .inl f_ends)), (m_letters, .inl (E.2.1 1, 50, .inl f_letters)), (m_tape, .inl (E.2.1 1, 160, .inl f_tape))]) (k' := 0) (n' := 0) C (run_V (As := [.int 2]) (rest := []) C (r_fails X.2.1 E ro hm 2 m_manys m_reals m_factsOf m_possible q_undos q_models m_tape q_taped q_fault 0 q_wrongAt (nI sp2_132) (nI pl2_133) (nI tk2_134) (nI vl2_135) m_ends m_letters m_actOf m_whom m_actMany m_tokens m_afters m_afterOf (nI ((q_counted + 1) + 1)) m_pile m_caseMany m_happen m_hasIf m_becomes m_goneOf m_heard m_pairs m_heaps q_rounds q_heapMany m_led m_newAt m_knowing m_firsts q_people m_secrets m_tried m_lanes m_lengths m_cells (by omega)) mi_X12_fails wl_X12_186 rfl 0 12 rfl rfl rfl rfl rfl dX12_readAct_99) (roK hro) [5] [0, 1, 2, 3, 4, 6] rfl rfl rfl rfl (fun uz hw => ?_)
                  rcases hw with hw | hw
                  · refine an1 hw ?_
                    clear hw
                    intro he_164 hw
                    have h_163 := hw
                    clear hw
                    subst he_164
                    refine ww_eq (ws' := [(m_actMany, .inl (E.2.1 1, 25, .inl f_actMany)), (m_actOf, .inl (E.2.1 1, 800, .inl f_actOf)), (m_whom, .inl (E.2.1 1, 800, .inl f_whom)), (m_ends, .inl (E.2.1 1, 15, .inl f_ends)), (m_letters, .inl (E.2.1 1, 50, .inl f_letters)), (m_tape, .inl (E.2.1 1, 160, .inl f_tape)), (hm, .inr (12, [.ref m_manys, .ref m_reals, .ref m_factsOf, .ref m_possible, .int (nI q_undos), .int (nI q_models), .ref m_tape, .int (nI q_taped), .int q_fault, .int 2, .int (nI pl2_133), .int (nI sp2_132), .int (nI pl2_133), .int (nI tk2_134), .int (nI vl2_135), .ref m_ends, .ref m_letters, .ref m_actOf, .ref m_whom, .ref m_actMany, .ref m_tokens, .ref m_afters, .ref m_afterOf, .int (nI ((q_counted + 1) + 1)), .ref m_pile, .ref m_caseMany, .ref m_happen, .ref m_hasIf, .ref m_becomes, .ref m_goneOf, .ref m_heard, .ref m_pairs, .ref m_heaps, .int q_rounds, .int q_heapMany, .ref m_led, .ref m_newAt, .ref m_knowing, .ref m_firsts, .int (nI q_people), .ref m_secrets, .ref m_tried, .ref m_lanes, .ref m_lengths, .ref m_cells]))]) ?_ rfl rfl rfl
                    refine ww_aload_n C dX12_readAct_102 2 rfl rfl ?_
                    refine ww_cv (wr := [(m_actMany, .inl (E.2.1 1, 25, .inl f_actMany)), (m_actOf, .inl (E.2.1 1, 800, .inl f_actOf)), (m_whom, .inl (E.2.1 1, 800, .inl f_whom)), (m_ends, .inl (E.2.1 1, 15, .inl f_ends)), (m_letters, .inl (E.2.1 1, 50, .inl f_letters))]) (k' := 0) (n' := 0) C (run_V (As := []) (rest := []) C (r_next X.2.1 E ro hm m_manys m_reals m_factsOf m_possible q_undos q_models m_tape q_taped q_fault 2 (nI pl2_133) sp2_132 (nI pl2_133) tk2_134 vl2_135 m_ends m_letters m_actOf m_whom m_actMany m_tokens m_afters m_afterOf (nI ((q_counted + 1) + 1)) m_pile m_caseMany m_happen m_hasIf m_becomes m_goneOf m_heard m_pairs m_heaps q_rounds q_heapMany m_led m_newAt m_knowing m_firsts q_people m_secrets m_tried m_lanes m_lengths m_cells f_tape (by omega) (by omega) (by omega) (by omega) (by omega)) mi_X12_next wl_X12_201 rfl 0 12 rfl rfl rfl rfl rfl dX12_readAct_103) (roK hro) [6, 5] [0, 1, 2, 3, 4] rfl rfl rfl rfl (fun uz hw => ?_)
                    rcases hw with hw | hw | hw
                    · refine an1 hw ?_
                      clear hw
                      intro he_169 hw
                      have h_168 := hw
                      clear hw
                      subst he_169
                      refine ww_eq (ws' := [(m_actMany, .inl (E.2.1 1, 25, .inl f_actMany)), (m_actOf, .inl (E.2.1 1, 800, .inl f_actOf)), (m_whom, .inl (E.2.1 1, 800, .inl f_whom)), (m_ends, .inl (E.2.1 1, 15, .inl f_ends)), (m_letters, .inl (E.2.1 1, 50, .inl f_letters)), (hm, .inr (12, [.ref m_manys, .ref m_reals, .ref m_factsOf, .ref m_possible, .int (nI q_undos), .int (nI q_models), .ref m_tape, .int (nI q_taped), .int q_fault, .int 2, .int (nI pl2_133), .int (nI sp2_132), .int (nI pl2_133), .int (nI tk2_134), .int (nI vl2_135), .ref m_ends, .ref m_letters, .ref m_actOf, .ref m_whom, .ref m_actMany, .ref m_tokens, .ref m_afters, .ref m_afterOf, .int (nI ((q_counted + 1) + 1)), .ref m_pile, .ref m_caseMany, .ref m_happen, .ref m_hasIf, .ref m_becomes, .ref m_goneOf, .ref m_heard, .ref m_pairs, .ref m_heaps, .int q_rounds, .int q_heapMany, .ref m_led, .ref m_newAt, .ref m_knowing, .ref m_firsts, .int (nI q_people), .ref m_secrets, .ref m_tried, .ref m_lanes, .ref m_lengths, .ref m_cells])), (m_tape, .inl (E.2.1 1, 160, .inl f_tape))]) ?_ rfl rfl rfl
                      refine ww_aload_n C dX12_readAct_106 2 rfl rfl ?_
                      refine ww_get C fg_X12_157 5 rfl rfl dX12_readAct_107 ?_
                      refine ww_if_ne_t (tgt := 150) C dX12_readAct_110 (by decide) (by decide) ?_
                      exact ww_vret (u := [(hm, .inr (12, [.ref m_manys, .ref m_reals, .ref m_factsOf, .ref m_possible, .int (nI q_undos), .int (nI q_models), .ref m_tape, .int (nI q_taped), .int q_fault, .int 2, .int (nI pl2_133), .int (nI sp2_132), .int (nI pl2_133), .int (nI tk2_134), .int (nI vl2_135), .ref m_ends, .ref m_letters, .ref m_actOf, .ref m_whom, .ref m_actMany, .ref m_tokens, .ref m_afters, .ref m_afterOf, .int (nI ((q_counted + 1) + 1)), .ref m_pile, .ref m_caseMany, .ref m_happen, .ref m_hasIf, .ref m_becomes, .ref m_goneOf, .ref m_heard, .ref m_pairs, .ref m_heaps, .int q_rounds, .int q_heapMany, .ref m_led, .ref m_newAt, .ref m_knowing, .ref m_firsts, .int (nI q_people), .ref m_secrets, .ref m_tried, .ref m_lanes, .ref m_lengths, .ref m_cells])), (m_tape, .inl (E.2.1 1, 160, .inl f_tape)), (m_ends, .inl (E.2.1 1, 15, .inl f_ends)), (m_letters, .inl (E.2.1 1, 50, .inl f_letters)), (m_actMany, .inl (E.2.1 1, 25, .inl f_actMany)), (m_actOf, .inl (E.2.1 1, 800, .inl f_actOf)), (m_whom, .inl (E.2.1 1, 800, .inl f_whom))]) C hT [5, 6, 3, 4, 0, 1, 2] rfl rfl rfl rfl dX12_readAct_150 (Or.inr ⟨sp2_132, pl2_133, tk2_134, vl2_135, ((q_counted + 1) + 1), 2, (nI pl2_133), rfl, (by first | assumption | omega | decide), (by first | assumption | omega | decide), (by first | assumption | omega | decide), (by first | assumption | omega | decide), (by omega), (by omega), (by omega), (by omega)⟩)
                    · refine ex4 hw ?_
                      clear hw
                      intro sp2_170 pl2_171 tk2_172 vl2_173 hw
                      refine an5 hw ?_
                      clear hw
                      intro he_179 h_174 h_175 h_176 h_177 hw
                      have h_178 := hw
                      clear hw
                      subst he_179
                      omega
                    · refine ex4 hw ?_
                      clear hw
                      intro sp2_180 pl2_181 tk2_182 vl2_183 hw
                      refine an5 hw ?_
                      clear hw
                      intro he_189 h_184 h_185 h_186 h_187 hw
                      have h_188 := hw
                      clear hw
                      subst he_189
                      omega
                  · refine an1 hw ?_
                    clear hw
                    intro he_166 hw
                    have h_165 := hw
                    clear hw
                    subst he_166
                    omega
                · refine an1 hw ?_
                  clear hw
                  intro he_161 hw
                  have h_160 := hw
                  clear hw
                  subst he_161
                  refine ww_eq (ws' := [(m_actMany, .inl (E.2.1 1, 25, .inl f_actMany)), (m_actOf, .inl (E.2.1 1, 800, .inl f_actOf)), (m_whom, .inl (E.2.1 1, 800, .inl f_whom)), (m_ends, .inl (E.2.1 1, 15, .inl f_ends)), (m_letters, .inl (E.2.1 1, 50, .inl f_letters)), (hm, .inr (12, [.ref m_manys, .ref m_reals, .ref m_factsOf, .ref m_possible, .int (nI q_undos), .int (nI q_models), .ref m_tape, .int (nI q_taped), .int q_fault, .int 0, .int q_wrongAt, .int (nI sp2_132), .int (nI pl2_133), .int (nI tk2_134), .int (nI vl2_135), .ref m_ends, .ref m_letters, .ref m_actOf, .ref m_whom, .ref m_actMany, .ref m_tokens, .ref m_afters, .ref m_afterOf, .int (nI ((q_counted + 1) + 1)), .ref m_pile, .ref m_caseMany, .ref m_happen, .ref m_hasIf, .ref m_becomes, .ref m_goneOf, .ref m_heard, .ref m_pairs, .ref m_heaps, .int q_rounds, .int q_heapMany, .ref m_led, .ref m_newAt, .ref m_knowing, .ref m_firsts, .int (nI q_people), .ref m_secrets, .ref m_tried, .ref m_lanes, .ref m_lengths, .ref m_cells])), (m_tape, .inl (E.2.1 1, 160, .inl f_tape))]) ?_ rfl rfl rfl
                  refine ww_goto (tgt := 71) C dX12_readAct_67 (by decide) ?_
                  refine ww_istore_n (lv' := [(2, .int r_157), (1, .int (nI nn_4)), (0, .ref hm)]) C dX12_readAct_71 rfl rfl rfl ?_
                  refine ww_aload_n C dX12_readAct_72 2 rfl rfl ?_
                  refine ww_get C fg_X12_157 5 rfl rfl dX12_readAct_73 ?_
                  refine ww_if_ne_f (tgt := 102) C dX12_readAct_76 (by decide) (rfl) ?_
                  refine ww_iload_n C dX12_readAct_79 0 rfl rfl ?_
                  refine ww_if_eq (tgt := 97) C dX12_readAct_80 (by decide) (fun c_190 => ?_) (fun c_190 => ?_)
                  · have zc_190 : r_157.toInt = 0 := i_eq rfl rfl c_190
                    refine ww_aload_n C dX12_readAct_97 2 rfl rfl ?_
                    refine ww_iconst (v := 2) C dX12_readAct_98 rfl ?_
                    refine ww_cv (wr := [(m_actMany, .inl (E.2.1 1, 25, .inl f_actMany)), (m_actOf, .inl (E.2.1 1, 800, .inl f_actOf)), (m_whom, .inl (E.2.1 1, 800, .inl f_whom)), (m_ends, .inl (E.2.1 1, 15, .inl f_ends)), (m_letters, .inl (E.2.1 1, 50, .inl f_letters)), (m_tape, .inl (E.2.1 1, 160, .inl f_tape))]) (k' := 0) (n' := 0) C (run_V (As := [.int 2]) (rest := []) C (r_fails X.2.1 E ro hm 2 m_manys m_reals m_factsOf m_possible q_undos q_models m_tape q_taped q_fault 0 q_wrongAt (nI sp2_132) (nI pl2_133) (nI tk2_134) (nI vl2_135) m_ends m_letters m_actOf m_whom m_actMany m_tokens m_afters m_afterOf (nI ((q_counted + 1) + 1)) m_pile m_caseMany m_happen m_hasIf m_becomes m_goneOf m_heard m_pairs m_heaps q_rounds q_heapMany m_led m_newAt m_knowing m_firsts q_people m_secrets m_tried m_lanes m_lengths m_cells (by omega)) mi_X12_fails wl_X12_186 rfl 0 12 rfl rfl rfl rfl rfl dX12_readAct_99) (roK hro) [5] [0, 1, 2, 3, 4, 6] rfl rfl rfl rfl (fun uz hw => ?_)
                    rcases hw with hw | hw
                    · refine an1 hw ?_
                      clear hw
                      intro he_193 hw
                      have h_192 := hw
                      clear hw
                      subst he_193
                      refine ww_eq (ws' := [(m_actMany, .inl (E.2.1 1, 25, .inl f_actMany)), (m_actOf, .inl (E.2.1 1, 800, .inl f_actOf)), (m_whom, .inl (E.2.1 1, 800, .inl f_whom)), (m_ends, .inl (E.2.1 1, 15, .inl f_ends)), (m_letters, .inl (E.2.1 1, 50, .inl f_letters)), (m_tape, .inl (E.2.1 1, 160, .inl f_tape)), (hm, .inr (12, [.ref m_manys, .ref m_reals, .ref m_factsOf, .ref m_possible, .int (nI q_undos), .int (nI q_models), .ref m_tape, .int (nI q_taped), .int q_fault, .int 2, .int (nI pl2_133), .int (nI sp2_132), .int (nI pl2_133), .int (nI tk2_134), .int (nI vl2_135), .ref m_ends, .ref m_letters, .ref m_actOf, .ref m_whom, .ref m_actMany, .ref m_tokens, .ref m_afters, .ref m_afterOf, .int (nI ((q_counted + 1) + 1)), .ref m_pile, .ref m_caseMany, .ref m_happen, .ref m_hasIf, .ref m_becomes, .ref m_goneOf, .ref m_heard, .ref m_pairs, .ref m_heaps, .int q_rounds, .int q_heapMany, .ref m_led, .ref m_newAt, .ref m_knowing, .ref m_firsts, .int (nI q_people), .ref m_secrets, .ref m_tried, .ref m_lanes, .ref m_lengths, .ref m_cells]))]) ?_ rfl rfl rfl
                      refine ww_aload_n C dX12_readAct_102 2 rfl rfl ?_
                      refine ww_cv (wr := [(m_actMany, .inl (E.2.1 1, 25, .inl f_actMany)), (m_actOf, .inl (E.2.1 1, 800, .inl f_actOf)), (m_whom, .inl (E.2.1 1, 800, .inl f_whom)), (m_ends, .inl (E.2.1 1, 15, .inl f_ends)), (m_letters, .inl (E.2.1 1, 50, .inl f_letters))]) (k' := 0) (n' := 0) C (run_V (As := []) (rest := []) C (r_next X.2.1 E ro hm m_manys m_reals m_factsOf m_possible q_undos q_models m_tape q_taped q_fault 2 (nI pl2_133) sp2_132 (nI pl2_133) tk2_134 vl2_135 m_ends m_letters m_actOf m_whom m_actMany m_tokens m_afters m_afterOf (nI ((q_counted + 1) + 1)) m_pile m_caseMany m_happen m_hasIf m_becomes m_goneOf m_heard m_pairs m_heaps q_rounds q_heapMany m_led m_newAt m_knowing m_firsts q_people m_secrets m_tried m_lanes m_lengths m_cells f_tape (by omega) (by omega) (by omega) (by omega) (by omega)) mi_X12_next wl_X12_201 rfl 0 12 rfl rfl rfl rfl rfl dX12_readAct_103) (roK hro) [6, 5] [0, 1, 2, 3, 4] rfl rfl rfl rfl (fun uz hw => ?_)
                      rcases hw with hw | hw | hw
                      · refine an1 hw ?_
                        clear hw
                        intro he_198 hw
                        have h_197 := hw
                        clear hw
                        subst he_198
                        refine ww_eq (ws' := [(m_actMany, .inl (E.2.1 1, 25, .inl f_actMany)), (m_actOf, .inl (E.2.1 1, 800, .inl f_actOf)), (m_whom, .inl (E.2.1 1, 800, .inl f_whom)), (m_ends, .inl (E.2.1 1, 15, .inl f_ends)), (m_letters, .inl (E.2.1 1, 50, .inl f_letters)), (hm, .inr (12, [.ref m_manys, .ref m_reals, .ref m_factsOf, .ref m_possible, .int (nI q_undos), .int (nI q_models), .ref m_tape, .int (nI q_taped), .int q_fault, .int 2, .int (nI pl2_133), .int (nI sp2_132), .int (nI pl2_133), .int (nI tk2_134), .int (nI vl2_135), .ref m_ends, .ref m_letters, .ref m_actOf, .ref m_whom, .ref m_actMany, .ref m_tokens, .ref m_afters, .ref m_afterOf, .int (nI ((q_counted + 1) + 1)), .ref m_pile, .ref m_caseMany, .ref m_happen, .ref m_hasIf, .ref m_becomes, .ref m_goneOf, .ref m_heard, .ref m_pairs, .ref m_heaps, .int q_rounds, .int q_heapMany, .ref m_led, .ref m_newAt, .ref m_knowing, .ref m_firsts, .int (nI q_people), .ref m_secrets, .ref m_tried, .ref m_lanes, .ref m_lengths, .ref m_cells])), (m_tape, .inl (E.2.1 1, 160, .inl f_tape))]) ?_ rfl rfl rfl
                        refine ww_aload_n C dX12_readAct_106 2 rfl rfl ?_
                        refine ww_get C fg_X12_157 5 rfl rfl dX12_readAct_107 ?_
                        refine ww_if_ne_t (tgt := 150) C dX12_readAct_110 (by decide) (by decide) ?_
                        exact ww_vret (u := [(hm, .inr (12, [.ref m_manys, .ref m_reals, .ref m_factsOf, .ref m_possible, .int (nI q_undos), .int (nI q_models), .ref m_tape, .int (nI q_taped), .int q_fault, .int 2, .int (nI pl2_133), .int (nI sp2_132), .int (nI pl2_133), .int (nI tk2_134), .int (nI vl2_135), .ref m_ends, .ref m_letters, .ref m_actOf, .ref m_whom, .ref m_actMany, .ref m_tokens, .ref m_afters, .ref m_afterOf, .int (nI ((q_counted + 1) + 1)), .ref m_pile, .ref m_caseMany, .ref m_happen, .ref m_hasIf, .ref m_becomes, .ref m_goneOf, .ref m_heard, .ref m_pairs, .ref m_heaps, .int q_rounds, .int q_heapMany, .ref m_led, .ref m_newAt, .ref m_knowing, .ref m_firsts, .int (nI q_people), .ref m_secrets, .ref m_tried, .ref m_lanes, .ref m_lengths, .ref m_cells])), (m_tape, .inl (E.2.1 1, 160, .inl f_tape)), (m_ends, .inl (E.2.1 1, 15, .inl f_ends)), (m_letters, .inl (E.2.1 1, 50, .inl f_letters)), (m_actMany, .inl (E.2.1 1, 25, .inl f_actMany)), (m_actOf, .inl (E.2.1 1, 800, .inl f_actOf)), (m_whom, .inl (E.2.1 1, 800, .inl f_whom))]) C hT [5, 6, 3, 4, 0, 1, 2] rfl rfl rfl rfl dX12_readAct_150 (Or.inr ⟨sp2_132, pl2_133, tk2_134, vl2_135, ((q_counted + 1) + 1), 2, (nI pl2_133), rfl, (by first | assumption | omega | decide), (by first | assumption | omega | decide), (by first | assumption | omega | decide), (by first | assumption | omega | decide), (by omega), (by omega), (by omega), (by omega)⟩)
                      · refine ex4 hw ?_
                        clear hw
                        intro sp2_199 pl2_200 tk2_201 vl2_202 hw
                        refine an5 hw ?_
                        clear hw
                        intro he_208 h_203 h_204 h_205 h_206 hw
                        have h_207 := hw
                        clear hw
                        subst he_208
                        omega
                      · refine ex4 hw ?_
                        clear hw
                        intro sp2_209 pl2_210 tk2_211 vl2_212 hw
                        refine an5 hw ?_
                        clear hw
                        intro he_218 h_213 h_214 h_215 h_216 hw
                        have h_217 := hw
                        clear hw
                        subst he_218
                        omega
                    · refine an1 hw ?_
                      clear hw
                      intro he_195 hw
                      have h_194 := hw
                      clear hw
                      subst he_195
                      omega
                  · have zc_190 : r_157.toInt ≠ 0 := i_ne rfl rfl c_190
                    refine ww_iload_n C dX12_readAct_83 1 rfl rfl ?_
                    refine ww_bipush (v := 10) C dX12_readAct_84 rfl ?_
                    refine ww_icmp_ge (tgt := 102) C dX12_readAct_86 (by decide) (fun c_219 => ?_) (fun c_219 => ?_)
                    · have zc_219 : ((nn_4 : Nat) : Int) ≥ 10 := i_le rfl (nI_toInt (n := nn_4) (by omega)) c_219
                      refine ww_aload_n C dX12_readAct_102 2 rfl rfl ?_
                      refine ww_cv (wr := [(m_actMany, .inl (E.2.1 1, 25, .inl f_actMany)), (m_actOf, .inl (E.2.1 1, 800, .inl f_actOf)), (m_whom, .inl (E.2.1 1, 800, .inl f_whom)), (m_ends, .inl (E.2.1 1, 15, .inl f_ends)), (m_letters, .inl (E.2.1 1, 50, .inl f_letters))]) (k' := 0) (n' := 0) C (run_V (As := []) (rest := []) C (r_next X.2.1 E ro hm m_manys m_reals m_factsOf m_possible q_undos q_models m_tape q_taped q_fault 0 q_wrongAt sp2_132 (nI pl2_133) tk2_134 vl2_135 m_ends m_letters m_actOf m_whom m_actMany m_tokens m_afters m_afterOf (nI ((q_counted + 1) + 1)) m_pile m_caseMany m_happen m_hasIf m_becomes m_goneOf m_heard m_pairs m_heaps q_rounds q_heapMany m_led m_newAt m_knowing m_firsts q_people m_secrets m_tried m_lanes m_lengths m_cells f_tape (by omega) (by omega) (by omega) (by omega) (by omega)) mi_X12_next wl_X12_201 rfl 0 12 rfl rfl rfl rfl rfl dX12_readAct_103) (roK hro) [5, 6] [0, 1, 2, 3, 4] rfl rfl rfl rfl (fun uz hw => ?_)
                      rcases hw with hw | hw | hw
                      · refine an1 hw ?_
                        clear hw
                        intro he_222 hw
                        have h_221 := hw
                        clear hw
                        subst he_222
                        omega
                      · refine ex4 hw ?_
                        clear hw
                        intro sp2_223 pl2_224 tk2_225 vl2_226 hw
                        refine an5 hw ?_
                        clear hw
                        intro he_232 h_227 h_228 h_229 h_230 hw
                        have h_231 := hw
                        clear hw
                        subst he_232
                        refine ww_eq (ws' := [(m_actMany, .inl (E.2.1 1, 25, .inl f_actMany)), (m_actOf, .inl (E.2.1 1, 800, .inl f_actOf)), (m_whom, .inl (E.2.1 1, 800, .inl f_whom)), (m_ends, .inl (E.2.1 1, 15, .inl f_ends)), (m_letters, .inl (E.2.1 1, 50, .inl f_letters)), (hm, .inr (12, [.ref m_manys, .ref m_reals, .ref m_factsOf, .ref m_possible, .int (nI q_undos), .int (nI q_models), .ref m_tape, .int (nI q_taped), .int q_fault, .int 0, .int q_wrongAt, .int (nI sp2_223), .int (nI pl2_224), .int (nI tk2_225), .int (nI vl2_226), .ref m_ends, .ref m_letters, .ref m_actOf, .ref m_whom, .ref m_actMany, .ref m_tokens, .ref m_afters, .ref m_afterOf, .int (nI ((q_counted + 1) + 1)), .ref m_pile, .ref m_caseMany, .ref m_happen, .ref m_hasIf, .ref m_becomes, .ref m_goneOf, .ref m_heard, .ref m_pairs, .ref m_heaps, .int q_rounds, .int q_heapMany, .ref m_led, .ref m_newAt, .ref m_knowing, .ref m_firsts, .int (nI q_people), .ref m_secrets, .ref m_tried, .ref m_lanes, .ref m_lengths, .ref m_cells])), (m_tape, .inl (E.2.1 1, 160, .inl f_tape))]) ?_ rfl rfl rfl
                        refine ww_aload_n C dX12_readAct_106 2 rfl rfl ?_
                        refine ww_get C fg_X12_157 5 rfl rfl dX12_readAct_107 ?_
                        refine ww_if_ne_f (tgt := 150) C dX12_readAct_110 (by decide) (rfl) ?_
                        refine ww_sipush (v := 768) C dX12_readAct_113 rfl ?_
                        refine ww_aload_n C dX12_readAct_116 2 rfl rfl ?_
                        refine ww_get C fg_X12_37 5 rfl rfl dX12_readAct_117 ?_
                        refine ww_bipush (v := 24) C dX12_readAct_120 rfl ?_
                        have hbx_243 := (hb_actMany 24 (by omega)).2
                        refine ww_iald (v := (nI (cN f_actMany 24))) C 0 rfl (vin rfl) (hb_actMany 24 (by omega)).1 dX12_readAct_122 ?_
                        refine ww_iadd (v := (nI (768 + (cN f_actMany 24)))) C dX12_readAct_123 (nI_add 768 (cN f_actMany 24)) ?_
                        refine ww_istore_n (lv' := [(3, .int (nI (768 + (cN f_actMany 24)))), (2, .int r_157), (1, .int (nI nn_4)), (0, .ref hm)]) C dX12_readAct_124 rfl rfl rfl ?_
                        refine ww_aload_n C dX12_readAct_125 3 rfl rfl ?_
                        refine ww_get C fg_X12_31 5 rfl rfl dX12_readAct_126 ?_
                        refine ww_iload_n C dX12_readAct_129 0 rfl rfl ?_
                        refine ww_iload_n C dX12_readAct_130 2 rfl rfl ?_
                        obtain ⟨f_244, ef_244⟩ : ∃ z : Nat → Int32, upd f_actOf (768 + (cN f_actMany 24)) (nI nn_4) = z := ⟨_, rfl⟩
                        refine ww_iast (ws' := [(m_actMany, .inl (E.2.1 1, 25, .inl f_actMany)), (m_actOf, .inl (E.2.1 1, 800, .inl f_244)), (m_whom, .inl (E.2.1 1, 800, .inl f_whom)), (m_ends, .inl (E.2.1 1, 15, .inl f_ends)), (m_letters, .inl (E.2.1 1, 50, .inl f_letters)), (hm, .inr (12, [.ref m_manys, .ref m_reals, .ref m_factsOf, .ref m_possible, .int (nI q_undos), .int (nI q_models), .ref m_tape, .int (nI q_taped), .int q_fault, .int 0, .int q_wrongAt, .int (nI sp2_223), .int (nI pl2_224), .int (nI tk2_225), .int (nI vl2_226), .ref m_ends, .ref m_letters, .ref m_actOf, .ref m_whom, .ref m_actMany, .ref m_tokens, .ref m_afters, .ref m_afterOf, .int (nI ((q_counted + 1) + 1)), .ref m_pile, .ref m_caseMany, .ref m_happen, .ref m_hasIf, .ref m_becomes, .ref m_goneOf, .ref m_heard, .ref m_pairs, .ref m_heaps, .int q_rounds, .int q_heapMany, .ref m_led, .ref m_newAt, .ref m_knowing, .ref m_firsts, .int (nI q_people), .ref m_secrets, .ref m_tried, .ref m_lanes, .ref m_lengths, .ref m_cells])), (m_tape, .inl (E.2.1 1, 160, .inl f_tape))]) C 1 rfl (vp_in_nI (by omega) (by omega)) (ldn2 (by omega) ef_244) rfl dX12_readAct_131 ?_
                        refine ww_aload_n C dX12_readAct_132 3 rfl rfl ?_
                        refine ww_get C fg_X12_34 5 rfl rfl dX12_readAct_133 ?_
                        refine ww_iload_n C dX12_readAct_136 0 rfl rfl ?_
                        refine ww_iload_n C dX12_readAct_137 1 rfl rfl ?_
                        obtain ⟨f_245, ef_245⟩ : ∃ z : Nat → Int32, upd f_whom (768 + (cN f_actMany 24)) r_157 = z := ⟨_, rfl⟩
                        refine ww_iast (ws' := [(m_actMany, .inl (E.2.1 1, 25, .inl f_actMany)), (m_actOf, .inl (E.2.1 1, 800, .inl f_244)), (m_whom, .inl (E.2.1 1, 800, .inl f_245)), (m_ends, .inl (E.2.1 1, 15, .inl f_ends)), (m_letters, .inl (E.2.1 1, 50, .inl f_letters)), (hm, .inr (12, [.ref m_manys, .ref m_reals, .ref m_factsOf, .ref m_possible, .int (nI q_undos), .int (nI q_models), .ref m_tape, .int (nI q_taped), .int q_fault, .int 0, .int q_wrongAt, .int (nI sp2_223), .int (nI pl2_224), .int (nI tk2_225), .int (nI vl2_226), .ref m_ends, .ref m_letters, .ref m_actOf, .ref m_whom, .ref m_actMany, .ref m_tokens, .ref m_afters, .ref m_afterOf, .int (nI ((q_counted + 1) + 1)), .ref m_pile, .ref m_caseMany, .ref m_happen, .ref m_hasIf, .ref m_becomes, .ref m_goneOf, .ref m_heard, .ref m_pairs, .ref m_heaps, .int q_rounds, .int q_heapMany, .ref m_led, .ref m_newAt, .ref m_knowing, .ref m_firsts, .int (nI q_people), .ref m_secrets, .ref m_tried, .ref m_lanes, .ref m_lengths, .ref m_cells])), (m_tape, .inl (E.2.1 1, 160, .inl f_tape))]) C 2 rfl (vp_in_nI (by omega) (by omega)) (ldn2 (by omega) ef_245) rfl dX12_readAct_138 ?_
                        refine ww_aload_n C dX12_readAct_139 3 rfl rfl ?_
                        refine ww_get C fg_X12_37 5 rfl rfl dX12_readAct_140 ?_
                        refine ww_bipush (v := 24) C dX12_readAct_143 rfl ?_
                        refine ww_dup2 C dX12_readAct_145 rfl rfl ?_
                        have hbx_246 := (hb_actMany 24 (by omega)).2
                        refine ww_iald (v := (nI (cN f_actMany 24))) C 0 rfl (vin rfl) (hb_actMany 24 (by omega)).1 dX12_readAct_146 ?_
                        refine ww_iconst (v := 1) C dX12_readAct_147 rfl ?_
                        refine ww_iadd (v := (nI ((cN f_actMany 24) + 1))) C dX12_readAct_148 (nI_add (cN f_actMany 24) 1) ?_
                        obtain ⟨f_247, ef_247⟩ : ∃ z : Nat → Int32, upd f_actMany 24 (nI ((cN f_actMany 24) + 1)) = z := ⟨_, rfl⟩
                        refine ww_iast (ws' := [(m_actMany, .inl (E.2.1 1, 25, .inl f_247)), (m_actOf, .inl (E.2.1 1, 800, .inl f_244)), (m_whom, .inl (E.2.1 1, 800, .inl f_245)), (m_ends, .inl (E.2.1 1, 15, .inl f_ends)), (m_letters, .inl (E.2.1 1, 50, .inl f_letters)), (hm, .inr (12, [.ref m_manys, .ref m_reals, .ref m_factsOf, .ref m_possible, .int (nI q_undos), .int (nI q_models), .ref m_tape, .int (nI q_taped), .int q_fault, .int 0, .int q_wrongAt, .int (nI sp2_223), .int (nI pl2_224), .int (nI tk2_225), .int (nI vl2_226), .ref m_ends, .ref m_letters, .ref m_actOf, .ref m_whom, .ref m_actMany, .ref m_tokens, .ref m_afters, .ref m_afterOf, .int (nI ((q_counted + 1) + 1)), .ref m_pile, .ref m_caseMany, .ref m_happen, .ref m_hasIf, .ref m_becomes, .ref m_goneOf, .ref m_heard, .ref m_pairs, .ref m_heaps, .int q_rounds, .int q_heapMany, .ref m_led, .ref m_newAt, .ref m_knowing, .ref m_firsts, .int (nI q_people), .ref m_secrets, .ref m_tried, .ref m_lanes, .ref m_lengths, .ref m_cells])), (m_tape, .inl (E.2.1 1, 160, .inl f_tape))]) C 0 rfl (vin rfl) ef_247 rfl dX12_readAct_149 ?_
                        exact ww_vret (u := [(hm, .inr (12, [.ref m_manys, .ref m_reals, .ref m_factsOf, .ref m_possible, .int (nI q_undos), .int (nI q_models), .ref m_tape, .int (nI q_taped), .int q_fault, .int 0, .int q_wrongAt, .int (nI sp2_223), .int (nI pl2_224), .int (nI tk2_225), .int (nI vl2_226), .ref m_ends, .ref m_letters, .ref m_actOf, .ref m_whom, .ref m_actMany, .ref m_tokens, .ref m_afters, .ref m_afterOf, .int (nI ((q_counted + 1) + 1)), .ref m_pile, .ref m_caseMany, .ref m_happen, .ref m_hasIf, .ref m_becomes, .ref m_goneOf, .ref m_heard, .ref m_pairs, .ref m_heaps, .int q_rounds, .int q_heapMany, .ref m_led, .ref m_newAt, .ref m_knowing, .ref m_firsts, .int (nI q_people), .ref m_secrets, .ref m_tried, .ref m_lanes, .ref m_lengths, .ref m_cells])), (m_tape, .inl (E.2.1 1, 160, .inl f_tape)), (m_ends, .inl (E.2.1 1, 15, .inl f_ends)), (m_letters, .inl (E.2.1 1, 50, .inl f_letters)), (m_actMany, .inl (E.2.1 1, 25, .inl f_247)), (m_actOf, .inl (E.2.1 1, 800, .inl f_244)), (m_whom, .inl (E.2.1 1, 800, .inl f_245))]) C hT [5, 6, 3, 4, 0, 1, 2] rfl rfl rfl rfl dX12_readAct_150 (Or.inl ⟨sp2_223, pl2_224, tk2_225, vl2_226, ((q_counted + 1) + 1), nn_4, f_247, f_244, f_245, rfl, (by first | assumption | omega | decide), (by first | assumption | omega | decide), (by first | assumption | omega | decide), (by first | assumption | omega | decide), (NB.put hb_actMany (t := (cN f_actMany 24) + 1) (by omega) (by decide) ef_247), (by omega), (by omega), ef_247, ef_244, (by omega)⟩)
                      · refine ex4 hw ?_
                        clear hw
                        intro sp2_233 pl2_234 tk2_235 vl2_236 hw
                        refine an5 hw ?_
                        clear hw
                        intro he_242 h_237 h_238 h_239 h_240 hw
                        have h_241 := hw
                        clear hw
                        subst he_242
                        refine ww_eq (ws' := [(m_actMany, .inl (E.2.1 1, 25, .inl f_actMany)), (m_actOf, .inl (E.2.1 1, 800, .inl f_actOf)), (m_whom, .inl (E.2.1 1, 800, .inl f_whom)), (m_ends, .inl (E.2.1 1, 15, .inl f_ends)), (m_letters, .inl (E.2.1 1, 50, .inl f_letters)), (hm, .inr (12, [.ref m_manys, .ref m_reals, .ref m_factsOf, .ref m_possible, .int (nI q_undos), .int (nI q_models), .ref m_tape, .int (nI q_taped), .int q_fault, .int 1, .int (nI pl2_234), .int (nI sp2_233), .int (nI pl2_234), .int (nI tk2_235), .int (nI vl2_236), .ref m_ends, .ref m_letters, .ref m_actOf, .ref m_whom, .ref m_actMany, .ref m_tokens, .ref m_afters, .ref m_afterOf, .int (nI ((q_counted + 1) + 1)), .ref m_pile, .ref m_caseMany, .ref m_happen, .ref m_hasIf, .ref m_becomes, .ref m_goneOf, .ref m_heard, .ref m_pairs, .ref m_heaps, .int q_rounds, .int q_heapMany, .ref m_led, .ref m_newAt, .ref m_knowing, .ref m_firsts, .int (nI q_people), .ref m_secrets, .ref m_tried, .ref m_lanes, .ref m_lengths, .ref m_cells])), (m_tape, .inl (E.2.1 1, 160, .inl f_tape))]) ?_ rfl rfl rfl
                        refine ww_aload_n C dX12_readAct_106 2 rfl rfl ?_
                        refine ww_get C fg_X12_157 5 rfl rfl dX12_readAct_107 ?_
                        refine ww_if_ne_t (tgt := 150) C dX12_readAct_110 (by decide) (by decide) ?_
                        exact ww_vret (u := [(hm, .inr (12, [.ref m_manys, .ref m_reals, .ref m_factsOf, .ref m_possible, .int (nI q_undos), .int (nI q_models), .ref m_tape, .int (nI q_taped), .int q_fault, .int 1, .int (nI pl2_234), .int (nI sp2_233), .int (nI pl2_234), .int (nI tk2_235), .int (nI vl2_236), .ref m_ends, .ref m_letters, .ref m_actOf, .ref m_whom, .ref m_actMany, .ref m_tokens, .ref m_afters, .ref m_afterOf, .int (nI ((q_counted + 1) + 1)), .ref m_pile, .ref m_caseMany, .ref m_happen, .ref m_hasIf, .ref m_becomes, .ref m_goneOf, .ref m_heard, .ref m_pairs, .ref m_heaps, .int q_rounds, .int q_heapMany, .ref m_led, .ref m_newAt, .ref m_knowing, .ref m_firsts, .int (nI q_people), .ref m_secrets, .ref m_tried, .ref m_lanes, .ref m_lengths, .ref m_cells])), (m_tape, .inl (E.2.1 1, 160, .inl f_tape)), (m_ends, .inl (E.2.1 1, 15, .inl f_ends)), (m_letters, .inl (E.2.1 1, 50, .inl f_letters)), (m_actMany, .inl (E.2.1 1, 25, .inl f_actMany)), (m_actOf, .inl (E.2.1 1, 800, .inl f_actOf)), (m_whom, .inl (E.2.1 1, 800, .inl f_whom))]) C hT [5, 6, 3, 4, 0, 1, 2] rfl rfl rfl rfl dX12_readAct_150 (Or.inr ⟨sp2_233, pl2_234, tk2_235, vl2_236, ((q_counted + 1) + 1), 1, (nI pl2_234), rfl, (by first | assumption | omega | decide), (by first | assumption | omega | decide), (by first | assumption | omega | decide), (by first | assumption | omega | decide), (by omega), (by omega), (by omega), (by omega)⟩)
                    · have zc_219 : ((nn_4 : Nat) : Int) < 10 := i_nle rfl (nI_toInt (n := nn_4) (by omega)) c_219
                      refine ww_iload_n C dX12_readAct_89 0 rfl rfl ?_
                      refine ww_ci (wr := [(m_actMany, .inl (E.2.1 1, 25, .inl f_actMany)), (m_actOf, .inl (E.2.1 1, 800, .inl f_actOf)), (m_whom, .inl (E.2.1 1, 800, .inl f_whom)), (m_ends, .inl (E.2.1 1, 15, .inl f_ends)), (m_letters, .inl (E.2.1 1, 50, .inl f_letters)), (hm, .inr (12, [.ref m_manys, .ref m_reals, .ref m_factsOf, .ref m_possible, .int (nI q_undos), .int (nI q_models), .ref m_tape, .int (nI q_taped), .int q_fault, .int 0, .int q_wrongAt, .int (nI sp2_132), .int (nI pl2_133), .int (nI tk2_134), .int (nI vl2_135), .ref m_ends, .ref m_letters, .ref m_actOf, .ref m_whom, .ref m_actMany, .ref m_tokens, .ref m_afters, .ref m_afterOf, .int (nI ((q_counted + 1) + 1)), .ref m_pile, .ref m_caseMany, .ref m_happen, .ref m_hasIf, .ref m_becomes, .ref m_goneOf, .ref m_heard, .ref m_pairs, .ref m_heaps, .int q_rounds, .int q_heapMany, .ref m_led, .ref m_newAt, .ref m_knowing, .ref m_firsts, .int (nI q_people), .ref m_secrets, .ref m_tried, .ref m_lanes, .ref m_lengths, .ref m_cells])), (m_tape, .inl (E.2.1 1, 160, .inl f_tape))]) (k' := 0) (n' := 0) C (run_S (As := [.int r_157]) (rest := []) C (r_size X.2.1 E ro r_157) ms_X12_size wl_X12_145 rfl rfl rfl rfl dX12_readAct_90) (roK hro) [] [0, 1, 2, 3, 4, 5, 6] rfl rfl rfl rfl (fun r_248 uz hw => ?_)
                      refine an2 hw ?_
                      clear hw
                      intro he_250 he_251 hw
                      have h_249 := hw
                      clear hw
                      have he_250 := he_250.symm
                      subst he_250
                      subst he_251
                      refine ww_eq (ws' := [(m_actMany, .inl (E.2.1 1, 25, .inl f_actMany)), (m_actOf, .inl (E.2.1 1, 800, .inl f_actOf)), (m_whom, .inl (E.2.1 1, 800, .inl f_whom)), (m_ends, .inl (E.2.1 1, 15, .inl f_ends)), (m_letters, .inl (E.2.1 1, 50, .inl f_letters)), (hm, .inr (12, [.ref m_manys, .ref m_reals, .ref m_factsOf, .ref m_possible, .int (nI q_undos), .int (nI q_models), .ref m_tape, .int (nI q_taped), .int q_fault, .int 0, .int q_wrongAt, .int (nI sp2_132), .int (nI pl2_133), .int (nI tk2_134), .int (nI vl2_135), .ref m_ends, .ref m_letters, .ref m_actOf, .ref m_whom, .ref m_actMany, .ref m_tokens, .ref m_afters, .ref m_afterOf, .int (nI ((q_counted + 1) + 1)), .ref m_pile, .ref m_caseMany, .ref m_happen, .ref m_hasIf, .ref m_becomes, .ref m_goneOf, .ref m_heard, .ref m_pairs, .ref m_heaps, .int q_rounds, .int q_heapMany, .ref m_led, .ref m_newAt, .ref m_knowing, .ref m_firsts, .int (nI q_people), .ref m_secrets, .ref m_tried, .ref m_lanes, .ref m_lengths, .ref m_cells])), (m_tape, .inl (E.2.1 1, 160, .inl f_tape))]) ?_ rfl rfl rfl
                      refine ww_iconst (v := 1) C dX12_readAct_93 rfl ?_
                      refine ww_icmp_le (tgt := 102) C dX12_readAct_94 (by decide) (fun c_252 => ?_) (fun c_252 => ?_)
                      · have zc_252 : ((cb (bt r_157) 24 : Nat) : Int) ≤ 1 := i_le (nI_toInt (n := cb (bt r_157) 24) (by omega)) rfl c_252
                        refine ww_aload_n C dX12_readAct_102 2 rfl rfl ?_
                        refine ww_cv (wr := [(m_actMany, .inl (E.2.1 1, 25, .inl f_actMany)), (m_actOf, .inl (E.2.1 1, 800, .inl f_actOf)), (m_whom, .inl (E.2.1 1, 800, .inl f_whom)), (m_ends, .inl (E.2.1 1, 15, .inl f_ends)), (m_letters, .inl (E.2.1 1, 50, .inl f_letters))]) (k' := 0) (n' := 0) C (run_V (As := []) (rest := []) C (r_next X.2.1 E ro hm m_manys m_reals m_factsOf m_possible q_undos q_models m_tape q_taped q_fault 0 q_wrongAt sp2_132 (nI pl2_133) tk2_134 vl2_135 m_ends m_letters m_actOf m_whom m_actMany m_tokens m_afters m_afterOf (nI ((q_counted + 1) + 1)) m_pile m_caseMany m_happen m_hasIf m_becomes m_goneOf m_heard m_pairs m_heaps q_rounds q_heapMany m_led m_newAt m_knowing m_firsts q_people m_secrets m_tried m_lanes m_lengths m_cells f_tape (by omega) (by omega) (by omega) (by omega) (by omega)) mi_X12_next wl_X12_201 rfl 0 12 rfl rfl rfl rfl rfl dX12_readAct_103) (roK hro) [5, 6] [0, 1, 2, 3, 4] rfl rfl rfl rfl (fun uz hw => ?_)
                        rcases hw with hw | hw | hw
                        · refine an1 hw ?_
                          clear hw
                          intro he_255 hw
                          have h_254 := hw
                          clear hw
                          subst he_255
                          omega
                        · refine ex4 hw ?_
                          clear hw
                          intro sp2_256 pl2_257 tk2_258 vl2_259 hw
                          refine an5 hw ?_
                          clear hw
                          intro he_265 h_260 h_261 h_262 h_263 hw
                          have h_264 := hw
                          clear hw
                          subst he_265
                          refine ww_eq (ws' := [(m_actMany, .inl (E.2.1 1, 25, .inl f_actMany)), (m_actOf, .inl (E.2.1 1, 800, .inl f_actOf)), (m_whom, .inl (E.2.1 1, 800, .inl f_whom)), (m_ends, .inl (E.2.1 1, 15, .inl f_ends)), (m_letters, .inl (E.2.1 1, 50, .inl f_letters)), (hm, .inr (12, [.ref m_manys, .ref m_reals, .ref m_factsOf, .ref m_possible, .int (nI q_undos), .int (nI q_models), .ref m_tape, .int (nI q_taped), .int q_fault, .int 0, .int q_wrongAt, .int (nI sp2_256), .int (nI pl2_257), .int (nI tk2_258), .int (nI vl2_259), .ref m_ends, .ref m_letters, .ref m_actOf, .ref m_whom, .ref m_actMany, .ref m_tokens, .ref m_afters, .ref m_afterOf, .int (nI ((q_counted + 1) + 1)), .ref m_pile, .ref m_caseMany, .ref m_happen, .ref m_hasIf, .ref m_becomes, .ref m_goneOf, .ref m_heard, .ref m_pairs, .ref m_heaps, .int q_rounds, .int q_heapMany, .ref m_led, .ref m_newAt, .ref m_knowing, .ref m_firsts, .int (nI q_people), .ref m_secrets, .ref m_tried, .ref m_lanes, .ref m_lengths, .ref m_cells])), (m_tape, .inl (E.2.1 1, 160, .inl f_tape))]) ?_ rfl rfl rfl
                          refine ww_aload_n C dX12_readAct_106 2 rfl rfl ?_
                          refine ww_get C fg_X12_157 5 rfl rfl dX12_readAct_107 ?_
                          refine ww_if_ne_f (tgt := 150) C dX12_readAct_110 (by decide) (rfl) ?_
                          refine ww_sipush (v := 768) C dX12_readAct_113 rfl ?_
                          refine ww_aload_n C dX12_readAct_116 2 rfl rfl ?_
                          refine ww_get C fg_X12_37 5 rfl rfl dX12_readAct_117 ?_
                          refine ww_bipush (v := 24) C dX12_readAct_120 rfl ?_
                          have hbx_276 := (hb_actMany 24 (by omega)).2
                          refine ww_iald (v := (nI (cN f_actMany 24))) C 0 rfl (vin rfl) (hb_actMany 24 (by omega)).1 dX12_readAct_122 ?_
                          refine ww_iadd (v := (nI (768 + (cN f_actMany 24)))) C dX12_readAct_123 (nI_add 768 (cN f_actMany 24)) ?_
                          refine ww_istore_n (lv' := [(3, .int (nI (768 + (cN f_actMany 24)))), (2, .int r_157), (1, .int (nI nn_4)), (0, .ref hm)]) C dX12_readAct_124 rfl rfl rfl ?_
                          refine ww_aload_n C dX12_readAct_125 3 rfl rfl ?_
                          refine ww_get C fg_X12_31 5 rfl rfl dX12_readAct_126 ?_
                          refine ww_iload_n C dX12_readAct_129 0 rfl rfl ?_
                          refine ww_iload_n C dX12_readAct_130 2 rfl rfl ?_
                          obtain ⟨f_277, ef_277⟩ : ∃ z : Nat → Int32, upd f_actOf (768 + (cN f_actMany 24)) (nI nn_4) = z := ⟨_, rfl⟩
                          refine ww_iast (ws' := [(m_actMany, .inl (E.2.1 1, 25, .inl f_actMany)), (m_actOf, .inl (E.2.1 1, 800, .inl f_277)), (m_whom, .inl (E.2.1 1, 800, .inl f_whom)), (m_ends, .inl (E.2.1 1, 15, .inl f_ends)), (m_letters, .inl (E.2.1 1, 50, .inl f_letters)), (hm, .inr (12, [.ref m_manys, .ref m_reals, .ref m_factsOf, .ref m_possible, .int (nI q_undos), .int (nI q_models), .ref m_tape, .int (nI q_taped), .int q_fault, .int 0, .int q_wrongAt, .int (nI sp2_256), .int (nI pl2_257), .int (nI tk2_258), .int (nI vl2_259), .ref m_ends, .ref m_letters, .ref m_actOf, .ref m_whom, .ref m_actMany, .ref m_tokens, .ref m_afters, .ref m_afterOf, .int (nI ((q_counted + 1) + 1)), .ref m_pile, .ref m_caseMany, .ref m_happen, .ref m_hasIf, .ref m_becomes, .ref m_goneOf, .ref m_heard, .ref m_pairs, .ref m_heaps, .int q_rounds, .int q_heapMany, .ref m_led, .ref m_newAt, .ref m_knowing, .ref m_firsts, .int (nI q_people), .ref m_secrets, .ref m_tried, .ref m_lanes, .ref m_lengths, .ref m_cells])), (m_tape, .inl (E.2.1 1, 160, .inl f_tape))]) C 1 rfl (vp_in_nI (by omega) (by omega)) (ldn2 (by omega) ef_277) rfl dX12_readAct_131 ?_
                          refine ww_aload_n C dX12_readAct_132 3 rfl rfl ?_
                          refine ww_get C fg_X12_34 5 rfl rfl dX12_readAct_133 ?_
                          refine ww_iload_n C dX12_readAct_136 0 rfl rfl ?_
                          refine ww_iload_n C dX12_readAct_137 1 rfl rfl ?_
                          obtain ⟨f_278, ef_278⟩ : ∃ z : Nat → Int32, upd f_whom (768 + (cN f_actMany 24)) r_157 = z := ⟨_, rfl⟩
                          refine ww_iast (ws' := [(m_actMany, .inl (E.2.1 1, 25, .inl f_actMany)), (m_actOf, .inl (E.2.1 1, 800, .inl f_277)), (m_whom, .inl (E.2.1 1, 800, .inl f_278)), (m_ends, .inl (E.2.1 1, 15, .inl f_ends)), (m_letters, .inl (E.2.1 1, 50, .inl f_letters)), (hm, .inr (12, [.ref m_manys, .ref m_reals, .ref m_factsOf, .ref m_possible, .int (nI q_undos), .int (nI q_models), .ref m_tape, .int (nI q_taped), .int q_fault, .int 0, .int q_wrongAt, .int (nI sp2_256), .int (nI pl2_257), .int (nI tk2_258), .int (nI vl2_259), .ref m_ends, .ref m_letters, .ref m_actOf, .ref m_whom, .ref m_actMany, .ref m_tokens, .ref m_afters, .ref m_afterOf, .int (nI ((q_counted + 1) + 1)), .ref m_pile, .ref m_caseMany, .ref m_happen, .ref m_hasIf, .ref m_becomes, .ref m_goneOf, .ref m_heard, .ref m_pairs, .ref m_heaps, .int q_rounds, .int q_heapMany, .ref m_led, .ref m_newAt, .ref m_knowing, .ref m_firsts, .int (nI q_people), .ref m_secrets, .ref m_tried, .ref m_lanes, .ref m_lengths, .ref m_cells])), (m_tape, .inl (E.2.1 1, 160, .inl f_tape))]) C 2 rfl (vp_in_nI (by omega) (by omega)) (ldn2 (by omega) ef_278) rfl dX12_readAct_138 ?_
                          refine ww_aload_n C dX12_readAct_139 3 rfl rfl ?_
                          refine ww_get C fg_X12_37 5 rfl rfl dX12_readAct_140 ?_
                          refine ww_bipush (v := 24) C dX12_readAct_143 rfl ?_
                          refine ww_dup2 C dX12_readAct_145 rfl rfl ?_
                          have hbx_279 := (hb_actMany 24 (by omega)).2
                          refine ww_iald (v := (nI (cN f_actMany 24))) C 0 rfl (vin rfl) (hb_actMany 24 (by omega)).1 dX12_readAct_146 ?_
                          refine ww_iconst (v := 1) C dX12_readAct_147 rfl ?_
                          refine ww_iadd (v := (nI ((cN f_actMany 24) + 1))) C dX12_readAct_148 (nI_add (cN f_actMany 24) 1) ?_
                          obtain ⟨f_280, ef_280⟩ : ∃ z : Nat → Int32, upd f_actMany 24 (nI ((cN f_actMany 24) + 1)) = z := ⟨_, rfl⟩
                          refine ww_iast (ws' := [(m_actMany, .inl (E.2.1 1, 25, .inl f_280)), (m_actOf, .inl (E.2.1 1, 800, .inl f_277)), (m_whom, .inl (E.2.1 1, 800, .inl f_278)), (m_ends, .inl (E.2.1 1, 15, .inl f_ends)), (m_letters, .inl (E.2.1 1, 50, .inl f_letters)), (hm, .inr (12, [.ref m_manys, .ref m_reals, .ref m_factsOf, .ref m_possible, .int (nI q_undos), .int (nI q_models), .ref m_tape, .int (nI q_taped), .int q_fault, .int 0, .int q_wrongAt, .int (nI sp2_256), .int (nI pl2_257), .int (nI tk2_258), .int (nI vl2_259), .ref m_ends, .ref m_letters, .ref m_actOf, .ref m_whom, .ref m_actMany, .ref m_tokens, .ref m_afters, .ref m_afterOf, .int (nI ((q_counted + 1) + 1)), .ref m_pile, .ref m_caseMany, .ref m_happen, .ref m_hasIf, .ref m_becomes, .ref m_goneOf, .ref m_heard, .ref m_pairs, .ref m_heaps, .int q_rounds, .int q_heapMany, .ref m_led, .ref m_newAt, .ref m_knowing, .ref m_firsts, .int (nI q_people), .ref m_secrets, .ref m_tried, .ref m_lanes, .ref m_lengths, .ref m_cells])), (m_tape, .inl (E.2.1 1, 160, .inl f_tape))]) C 0 rfl (vin rfl) ef_280 rfl dX12_readAct_149 ?_
                          exact ww_vret (u := [(hm, .inr (12, [.ref m_manys, .ref m_reals, .ref m_factsOf, .ref m_possible, .int (nI q_undos), .int (nI q_models), .ref m_tape, .int (nI q_taped), .int q_fault, .int 0, .int q_wrongAt, .int (nI sp2_256), .int (nI pl2_257), .int (nI tk2_258), .int (nI vl2_259), .ref m_ends, .ref m_letters, .ref m_actOf, .ref m_whom, .ref m_actMany, .ref m_tokens, .ref m_afters, .ref m_afterOf, .int (nI ((q_counted + 1) + 1)), .ref m_pile, .ref m_caseMany, .ref m_happen, .ref m_hasIf, .ref m_becomes, .ref m_goneOf, .ref m_heard, .ref m_pairs, .ref m_heaps, .int q_rounds, .int q_heapMany, .ref m_led, .ref m_newAt, .ref m_knowing, .ref m_firsts, .int (nI q_people), .ref m_secrets, .ref m_tried, .ref m_lanes, .ref m_lengths, .ref m_cells])), (m_tape, .inl (E.2.1 1, 160, .inl f_tape)), (m_ends, .inl (E.2.1 1, 15, .inl f_ends)), (m_letters, .inl (E.2.1 1, 50, .inl f_letters)), (m_actMany, .inl (E.2.1 1, 25, .inl f_280)), (m_actOf, .inl (E.2.1 1, 800, .inl f_277)), (m_whom, .inl (E.2.1 1, 800, .inl f_278))]) C hT [5, 6, 3, 4, 0, 1, 2] rfl rfl rfl rfl dX12_readAct_150 (Or.inl ⟨sp2_256, pl2_257, tk2_258, vl2_259, ((q_counted + 1) + 1), nn_4, f_280, f_277, f_278, rfl, (by first | assumption | omega | decide), (by first | assumption | omega | decide), (by first | assumption | omega | decide), (by first | assumption | omega | decide), (NB.put hb_actMany (t := (cN f_actMany 24) + 1) (by omega) (by decide) ef_280), (by omega), (by omega), ef_280, ef_277, (by omega)⟩)
                        · refine ex4 hw ?_
                          clear hw
                          intro sp2_266 pl2_267 tk2_268 vl2_269 hw
                          refine an5 hw ?_
                          clear hw
                          intro he_275 h_270 h_271 h_272 h_273 hw
                          have h_274 := hw
                          clear hw
                          subst he_275
                          refine ww_eq (ws' := [(m_actMany, .inl (E.2.1 1, 25, .inl f_actMany)), (m_actOf, .inl (E.2.1 1, 800, .inl f_actOf)), (m_whom, .inl (E.2.1 1, 800, .inl f_whom)), (m_ends, .inl (E.2.1 1, 15, .inl f_ends)), (m_letters, .inl (E.2.1 1, 50, .inl f_letters)), (hm, .inr (12, [.ref m_manys, .ref m_reals, .ref m_factsOf, .ref m_possible, .int (nI q_undos), .int (nI q_models), .ref m_tape, .int (nI q_taped), .int q_fault, .int 1, .int (nI pl2_267), .int (nI sp2_266), .int (nI pl2_267), .int (nI tk2_268), .int (nI vl2_269), .ref m_ends, .ref m_letters, .ref m_actOf, .ref m_whom, .ref m_actMany, .ref m_tokens, .ref m_afters, .ref m_afterOf, .int (nI ((q_counted + 1) + 1)), .ref m_pile, .ref m_caseMany, .ref m_happen, .ref m_hasIf, .ref m_becomes, .ref m_goneOf, .ref m_heard, .ref m_pairs, .ref m_heaps, .int q_rounds, .int q_heapMany, .ref m_led, .ref m_newAt, .ref m_knowing, .ref m_firsts, .int (nI q_people), .ref m_secrets, .ref m_tried, .ref m_lanes, .ref m_lengths, .ref m_cells])), (m_tape, .inl (E.2.1 1, 160, .inl f_tape))]) ?_ rfl rfl rfl
                          refine ww_aload_n C dX12_readAct_106 2 rfl rfl ?_
                          refine ww_get C fg_X12_157 5 rfl rfl dX12_readAct_107 ?_
                          refine ww_if_ne_t (tgt := 150) C dX12_readAct_110 (by decide) (by decide) ?_
                          exact ww_vret (u := [(hm, .inr (12, [.ref m_manys, .ref m_reals, .ref m_factsOf, .ref m_possible, .int (nI q_undos), .int (nI q_models), .ref m_tape, .int (nI q_taped), .int q_fault, .int 1, .int (nI pl2_267), .int (nI sp2_266), .int (nI pl2_267), .int (nI tk2_268), .int (nI vl2_269), .ref m_ends, .ref m_letters, .ref m_actOf, .ref m_whom, .ref m_actMany, .ref m_tokens, .ref m_afters, .ref m_afterOf, .int (nI ((q_counted + 1) + 1)), .ref m_pile, .ref m_caseMany, .ref m_happen, .ref m_hasIf, .ref m_becomes, .ref m_goneOf, .ref m_heard, .ref m_pairs, .ref m_heaps, .int q_rounds, .int q_heapMany, .ref m_led, .ref m_newAt, .ref m_knowing, .ref m_firsts, .int (nI q_people), .ref m_secrets, .ref m_tried, .ref m_lanes, .ref m_lengths, .ref m_cells])), (m_tape, .inl (E.2.1 1, 160, .inl f_tape)), (m_ends, .inl (E.2.1 1, 15, .inl f_ends)), (m_letters, .inl (E.2.1 1, 50, .inl f_letters)), (m_actMany, .inl (E.2.1 1, 25, .inl f_actMany)), (m_actOf, .inl (E.2.1 1, 800, .inl f_actOf)), (m_whom, .inl (E.2.1 1, 800, .inl f_whom))]) C hT [5, 6, 3, 4, 0, 1, 2] rfl rfl rfl rfl dX12_readAct_150 (Or.inr ⟨sp2_266, pl2_267, tk2_268, vl2_269, ((q_counted + 1) + 1), 1, (nI pl2_267), rfl, (by first | assumption | omega | decide), (by first | assumption | omega | decide), (by first | assumption | omega | decide), (by first | assumption | omega | decide), (by omega), (by omega), (by omega), (by omega)⟩)
                      · have zc_252 : ((cb (bt r_157) 24 : Nat) : Int) > 1 := i_nle (nI_toInt (n := cb (bt r_157) 24) (by omega)) rfl c_252
                        refine ww_aload_n C dX12_readAct_97 2 rfl rfl ?_
                        refine ww_iconst (v := 2) C dX12_readAct_98 rfl ?_
                        refine ww_cv (wr := [(m_actMany, .inl (E.2.1 1, 25, .inl f_actMany)), (m_actOf, .inl (E.2.1 1, 800, .inl f_actOf)), (m_whom, .inl (E.2.1 1, 800, .inl f_whom)), (m_ends, .inl (E.2.1 1, 15, .inl f_ends)), (m_letters, .inl (E.2.1 1, 50, .inl f_letters)), (m_tape, .inl (E.2.1 1, 160, .inl f_tape))]) (k' := 0) (n' := 0) C (run_V (As := [.int 2]) (rest := []) C (r_fails X.2.1 E ro hm 2 m_manys m_reals m_factsOf m_possible q_undos q_models m_tape q_taped q_fault 0 q_wrongAt (nI sp2_132) (nI pl2_133) (nI tk2_134) (nI vl2_135) m_ends m_letters m_actOf m_whom m_actMany m_tokens m_afters m_afterOf (nI ((q_counted + 1) + 1)) m_pile m_caseMany m_happen m_hasIf m_becomes m_goneOf m_heard m_pairs m_heaps q_rounds q_heapMany m_led m_newAt m_knowing m_firsts q_people m_secrets m_tried m_lanes m_lengths m_cells (by omega)) mi_X12_fails wl_X12_186 rfl 0 12 rfl rfl rfl rfl rfl dX12_readAct_99) (roK hro) [5] [0, 1, 2, 3, 4, 6] rfl rfl rfl rfl (fun uz hw => ?_)
                        rcases hw with hw | hw
                        · refine an1 hw ?_
                          clear hw
                          intro he_283 hw
                          have h_282 := hw
                          clear hw
                          subst he_283
                          refine ww_eq (ws' := [(m_actMany, .inl (E.2.1 1, 25, .inl f_actMany)), (m_actOf, .inl (E.2.1 1, 800, .inl f_actOf)), (m_whom, .inl (E.2.1 1, 800, .inl f_whom)), (m_ends, .inl (E.2.1 1, 15, .inl f_ends)), (m_letters, .inl (E.2.1 1, 50, .inl f_letters)), (m_tape, .inl (E.2.1 1, 160, .inl f_tape)), (hm, .inr (12, [.ref m_manys, .ref m_reals, .ref m_factsOf, .ref m_possible, .int (nI q_undos), .int (nI q_models), .ref m_tape, .int (nI q_taped), .int q_fault, .int 2, .int (nI pl2_133), .int (nI sp2_132), .int (nI pl2_133), .int (nI tk2_134), .int (nI vl2_135), .ref m_ends, .ref m_letters, .ref m_actOf, .ref m_whom, .ref m_actMany, .ref m_tokens, .ref m_afters, .ref m_afterOf, .int (nI ((q_counted + 1) + 1)), .ref m_pile, .ref m_caseMany, .ref m_happen, .ref m_hasIf, .ref m_becomes, .ref m_goneOf, .ref m_heard, .ref m_pairs, .ref m_heaps, .int q_rounds, .int q_heapMany, .ref m_led, .ref m_newAt, .ref m_knowing, .ref m_firsts, .int (nI q_people), .ref m_secrets, .ref m_tried, .ref m_lanes, .ref m_lengths, .ref m_cells]))]) ?_ rfl rfl rfl
                          refine ww_aload_n C dX12_readAct_102 2 rfl rfl ?_
                          refine ww_cv (wr := [(m_actMany, .inl (E.2.1 1, 25, .inl f_actMany)), (m_actOf, .inl (E.2.1 1, 800, .inl f_actOf)), (m_whom, .inl (E.2.1 1, 800, .inl f_whom)), (m_ends, .inl (E.2.1 1, 15, .inl f_ends)), (m_letters, .inl (E.2.1 1, 50, .inl f_letters))]) (k' := 0) (n' := 0) C (run_V (As := []) (rest := []) C (r_next X.2.1 E ro hm m_manys m_reals m_factsOf m_possible q_undos q_models m_tape q_taped q_fault 2 (nI pl2_133) sp2_132 (nI pl2_133) tk2_134 vl2_135 m_ends m_letters m_actOf m_whom m_actMany m_tokens m_afters m_afterOf (nI ((q_counted + 1) + 1)) m_pile m_caseMany m_happen m_hasIf m_becomes m_goneOf m_heard m_pairs m_heaps q_rounds q_heapMany m_led m_newAt m_knowing m_firsts q_people m_secrets m_tried m_lanes m_lengths m_cells f_tape (by omega) (by omega) (by omega) (by omega) (by omega)) mi_X12_next wl_X12_201 rfl 0 12 rfl rfl rfl rfl rfl dX12_readAct_103) (roK hro) [6, 5] [0, 1, 2, 3, 4] rfl rfl rfl rfl (fun uz hw => ?_)
                          rcases hw with hw | hw | hw
                          · refine an1 hw ?_
                            clear hw
                            intro he_288 hw
                            have h_287 := hw
                            clear hw
                            subst he_288
                            refine ww_eq (ws' := [(m_actMany, .inl (E.2.1 1, 25, .inl f_actMany)), (m_actOf, .inl (E.2.1 1, 800, .inl f_actOf)), (m_whom, .inl (E.2.1 1, 800, .inl f_whom)), (m_ends, .inl (E.2.1 1, 15, .inl f_ends)), (m_letters, .inl (E.2.1 1, 50, .inl f_letters)), (hm, .inr (12, [.ref m_manys, .ref m_reals, .ref m_factsOf, .ref m_possible, .int (nI q_undos), .int (nI q_models), .ref m_tape, .int (nI q_taped), .int q_fault, .int 2, .int (nI pl2_133), .int (nI sp2_132), .int (nI pl2_133), .int (nI tk2_134), .int (nI vl2_135), .ref m_ends, .ref m_letters, .ref m_actOf, .ref m_whom, .ref m_actMany, .ref m_tokens, .ref m_afters, .ref m_afterOf, .int (nI ((q_counted + 1) + 1)), .ref m_pile, .ref m_caseMany, .ref m_happen, .ref m_hasIf, .ref m_becomes, .ref m_goneOf, .ref m_heard, .ref m_pairs, .ref m_heaps, .int q_rounds, .int q_heapMany, .ref m_led, .ref m_newAt, .ref m_knowing, .ref m_firsts, .int (nI q_people), .ref m_secrets, .ref m_tried, .ref m_lanes, .ref m_lengths, .ref m_cells])), (m_tape, .inl (E.2.1 1, 160, .inl f_tape))]) ?_ rfl rfl rfl
                            refine ww_aload_n C dX12_readAct_106 2 rfl rfl ?_
                            refine ww_get C fg_X12_157 5 rfl rfl dX12_readAct_107 ?_
                            refine ww_if_ne_t (tgt := 150) C dX12_readAct_110 (by decide) (by decide) ?_
                            exact ww_vret (u := [(hm, .inr (12, [.ref m_manys, .ref m_reals, .ref m_factsOf, .ref m_possible, .int (nI q_undos), .int (nI q_models), .ref m_tape, .int (nI q_taped), .int q_fault, .int 2, .int (nI pl2_133), .int (nI sp2_132), .int (nI pl2_133), .int (nI tk2_134), .int (nI vl2_135), .ref m_ends, .ref m_letters, .ref m_actOf, .ref m_whom, .ref m_actMany, .ref m_tokens, .ref m_afters, .ref m_afterOf, .int (nI ((q_counted + 1) + 1)), .ref m_pile, .ref m_caseMany, .ref m_happen, .ref m_hasIf, .ref m_becomes, .ref m_goneOf, .ref m_heard, .ref m_pairs, .ref m_heaps, .int q_rounds, .int q_heapMany, .ref m_led, .ref m_newAt, .ref m_knowing, .ref m_firsts, .int (nI q_people), .ref m_secrets, .ref m_tried, .ref m_lanes, .ref m_lengths, .ref m_cells])), (m_tape, .inl (E.2.1 1, 160, .inl f_tape)), (m_ends, .inl (E.2.1 1, 15, .inl f_ends)), (m_letters, .inl (E.2.1 1, 50, .inl f_letters)), (m_actMany, .inl (E.2.1 1, 25, .inl f_actMany)), (m_actOf, .inl (E.2.1 1, 800, .inl f_actOf)), (m_whom, .inl (E.2.1 1, 800, .inl f_whom))]) C hT [5, 6, 3, 4, 0, 1, 2] rfl rfl rfl rfl dX12_readAct_150 (Or.inr ⟨sp2_132, pl2_133, tk2_134, vl2_135, ((q_counted + 1) + 1), 2, (nI pl2_133), rfl, (by first | assumption | omega | decide), (by first | assumption | omega | decide), (by first | assumption | omega | decide), (by first | assumption | omega | decide), (by omega), (by omega), (by omega), (by omega)⟩)
                          · refine ex4 hw ?_
                            clear hw
                            intro sp2_289 pl2_290 tk2_291 vl2_292 hw
                            refine an5 hw ?_
                            clear hw
                            intro he_298 h_293 h_294 h_295 h_296 hw
                            have h_297 := hw
                            clear hw
                            subst he_298
                            omega
                          · refine ex4 hw ?_
                            clear hw
                            intro sp2_299 pl2_300 tk2_301 vl2_302 hw
                            refine an5 hw ?_
                            clear hw
                            intro he_308 h_303 h_304 h_305 h_306 hw
                            have h_307 := hw
                            clear hw
                            subst he_308
                            omega
                        · refine an1 hw ?_
                          clear hw
                          intro he_285 hw
                          have h_284 := hw
                          clear hw
                          subst he_285
                          omega
              · refine an1 hw ?_
                clear hw
                intro he_156 hw
                have h_155 := hw
                clear hw
                subst he_156
                refine ww_eq (ws' := [(m_actMany, .inl (E.2.1 1, 25, .inl f_actMany)), (m_actOf, .inl (E.2.1 1, 800, .inl f_actOf)), (m_whom, .inl (E.2.1 1, 800, .inl f_whom)), (m_ends, .inl (E.2.1 1, 15, .inl f_ends)), (m_letters, .inl (E.2.1 1, 50, .inl f_letters)), (m_tape, .inl (E.2.1 1, 160, .inl f_tape)), (hm, .inr (12, [.ref m_manys, .ref m_reals, .ref m_factsOf, .ref m_possible, .int (nI q_undos), .int (nI q_models), .ref m_tape, .int (nI q_taped), .int q_fault, .int 5, .int (nI pl2_133), .int (nI sp2_132), .int (nI pl2_133), .int (nI tk2_134), .int (nI vl2_135), .ref m_ends, .ref m_letters, .ref m_actOf, .ref m_whom, .ref m_actMany, .ref m_tokens, .ref m_afters, .ref m_afterOf, .int (nI ((q_counted + 1) + 1)), .ref m_pile, .ref m_caseMany, .ref m_happen, .ref m_hasIf, .ref m_becomes, .ref m_goneOf, .ref m_heard, .ref m_pairs, .ref m_heaps, .int q_rounds, .int q_heapMany, .ref m_led, .ref m_newAt, .ref m_knowing, .ref m_firsts, .int (nI q_people), .ref m_secrets, .ref m_tried, .ref m_lanes, .ref m_lengths, .ref m_cells]))]) ?_ rfl rfl rfl
                refine ww_aload_n C dX12_readAct_56 2 rfl rfl ?_
                refine ww_get C fg_X12_157 6 rfl rfl dX12_readAct_57 ?_
                refine ww_if_ne_t (tgt := 70) C dX12_readAct_60 (by decide) (by decide) ?_
                refine ww_iconst (v := 0) C dX12_readAct_70 rfl ?_
                refine ww_istore_n (lv' := [(2, .int 0), (1, .int (nI nn_4)), (0, .ref hm)]) C dX12_readAct_71 rfl rfl rfl ?_
                refine ww_aload_n C dX12_readAct_72 2 rfl rfl ?_
                refine ww_get C fg_X12_157 6 rfl rfl dX12_readAct_73 ?_
                refine ww_if_ne_t (tgt := 102) C dX12_readAct_76 (by decide) (by decide) ?_
                refine ww_aload_n C dX12_readAct_102 2 rfl rfl ?_
                refine ww_cv (wr := [(m_actMany, .inl (E.2.1 1, 25, .inl f_actMany)), (m_actOf, .inl (E.2.1 1, 800, .inl f_actOf)), (m_whom, .inl (E.2.1 1, 800, .inl f_whom)), (m_ends, .inl (E.2.1 1, 15, .inl f_ends)), (m_letters, .inl (E.2.1 1, 50, .inl f_letters))]) (k' := 0) (n' := 0) C (run_V (As := []) (rest := []) C (r_next X.2.1 E ro hm m_manys m_reals m_factsOf m_possible q_undos q_models m_tape q_taped q_fault 5 (nI pl2_133) sp2_132 (nI pl2_133) tk2_134 vl2_135 m_ends m_letters m_actOf m_whom m_actMany m_tokens m_afters m_afterOf (nI ((q_counted + 1) + 1)) m_pile m_caseMany m_happen m_hasIf m_becomes m_goneOf m_heard m_pairs m_heaps q_rounds q_heapMany m_led m_newAt m_knowing m_firsts q_people m_secrets m_tried m_lanes m_lengths m_cells f_tape (by omega) (by omega) (by omega) (by omega) (by omega)) mi_X12_next wl_X12_201 rfl 0 12 rfl rfl rfl rfl rfl dX12_readAct_103) (roK hro) [6, 5] [0, 1, 2, 3, 4] rfl rfl rfl rfl (fun uz hw => ?_)
                rcases hw with hw | hw | hw
                · refine an1 hw ?_
                  clear hw
                  intro he_311 hw
                  have h_310 := hw
                  clear hw
                  subst he_311
                  refine ww_eq (ws' := [(m_actMany, .inl (E.2.1 1, 25, .inl f_actMany)), (m_actOf, .inl (E.2.1 1, 800, .inl f_actOf)), (m_whom, .inl (E.2.1 1, 800, .inl f_whom)), (m_ends, .inl (E.2.1 1, 15, .inl f_ends)), (m_letters, .inl (E.2.1 1, 50, .inl f_letters)), (hm, .inr (12, [.ref m_manys, .ref m_reals, .ref m_factsOf, .ref m_possible, .int (nI q_undos), .int (nI q_models), .ref m_tape, .int (nI q_taped), .int q_fault, .int 5, .int (nI pl2_133), .int (nI sp2_132), .int (nI pl2_133), .int (nI tk2_134), .int (nI vl2_135), .ref m_ends, .ref m_letters, .ref m_actOf, .ref m_whom, .ref m_actMany, .ref m_tokens, .ref m_afters, .ref m_afterOf, .int (nI ((q_counted + 1) + 1)), .ref m_pile, .ref m_caseMany, .ref m_happen, .ref m_hasIf, .ref m_becomes, .ref m_goneOf, .ref m_heard, .ref m_pairs, .ref m_heaps, .int q_rounds, .int q_heapMany, .ref m_led, .ref m_newAt, .ref m_knowing, .ref m_firsts, .int (nI q_people), .ref m_secrets, .ref m_tried, .ref m_lanes, .ref m_lengths, .ref m_cells])), (m_tape, .inl (E.2.1 1, 160, .inl f_tape))]) ?_ rfl rfl rfl
                  refine ww_aload_n C dX12_readAct_106 2 rfl rfl ?_
                  refine ww_get C fg_X12_157 5 rfl rfl dX12_readAct_107 ?_
                  refine ww_if_ne_t (tgt := 150) C dX12_readAct_110 (by decide) (by decide) ?_
                  exact ww_vret (u := [(hm, .inr (12, [.ref m_manys, .ref m_reals, .ref m_factsOf, .ref m_possible, .int (nI q_undos), .int (nI q_models), .ref m_tape, .int (nI q_taped), .int q_fault, .int 5, .int (nI pl2_133), .int (nI sp2_132), .int (nI pl2_133), .int (nI tk2_134), .int (nI vl2_135), .ref m_ends, .ref m_letters, .ref m_actOf, .ref m_whom, .ref m_actMany, .ref m_tokens, .ref m_afters, .ref m_afterOf, .int (nI ((q_counted + 1) + 1)), .ref m_pile, .ref m_caseMany, .ref m_happen, .ref m_hasIf, .ref m_becomes, .ref m_goneOf, .ref m_heard, .ref m_pairs, .ref m_heaps, .int q_rounds, .int q_heapMany, .ref m_led, .ref m_newAt, .ref m_knowing, .ref m_firsts, .int (nI q_people), .ref m_secrets, .ref m_tried, .ref m_lanes, .ref m_lengths, .ref m_cells])), (m_tape, .inl (E.2.1 1, 160, .inl f_tape)), (m_ends, .inl (E.2.1 1, 15, .inl f_ends)), (m_letters, .inl (E.2.1 1, 50, .inl f_letters)), (m_actMany, .inl (E.2.1 1, 25, .inl f_actMany)), (m_actOf, .inl (E.2.1 1, 800, .inl f_actOf)), (m_whom, .inl (E.2.1 1, 800, .inl f_whom))]) C hT [5, 6, 3, 4, 0, 1, 2] rfl rfl rfl rfl dX12_readAct_150 (Or.inr ⟨sp2_132, pl2_133, tk2_134, vl2_135, ((q_counted + 1) + 1), 5, (nI pl2_133), rfl, (by first | assumption | omega | decide), (by first | assumption | omega | decide), (by first | assumption | omega | decide), (by first | assumption | omega | decide), (by omega), (by omega), (by omega), (by omega)⟩)
                · refine ex4 hw ?_
                  clear hw
                  intro sp2_312 pl2_313 tk2_314 vl2_315 hw
                  refine an5 hw ?_
                  clear hw
                  intro he_321 h_316 h_317 h_318 h_319 hw
                  have h_320 := hw
                  clear hw
                  subst he_321
                  omega
                · refine ex4 hw ?_
                  clear hw
                  intro sp2_322 pl2_323 tk2_324 vl2_325 hw
                  refine an5 hw ?_
                  clear hw
                  intro he_331 h_326 h_327 h_328 h_329 hw
                  have h_330 := hw
                  clear hw
                  subst he_331
                  omega
            · refine ex4 hw ?_
              clear hw
              intro sp2_142 pl2_143 tk2_144 vl2_145 hw
              refine an5 hw ?_
              clear hw
              intro he_151 h_146 h_147 h_148 h_149 hw
              have h_150 := hw
              clear hw
              subst he_151
              refine ww_eq (ws' := [(m_actMany, .inl (E.2.1 1, 25, .inl f_actMany)), (m_actOf, .inl (E.2.1 1, 800, .inl f_actOf)), (m_whom, .inl (E.2.1 1, 800, .inl f_whom)), (m_ends, .inl (E.2.1 1, 15, .inl f_ends)), (m_letters, .inl (E.2.1 1, 50, .inl f_letters)), (hm, .inr (12, [.ref m_manys, .ref m_reals, .ref m_factsOf, .ref m_possible, .int (nI q_undos), .int (nI q_models), .ref m_tape, .int (nI q_taped), .int q_fault, .int 1, .int (nI pl2_143), .int (nI sp2_142), .int (nI pl2_143), .int (nI tk2_144), .int (nI vl2_145), .ref m_ends, .ref m_letters, .ref m_actOf, .ref m_whom, .ref m_actMany, .ref m_tokens, .ref m_afters, .ref m_afterOf, .int (nI (q_counted + 1)), .ref m_pile, .ref m_caseMany, .ref m_happen, .ref m_hasIf, .ref m_becomes, .ref m_goneOf, .ref m_heard, .ref m_pairs, .ref m_heaps, .int q_rounds, .int q_heapMany, .ref m_led, .ref m_newAt, .ref m_knowing, .ref m_firsts, .int (nI q_people), .ref m_secrets, .ref m_tried, .ref m_lanes, .ref m_lengths, .ref m_cells])), (m_tape, .inl (E.2.1 1, 160, .inl f_tape))]) ?_ rfl rfl rfl
              refine ww_aload_n C dX12_readAct_52 2 rfl rfl ?_
              refine ww_cv (wr := [(m_actMany, .inl (E.2.1 1, 25, .inl f_actMany)), (m_actOf, .inl (E.2.1 1, 800, .inl f_actOf)), (m_whom, .inl (E.2.1 1, 800, .inl f_whom)), (m_ends, .inl (E.2.1 1, 15, .inl f_ends)), (m_letters, .inl (E.2.1 1, 50, .inl f_letters)), (m_tape, .inl (E.2.1 1, 160, .inl f_tape))]) (k' := 0) (n' := 0) C (run_V (As := []) (rest := []) C (r_counts X.2.1 E ro hm m_manys m_reals m_factsOf m_possible q_undos q_models m_tape q_taped q_fault 1 (nI pl2_143) (nI sp2_142) (nI pl2_143) tk2_144 (nI vl2_145) m_ends m_letters m_actOf m_whom m_actMany m_tokens m_afters m_afterOf (q_counted + 1) m_pile m_caseMany m_happen m_hasIf m_becomes m_goneOf m_heard m_pairs m_heaps q_rounds q_heapMany m_led m_newAt m_knowing m_firsts q_people m_secrets m_tried m_lanes m_lengths m_cells (by omega) (by omega) (by omega)) mi_X12_counts wl_X12_198 rfl 0 12 rfl rfl rfl rfl rfl dX12_readAct_53) (roK hro) [5] [0, 1, 2, 3, 4, 6] rfl rfl rfl rfl (fun uz hw => ?_)
              rcases hw with hw | hw
              · refine an1 hw ?_
                clear hw
                intro he_334 hw
                have h_333 := hw
                clear hw
                subst he_334
                refine ww_eq (ws' := [(m_actMany, .inl (E.2.1 1, 25, .inl f_actMany)), (m_actOf, .inl (E.2.1 1, 800, .inl f_actOf)), (m_whom, .inl (E.2.1 1, 800, .inl f_whom)), (m_ends, .inl (E.2.1 1, 15, .inl f_ends)), (m_letters, .inl (E.2.1 1, 50, .inl f_letters)), (m_tape, .inl (E.2.1 1, 160, .inl f_tape)), (hm, .inr (12, [.ref m_manys, .ref m_reals, .ref m_factsOf, .ref m_possible, .int (nI q_undos), .int (nI q_models), .ref m_tape, .int (nI q_taped), .int q_fault, .int 1, .int (nI pl2_143), .int (nI sp2_142), .int (nI pl2_143), .int (nI tk2_144), .int (nI vl2_145), .ref m_ends, .ref m_letters, .ref m_actOf, .ref m_whom, .ref m_actMany, .ref m_tokens, .ref m_afters, .ref m_afterOf, .int (nI ((q_counted + 1) + 1)), .ref m_pile, .ref m_caseMany, .ref m_happen, .ref m_hasIf, .ref m_becomes, .ref m_goneOf, .ref m_heard, .ref m_pairs, .ref m_heaps, .int q_rounds, .int q_heapMany, .ref m_led, .ref m_newAt, .ref m_knowing, .ref m_firsts, .int (nI q_people), .ref m_secrets, .ref m_tried, .ref m_lanes, .ref m_lengths, .ref m_cells]))]) ?_ rfl rfl rfl
                refine ww_aload_n C dX12_readAct_56 2 rfl rfl ?_
                refine ww_get C fg_X12_157 6 rfl rfl dX12_readAct_57 ?_
                refine ww_if_ne_t (tgt := 70) C dX12_readAct_60 (by decide) (by decide) ?_
                refine ww_iconst (v := 0) C dX12_readAct_70 rfl ?_
                refine ww_istore_n (lv' := [(2, .int 0), (1, .int (nI nn_4)), (0, .ref hm)]) C dX12_readAct_71 rfl rfl rfl ?_
                refine ww_aload_n C dX12_readAct_72 2 rfl rfl ?_
                refine ww_get C fg_X12_157 6 rfl rfl dX12_readAct_73 ?_
                refine ww_if_ne_t (tgt := 102) C dX12_readAct_76 (by decide) (by decide) ?_
                refine ww_aload_n C dX12_readAct_102 2 rfl rfl ?_
                refine ww_cv (wr := [(m_actMany, .inl (E.2.1 1, 25, .inl f_actMany)), (m_actOf, .inl (E.2.1 1, 800, .inl f_actOf)), (m_whom, .inl (E.2.1 1, 800, .inl f_whom)), (m_ends, .inl (E.2.1 1, 15, .inl f_ends)), (m_letters, .inl (E.2.1 1, 50, .inl f_letters))]) (k' := 0) (n' := 0) C (run_V (As := []) (rest := []) C (r_next X.2.1 E ro hm m_manys m_reals m_factsOf m_possible q_undos q_models m_tape q_taped q_fault 1 (nI pl2_143) sp2_142 (nI pl2_143) tk2_144 vl2_145 m_ends m_letters m_actOf m_whom m_actMany m_tokens m_afters m_afterOf (nI ((q_counted + 1) + 1)) m_pile m_caseMany m_happen m_hasIf m_becomes m_goneOf m_heard m_pairs m_heaps q_rounds q_heapMany m_led m_newAt m_knowing m_firsts q_people m_secrets m_tried m_lanes m_lengths m_cells f_tape (by omega) (by omega) (by omega) (by omega) (by omega)) mi_X12_next wl_X12_201 rfl 0 12 rfl rfl rfl rfl rfl dX12_readAct_103) (roK hro) [6, 5] [0, 1, 2, 3, 4] rfl rfl rfl rfl (fun uz hw => ?_)
                rcases hw with hw | hw | hw
                · refine an1 hw ?_
                  clear hw
                  intro he_339 hw
                  have h_338 := hw
                  clear hw
                  subst he_339
                  refine ww_eq (ws' := [(m_actMany, .inl (E.2.1 1, 25, .inl f_actMany)), (m_actOf, .inl (E.2.1 1, 800, .inl f_actOf)), (m_whom, .inl (E.2.1 1, 800, .inl f_whom)), (m_ends, .inl (E.2.1 1, 15, .inl f_ends)), (m_letters, .inl (E.2.1 1, 50, .inl f_letters)), (hm, .inr (12, [.ref m_manys, .ref m_reals, .ref m_factsOf, .ref m_possible, .int (nI q_undos), .int (nI q_models), .ref m_tape, .int (nI q_taped), .int q_fault, .int 1, .int (nI pl2_143), .int (nI sp2_142), .int (nI pl2_143), .int (nI tk2_144), .int (nI vl2_145), .ref m_ends, .ref m_letters, .ref m_actOf, .ref m_whom, .ref m_actMany, .ref m_tokens, .ref m_afters, .ref m_afterOf, .int (nI ((q_counted + 1) + 1)), .ref m_pile, .ref m_caseMany, .ref m_happen, .ref m_hasIf, .ref m_becomes, .ref m_goneOf, .ref m_heard, .ref m_pairs, .ref m_heaps, .int q_rounds, .int q_heapMany, .ref m_led, .ref m_newAt, .ref m_knowing, .ref m_firsts, .int (nI q_people), .ref m_secrets, .ref m_tried, .ref m_lanes, .ref m_lengths, .ref m_cells])), (m_tape, .inl (E.2.1 1, 160, .inl f_tape))]) ?_ rfl rfl rfl
                  refine ww_aload_n C dX12_readAct_106 2 rfl rfl ?_
                  refine ww_get C fg_X12_157 5 rfl rfl dX12_readAct_107 ?_
                  refine ww_if_ne_t (tgt := 150) C dX12_readAct_110 (by decide) (by decide) ?_
                  exact ww_vret (u := [(hm, .inr (12, [.ref m_manys, .ref m_reals, .ref m_factsOf, .ref m_possible, .int (nI q_undos), .int (nI q_models), .ref m_tape, .int (nI q_taped), .int q_fault, .int 1, .int (nI pl2_143), .int (nI sp2_142), .int (nI pl2_143), .int (nI tk2_144), .int (nI vl2_145), .ref m_ends, .ref m_letters, .ref m_actOf, .ref m_whom, .ref m_actMany, .ref m_tokens, .ref m_afters, .ref m_afterOf, .int (nI ((q_counted + 1) + 1)), .ref m_pile, .ref m_caseMany, .ref m_happen, .ref m_hasIf, .ref m_becomes, .ref m_goneOf, .ref m_heard, .ref m_pairs, .ref m_heaps, .int q_rounds, .int q_heapMany, .ref m_led, .ref m_newAt, .ref m_knowing, .ref m_firsts, .int (nI q_people), .ref m_secrets, .ref m_tried, .ref m_lanes, .ref m_lengths, .ref m_cells])), (m_tape, .inl (E.2.1 1, 160, .inl f_tape)), (m_ends, .inl (E.2.1 1, 15, .inl f_ends)), (m_letters, .inl (E.2.1 1, 50, .inl f_letters)), (m_actMany, .inl (E.2.1 1, 25, .inl f_actMany)), (m_actOf, .inl (E.2.1 1, 800, .inl f_actOf)), (m_whom, .inl (E.2.1 1, 800, .inl f_whom))]) C hT [5, 6, 3, 4, 0, 1, 2] rfl rfl rfl rfl dX12_readAct_150 (Or.inr ⟨sp2_142, pl2_143, tk2_144, vl2_145, ((q_counted + 1) + 1), 1, (nI pl2_143), rfl, (by first | assumption | omega | decide), (by first | assumption | omega | decide), (by first | assumption | omega | decide), (by first | assumption | omega | decide), (by omega), (by omega), (by omega), (by omega)⟩)
                · refine ex4 hw ?_
                  clear hw
                  intro sp2_340 pl2_341 tk2_342 vl2_343 hw
                  refine an5 hw ?_
                  clear hw
                  intro he_349 h_344 h_345 h_346 h_347 hw
                  have h_348 := hw
                  clear hw
                  subst he_349
                  omega
                · refine ex4 hw ?_
                  clear hw
                  intro sp2_350 pl2_351 tk2_352 vl2_353 hw
                  refine an5 hw ?_
                  clear hw
                  intro he_359 h_354 h_355 h_356 h_357 hw
                  have h_358 := hw
                  clear hw
                  subst he_359
                  omega
              · refine an1 hw ?_
                clear hw
                intro he_336 hw
                have h_335 := hw
                clear hw
                subst he_336
                omega
        · have zc_99 : ((nn_4 : Nat) : Int) = 13 := i_eq (nI_toInt (n := nn_4) (by omega)) rfl c_99
          refine ww_aload_n C dX12_readAct_28 1 rfl rfl ?_
          refine ww_iconst (v := 2) C dX12_readAct_29 rfl ?_
          refine ww_cv (wr := [(m_actMany, .inl (E.2.1 1, 25, .inl f_actMany)), (m_actOf, .inl (E.2.1 1, 800, .inl f_actOf)), (m_whom, .inl (E.2.1 1, 800, .inl f_whom)), (m_tape, .inl (E.2.1 1, 160, .inl f_tape)), (m_ends, .inl (E.2.1 1, 15, .inl f_ends)), (m_letters, .inl (E.2.1 1, 50, .inl f_letters))]) (k' := 0) (n' := 0) C (run_V (As := [.int 2]) (rest := []) C (r_fails X.2.1 E ro hm 2 m_manys m_reals m_factsOf m_possible q_undos q_models m_tape q_taped q_fault 0 q_wrongAt (nI q_spot) (nI q_place) (nI q_token) (nI q_value) m_ends m_letters m_actOf m_whom m_actMany m_tokens m_afters m_afterOf (nI (q_counted + 1)) m_pile m_caseMany m_happen m_hasIf m_becomes m_goneOf m_heard m_pairs m_heaps q_rounds q_heapMany m_led m_newAt m_knowing m_firsts q_people m_secrets m_tried m_lanes m_lengths m_cells (by omega)) mi_X12_fails wl_X12_186 rfl 0 12 rfl rfl rfl rfl rfl dX12_readAct_30) (roK hro) [6] [0, 1, 2, 3, 4, 5] rfl rfl rfl rfl (fun uz hw => ?_)
          rcases hw with hw | hw
          · refine an1 hw ?_
            clear hw
            intro he_362 hw
            have h_361 := hw
            clear hw
            subst he_362
            refine ww_eq (ws' := [(m_actMany, .inl (E.2.1 1, 25, .inl f_actMany)), (m_actOf, .inl (E.2.1 1, 800, .inl f_actOf)), (m_whom, .inl (E.2.1 1, 800, .inl f_whom)), (m_tape, .inl (E.2.1 1, 160, .inl f_tape)), (m_ends, .inl (E.2.1 1, 15, .inl f_ends)), (m_letters, .inl (E.2.1 1, 50, .inl f_letters)), (hm, .inr (12, [.ref m_manys, .ref m_reals, .ref m_factsOf, .ref m_possible, .int (nI q_undos), .int (nI q_models), .ref m_tape, .int (nI q_taped), .int q_fault, .int 2, .int (nI q_place), .int (nI q_spot), .int (nI q_place), .int (nI q_token), .int (nI q_value), .ref m_ends, .ref m_letters, .ref m_actOf, .ref m_whom, .ref m_actMany, .ref m_tokens, .ref m_afters, .ref m_afterOf, .int (nI (q_counted + 1)), .ref m_pile, .ref m_caseMany, .ref m_happen, .ref m_hasIf, .ref m_becomes, .ref m_goneOf, .ref m_heard, .ref m_pairs, .ref m_heaps, .int q_rounds, .int q_heapMany, .ref m_led, .ref m_newAt, .ref m_knowing, .ref m_firsts, .int (nI q_people), .ref m_secrets, .ref m_tried, .ref m_lanes, .ref m_lengths, .ref m_cells]))]) ?_ rfl rfl rfl
            refine ww_iconst (v := 0) C dX12_readAct_33 rfl ?_
            refine ww_istore_n (lv' := [(2, .int 0), (1, .int (nI nn_4)), (0, .ref hm)]) C dX12_readAct_34 rfl rfl rfl ?_
            refine ww_aload_n C dX12_readAct_35 2 rfl rfl ?_
            refine ww_get C fg_X12_157 6 rfl rfl dX12_readAct_36 ?_
            refine ww_if_ne_t (tgt := 102) C dX12_readAct_39 (by decide) (by decide) ?_
            refine ww_aload_n C dX12_readAct_102 2 rfl rfl ?_
            refine ww_cv (wr := [(m_actMany, .inl (E.2.1 1, 25, .inl f_actMany)), (m_actOf, .inl (E.2.1 1, 800, .inl f_actOf)), (m_whom, .inl (E.2.1 1, 800, .inl f_whom)), (m_ends, .inl (E.2.1 1, 15, .inl f_ends)), (m_letters, .inl (E.2.1 1, 50, .inl f_letters))]) (k' := 0) (n' := 0) C (run_V (As := []) (rest := []) C (r_next X.2.1 E ro hm m_manys m_reals m_factsOf m_possible q_undos q_models m_tape q_taped q_fault 2 (nI q_place) q_spot (nI q_place) q_token q_value m_ends m_letters m_actOf m_whom m_actMany m_tokens m_afters m_afterOf (nI (q_counted + 1)) m_pile m_caseMany m_happen m_hasIf m_becomes m_goneOf m_heard m_pairs m_heaps q_rounds q_heapMany m_led m_newAt m_knowing m_firsts q_people m_secrets m_tried m_lanes m_lengths m_cells f_tape (by omega) (by omega) (by omega) (by omega) (by omega)) mi_X12_next wl_X12_201 rfl 0 12 rfl rfl rfl rfl rfl dX12_readAct_103) (roK hro) [6, 3] [0, 1, 2, 4, 5] rfl rfl rfl rfl (fun uz hw => ?_)
            rcases hw with hw | hw | hw
            · refine an1 hw ?_
              clear hw
              intro he_367 hw
              have h_366 := hw
              clear hw
              subst he_367
              refine ww_eq (ws' := [(m_actMany, .inl (E.2.1 1, 25, .inl f_actMany)), (m_actOf, .inl (E.2.1 1, 800, .inl f_actOf)), (m_whom, .inl (E.2.1 1, 800, .inl f_whom)), (m_ends, .inl (E.2.1 1, 15, .inl f_ends)), (m_letters, .inl (E.2.1 1, 50, .inl f_letters)), (hm, .inr (12, [.ref m_manys, .ref m_reals, .ref m_factsOf, .ref m_possible, .int (nI q_undos), .int (nI q_models), .ref m_tape, .int (nI q_taped), .int q_fault, .int 2, .int (nI q_place), .int (nI q_spot), .int (nI q_place), .int (nI q_token), .int (nI q_value), .ref m_ends, .ref m_letters, .ref m_actOf, .ref m_whom, .ref m_actMany, .ref m_tokens, .ref m_afters, .ref m_afterOf, .int (nI (q_counted + 1)), .ref m_pile, .ref m_caseMany, .ref m_happen, .ref m_hasIf, .ref m_becomes, .ref m_goneOf, .ref m_heard, .ref m_pairs, .ref m_heaps, .int q_rounds, .int q_heapMany, .ref m_led, .ref m_newAt, .ref m_knowing, .ref m_firsts, .int (nI q_people), .ref m_secrets, .ref m_tried, .ref m_lanes, .ref m_lengths, .ref m_cells])), (m_tape, .inl (E.2.1 1, 160, .inl f_tape))]) ?_ rfl rfl rfl
              refine ww_aload_n C dX12_readAct_106 2 rfl rfl ?_
              refine ww_get C fg_X12_157 5 rfl rfl dX12_readAct_107 ?_
              refine ww_if_ne_t (tgt := 150) C dX12_readAct_110 (by decide) (by decide) ?_
              exact ww_vret (u := [(hm, .inr (12, [.ref m_manys, .ref m_reals, .ref m_factsOf, .ref m_possible, .int (nI q_undos), .int (nI q_models), .ref m_tape, .int (nI q_taped), .int q_fault, .int 2, .int (nI q_place), .int (nI q_spot), .int (nI q_place), .int (nI q_token), .int (nI q_value), .ref m_ends, .ref m_letters, .ref m_actOf, .ref m_whom, .ref m_actMany, .ref m_tokens, .ref m_afters, .ref m_afterOf, .int (nI (q_counted + 1)), .ref m_pile, .ref m_caseMany, .ref m_happen, .ref m_hasIf, .ref m_becomes, .ref m_goneOf, .ref m_heard, .ref m_pairs, .ref m_heaps, .int q_rounds, .int q_heapMany, .ref m_led, .ref m_newAt, .ref m_knowing, .ref m_firsts, .int (nI q_people), .ref m_secrets, .ref m_tried, .ref m_lanes, .ref m_lengths, .ref m_cells])), (m_tape, .inl (E.2.1 1, 160, .inl f_tape)), (m_ends, .inl (E.2.1 1, 15, .inl f_ends)), (m_letters, .inl (E.2.1 1, 50, .inl f_letters)), (m_actMany, .inl (E.2.1 1, 25, .inl f_actMany)), (m_actOf, .inl (E.2.1 1, 800, .inl f_actOf)), (m_whom, .inl (E.2.1 1, 800, .inl f_whom))]) C hT [5, 6, 3, 4, 0, 1, 2] rfl rfl rfl rfl dX12_readAct_150 (Or.inr ⟨q_spot, q_place, q_token, q_value, (q_counted + 1), 2, (nI q_place), rfl, (by first | assumption | omega | decide), (by first | assumption | omega | decide), (by first | assumption | omega | decide), (by first | assumption | omega | decide), (by omega), (by omega), (by omega), (by omega)⟩)
            · refine ex4 hw ?_
              clear hw
              intro sp2_368 pl2_369 tk2_370 vl2_371 hw
              refine an5 hw ?_
              clear hw
              intro he_377 h_372 h_373 h_374 h_375 hw
              have h_376 := hw
              clear hw
              subst he_377
              omega
            · refine ex4 hw ?_
              clear hw
              intro sp2_378 pl2_379 tk2_380 vl2_381 hw
              refine an5 hw ?_
              clear hw
              intro he_387 h_382 h_383 h_384 h_385 hw
              have h_386 := hw
              clear hw
              subst he_387
              omega
          · refine an1 hw ?_
            clear hw
            intro he_364 hw
            have h_363 := hw
            clear hw
            subst he_364
            omega
    · refine an1 hw ?_
      clear hw
      intro he_69 hw
      have h_68 := hw
      clear hw
      subst he_69
      refine ww_eq (ws' := [(m_actMany, .inl (E.2.1 1, 25, .inl f_actMany)), (m_actOf, .inl (E.2.1 1, 800, .inl f_actOf)), (m_whom, .inl (E.2.1 1, 800, .inl f_whom)), (m_tape, .inl (E.2.1 1, 160, .inl f_tape)), (m_ends, .inl (E.2.1 1, 15, .inl f_ends)), (m_letters, .inl (E.2.1 1, 50, .inl f_letters)), (hm, .inr (12, [.ref m_manys, .ref m_reals, .ref m_factsOf, .ref m_possible, .int (nI q_undos), .int (nI q_models), .ref m_tape, .int (nI q_taped), .int q_fault, .int 5, .int (nI q_place), .int (nI q_spot), .int (nI q_place), .int (nI q_token), .int (nI q_value), .ref m_ends, .ref m_letters, .ref m_actOf, .ref m_whom, .ref m_actMany, .ref m_tokens, .ref m_afters, .ref m_afterOf, .int (nI (q_counted + 1)), .ref m_pile, .ref m_caseMany, .ref m_happen, .ref m_hasIf, .ref m_becomes, .ref m_goneOf, .ref m_heard, .ref m_pairs, .ref m_heaps, .int q_rounds, .int q_heapMany, .ref m_led, .ref m_newAt, .ref m_knowing, .ref m_firsts, .int (nI q_people), .ref m_secrets, .ref m_tried, .ref m_lanes, .ref m_lengths, .ref m_cells]))]) ?_ rfl rfl rfl
      refine ww_aload_n C dX12_readAct_9 1 rfl rfl ?_
      refine ww_get C fg_X12_157 6 rfl rfl dX12_readAct_10 ?_
      refine ww_if_ne_t (tgt := 33) C dX12_readAct_13 (by decide) (by decide) ?_
      refine ww_iconst (v := 0) C dX12_readAct_33 rfl ?_
      refine ww_istore_n (lv' := [(2, .int 0), (1, .int (nI nn_4)), (0, .ref hm)]) C dX12_readAct_34 rfl rfl rfl ?_
      refine ww_aload_n C dX12_readAct_35 2 rfl rfl ?_
      refine ww_get C fg_X12_157 6 rfl rfl dX12_readAct_36 ?_
      refine ww_if_ne_t (tgt := 102) C dX12_readAct_39 (by decide) (by decide) ?_
      refine ww_aload_n C dX12_readAct_102 2 rfl rfl ?_
      refine ww_cv (wr := [(m_actMany, .inl (E.2.1 1, 25, .inl f_actMany)), (m_actOf, .inl (E.2.1 1, 800, .inl f_actOf)), (m_whom, .inl (E.2.1 1, 800, .inl f_whom)), (m_ends, .inl (E.2.1 1, 15, .inl f_ends)), (m_letters, .inl (E.2.1 1, 50, .inl f_letters))]) (k' := 0) (n' := 0) C (run_V (As := []) (rest := []) C (r_next X.2.1 E ro hm m_manys m_reals m_factsOf m_possible q_undos q_models m_tape q_taped q_fault 5 (nI q_place) q_spot (nI q_place) q_token q_value m_ends m_letters m_actOf m_whom m_actMany m_tokens m_afters m_afterOf (nI (q_counted + 1)) m_pile m_caseMany m_happen m_hasIf m_becomes m_goneOf m_heard m_pairs m_heaps q_rounds q_heapMany m_led m_newAt m_knowing m_firsts q_people m_secrets m_tried m_lanes m_lengths m_cells f_tape (by omega) (by omega) (by omega) (by omega) (by omega)) mi_X12_next wl_X12_201 rfl 0 12 rfl rfl rfl rfl rfl dX12_readAct_103) (roK hro) [6, 3] [0, 1, 2, 4, 5] rfl rfl rfl rfl (fun uz hw => ?_)
      rcases hw with hw | hw | hw
      · refine an1 hw ?_
        clear hw
        intro he_390 hw
        have h_389 := hw
        clear hw
        subst he_390
        refine ww_eq (ws' := [(m_actMany, .inl (E.2.1 1, 25, .inl f_actMany)), (m_actOf, .inl (E.2.1 1, 800, .inl f_actOf)), (m_whom, .inl (E.2.1 1, 800, .inl f_whom)), (m_ends, .inl (E.2.1 1, 15, .inl f_ends)), (m_letters, .inl (E.2.1 1, 50, .inl f_letters)), (hm, .inr (12, [.ref m_manys, .ref m_reals, .ref m_factsOf, .ref m_possible, .int (nI q_undos), .int (nI q_models), .ref m_tape, .int (nI q_taped), .int q_fault, .int 5, .int (nI q_place), .int (nI q_spot), .int (nI q_place), .int (nI q_token), .int (nI q_value), .ref m_ends, .ref m_letters, .ref m_actOf, .ref m_whom, .ref m_actMany, .ref m_tokens, .ref m_afters, .ref m_afterOf, .int (nI (q_counted + 1)), .ref m_pile, .ref m_caseMany, .ref m_happen, .ref m_hasIf, .ref m_becomes, .ref m_goneOf, .ref m_heard, .ref m_pairs, .ref m_heaps, .int q_rounds, .int q_heapMany, .ref m_led, .ref m_newAt, .ref m_knowing, .ref m_firsts, .int (nI q_people), .ref m_secrets, .ref m_tried, .ref m_lanes, .ref m_lengths, .ref m_cells])), (m_tape, .inl (E.2.1 1, 160, .inl f_tape))]) ?_ rfl rfl rfl
        refine ww_aload_n C dX12_readAct_106 2 rfl rfl ?_
        refine ww_get C fg_X12_157 5 rfl rfl dX12_readAct_107 ?_
        refine ww_if_ne_t (tgt := 150) C dX12_readAct_110 (by decide) (by decide) ?_
        exact ww_vret (u := [(hm, .inr (12, [.ref m_manys, .ref m_reals, .ref m_factsOf, .ref m_possible, .int (nI q_undos), .int (nI q_models), .ref m_tape, .int (nI q_taped), .int q_fault, .int 5, .int (nI q_place), .int (nI q_spot), .int (nI q_place), .int (nI q_token), .int (nI q_value), .ref m_ends, .ref m_letters, .ref m_actOf, .ref m_whom, .ref m_actMany, .ref m_tokens, .ref m_afters, .ref m_afterOf, .int (nI (q_counted + 1)), .ref m_pile, .ref m_caseMany, .ref m_happen, .ref m_hasIf, .ref m_becomes, .ref m_goneOf, .ref m_heard, .ref m_pairs, .ref m_heaps, .int q_rounds, .int q_heapMany, .ref m_led, .ref m_newAt, .ref m_knowing, .ref m_firsts, .int (nI q_people), .ref m_secrets, .ref m_tried, .ref m_lanes, .ref m_lengths, .ref m_cells])), (m_tape, .inl (E.2.1 1, 160, .inl f_tape)), (m_ends, .inl (E.2.1 1, 15, .inl f_ends)), (m_letters, .inl (E.2.1 1, 50, .inl f_letters)), (m_actMany, .inl (E.2.1 1, 25, .inl f_actMany)), (m_actOf, .inl (E.2.1 1, 800, .inl f_actOf)), (m_whom, .inl (E.2.1 1, 800, .inl f_whom))]) C hT [5, 6, 3, 4, 0, 1, 2] rfl rfl rfl rfl dX12_readAct_150 (Or.inr ⟨q_spot, q_place, q_token, q_value, (q_counted + 1), 5, (nI q_place), rfl, (by first | assumption | omega | decide), (by first | assumption | omega | decide), (by first | assumption | omega | decide), (by first | assumption | omega | decide), (by omega), (by omega), (by omega), (by omega)⟩)
      · refine ex4 hw ?_
        clear hw
        intro sp2_391 pl2_392 tk2_393 vl2_394 hw
        refine an5 hw ?_
        clear hw
        intro he_400 h_395 h_396 h_397 h_398 hw
        have h_399 := hw
        clear hw
        subst he_400
        omega
      · refine ex4 hw ?_
        clear hw
        intro sp2_401 pl2_402 tk2_403 vl2_404 hw
        refine an5 hw ?_
        clear hw
        intro he_410 h_405 h_406 h_407 h_408 hw
        have h_409 := hw
        clear hw
        subst he_410
        omega
