section
theorem wt_8 {a : Nat} (h : 8 ≤ a) (h2 : a < 13) : wt a = 1 := by unfold wt; rw [if_neg (by omega), if_neg (by omega)]
theorem cb_pos : ∀ g, g < 16 → 0 < g → 1 ≤ cb g.testBit 32 := by decide +kernel
theorem gO_x {g : Nat} (h : cb g.testBit 32 ≠ 1 ∨ g = 0) : gO g = 0 := by
  unfold gO
  rcases h with h | h
  · rw [if_pos h]
  · rw [h]; split <;> rfl
theorem gO_y {g : Nat} (h : cb g.testBit 32 ≤ 1) (hg : g < 16) (h0 : 0 < g) : gO g = g := by
  unfold gO
  have := cb_pos g hg h0
  rw [if_neg (by omega)]
theorem dX12_readAct_0 : decode cX12_readAct 0 = .ok (.aload_n 0, 1) := dl_42 (by decide +kernel)
theorem dX12_readAct_1 : decode cX12_readAct 1 = .ok (.invokevirtual 194, 3) := dl_182 (by decide +kernel)
theorem wl_X12_194 : Cond.methodLink RX12 194 yX12_nameHere ∈ TB := tbm (tq6 (List.mem_of_getElem? (i := 73) (by decide +kernel))) (by decide +kernel)
theorem wc_X12_nameHere : Cond.code yX12_nameHere cX12_nameHere 4 (some .int) ∈ TB := tbm (tq6 (List.mem_of_getElem? (i := 76) (rfl))) (by decide +kernel)
theorem wi_X12_nameHere : Cond.instanceMethod yX12_nameHere ∈ TB := tbm (tq6 (List.mem_of_getElem? (i := 75) (by decide +kernel))) (by decide +kernel)
theorem ws_X12_nameHere : Cond.selects RX12 yX12_nameHere yX12_nameHere ∈ TB := tbm (tq0 (List.mem_of_getElem? (i := 47) (by decide +kernel))) (by decide +kernel)
theorem mi_X12_nameHere : MI yX12_nameHere cX12_nameHere 4 (some .int) 0 := ⟨wc_X12_nameHere, wn_X12, ⟨by decide +kernel, by decide +kernel, by decide +kernel⟩, wi_X12_nameHere, ws_X12_nameHere⟩
theorem dX12_readAct_4 : decode cX12_readAct 4 = .ok (.istore_n 1, 1) := dl_60 (by decide +kernel)
theorem dX12_readAct_5 : decode cX12_readAct 5 = .ok (.aload_n 0, 1) := dl_42 (by decide +kernel)
theorem dX12_readAct_6 : decode cX12_readAct 6 = .ok (.invokevirtual 198, 3) := dl_182 (by decide +kernel)
theorem wl_X12_198 : Cond.methodLink RX12 198 yX12_counts ∈ TB := tbm (tq6 (List.mem_of_getElem? (i := 81) (by decide +kernel))) (by decide +kernel)
theorem wc_X12_counts : Cond.code yX12_counts cX12_counts 1 none ∈ TB := tbm (tq6 (List.mem_of_getElem? (i := 84) (rfl))) (by decide +kernel)
theorem wi_X12_counts : Cond.instanceMethod yX12_counts ∈ TB := tbm (tq6 (List.mem_of_getElem? (i := 83) (by decide +kernel))) (by decide +kernel)
theorem ws_X12_counts : Cond.selects RX12 yX12_counts yX12_counts ∈ TB := tbm (tq0 (List.mem_of_getElem? (i := 49) (by decide +kernel))) (by decide +kernel)
theorem mi_X12_counts : MI yX12_counts cX12_counts 1 none 0 := ⟨wc_X12_counts, wn_X12, ⟨by decide +kernel, by decide +kernel, by decide +kernel⟩, wi_X12_counts, ws_X12_counts⟩
theorem dX12_readAct_9 : decode cX12_readAct 9 = .ok (.aload_n 0, 1) := dl_42 (by decide +kernel)
theorem dX12_readAct_10 : decode cX12_readAct 10 = .ok (.getfield 157, 3) := dl_180 (by decide +kernel)
theorem dX12_readAct_13 : decode cX12_readAct 13 = .ok (.ifCond .ne 20, 3) := dl_154 (by decide +kernel)
theorem dX12_readAct_16 : decode cX12_readAct 16 = .ok (.iload_n 1, 1) := dl_27 (by decide +kernel)
theorem dX12_readAct_17 : decode cX12_readAct 17 = .ok (.bipush (-4), 2) := dl_16 (by decide +kernel)
theorem dX12_readAct_19 : decode cX12_readAct 19 = .ok (.if_icmp .eq 9, 3) := dl_159 (by decide +kernel)
theorem dX12_readAct_28 : decode cX12_readAct 28 = .ok (.aload_n 0, 1) := dl_42 (by decide +kernel)
theorem dX12_readAct_29 : decode cX12_readAct 29 = .ok (.iconst 2, 1) := dl_5 (by decide +kernel)
theorem dX12_readAct_30 : decode cX12_readAct 30 = .ok (.invokevirtual 186, 3) := dl_182 (by decide +kernel)
theorem dX12_readAct_33 : decode cX12_readAct 33 = .ok (.iconst 0, 1) := dl_3 (by decide +kernel)
theorem dX12_readAct_34 : decode cX12_readAct 34 = .ok (.istore_n 2, 1) := dl_61 (by decide +kernel)
theorem dX12_readAct_35 : decode cX12_readAct 35 = .ok (.aload_n 0, 1) := dl_42 (by decide +kernel)
theorem dX12_readAct_36 : decode cX12_readAct 36 = .ok (.getfield 157, 3) := dl_180 (by decide +kernel)
theorem dX12_readAct_39 : decode cX12_readAct 39 = .ok (.ifCond .ne 63, 3) := dl_154 (by decide +kernel)
theorem dX12_readAct_102 : decode cX12_readAct 102 = .ok (.aload_n 0, 1) := dl_42 (by decide +kernel)
theorem dX12_readAct_103 : decode cX12_readAct 103 = .ok (.invokevirtual 201, 3) := dl_182 (by decide +kernel)
theorem wl_X12_201 : Cond.methodLink RX12 201 yX12_next ∈ TB := tbm (tq6 (List.mem_of_getElem? (i := 53) (by decide +kernel))) (by decide +kernel)
theorem wc_X12_next : Cond.code yX12_next cX12_next 2 none ∈ TB := tbm (tq6 (List.mem_of_getElem? (i := 56) (rfl))) (by decide +kernel)
theorem wi_X12_next : Cond.instanceMethod yX12_next ∈ TB := tbm (tq6 (List.mem_of_getElem? (i := 55) (by decide +kernel))) (by decide +kernel)
theorem ws_X12_next : Cond.selects RX12 yX12_next yX12_next ∈ TB := tbm (tq0 (List.mem_of_getElem? (i := 43) (by decide +kernel))) (by decide +kernel)
theorem mi_X12_next : MI yX12_next cX12_next 2 none 0 := ⟨wc_X12_next, wn_X12, ⟨by decide +kernel, by decide +kernel, by decide +kernel⟩, wi_X12_next, ws_X12_next⟩
theorem dX12_readAct_106 : decode cX12_readAct 106 = .ok (.aload_n 0, 1) := dl_42 (by decide +kernel)
theorem dX12_readAct_107 : decode cX12_readAct 107 = .ok (.getfield 157, 3) := dl_180 (by decide +kernel)
theorem dX12_readAct_110 : decode cX12_readAct 110 = .ok (.ifCond .ne 40, 3) := dl_154 (by decide +kernel)
theorem dX12_readAct_150 : decode cX12_readAct 150 = .ok (.return_, 1) := dl_177 (by decide +kernel)
theorem dX12_readAct_22 : decode cX12_readAct 22 = .ok (.iload_n 1, 1) := dl_27 (by decide +kernel)
theorem dX12_readAct_23 : decode cX12_readAct 23 = .ok (.bipush 13, 2) := dl_16 (by decide +kernel)
theorem dX12_readAct_25 : decode cX12_readAct 25 = .ok (.if_icmp .ne 8, 3) := dl_160 (by decide +kernel)
theorem dX12_readAct_42 : decode cX12_readAct 42 = .ok (.iload_n 1, 1) := dl_27 (by decide +kernel)
theorem dX12_readAct_43 : decode cX12_readAct 43 = .ok (.bipush 8, 2) := dl_16 (by decide +kernel)
theorem dX12_readAct_45 : decode cX12_readAct 45 = .ok (.if_icmp .lt 57, 3) := dl_161 (by decide +kernel)
theorem dX12_readAct_113 : decode cX12_readAct 113 = .ok (.sipush 768, 3) := dl_17 (by decide +kernel)
theorem dX12_readAct_116 : decode cX12_readAct 116 = .ok (.aload_n 0, 1) := dl_42 (by decide +kernel)
theorem dX12_readAct_117 : decode cX12_readAct 117 = .ok (.getfield 37, 3) := dl_180 (by decide +kernel)
theorem wf_X12_37 : Cond.fieldLink RX12 37 RX12 "actMany" "[I" ∈ TB := tbm (tq5 (List.mem_of_getElem? (i := 97) (by decide +kernel))) (by decide +kernel)
theorem fg_X12_37 : FG RX12 37 12 19 := ⟨RX12, TX12, 45, uw_X12, wf_X12_37, rfl, by decide, rfl⟩
theorem dX12_readAct_120 : decode cX12_readAct 120 = .ok (.bipush 24, 2) := dl_16 (by decide +kernel)
theorem dX12_readAct_122 : decode cX12_readAct 122 = .ok (.iaload, 1) := dl_46 (by decide +kernel)
theorem dX12_readAct_123 : decode cX12_readAct 123 = .ok (.iadd, 1) := dl_96 (by decide +kernel)
theorem dX12_readAct_124 : decode cX12_readAct 124 = .ok (.istore_n 3, 1) := dl_62 (by decide +kernel)
theorem dX12_readAct_125 : decode cX12_readAct 125 = .ok (.aload_n 0, 1) := dl_42 (by decide +kernel)
theorem dX12_readAct_126 : decode cX12_readAct 126 = .ok (.getfield 31, 3) := dl_180 (by decide +kernel)
theorem wf_X12_31 : Cond.fieldLink RX12 31 RX12 "actOf" "[I" ∈ TB := tbm (tq5 (List.mem_of_getElem? (i := 95) (by decide +kernel))) (by decide +kernel)
theorem fg_X12_31 : FG RX12 31 12 17 := ⟨RX12, TX12, 45, uw_X12, wf_X12_31, rfl, by decide, rfl⟩
theorem dX12_readAct_129 : decode cX12_readAct 129 = .ok (.iload_n 3, 1) := dl_29 (by decide +kernel)
theorem dX12_readAct_130 : decode cX12_readAct 130 = .ok (.iload_n 1, 1) := dl_27 (by decide +kernel)
theorem dX12_readAct_131 : decode cX12_readAct 131 = .ok (.iastore, 1) := dl_79 (by decide +kernel)
theorem dX12_readAct_132 : decode cX12_readAct 132 = .ok (.aload_n 0, 1) := dl_42 (by decide +kernel)
theorem dX12_readAct_133 : decode cX12_readAct 133 = .ok (.getfield 34, 3) := dl_180 (by decide +kernel)
theorem wf_X12_34 : Cond.fieldLink RX12 34 RX12 "whom" "[I" ∈ TB := tbm (tq5 (List.mem_of_getElem? (i := 96) (by decide +kernel))) (by decide +kernel)
theorem fg_X12_34 : FG RX12 34 12 18 := ⟨RX12, TX12, 45, uw_X12, wf_X12_34, rfl, by decide, rfl⟩
theorem dX12_readAct_136 : decode cX12_readAct 136 = .ok (.iload_n 3, 1) := dl_29 (by decide +kernel)
theorem dX12_readAct_137 : decode cX12_readAct 137 = .ok (.iload_n 2, 1) := dl_28 (by decide +kernel)
theorem dX12_readAct_138 : decode cX12_readAct 138 = .ok (.iastore, 1) := dl_79 (by decide +kernel)
theorem dX12_readAct_139 : decode cX12_readAct 139 = .ok (.aload_n 0, 1) := dl_42 (by decide +kernel)
theorem dX12_readAct_140 : decode cX12_readAct 140 = .ok (.getfield 37, 3) := dl_180 (by decide +kernel)
theorem dX12_readAct_143 : decode cX12_readAct 143 = .ok (.bipush 24, 2) := dl_16 (by decide +kernel)
theorem dX12_readAct_145 : decode cX12_readAct 145 = .ok (.dup2, 1) := dl_92 (by decide +kernel)
theorem dX12_readAct_146 : decode cX12_readAct 146 = .ok (.iaload, 1) := dl_46 (by decide +kernel)
theorem dX12_readAct_147 : decode cX12_readAct 147 = .ok (.iconst 1, 1) := dl_4 (by decide +kernel)
theorem dX12_readAct_148 : decode cX12_readAct 148 = .ok (.iadd, 1) := dl_96 (by decide +kernel)
theorem dX12_readAct_149 : decode cX12_readAct 149 = .ok (.iastore, 1) := dl_79 (by decide +kernel)
theorem dX12_readAct_48 : decode cX12_readAct 48 = .ok (.aload_n 0, 1) := dl_42 (by decide +kernel)
theorem dX12_readAct_49 : decode cX12_readAct 49 = .ok (.invokevirtual 201, 3) := dl_182 (by decide +kernel)
theorem dX12_readAct_52 : decode cX12_readAct 52 = .ok (.aload_n 0, 1) := dl_42 (by decide +kernel)
theorem dX12_readAct_53 : decode cX12_readAct 53 = .ok (.invokevirtual 198, 3) := dl_182 (by decide +kernel)
theorem dX12_readAct_56 : decode cX12_readAct 56 = .ok (.aload_n 0, 1) := dl_42 (by decide +kernel)
theorem dX12_readAct_57 : decode cX12_readAct 57 = .ok (.getfield 157, 3) := dl_180 (by decide +kernel)
theorem dX12_readAct_60 : decode cX12_readAct 60 = .ok (.ifCond .ne 10, 3) := dl_154 (by decide +kernel)
theorem dX12_readAct_63 : decode cX12_readAct 63 = .ok (.aload_n 0, 1) := dl_42 (by decide +kernel)
theorem dX12_readAct_64 : decode cX12_readAct 64 = .ok (.invokevirtual 204, 3) := dl_182 (by decide +kernel)
theorem wl_X12_204 : Cond.methodLink RX12 204 yX12_groupHere ∈ TB := tbm (tq6 (List.mem_of_getElem? (i := 85) (by decide +kernel))) (by decide +kernel)
theorem wc_X12_groupHere : Cond.code yX12_groupHere cX12_groupHere 5 (some .int) ∈ TB := tbm (tq6 (List.mem_of_getElem? (i := 88) (rfl))) (by decide +kernel)
theorem wi_X12_groupHere : Cond.instanceMethod yX12_groupHere ∈ TB := tbm (tq6 (List.mem_of_getElem? (i := 87) (by decide +kernel))) (by decide +kernel)
theorem ws_X12_groupHere : Cond.selects RX12 yX12_groupHere yX12_groupHere ∈ TB := tbm (tq0 (List.mem_of_getElem? (i := 50) (by decide +kernel))) (by decide +kernel)
theorem mi_X12_groupHere : MI yX12_groupHere cX12_groupHere 5 (some .int) 0 := ⟨wc_X12_groupHere, wn_X12, ⟨by decide +kernel, by decide +kernel, by decide +kernel⟩, wi_X12_groupHere, ws_X12_groupHere⟩
theorem dX12_readAct_67 : decode cX12_readAct 67 = .ok (.goto 4, 3) := dl_167 (by decide +kernel)
theorem dX12_readAct_71 : decode cX12_readAct 71 = .ok (.istore_n 2, 1) := dl_61 (by decide +kernel)
theorem dX12_readAct_72 : decode cX12_readAct 72 = .ok (.aload_n 0, 1) := dl_42 (by decide +kernel)
theorem dX12_readAct_73 : decode cX12_readAct 73 = .ok (.getfield 157, 3) := dl_180 (by decide +kernel)
theorem dX12_readAct_76 : decode cX12_readAct 76 = .ok (.ifCond .ne 26, 3) := dl_154 (by decide +kernel)
theorem dX12_readAct_79 : decode cX12_readAct 79 = .ok (.iload_n 2, 1) := dl_28 (by decide +kernel)
theorem dX12_readAct_80 : decode cX12_readAct 80 = .ok (.ifCond .eq 17, 3) := dl_153 (by decide +kernel)
theorem dX12_readAct_97 : decode cX12_readAct 97 = .ok (.aload_n 0, 1) := dl_42 (by decide +kernel)
theorem dX12_readAct_98 : decode cX12_readAct 98 = .ok (.iconst 2, 1) := dl_5 (by decide +kernel)
theorem dX12_readAct_99 : decode cX12_readAct 99 = .ok (.invokevirtual 186, 3) := dl_182 (by decide +kernel)
theorem dX12_readAct_83 : decode cX12_readAct 83 = .ok (.iload_n 1, 1) := dl_27 (by decide +kernel)
theorem dX12_readAct_84 : decode cX12_readAct 84 = .ok (.bipush 10, 2) := dl_16 (by decide +kernel)
theorem dX12_readAct_86 : decode cX12_readAct 86 = .ok (.if_icmp .ge 16, 3) := dl_162 (by decide +kernel)
theorem dX12_readAct_89 : decode cX12_readAct 89 = .ok (.iload_n 2, 1) := dl_28 (by decide +kernel)
theorem dX12_readAct_90 : decode cX12_readAct 90 = .ok (.invokestatic 145, 3) := dl_184 (by decide +kernel)
theorem dX12_readAct_93 : decode cX12_readAct 93 = .ok (.iconst 1, 1) := dl_4 (by decide +kernel)
theorem dX12_readAct_94 : decode cX12_readAct 94 = .ok (.if_icmp .le 8, 3) := dl_164 (by decide +kernel)
theorem dX12_readAct_70 : decode cX12_readAct 70 = .ok (.iconst 0, 1) := dl_3 (by decide +kernel)
set_option maxRecDepth 100000 in
set_option maxHeartbeats 4000000 in
theorem r_readAct (l : Launch) (E : EV) (ro : va_W) (hm : Nat) (m_manys : Nat) (m_reals : Nat) (m_factsOf : Nat) (m_possible : Nat) (q_undos : Nat) (q_models : Nat) (m_tape : Nat) (q_taped : Nat) (q_fault : Int32) (q_wrongAt : Int32) (q_spot : Nat) (q_place : Nat) (q_token : Nat) (q_value : Nat) (m_ends : Nat) (m_letters : Nat) (m_actOf : Nat) (m_whom : Nat) (m_actMany : Nat) (m_tokens : Nat) (m_afters : Nat) (m_afterOf : Nat) (q_counted : Nat) (m_pile : Nat) (m_caseMany : Nat) (m_happen : Nat) (m_hasIf : Nat) (m_becomes : Nat) (m_goneOf : Nat) (m_heard : Nat) (m_pairs : Nat) (m_heaps : Nat) (q_rounds : Int32) (q_heapMany : Int32) (m_led : Nat) (m_newAt : Nat) (m_knowing : Nat) (m_firsts : Nat) (q_people : Nat) (m_secrets : Nat) (m_tried : Nat) (m_lanes : Nat) (m_lengths : Nat) (m_cells : Nat) (f_tape : Nat → Int32) (f_ends : Nat → Int32) (f_letters : Nat → Int32) (f_actMany : Nat → Int32) (f_actOf : Nat → Int32) (f_whom : Nat → Int32) (p_ : Nat) (hb_tape : NB 160 255 f_tape) (hb_ends : EN f_ends) (hb_letters : LTR f_letters) (hb_actMany : NB 25 32 f_actMany) (hq_taped : q_taped ≤ 160) (hq_spot : q_spot ≤ q_taped) (hq_place : q_place ≤ q_spot) (hq_token : q_token ≤ 2) (hq_value : q_value ≤ 9) (hq_counted : q_counted ≤ 32) (ham : cN f_actMany 24 ≤ q_counted) (htR : TK (cz f_tape q_taped) p_ q_place q_token q_spot) : CT l yX12_readAct (Cond.code yX12_readAct cX12_readAct 4 none :: TB) ({ frames := 2, cells := 0, slots := 0, locals := 49 }) E ro [.ref hm] [(hm, .inr (12, [.ref m_manys, .ref m_reals, .ref m_factsOf, .ref m_possible, .int (nI q_undos), .int (nI q_models), .ref m_tape, .int (nI q_taped), .int q_fault, .int 0, .int q_wrongAt, .int (nI q_spot), .int (nI q_place), .int (nI q_token), .int (nI q_value), .ref m_ends, .ref m_letters, .ref m_actOf, .ref m_whom, .ref m_actMany, .ref m_tokens, .ref m_afters, .ref m_afterOf, .int (nI q_counted), .ref m_pile, .ref m_caseMany, .ref m_happen, .ref m_hasIf, .ref m_becomes, .ref m_goneOf, .ref m_heard, .ref m_pairs, .ref m_heaps, .int q_rounds, .int q_heapMany, .ref m_led, .ref m_newAt, .ref m_knowing, .ref m_firsts, .int (nI q_people), .ref m_secrets, .ref m_tried, .ref m_lanes, .ref m_lengths, .ref m_cells])), (m_tape, .inl (E.2.1 1, 160, .inl f_tape)), (m_ends, .inl (E.2.1 1, 15, .inl f_ends)), (m_letters, .inl (E.2.1 1, 50, .inl f_letters)), (m_actMany, .inl (E.2.1 1, 25, .inl f_actMany)), (m_actOf, .inl (E.2.1 1, 800, .inl f_actOf)), (m_whom, .inl (E.2.1 1, 800, .inl f_whom))] (Qv E (fun uz => (∃ (sp2 : Nat) (pl2 : Nat) (tk2 : Nat) (vl2 : Nat) (ct2 : Nat) (ac_ : Nat) (p2 : Nat) (g_ : Nat) (f_actManyz : Nat → Int32) (f_actOfz : Nat → Int32) (f_whomz : Nat → Int32), uz = [(hm, .inr (12, [.ref m_manys, .ref m_reals, .ref m_factsOf, .ref m_possible, .int (nI q_undos), .int (nI q_models), .ref m_tape, .int (nI q_taped), .int q_fault, .int 0, .int q_wrongAt, .int (nI sp2), .int (nI pl2), .int (nI tk2), .int (nI vl2), .ref m_ends, .ref m_letters, .ref m_actOf, .ref m_whom, .ref m_actMany, .ref m_tokens, .ref m_afters, .ref m_afterOf, .int (nI ct2), .ref m_pile, .ref m_caseMany, .ref m_happen, .ref m_hasIf, .ref m_becomes, .ref m_goneOf, .ref m_heard, .ref m_pairs, .ref m_heaps, .int q_rounds, .int q_heapMany, .ref m_led, .ref m_newAt, .ref m_knowing, .ref m_firsts, .int (nI q_people), .ref m_secrets, .ref m_tried, .ref m_lanes, .ref m_lengths, .ref m_cells])), (m_tape, .inl (E.2.1 1, 160, .inl f_tape)), (m_ends, .inl (E.2.1 1, 15, .inl f_ends)), (m_letters, .inl (E.2.1 1, 50, .inl f_letters)), (m_actMany, .inl (E.2.1 1, 25, .inl f_actManyz)), (m_actOf, .inl (E.2.1 1, 800, .inl f_actOfz)), (m_whom, .inl (E.2.1 1, 800, .inl f_whomz))] ∧ (pl2 ≤ sp2) ∧ (sp2 ≤ q_taped) ∧ (tk2 ≤ 2) ∧ (vl2 ≤ 9) ∧ (NB 25 32 f_actManyz) ∧ (ct2 ≤ 32) ∧ (q_counted < ct2) ∧ (upd f_actMany 24 (nI (cN f_actMany 24 + 1)) = f_actManyz) ∧ (upd f_actOf (768 + cN f_actMany 24) (nI ac_) = f_actOfz) ∧ (ac_ ≤ 12) ∧ (upd f_whom (768 + cN f_actMany 24) (nI g_) = f_whomz) ∧ (aT (cz f_tape q_taped) q_place q_token q_spot = ac_) ∧ (TK (cz f_tape q_taped) p2 pl2 tk2 sp2) ∧ (∀ o, 1 ≤ o → stp (cz f_tape q_taped) p_ q_counted o = .inr (p2, ct2, o + wt ac_ - 1)) ∧ ((ac_ < 8 → g_ = 0) ∧ (8 ≤ ac_ → g_ = gA ac_ (gF (cz f_tape q_taped) (sE (cz f_tape q_taped) p_))) ∧ g_ < 16)) ∨ (∃ (sp2 : Nat) (pl2 : Nat) (tk2 : Nat) (vl2 : Nat) (ct2 : Nat) (wr2 : Nat) (wa2 : Nat), uz = [(hm, .inr (12, [.ref m_manys, .ref m_reals, .ref m_factsOf, .ref m_possible, .int (nI q_undos), .int (nI q_models), .ref m_tape, .int (nI q_taped), .int q_fault, .int (nI wr2), .int (nI wa2), .int (nI sp2), .int (nI pl2), .int (nI tk2), .int (nI vl2), .ref m_ends, .ref m_letters, .ref m_actOf, .ref m_whom, .ref m_actMany, .ref m_tokens, .ref m_afters, .ref m_afterOf, .int (nI ct2), .ref m_pile, .ref m_caseMany, .ref m_happen, .ref m_hasIf, .ref m_becomes, .ref m_goneOf, .ref m_heard, .ref m_pairs, .ref m_heaps, .int q_rounds, .int q_heapMany, .ref m_led, .ref m_newAt, .ref m_knowing, .ref m_firsts, .int (nI q_people), .ref m_secrets, .ref m_tried, .ref m_lanes, .ref m_lengths, .ref m_cells])), (m_tape, .inl (E.2.1 1, 160, .inl f_tape)), (m_ends, .inl (E.2.1 1, 15, .inl f_ends)), (m_letters, .inl (E.2.1 1, 50, .inl f_letters)), (m_actMany, .inl (E.2.1 1, 25, .inl f_actMany)), (m_actOf, .inl (E.2.1 1, 800, .inl f_actOf)), (m_whom, .inl (E.2.1 1, 800, .inl f_whom))] ∧ (pl2 ≤ sp2) ∧ (sp2 ≤ q_taped) ∧ (tk2 ≤ 2) ∧ (vl2 ≤ 9) ∧ (0 < wr2) ∧ (wr2 ≤ 5) ∧ (ct2 ≤ 40) ∧ (q_counted ≤ ct2) ∧ (∀ o, 1 ≤ o → stp (cz f_tape q_taped) p_ q_counted o = .inl wa2)))) 0 0 := by
  refine ct_of rfl rfl ?_
  intro X C hT hin hro
  show WW X 4 E 0 [(0, .ref hm)] [] [(hm, .inr (12, [.ref m_manys, .ref m_reals, .ref m_factsOf, .ref m_possible, .int (nI q_undos), .int (nI q_models), .ref m_tape, .int (nI q_taped), .int q_fault, .int 0, .int q_wrongAt, .int (nI q_spot), .int (nI q_place), .int (nI q_token), .int (nI q_value), .ref m_ends, .ref m_letters, .ref m_actOf, .ref m_whom, .ref m_actMany, .ref m_tokens, .ref m_afters, .ref m_afterOf, .int (nI q_counted), .ref m_pile, .ref m_caseMany, .ref m_happen, .ref m_hasIf, .ref m_becomes, .ref m_goneOf, .ref m_heard, .ref m_pairs, .ref m_heaps, .int q_rounds, .int q_heapMany, .ref m_led, .ref m_newAt, .ref m_knowing, .ref m_firsts, .int (nI q_people), .ref m_secrets, .ref m_tried, .ref m_lanes, .ref m_lengths, .ref m_cells])), (m_tape, .inl (E.2.1 1, 160, .inl f_tape)), (m_ends, .inl (E.2.1 1, 15, .inl f_ends)), (m_letters, .inl (E.2.1 1, 50, .inl f_letters)), (m_actMany, .inl (E.2.1 1, 25, .inl f_actMany)), (m_actOf, .inl (E.2.1 1, 800, .inl f_actOf)), (m_whom, .inl (E.2.1 1, 800, .inl f_whom))] 0 0
  refine ww_aload_n C dX12_readAct_0 0 rfl rfl ?_
  refine ww_ci (wr := [(m_actMany, .inl (E.2.1 1, 25, .inl f_actMany)), (m_actOf, .inl (E.2.1 1, 800, .inl f_actOf)), (m_whom, .inl (E.2.1 1, 800, .inl f_whom))]) (k' := 0) (n' := 0) C (run_V (As := []) (rest := []) C (r_nameHere X.2.1 E ro hm m_manys m_reals m_factsOf m_possible q_undos q_models m_tape q_taped q_fault 0 q_wrongAt q_spot q_place q_token (nI q_value) m_ends m_letters m_actOf m_whom m_actMany m_tokens m_afters m_afterOf (nI q_counted) m_pile m_caseMany m_happen m_hasIf m_becomes m_goneOf m_heard m_pairs m_heaps q_rounds q_heapMany m_led m_newAt m_knowing m_firsts q_people m_secrets m_tried m_lanes m_lengths m_cells f_tape f_ends f_letters hb_tape hb_ends hb_letters (by omega) (by omega) (by omega) (by omega)) mi_X12_nameHere wl_X12_194 rfl 0 12 rfl rfl rfl rfl rfl dX12_readAct_1) (roK hro) [0, 1, 2, 3] [4, 5, 6] rfl rfl rfl rfl (fun r_1 uz hw => ?_)
  rcases hw with hw | hw
  · refine an2 hw ?_
    clear hw
    intro he_3 he_4 hw
    have h_2 := hw
    clear hw
    have he_3 := he_3.symm
    subst he_3
    subst he_4
    refine ww_eq (ws' := [(m_actMany, .inl (E.2.1 1, 25, .inl f_actMany)), (m_actOf, .inl (E.2.1 1, 800, .inl f_actOf)), (m_whom, .inl (E.2.1 1, 800, .inl f_whom)), (hm, .inr (12, [.ref m_manys, .ref m_reals, .ref m_factsOf, .ref m_possible, .int (nI q_undos), .int (nI q_models), .ref m_tape, .int (nI q_taped), .int q_fault, .int 0, .int q_wrongAt, .int (nI q_spot), .int (nI q_place), .int (nI q_token), .int (nI q_value), .ref m_ends, .ref m_letters, .ref m_actOf, .ref m_whom, .ref m_actMany, .ref m_tokens, .ref m_afters, .ref m_afterOf, .int (nI q_counted), .ref m_pile, .ref m_caseMany, .ref m_happen, .ref m_hasIf, .ref m_becomes, .ref m_goneOf, .ref m_heard, .ref m_pairs, .ref m_heaps, .int q_rounds, .int q_heapMany, .ref m_led, .ref m_newAt, .ref m_knowing, .ref m_firsts, .int (nI q_people), .ref m_secrets, .ref m_tried, .ref m_lanes, .ref m_lengths, .ref m_cells])), (m_tape, .inl (E.2.1 1, 160, .inl f_tape)), (m_ends, .inl (E.2.1 1, 15, .inl f_ends)), (m_letters, .inl (E.2.1 1, 50, .inl f_letters))]) ?_ rfl rfl rfl
    refine ww_istore_n (lv' := [(1, .int (-4)), (0, .ref hm)]) C dX12_readAct_4 rfl rfl rfl ?_
    refine ww_aload_n C dX12_readAct_5 1 rfl rfl ?_
    refine ww_cv (wr := [(m_actMany, .inl (E.2.1 1, 25, .inl f_actMany)), (m_actOf, .inl (E.2.1 1, 800, .inl f_actOf)), (m_whom, .inl (E.2.1 1, 800, .inl f_whom)), (m_tape, .inl (E.2.1 1, 160, .inl f_tape)), (m_ends, .inl (E.2.1 1, 15, .inl f_ends)), (m_letters, .inl (E.2.1 1, 50, .inl f_letters))]) (k' := 0) (n' := 0) C (run_V (As := []) (rest := []) C (r_counts X.2.1 E ro hm m_manys m_reals m_factsOf m_possible q_undos q_models m_tape q_taped q_fault 0 q_wrongAt (nI q_spot) (nI q_place) q_token (nI q_value) m_ends m_letters m_actOf m_whom m_actMany m_tokens m_afters m_afterOf q_counted m_pile m_caseMany m_happen m_hasIf m_becomes m_goneOf m_heard m_pairs m_heaps q_rounds q_heapMany m_led m_newAt m_knowing m_firsts q_people m_secrets m_tried m_lanes m_lengths m_cells (by omega) (by omega) (by omega)) mi_X12_counts wl_X12_198 rfl 0 12 rfl rfl rfl rfl rfl dX12_readAct_6) (roK hro) [3] [0, 1, 2, 4, 5, 6] rfl rfl rfl rfl (fun uz hw => ?_)
    rcases hw with hw | hw
    · refine an1 hw ?_
      clear hw
      intro he_13 hw
      have h_12 := hw
      clear hw
      subst he_13
      refine ww_eq (ws' := [(m_actMany, .inl (E.2.1 1, 25, .inl f_actMany)), (m_actOf, .inl (E.2.1 1, 800, .inl f_actOf)), (m_whom, .inl (E.2.1 1, 800, .inl f_whom)), (m_tape, .inl (E.2.1 1, 160, .inl f_tape)), (m_ends, .inl (E.2.1 1, 15, .inl f_ends)), (m_letters, .inl (E.2.1 1, 50, .inl f_letters)), (hm, .inr (12, [.ref m_manys, .ref m_reals, .ref m_factsOf, .ref m_possible, .int (nI q_undos), .int (nI q_models), .ref m_tape, .int (nI q_taped), .int q_fault, .int 0, .int q_wrongAt, .int (nI q_spot), .int (nI q_place), .int (nI q_token), .int (nI q_value), .ref m_ends, .ref m_letters, .ref m_actOf, .ref m_whom, .ref m_actMany, .ref m_tokens, .ref m_afters, .ref m_afterOf, .int (nI (q_counted + 1)), .ref m_pile, .ref m_caseMany, .ref m_happen, .ref m_hasIf, .ref m_becomes, .ref m_goneOf, .ref m_heard, .ref m_pairs, .ref m_heaps, .int q_rounds, .int q_heapMany, .ref m_led, .ref m_newAt, .ref m_knowing, .ref m_firsts, .int (nI q_people), .ref m_secrets, .ref m_tried, .ref m_lanes, .ref m_lengths, .ref m_cells]))]) ?_ rfl rfl rfl
      refine ww_aload_n C dX12_readAct_9 1 rfl rfl ?_
      refine ww_get C fg_X12_157 6 rfl rfl dX12_readAct_10 ?_
      refine ww_if_ne_f (tgt := 33) C dX12_readAct_13 (by decide) (rfl) ?_
      refine ww_iload_n C dX12_readAct_16 0 rfl rfl ?_
      refine ww_bipush (v := (-4)) C dX12_readAct_17 rfl ?_
      refine ww_icmp_eq_t (tgt := 28) C dX12_readAct_19 (by decide) (rfl) ?_
      refine ww_aload_n C dX12_readAct_28 1 rfl rfl ?_
      refine ww_iconst (v := 2) C dX12_readAct_29 rfl ?_
      refine ww_cv (wr := [(m_actMany, .inl (E.2.1 1, 25, .inl f_actMany)), (m_actOf, .inl (E.2.1 1, 800, .inl f_actOf)), (m_whom, .inl (E.2.1 1, 800, .inl f_whom)), (m_tape, .inl (E.2.1 1, 160, .inl f_tape)), (m_ends, .inl (E.2.1 1, 15, .inl f_ends)), (m_letters, .inl (E.2.1 1, 50, .inl f_letters))]) (k' := 0) (n' := 0) C (run_V (As := [.int 2]) (rest := []) C (r_fails X.2.1 E ro hm 2 m_manys m_reals m_factsOf m_possible q_undos q_models m_tape q_taped q_fault 0 q_wrongAt (nI q_spot) (nI q_place) (nI q_token) (nI q_value) m_ends m_letters m_actOf m_whom m_actMany m_tokens m_afters m_afterOf (nI (q_counted + 1)) m_pile m_caseMany m_happen m_hasIf m_becomes m_goneOf m_heard m_pairs m_heaps q_rounds q_heapMany m_led m_newAt m_knowing m_firsts q_people m_secrets m_tried m_lanes m_lengths m_cells (by omega)) mi_X12_fails wl_X12_186 rfl 0 12 rfl rfl rfl rfl rfl dX12_readAct_30) (roK hro) [6] [0, 1, 2, 3, 4, 5] rfl rfl rfl rfl (fun uz hw => ?_)
      rcases hw with hw | hw
      · refine an1 hw ?_
        clear hw
        intro he_19 hw
        have h_18 := hw
        clear hw
        subst he_19
        refine ww_eq (ws' := [(m_actMany, .inl (E.2.1 1, 25, .inl f_actMany)), (m_actOf, .inl (E.2.1 1, 800, .inl f_actOf)), (m_whom, .inl (E.2.1 1, 800, .inl f_whom)), (m_tape, .inl (E.2.1 1, 160, .inl f_tape)), (m_ends, .inl (E.2.1 1, 15, .inl f_ends)), (m_letters, .inl (E.2.1 1, 50, .inl f_letters)), (hm, .inr (12, [.ref m_manys, .ref m_reals, .ref m_factsOf, .ref m_possible, .int (nI q_undos), .int (nI q_models), .ref m_tape, .int (nI q_taped), .int q_fault, .int 2, .int (nI q_place), .int (nI q_spot), .int (nI q_place), .int (nI q_token), .int (nI q_value), .ref m_ends, .ref m_letters, .ref m_actOf, .ref m_whom, .ref m_actMany, .ref m_tokens, .ref m_afters, .ref m_afterOf, .int (nI (q_counted + 1)), .ref m_pile, .ref m_caseMany, .ref m_happen, .ref m_hasIf, .ref m_becomes, .ref m_goneOf, .ref m_heard, .ref m_pairs, .ref m_heaps, .int q_rounds, .int q_heapMany, .ref m_led, .ref m_newAt, .ref m_knowing, .ref m_firsts, .int (nI q_people), .ref m_secrets, .ref m_tried, .ref m_lanes, .ref m_lengths, .ref m_cells]))]) ?_ rfl rfl rfl
        refine ww_iconst (v := 0) C dX12_readAct_33 rfl ?_
        refine ww_istore_n (lv' := [(2, .int 0), (1, .int (-4)), (0, .ref hm)]) C dX12_readAct_34 rfl rfl rfl ?_
        refine ww_aload_n C dX12_readAct_35 2 rfl rfl ?_
        refine ww_get C fg_X12_157 6 rfl rfl dX12_readAct_36 ?_
        refine ww_if_ne_t (tgt := 102) C dX12_readAct_39 (by decide) (by decide) ?_
        refine ww_aload_n C dX12_readAct_102 2 rfl rfl ?_
        refine ww_cv (wr := [(m_actMany, .inl (E.2.1 1, 25, .inl f_actMany)), (m_actOf, .inl (E.2.1 1, 800, .inl f_actOf)), (m_whom, .inl (E.2.1 1, 800, .inl f_whom)), (m_ends, .inl (E.2.1 1, 15, .inl f_ends)), (m_letters, .inl (E.2.1 1, 50, .inl f_letters))]) (k' := 0) (n' := 0) C (run_V (As := []) (rest := []) C (r_next X.2.1 E ro hm m_manys m_reals m_factsOf m_possible q_undos q_models m_tape q_taped q_fault 2 (nI q_place) q_spot (nI q_place) q_token q_value m_ends m_letters m_actOf m_whom m_actMany m_tokens m_afters m_afterOf (nI (q_counted + 1)) m_pile m_caseMany m_happen m_hasIf m_becomes m_goneOf m_heard m_pairs m_heaps q_rounds q_heapMany m_led m_newAt m_knowing m_firsts q_people m_secrets m_tried m_lanes m_lengths m_cells f_tape hb_tape (by omega) (by omega) (by omega) (by omega) (by omega)) mi_X12_next wl_X12_201 rfl 0 12 rfl rfl rfl rfl rfl dX12_readAct_103) (roK hro) [6, 3] [0, 1, 2, 4, 5] rfl rfl rfl rfl (fun uz hw => ?_)
        rcases hw with hw | hw | hw
        · refine an1 hw ?_
          clear hw
          intro he_24 hw
          have h_23 := hw
          clear hw
          subst he_24
          refine ww_eq (ws' := [(m_actMany, .inl (E.2.1 1, 25, .inl f_actMany)), (m_actOf, .inl (E.2.1 1, 800, .inl f_actOf)), (m_whom, .inl (E.2.1 1, 800, .inl f_whom)), (m_ends, .inl (E.2.1 1, 15, .inl f_ends)), (m_letters, .inl (E.2.1 1, 50, .inl f_letters)), (hm, .inr (12, [.ref m_manys, .ref m_reals, .ref m_factsOf, .ref m_possible, .int (nI q_undos), .int (nI q_models), .ref m_tape, .int (nI q_taped), .int q_fault, .int 2, .int (nI q_place), .int (nI q_spot), .int (nI q_place), .int (nI q_token), .int (nI q_value), .ref m_ends, .ref m_letters, .ref m_actOf, .ref m_whom, .ref m_actMany, .ref m_tokens, .ref m_afters, .ref m_afterOf, .int (nI (q_counted + 1)), .ref m_pile, .ref m_caseMany, .ref m_happen, .ref m_hasIf, .ref m_becomes, .ref m_goneOf, .ref m_heard, .ref m_pairs, .ref m_heaps, .int q_rounds, .int q_heapMany, .ref m_led, .ref m_newAt, .ref m_knowing, .ref m_firsts, .int (nI q_people), .ref m_secrets, .ref m_tried, .ref m_lanes, .ref m_lengths, .ref m_cells])), (m_tape, .inl (E.2.1 1, 160, .inl f_tape))]) ?_ rfl rfl rfl
          refine ww_aload_n C dX12_readAct_106 2 rfl rfl ?_
          refine ww_get C fg_X12_157 5 rfl rfl dX12_readAct_107 ?_
          refine ww_if_ne_t (tgt := 150) C dX12_readAct_110 (by decide) (by decide) ?_
          exact ww_vret (u := [(hm, .inr (12, [.ref m_manys, .ref m_reals, .ref m_factsOf, .ref m_possible, .int (nI q_undos), .int (nI q_models), .ref m_tape, .int (nI q_taped), .int q_fault, .int 2, .int (nI q_place), .int (nI q_spot), .int (nI q_place), .int (nI q_token), .int (nI q_value), .ref m_ends, .ref m_letters, .ref m_actOf, .ref m_whom, .ref m_actMany, .ref m_tokens, .ref m_afters, .ref m_afterOf, .int (nI (q_counted + 1)), .ref m_pile, .ref m_caseMany, .ref m_happen, .ref m_hasIf, .ref m_becomes, .ref m_goneOf, .ref m_heard, .ref m_pairs, .ref m_heaps, .int q_rounds, .int q_heapMany, .ref m_led, .ref m_newAt, .ref m_knowing, .ref m_firsts, .int (nI q_people), .ref m_secrets, .ref m_tried, .ref m_lanes, .ref m_lengths, .ref m_cells])), (m_tape, .inl (E.2.1 1, 160, .inl f_tape)), (m_ends, .inl (E.2.1 1, 15, .inl f_ends)), (m_letters, .inl (E.2.1 1, 50, .inl f_letters)), (m_actMany, .inl (E.2.1 1, 25, .inl f_actMany)), (m_actOf, .inl (E.2.1 1, 800, .inl f_actOf)), (m_whom, .inl (E.2.1 1, 800, .inl f_whom))]) C hT [5, 6, 3, 4, 0, 1, 2] rfl rfl rfl rfl dX12_readAct_150 (Or.inr ⟨q_spot, q_place, q_token, q_value, (q_counted + 1), 2, q_place, rfl, (by first | assumption | omega | decide), (by first | assumption | omega | decide), (by first | assumption | omega | decide), (by first | assumption | omega | decide), (by omega), (by omega), (by omega), (by omega), (fun o ho => by have h9 := h_2; exact sg_f1 htR (by omega))⟩)
        · refine ex4 hw ?_
          clear hw
          intro sp2_25 pl2_26 tk2_27 vl2_28 hw
          refine an7 hw ?_
          clear hw
          intro he_36 h_29 h_30 h_31 h_32 h_33 h_34 hw
          have h_35 := hw
          clear hw
          subst he_36
          omega
        · refine ex4 hw ?_
          clear hw
          intro sp2_37 pl2_38 tk2_39 vl2_40 hw
          refine an6 hw ?_
          clear hw
          intro he_47 h_41 h_42 h_43 h_44 h_45 hw
          have h_46 := hw
          clear hw
          subst he_47
          omega
      · refine an1 hw ?_
        clear hw
        intro he_21 hw
        have h_20 := hw
        clear hw
        subst he_21
        omega
    · refine an2 hw ?_
      clear hw
      intro he_16 h_14 hw
      have h_15 := hw
      clear hw
      subst he_16
      refine ww_eq (ws' := [(m_actMany, .inl (E.2.1 1, 25, .inl f_actMany)), (m_actOf, .inl (E.2.1 1, 800, .inl f_actOf)), (m_whom, .inl (E.2.1 1, 800, .inl f_whom)), (m_tape, .inl (E.2.1 1, 160, .inl f_tape)), (m_ends, .inl (E.2.1 1, 15, .inl f_ends)), (m_letters, .inl (E.2.1 1, 50, .inl f_letters)), (hm, .inr (12, [.ref m_manys, .ref m_reals, .ref m_factsOf, .ref m_possible, .int (nI q_undos), .int (nI q_models), .ref m_tape, .int (nI q_taped), .int q_fault, .int 5, .int (nI q_place), .int (nI q_spot), .int (nI q_place), .int (nI q_token), .int (nI q_value), .ref m_ends, .ref m_letters, .ref m_actOf, .ref m_whom, .ref m_actMany, .ref m_tokens, .ref m_afters, .ref m_afterOf, .int (nI (q_counted + 1)), .ref m_pile, .ref m_caseMany, .ref m_happen, .ref m_hasIf, .ref m_becomes, .ref m_goneOf, .ref m_heard, .ref m_pairs, .ref m_heaps, .int q_rounds, .int q_heapMany, .ref m_led, .ref m_newAt, .ref m_knowing, .ref m_firsts, .int (nI q_people), .ref m_secrets, .ref m_tried, .ref m_lanes, .ref m_lengths, .ref m_cells]))]) ?_ rfl rfl rfl
      refine ww_aload_n C dX12_readAct_9 1 rfl rfl ?_
      refine ww_get C fg_X12_157 6 rfl rfl dX12_readAct_10 ?_
      refine ww_if_ne_t (tgt := 33) C dX12_readAct_13 (by decide) (by decide) ?_
      refine ww_iconst (v := 0) C dX12_readAct_33 rfl ?_
      refine ww_istore_n (lv' := [(2, .int 0), (1, .int (-4)), (0, .ref hm)]) C dX12_readAct_34 rfl rfl rfl ?_
      refine ww_aload_n C dX12_readAct_35 2 rfl rfl ?_
      refine ww_get C fg_X12_157 6 rfl rfl dX12_readAct_36 ?_
      refine ww_if_ne_t (tgt := 102) C dX12_readAct_39 (by decide) (by decide) ?_
      refine ww_aload_n C dX12_readAct_102 2 rfl rfl ?_
      refine ww_cv (wr := [(m_actMany, .inl (E.2.1 1, 25, .inl f_actMany)), (m_actOf, .inl (E.2.1 1, 800, .inl f_actOf)), (m_whom, .inl (E.2.1 1, 800, .inl f_whom)), (m_ends, .inl (E.2.1 1, 15, .inl f_ends)), (m_letters, .inl (E.2.1 1, 50, .inl f_letters))]) (k' := 0) (n' := 0) C (run_V (As := []) (rest := []) C (r_next X.2.1 E ro hm m_manys m_reals m_factsOf m_possible q_undos q_models m_tape q_taped q_fault 5 (nI q_place) q_spot (nI q_place) q_token q_value m_ends m_letters m_actOf m_whom m_actMany m_tokens m_afters m_afterOf (nI (q_counted + 1)) m_pile m_caseMany m_happen m_hasIf m_becomes m_goneOf m_heard m_pairs m_heaps q_rounds q_heapMany m_led m_newAt m_knowing m_firsts q_people m_secrets m_tried m_lanes m_lengths m_cells f_tape hb_tape (by omega) (by omega) (by omega) (by omega) (by omega)) mi_X12_next wl_X12_201 rfl 0 12 rfl rfl rfl rfl rfl dX12_readAct_103) (roK hro) [6, 3] [0, 1, 2, 4, 5] rfl rfl rfl rfl (fun uz hw => ?_)
      rcases hw with hw | hw | hw
      · refine an1 hw ?_
        clear hw
        intro he_50 hw
        have h_49 := hw
        clear hw
        subst he_50
        refine ww_eq (ws' := [(m_actMany, .inl (E.2.1 1, 25, .inl f_actMany)), (m_actOf, .inl (E.2.1 1, 800, .inl f_actOf)), (m_whom, .inl (E.2.1 1, 800, .inl f_whom)), (m_ends, .inl (E.2.1 1, 15, .inl f_ends)), (m_letters, .inl (E.2.1 1, 50, .inl f_letters)), (hm, .inr (12, [.ref m_manys, .ref m_reals, .ref m_factsOf, .ref m_possible, .int (nI q_undos), .int (nI q_models), .ref m_tape, .int (nI q_taped), .int q_fault, .int 5, .int (nI q_place), .int (nI q_spot), .int (nI q_place), .int (nI q_token), .int (nI q_value), .ref m_ends, .ref m_letters, .ref m_actOf, .ref m_whom, .ref m_actMany, .ref m_tokens, .ref m_afters, .ref m_afterOf, .int (nI (q_counted + 1)), .ref m_pile, .ref m_caseMany, .ref m_happen, .ref m_hasIf, .ref m_becomes, .ref m_goneOf, .ref m_heard, .ref m_pairs, .ref m_heaps, .int q_rounds, .int q_heapMany, .ref m_led, .ref m_newAt, .ref m_knowing, .ref m_firsts, .int (nI q_people), .ref m_secrets, .ref m_tried, .ref m_lanes, .ref m_lengths, .ref m_cells])), (m_tape, .inl (E.2.1 1, 160, .inl f_tape))]) ?_ rfl rfl rfl
        refine ww_aload_n C dX12_readAct_106 2 rfl rfl ?_
        refine ww_get C fg_X12_157 5 rfl rfl dX12_readAct_107 ?_
        refine ww_if_ne_t (tgt := 150) C dX12_readAct_110 (by decide) (by decide) ?_
        exact ww_vret (u := [(hm, .inr (12, [.ref m_manys, .ref m_reals, .ref m_factsOf, .ref m_possible, .int (nI q_undos), .int (nI q_models), .ref m_tape, .int (nI q_taped), .int q_fault, .int 5, .int (nI q_place), .int (nI q_spot), .int (nI q_place), .int (nI q_token), .int (nI q_value), .ref m_ends, .ref m_letters, .ref m_actOf, .ref m_whom, .ref m_actMany, .ref m_tokens, .ref m_afters, .ref m_afterOf, .int (nI (q_counted + 1)), .ref m_pile, .ref m_caseMany, .ref m_happen, .ref m_hasIf, .ref m_becomes, .ref m_goneOf, .ref m_heard, .ref m_pairs, .ref m_heaps, .int q_rounds, .int q_heapMany, .ref m_led, .ref m_newAt, .ref m_knowing, .ref m_firsts, .int (nI q_people), .ref m_secrets, .ref m_tried, .ref m_lanes, .ref m_lengths, .ref m_cells])), (m_tape, .inl (E.2.1 1, 160, .inl f_tape)), (m_ends, .inl (E.2.1 1, 15, .inl f_ends)), (m_letters, .inl (E.2.1 1, 50, .inl f_letters)), (m_actMany, .inl (E.2.1 1, 25, .inl f_actMany)), (m_actOf, .inl (E.2.1 1, 800, .inl f_actOf)), (m_whom, .inl (E.2.1 1, 800, .inl f_whom))]) C hT [5, 6, 3, 4, 0, 1, 2] rfl rfl rfl rfl dX12_readAct_150 (Or.inr ⟨q_spot, q_place, q_token, q_value, (q_counted + 1), 5, q_place, rfl, (by first | assumption | omega | decide), (by first | assumption | omega | decide), (by first | assumption | omega | decide), (by first | assumption | omega | decide), (by omega), (by omega), (by omega), (by omega), (fun o ho => by have h9 := h_2; exact sg_f1 htR (by omega))⟩)
      · refine ex4 hw ?_
        clear hw
        intro sp2_51 pl2_52 tk2_53 vl2_54 hw
        refine an7 hw ?_
        clear hw
        intro he_62 h_55 h_56 h_57 h_58 h_59 h_60 hw
        have h_61 := hw
        clear hw
        subst he_62
        omega
      · refine ex4 hw ?_
        clear hw
        intro sp2_63 pl2_64 tk2_65 vl2_66 hw
        refine an6 hw ?_
        clear hw
        intro he_73 h_67 h_68 h_69 h_70 h_71 hw
        have h_72 := hw
        clear hw
        subst he_73
        omega
  · refine ex1 hw ?_
    clear hw
    intro nn_5 hw
    refine an4 hw ?_
    clear hw
    intro he_9 he_10 h_6 h_7 hw
    have h_8 := hw
    clear hw
    have he_9 := he_9.symm
    subst he_9
    subst he_10
    refine ww_eq (ws' := [(m_actMany, .inl (E.2.1 1, 25, .inl f_actMany)), (m_actOf, .inl (E.2.1 1, 800, .inl f_actOf)), (m_whom, .inl (E.2.1 1, 800, .inl f_whom)), (hm, .inr (12, [.ref m_manys, .ref m_reals, .ref m_factsOf, .ref m_possible, .int (nI q_undos), .int (nI q_models), .ref m_tape, .int (nI q_taped), .int q_fault, .int 0, .int q_wrongAt, .int (nI q_spot), .int (nI q_place), .int (nI q_token), .int (nI q_value), .ref m_ends, .ref m_letters, .ref m_actOf, .ref m_whom, .ref m_actMany, .ref m_tokens, .ref m_afters, .ref m_afterOf, .int (nI q_counted), .ref m_pile, .ref m_caseMany, .ref m_happen, .ref m_hasIf, .ref m_becomes, .ref m_goneOf, .ref m_heard, .ref m_pairs, .ref m_heaps, .int q_rounds, .int q_heapMany, .ref m_led, .ref m_newAt, .ref m_knowing, .ref m_firsts, .int (nI q_people), .ref m_secrets, .ref m_tried, .ref m_lanes, .ref m_lengths, .ref m_cells])), (m_tape, .inl (E.2.1 1, 160, .inl f_tape)), (m_ends, .inl (E.2.1 1, 15, .inl f_ends)), (m_letters, .inl (E.2.1 1, 50, .inl f_letters))]) ?_ rfl rfl rfl
    refine ww_istore_n (lv' := [(1, .int (nI nn_5)), (0, .ref hm)]) C dX12_readAct_4 rfl rfl rfl ?_
    refine ww_aload_n C dX12_readAct_5 1 rfl rfl ?_
    refine ww_cv (wr := [(m_actMany, .inl (E.2.1 1, 25, .inl f_actMany)), (m_actOf, .inl (E.2.1 1, 800, .inl f_actOf)), (m_whom, .inl (E.2.1 1, 800, .inl f_whom)), (m_tape, .inl (E.2.1 1, 160, .inl f_tape)), (m_ends, .inl (E.2.1 1, 15, .inl f_ends)), (m_letters, .inl (E.2.1 1, 50, .inl f_letters))]) (k' := 0) (n' := 0) C (run_V (As := []) (rest := []) C (r_counts X.2.1 E ro hm m_manys m_reals m_factsOf m_possible q_undos q_models m_tape q_taped q_fault 0 q_wrongAt (nI q_spot) (nI q_place) q_token (nI q_value) m_ends m_letters m_actOf m_whom m_actMany m_tokens m_afters m_afterOf q_counted m_pile m_caseMany m_happen m_hasIf m_becomes m_goneOf m_heard m_pairs m_heaps q_rounds q_heapMany m_led m_newAt m_knowing m_firsts q_people m_secrets m_tried m_lanes m_lengths m_cells (by omega) (by omega) (by omega)) mi_X12_counts wl_X12_198 rfl 0 12 rfl rfl rfl rfl rfl dX12_readAct_6) (roK hro) [3] [0, 1, 2, 4, 5, 6] rfl rfl rfl rfl (fun uz hw => ?_)
    rcases hw with hw | hw
    · refine an1 hw ?_
      clear hw
      intro he_76 hw
      have h_75 := hw
      clear hw
      subst he_76
      refine ww_eq (ws' := [(m_actMany, .inl (E.2.1 1, 25, .inl f_actMany)), (m_actOf, .inl (E.2.1 1, 800, .inl f_actOf)), (m_whom, .inl (E.2.1 1, 800, .inl f_whom)), (m_tape, .inl (E.2.1 1, 160, .inl f_tape)), (m_ends, .inl (E.2.1 1, 15, .inl f_ends)), (m_letters, .inl (E.2.1 1, 50, .inl f_letters)), (hm, .inr (12, [.ref m_manys, .ref m_reals, .ref m_factsOf, .ref m_possible, .int (nI q_undos), .int (nI q_models), .ref m_tape, .int (nI q_taped), .int q_fault, .int 0, .int q_wrongAt, .int (nI q_spot), .int (nI q_place), .int (nI q_token), .int (nI q_value), .ref m_ends, .ref m_letters, .ref m_actOf, .ref m_whom, .ref m_actMany, .ref m_tokens, .ref m_afters, .ref m_afterOf, .int (nI (q_counted + 1)), .ref m_pile, .ref m_caseMany, .ref m_happen, .ref m_hasIf, .ref m_becomes, .ref m_goneOf, .ref m_heard, .ref m_pairs, .ref m_heaps, .int q_rounds, .int q_heapMany, .ref m_led, .ref m_newAt, .ref m_knowing, .ref m_firsts, .int (nI q_people), .ref m_secrets, .ref m_tried, .ref m_lanes, .ref m_lengths, .ref m_cells]))]) ?_ rfl rfl rfl
      refine ww_aload_n C dX12_readAct_9 1 rfl rfl ?_
      refine ww_get C fg_X12_157 6 rfl rfl dX12_readAct_10 ?_
      refine ww_if_ne_f (tgt := 33) C dX12_readAct_13 (by decide) (rfl) ?_
      refine ww_iload_n C dX12_readAct_16 0 rfl rfl ?_
      refine ww_bipush (v := (-4)) C dX12_readAct_17 rfl ?_
      refine ww_icmp_eq (tgt := 28) C dX12_readAct_19 (by decide) (fun c_80 => ?_) (fun c_80 => ?_)
      · have zc_80 : ((nn_5 : Nat) : Int) = (-4) := i_eq (nI_toInt (n := nn_5) (by omega)) rfl c_80
        refine ww_aload_n C dX12_readAct_28 1 rfl rfl ?_
        refine ww_iconst (v := 2) C dX12_readAct_29 rfl ?_
        refine ww_cv (wr := [(m_actMany, .inl (E.2.1 1, 25, .inl f_actMany)), (m_actOf, .inl (E.2.1 1, 800, .inl f_actOf)), (m_whom, .inl (E.2.1 1, 800, .inl f_whom)), (m_tape, .inl (E.2.1 1, 160, .inl f_tape)), (m_ends, .inl (E.2.1 1, 15, .inl f_ends)), (m_letters, .inl (E.2.1 1, 50, .inl f_letters))]) (k' := 0) (n' := 0) C (run_V (As := [.int 2]) (rest := []) C (r_fails X.2.1 E ro hm 2 m_manys m_reals m_factsOf m_possible q_undos q_models m_tape q_taped q_fault 0 q_wrongAt (nI q_spot) (nI q_place) (nI q_token) (nI q_value) m_ends m_letters m_actOf m_whom m_actMany m_tokens m_afters m_afterOf (nI (q_counted + 1)) m_pile m_caseMany m_happen m_hasIf m_becomes m_goneOf m_heard m_pairs m_heaps q_rounds q_heapMany m_led m_newAt m_knowing m_firsts q_people m_secrets m_tried m_lanes m_lengths m_cells (by omega)) mi_X12_fails wl_X12_186 rfl 0 12 rfl rfl rfl rfl rfl dX12_readAct_30) (roK hro) [6] [0, 1, 2, 3, 4, 5] rfl rfl rfl rfl (fun uz hw => ?_)
        rcases hw with hw | hw
        · refine an1 hw ?_
          clear hw
          intro he_83 hw
          have h_82 := hw
          clear hw
          subst he_83
          refine ww_eq (ws' := [(m_actMany, .inl (E.2.1 1, 25, .inl f_actMany)), (m_actOf, .inl (E.2.1 1, 800, .inl f_actOf)), (m_whom, .inl (E.2.1 1, 800, .inl f_whom)), (m_tape, .inl (E.2.1 1, 160, .inl f_tape)), (m_ends, .inl (E.2.1 1, 15, .inl f_ends)), (m_letters, .inl (E.2.1 1, 50, .inl f_letters)), (hm, .inr (12, [.ref m_manys, .ref m_reals, .ref m_factsOf, .ref m_possible, .int (nI q_undos), .int (nI q_models), .ref m_tape, .int (nI q_taped), .int q_fault, .int 2, .int (nI q_place), .int (nI q_spot), .int (nI q_place), .int (nI q_token), .int (nI q_value), .ref m_ends, .ref m_letters, .ref m_actOf, .ref m_whom, .ref m_actMany, .ref m_tokens, .ref m_afters, .ref m_afterOf, .int (nI (q_counted + 1)), .ref m_pile, .ref m_caseMany, .ref m_happen, .ref m_hasIf, .ref m_becomes, .ref m_goneOf, .ref m_heard, .ref m_pairs, .ref m_heaps, .int q_rounds, .int q_heapMany, .ref m_led, .ref m_newAt, .ref m_knowing, .ref m_firsts, .int (nI q_people), .ref m_secrets, .ref m_tried, .ref m_lanes, .ref m_lengths, .ref m_cells]))]) ?_ rfl rfl rfl
          refine ww_iconst (v := 0) C dX12_readAct_33 rfl ?_
          refine ww_istore_n (lv' := [(2, .int 0), (1, .int (nI nn_5)), (0, .ref hm)]) C dX12_readAct_34 rfl rfl rfl ?_
          refine ww_aload_n C dX12_readAct_35 2 rfl rfl ?_
          refine ww_get C fg_X12_157 6 rfl rfl dX12_readAct_36 ?_
          refine ww_if_ne_t (tgt := 102) C dX12_readAct_39 (by decide) (by decide) ?_
          refine ww_aload_n C dX12_readAct_102 2 rfl rfl ?_
          refine ww_cv (wr := [(m_actMany, .inl (E.2.1 1, 25, .inl f_actMany)), (m_actOf, .inl (E.2.1 1, 800, .inl f_actOf)), (m_whom, .inl (E.2.1 1, 800, .inl f_whom)), (m_ends, .inl (E.2.1 1, 15, .inl f_ends)), (m_letters, .inl (E.2.1 1, 50, .inl f_letters))]) (k' := 0) (n' := 0) C (run_V (As := []) (rest := []) C (r_next X.2.1 E ro hm m_manys m_reals m_factsOf m_possible q_undos q_models m_tape q_taped q_fault 2 (nI q_place) q_spot (nI q_place) q_token q_value m_ends m_letters m_actOf m_whom m_actMany m_tokens m_afters m_afterOf (nI (q_counted + 1)) m_pile m_caseMany m_happen m_hasIf m_becomes m_goneOf m_heard m_pairs m_heaps q_rounds q_heapMany m_led m_newAt m_knowing m_firsts q_people m_secrets m_tried m_lanes m_lengths m_cells f_tape hb_tape (by omega) (by omega) (by omega) (by omega) (by omega)) mi_X12_next wl_X12_201 rfl 0 12 rfl rfl rfl rfl rfl dX12_readAct_103) (roK hro) [6, 3] [0, 1, 2, 4, 5] rfl rfl rfl rfl (fun uz hw => ?_)
          rcases hw with hw | hw | hw
          · refine an1 hw ?_
            clear hw
            intro he_88 hw
            have h_87 := hw
            clear hw
            subst he_88
            refine ww_eq (ws' := [(m_actMany, .inl (E.2.1 1, 25, .inl f_actMany)), (m_actOf, .inl (E.2.1 1, 800, .inl f_actOf)), (m_whom, .inl (E.2.1 1, 800, .inl f_whom)), (m_ends, .inl (E.2.1 1, 15, .inl f_ends)), (m_letters, .inl (E.2.1 1, 50, .inl f_letters)), (hm, .inr (12, [.ref m_manys, .ref m_reals, .ref m_factsOf, .ref m_possible, .int (nI q_undos), .int (nI q_models), .ref m_tape, .int (nI q_taped), .int q_fault, .int 2, .int (nI q_place), .int (nI q_spot), .int (nI q_place), .int (nI q_token), .int (nI q_value), .ref m_ends, .ref m_letters, .ref m_actOf, .ref m_whom, .ref m_actMany, .ref m_tokens, .ref m_afters, .ref m_afterOf, .int (nI (q_counted + 1)), .ref m_pile, .ref m_caseMany, .ref m_happen, .ref m_hasIf, .ref m_becomes, .ref m_goneOf, .ref m_heard, .ref m_pairs, .ref m_heaps, .int q_rounds, .int q_heapMany, .ref m_led, .ref m_newAt, .ref m_knowing, .ref m_firsts, .int (nI q_people), .ref m_secrets, .ref m_tried, .ref m_lanes, .ref m_lengths, .ref m_cells])), (m_tape, .inl (E.2.1 1, 160, .inl f_tape))]) ?_ rfl rfl rfl
            refine ww_aload_n C dX12_readAct_106 2 rfl rfl ?_
            refine ww_get C fg_X12_157 5 rfl rfl dX12_readAct_107 ?_
            refine ww_if_ne_t (tgt := 150) C dX12_readAct_110 (by decide) (by decide) ?_
            exact ww_vret (u := [(hm, .inr (12, [.ref m_manys, .ref m_reals, .ref m_factsOf, .ref m_possible, .int (nI q_undos), .int (nI q_models), .ref m_tape, .int (nI q_taped), .int q_fault, .int 2, .int (nI q_place), .int (nI q_spot), .int (nI q_place), .int (nI q_token), .int (nI q_value), .ref m_ends, .ref m_letters, .ref m_actOf, .ref m_whom, .ref m_actMany, .ref m_tokens, .ref m_afters, .ref m_afterOf, .int (nI (q_counted + 1)), .ref m_pile, .ref m_caseMany, .ref m_happen, .ref m_hasIf, .ref m_becomes, .ref m_goneOf, .ref m_heard, .ref m_pairs, .ref m_heaps, .int q_rounds, .int q_heapMany, .ref m_led, .ref m_newAt, .ref m_knowing, .ref m_firsts, .int (nI q_people), .ref m_secrets, .ref m_tried, .ref m_lanes, .ref m_lengths, .ref m_cells])), (m_tape, .inl (E.2.1 1, 160, .inl f_tape)), (m_ends, .inl (E.2.1 1, 15, .inl f_ends)), (m_letters, .inl (E.2.1 1, 50, .inl f_letters)), (m_actMany, .inl (E.2.1 1, 25, .inl f_actMany)), (m_actOf, .inl (E.2.1 1, 800, .inl f_actOf)), (m_whom, .inl (E.2.1 1, 800, .inl f_whom))]) C hT [5, 6, 3, 4, 0, 1, 2] rfl rfl rfl rfl dX12_readAct_150 (Or.inr ⟨q_spot, q_place, q_token, q_value, (q_counted + 1), 2, q_place, rfl, (by first | assumption | omega | decide), (by first | assumption | omega | decide), (by first | assumption | omega | decide), (by first | assumption | omega | decide), (by omega), (by omega), (by omega), (by omega), (fun o ho => by have h9 := h_8; exact sg_f1 htR (by omega))⟩)
          · refine ex4 hw ?_
            clear hw
            intro sp2_89 pl2_90 tk2_91 vl2_92 hw
            refine an7 hw ?_
            clear hw
            intro he_100 h_93 h_94 h_95 h_96 h_97 h_98 hw
            have h_99 := hw
            clear hw
            subst he_100
            omega
          · refine ex4 hw ?_
            clear hw
            intro sp2_101 pl2_102 tk2_103 vl2_104 hw
            refine an6 hw ?_
            clear hw
            intro he_111 h_105 h_106 h_107 h_108 h_109 hw
            have h_110 := hw
            clear hw
            subst he_111
            omega
        · refine an1 hw ?_
          clear hw
          intro he_85 hw
          have h_84 := hw
          clear hw
          subst he_85
          omega
      · have zc_80 : ((nn_5 : Nat) : Int) ≠ (-4) := i_ne (nI_toInt (n := nn_5) (by omega)) rfl c_80
        refine ww_iload_n C dX12_readAct_22 0 rfl rfl ?_
        refine ww_bipush (v := 13) C dX12_readAct_23 rfl ?_
        refine ww_icmp_ne (tgt := 33) C dX12_readAct_25 (by decide) (fun c_112 => ?_) (fun c_112 => ?_)
        · have zc_112 : ((nn_5 : Nat) : Int) ≠ 13 := i_ne (nI_toInt (n := nn_5) (by omega)) rfl c_112
          refine ww_iconst (v := 0) C dX12_readAct_33 rfl ?_
          refine ww_istore_n (lv' := [(2, .int 0), (1, .int (nI nn_5)), (0, .ref hm)]) C dX12_readAct_34 rfl rfl rfl ?_
          refine ww_aload_n C dX12_readAct_35 2 rfl rfl ?_
          refine ww_get C fg_X12_157 6 rfl rfl dX12_readAct_36 ?_
          refine ww_if_ne_f (tgt := 102) C dX12_readAct_39 (by decide) (rfl) ?_
          refine ww_iload_n C dX12_readAct_42 1 rfl rfl ?_
          refine ww_bipush (v := 8) C dX12_readAct_43 rfl ?_
          refine ww_icmp_lt (tgt := 102) C dX12_readAct_45 (by decide) (fun c_113 => ?_) (fun c_113 => ?_)
          · have zc_113 : ((nn_5 : Nat) : Int) < 8 := i_lt (nI_toInt (n := nn_5) (by omega)) rfl c_113
            refine ww_aload_n C dX12_readAct_102 2 rfl rfl ?_
            refine ww_cv (wr := [(m_actMany, .inl (E.2.1 1, 25, .inl f_actMany)), (m_actOf, .inl (E.2.1 1, 800, .inl f_actOf)), (m_whom, .inl (E.2.1 1, 800, .inl f_whom)), (m_ends, .inl (E.2.1 1, 15, .inl f_ends)), (m_letters, .inl (E.2.1 1, 50, .inl f_letters))]) (k' := 0) (n' := 0) C (run_V (As := []) (rest := []) C (r_next X.2.1 E ro hm m_manys m_reals m_factsOf m_possible q_undos q_models m_tape q_taped q_fault 0 q_wrongAt q_spot (nI q_place) q_token q_value m_ends m_letters m_actOf m_whom m_actMany m_tokens m_afters m_afterOf (nI (q_counted + 1)) m_pile m_caseMany m_happen m_hasIf m_becomes m_goneOf m_heard m_pairs m_heaps q_rounds q_heapMany m_led m_newAt m_knowing m_firsts q_people m_secrets m_tried m_lanes m_lengths m_cells f_tape hb_tape (by omega) (by omega) (by omega) (by omega) (by omega)) mi_X12_next wl_X12_201 rfl 0 12 rfl rfl rfl rfl rfl dX12_readAct_103) (roK hro) [6, 3] [0, 1, 2, 4, 5] rfl rfl rfl rfl (fun uz hw => ?_)
            rcases hw with hw | hw | hw
            · refine an1 hw ?_
              clear hw
              intro he_116 hw
              have h_115 := hw
              clear hw
              subst he_116
              omega
            · refine ex4 hw ?_
              clear hw
              intro sp2_117 pl2_118 tk2_119 vl2_120 hw
              refine an7 hw ?_
              clear hw
              intro he_128 h_121 h_122 h_123 h_124 h_125 h_126 hw
              have h_127 := hw
              clear hw
              subst he_128
              refine ww_eq (ws' := [(m_actMany, .inl (E.2.1 1, 25, .inl f_actMany)), (m_actOf, .inl (E.2.1 1, 800, .inl f_actOf)), (m_whom, .inl (E.2.1 1, 800, .inl f_whom)), (m_ends, .inl (E.2.1 1, 15, .inl f_ends)), (m_letters, .inl (E.2.1 1, 50, .inl f_letters)), (hm, .inr (12, [.ref m_manys, .ref m_reals, .ref m_factsOf, .ref m_possible, .int (nI q_undos), .int (nI q_models), .ref m_tape, .int (nI q_taped), .int q_fault, .int 0, .int q_wrongAt, .int (nI sp2_117), .int (nI pl2_118), .int (nI tk2_119), .int (nI vl2_120), .ref m_ends, .ref m_letters, .ref m_actOf, .ref m_whom, .ref m_actMany, .ref m_tokens, .ref m_afters, .ref m_afterOf, .int (nI (q_counted + 1)), .ref m_pile, .ref m_caseMany, .ref m_happen, .ref m_hasIf, .ref m_becomes, .ref m_goneOf, .ref m_heard, .ref m_pairs, .ref m_heaps, .int q_rounds, .int q_heapMany, .ref m_led, .ref m_newAt, .ref m_knowing, .ref m_firsts, .int (nI q_people), .ref m_secrets, .ref m_tried, .ref m_lanes, .ref m_lengths, .ref m_cells])), (m_tape, .inl (E.2.1 1, 160, .inl f_tape))]) ?_ rfl rfl rfl
              refine ww_aload_n C dX12_readAct_106 2 rfl rfl ?_
              refine ww_get C fg_X12_157 5 rfl rfl dX12_readAct_107 ?_
              refine ww_if_ne_f (tgt := 150) C dX12_readAct_110 (by decide) (rfl) ?_
              refine ww_sipush (v := 768) C dX12_readAct_113 rfl ?_
              refine ww_aload_n C dX12_readAct_116 2 rfl rfl ?_
              refine ww_get C fg_X12_37 5 rfl rfl dX12_readAct_117 ?_
              refine ww_bipush (v := 24) C dX12_readAct_120 rfl ?_
              have hbx_140 := (hb_actMany 24 (by omega)).2
              refine ww_iald (v := (nI (cN f_actMany 24))) C 0 rfl (vin rfl) (hb_actMany 24 (by omega)).1 dX12_readAct_122 ?_
              refine ww_iadd (v := (nI (768 + (cN f_actMany 24)))) C dX12_readAct_123 (nI_add 768 (cN f_actMany 24)) ?_
              refine ww_istore_n (lv' := [(3, .int (nI (768 + (cN f_actMany 24)))), (2, .int 0), (1, .int (nI nn_5)), (0, .ref hm)]) C dX12_readAct_124 rfl rfl rfl ?_
              refine ww_aload_n C dX12_readAct_125 3 rfl rfl ?_
              refine ww_get C fg_X12_31 5 rfl rfl dX12_readAct_126 ?_
              refine ww_iload_n C dX12_readAct_129 0 rfl rfl ?_
              refine ww_iload_n C dX12_readAct_130 2 rfl rfl ?_
              obtain ⟨f_141, ef_141⟩ : ∃ z : Nat → Int32, upd f_actOf (768 + (cN f_actMany 24)) (nI nn_5) = z := ⟨_, rfl⟩
              refine ww_iast (ws' := [(m_actMany, .inl (E.2.1 1, 25, .inl f_actMany)), (m_actOf, .inl (E.2.1 1, 800, .inl f_141)), (m_whom, .inl (E.2.1 1, 800, .inl f_whom)), (m_ends, .inl (E.2.1 1, 15, .inl f_ends)), (m_letters, .inl (E.2.1 1, 50, .inl f_letters)), (hm, .inr (12, [.ref m_manys, .ref m_reals, .ref m_factsOf, .ref m_possible, .int (nI q_undos), .int (nI q_models), .ref m_tape, .int (nI q_taped), .int q_fault, .int 0, .int q_wrongAt, .int (nI sp2_117), .int (nI pl2_118), .int (nI tk2_119), .int (nI vl2_120), .ref m_ends, .ref m_letters, .ref m_actOf, .ref m_whom, .ref m_actMany, .ref m_tokens, .ref m_afters, .ref m_afterOf, .int (nI (q_counted + 1)), .ref m_pile, .ref m_caseMany, .ref m_happen, .ref m_hasIf, .ref m_becomes, .ref m_goneOf, .ref m_heard, .ref m_pairs, .ref m_heaps, .int q_rounds, .int q_heapMany, .ref m_led, .ref m_newAt, .ref m_knowing, .ref m_firsts, .int (nI q_people), .ref m_secrets, .ref m_tried, .ref m_lanes, .ref m_lengths, .ref m_cells])), (m_tape, .inl (E.2.1 1, 160, .inl f_tape))]) C 1 rfl (vp_in_nI (by omega) (by omega)) (ldn2 (by omega) ef_141) rfl dX12_readAct_131 ?_
              refine ww_aload_n C dX12_readAct_132 3 rfl rfl ?_
              refine ww_get C fg_X12_34 5 rfl rfl dX12_readAct_133 ?_
              refine ww_iload_n C dX12_readAct_136 0 rfl rfl ?_
              refine ww_iload_n C dX12_readAct_137 1 rfl rfl ?_
              obtain ⟨f_142, ef_142⟩ : ∃ z : Nat → Int32, upd f_whom (768 + (cN f_actMany 24)) 0 = z := ⟨_, rfl⟩
              refine ww_iast (ws' := [(m_actMany, .inl (E.2.1 1, 25, .inl f_actMany)), (m_actOf, .inl (E.2.1 1, 800, .inl f_141)), (m_whom, .inl (E.2.1 1, 800, .inl f_142)), (m_ends, .inl (E.2.1 1, 15, .inl f_ends)), (m_letters, .inl (E.2.1 1, 50, .inl f_letters)), (hm, .inr (12, [.ref m_manys, .ref m_reals, .ref m_factsOf, .ref m_possible, .int (nI q_undos), .int (nI q_models), .ref m_tape, .int (nI q_taped), .int q_fault, .int 0, .int q_wrongAt, .int (nI sp2_117), .int (nI pl2_118), .int (nI tk2_119), .int (nI vl2_120), .ref m_ends, .ref m_letters, .ref m_actOf, .ref m_whom, .ref m_actMany, .ref m_tokens, .ref m_afters, .ref m_afterOf, .int (nI (q_counted + 1)), .ref m_pile, .ref m_caseMany, .ref m_happen, .ref m_hasIf, .ref m_becomes, .ref m_goneOf, .ref m_heard, .ref m_pairs, .ref m_heaps, .int q_rounds, .int q_heapMany, .ref m_led, .ref m_newAt, .ref m_knowing, .ref m_firsts, .int (nI q_people), .ref m_secrets, .ref m_tried, .ref m_lanes, .ref m_lengths, .ref m_cells])), (m_tape, .inl (E.2.1 1, 160, .inl f_tape))]) C 2 rfl (vp_in_nI (by omega) (by omega)) (ldn2 (by omega) ef_142) rfl dX12_readAct_138 ?_
              refine ww_aload_n C dX12_readAct_139 3 rfl rfl ?_
              refine ww_get C fg_X12_37 5 rfl rfl dX12_readAct_140 ?_
              refine ww_bipush (v := 24) C dX12_readAct_143 rfl ?_
              refine ww_dup2 C dX12_readAct_145 rfl rfl ?_
              have hbx_143 := (hb_actMany 24 (by omega)).2
              refine ww_iald (v := (nI (cN f_actMany 24))) C 0 rfl (vin rfl) (hb_actMany 24 (by omega)).1 dX12_readAct_146 ?_
              refine ww_iconst (v := 1) C dX12_readAct_147 rfl ?_
              refine ww_iadd (v := (nI ((cN f_actMany 24) + 1))) C dX12_readAct_148 (nI_add (cN f_actMany 24) 1) ?_
              obtain ⟨f_144, ef_144⟩ : ∃ z : Nat → Int32, upd f_actMany 24 (nI ((cN f_actMany 24) + 1)) = z := ⟨_, rfl⟩
              refine ww_iast (ws' := [(m_actMany, .inl (E.2.1 1, 25, .inl f_144)), (m_actOf, .inl (E.2.1 1, 800, .inl f_141)), (m_whom, .inl (E.2.1 1, 800, .inl f_142)), (m_ends, .inl (E.2.1 1, 15, .inl f_ends)), (m_letters, .inl (E.2.1 1, 50, .inl f_letters)), (hm, .inr (12, [.ref m_manys, .ref m_reals, .ref m_factsOf, .ref m_possible, .int (nI q_undos), .int (nI q_models), .ref m_tape, .int (nI q_taped), .int q_fault, .int 0, .int q_wrongAt, .int (nI sp2_117), .int (nI pl2_118), .int (nI tk2_119), .int (nI vl2_120), .ref m_ends, .ref m_letters, .ref m_actOf, .ref m_whom, .ref m_actMany, .ref m_tokens, .ref m_afters, .ref m_afterOf, .int (nI (q_counted + 1)), .ref m_pile, .ref m_caseMany, .ref m_happen, .ref m_hasIf, .ref m_becomes, .ref m_goneOf, .ref m_heard, .ref m_pairs, .ref m_heaps, .int q_rounds, .int q_heapMany, .ref m_led, .ref m_newAt, .ref m_knowing, .ref m_firsts, .int (nI q_people), .ref m_secrets, .ref m_tried, .ref m_lanes, .ref m_lengths, .ref m_cells])), (m_tape, .inl (E.2.1 1, 160, .inl f_tape))]) C 0 rfl (vin rfl) ef_144 rfl dX12_readAct_149 ?_
              exact ww_vret (u := [(hm, .inr (12, [.ref m_manys, .ref m_reals, .ref m_factsOf, .ref m_possible, .int (nI q_undos), .int (nI q_models), .ref m_tape, .int (nI q_taped), .int q_fault, .int 0, .int q_wrongAt, .int (nI sp2_117), .int (nI pl2_118), .int (nI tk2_119), .int (nI vl2_120), .ref m_ends, .ref m_letters, .ref m_actOf, .ref m_whom, .ref m_actMany, .ref m_tokens, .ref m_afters, .ref m_afterOf, .int (nI (q_counted + 1)), .ref m_pile, .ref m_caseMany, .ref m_happen, .ref m_hasIf, .ref m_becomes, .ref m_goneOf, .ref m_heard, .ref m_pairs, .ref m_heaps, .int q_rounds, .int q_heapMany, .ref m_led, .ref m_newAt, .ref m_knowing, .ref m_firsts, .int (nI q_people), .ref m_secrets, .ref m_tried, .ref m_lanes, .ref m_lengths, .ref m_cells])), (m_tape, .inl (E.2.1 1, 160, .inl f_tape)), (m_ends, .inl (E.2.1 1, 15, .inl f_ends)), (m_letters, .inl (E.2.1 1, 50, .inl f_letters)), (m_actMany, .inl (E.2.1 1, 25, .inl f_144)), (m_actOf, .inl (E.2.1 1, 800, .inl f_141)), (m_whom, .inl (E.2.1 1, 800, .inl f_142))]) C hT [5, 6, 3, 4, 0, 1, 2] rfl rfl rfl rfl dX12_readAct_150 (Or.inl ⟨sp2_117, pl2_118, tk2_119, vl2_120, (q_counted + 1), nn_5, q_spot, 0, f_144, f_141, f_142, rfl, (by first | assumption | omega | decide), (by first | assumption | omega | decide), (by first | assumption | omega | decide), (by first | assumption | omega | decide), (NB.put hb_actMany (t := (cN f_actMany 24) + 1) (by omega) (by decide) ef_144), (by omega), (by omega), ef_144, ef_141, (by omega), ef_142, h_8, h_126, (fun o ho => by have h9 := h_8; exact sg_a htR (by omega) (by omega) h_126 (by omega) (by rw [h9]; omega)), (by have h9 := h_8; exact ⟨fun _ => rfl, fun h => absurd h (by omega), by decide⟩)⟩)
            · refine ex4 hw ?_
              clear hw
              intro sp2_129 pl2_130 tk2_131 vl2_132 hw
              refine an6 hw ?_
              clear hw
              intro he_139 h_133 h_134 h_135 h_136 h_137 hw
              have h_138 := hw
              clear hw
              subst he_139
              refine ww_eq (ws' := [(m_actMany, .inl (E.2.1 1, 25, .inl f_actMany)), (m_actOf, .inl (E.2.1 1, 800, .inl f_actOf)), (m_whom, .inl (E.2.1 1, 800, .inl f_whom)), (m_ends, .inl (E.2.1 1, 15, .inl f_ends)), (m_letters, .inl (E.2.1 1, 50, .inl f_letters)), (hm, .inr (12, [.ref m_manys, .ref m_reals, .ref m_factsOf, .ref m_possible, .int (nI q_undos), .int (nI q_models), .ref m_tape, .int (nI q_taped), .int q_fault, .int 1, .int (nI pl2_130), .int (nI sp2_129), .int (nI pl2_130), .int (nI tk2_131), .int (nI vl2_132), .ref m_ends, .ref m_letters, .ref m_actOf, .ref m_whom, .ref m_actMany, .ref m_tokens, .ref m_afters, .ref m_afterOf, .int (nI (q_counted + 1)), .ref m_pile, .ref m_caseMany, .ref m_happen, .ref m_hasIf, .ref m_becomes, .ref m_goneOf, .ref m_heard, .ref m_pairs, .ref m_heaps, .int q_rounds, .int q_heapMany, .ref m_led, .ref m_newAt, .ref m_knowing, .ref m_firsts, .int (nI q_people), .ref m_secrets, .ref m_tried, .ref m_lanes, .ref m_lengths, .ref m_cells])), (m_tape, .inl (E.2.1 1, 160, .inl f_tape))]) ?_ rfl rfl rfl
              refine ww_aload_n C dX12_readAct_106 2 rfl rfl ?_
              refine ww_get C fg_X12_157 5 rfl rfl dX12_readAct_107 ?_
              refine ww_if_ne_t (tgt := 150) C dX12_readAct_110 (by decide) (by decide) ?_
              exact ww_vret (u := [(hm, .inr (12, [.ref m_manys, .ref m_reals, .ref m_factsOf, .ref m_possible, .int (nI q_undos), .int (nI q_models), .ref m_tape, .int (nI q_taped), .int q_fault, .int 1, .int (nI pl2_130), .int (nI sp2_129), .int (nI pl2_130), .int (nI tk2_131), .int (nI vl2_132), .ref m_ends, .ref m_letters, .ref m_actOf, .ref m_whom, .ref m_actMany, .ref m_tokens, .ref m_afters, .ref m_afterOf, .int (nI (q_counted + 1)), .ref m_pile, .ref m_caseMany, .ref m_happen, .ref m_hasIf, .ref m_becomes, .ref m_goneOf, .ref m_heard, .ref m_pairs, .ref m_heaps, .int q_rounds, .int q_heapMany, .ref m_led, .ref m_newAt, .ref m_knowing, .ref m_firsts, .int (nI q_people), .ref m_secrets, .ref m_tried, .ref m_lanes, .ref m_lengths, .ref m_cells])), (m_tape, .inl (E.2.1 1, 160, .inl f_tape)), (m_ends, .inl (E.2.1 1, 15, .inl f_ends)), (m_letters, .inl (E.2.1 1, 50, .inl f_letters)), (m_actMany, .inl (E.2.1 1, 25, .inl f_actMany)), (m_actOf, .inl (E.2.1 1, 800, .inl f_actOf)), (m_whom, .inl (E.2.1 1, 800, .inl f_whom))]) C hT [5, 6, 3, 4, 0, 1, 2] rfl rfl rfl rfl dX12_readAct_150 (Or.inr ⟨sp2_129, pl2_130, tk2_131, vl2_132, (q_counted + 1), 1, pl2_130, rfl, (by first | assumption | omega | decide), (by first | assumption | omega | decide), (by first | assumption | omega | decide), (by first | assumption | omega | decide), (by omega), (by omega), (by omega), (by omega), (fun o ho => by have h9 := h_8; rw [h_138.2]; exact sg_f2 htR (by omega) (by omega) h_138.1)⟩)
          · have zc_113 : ((nn_5 : Nat) : Int) ≥ 8 := i_nlt (nI_toInt (n := nn_5) (by omega)) rfl c_113
            refine ww_aload_n C dX12_readAct_48 2 rfl rfl ?_
            refine ww_cv (wr := [(m_actMany, .inl (E.2.1 1, 25, .inl f_actMany)), (m_actOf, .inl (E.2.1 1, 800, .inl f_actOf)), (m_whom, .inl (E.2.1 1, 800, .inl f_whom)), (m_ends, .inl (E.2.1 1, 15, .inl f_ends)), (m_letters, .inl (E.2.1 1, 50, .inl f_letters))]) (k' := 0) (n' := 0) C (run_V (As := []) (rest := []) C (r_next X.2.1 E ro hm m_manys m_reals m_factsOf m_possible q_undos q_models m_tape q_taped q_fault 0 q_wrongAt q_spot (nI q_place) q_token q_value m_ends m_letters m_actOf m_whom m_actMany m_tokens m_afters m_afterOf (nI (q_counted + 1)) m_pile m_caseMany m_happen m_hasIf m_becomes m_goneOf m_heard m_pairs m_heaps q_rounds q_heapMany m_led m_newAt m_knowing m_firsts q_people m_secrets m_tried m_lanes m_lengths m_cells f_tape hb_tape (by omega) (by omega) (by omega) (by omega) (by omega)) mi_X12_next wl_X12_201 rfl 0 12 rfl rfl rfl rfl rfl dX12_readAct_49) (roK hro) [6, 3] [0, 1, 2, 4, 5] rfl rfl rfl rfl (fun uz hw => ?_)
            rcases hw with hw | hw | hw
            · refine an1 hw ?_
              clear hw
              intro he_147 hw
              have h_146 := hw
              clear hw
              subst he_147
              omega
            · refine ex4 hw ?_
              clear hw
              intro sp2_148 pl2_149 tk2_150 vl2_151 hw
              refine an7 hw ?_
              clear hw
              intro he_159 h_152 h_153 h_154 h_155 h_156 h_157 hw
              have h_158 := hw
              clear hw
              subst he_159
              refine ww_eq (ws' := [(m_actMany, .inl (E.2.1 1, 25, .inl f_actMany)), (m_actOf, .inl (E.2.1 1, 800, .inl f_actOf)), (m_whom, .inl (E.2.1 1, 800, .inl f_whom)), (m_ends, .inl (E.2.1 1, 15, .inl f_ends)), (m_letters, .inl (E.2.1 1, 50, .inl f_letters)), (hm, .inr (12, [.ref m_manys, .ref m_reals, .ref m_factsOf, .ref m_possible, .int (nI q_undos), .int (nI q_models), .ref m_tape, .int (nI q_taped), .int q_fault, .int 0, .int q_wrongAt, .int (nI sp2_148), .int (nI pl2_149), .int (nI tk2_150), .int (nI vl2_151), .ref m_ends, .ref m_letters, .ref m_actOf, .ref m_whom, .ref m_actMany, .ref m_tokens, .ref m_afters, .ref m_afterOf, .int (nI (q_counted + 1)), .ref m_pile, .ref m_caseMany, .ref m_happen, .ref m_hasIf, .ref m_becomes, .ref m_goneOf, .ref m_heard, .ref m_pairs, .ref m_heaps, .int q_rounds, .int q_heapMany, .ref m_led, .ref m_newAt, .ref m_knowing, .ref m_firsts, .int (nI q_people), .ref m_secrets, .ref m_tried, .ref m_lanes, .ref m_lengths, .ref m_cells])), (m_tape, .inl (E.2.1 1, 160, .inl f_tape))]) ?_ rfl rfl rfl
              refine ww_aload_n C dX12_readAct_52 2 rfl rfl ?_
              refine ww_cv (wr := [(m_actMany, .inl (E.2.1 1, 25, .inl f_actMany)), (m_actOf, .inl (E.2.1 1, 800, .inl f_actOf)), (m_whom, .inl (E.2.1 1, 800, .inl f_whom)), (m_ends, .inl (E.2.1 1, 15, .inl f_ends)), (m_letters, .inl (E.2.1 1, 50, .inl f_letters)), (m_tape, .inl (E.2.1 1, 160, .inl f_tape))]) (k' := 0) (n' := 0) C (run_V (As := []) (rest := []) C (r_counts X.2.1 E ro hm m_manys m_reals m_factsOf m_possible q_undos q_models m_tape q_taped q_fault 0 q_wrongAt (nI sp2_148) (nI pl2_149) tk2_150 (nI vl2_151) m_ends m_letters m_actOf m_whom m_actMany m_tokens m_afters m_afterOf (q_counted + 1) m_pile m_caseMany m_happen m_hasIf m_becomes m_goneOf m_heard m_pairs m_heaps q_rounds q_heapMany m_led m_newAt m_knowing m_firsts q_people m_secrets m_tried m_lanes m_lengths m_cells (by omega) (by omega) (by omega)) mi_X12_counts wl_X12_198 rfl 0 12 rfl rfl rfl rfl rfl dX12_readAct_53) (roK hro) [5] [0, 1, 2, 3, 4, 6] rfl rfl rfl rfl (fun uz hw => ?_)
              rcases hw with hw | hw
              · refine an1 hw ?_
                clear hw
                intro he_173 hw
                have h_172 := hw
                clear hw
                subst he_173
                refine ww_eq (ws' := [(m_actMany, .inl (E.2.1 1, 25, .inl f_actMany)), (m_actOf, .inl (E.2.1 1, 800, .inl f_actOf)), (m_whom, .inl (E.2.1 1, 800, .inl f_whom)), (m_ends, .inl (E.2.1 1, 15, .inl f_ends)), (m_letters, .inl (E.2.1 1, 50, .inl f_letters)), (m_tape, .inl (E.2.1 1, 160, .inl f_tape)), (hm, .inr (12, [.ref m_manys, .ref m_reals, .ref m_factsOf, .ref m_possible, .int (nI q_undos), .int (nI q_models), .ref m_tape, .int (nI q_taped), .int q_fault, .int 0, .int q_wrongAt, .int (nI sp2_148), .int (nI pl2_149), .int (nI tk2_150), .int (nI vl2_151), .ref m_ends, .ref m_letters, .ref m_actOf, .ref m_whom, .ref m_actMany, .ref m_tokens, .ref m_afters, .ref m_afterOf, .int (nI ((q_counted + 1) + 1)), .ref m_pile, .ref m_caseMany, .ref m_happen, .ref m_hasIf, .ref m_becomes, .ref m_goneOf, .ref m_heard, .ref m_pairs, .ref m_heaps, .int q_rounds, .int q_heapMany, .ref m_led, .ref m_newAt, .ref m_knowing, .ref m_firsts, .int (nI q_people), .ref m_secrets, .ref m_tried, .ref m_lanes, .ref m_lengths, .ref m_cells]))]) ?_ rfl rfl rfl
                refine ww_aload_n C dX12_readAct_56 2 rfl rfl ?_
                refine ww_get C fg_X12_157 6 rfl rfl dX12_readAct_57 ?_
                refine ww_if_ne_f (tgt := 70) C dX12_readAct_60 (by decide) (rfl) ?_
                refine ww_aload_n C dX12_readAct_63 2 rfl rfl ?_
                refine ww_ci (wr := [(m_actMany, .inl (E.2.1 1, 25, .inl f_actMany)), (m_actOf, .inl (E.2.1 1, 800, .inl f_actOf)), (m_whom, .inl (E.2.1 1, 800, .inl f_whom)), (m_ends, .inl (E.2.1 1, 15, .inl f_ends)), (m_letters, .inl (E.2.1 1, 50, .inl f_letters))]) (k' := 0) (n' := 0) C (run_V (As := []) (rest := []) C (r_groupHere X.2.1 E ro hm m_manys m_reals m_factsOf m_possible q_undos q_models m_tape q_taped q_fault 0 q_wrongAt sp2_148 pl2_149 tk2_150 (nI vl2_151) m_ends m_letters m_actOf m_whom m_actMany m_tokens m_afters m_afterOf (nI ((q_counted + 1) + 1)) m_pile m_caseMany m_happen m_hasIf m_becomes m_goneOf m_heard m_pairs m_heaps q_rounds q_heapMany m_led m_newAt m_knowing m_firsts q_people m_secrets m_tried m_lanes m_lengths m_cells f_tape hb_tape (by omega) (by omega) (by omega) (by omega)) mi_X12_groupHere wl_X12_204 rfl 0 12 rfl rfl rfl rfl rfl dX12_readAct_64) (roK hro) [6, 5] [0, 1, 2, 3, 4] rfl rfl rfl rfl (fun r_177 uz hw => ?_)
                refine an3 hw ?_
                clear hw
                intro he_180 he_181 h_178 hw
                have h_179 := hw
                clear hw
                have he_180 := he_180.symm
                subst he_180
                subst he_181
                refine ww_eq (ws' := [(m_actMany, .inl (E.2.1 1, 25, .inl f_actMany)), (m_actOf, .inl (E.2.1 1, 800, .inl f_actOf)), (m_whom, .inl (E.2.1 1, 800, .inl f_whom)), (m_ends, .inl (E.2.1 1, 15, .inl f_ends)), (m_letters, .inl (E.2.1 1, 50, .inl f_letters)), (hm, .inr (12, [.ref m_manys, .ref m_reals, .ref m_factsOf, .ref m_possible, .int (nI q_undos), .int (nI q_models), .ref m_tape, .int (nI q_taped), .int q_fault, .int 0, .int q_wrongAt, .int (nI sp2_148), .int (nI pl2_149), .int (nI tk2_150), .int (nI vl2_151), .ref m_ends, .ref m_letters, .ref m_actOf, .ref m_whom, .ref m_actMany, .ref m_tokens, .ref m_afters, .ref m_afterOf, .int (nI ((q_counted + 1) + 1)), .ref m_pile, .ref m_caseMany, .ref m_happen, .ref m_hasIf, .ref m_becomes, .ref m_goneOf, .ref m_heard, .ref m_pairs, .ref m_heaps, .int q_rounds, .int q_heapMany, .ref m_led, .ref m_newAt, .ref m_knowing, .ref m_firsts, .int (nI q_people), .ref m_secrets, .ref m_tried, .ref m_lanes, .ref m_lengths, .ref m_cells])), (m_tape, .inl (E.2.1 1, 160, .inl f_tape))]) ?_ rfl rfl rfl
                refine ww_goto (tgt := 71) C dX12_readAct_67 (by decide) ?_
                refine ww_istore_n (lv' := [(2, .int (nI (gT (cz f_tape q_taped) pl2_149 tk2_150 sp2_148))), (1, .int (nI nn_5)), (0, .ref hm)]) C dX12_readAct_71 rfl rfl rfl ?_
                refine ww_aload_n C dX12_readAct_72 2 rfl rfl ?_
                refine ww_get C fg_X12_157 5 rfl rfl dX12_readAct_73 ?_
                refine ww_if_ne_f (tgt := 102) C dX12_readAct_76 (by decide) (rfl) ?_
                refine ww_iload_n C dX12_readAct_79 0 rfl rfl ?_
                refine ww_if_eq (tgt := 97) C dX12_readAct_80 (by decide) (fun c_182 => ?_) (fun c_182 => ?_)
                · have zc_182 : ((gT (cz f_tape q_taped) pl2_149 tk2_150 sp2_148 : Nat) : Int) = 0 := i_eq (nI_toInt (n := gT (cz f_tape q_taped) pl2_149 tk2_150 sp2_148) (by omega)) rfl c_182
                  refine ww_aload_n C dX12_readAct_97 2 rfl rfl ?_
                  refine ww_iconst (v := 2) C dX12_readAct_98 rfl ?_
                  refine ww_cv (wr := [(m_actMany, .inl (E.2.1 1, 25, .inl f_actMany)), (m_actOf, .inl (E.2.1 1, 800, .inl f_actOf)), (m_whom, .inl (E.2.1 1, 800, .inl f_whom)), (m_ends, .inl (E.2.1 1, 15, .inl f_ends)), (m_letters, .inl (E.2.1 1, 50, .inl f_letters)), (m_tape, .inl (E.2.1 1, 160, .inl f_tape))]) (k' := 0) (n' := 0) C (run_V (As := [.int 2]) (rest := []) C (r_fails X.2.1 E ro hm 2 m_manys m_reals m_factsOf m_possible q_undos q_models m_tape q_taped q_fault 0 q_wrongAt (nI sp2_148) (nI pl2_149) (nI tk2_150) (nI vl2_151) m_ends m_letters m_actOf m_whom m_actMany m_tokens m_afters m_afterOf (nI ((q_counted + 1) + 1)) m_pile m_caseMany m_happen m_hasIf m_becomes m_goneOf m_heard m_pairs m_heaps q_rounds q_heapMany m_led m_newAt m_knowing m_firsts q_people m_secrets m_tried m_lanes m_lengths m_cells (by omega)) mi_X12_fails wl_X12_186 rfl 0 12 rfl rfl rfl rfl rfl dX12_readAct_99) (roK hro) [5] [0, 1, 2, 3, 4, 6] rfl rfl rfl rfl (fun uz hw => ?_)
                  rcases hw with hw | hw
                  · refine an1 hw ?_
                    clear hw
                    intro he_185 hw
                    have h_184 := hw
                    clear hw
                    subst he_185
                    refine ww_eq (ws' := [(m_actMany, .inl (E.2.1 1, 25, .inl f_actMany)), (m_actOf, .inl (E.2.1 1, 800, .inl f_actOf)), (m_whom, .inl (E.2.1 1, 800, .inl f_whom)), (m_ends, .inl (E.2.1 1, 15, .inl f_ends)), (m_letters, .inl (E.2.1 1, 50, .inl f_letters)), (m_tape, .inl (E.2.1 1, 160, .inl f_tape)), (hm, .inr (12, [.ref m_manys, .ref m_reals, .ref m_factsOf, .ref m_possible, .int (nI q_undos), .int (nI q_models), .ref m_tape, .int (nI q_taped), .int q_fault, .int 2, .int (nI pl2_149), .int (nI sp2_148), .int (nI pl2_149), .int (nI tk2_150), .int (nI vl2_151), .ref m_ends, .ref m_letters, .ref m_actOf, .ref m_whom, .ref m_actMany, .ref m_tokens, .ref m_afters, .ref m_afterOf, .int (nI ((q_counted + 1) + 1)), .ref m_pile, .ref m_caseMany, .ref m_happen, .ref m_hasIf, .ref m_becomes, .ref m_goneOf, .ref m_heard, .ref m_pairs, .ref m_heaps, .int q_rounds, .int q_heapMany, .ref m_led, .ref m_newAt, .ref m_knowing, .ref m_firsts, .int (nI q_people), .ref m_secrets, .ref m_tried, .ref m_lanes, .ref m_lengths, .ref m_cells]))]) ?_ rfl rfl rfl
                    have hgt := gT_lt (cz f_tape q_taped) pl2_149 tk2_150 sp2_148
                    have hsz := sz4 _ hgt
                    have hga : gA nn_5 (gT (cz f_tape q_taped) pl2_149 tk2_150 sp2_148) = 0 := by exact if q9 : nn_5 < 10 then (gA_1 (a := nn_5) (g := gT (cz f_tape q_taped) pl2_149 tk2_150 sp2_148) q9).trans (gO_x (by omega)) else (gA_0 (a := nn_5) (g := gT (cz f_tape q_taped) pl2_149 tk2_150 sp2_148) (by omega)).trans (by omega)
                    refine ww_aload_n C dX12_readAct_102 2 rfl rfl ?_
                    refine ww_cv (wr := [(m_actMany, .inl (E.2.1 1, 25, .inl f_actMany)), (m_actOf, .inl (E.2.1 1, 800, .inl f_actOf)), (m_whom, .inl (E.2.1 1, 800, .inl f_whom)), (m_ends, .inl (E.2.1 1, 15, .inl f_ends)), (m_letters, .inl (E.2.1 1, 50, .inl f_letters))]) (k' := 0) (n' := 0) C (run_V (As := []) (rest := []) C (r_next X.2.1 E ro hm m_manys m_reals m_factsOf m_possible q_undos q_models m_tape q_taped q_fault 2 (nI pl2_149) sp2_148 (nI pl2_149) tk2_150 vl2_151 m_ends m_letters m_actOf m_whom m_actMany m_tokens m_afters m_afterOf (nI ((q_counted + 1) + 1)) m_pile m_caseMany m_happen m_hasIf m_becomes m_goneOf m_heard m_pairs m_heaps q_rounds q_heapMany m_led m_newAt m_knowing m_firsts q_people m_secrets m_tried m_lanes m_lengths m_cells f_tape hb_tape (by omega) (by omega) (by omega) (by omega) (by omega)) mi_X12_next wl_X12_201 rfl 0 12 rfl rfl rfl rfl rfl dX12_readAct_103) (roK hro) [6, 5] [0, 1, 2, 3, 4] rfl rfl rfl rfl (fun uz hw => ?_)
                    rcases hw with hw | hw | hw
                    · refine an1 hw ?_
                      clear hw
                      intro he_190 hw
                      have h_189 := hw
                      clear hw
                      subst he_190
                      refine ww_eq (ws' := [(m_actMany, .inl (E.2.1 1, 25, .inl f_actMany)), (m_actOf, .inl (E.2.1 1, 800, .inl f_actOf)), (m_whom, .inl (E.2.1 1, 800, .inl f_whom)), (m_ends, .inl (E.2.1 1, 15, .inl f_ends)), (m_letters, .inl (E.2.1 1, 50, .inl f_letters)), (hm, .inr (12, [.ref m_manys, .ref m_reals, .ref m_factsOf, .ref m_possible, .int (nI q_undos), .int (nI q_models), .ref m_tape, .int (nI q_taped), .int q_fault, .int 2, .int (nI pl2_149), .int (nI sp2_148), .int (nI pl2_149), .int (nI tk2_150), .int (nI vl2_151), .ref m_ends, .ref m_letters, .ref m_actOf, .ref m_whom, .ref m_actMany, .ref m_tokens, .ref m_afters, .ref m_afterOf, .int (nI ((q_counted + 1) + 1)), .ref m_pile, .ref m_caseMany, .ref m_happen, .ref m_hasIf, .ref m_becomes, .ref m_goneOf, .ref m_heard, .ref m_pairs, .ref m_heaps, .int q_rounds, .int q_heapMany, .ref m_led, .ref m_newAt, .ref m_knowing, .ref m_firsts, .int (nI q_people), .ref m_secrets, .ref m_tried, .ref m_lanes, .ref m_lengths, .ref m_cells])), (m_tape, .inl (E.2.1 1, 160, .inl f_tape))]) ?_ rfl rfl rfl
                      refine ww_aload_n C dX12_readAct_106 2 rfl rfl ?_
                      refine ww_get C fg_X12_157 5 rfl rfl dX12_readAct_107 ?_
                      refine ww_if_ne_t (tgt := 150) C dX12_readAct_110 (by decide) (by decide) ?_
                      exact ww_vret (u := [(hm, .inr (12, [.ref m_manys, .ref m_reals, .ref m_factsOf, .ref m_possible, .int (nI q_undos), .int (nI q_models), .ref m_tape, .int (nI q_taped), .int q_fault, .int 2, .int (nI pl2_149), .int (nI sp2_148), .int (nI pl2_149), .int (nI tk2_150), .int (nI vl2_151), .ref m_ends, .ref m_letters, .ref m_actOf, .ref m_whom, .ref m_actMany, .ref m_tokens, .ref m_afters, .ref m_afterOf, .int (nI ((q_counted + 1) + 1)), .ref m_pile, .ref m_caseMany, .ref m_happen, .ref m_hasIf, .ref m_becomes, .ref m_goneOf, .ref m_heard, .ref m_pairs, .ref m_heaps, .int q_rounds, .int q_heapMany, .ref m_led, .ref m_newAt, .ref m_knowing, .ref m_firsts, .int (nI q_people), .ref m_secrets, .ref m_tried, .ref m_lanes, .ref m_lengths, .ref m_cells])), (m_tape, .inl (E.2.1 1, 160, .inl f_tape)), (m_ends, .inl (E.2.1 1, 15, .inl f_ends)), (m_letters, .inl (E.2.1 1, 50, .inl f_letters)), (m_actMany, .inl (E.2.1 1, 25, .inl f_actMany)), (m_actOf, .inl (E.2.1 1, 800, .inl f_actOf)), (m_whom, .inl (E.2.1 1, 800, .inl f_whom))]) C hT [5, 6, 3, 4, 0, 1, 2] rfl rfl rfl rfl dX12_readAct_150 (Or.inr ⟨sp2_148, pl2_149, tk2_150, vl2_151, ((q_counted + 1) + 1), 2, pl2_149, rfl, (by first | assumption | omega | decide), (by first | assumption | omega | decide), (by first | assumption | omega | decide), (by first | assumption | omega | decide), (by omega), (by omega), (by omega), (by omega), (fun o ho => by have h9 := h_8; exact sg_f3 htR (by omega) (by omega) (by omega) h_157 (by omega) (by first | (left; rw [h9]; exact hga) | (right; omega)))⟩)
                    · refine ex4 hw ?_
                      clear hw
                      intro sp2_191 pl2_192 tk2_193 vl2_194 hw
                      refine an7 hw ?_
                      clear hw
                      intro he_202 h_195 h_196 h_197 h_198 h_199 h_200 hw
                      have h_201 := hw
                      clear hw
                      subst he_202
                      omega
                    · refine ex4 hw ?_
                      clear hw
                      intro sp2_203 pl2_204 tk2_205 vl2_206 hw
                      refine an6 hw ?_
                      clear hw
                      intro he_213 h_207 h_208 h_209 h_210 h_211 hw
                      have h_212 := hw
                      clear hw
                      subst he_213
                      omega
                  · refine an1 hw ?_
                    clear hw
                    intro he_187 hw
                    have h_186 := hw
                    clear hw
                    subst he_187
                    omega
                · have zc_182 : ((gT (cz f_tape q_taped) pl2_149 tk2_150 sp2_148 : Nat) : Int) ≠ 0 := i_ne (nI_toInt (n := gT (cz f_tape q_taped) pl2_149 tk2_150 sp2_148) (by omega)) rfl c_182
                  refine ww_iload_n C dX12_readAct_83 1 rfl rfl ?_
                  refine ww_bipush (v := 10) C dX12_readAct_84 rfl ?_
                  refine ww_icmp_ge (tgt := 102) C dX12_readAct_86 (by decide) (fun c_214 => ?_) (fun c_214 => ?_)
                  · have zc_214 : ((nn_5 : Nat) : Int) ≥ 10 := i_le rfl (nI_toInt (n := nn_5) (by omega)) c_214
                    have hgt := gT_lt (cz f_tape q_taped) pl2_149 tk2_150 sp2_148
                    have hsz := sz4 _ hgt
                    have hga : gA nn_5 (gT (cz f_tape q_taped) pl2_149 tk2_150 sp2_148) = gT (cz f_tape q_taped) pl2_149 tk2_150 sp2_148 := by first | exact gA_0 (by omega) | (rw [gA_1 (a := nn_5) (g := gT (cz f_tape q_taped) pl2_149 tk2_150 sp2_148) (by omega)]; exact gO_y (by omega) hgt (by omega))
                    refine ww_aload_n C dX12_readAct_102 2 rfl rfl ?_
                    refine ww_cv (wr := [(m_actMany, .inl (E.2.1 1, 25, .inl f_actMany)), (m_actOf, .inl (E.2.1 1, 800, .inl f_actOf)), (m_whom, .inl (E.2.1 1, 800, .inl f_whom)), (m_ends, .inl (E.2.1 1, 15, .inl f_ends)), (m_letters, .inl (E.2.1 1, 50, .inl f_letters))]) (k' := 0) (n' := 0) C (run_V (As := []) (rest := []) C (r_next X.2.1 E ro hm m_manys m_reals m_factsOf m_possible q_undos q_models m_tape q_taped q_fault 0 q_wrongAt sp2_148 (nI pl2_149) tk2_150 vl2_151 m_ends m_letters m_actOf m_whom m_actMany m_tokens m_afters m_afterOf (nI ((q_counted + 1) + 1)) m_pile m_caseMany m_happen m_hasIf m_becomes m_goneOf m_heard m_pairs m_heaps q_rounds q_heapMany m_led m_newAt m_knowing m_firsts q_people m_secrets m_tried m_lanes m_lengths m_cells f_tape hb_tape (by omega) (by omega) (by omega) (by omega) (by omega)) mi_X12_next wl_X12_201 rfl 0 12 rfl rfl rfl rfl rfl dX12_readAct_103) (roK hro) [5, 6] [0, 1, 2, 3, 4] rfl rfl rfl rfl (fun uz hw => ?_)
                    rcases hw with hw | hw | hw
                    · refine an1 hw ?_
                      clear hw
                      intro he_217 hw
                      have h_216 := hw
                      clear hw
                      subst he_217
                      omega
                    · refine ex4 hw ?_
                      clear hw
                      intro sp2_218 pl2_219 tk2_220 vl2_221 hw
                      refine an7 hw ?_
                      clear hw
                      intro he_229 h_222 h_223 h_224 h_225 h_226 h_227 hw
                      have h_228 := hw
                      clear hw
                      subst he_229
                      refine ww_eq (ws' := [(m_actMany, .inl (E.2.1 1, 25, .inl f_actMany)), (m_actOf, .inl (E.2.1 1, 800, .inl f_actOf)), (m_whom, .inl (E.2.1 1, 800, .inl f_whom)), (m_ends, .inl (E.2.1 1, 15, .inl f_ends)), (m_letters, .inl (E.2.1 1, 50, .inl f_letters)), (hm, .inr (12, [.ref m_manys, .ref m_reals, .ref m_factsOf, .ref m_possible, .int (nI q_undos), .int (nI q_models), .ref m_tape, .int (nI q_taped), .int q_fault, .int 0, .int q_wrongAt, .int (nI sp2_218), .int (nI pl2_219), .int (nI tk2_220), .int (nI vl2_221), .ref m_ends, .ref m_letters, .ref m_actOf, .ref m_whom, .ref m_actMany, .ref m_tokens, .ref m_afters, .ref m_afterOf, .int (nI ((q_counted + 1) + 1)), .ref m_pile, .ref m_caseMany, .ref m_happen, .ref m_hasIf, .ref m_becomes, .ref m_goneOf, .ref m_heard, .ref m_pairs, .ref m_heaps, .int q_rounds, .int q_heapMany, .ref m_led, .ref m_newAt, .ref m_knowing, .ref m_firsts, .int (nI q_people), .ref m_secrets, .ref m_tried, .ref m_lanes, .ref m_lengths, .ref m_cells])), (m_tape, .inl (E.2.1 1, 160, .inl f_tape))]) ?_ rfl rfl rfl
                      refine ww_aload_n C dX12_readAct_106 2 rfl rfl ?_
                      refine ww_get C fg_X12_157 5 rfl rfl dX12_readAct_107 ?_
                      refine ww_if_ne_f (tgt := 150) C dX12_readAct_110 (by decide) (rfl) ?_
                      refine ww_sipush (v := 768) C dX12_readAct_113 rfl ?_
                      refine ww_aload_n C dX12_readAct_116 2 rfl rfl ?_
                      refine ww_get C fg_X12_37 5 rfl rfl dX12_readAct_117 ?_
                      refine ww_bipush (v := 24) C dX12_readAct_120 rfl ?_
                      have hbx_241 := (hb_actMany 24 (by omega)).2
                      refine ww_iald (v := (nI (cN f_actMany 24))) C 0 rfl (vin rfl) (hb_actMany 24 (by omega)).1 dX12_readAct_122 ?_
                      refine ww_iadd (v := (nI (768 + (cN f_actMany 24)))) C dX12_readAct_123 (nI_add 768 (cN f_actMany 24)) ?_
                      refine ww_istore_n (lv' := [(3, .int (nI (768 + (cN f_actMany 24)))), (2, .int (nI (gT (cz f_tape q_taped) pl2_149 tk2_150 sp2_148))), (1, .int (nI nn_5)), (0, .ref hm)]) C dX12_readAct_124 rfl rfl rfl ?_
                      refine ww_aload_n C dX12_readAct_125 3 rfl rfl ?_
                      refine ww_get C fg_X12_31 5 rfl rfl dX12_readAct_126 ?_
                      refine ww_iload_n C dX12_readAct_129 0 rfl rfl ?_
                      refine ww_iload_n C dX12_readAct_130 2 rfl rfl ?_
                      obtain ⟨f_242, ef_242⟩ : ∃ z : Nat → Int32, upd f_actOf (768 + (cN f_actMany 24)) (nI nn_5) = z := ⟨_, rfl⟩
                      refine ww_iast (ws' := [(m_actMany, .inl (E.2.1 1, 25, .inl f_actMany)), (m_actOf, .inl (E.2.1 1, 800, .inl f_242)), (m_whom, .inl (E.2.1 1, 800, .inl f_whom)), (m_ends, .inl (E.2.1 1, 15, .inl f_ends)), (m_letters, .inl (E.2.1 1, 50, .inl f_letters)), (hm, .inr (12, [.ref m_manys, .ref m_reals, .ref m_factsOf, .ref m_possible, .int (nI q_undos), .int (nI q_models), .ref m_tape, .int (nI q_taped), .int q_fault, .int 0, .int q_wrongAt, .int (nI sp2_218), .int (nI pl2_219), .int (nI tk2_220), .int (nI vl2_221), .ref m_ends, .ref m_letters, .ref m_actOf, .ref m_whom, .ref m_actMany, .ref m_tokens, .ref m_afters, .ref m_afterOf, .int (nI ((q_counted + 1) + 1)), .ref m_pile, .ref m_caseMany, .ref m_happen, .ref m_hasIf, .ref m_becomes, .ref m_goneOf, .ref m_heard, .ref m_pairs, .ref m_heaps, .int q_rounds, .int q_heapMany, .ref m_led, .ref m_newAt, .ref m_knowing, .ref m_firsts, .int (nI q_people), .ref m_secrets, .ref m_tried, .ref m_lanes, .ref m_lengths, .ref m_cells])), (m_tape, .inl (E.2.1 1, 160, .inl f_tape))]) C 1 rfl (vp_in_nI (by omega) (by omega)) (ldn2 (by omega) ef_242) rfl dX12_readAct_131 ?_
                      refine ww_aload_n C dX12_readAct_132 3 rfl rfl ?_
                      refine ww_get C fg_X12_34 5 rfl rfl dX12_readAct_133 ?_
                      refine ww_iload_n C dX12_readAct_136 0 rfl rfl ?_
                      refine ww_iload_n C dX12_readAct_137 1 rfl rfl ?_
                      obtain ⟨f_243, ef_243⟩ : ∃ z : Nat → Int32, upd f_whom (768 + (cN f_actMany 24)) (nI (gT (cz f_tape q_taped) pl2_149 tk2_150 sp2_148)) = z := ⟨_, rfl⟩
                      refine ww_iast (ws' := [(m_actMany, .inl (E.2.1 1, 25, .inl f_actMany)), (m_actOf, .inl (E.2.1 1, 800, .inl f_242)), (m_whom, .inl (E.2.1 1, 800, .inl f_243)), (m_ends, .inl (E.2.1 1, 15, .inl f_ends)), (m_letters, .inl (E.2.1 1, 50, .inl f_letters)), (hm, .inr (12, [.ref m_manys, .ref m_reals, .ref m_factsOf, .ref m_possible, .int (nI q_undos), .int (nI q_models), .ref m_tape, .int (nI q_taped), .int q_fault, .int 0, .int q_wrongAt, .int (nI sp2_218), .int (nI pl2_219), .int (nI tk2_220), .int (nI vl2_221), .ref m_ends, .ref m_letters, .ref m_actOf, .ref m_whom, .ref m_actMany, .ref m_tokens, .ref m_afters, .ref m_afterOf, .int (nI ((q_counted + 1) + 1)), .ref m_pile, .ref m_caseMany, .ref m_happen, .ref m_hasIf, .ref m_becomes, .ref m_goneOf, .ref m_heard, .ref m_pairs, .ref m_heaps, .int q_rounds, .int q_heapMany, .ref m_led, .ref m_newAt, .ref m_knowing, .ref m_firsts, .int (nI q_people), .ref m_secrets, .ref m_tried, .ref m_lanes, .ref m_lengths, .ref m_cells])), (m_tape, .inl (E.2.1 1, 160, .inl f_tape))]) C 2 rfl (vp_in_nI (by omega) (by omega)) (ldn2 (by omega) ef_243) rfl dX12_readAct_138 ?_
                      refine ww_aload_n C dX12_readAct_139 3 rfl rfl ?_
                      refine ww_get C fg_X12_37 5 rfl rfl dX12_readAct_140 ?_
                      refine ww_bipush (v := 24) C dX12_readAct_143 rfl ?_
                      refine ww_dup2 C dX12_readAct_145 rfl rfl ?_
                      have hbx_244 := (hb_actMany 24 (by omega)).2
                      refine ww_iald (v := (nI (cN f_actMany 24))) C 0 rfl (vin rfl) (hb_actMany 24 (by omega)).1 dX12_readAct_146 ?_
                      refine ww_iconst (v := 1) C dX12_readAct_147 rfl ?_
                      refine ww_iadd (v := (nI ((cN f_actMany 24) + 1))) C dX12_readAct_148 (nI_add (cN f_actMany 24) 1) ?_
                      obtain ⟨f_245, ef_245⟩ : ∃ z : Nat → Int32, upd f_actMany 24 (nI ((cN f_actMany 24) + 1)) = z := ⟨_, rfl⟩
                      refine ww_iast (ws' := [(m_actMany, .inl (E.2.1 1, 25, .inl f_245)), (m_actOf, .inl (E.2.1 1, 800, .inl f_242)), (m_whom, .inl (E.2.1 1, 800, .inl f_243)), (m_ends, .inl (E.2.1 1, 15, .inl f_ends)), (m_letters, .inl (E.2.1 1, 50, .inl f_letters)), (hm, .inr (12, [.ref m_manys, .ref m_reals, .ref m_factsOf, .ref m_possible, .int (nI q_undos), .int (nI q_models), .ref m_tape, .int (nI q_taped), .int q_fault, .int 0, .int q_wrongAt, .int (nI sp2_218), .int (nI pl2_219), .int (nI tk2_220), .int (nI vl2_221), .ref m_ends, .ref m_letters, .ref m_actOf, .ref m_whom, .ref m_actMany, .ref m_tokens, .ref m_afters, .ref m_afterOf, .int (nI ((q_counted + 1) + 1)), .ref m_pile, .ref m_caseMany, .ref m_happen, .ref m_hasIf, .ref m_becomes, .ref m_goneOf, .ref m_heard, .ref m_pairs, .ref m_heaps, .int q_rounds, .int q_heapMany, .ref m_led, .ref m_newAt, .ref m_knowing, .ref m_firsts, .int (nI q_people), .ref m_secrets, .ref m_tried, .ref m_lanes, .ref m_lengths, .ref m_cells])), (m_tape, .inl (E.2.1 1, 160, .inl f_tape))]) C 0 rfl (vin rfl) ef_245 rfl dX12_readAct_149 ?_
                      exact ww_vret (u := [(hm, .inr (12, [.ref m_manys, .ref m_reals, .ref m_factsOf, .ref m_possible, .int (nI q_undos), .int (nI q_models), .ref m_tape, .int (nI q_taped), .int q_fault, .int 0, .int q_wrongAt, .int (nI sp2_218), .int (nI pl2_219), .int (nI tk2_220), .int (nI vl2_221), .ref m_ends, .ref m_letters, .ref m_actOf, .ref m_whom, .ref m_actMany, .ref m_tokens, .ref m_afters, .ref m_afterOf, .int (nI ((q_counted + 1) + 1)), .ref m_pile, .ref m_caseMany, .ref m_happen, .ref m_hasIf, .ref m_becomes, .ref m_goneOf, .ref m_heard, .ref m_pairs, .ref m_heaps, .int q_rounds, .int q_heapMany, .ref m_led, .ref m_newAt, .ref m_knowing, .ref m_firsts, .int (nI q_people), .ref m_secrets, .ref m_tried, .ref m_lanes, .ref m_lengths, .ref m_cells])), (m_tape, .inl (E.2.1 1, 160, .inl f_tape)), (m_ends, .inl (E.2.1 1, 15, .inl f_ends)), (m_letters, .inl (E.2.1 1, 50, .inl f_letters)), (m_actMany, .inl (E.2.1 1, 25, .inl f_245)), (m_actOf, .inl (E.2.1 1, 800, .inl f_242)), (m_whom, .inl (E.2.1 1, 800, .inl f_243))]) C hT [5, 6, 3, 4, 0, 1, 2] rfl rfl rfl rfl dX12_readAct_150 (Or.inl ⟨sp2_218, pl2_219, tk2_220, vl2_221, ((q_counted + 1) + 1), nn_5, sp2_148, (gT (cz f_tape q_taped) pl2_149 tk2_150 sp2_148), f_245, f_242, f_243, rfl, (by first | assumption | omega | decide), (by first | assumption | omega | decide), (by first | assumption | omega | decide), (by first | assumption | omega | decide), (NB.put hb_actMany (t := (cN f_actMany 24) + 1) (by omega) (by decide) ef_245), (by omega), (by omega), ef_245, ef_242, (by omega), ef_243, h_8, h_227, (fun o ho => by have h9 := h_8; have h8 := wt_8 (a := nn_5) (by omega) (by omega); rw [h8, show o + 1 - 1 = o by omega]; exact sg_b htR (by omega) (by omega) (by omega) h_157 (by omega) (by rw [h9, hga]; omega) (by omega) h_227 (by omega)), (by have h9 := h_8; exact ⟨fun h => absurd h (by omega), fun _ => by rw [← htR.2.2, gF_eq h_157]; exact hga.symm, by omega⟩)⟩)
                    · refine ex4 hw ?_
                      clear hw
                      intro sp2_230 pl2_231 tk2_232 vl2_233 hw
                      refine an6 hw ?_
                      clear hw
                      intro he_240 h_234 h_235 h_236 h_237 h_238 hw
                      have h_239 := hw
                      clear hw
                      subst he_240
                      refine ww_eq (ws' := [(m_actMany, .inl (E.2.1 1, 25, .inl f_actMany)), (m_actOf, .inl (E.2.1 1, 800, .inl f_actOf)), (m_whom, .inl (E.2.1 1, 800, .inl f_whom)), (m_ends, .inl (E.2.1 1, 15, .inl f_ends)), (m_letters, .inl (E.2.1 1, 50, .inl f_letters)), (hm, .inr (12, [.ref m_manys, .ref m_reals, .ref m_factsOf, .ref m_possible, .int (nI q_undos), .int (nI q_models), .ref m_tape, .int (nI q_taped), .int q_fault, .int 1, .int (nI pl2_231), .int (nI sp2_230), .int (nI pl2_231), .int (nI tk2_232), .int (nI vl2_233), .ref m_ends, .ref m_letters, .ref m_actOf, .ref m_whom, .ref m_actMany, .ref m_tokens, .ref m_afters, .ref m_afterOf, .int (nI ((q_counted + 1) + 1)), .ref m_pile, .ref m_caseMany, .ref m_happen, .ref m_hasIf, .ref m_becomes, .ref m_goneOf, .ref m_heard, .ref m_pairs, .ref m_heaps, .int q_rounds, .int q_heapMany, .ref m_led, .ref m_newAt, .ref m_knowing, .ref m_firsts, .int (nI q_people), .ref m_secrets, .ref m_tried, .ref m_lanes, .ref m_lengths, .ref m_cells])), (m_tape, .inl (E.2.1 1, 160, .inl f_tape))]) ?_ rfl rfl rfl
                      refine ww_aload_n C dX12_readAct_106 2 rfl rfl ?_
                      refine ww_get C fg_X12_157 5 rfl rfl dX12_readAct_107 ?_
                      refine ww_if_ne_t (tgt := 150) C dX12_readAct_110 (by decide) (by decide) ?_
                      exact ww_vret (u := [(hm, .inr (12, [.ref m_manys, .ref m_reals, .ref m_factsOf, .ref m_possible, .int (nI q_undos), .int (nI q_models), .ref m_tape, .int (nI q_taped), .int q_fault, .int 1, .int (nI pl2_231), .int (nI sp2_230), .int (nI pl2_231), .int (nI tk2_232), .int (nI vl2_233), .ref m_ends, .ref m_letters, .ref m_actOf, .ref m_whom, .ref m_actMany, .ref m_tokens, .ref m_afters, .ref m_afterOf, .int (nI ((q_counted + 1) + 1)), .ref m_pile, .ref m_caseMany, .ref m_happen, .ref m_hasIf, .ref m_becomes, .ref m_goneOf, .ref m_heard, .ref m_pairs, .ref m_heaps, .int q_rounds, .int q_heapMany, .ref m_led, .ref m_newAt, .ref m_knowing, .ref m_firsts, .int (nI q_people), .ref m_secrets, .ref m_tried, .ref m_lanes, .ref m_lengths, .ref m_cells])), (m_tape, .inl (E.2.1 1, 160, .inl f_tape)), (m_ends, .inl (E.2.1 1, 15, .inl f_ends)), (m_letters, .inl (E.2.1 1, 50, .inl f_letters)), (m_actMany, .inl (E.2.1 1, 25, .inl f_actMany)), (m_actOf, .inl (E.2.1 1, 800, .inl f_actOf)), (m_whom, .inl (E.2.1 1, 800, .inl f_whom))]) C hT [5, 6, 3, 4, 0, 1, 2] rfl rfl rfl rfl dX12_readAct_150 (Or.inr ⟨sp2_230, pl2_231, tk2_232, vl2_233, ((q_counted + 1) + 1), 1, pl2_231, rfl, (by first | assumption | omega | decide), (by first | assumption | omega | decide), (by first | assumption | omega | decide), (by first | assumption | omega | decide), (by omega), (by omega), (by omega), (by omega), (fun o ho => by have h9 := h_8; rw [h_239.2]; exact sg_f4 htR (by omega) (by omega) (by omega) h_157 (by omega) (by rw [h9, hga]; omega) (by omega) h_239.1)⟩)
                  · have zc_214 : ((nn_5 : Nat) : Int) < 10 := i_nle rfl (nI_toInt (n := nn_5) (by omega)) c_214
                    refine ww_iload_n C dX12_readAct_89 0 rfl rfl ?_
                    refine ww_ci (wr := [(m_actMany, .inl (E.2.1 1, 25, .inl f_actMany)), (m_actOf, .inl (E.2.1 1, 800, .inl f_actOf)), (m_whom, .inl (E.2.1 1, 800, .inl f_whom)), (m_ends, .inl (E.2.1 1, 15, .inl f_ends)), (m_letters, .inl (E.2.1 1, 50, .inl f_letters)), (hm, .inr (12, [.ref m_manys, .ref m_reals, .ref m_factsOf, .ref m_possible, .int (nI q_undos), .int (nI q_models), .ref m_tape, .int (nI q_taped), .int q_fault, .int 0, .int q_wrongAt, .int (nI sp2_148), .int (nI pl2_149), .int (nI tk2_150), .int (nI vl2_151), .ref m_ends, .ref m_letters, .ref m_actOf, .ref m_whom, .ref m_actMany, .ref m_tokens, .ref m_afters, .ref m_afterOf, .int (nI ((q_counted + 1) + 1)), .ref m_pile, .ref m_caseMany, .ref m_happen, .ref m_hasIf, .ref m_becomes, .ref m_goneOf, .ref m_heard, .ref m_pairs, .ref m_heaps, .int q_rounds, .int q_heapMany, .ref m_led, .ref m_newAt, .ref m_knowing, .ref m_firsts, .int (nI q_people), .ref m_secrets, .ref m_tried, .ref m_lanes, .ref m_lengths, .ref m_cells])), (m_tape, .inl (E.2.1 1, 160, .inl f_tape))]) (k' := 0) (n' := 0) C (run_S (As := [.int (nI (gT (cz f_tape q_taped) pl2_149 tk2_150 sp2_148))]) (rest := []) C (r_size X.2.1 E ro (nI (gT (cz f_tape q_taped) pl2_149 tk2_150 sp2_148))) ms_X12_size wl_X12_145 rfl rfl rfl rfl dX12_readAct_90) (roK hro) [] [0, 1, 2, 3, 4, 5, 6] rfl rfl (plk (by decide +kernel)) rfl (fun r_246 uz hw => ?_)
                    refine an2 hw ?_
                    clear hw
                    intro he_248 he_249 hw
                    have h_247 := hw
                    clear hw
                    have he_248 := he_248.symm
                    subst he_248
                    subst he_249
                    refine ww_eq (ws' := [(m_actMany, .inl (E.2.1 1, 25, .inl f_actMany)), (m_actOf, .inl (E.2.1 1, 800, .inl f_actOf)), (m_whom, .inl (E.2.1 1, 800, .inl f_whom)), (m_ends, .inl (E.2.1 1, 15, .inl f_ends)), (m_letters, .inl (E.2.1 1, 50, .inl f_letters)), (hm, .inr (12, [.ref m_manys, .ref m_reals, .ref m_factsOf, .ref m_possible, .int (nI q_undos), .int (nI q_models), .ref m_tape, .int (nI q_taped), .int q_fault, .int 0, .int q_wrongAt, .int (nI sp2_148), .int (nI pl2_149), .int (nI tk2_150), .int (nI vl2_151), .ref m_ends, .ref m_letters, .ref m_actOf, .ref m_whom, .ref m_actMany, .ref m_tokens, .ref m_afters, .ref m_afterOf, .int (nI ((q_counted + 1) + 1)), .ref m_pile, .ref m_caseMany, .ref m_happen, .ref m_hasIf, .ref m_becomes, .ref m_goneOf, .ref m_heard, .ref m_pairs, .ref m_heaps, .int q_rounds, .int q_heapMany, .ref m_led, .ref m_newAt, .ref m_knowing, .ref m_firsts, .int (nI q_people), .ref m_secrets, .ref m_tried, .ref m_lanes, .ref m_lengths, .ref m_cells])), (m_tape, .inl (E.2.1 1, 160, .inl f_tape))]) ?_ rfl rfl rfl
                    refine ww_iconst (v := 1) C dX12_readAct_93 rfl ?_
                    refine ww_icmp_le (tgt := 102) C dX12_readAct_94 (by decide) (fun c_250 => ?_) (fun c_250 => ?_)
                    · have zc_250 : ((cb (bt (nI (gT (cz f_tape q_taped) pl2_149 tk2_150 sp2_148))) 24 : Nat) : Int) ≤ 1 := i_le (nI_toInt (n := cb (bt (nI (gT (cz f_tape q_taped) pl2_149 tk2_150 sp2_148))) 24) (by omega)) rfl c_250
                      have hgt := gT_lt (cz f_tape q_taped) pl2_149 tk2_150 sp2_148
                      have hsz := sz4 _ hgt
                      have hga : gA nn_5 (gT (cz f_tape q_taped) pl2_149 tk2_150 sp2_148) = gT (cz f_tape q_taped) pl2_149 tk2_150 sp2_148 := by first | exact gA_0 (by omega) | (rw [gA_1 (a := nn_5) (g := gT (cz f_tape q_taped) pl2_149 tk2_150 sp2_148) (by omega)]; exact gO_y (by omega) hgt (by omega))
                      refine ww_aload_n C dX12_readAct_102 2 rfl rfl ?_
                      refine ww_cv (wr := [(m_actMany, .inl (E.2.1 1, 25, .inl f_actMany)), (m_actOf, .inl (E.2.1 1, 800, .inl f_actOf)), (m_whom, .inl (E.2.1 1, 800, .inl f_whom)), (m_ends, .inl (E.2.1 1, 15, .inl f_ends)), (m_letters, .inl (E.2.1 1, 50, .inl f_letters))]) (k' := 0) (n' := 0) C (run_V (As := []) (rest := []) C (r_next X.2.1 E ro hm m_manys m_reals m_factsOf m_possible q_undos q_models m_tape q_taped q_fault 0 q_wrongAt sp2_148 (nI pl2_149) tk2_150 vl2_151 m_ends m_letters m_actOf m_whom m_actMany m_tokens m_afters m_afterOf (nI ((q_counted + 1) + 1)) m_pile m_caseMany m_happen m_hasIf m_becomes m_goneOf m_heard m_pairs m_heaps q_rounds q_heapMany m_led m_newAt m_knowing m_firsts q_people m_secrets m_tried m_lanes m_lengths m_cells f_tape hb_tape (by omega) (by omega) (by omega) (by omega) (by omega)) mi_X12_next wl_X12_201 rfl 0 12 rfl rfl rfl rfl rfl dX12_readAct_103) (roK hro) [5, 6] [0, 1, 2, 3, 4] rfl rfl rfl rfl (fun uz hw => ?_)
                      rcases hw with hw | hw | hw
                      · refine an1 hw ?_
                        clear hw
                        intro he_253 hw
                        have h_252 := hw
                        clear hw
                        subst he_253
                        omega
                      · refine ex4 hw ?_
                        clear hw
                        intro sp2_254 pl2_255 tk2_256 vl2_257 hw
                        refine an7 hw ?_
                        clear hw
                        intro he_265 h_258 h_259 h_260 h_261 h_262 h_263 hw
                        have h_264 := hw
                        clear hw
                        subst he_265
                        refine ww_eq (ws' := [(m_actMany, .inl (E.2.1 1, 25, .inl f_actMany)), (m_actOf, .inl (E.2.1 1, 800, .inl f_actOf)), (m_whom, .inl (E.2.1 1, 800, .inl f_whom)), (m_ends, .inl (E.2.1 1, 15, .inl f_ends)), (m_letters, .inl (E.2.1 1, 50, .inl f_letters)), (hm, .inr (12, [.ref m_manys, .ref m_reals, .ref m_factsOf, .ref m_possible, .int (nI q_undos), .int (nI q_models), .ref m_tape, .int (nI q_taped), .int q_fault, .int 0, .int q_wrongAt, .int (nI sp2_254), .int (nI pl2_255), .int (nI tk2_256), .int (nI vl2_257), .ref m_ends, .ref m_letters, .ref m_actOf, .ref m_whom, .ref m_actMany, .ref m_tokens, .ref m_afters, .ref m_afterOf, .int (nI ((q_counted + 1) + 1)), .ref m_pile, .ref m_caseMany, .ref m_happen, .ref m_hasIf, .ref m_becomes, .ref m_goneOf, .ref m_heard, .ref m_pairs, .ref m_heaps, .int q_rounds, .int q_heapMany, .ref m_led, .ref m_newAt, .ref m_knowing, .ref m_firsts, .int (nI q_people), .ref m_secrets, .ref m_tried, .ref m_lanes, .ref m_lengths, .ref m_cells])), (m_tape, .inl (E.2.1 1, 160, .inl f_tape))]) ?_ rfl rfl rfl
                        refine ww_aload_n C dX12_readAct_106 2 rfl rfl ?_
                        refine ww_get C fg_X12_157 5 rfl rfl dX12_readAct_107 ?_
                        refine ww_if_ne_f (tgt := 150) C dX12_readAct_110 (by decide) (rfl) ?_
                        refine ww_sipush (v := 768) C dX12_readAct_113 rfl ?_
                        refine ww_aload_n C dX12_readAct_116 2 rfl rfl ?_
                        refine ww_get C fg_X12_37 5 rfl rfl dX12_readAct_117 ?_
                        refine ww_bipush (v := 24) C dX12_readAct_120 rfl ?_
                        have hbx_277 := (hb_actMany 24 (by omega)).2
                        refine ww_iald (v := (nI (cN f_actMany 24))) C 0 rfl (vin rfl) (hb_actMany 24 (by omega)).1 dX12_readAct_122 ?_
                        refine ww_iadd (v := (nI (768 + (cN f_actMany 24)))) C dX12_readAct_123 (nI_add 768 (cN f_actMany 24)) ?_
                        refine ww_istore_n (lv' := [(3, .int (nI (768 + (cN f_actMany 24)))), (2, .int (nI (gT (cz f_tape q_taped) pl2_149 tk2_150 sp2_148))), (1, .int (nI nn_5)), (0, .ref hm)]) C dX12_readAct_124 rfl rfl rfl ?_
                        refine ww_aload_n C dX12_readAct_125 3 rfl rfl ?_
                        refine ww_get C fg_X12_31 5 rfl rfl dX12_readAct_126 ?_
                        refine ww_iload_n C dX12_readAct_129 0 rfl rfl ?_
                        refine ww_iload_n C dX12_readAct_130 2 rfl rfl ?_
                        obtain ⟨f_278, ef_278⟩ : ∃ z : Nat → Int32, upd f_actOf (768 + (cN f_actMany 24)) (nI nn_5) = z := ⟨_, rfl⟩
                        refine ww_iast (ws' := [(m_actMany, .inl (E.2.1 1, 25, .inl f_actMany)), (m_actOf, .inl (E.2.1 1, 800, .inl f_278)), (m_whom, .inl (E.2.1 1, 800, .inl f_whom)), (m_ends, .inl (E.2.1 1, 15, .inl f_ends)), (m_letters, .inl (E.2.1 1, 50, .inl f_letters)), (hm, .inr (12, [.ref m_manys, .ref m_reals, .ref m_factsOf, .ref m_possible, .int (nI q_undos), .int (nI q_models), .ref m_tape, .int (nI q_taped), .int q_fault, .int 0, .int q_wrongAt, .int (nI sp2_254), .int (nI pl2_255), .int (nI tk2_256), .int (nI vl2_257), .ref m_ends, .ref m_letters, .ref m_actOf, .ref m_whom, .ref m_actMany, .ref m_tokens, .ref m_afters, .ref m_afterOf, .int (nI ((q_counted + 1) + 1)), .ref m_pile, .ref m_caseMany, .ref m_happen, .ref m_hasIf, .ref m_becomes, .ref m_goneOf, .ref m_heard, .ref m_pairs, .ref m_heaps, .int q_rounds, .int q_heapMany, .ref m_led, .ref m_newAt, .ref m_knowing, .ref m_firsts, .int (nI q_people), .ref m_secrets, .ref m_tried, .ref m_lanes, .ref m_lengths, .ref m_cells])), (m_tape, .inl (E.2.1 1, 160, .inl f_tape))]) C 1 rfl (vp_in_nI (by omega) (by omega)) (ldn2 (by omega) ef_278) rfl dX12_readAct_131 ?_
                        refine ww_aload_n C dX12_readAct_132 3 rfl rfl ?_
                        refine ww_get C fg_X12_34 5 rfl rfl dX12_readAct_133 ?_
                        refine ww_iload_n C dX12_readAct_136 0 rfl rfl ?_
                        refine ww_iload_n C dX12_readAct_137 1 rfl rfl ?_
                        obtain ⟨f_279, ef_279⟩ : ∃ z : Nat → Int32, upd f_whom (768 + (cN f_actMany 24)) (nI (gT (cz f_tape q_taped) pl2_149 tk2_150 sp2_148)) = z := ⟨_, rfl⟩
                        refine ww_iast (ws' := [(m_actMany, .inl (E.2.1 1, 25, .inl f_actMany)), (m_actOf, .inl (E.2.1 1, 800, .inl f_278)), (m_whom, .inl (E.2.1 1, 800, .inl f_279)), (m_ends, .inl (E.2.1 1, 15, .inl f_ends)), (m_letters, .inl (E.2.1 1, 50, .inl f_letters)), (hm, .inr (12, [.ref m_manys, .ref m_reals, .ref m_factsOf, .ref m_possible, .int (nI q_undos), .int (nI q_models), .ref m_tape, .int (nI q_taped), .int q_fault, .int 0, .int q_wrongAt, .int (nI sp2_254), .int (nI pl2_255), .int (nI tk2_256), .int (nI vl2_257), .ref m_ends, .ref m_letters, .ref m_actOf, .ref m_whom, .ref m_actMany, .ref m_tokens, .ref m_afters, .ref m_afterOf, .int (nI ((q_counted + 1) + 1)), .ref m_pile, .ref m_caseMany, .ref m_happen, .ref m_hasIf, .ref m_becomes, .ref m_goneOf, .ref m_heard, .ref m_pairs, .ref m_heaps, .int q_rounds, .int q_heapMany, .ref m_led, .ref m_newAt, .ref m_knowing, .ref m_firsts, .int (nI q_people), .ref m_secrets, .ref m_tried, .ref m_lanes, .ref m_lengths, .ref m_cells])), (m_tape, .inl (E.2.1 1, 160, .inl f_tape))]) C 2 rfl (vp_in_nI (by omega) (by omega)) (ldn2 (by omega) ef_279) rfl dX12_readAct_138 ?_
                        refine ww_aload_n C dX12_readAct_139 3 rfl rfl ?_
                        refine ww_get C fg_X12_37 5 rfl rfl dX12_readAct_140 ?_
                        refine ww_bipush (v := 24) C dX12_readAct_143 rfl ?_
                        refine ww_dup2 C dX12_readAct_145 rfl rfl ?_
                        have hbx_280 := (hb_actMany 24 (by omega)).2
                        refine ww_iald (v := (nI (cN f_actMany 24))) C 0 rfl (vin rfl) (hb_actMany 24 (by omega)).1 dX12_readAct_146 ?_
                        refine ww_iconst (v := 1) C dX12_readAct_147 rfl ?_
                        refine ww_iadd (v := (nI ((cN f_actMany 24) + 1))) C dX12_readAct_148 (nI_add (cN f_actMany 24) 1) ?_
                        obtain ⟨f_281, ef_281⟩ : ∃ z : Nat → Int32, upd f_actMany 24 (nI ((cN f_actMany 24) + 1)) = z := ⟨_, rfl⟩
                        refine ww_iast (ws' := [(m_actMany, .inl (E.2.1 1, 25, .inl f_281)), (m_actOf, .inl (E.2.1 1, 800, .inl f_278)), (m_whom, .inl (E.2.1 1, 800, .inl f_279)), (m_ends, .inl (E.2.1 1, 15, .inl f_ends)), (m_letters, .inl (E.2.1 1, 50, .inl f_letters)), (hm, .inr (12, [.ref m_manys, .ref m_reals, .ref m_factsOf, .ref m_possible, .int (nI q_undos), .int (nI q_models), .ref m_tape, .int (nI q_taped), .int q_fault, .int 0, .int q_wrongAt, .int (nI sp2_254), .int (nI pl2_255), .int (nI tk2_256), .int (nI vl2_257), .ref m_ends, .ref m_letters, .ref m_actOf, .ref m_whom, .ref m_actMany, .ref m_tokens, .ref m_afters, .ref m_afterOf, .int (nI ((q_counted + 1) + 1)), .ref m_pile, .ref m_caseMany, .ref m_happen, .ref m_hasIf, .ref m_becomes, .ref m_goneOf, .ref m_heard, .ref m_pairs, .ref m_heaps, .int q_rounds, .int q_heapMany, .ref m_led, .ref m_newAt, .ref m_knowing, .ref m_firsts, .int (nI q_people), .ref m_secrets, .ref m_tried, .ref m_lanes, .ref m_lengths, .ref m_cells])), (m_tape, .inl (E.2.1 1, 160, .inl f_tape))]) C 0 rfl (vin rfl) ef_281 rfl dX12_readAct_149 ?_
                        exact ww_vret (u := [(hm, .inr (12, [.ref m_manys, .ref m_reals, .ref m_factsOf, .ref m_possible, .int (nI q_undos), .int (nI q_models), .ref m_tape, .int (nI q_taped), .int q_fault, .int 0, .int q_wrongAt, .int (nI sp2_254), .int (nI pl2_255), .int (nI tk2_256), .int (nI vl2_257), .ref m_ends, .ref m_letters, .ref m_actOf, .ref m_whom, .ref m_actMany, .ref m_tokens, .ref m_afters, .ref m_afterOf, .int (nI ((q_counted + 1) + 1)), .ref m_pile, .ref m_caseMany, .ref m_happen, .ref m_hasIf, .ref m_becomes, .ref m_goneOf, .ref m_heard, .ref m_pairs, .ref m_heaps, .int q_rounds, .int q_heapMany, .ref m_led, .ref m_newAt, .ref m_knowing, .ref m_firsts, .int (nI q_people), .ref m_secrets, .ref m_tried, .ref m_lanes, .ref m_lengths, .ref m_cells])), (m_tape, .inl (E.2.1 1, 160, .inl f_tape)), (m_ends, .inl (E.2.1 1, 15, .inl f_ends)), (m_letters, .inl (E.2.1 1, 50, .inl f_letters)), (m_actMany, .inl (E.2.1 1, 25, .inl f_281)), (m_actOf, .inl (E.2.1 1, 800, .inl f_278)), (m_whom, .inl (E.2.1 1, 800, .inl f_279))]) C hT [5, 6, 3, 4, 0, 1, 2] rfl rfl rfl rfl dX12_readAct_150 (Or.inl ⟨sp2_254, pl2_255, tk2_256, vl2_257, ((q_counted + 1) + 1), nn_5, sp2_148, (gT (cz f_tape q_taped) pl2_149 tk2_150 sp2_148), f_281, f_278, f_279, rfl, (by first | assumption | omega | decide), (by first | assumption | omega | decide), (by first | assumption | omega | decide), (by first | assumption | omega | decide), (NB.put hb_actMany (t := (cN f_actMany 24) + 1) (by omega) (by decide) ef_281), (by omega), (by omega), ef_281, ef_278, (by omega), ef_279, h_8, h_263, (fun o ho => by have h9 := h_8; have h8 := wt_8 (a := nn_5) (by omega) (by omega); rw [h8, show o + 1 - 1 = o by omega]; exact sg_b htR (by omega) (by omega) (by omega) h_157 (by omega) (by rw [h9, hga]; omega) (by omega) h_263 (by omega)), (by have h9 := h_8; exact ⟨fun h => absurd h (by omega), fun _ => by rw [← htR.2.2, gF_eq h_157]; exact hga.symm, by omega⟩)⟩)
                      · refine ex4 hw ?_
                        clear hw
                        intro sp2_266 pl2_267 tk2_268 vl2_269 hw
                        refine an6 hw ?_
                        clear hw
                        intro he_276 h_270 h_271 h_272 h_273 h_274 hw
                        have h_275 := hw
                        clear hw
                        subst he_276
                        refine ww_eq (ws' := [(m_actMany, .inl (E.2.1 1, 25, .inl f_actMany)), (m_actOf, .inl (E.2.1 1, 800, .inl f_actOf)), (m_whom, .inl (E.2.1 1, 800, .inl f_whom)), (m_ends, .inl (E.2.1 1, 15, .inl f_ends)), (m_letters, .inl (E.2.1 1, 50, .inl f_letters)), (hm, .inr (12, [.ref m_manys, .ref m_reals, .ref m_factsOf, .ref m_possible, .int (nI q_undos), .int (nI q_models), .ref m_tape, .int (nI q_taped), .int q_fault, .int 1, .int (nI pl2_267), .int (nI sp2_266), .int (nI pl2_267), .int (nI tk2_268), .int (nI vl2_269), .ref m_ends, .ref m_letters, .ref m_actOf, .ref m_whom, .ref m_actMany, .ref m_tokens, .ref m_afters, .ref m_afterOf, .int (nI ((q_counted + 1) + 1)), .ref m_pile, .ref m_caseMany, .ref m_happen, .ref m_hasIf, .ref m_becomes, .ref m_goneOf, .ref m_heard, .ref m_pairs, .ref m_heaps, .int q_rounds, .int q_heapMany, .ref m_led, .ref m_newAt, .ref m_knowing, .ref m_firsts, .int (nI q_people), .ref m_secrets, .ref m_tried, .ref m_lanes, .ref m_lengths, .ref m_cells])), (m_tape, .inl (E.2.1 1, 160, .inl f_tape))]) ?_ rfl rfl rfl
                        refine ww_aload_n C dX12_readAct_106 2 rfl rfl ?_
                        refine ww_get C fg_X12_157 5 rfl rfl dX12_readAct_107 ?_
                        refine ww_if_ne_t (tgt := 150) C dX12_readAct_110 (by decide) (by decide) ?_
                        exact ww_vret (u := [(hm, .inr (12, [.ref m_manys, .ref m_reals, .ref m_factsOf, .ref m_possible, .int (nI q_undos), .int (nI q_models), .ref m_tape, .int (nI q_taped), .int q_fault, .int 1, .int (nI pl2_267), .int (nI sp2_266), .int (nI pl2_267), .int (nI tk2_268), .int (nI vl2_269), .ref m_ends, .ref m_letters, .ref m_actOf, .ref m_whom, .ref m_actMany, .ref m_tokens, .ref m_afters, .ref m_afterOf, .int (nI ((q_counted + 1) + 1)), .ref m_pile, .ref m_caseMany, .ref m_happen, .ref m_hasIf, .ref m_becomes, .ref m_goneOf, .ref m_heard, .ref m_pairs, .ref m_heaps, .int q_rounds, .int q_heapMany, .ref m_led, .ref m_newAt, .ref m_knowing, .ref m_firsts, .int (nI q_people), .ref m_secrets, .ref m_tried, .ref m_lanes, .ref m_lengths, .ref m_cells])), (m_tape, .inl (E.2.1 1, 160, .inl f_tape)), (m_ends, .inl (E.2.1 1, 15, .inl f_ends)), (m_letters, .inl (E.2.1 1, 50, .inl f_letters)), (m_actMany, .inl (E.2.1 1, 25, .inl f_actMany)), (m_actOf, .inl (E.2.1 1, 800, .inl f_actOf)), (m_whom, .inl (E.2.1 1, 800, .inl f_whom))]) C hT [5, 6, 3, 4, 0, 1, 2] rfl rfl rfl rfl dX12_readAct_150 (Or.inr ⟨sp2_266, pl2_267, tk2_268, vl2_269, ((q_counted + 1) + 1), 1, pl2_267, rfl, (by first | assumption | omega | decide), (by first | assumption | omega | decide), (by first | assumption | omega | decide), (by first | assumption | omega | decide), (by omega), (by omega), (by omega), (by omega), (fun o ho => by have h9 := h_8; rw [h_275.2]; exact sg_f4 htR (by omega) (by omega) (by omega) h_157 (by omega) (by rw [h9, hga]; omega) (by omega) h_275.1)⟩)
                    · have zc_250 : ((cb (bt (nI (gT (cz f_tape q_taped) pl2_149 tk2_150 sp2_148))) 24 : Nat) : Int) > 1 := i_nle (nI_toInt (n := cb (bt (nI (gT (cz f_tape q_taped) pl2_149 tk2_150 sp2_148))) 24) (by omega)) rfl c_250
                      refine ww_aload_n C dX12_readAct_97 2 rfl rfl ?_
                      refine ww_iconst (v := 2) C dX12_readAct_98 rfl ?_
                      refine ww_cv (wr := [(m_actMany, .inl (E.2.1 1, 25, .inl f_actMany)), (m_actOf, .inl (E.2.1 1, 800, .inl f_actOf)), (m_whom, .inl (E.2.1 1, 800, .inl f_whom)), (m_ends, .inl (E.2.1 1, 15, .inl f_ends)), (m_letters, .inl (E.2.1 1, 50, .inl f_letters)), (m_tape, .inl (E.2.1 1, 160, .inl f_tape))]) (k' := 0) (n' := 0) C (run_V (As := [.int 2]) (rest := []) C (r_fails X.2.1 E ro hm 2 m_manys m_reals m_factsOf m_possible q_undos q_models m_tape q_taped q_fault 0 q_wrongAt (nI sp2_148) (nI pl2_149) (nI tk2_150) (nI vl2_151) m_ends m_letters m_actOf m_whom m_actMany m_tokens m_afters m_afterOf (nI ((q_counted + 1) + 1)) m_pile m_caseMany m_happen m_hasIf m_becomes m_goneOf m_heard m_pairs m_heaps q_rounds q_heapMany m_led m_newAt m_knowing m_firsts q_people m_secrets m_tried m_lanes m_lengths m_cells (by omega)) mi_X12_fails wl_X12_186 rfl 0 12 rfl rfl rfl rfl rfl dX12_readAct_99) (roK hro) [5] [0, 1, 2, 3, 4, 6] rfl rfl rfl rfl (fun uz hw => ?_)
                      rcases hw with hw | hw
                      · refine an1 hw ?_
                        clear hw
                        intro he_284 hw
                        have h_283 := hw
                        clear hw
                        subst he_284
                        refine ww_eq (ws' := [(m_actMany, .inl (E.2.1 1, 25, .inl f_actMany)), (m_actOf, .inl (E.2.1 1, 800, .inl f_actOf)), (m_whom, .inl (E.2.1 1, 800, .inl f_whom)), (m_ends, .inl (E.2.1 1, 15, .inl f_ends)), (m_letters, .inl (E.2.1 1, 50, .inl f_letters)), (m_tape, .inl (E.2.1 1, 160, .inl f_tape)), (hm, .inr (12, [.ref m_manys, .ref m_reals, .ref m_factsOf, .ref m_possible, .int (nI q_undos), .int (nI q_models), .ref m_tape, .int (nI q_taped), .int q_fault, .int 2, .int (nI pl2_149), .int (nI sp2_148), .int (nI pl2_149), .int (nI tk2_150), .int (nI vl2_151), .ref m_ends, .ref m_letters, .ref m_actOf, .ref m_whom, .ref m_actMany, .ref m_tokens, .ref m_afters, .ref m_afterOf, .int (nI ((q_counted + 1) + 1)), .ref m_pile, .ref m_caseMany, .ref m_happen, .ref m_hasIf, .ref m_becomes, .ref m_goneOf, .ref m_heard, .ref m_pairs, .ref m_heaps, .int q_rounds, .int q_heapMany, .ref m_led, .ref m_newAt, .ref m_knowing, .ref m_firsts, .int (nI q_people), .ref m_secrets, .ref m_tried, .ref m_lanes, .ref m_lengths, .ref m_cells]))]) ?_ rfl rfl rfl
                        have hgt := gT_lt (cz f_tape q_taped) pl2_149 tk2_150 sp2_148
                        have hsz := sz4 _ hgt
                        have hga : gA nn_5 (gT (cz f_tape q_taped) pl2_149 tk2_150 sp2_148) = 0 := by exact if q9 : nn_5 < 10 then (gA_1 (a := nn_5) (g := gT (cz f_tape q_taped) pl2_149 tk2_150 sp2_148) q9).trans (gO_x (by omega)) else (gA_0 (a := nn_5) (g := gT (cz f_tape q_taped) pl2_149 tk2_150 sp2_148) (by omega)).trans (by omega)
                        refine ww_aload_n C dX12_readAct_102 2 rfl rfl ?_
                        refine ww_cv (wr := [(m_actMany, .inl (E.2.1 1, 25, .inl f_actMany)), (m_actOf, .inl (E.2.1 1, 800, .inl f_actOf)), (m_whom, .inl (E.2.1 1, 800, .inl f_whom)), (m_ends, .inl (E.2.1 1, 15, .inl f_ends)), (m_letters, .inl (E.2.1 1, 50, .inl f_letters))]) (k' := 0) (n' := 0) C (run_V (As := []) (rest := []) C (r_next X.2.1 E ro hm m_manys m_reals m_factsOf m_possible q_undos q_models m_tape q_taped q_fault 2 (nI pl2_149) sp2_148 (nI pl2_149) tk2_150 vl2_151 m_ends m_letters m_actOf m_whom m_actMany m_tokens m_afters m_afterOf (nI ((q_counted + 1) + 1)) m_pile m_caseMany m_happen m_hasIf m_becomes m_goneOf m_heard m_pairs m_heaps q_rounds q_heapMany m_led m_newAt m_knowing m_firsts q_people m_secrets m_tried m_lanes m_lengths m_cells f_tape hb_tape (by omega) (by omega) (by omega) (by omega) (by omega)) mi_X12_next wl_X12_201 rfl 0 12 rfl rfl rfl rfl rfl dX12_readAct_103) (roK hro) [6, 5] [0, 1, 2, 3, 4] rfl rfl rfl rfl (fun uz hw => ?_)
                        rcases hw with hw | hw | hw
                        · refine an1 hw ?_
                          clear hw
                          intro he_289 hw
                          have h_288 := hw
                          clear hw
                          subst he_289
                          refine ww_eq (ws' := [(m_actMany, .inl (E.2.1 1, 25, .inl f_actMany)), (m_actOf, .inl (E.2.1 1, 800, .inl f_actOf)), (m_whom, .inl (E.2.1 1, 800, .inl f_whom)), (m_ends, .inl (E.2.1 1, 15, .inl f_ends)), (m_letters, .inl (E.2.1 1, 50, .inl f_letters)), (hm, .inr (12, [.ref m_manys, .ref m_reals, .ref m_factsOf, .ref m_possible, .int (nI q_undos), .int (nI q_models), .ref m_tape, .int (nI q_taped), .int q_fault, .int 2, .int (nI pl2_149), .int (nI sp2_148), .int (nI pl2_149), .int (nI tk2_150), .int (nI vl2_151), .ref m_ends, .ref m_letters, .ref m_actOf, .ref m_whom, .ref m_actMany, .ref m_tokens, .ref m_afters, .ref m_afterOf, .int (nI ((q_counted + 1) + 1)), .ref m_pile, .ref m_caseMany, .ref m_happen, .ref m_hasIf, .ref m_becomes, .ref m_goneOf, .ref m_heard, .ref m_pairs, .ref m_heaps, .int q_rounds, .int q_heapMany, .ref m_led, .ref m_newAt, .ref m_knowing, .ref m_firsts, .int (nI q_people), .ref m_secrets, .ref m_tried, .ref m_lanes, .ref m_lengths, .ref m_cells])), (m_tape, .inl (E.2.1 1, 160, .inl f_tape))]) ?_ rfl rfl rfl
                          refine ww_aload_n C dX12_readAct_106 2 rfl rfl ?_
                          refine ww_get C fg_X12_157 5 rfl rfl dX12_readAct_107 ?_
                          refine ww_if_ne_t (tgt := 150) C dX12_readAct_110 (by decide) (by decide) ?_
                          exact ww_vret (u := [(hm, .inr (12, [.ref m_manys, .ref m_reals, .ref m_factsOf, .ref m_possible, .int (nI q_undos), .int (nI q_models), .ref m_tape, .int (nI q_taped), .int q_fault, .int 2, .int (nI pl2_149), .int (nI sp2_148), .int (nI pl2_149), .int (nI tk2_150), .int (nI vl2_151), .ref m_ends, .ref m_letters, .ref m_actOf, .ref m_whom, .ref m_actMany, .ref m_tokens, .ref m_afters, .ref m_afterOf, .int (nI ((q_counted + 1) + 1)), .ref m_pile, .ref m_caseMany, .ref m_happen, .ref m_hasIf, .ref m_becomes, .ref m_goneOf, .ref m_heard, .ref m_pairs, .ref m_heaps, .int q_rounds, .int q_heapMany, .ref m_led, .ref m_newAt, .ref m_knowing, .ref m_firsts, .int (nI q_people), .ref m_secrets, .ref m_tried, .ref m_lanes, .ref m_lengths, .ref m_cells])), (m_tape, .inl (E.2.1 1, 160, .inl f_tape)), (m_ends, .inl (E.2.1 1, 15, .inl f_ends)), (m_letters, .inl (E.2.1 1, 50, .inl f_letters)), (m_actMany, .inl (E.2.1 1, 25, .inl f_actMany)), (m_actOf, .inl (E.2.1 1, 800, .inl f_actOf)), (m_whom, .inl (E.2.1 1, 800, .inl f_whom))]) C hT [5, 6, 3, 4, 0, 1, 2] rfl rfl rfl rfl dX12_readAct_150 (Or.inr ⟨sp2_148, pl2_149, tk2_150, vl2_151, ((q_counted + 1) + 1), 2, pl2_149, rfl, (by first | assumption | omega | decide), (by first | assumption | omega | decide), (by first | assumption | omega | decide), (by first | assumption | omega | decide), (by omega), (by omega), (by omega), (by omega), (fun o ho => by have h9 := h_8; exact sg_f3 htR (by omega) (by omega) (by omega) h_157 (by omega) (by first | (left; rw [h9]; exact hga) | (right; omega)))⟩)
                        · refine ex4 hw ?_
                          clear hw
                          intro sp2_290 pl2_291 tk2_292 vl2_293 hw
                          refine an7 hw ?_
                          clear hw
                          intro he_301 h_294 h_295 h_296 h_297 h_298 h_299 hw
                          have h_300 := hw
                          clear hw
                          subst he_301
                          omega
                        · refine ex4 hw ?_
                          clear hw
                          intro sp2_302 pl2_303 tk2_304 vl2_305 hw
                          refine an6 hw ?_
                          clear hw
                          intro he_312 h_306 h_307 h_308 h_309 h_310 hw
                          have h_311 := hw
                          clear hw
                          subst he_312
                          omega
                      · refine an1 hw ?_
                        clear hw
                        intro he_286 hw
                        have h_285 := hw
                        clear hw
                        subst he_286
                        omega
              · refine an2 hw ?_
                clear hw
                intro he_176 h_174 hw
                have h_175 := hw
                clear hw
                subst he_176
                refine ww_eq (ws' := [(m_actMany, .inl (E.2.1 1, 25, .inl f_actMany)), (m_actOf, .inl (E.2.1 1, 800, .inl f_actOf)), (m_whom, .inl (E.2.1 1, 800, .inl f_whom)), (m_ends, .inl (E.2.1 1, 15, .inl f_ends)), (m_letters, .inl (E.2.1 1, 50, .inl f_letters)), (m_tape, .inl (E.2.1 1, 160, .inl f_tape)), (hm, .inr (12, [.ref m_manys, .ref m_reals, .ref m_factsOf, .ref m_possible, .int (nI q_undos), .int (nI q_models), .ref m_tape, .int (nI q_taped), .int q_fault, .int 5, .int (nI pl2_149), .int (nI sp2_148), .int (nI pl2_149), .int (nI tk2_150), .int (nI vl2_151), .ref m_ends, .ref m_letters, .ref m_actOf, .ref m_whom, .ref m_actMany, .ref m_tokens, .ref m_afters, .ref m_afterOf, .int (nI ((q_counted + 1) + 1)), .ref m_pile, .ref m_caseMany, .ref m_happen, .ref m_hasIf, .ref m_becomes, .ref m_goneOf, .ref m_heard, .ref m_pairs, .ref m_heaps, .int q_rounds, .int q_heapMany, .ref m_led, .ref m_newAt, .ref m_knowing, .ref m_firsts, .int (nI q_people), .ref m_secrets, .ref m_tried, .ref m_lanes, .ref m_lengths, .ref m_cells]))]) ?_ rfl rfl rfl
                refine ww_aload_n C dX12_readAct_56 2 rfl rfl ?_
                refine ww_get C fg_X12_157 6 rfl rfl dX12_readAct_57 ?_
                refine ww_if_ne_t (tgt := 70) C dX12_readAct_60 (by decide) (by decide) ?_
                refine ww_iconst (v := 0) C dX12_readAct_70 rfl ?_
                refine ww_istore_n (lv' := [(2, .int 0), (1, .int (nI nn_5)), (0, .ref hm)]) C dX12_readAct_71 rfl rfl rfl ?_
                refine ww_aload_n C dX12_readAct_72 2 rfl rfl ?_
                refine ww_get C fg_X12_157 6 rfl rfl dX12_readAct_73 ?_
                refine ww_if_ne_t (tgt := 102) C dX12_readAct_76 (by decide) (by decide) ?_
                refine ww_aload_n C dX12_readAct_102 2 rfl rfl ?_
                refine ww_cv (wr := [(m_actMany, .inl (E.2.1 1, 25, .inl f_actMany)), (m_actOf, .inl (E.2.1 1, 800, .inl f_actOf)), (m_whom, .inl (E.2.1 1, 800, .inl f_whom)), (m_ends, .inl (E.2.1 1, 15, .inl f_ends)), (m_letters, .inl (E.2.1 1, 50, .inl f_letters))]) (k' := 0) (n' := 0) C (run_V (As := []) (rest := []) C (r_next X.2.1 E ro hm m_manys m_reals m_factsOf m_possible q_undos q_models m_tape q_taped q_fault 5 (nI pl2_149) sp2_148 (nI pl2_149) tk2_150 vl2_151 m_ends m_letters m_actOf m_whom m_actMany m_tokens m_afters m_afterOf (nI ((q_counted + 1) + 1)) m_pile m_caseMany m_happen m_hasIf m_becomes m_goneOf m_heard m_pairs m_heaps q_rounds q_heapMany m_led m_newAt m_knowing m_firsts q_people m_secrets m_tried m_lanes m_lengths m_cells f_tape hb_tape (by omega) (by omega) (by omega) (by omega) (by omega)) mi_X12_next wl_X12_201 rfl 0 12 rfl rfl rfl rfl rfl dX12_readAct_103) (roK hro) [6, 5] [0, 1, 2, 3, 4] rfl rfl rfl rfl (fun uz hw => ?_)
                rcases hw with hw | hw | hw
                · refine an1 hw ?_
                  clear hw
                  intro he_315 hw
                  have h_314 := hw
                  clear hw
                  subst he_315
                  refine ww_eq (ws' := [(m_actMany, .inl (E.2.1 1, 25, .inl f_actMany)), (m_actOf, .inl (E.2.1 1, 800, .inl f_actOf)), (m_whom, .inl (E.2.1 1, 800, .inl f_whom)), (m_ends, .inl (E.2.1 1, 15, .inl f_ends)), (m_letters, .inl (E.2.1 1, 50, .inl f_letters)), (hm, .inr (12, [.ref m_manys, .ref m_reals, .ref m_factsOf, .ref m_possible, .int (nI q_undos), .int (nI q_models), .ref m_tape, .int (nI q_taped), .int q_fault, .int 5, .int (nI pl2_149), .int (nI sp2_148), .int (nI pl2_149), .int (nI tk2_150), .int (nI vl2_151), .ref m_ends, .ref m_letters, .ref m_actOf, .ref m_whom, .ref m_actMany, .ref m_tokens, .ref m_afters, .ref m_afterOf, .int (nI ((q_counted + 1) + 1)), .ref m_pile, .ref m_caseMany, .ref m_happen, .ref m_hasIf, .ref m_becomes, .ref m_goneOf, .ref m_heard, .ref m_pairs, .ref m_heaps, .int q_rounds, .int q_heapMany, .ref m_led, .ref m_newAt, .ref m_knowing, .ref m_firsts, .int (nI q_people), .ref m_secrets, .ref m_tried, .ref m_lanes, .ref m_lengths, .ref m_cells])), (m_tape, .inl (E.2.1 1, 160, .inl f_tape))]) ?_ rfl rfl rfl
                  refine ww_aload_n C dX12_readAct_106 2 rfl rfl ?_
                  refine ww_get C fg_X12_157 5 rfl rfl dX12_readAct_107 ?_
                  refine ww_if_ne_t (tgt := 150) C dX12_readAct_110 (by decide) (by decide) ?_
                  exact ww_vret (u := [(hm, .inr (12, [.ref m_manys, .ref m_reals, .ref m_factsOf, .ref m_possible, .int (nI q_undos), .int (nI q_models), .ref m_tape, .int (nI q_taped), .int q_fault, .int 5, .int (nI pl2_149), .int (nI sp2_148), .int (nI pl2_149), .int (nI tk2_150), .int (nI vl2_151), .ref m_ends, .ref m_letters, .ref m_actOf, .ref m_whom, .ref m_actMany, .ref m_tokens, .ref m_afters, .ref m_afterOf, .int (nI ((q_counted + 1) + 1)), .ref m_pile, .ref m_caseMany, .ref m_happen, .ref m_hasIf, .ref m_becomes, .ref m_goneOf, .ref m_heard, .ref m_pairs, .ref m_heaps, .int q_rounds, .int q_heapMany, .ref m_led, .ref m_newAt, .ref m_knowing, .ref m_firsts, .int (nI q_people), .ref m_secrets, .ref m_tried, .ref m_lanes, .ref m_lengths, .ref m_cells])), (m_tape, .inl (E.2.1 1, 160, .inl f_tape)), (m_ends, .inl (E.2.1 1, 15, .inl f_ends)), (m_letters, .inl (E.2.1 1, 50, .inl f_letters)), (m_actMany, .inl (E.2.1 1, 25, .inl f_actMany)), (m_actOf, .inl (E.2.1 1, 800, .inl f_actOf)), (m_whom, .inl (E.2.1 1, 800, .inl f_whom))]) C hT [5, 6, 3, 4, 0, 1, 2] rfl rfl rfl rfl dX12_readAct_150 (Or.inr ⟨sp2_148, pl2_149, tk2_150, vl2_151, ((q_counted + 1) + 1), 5, pl2_149, rfl, (by first | assumption | omega | decide), (by first | assumption | omega | decide), (by first | assumption | omega | decide), (by first | assumption | omega | decide), (by omega), (by omega), (by omega), (by omega), (fun o ho => by have h9 := h_8; exact sg_f3 htR (by omega) (by omega) (by omega) h_157 (by omega) (by first | (left; rw [h9]; exact hga) | (right; omega)))⟩)
                · refine ex4 hw ?_
                  clear hw
                  intro sp2_316 pl2_317 tk2_318 vl2_319 hw
                  refine an7 hw ?_
                  clear hw
                  intro he_327 h_320 h_321 h_322 h_323 h_324 h_325 hw
                  have h_326 := hw
                  clear hw
                  subst he_327
                  omega
                · refine ex4 hw ?_
                  clear hw
                  intro sp2_328 pl2_329 tk2_330 vl2_331 hw
                  refine an6 hw ?_
                  clear hw
                  intro he_338 h_332 h_333 h_334 h_335 h_336 hw
                  have h_337 := hw
                  clear hw
                  subst he_338
                  omega
            · refine ex4 hw ?_
              clear hw
              intro sp2_160 pl2_161 tk2_162 vl2_163 hw
              refine an6 hw ?_
              clear hw
              intro he_170 h_164 h_165 h_166 h_167 h_168 hw
              have h_169 := hw
              clear hw
              subst he_170
              refine ww_eq (ws' := [(m_actMany, .inl (E.2.1 1, 25, .inl f_actMany)), (m_actOf, .inl (E.2.1 1, 800, .inl f_actOf)), (m_whom, .inl (E.2.1 1, 800, .inl f_whom)), (m_ends, .inl (E.2.1 1, 15, .inl f_ends)), (m_letters, .inl (E.2.1 1, 50, .inl f_letters)), (hm, .inr (12, [.ref m_manys, .ref m_reals, .ref m_factsOf, .ref m_possible, .int (nI q_undos), .int (nI q_models), .ref m_tape, .int (nI q_taped), .int q_fault, .int 1, .int (nI pl2_161), .int (nI sp2_160), .int (nI pl2_161), .int (nI tk2_162), .int (nI vl2_163), .ref m_ends, .ref m_letters, .ref m_actOf, .ref m_whom, .ref m_actMany, .ref m_tokens, .ref m_afters, .ref m_afterOf, .int (nI (q_counted + 1)), .ref m_pile, .ref m_caseMany, .ref m_happen, .ref m_hasIf, .ref m_becomes, .ref m_goneOf, .ref m_heard, .ref m_pairs, .ref m_heaps, .int q_rounds, .int q_heapMany, .ref m_led, .ref m_newAt, .ref m_knowing, .ref m_firsts, .int (nI q_people), .ref m_secrets, .ref m_tried, .ref m_lanes, .ref m_lengths, .ref m_cells])), (m_tape, .inl (E.2.1 1, 160, .inl f_tape))]) ?_ rfl rfl rfl
              refine ww_aload_n C dX12_readAct_52 2 rfl rfl ?_
              refine ww_cv (wr := [(m_actMany, .inl (E.2.1 1, 25, .inl f_actMany)), (m_actOf, .inl (E.2.1 1, 800, .inl f_actOf)), (m_whom, .inl (E.2.1 1, 800, .inl f_whom)), (m_ends, .inl (E.2.1 1, 15, .inl f_ends)), (m_letters, .inl (E.2.1 1, 50, .inl f_letters)), (m_tape, .inl (E.2.1 1, 160, .inl f_tape))]) (k' := 0) (n' := 0) C (run_V (As := []) (rest := []) C (r_counts X.2.1 E ro hm m_manys m_reals m_factsOf m_possible q_undos q_models m_tape q_taped q_fault 1 (nI pl2_161) (nI sp2_160) (nI pl2_161) tk2_162 (nI vl2_163) m_ends m_letters m_actOf m_whom m_actMany m_tokens m_afters m_afterOf (q_counted + 1) m_pile m_caseMany m_happen m_hasIf m_becomes m_goneOf m_heard m_pairs m_heaps q_rounds q_heapMany m_led m_newAt m_knowing m_firsts q_people m_secrets m_tried m_lanes m_lengths m_cells (by omega) (by omega) (by omega)) mi_X12_counts wl_X12_198 rfl 0 12 rfl rfl rfl rfl rfl dX12_readAct_53) (roK hro) [5] [0, 1, 2, 3, 4, 6] rfl rfl rfl rfl (fun uz hw => ?_)
              rcases hw with hw | hw
              · refine an1 hw ?_
                clear hw
                intro he_341 hw
                have h_340 := hw
                clear hw
                subst he_341
                refine ww_eq (ws' := [(m_actMany, .inl (E.2.1 1, 25, .inl f_actMany)), (m_actOf, .inl (E.2.1 1, 800, .inl f_actOf)), (m_whom, .inl (E.2.1 1, 800, .inl f_whom)), (m_ends, .inl (E.2.1 1, 15, .inl f_ends)), (m_letters, .inl (E.2.1 1, 50, .inl f_letters)), (m_tape, .inl (E.2.1 1, 160, .inl f_tape)), (hm, .inr (12, [.ref m_manys, .ref m_reals, .ref m_factsOf, .ref m_possible, .int (nI q_undos), .int (nI q_models), .ref m_tape, .int (nI q_taped), .int q_fault, .int 1, .int (nI pl2_161), .int (nI sp2_160), .int (nI pl2_161), .int (nI tk2_162), .int (nI vl2_163), .ref m_ends, .ref m_letters, .ref m_actOf, .ref m_whom, .ref m_actMany, .ref m_tokens, .ref m_afters, .ref m_afterOf, .int (nI ((q_counted + 1) + 1)), .ref m_pile, .ref m_caseMany, .ref m_happen, .ref m_hasIf, .ref m_becomes, .ref m_goneOf, .ref m_heard, .ref m_pairs, .ref m_heaps, .int q_rounds, .int q_heapMany, .ref m_led, .ref m_newAt, .ref m_knowing, .ref m_firsts, .int (nI q_people), .ref m_secrets, .ref m_tried, .ref m_lanes, .ref m_lengths, .ref m_cells]))]) ?_ rfl rfl rfl
                refine ww_aload_n C dX12_readAct_56 2 rfl rfl ?_
                refine ww_get C fg_X12_157 6 rfl rfl dX12_readAct_57 ?_
                refine ww_if_ne_t (tgt := 70) C dX12_readAct_60 (by decide) (by decide) ?_
                refine ww_iconst (v := 0) C dX12_readAct_70 rfl ?_
                refine ww_istore_n (lv' := [(2, .int 0), (1, .int (nI nn_5)), (0, .ref hm)]) C dX12_readAct_71 rfl rfl rfl ?_
                refine ww_aload_n C dX12_readAct_72 2 rfl rfl ?_
                refine ww_get C fg_X12_157 6 rfl rfl dX12_readAct_73 ?_
                refine ww_if_ne_t (tgt := 102) C dX12_readAct_76 (by decide) (by decide) ?_
                refine ww_aload_n C dX12_readAct_102 2 rfl rfl ?_
                refine ww_cv (wr := [(m_actMany, .inl (E.2.1 1, 25, .inl f_actMany)), (m_actOf, .inl (E.2.1 1, 800, .inl f_actOf)), (m_whom, .inl (E.2.1 1, 800, .inl f_whom)), (m_ends, .inl (E.2.1 1, 15, .inl f_ends)), (m_letters, .inl (E.2.1 1, 50, .inl f_letters))]) (k' := 0) (n' := 0) C (run_V (As := []) (rest := []) C (r_next X.2.1 E ro hm m_manys m_reals m_factsOf m_possible q_undos q_models m_tape q_taped q_fault 1 (nI pl2_161) sp2_160 (nI pl2_161) tk2_162 vl2_163 m_ends m_letters m_actOf m_whom m_actMany m_tokens m_afters m_afterOf (nI ((q_counted + 1) + 1)) m_pile m_caseMany m_happen m_hasIf m_becomes m_goneOf m_heard m_pairs m_heaps q_rounds q_heapMany m_led m_newAt m_knowing m_firsts q_people m_secrets m_tried m_lanes m_lengths m_cells f_tape hb_tape (by omega) (by omega) (by omega) (by omega) (by omega)) mi_X12_next wl_X12_201 rfl 0 12 rfl rfl rfl rfl rfl dX12_readAct_103) (roK hro) [6, 5] [0, 1, 2, 3, 4] rfl rfl rfl rfl (fun uz hw => ?_)
                rcases hw with hw | hw | hw
                · refine an1 hw ?_
                  clear hw
                  intro he_347 hw
                  have h_346 := hw
                  clear hw
                  subst he_347
                  refine ww_eq (ws' := [(m_actMany, .inl (E.2.1 1, 25, .inl f_actMany)), (m_actOf, .inl (E.2.1 1, 800, .inl f_actOf)), (m_whom, .inl (E.2.1 1, 800, .inl f_whom)), (m_ends, .inl (E.2.1 1, 15, .inl f_ends)), (m_letters, .inl (E.2.1 1, 50, .inl f_letters)), (hm, .inr (12, [.ref m_manys, .ref m_reals, .ref m_factsOf, .ref m_possible, .int (nI q_undos), .int (nI q_models), .ref m_tape, .int (nI q_taped), .int q_fault, .int 1, .int (nI pl2_161), .int (nI sp2_160), .int (nI pl2_161), .int (nI tk2_162), .int (nI vl2_163), .ref m_ends, .ref m_letters, .ref m_actOf, .ref m_whom, .ref m_actMany, .ref m_tokens, .ref m_afters, .ref m_afterOf, .int (nI ((q_counted + 1) + 1)), .ref m_pile, .ref m_caseMany, .ref m_happen, .ref m_hasIf, .ref m_becomes, .ref m_goneOf, .ref m_heard, .ref m_pairs, .ref m_heaps, .int q_rounds, .int q_heapMany, .ref m_led, .ref m_newAt, .ref m_knowing, .ref m_firsts, .int (nI q_people), .ref m_secrets, .ref m_tried, .ref m_lanes, .ref m_lengths, .ref m_cells])), (m_tape, .inl (E.2.1 1, 160, .inl f_tape))]) ?_ rfl rfl rfl
                  refine ww_aload_n C dX12_readAct_106 2 rfl rfl ?_
                  refine ww_get C fg_X12_157 5 rfl rfl dX12_readAct_107 ?_
                  refine ww_if_ne_t (tgt := 150) C dX12_readAct_110 (by decide) (by decide) ?_
                  exact ww_vret (u := [(hm, .inr (12, [.ref m_manys, .ref m_reals, .ref m_factsOf, .ref m_possible, .int (nI q_undos), .int (nI q_models), .ref m_tape, .int (nI q_taped), .int q_fault, .int 1, .int (nI pl2_161), .int (nI sp2_160), .int (nI pl2_161), .int (nI tk2_162), .int (nI vl2_163), .ref m_ends, .ref m_letters, .ref m_actOf, .ref m_whom, .ref m_actMany, .ref m_tokens, .ref m_afters, .ref m_afterOf, .int (nI ((q_counted + 1) + 1)), .ref m_pile, .ref m_caseMany, .ref m_happen, .ref m_hasIf, .ref m_becomes, .ref m_goneOf, .ref m_heard, .ref m_pairs, .ref m_heaps, .int q_rounds, .int q_heapMany, .ref m_led, .ref m_newAt, .ref m_knowing, .ref m_firsts, .int (nI q_people), .ref m_secrets, .ref m_tried, .ref m_lanes, .ref m_lengths, .ref m_cells])), (m_tape, .inl (E.2.1 1, 160, .inl f_tape)), (m_ends, .inl (E.2.1 1, 15, .inl f_ends)), (m_letters, .inl (E.2.1 1, 50, .inl f_letters)), (m_actMany, .inl (E.2.1 1, 25, .inl f_actMany)), (m_actOf, .inl (E.2.1 1, 800, .inl f_actOf)), (m_whom, .inl (E.2.1 1, 800, .inl f_whom))]) C hT [5, 6, 3, 4, 0, 1, 2] rfl rfl rfl rfl dX12_readAct_150 (Or.inr ⟨sp2_160, pl2_161, tk2_162, vl2_163, ((q_counted + 1) + 1), 1, pl2_161, rfl, (by first | assumption | omega | decide), (by first | assumption | omega | decide), (by first | assumption | omega | decide), (by first | assumption | omega | decide), (by omega), (by omega), (by omega), (by omega), (fun o ho => by have h9 := h_8; rw [h_169.2]; exact sg_f2 htR (by omega) (by omega) h_169.1)⟩)
                · refine ex4 hw ?_
                  clear hw
                  intro sp2_348 pl2_349 tk2_350 vl2_351 hw
                  refine an7 hw ?_
                  clear hw
                  intro he_359 h_352 h_353 h_354 h_355 h_356 h_357 hw
                  have h_358 := hw
                  clear hw
                  subst he_359
                  omega
                · refine ex4 hw ?_
                  clear hw
                  intro sp2_360 pl2_361 tk2_362 vl2_363 hw
                  refine an6 hw ?_
                  clear hw
                  intro he_370 h_364 h_365 h_366 h_367 h_368 hw
                  have h_369 := hw
                  clear hw
                  subst he_370
                  omega
              · refine an2 hw ?_
                clear hw
                intro he_344 h_342 hw
                have h_343 := hw
                clear hw
                subst he_344
                omega
        · have zc_112 : ((nn_5 : Nat) : Int) = 13 := i_eq (nI_toInt (n := nn_5) (by omega)) rfl c_112
          refine ww_aload_n C dX12_readAct_28 1 rfl rfl ?_
          refine ww_iconst (v := 2) C dX12_readAct_29 rfl ?_
          refine ww_cv (wr := [(m_actMany, .inl (E.2.1 1, 25, .inl f_actMany)), (m_actOf, .inl (E.2.1 1, 800, .inl f_actOf)), (m_whom, .inl (E.2.1 1, 800, .inl f_whom)), (m_tape, .inl (E.2.1 1, 160, .inl f_tape)), (m_ends, .inl (E.2.1 1, 15, .inl f_ends)), (m_letters, .inl (E.2.1 1, 50, .inl f_letters))]) (k' := 0) (n' := 0) C (run_V (As := [.int 2]) (rest := []) C (r_fails X.2.1 E ro hm 2 m_manys m_reals m_factsOf m_possible q_undos q_models m_tape q_taped q_fault 0 q_wrongAt (nI q_spot) (nI q_place) (nI q_token) (nI q_value) m_ends m_letters m_actOf m_whom m_actMany m_tokens m_afters m_afterOf (nI (q_counted + 1)) m_pile m_caseMany m_happen m_hasIf m_becomes m_goneOf m_heard m_pairs m_heaps q_rounds q_heapMany m_led m_newAt m_knowing m_firsts q_people m_secrets m_tried m_lanes m_lengths m_cells (by omega)) mi_X12_fails wl_X12_186 rfl 0 12 rfl rfl rfl rfl rfl dX12_readAct_30) (roK hro) [6] [0, 1, 2, 3, 4, 5] rfl rfl rfl rfl (fun uz hw => ?_)
          rcases hw with hw | hw
          · refine an1 hw ?_
            clear hw
            intro he_373 hw
            have h_372 := hw
            clear hw
            subst he_373
            refine ww_eq (ws' := [(m_actMany, .inl (E.2.1 1, 25, .inl f_actMany)), (m_actOf, .inl (E.2.1 1, 800, .inl f_actOf)), (m_whom, .inl (E.2.1 1, 800, .inl f_whom)), (m_tape, .inl (E.2.1 1, 160, .inl f_tape)), (m_ends, .inl (E.2.1 1, 15, .inl f_ends)), (m_letters, .inl (E.2.1 1, 50, .inl f_letters)), (hm, .inr (12, [.ref m_manys, .ref m_reals, .ref m_factsOf, .ref m_possible, .int (nI q_undos), .int (nI q_models), .ref m_tape, .int (nI q_taped), .int q_fault, .int 2, .int (nI q_place), .int (nI q_spot), .int (nI q_place), .int (nI q_token), .int (nI q_value), .ref m_ends, .ref m_letters, .ref m_actOf, .ref m_whom, .ref m_actMany, .ref m_tokens, .ref m_afters, .ref m_afterOf, .int (nI (q_counted + 1)), .ref m_pile, .ref m_caseMany, .ref m_happen, .ref m_hasIf, .ref m_becomes, .ref m_goneOf, .ref m_heard, .ref m_pairs, .ref m_heaps, .int q_rounds, .int q_heapMany, .ref m_led, .ref m_newAt, .ref m_knowing, .ref m_firsts, .int (nI q_people), .ref m_secrets, .ref m_tried, .ref m_lanes, .ref m_lengths, .ref m_cells]))]) ?_ rfl rfl rfl
            refine ww_iconst (v := 0) C dX12_readAct_33 rfl ?_
            refine ww_istore_n (lv' := [(2, .int 0), (1, .int (nI nn_5)), (0, .ref hm)]) C dX12_readAct_34 rfl rfl rfl ?_
            refine ww_aload_n C dX12_readAct_35 2 rfl rfl ?_
            refine ww_get C fg_X12_157 6 rfl rfl dX12_readAct_36 ?_
            refine ww_if_ne_t (tgt := 102) C dX12_readAct_39 (by decide) (by decide) ?_
            refine ww_aload_n C dX12_readAct_102 2 rfl rfl ?_
            refine ww_cv (wr := [(m_actMany, .inl (E.2.1 1, 25, .inl f_actMany)), (m_actOf, .inl (E.2.1 1, 800, .inl f_actOf)), (m_whom, .inl (E.2.1 1, 800, .inl f_whom)), (m_ends, .inl (E.2.1 1, 15, .inl f_ends)), (m_letters, .inl (E.2.1 1, 50, .inl f_letters))]) (k' := 0) (n' := 0) C (run_V (As := []) (rest := []) C (r_next X.2.1 E ro hm m_manys m_reals m_factsOf m_possible q_undos q_models m_tape q_taped q_fault 2 (nI q_place) q_spot (nI q_place) q_token q_value m_ends m_letters m_actOf m_whom m_actMany m_tokens m_afters m_afterOf (nI (q_counted + 1)) m_pile m_caseMany m_happen m_hasIf m_becomes m_goneOf m_heard m_pairs m_heaps q_rounds q_heapMany m_led m_newAt m_knowing m_firsts q_people m_secrets m_tried m_lanes m_lengths m_cells f_tape hb_tape (by omega) (by omega) (by omega) (by omega) (by omega)) mi_X12_next wl_X12_201 rfl 0 12 rfl rfl rfl rfl rfl dX12_readAct_103) (roK hro) [6, 3] [0, 1, 2, 4, 5] rfl rfl rfl rfl (fun uz hw => ?_)
            rcases hw with hw | hw | hw
            · refine an1 hw ?_
              clear hw
              intro he_378 hw
              have h_377 := hw
              clear hw
              subst he_378
              refine ww_eq (ws' := [(m_actMany, .inl (E.2.1 1, 25, .inl f_actMany)), (m_actOf, .inl (E.2.1 1, 800, .inl f_actOf)), (m_whom, .inl (E.2.1 1, 800, .inl f_whom)), (m_ends, .inl (E.2.1 1, 15, .inl f_ends)), (m_letters, .inl (E.2.1 1, 50, .inl f_letters)), (hm, .inr (12, [.ref m_manys, .ref m_reals, .ref m_factsOf, .ref m_possible, .int (nI q_undos), .int (nI q_models), .ref m_tape, .int (nI q_taped), .int q_fault, .int 2, .int (nI q_place), .int (nI q_spot), .int (nI q_place), .int (nI q_token), .int (nI q_value), .ref m_ends, .ref m_letters, .ref m_actOf, .ref m_whom, .ref m_actMany, .ref m_tokens, .ref m_afters, .ref m_afterOf, .int (nI (q_counted + 1)), .ref m_pile, .ref m_caseMany, .ref m_happen, .ref m_hasIf, .ref m_becomes, .ref m_goneOf, .ref m_heard, .ref m_pairs, .ref m_heaps, .int q_rounds, .int q_heapMany, .ref m_led, .ref m_newAt, .ref m_knowing, .ref m_firsts, .int (nI q_people), .ref m_secrets, .ref m_tried, .ref m_lanes, .ref m_lengths, .ref m_cells])), (m_tape, .inl (E.2.1 1, 160, .inl f_tape))]) ?_ rfl rfl rfl
              refine ww_aload_n C dX12_readAct_106 2 rfl rfl ?_
              refine ww_get C fg_X12_157 5 rfl rfl dX12_readAct_107 ?_
              refine ww_if_ne_t (tgt := 150) C dX12_readAct_110 (by decide) (by decide) ?_
              exact ww_vret (u := [(hm, .inr (12, [.ref m_manys, .ref m_reals, .ref m_factsOf, .ref m_possible, .int (nI q_undos), .int (nI q_models), .ref m_tape, .int (nI q_taped), .int q_fault, .int 2, .int (nI q_place), .int (nI q_spot), .int (nI q_place), .int (nI q_token), .int (nI q_value), .ref m_ends, .ref m_letters, .ref m_actOf, .ref m_whom, .ref m_actMany, .ref m_tokens, .ref m_afters, .ref m_afterOf, .int (nI (q_counted + 1)), .ref m_pile, .ref m_caseMany, .ref m_happen, .ref m_hasIf, .ref m_becomes, .ref m_goneOf, .ref m_heard, .ref m_pairs, .ref m_heaps, .int q_rounds, .int q_heapMany, .ref m_led, .ref m_newAt, .ref m_knowing, .ref m_firsts, .int (nI q_people), .ref m_secrets, .ref m_tried, .ref m_lanes, .ref m_lengths, .ref m_cells])), (m_tape, .inl (E.2.1 1, 160, .inl f_tape)), (m_ends, .inl (E.2.1 1, 15, .inl f_ends)), (m_letters, .inl (E.2.1 1, 50, .inl f_letters)), (m_actMany, .inl (E.2.1 1, 25, .inl f_actMany)), (m_actOf, .inl (E.2.1 1, 800, .inl f_actOf)), (m_whom, .inl (E.2.1 1, 800, .inl f_whom))]) C hT [5, 6, 3, 4, 0, 1, 2] rfl rfl rfl rfl dX12_readAct_150 (Or.inr ⟨q_spot, q_place, q_token, q_value, (q_counted + 1), 2, q_place, rfl, (by first | assumption | omega | decide), (by first | assumption | omega | decide), (by first | assumption | omega | decide), (by first | assumption | omega | decide), (by omega), (by omega), (by omega), (by omega), (fun o ho => by have h9 := h_8; exact sg_f1 htR (by omega))⟩)
            · refine ex4 hw ?_
              clear hw
              intro sp2_379 pl2_380 tk2_381 vl2_382 hw
              refine an7 hw ?_
              clear hw
              intro he_390 h_383 h_384 h_385 h_386 h_387 h_388 hw
              have h_389 := hw
              clear hw
              subst he_390
              omega
            · refine ex4 hw ?_
              clear hw
              intro sp2_391 pl2_392 tk2_393 vl2_394 hw
              refine an6 hw ?_
              clear hw
              intro he_401 h_395 h_396 h_397 h_398 h_399 hw
              have h_400 := hw
              clear hw
              subst he_401
              omega
          · refine an1 hw ?_
            clear hw
            intro he_375 hw
            have h_374 := hw
            clear hw
            subst he_375
            omega
    · refine an2 hw ?_
      clear hw
      intro he_79 h_77 hw
      have h_78 := hw
      clear hw
      subst he_79
      refine ww_eq (ws' := [(m_actMany, .inl (E.2.1 1, 25, .inl f_actMany)), (m_actOf, .inl (E.2.1 1, 800, .inl f_actOf)), (m_whom, .inl (E.2.1 1, 800, .inl f_whom)), (m_tape, .inl (E.2.1 1, 160, .inl f_tape)), (m_ends, .inl (E.2.1 1, 15, .inl f_ends)), (m_letters, .inl (E.2.1 1, 50, .inl f_letters)), (hm, .inr (12, [.ref m_manys, .ref m_reals, .ref m_factsOf, .ref m_possible, .int (nI q_undos), .int (nI q_models), .ref m_tape, .int (nI q_taped), .int q_fault, .int 5, .int (nI q_place), .int (nI q_spot), .int (nI q_place), .int (nI q_token), .int (nI q_value), .ref m_ends, .ref m_letters, .ref m_actOf, .ref m_whom, .ref m_actMany, .ref m_tokens, .ref m_afters, .ref m_afterOf, .int (nI (q_counted + 1)), .ref m_pile, .ref m_caseMany, .ref m_happen, .ref m_hasIf, .ref m_becomes, .ref m_goneOf, .ref m_heard, .ref m_pairs, .ref m_heaps, .int q_rounds, .int q_heapMany, .ref m_led, .ref m_newAt, .ref m_knowing, .ref m_firsts, .int (nI q_people), .ref m_secrets, .ref m_tried, .ref m_lanes, .ref m_lengths, .ref m_cells]))]) ?_ rfl rfl rfl
      refine ww_aload_n C dX12_readAct_9 1 rfl rfl ?_
      refine ww_get C fg_X12_157 6 rfl rfl dX12_readAct_10 ?_
      refine ww_if_ne_t (tgt := 33) C dX12_readAct_13 (by decide) (by decide) ?_
      refine ww_iconst (v := 0) C dX12_readAct_33 rfl ?_
      refine ww_istore_n (lv' := [(2, .int 0), (1, .int (nI nn_5)), (0, .ref hm)]) C dX12_readAct_34 rfl rfl rfl ?_
      refine ww_aload_n C dX12_readAct_35 2 rfl rfl ?_
      refine ww_get C fg_X12_157 6 rfl rfl dX12_readAct_36 ?_
      refine ww_if_ne_t (tgt := 102) C dX12_readAct_39 (by decide) (by decide) ?_
      refine ww_aload_n C dX12_readAct_102 2 rfl rfl ?_
      refine ww_cv (wr := [(m_actMany, .inl (E.2.1 1, 25, .inl f_actMany)), (m_actOf, .inl (E.2.1 1, 800, .inl f_actOf)), (m_whom, .inl (E.2.1 1, 800, .inl f_whom)), (m_ends, .inl (E.2.1 1, 15, .inl f_ends)), (m_letters, .inl (E.2.1 1, 50, .inl f_letters))]) (k' := 0) (n' := 0) C (run_V (As := []) (rest := []) C (r_next X.2.1 E ro hm m_manys m_reals m_factsOf m_possible q_undos q_models m_tape q_taped q_fault 5 (nI q_place) q_spot (nI q_place) q_token q_value m_ends m_letters m_actOf m_whom m_actMany m_tokens m_afters m_afterOf (nI (q_counted + 1)) m_pile m_caseMany m_happen m_hasIf m_becomes m_goneOf m_heard m_pairs m_heaps q_rounds q_heapMany m_led m_newAt m_knowing m_firsts q_people m_secrets m_tried m_lanes m_lengths m_cells f_tape hb_tape (by omega) (by omega) (by omega) (by omega) (by omega)) mi_X12_next wl_X12_201 rfl 0 12 rfl rfl rfl rfl rfl dX12_readAct_103) (roK hro) [6, 3] [0, 1, 2, 4, 5] rfl rfl rfl rfl (fun uz hw => ?_)
      rcases hw with hw | hw | hw
      · refine an1 hw ?_
        clear hw
        intro he_404 hw
        have h_403 := hw
        clear hw
        subst he_404
        refine ww_eq (ws' := [(m_actMany, .inl (E.2.1 1, 25, .inl f_actMany)), (m_actOf, .inl (E.2.1 1, 800, .inl f_actOf)), (m_whom, .inl (E.2.1 1, 800, .inl f_whom)), (m_ends, .inl (E.2.1 1, 15, .inl f_ends)), (m_letters, .inl (E.2.1 1, 50, .inl f_letters)), (hm, .inr (12, [.ref m_manys, .ref m_reals, .ref m_factsOf, .ref m_possible, .int (nI q_undos), .int (nI q_models), .ref m_tape, .int (nI q_taped), .int q_fault, .int 5, .int (nI q_place), .int (nI q_spot), .int (nI q_place), .int (nI q_token), .int (nI q_value), .ref m_ends, .ref m_letters, .ref m_actOf, .ref m_whom, .ref m_actMany, .ref m_tokens, .ref m_afters, .ref m_afterOf, .int (nI (q_counted + 1)), .ref m_pile, .ref m_caseMany, .ref m_happen, .ref m_hasIf, .ref m_becomes, .ref m_goneOf, .ref m_heard, .ref m_pairs, .ref m_heaps, .int q_rounds, .int q_heapMany, .ref m_led, .ref m_newAt, .ref m_knowing, .ref m_firsts, .int (nI q_people), .ref m_secrets, .ref m_tried, .ref m_lanes, .ref m_lengths, .ref m_cells])), (m_tape, .inl (E.2.1 1, 160, .inl f_tape))]) ?_ rfl rfl rfl
        refine ww_aload_n C dX12_readAct_106 2 rfl rfl ?_
        refine ww_get C fg_X12_157 5 rfl rfl dX12_readAct_107 ?_
        refine ww_if_ne_t (tgt := 150) C dX12_readAct_110 (by decide) (by decide) ?_
        exact ww_vret (u := [(hm, .inr (12, [.ref m_manys, .ref m_reals, .ref m_factsOf, .ref m_possible, .int (nI q_undos), .int (nI q_models), .ref m_tape, .int (nI q_taped), .int q_fault, .int 5, .int (nI q_place), .int (nI q_spot), .int (nI q_place), .int (nI q_token), .int (nI q_value), .ref m_ends, .ref m_letters, .ref m_actOf, .ref m_whom, .ref m_actMany, .ref m_tokens, .ref m_afters, .ref m_afterOf, .int (nI (q_counted + 1)), .ref m_pile, .ref m_caseMany, .ref m_happen, .ref m_hasIf, .ref m_becomes, .ref m_goneOf, .ref m_heard, .ref m_pairs, .ref m_heaps, .int q_rounds, .int q_heapMany, .ref m_led, .ref m_newAt, .ref m_knowing, .ref m_firsts, .int (nI q_people), .ref m_secrets, .ref m_tried, .ref m_lanes, .ref m_lengths, .ref m_cells])), (m_tape, .inl (E.2.1 1, 160, .inl f_tape)), (m_ends, .inl (E.2.1 1, 15, .inl f_ends)), (m_letters, .inl (E.2.1 1, 50, .inl f_letters)), (m_actMany, .inl (E.2.1 1, 25, .inl f_actMany)), (m_actOf, .inl (E.2.1 1, 800, .inl f_actOf)), (m_whom, .inl (E.2.1 1, 800, .inl f_whom))]) C hT [5, 6, 3, 4, 0, 1, 2] rfl rfl rfl rfl dX12_readAct_150 (Or.inr ⟨q_spot, q_place, q_token, q_value, (q_counted + 1), 5, q_place, rfl, (by first | assumption | omega | decide), (by first | assumption | omega | decide), (by first | assumption | omega | decide), (by first | assumption | omega | decide), (by omega), (by omega), (by omega), (by omega), (fun o ho => by have h9 := h_8; exact sg_f1 htR (by omega))⟩)
      · refine ex4 hw ?_
        clear hw
        intro sp2_405 pl2_406 tk2_407 vl2_408 hw
        refine an7 hw ?_
        clear hw
        intro he_416 h_409 h_410 h_411 h_412 h_413 h_414 hw
        have h_415 := hw
        clear hw
        subst he_416
        omega
      · refine ex4 hw ?_
        clear hw
        intro sp2_417 pl2_418 tk2_419 vl2_420 hw
        refine an6 hw ?_
        clear hw
        intro he_427 h_421 h_422 h_423 h_424 h_425 hw
        have h_426 := hw
        clear hw
        subst he_427
        omega
end
section
theorem dX12_readAfters_0 : decode cX12_readAfters 0 = .ok (.aload_n 0, 1) := dl_42 (by decide +kernel)
theorem dX12_readAfters_1 : decode cX12_readAfters 1 = .ok (.getfield 157, 3) := dl_180 (by decide +kernel)
theorem dX12_readAfters_4 : decode cX12_readAfters 4 = .ok (.ifCond .ne 116, 3) := dl_154 (by decide +kernel)
theorem dX12_readAfters_120 : decode cX12_readAfters 120 = .ok (.return_, 1) := dl_177 (by decide +kernel)
set_option maxRecDepth 100000 in
set_option maxHeartbeats 4000000 in
theorem r_readAftersB (l : Launch) (E : EV) (ro : va_W) (hm : Nat) (m_manys : Nat) (m_reals : Nat) (m_factsOf : Nat) (m_possible : Nat) (q_undos : Nat) (q_models : Nat) (m_tape : Nat) (q_taped : Nat) (q_fault : Int32) (q_wrongAt : Int32) (q_spot : Int32) (q_place : Int32) (q_token : Int32) (q_value : Int32) (m_ends : Nat) (m_letters : Nat) (m_actOf : Nat) (m_whom : Nat) (m_actMany : Nat) (m_tokens : Nat) (m_afters : Nat) (m_afterOf : Nat) (q_counted : Int32) (m_pile : Nat) (m_caseMany : Nat) (m_happen : Nat) (m_hasIf : Nat) (m_becomes : Nat) (m_goneOf : Nat) (m_heard : Nat) (m_pairs : Nat) (m_heaps : Nat) (q_rounds : Int32) (q_heapMany : Int32) (m_led : Nat) (m_newAt : Nat) (m_knowing : Nat) (m_firsts : Nat) (q_people : Nat) (m_secrets : Nat) (m_tried : Nat) (m_lanes : Nat) (m_lengths : Nat) (m_cells : Nat) (f_tape : Nat → Int32) (f_ends : Nat → Int32) (f_letters : Nat → Int32) (f_afters : Nat → Int32) (f_afterOf : Nat → Int32) (hb_tape : NB 160 255 f_tape) (hb_ends : EN f_ends) (hb_letters : LTR f_letters) (hb_afters : NB 9 2 f_afters) (hb_afterOf : NB 18 3 f_afterOf) : CT l yX12_readAfters (Cond.code yX12_readAfters cX12_readAfters 1 none :: TB) ({ frames := 0, cells := 0, slots := 0, locals := 0 }) E ro [.ref hm] [(hm, .inr (12, [.ref m_manys, .ref m_reals, .ref m_factsOf, .ref m_possible, .int (nI q_undos), .int (nI q_models), .ref m_tape, .int (nI q_taped), .int q_fault, .int 1, .int q_wrongAt, .int q_spot, .int q_place, .int q_token, .int q_value, .ref m_ends, .ref m_letters, .ref m_actOf, .ref m_whom, .ref m_actMany, .ref m_tokens, .ref m_afters, .ref m_afterOf, .int q_counted, .ref m_pile, .ref m_caseMany, .ref m_happen, .ref m_hasIf, .ref m_becomes, .ref m_goneOf, .ref m_heard, .ref m_pairs, .ref m_heaps, .int q_rounds, .int q_heapMany, .ref m_led, .ref m_newAt, .ref m_knowing, .ref m_firsts, .int (nI q_people), .ref m_secrets, .ref m_tried, .ref m_lanes, .ref m_lengths, .ref m_cells])), (m_tape, .inl (E.2.1 1, 160, .inl f_tape)), (m_ends, .inl (E.2.1 1, 15, .inl f_ends)), (m_letters, .inl (E.2.1 1, 50, .inl f_letters)), (m_afters, .inl (E.2.1 1, 9, .inl f_afters)), (m_afterOf, .inl (E.2.1 1, 18, .inl f_afterOf))] (Qv E (fun uz => (uz = [(hm, .inr (12, [.ref m_manys, .ref m_reals, .ref m_factsOf, .ref m_possible, .int (nI q_undos), .int (nI q_models), .ref m_tape, .int (nI q_taped), .int q_fault, .int 1, .int q_wrongAt, .int q_spot, .int q_place, .int q_token, .int q_value, .ref m_ends, .ref m_letters, .ref m_actOf, .ref m_whom, .ref m_actMany, .ref m_tokens, .ref m_afters, .ref m_afterOf, .int q_counted, .ref m_pile, .ref m_caseMany, .ref m_happen, .ref m_hasIf, .ref m_becomes, .ref m_goneOf, .ref m_heard, .ref m_pairs, .ref m_heaps, .int q_rounds, .int q_heapMany, .ref m_led, .ref m_newAt, .ref m_knowing, .ref m_firsts, .int (nI q_people), .ref m_secrets, .ref m_tried, .ref m_lanes, .ref m_lengths, .ref m_cells])), (m_tape, .inl (E.2.1 1, 160, .inl f_tape)), (m_ends, .inl (E.2.1 1, 15, .inl f_ends)), (m_letters, .inl (E.2.1 1, 50, .inl f_letters)), (m_afters, .inl (E.2.1 1, 9, .inl f_afters)), (m_afterOf, .inl (E.2.1 1, 18, .inl f_afterOf))]))) 0 0 := by
  refine ct_of rfl rfl ?_
  intro X C hT hin hro
  show WW X 1 E 0 [(0, .ref hm)] [] [(hm, .inr (12, [.ref m_manys, .ref m_reals, .ref m_factsOf, .ref m_possible, .int (nI q_undos), .int (nI q_models), .ref m_tape, .int (nI q_taped), .int q_fault, .int 1, .int q_wrongAt, .int q_spot, .int q_place, .int q_token, .int q_value, .ref m_ends, .ref m_letters, .ref m_actOf, .ref m_whom, .ref m_actMany, .ref m_tokens, .ref m_afters, .ref m_afterOf, .int q_counted, .ref m_pile, .ref m_caseMany, .ref m_happen, .ref m_hasIf, .ref m_becomes, .ref m_goneOf, .ref m_heard, .ref m_pairs, .ref m_heaps, .int q_rounds, .int q_heapMany, .ref m_led, .ref m_newAt, .ref m_knowing, .ref m_firsts, .int (nI q_people), .ref m_secrets, .ref m_tried, .ref m_lanes, .ref m_lengths, .ref m_cells])), (m_tape, .inl (E.2.1 1, 160, .inl f_tape)), (m_ends, .inl (E.2.1 1, 15, .inl f_ends)), (m_letters, .inl (E.2.1 1, 50, .inl f_letters)), (m_afters, .inl (E.2.1 1, 9, .inl f_afters)), (m_afterOf, .inl (E.2.1 1, 18, .inl f_afterOf))] 0 0
  refine ww_aload_n C dX12_readAfters_0 0 rfl rfl ?_
  refine ww_get C fg_X12_157 0 rfl rfl dX12_readAfters_1 ?_
  refine ww_if_ne_t (tgt := 120) C dX12_readAfters_4 (by decide) (by decide) ?_
  exact ww_vret (u := [(hm, .inr (12, [.ref m_manys, .ref m_reals, .ref m_factsOf, .ref m_possible, .int (nI q_undos), .int (nI q_models), .ref m_tape, .int (nI q_taped), .int q_fault, .int 1, .int q_wrongAt, .int q_spot, .int q_place, .int q_token, .int q_value, .ref m_ends, .ref m_letters, .ref m_actOf, .ref m_whom, .ref m_actMany, .ref m_tokens, .ref m_afters, .ref m_afterOf, .int q_counted, .ref m_pile, .ref m_caseMany, .ref m_happen, .ref m_hasIf, .ref m_becomes, .ref m_goneOf, .ref m_heard, .ref m_pairs, .ref m_heaps, .int q_rounds, .int q_heapMany, .ref m_led, .ref m_newAt, .ref m_knowing, .ref m_firsts, .int (nI q_people), .ref m_secrets, .ref m_tried, .ref m_lanes, .ref m_lengths, .ref m_cells])), (m_tape, .inl (E.2.1 1, 160, .inl f_tape)), (m_ends, .inl (E.2.1 1, 15, .inl f_ends)), (m_letters, .inl (E.2.1 1, 50, .inl f_letters)), (m_afters, .inl (E.2.1 1, 9, .inl f_afters)), (m_afterOf, .inl (E.2.1 1, 18, .inl f_afterOf))]) C hT [0, 1, 2, 3, 4, 5] rfl rfl rfl rfl dX12_readAfters_120 (rfl)
theorem dX12_readAfters_7 : decode cX12_readAfters 7 = .ok (.aload_n 0, 1) := dl_42 (by decide +kernel)
theorem dX12_readAfters_8 : decode cX12_readAfters 8 = .ok (.invokevirtual 194, 3) := dl_182 (by decide +kernel)
theorem dX12_readAfters_11 : decode cX12_readAfters 11 = .ok (.bipush 13, 2) := dl_16 (by decide +kernel)
theorem dX12_readAfters_13 : decode cX12_readAfters 13 = .ok (.if_icmp .ne 107, 3) := dl_160 (by decide +kernel)
theorem dX12_readAfters_16 : decode cX12_readAfters 16 = .ok (.aload_n 0, 1) := dl_42 (by decide +kernel)
theorem dX12_readAfters_17 : decode cX12_readAfters 17 = .ok (.getfield 43, 3) := dl_180 (by decide +kernel)
theorem wf_X12_43 : Cond.fieldLink RX12 43 RX12 "afters" "[I" ∈ TB := tbm (tq5 (List.mem_of_getElem? (i := 99) (by decide +kernel))) (by decide +kernel)
theorem fg_X12_43 : FG RX12 43 12 21 := ⟨RX12, TX12, 45, uw_X12, wf_X12_43, rfl, by decide, rfl⟩
theorem dX12_readAfters_20 : decode cX12_readAfters 20 = .ok (.bipush 8, 2) := dl_16 (by decide +kernel)
theorem dX12_readAfters_22 : decode cX12_readAfters 22 = .ok (.iaload, 1) := dl_46 (by decide +kernel)
theorem dX12_readAfters_23 : decode cX12_readAfters 23 = .ok (.iconst 2, 1) := dl_5 (by decide +kernel)
theorem dX12_readAfters_24 : decode cX12_readAfters 24 = .ok (.if_icmp .ne 8, 3) := dl_160 (by decide +kernel)
theorem dX12_readAfters_32 : decode cX12_readAfters 32 = .ok (.aload_n 0, 1) := dl_42 (by decide +kernel)
theorem dX12_readAfters_33 : decode cX12_readAfters 33 = .ok (.invokevirtual 201, 3) := dl_182 (by decide +kernel)
theorem dX12_readAfters_36 : decode cX12_readAfters 36 = .ok (.aload_n 0, 1) := dl_42 (by decide +kernel)
theorem dX12_readAfters_37 : decode cX12_readAfters 37 = .ok (.getfield 157, 3) := dl_180 (by decide +kernel)
theorem dX12_readAfters_40 : decode cX12_readAfters 40 = .ok (.ifCond .ne 16, 3) := dl_154 (by decide +kernel)
theorem dX12_readAfters_43 : decode cX12_readAfters 43 = .ok (.aload_n 0, 1) := dl_42 (by decide +kernel)
theorem dX12_readAfters_44 : decode cX12_readAfters 44 = .ok (.getfield 175, 3) := dl_180 (by decide +kernel)
theorem dX12_readAfters_47 : decode cX12_readAfters 47 = .ok (.iconst 2, 1) := dl_5 (by decide +kernel)
theorem dX12_readAfters_48 : decode cX12_readAfters 48 = .ok (.if_icmp .eq 8, 3) := dl_159 (by decide +kernel)
theorem dX12_readAfters_56 : decode cX12_readAfters 56 = .ok (.aload_n 0, 1) := dl_42 (by decide +kernel)
theorem dX12_readAfters_57 : decode cX12_readAfters 57 = .ok (.getfield 157, 3) := dl_180 (by decide +kernel)
theorem dX12_readAfters_60 : decode cX12_readAfters 60 = .ok (.ifCond .ne 16, 3) := dl_154 (by decide +kernel)
theorem dX12_readAfters_63 : decode cX12_readAfters 63 = .ok (.aload_n 0, 1) := dl_42 (by decide +kernel)
theorem dX12_readAfters_64 : decode cX12_readAfters 64 = .ok (.getfield 172, 3) := dl_180 (by decide +kernel)
theorem fg_X12_172 : FG RX12 172 12 14 := ⟨RX12, TX12, 45, uw_X12, wf_X12_172, rfl, by decide, rfl⟩
theorem dX12_readAfters_67 : decode cX12_readAfters 67 = .ok (.iconst 3, 1) := dl_6 (by decide +kernel)
theorem dX12_readAfters_68 : decode cX12_readAfters 68 = .ok (.if_icmp .le 8, 3) := dl_164 (by decide +kernel)
theorem dX12_readAfters_76 : decode cX12_readAfters 76 = .ok (.aload_n 0, 1) := dl_42 (by decide +kernel)
theorem dX12_readAfters_77 : decode cX12_readAfters 77 = .ok (.getfield 157, 3) := dl_180 (by decide +kernel)
theorem dX12_readAfters_80 : decode cX12_readAfters 80 = .ok (.ifCond .ne 33, 3) := dl_154 (by decide +kernel)
theorem dX12_readAfters_83 : decode cX12_readAfters 83 = .ok (.aload_n 0, 1) := dl_42 (by decide +kernel)
theorem dX12_readAfters_84 : decode cX12_readAfters 84 = .ok (.getfield 46, 3) := dl_180 (by decide +kernel)
theorem wf_X12_46 : Cond.fieldLink RX12 46 RX12 "afterOf" "[I" ∈ TB := tbm (tq5 (List.mem_of_getElem? (i := 100) (by decide +kernel))) (by decide +kernel)
theorem fg_X12_46 : FG RX12 46 12 22 := ⟨RX12, TX12, 45, uw_X12, wf_X12_46, rfl, by decide, rfl⟩
theorem dX12_readAfters_87 : decode cX12_readAfters 87 = .ok (.bipush 16, 2) := dl_16 (by decide +kernel)
theorem dX12_readAfters_89 : decode cX12_readAfters 89 = .ok (.aload_n 0, 1) := dl_42 (by decide +kernel)
theorem dX12_readAfters_90 : decode cX12_readAfters 90 = .ok (.getfield 43, 3) := dl_180 (by decide +kernel)
theorem dX12_readAfters_93 : decode cX12_readAfters 93 = .ok (.bipush 8, 2) := dl_16 (by decide +kernel)
theorem dX12_readAfters_95 : decode cX12_readAfters 95 = .ok (.iaload, 1) := dl_46 (by decide +kernel)
theorem dX12_readAfters_96 : decode cX12_readAfters 96 = .ok (.iadd, 1) := dl_96 (by decide +kernel)
theorem dX12_readAfters_97 : decode cX12_readAfters 97 = .ok (.aload_n 0, 1) := dl_42 (by decide +kernel)
theorem dX12_readAfters_98 : decode cX12_readAfters 98 = .ok (.getfield 172, 3) := dl_180 (by decide +kernel)
theorem dX12_readAfters_101 : decode cX12_readAfters 101 = .ok (.iastore, 1) := dl_79 (by decide +kernel)
theorem dX12_readAfters_102 : decode cX12_readAfters 102 = .ok (.aload_n 0, 1) := dl_42 (by decide +kernel)
theorem dX12_readAfters_103 : decode cX12_readAfters 103 = .ok (.getfield 43, 3) := dl_180 (by decide +kernel)
theorem dX12_readAfters_106 : decode cX12_readAfters 106 = .ok (.bipush 8, 2) := dl_16 (by decide +kernel)
theorem dX12_readAfters_108 : decode cX12_readAfters 108 = .ok (.dup2, 1) := dl_92 (by decide +kernel)
theorem dX12_readAfters_109 : decode cX12_readAfters 109 = .ok (.iaload, 1) := dl_46 (by decide +kernel)
theorem dX12_readAfters_110 : decode cX12_readAfters 110 = .ok (.iconst 1, 1) := dl_4 (by decide +kernel)
theorem dX12_readAfters_111 : decode cX12_readAfters 111 = .ok (.iadd, 1) := dl_96 (by decide +kernel)
theorem dX12_readAfters_112 : decode cX12_readAfters 112 = .ok (.iastore, 1) := dl_79 (by decide +kernel)
theorem dX12_readAfters_113 : decode cX12_readAfters 113 = .ok (.aload_n 0, 1) := dl_42 (by decide +kernel)
theorem dX12_readAfters_114 : decode cX12_readAfters 114 = .ok (.invokevirtual 201, 3) := dl_182 (by decide +kernel)
theorem dX12_readAfters_117 : decode cX12_readAfters 117 = .ok (.goto (-117), 3) := dl_167 (by decide +kernel)
theorem dX12_readAfters_71 : decode cX12_readAfters 71 = .ok (.aload_n 0, 1) := dl_42 (by decide +kernel)
theorem dX12_readAfters_72 : decode cX12_readAfters 72 = .ok (.iconst 3, 1) := dl_6 (by decide +kernel)
theorem dX12_readAfters_73 : decode cX12_readAfters 73 = .ok (.invokevirtual 186, 3) := dl_182 (by decide +kernel)
theorem dX12_readAfters_51 : decode cX12_readAfters 51 = .ok (.aload_n 0, 1) := dl_42 (by decide +kernel)
theorem dX12_readAfters_52 : decode cX12_readAfters 52 = .ok (.iconst 2, 1) := dl_5 (by decide +kernel)
theorem dX12_readAfters_53 : decode cX12_readAfters 53 = .ok (.invokevirtual 186, 3) := dl_182 (by decide +kernel)
theorem dX12_readAfters_27 : decode cX12_readAfters 27 = .ok (.aload_n 0, 1) := dl_42 (by decide +kernel)
theorem dX12_readAfters_28 : decode cX12_readAfters 28 = .ok (.iconst 4, 1) := dl_7 (by decide +kernel)
theorem dX12_readAfters_29 : decode cX12_readAfters 29 = .ok (.invokevirtual 186, 3) := dl_182 (by decide +kernel)
set_option maxRecDepth 100000 in
set_option maxHeartbeats 4000000 in
theorem r_readAfters (l : Launch) (E : EV) (ro : va_W) (hm : Nat) (m_manys : Nat) (m_reals : Nat) (m_factsOf : Nat) (m_possible : Nat) (q_undos : Nat) (q_models : Nat) (m_tape : Nat) (q_taped : Nat) (q_fault : Int32) (q_wrongAt : Int32) (q_spot : Nat) (q_place : Nat) (q_token : Nat) (q_value : Nat) (m_ends : Nat) (m_letters : Nat) (m_actOf : Nat) (m_whom : Nat) (m_actMany : Nat) (m_tokens : Nat) (m_afters : Nat) (m_afterOf : Nat) (q_counted : Int32) (m_pile : Nat) (m_caseMany : Nat) (m_happen : Nat) (m_hasIf : Nat) (m_becomes : Nat) (m_goneOf : Nat) (m_heard : Nat) (m_pairs : Nat) (m_heaps : Nat) (q_rounds : Int32) (q_heapMany : Int32) (m_led : Nat) (m_newAt : Nat) (m_knowing : Nat) (m_firsts : Nat) (q_people : Nat) (m_secrets : Nat) (m_tried : Nat) (m_lanes : Nat) (m_lengths : Nat) (m_cells : Nat) (f_tape : Nat → Int32) (f_ends : Nat → Int32) (f_letters : Nat → Int32) (f_afters : Nat → Int32) (f_afterOf : Nat → Int32) (p_ : Nat) (hb_tape : NB 160 255 f_tape) (hb_ends : EN f_ends) (hb_letters : LTR f_letters) (hb_afters : NB 9 2 f_afters) (hb_afterOf : NB 18 3 f_afterOf) (hq_taped : q_taped ≤ 160) (hq_spot : q_spot ≤ q_taped) (hq_place : q_place ≤ q_spot) (hq_token : q_token ≤ 2) (hq_value : q_value ≤ 9) (htR : TK (cz f_tape q_taped) p_ q_place q_token q_spot) (haf0 : cN f_afters 8 = 0) : CT l yX12_readAfters (Cond.code yX12_readAfters cX12_readAfters 1 none :: TB) ({ frames := 2, cells := 0, slots := 0, locals := 46 }) E ro [.ref hm] [(hm, .inr (12, [.ref m_manys, .ref m_reals, .ref m_factsOf, .ref m_possible, .int (nI q_undos), .int (nI q_models), .ref m_tape, .int (nI q_taped), .int q_fault, .int 0, .int q_wrongAt, .int (nI q_spot), .int (nI q_place), .int (nI q_token), .int (nI q_value), .ref m_ends, .ref m_letters, .ref m_actOf, .ref m_whom, .ref m_actMany, .ref m_tokens, .ref m_afters, .ref m_afterOf, .int q_counted, .ref m_pile, .ref m_caseMany, .ref m_happen, .ref m_hasIf, .ref m_becomes, .ref m_goneOf, .ref m_heard, .ref m_pairs, .ref m_heaps, .int q_rounds, .int q_heapMany, .ref m_led, .ref m_newAt, .ref m_knowing, .ref m_firsts, .int (nI q_people), .ref m_secrets, .ref m_tried, .ref m_lanes, .ref m_lengths, .ref m_cells])), (m_tape, .inl (E.2.1 1, 160, .inl f_tape)), (m_ends, .inl (E.2.1 1, 15, .inl f_ends)), (m_letters, .inl (E.2.1 1, 50, .inl f_letters)), (m_afters, .inl (E.2.1 1, 9, .inl f_afters)), (m_afterOf, .inl (E.2.1 1, 18, .inl f_afterOf))] (Qv E (fun uz => (∃ (sp2 : Nat) (pl2 : Nat) (tk2 : Nat) (vl2 : Nat) (p2 : Nat) (v_ : Nat) (w_ : Nat) (wa_ : Int32) (f_aftersz : Nat → Int32) (f_afterOfz : Nat → Int32), uz = [(hm, .inr (12, [.ref m_manys, .ref m_reals, .ref m_factsOf, .ref m_possible, .int (nI q_undos), .int (nI q_models), .ref m_tape, .int (nI q_taped), .int q_fault, .int 0, .int wa_, .int (nI sp2), .int (nI pl2), .int (nI tk2), .int (nI vl2), .ref m_ends, .ref m_letters, .ref m_actOf, .ref m_whom, .ref m_actMany, .ref m_tokens, .ref m_afters, .ref m_afterOf, .int q_counted, .ref m_pile, .ref m_caseMany, .ref m_happen, .ref m_hasIf, .ref m_becomes, .ref m_goneOf, .ref m_heard, .ref m_pairs, .ref m_heaps, .int q_rounds, .int q_heapMany, .ref m_led, .ref m_newAt, .ref m_knowing, .ref m_firsts, .int (nI q_people), .ref m_secrets, .ref m_tried, .ref m_lanes, .ref m_lengths, .ref m_cells])), (m_tape, .inl (E.2.1 1, 160, .inl f_tape)), (m_ends, .inl (E.2.1 1, 15, .inl f_ends)), (m_letters, .inl (E.2.1 1, 50, .inl f_letters)), (m_afters, .inl (E.2.1 1, 9, .inl f_aftersz)), (m_afterOf, .inl (E.2.1 1, 18, .inl f_afterOfz))] ∧ (pl2 ≤ sp2) ∧ (sp2 ≤ q_taped) ∧ (tk2 ≤ 2) ∧ (vl2 ≤ 9) ∧ (NB 9 2 f_aftersz) ∧ (NB 18 3 f_afterOfz) ∧ (KP 8 f_afters f_aftersz) ∧ (KP 16 f_afterOf f_afterOfz) ∧ (TK (cz f_tape q_taped) p2 pl2 tk2 sp2) ∧ (afC (cz f_tape q_taped) 3 p_ 0 0 0 = .inr (p2, cN f_aftersz 8, v_, w_)) ∧ (AO (cN f_aftersz 8) f_afterOfz v_ w_)) ∨ (∃ (sp2 : Nat) (pl2 : Nat) (tk2 : Nat) (vl2 : Nat) (wr2 : Nat) (wa2 : Nat) (f_aftersz : Nat → Int32) (f_afterOfz : Nat → Int32), uz = [(hm, .inr (12, [.ref m_manys, .ref m_reals, .ref m_factsOf, .ref m_possible, .int (nI q_undos), .int (nI q_models), .ref m_tape, .int (nI q_taped), .int q_fault, .int (nI wr2), .int (nI wa2), .int (nI sp2), .int (nI pl2), .int (nI tk2), .int (nI vl2), .ref m_ends, .ref m_letters, .ref m_actOf, .ref m_whom, .ref m_actMany, .ref m_tokens, .ref m_afters, .ref m_afterOf, .int q_counted, .ref m_pile, .ref m_caseMany, .ref m_happen, .ref m_hasIf, .ref m_becomes, .ref m_goneOf, .ref m_heard, .ref m_pairs, .ref m_heaps, .int q_rounds, .int q_heapMany, .ref m_led, .ref m_newAt, .ref m_knowing, .ref m_firsts, .int (nI q_people), .ref m_secrets, .ref m_tried, .ref m_lanes, .ref m_lengths, .ref m_cells])), (m_tape, .inl (E.2.1 1, 160, .inl f_tape)), (m_ends, .inl (E.2.1 1, 15, .inl f_ends)), (m_letters, .inl (E.2.1 1, 50, .inl f_letters)), (m_afters, .inl (E.2.1 1, 9, .inl f_aftersz)), (m_afterOf, .inl (E.2.1 1, 18, .inl f_afterOfz))] ∧ (pl2 ≤ sp2) ∧ (sp2 ≤ q_taped) ∧ (tk2 ≤ 2) ∧ (vl2 ≤ 9) ∧ (NB 9 2 f_aftersz) ∧ (NB 18 3 f_afterOfz) ∧ (KP 8 f_afters f_aftersz) ∧ (KP 16 f_afterOf f_afterOfz) ∧ (wr2 ≤ 5) ∧ (0 < wr2) ∧ (afC (cz f_tape q_taped) 3 p_ 0 0 0 = .inl wa2) ∧ (wa2 ≤ 160)))) 0 0 := by
  refine ct_of rfl rfl ?_
  intro X C hT hin hro
  show WW X 1 E 0 [(0, .ref hm)] [] [(hm, .inr (12, [.ref m_manys, .ref m_reals, .ref m_factsOf, .ref m_possible, .int (nI q_undos), .int (nI q_models), .ref m_tape, .int (nI q_taped), .int q_fault, .int 0, .int q_wrongAt, .int (nI q_spot), .int (nI q_place), .int (nI q_token), .int (nI q_value), .ref m_ends, .ref m_letters, .ref m_actOf, .ref m_whom, .ref m_actMany, .ref m_tokens, .ref m_afters, .ref m_afterOf, .int q_counted, .ref m_pile, .ref m_caseMany, .ref m_happen, .ref m_hasIf, .ref m_becomes, .ref m_goneOf, .ref m_heard, .ref m_pairs, .ref m_heaps, .int q_rounds, .int q_heapMany, .ref m_led, .ref m_newAt, .ref m_knowing, .ref m_firsts, .int (nI q_people), .ref m_secrets, .ref m_tried, .ref m_lanes, .ref m_lengths, .ref m_cells])), (m_tape, .inl (E.2.1 1, 160, .inl f_tape)), (m_ends, .inl (E.2.1 1, 15, .inl f_ends)), (m_letters, .inl (E.2.1 1, 50, .inl f_letters)), (m_afters, .inl (E.2.1 1, 9, .inl f_afters)), (m_afterOf, .inl (E.2.1 1, 18, .inl f_afterOf))] 0 0
  have loop_0 : ∀ (fu : Nat) (wr1 : Nat) (sp1 : Nat) (pl1 : Nat) (tk1 : Nat) (vl1 : Nat) (p1 : Nat) (v1 : Nat) (w1 : Nat) (wa1 : Int32) (g_af : Nat → Int32) (g_ao : Nat → Int32), (wr1 ≤ 5) → (pl1 ≤ sp1) → (sp1 ≤ q_taped) → (tk1 ≤ 2) → (vl1 ≤ 9) → (wr1 = 0 → TK (cz f_tape q_taped) p1 pl1 tk1 sp1 ∧ afC (cz f_tape q_taped) 3 p_ 0 0 0 = afC (cz f_tape q_taped) (3 - (cN g_af 8)) p1 (cN g_af 8) v1 w1 ∧ AO (cN g_af 8) g_ao v1 w1) → (0 < wr1 → ∃ l : Nat, wa1 = nI l ∧ l ≤ 160 ∧ afC (cz f_tape q_taped) 3 p_ 0 0 0 = .inl l) → (KP 8 f_afters g_af) → (KP 16 f_afterOf g_ao) → (NB 9 2 g_af) → (NB 18 3 g_ao) → (8 - cN g_af 8) - 6 * min wr1 1 < fu → WW X 1 E 0 [(0, .ref hm)] [] [(hm, .inr (12, [.ref m_manys, .ref m_reals, .ref m_factsOf, .ref m_possible, .int (nI q_undos), .int (nI q_models), .ref m_tape, .int (nI q_taped), .int q_fault, .int (nI wr1), .int wa1, .int (nI sp1), .int (nI pl1), .int (nI tk1), .int (nI vl1), .ref m_ends, .ref m_letters, .ref m_actOf, .ref m_whom, .ref m_actMany, .ref m_tokens, .ref m_afters, .ref m_afterOf, .int q_counted, .ref m_pile, .ref m_caseMany, .ref m_happen, .ref m_hasIf, .ref m_becomes, .ref m_goneOf, .ref m_heard, .ref m_pairs, .ref m_heaps, .int q_rounds, .int q_heapMany, .ref m_led, .ref m_newAt, .ref m_knowing, .ref m_firsts, .int (nI q_people), .ref m_secrets, .ref m_tried, .ref m_lanes, .ref m_lengths, .ref m_cells])), (m_tape, .inl (E.2.1 1, 160, .inl f_tape)), (m_ends, .inl (E.2.1 1, 15, .inl f_ends)), (m_letters, .inl (E.2.1 1, 50, .inl f_letters)), (m_afters, .inl (E.2.1 1, 9, .inl g_af)), (m_afterOf, .inl (E.2.1 1, 18, .inl g_ao))] 0 0 := by
    intro fu
    induction fu with
    | zero => intro wr1 sp1 pl1 tk1 vl1 p1 v1 w1 wa1 g_af g_ao hwr1 hpl1 hsp1 htk1 hvl1 hgo hbd hka hko hnb_m_afters_0 hnb_m_afterOf_0 hmeas; exact absurd hmeas (Nat.not_lt_zero _)
    | succ fu ih_0 =>
      intro wr1 sp1 pl1 tk1 vl1 p1 v1 w1 wa1 g_af g_ao hwr1 hpl1 hsp1 htk1 hvl1 hgo hbd hka hko hnb_m_afters_0 hnb_m_afterOf_0 hmeas
      refine ww_aload_n C dX12_readAfters_0 0 rfl rfl ?_
      have hb8_k_1 := (hnb_m_afters_0 8 (by omega)).2
      refine ww_get C fg_X12_157 0 rfl rfl dX12_readAfters_1 ?_
      refine ww_if_ne (tgt := 120) C dX12_readAfters_4 (by decide) (fun c_2 => ?_) (fun c_2 => ?_)
      · have zc_2 : ((wr1 : Nat) : Int) ≠ 0 := i_ne (nI_toInt (n := wr1) (by omega)) rfl c_2
        obtain ⟨l_, rfl, hl_, hc_⟩ := hbd (by omega)
        refine ww_eq (ws' := [(hm, .inr (12, [.ref m_manys, .ref m_reals, .ref m_factsOf, .ref m_possible, .int (nI q_undos), .int (nI q_models), .ref m_tape, .int (nI q_taped), .int q_fault, .int (nI wr1), .int (nI l_), .int (nI sp1), .int (nI pl1), .int (nI tk1), .int (nI vl1), .ref m_ends, .ref m_letters, .ref m_actOf, .ref m_whom, .ref m_actMany, .ref m_tokens, .ref m_afters, .ref m_afterOf, .int q_counted, .ref m_pile, .ref m_caseMany, .ref m_happen, .ref m_hasIf, .ref m_becomes, .ref m_goneOf, .ref m_heard, .ref m_pairs, .ref m_heaps, .int q_rounds, .int q_heapMany, .ref m_led, .ref m_newAt, .ref m_knowing, .ref m_firsts, .int (nI q_people), .ref m_secrets, .ref m_tried, .ref m_lanes, .ref m_lengths, .ref m_cells])), (m_tape, .inl (E.2.1 1, 160, .inl f_tape)), (m_ends, .inl (E.2.1 1, 15, .inl f_ends)), (m_letters, .inl (E.2.1 1, 50, .inl f_letters)), (m_afters, .inl (E.2.1 1, 9, .inl g_af)), (m_afterOf, .inl (E.2.1 1, 18, .inl g_ao))]) ?_ rfl rfl rfl
        exact ww_vret (u := [(hm, .inr (12, [.ref m_manys, .ref m_reals, .ref m_factsOf, .ref m_possible, .int (nI q_undos), .int (nI q_models), .ref m_tape, .int (nI q_taped), .int q_fault, .int (nI wr1), .int (nI l_), .int (nI sp1), .int (nI pl1), .int (nI tk1), .int (nI vl1), .ref m_ends, .ref m_letters, .ref m_actOf, .ref m_whom, .ref m_actMany, .ref m_tokens, .ref m_afters, .ref m_afterOf, .int q_counted, .ref m_pile, .ref m_caseMany, .ref m_happen, .ref m_hasIf, .ref m_becomes, .ref m_goneOf, .ref m_heard, .ref m_pairs, .ref m_heaps, .int q_rounds, .int q_heapMany, .ref m_led, .ref m_newAt, .ref m_knowing, .ref m_firsts, .int (nI q_people), .ref m_secrets, .ref m_tried, .ref m_lanes, .ref m_lengths, .ref m_cells])), (m_tape, .inl (E.2.1 1, 160, .inl f_tape)), (m_ends, .inl (E.2.1 1, 15, .inl f_ends)), (m_letters, .inl (E.2.1 1, 50, .inl f_letters)), (m_afters, .inl (E.2.1 1, 9, .inl g_af)), (m_afterOf, .inl (E.2.1 1, 18, .inl g_ao))]) C hT [0, 1, 2, 3, 4, 5] rfl rfl rfl rfl dX12_readAfters_120 (Or.inr ⟨sp1, pl1, tk1, vl1, wr1, l_, g_af, g_ao, rfl, (by first | assumption | omega | decide), (by first | assumption | omega | decide), (by first | assumption | omega | decide), (by first | assumption | omega | decide), hnb_m_afters_0, hnb_m_afterOf_0, hka, hko, (by omega), (by omega), hc_, hl_⟩)
      · have zc_2 : ((wr1 : Nat) : Int) = 0 := i_eq (nI_toInt (n := wr1) (by omega)) rfl c_2
        have hw0 : wr1 = 0 := by omega
        subst hw0
        obtain ⟨hgo_1, hgo_2, hgo_3⟩ := hgo rfl
        refine ww_eq (ws' := [(hm, .inr (12, [.ref m_manys, .ref m_reals, .ref m_factsOf, .ref m_possible, .int (nI q_undos), .int (nI q_models), .ref m_tape, .int (nI q_taped), .int q_fault, .int 0, .int wa1, .int (nI sp1), .int (nI pl1), .int (nI tk1), .int (nI vl1), .ref m_ends, .ref m_letters, .ref m_actOf, .ref m_whom, .ref m_actMany, .ref m_tokens, .ref m_afters, .ref m_afterOf, .int q_counted, .ref m_pile, .ref m_caseMany, .ref m_happen, .ref m_hasIf, .ref m_becomes, .ref m_goneOf, .ref m_heard, .ref m_pairs, .ref m_heaps, .int q_rounds, .int q_heapMany, .ref m_led, .ref m_newAt, .ref m_knowing, .ref m_firsts, .int (nI q_people), .ref m_secrets, .ref m_tried, .ref m_lanes, .ref m_lengths, .ref m_cells])), (m_tape, .inl (E.2.1 1, 160, .inl f_tape)), (m_ends, .inl (E.2.1 1, 15, .inl f_ends)), (m_letters, .inl (E.2.1 1, 50, .inl f_letters)), (m_afters, .inl (E.2.1 1, 9, .inl g_af)), (m_afterOf, .inl (E.2.1 1, 18, .inl g_ao))]) ?_ rfl rfl rfl
        refine ww_aload_n C dX12_readAfters_7 0 rfl rfl ?_
        refine ww_ci (wr := [(m_afters, .inl (E.2.1 1, 9, .inl g_af)), (m_afterOf, .inl (E.2.1 1, 18, .inl g_ao))]) (k' := 0) (n' := 0) C (run_V (As := []) (rest := []) C (r_nameHere X.2.1 E ro hm m_manys m_reals m_factsOf m_possible q_undos q_models m_tape q_taped q_fault 0 wa1 sp1 pl1 tk1 (nI vl1) m_ends m_letters m_actOf m_whom m_actMany m_tokens m_afters m_afterOf q_counted m_pile m_caseMany m_happen m_hasIf m_becomes m_goneOf m_heard m_pairs m_heaps q_rounds q_heapMany m_led m_newAt m_knowing m_firsts q_people m_secrets m_tried m_lanes m_lengths m_cells f_tape f_ends f_letters hb_tape hb_ends hb_letters (by omega) (by omega) (by omega) (by omega)) mi_X12_nameHere wl_X12_194 rfl 0 12 rfl rfl rfl rfl rfl dX12_readAfters_8) (roK hro) [0, 1, 2, 3] [4, 5] rfl rfl rfl rfl (fun r_3 uz hw => ?_)
        rcases hw with hw | hw
        · refine an2 hw ?_
          clear hw
          intro he_5 he_6 hw
          have h_4 := hw
          clear hw
          have he_5 := he_5.symm
          subst he_5
          subst he_6
          refine ww_eq (ws' := [(m_afters, .inl (E.2.1 1, 9, .inl g_af)), (m_afterOf, .inl (E.2.1 1, 18, .inl g_ao)), (hm, .inr (12, [.ref m_manys, .ref m_reals, .ref m_factsOf, .ref m_possible, .int (nI q_undos), .int (nI q_models), .ref m_tape, .int (nI q_taped), .int q_fault, .int 0, .int wa1, .int (nI sp1), .int (nI pl1), .int (nI tk1), .int (nI vl1), .ref m_ends, .ref m_letters, .ref m_actOf, .ref m_whom, .ref m_actMany, .ref m_tokens, .ref m_afters, .ref m_afterOf, .int q_counted, .ref m_pile, .ref m_caseMany, .ref m_happen, .ref m_hasIf, .ref m_becomes, .ref m_goneOf, .ref m_heard, .ref m_pairs, .ref m_heaps, .int q_rounds, .int q_heapMany, .ref m_led, .ref m_newAt, .ref m_knowing, .ref m_firsts, .int (nI q_people), .ref m_secrets, .ref m_tried, .ref m_lanes, .ref m_lengths, .ref m_cells])), (m_tape, .inl (E.2.1 1, 160, .inl f_tape)), (m_ends, .inl (E.2.1 1, 15, .inl f_ends)), (m_letters, .inl (E.2.1 1, 50, .inl f_letters))]) ?_ rfl rfl rfl
          refine ww_bipush (v := 13) C dX12_readAfters_11 rfl ?_
          refine ww_icmp_ne_t (tgt := 120) C dX12_readAfters_13 (by decide) (by decide) ?_
          exact ww_vret (u := [(hm, .inr (12, [.ref m_manys, .ref m_reals, .ref m_factsOf, .ref m_possible, .int (nI q_undos), .int (nI q_models), .ref m_tape, .int (nI q_taped), .int q_fault, .int 0, .int wa1, .int (nI sp1), .int (nI pl1), .int (nI tk1), .int (nI vl1), .ref m_ends, .ref m_letters, .ref m_actOf, .ref m_whom, .ref m_actMany, .ref m_tokens, .ref m_afters, .ref m_afterOf, .int q_counted, .ref m_pile, .ref m_caseMany, .ref m_happen, .ref m_hasIf, .ref m_becomes, .ref m_goneOf, .ref m_heard, .ref m_pairs, .ref m_heaps, .int q_rounds, .int q_heapMany, .ref m_led, .ref m_newAt, .ref m_knowing, .ref m_firsts, .int (nI q_people), .ref m_secrets, .ref m_tried, .ref m_lanes, .ref m_lengths, .ref m_cells])), (m_tape, .inl (E.2.1 1, 160, .inl f_tape)), (m_ends, .inl (E.2.1 1, 15, .inl f_ends)), (m_letters, .inl (E.2.1 1, 50, .inl f_letters)), (m_afters, .inl (E.2.1 1, 9, .inl g_af)), (m_afterOf, .inl (E.2.1 1, 18, .inl g_ao))]) C hT [2, 3, 4, 5, 0, 1] rfl rfl rfl rfl dX12_readAfters_120 (Or.inl ⟨sp1, pl1, tk1, vl1, p1, v1, w1, wa1, g_af, g_ao, rfl, (by first | assumption | omega | decide), (by first | assumption | omega | decide), (by first | assumption | omega | decide), (by first | assumption | omega | decide), hnb_m_afters_0, hnb_m_afterOf_0, hka, hko, hgo_1, (hgo_2.trans (ah_stop (by omega) hgo_1 (by omega))), hgo_3⟩)
        · refine ex1 hw ?_
          clear hw
          intro nn_7 hw
          refine an4 hw ?_
          clear hw
          intro he_11 he_12 h_8 h_9 hw
          have h_10 := hw
          clear hw
          have he_11 := he_11.symm
          subst he_11
          subst he_12
          refine ww_eq (ws' := [(m_afters, .inl (E.2.1 1, 9, .inl g_af)), (m_afterOf, .inl (E.2.1 1, 18, .inl g_ao)), (hm, .inr (12, [.ref m_manys, .ref m_reals, .ref m_factsOf, .ref m_possible, .int (nI q_undos), .int (nI q_models), .ref m_tape, .int (nI q_taped), .int q_fault, .int 0, .int wa1, .int (nI sp1), .int (nI pl1), .int (nI tk1), .int (nI vl1), .ref m_ends, .ref m_letters, .ref m_actOf, .ref m_whom, .ref m_actMany, .ref m_tokens, .ref m_afters, .ref m_afterOf, .int q_counted, .ref m_pile, .ref m_caseMany, .ref m_happen, .ref m_hasIf, .ref m_becomes, .ref m_goneOf, .ref m_heard, .ref m_pairs, .ref m_heaps, .int q_rounds, .int q_heapMany, .ref m_led, .ref m_newAt, .ref m_knowing, .ref m_firsts, .int (nI q_people), .ref m_secrets, .ref m_tried, .ref m_lanes, .ref m_lengths, .ref m_cells])), (m_tape, .inl (E.2.1 1, 160, .inl f_tape)), (m_ends, .inl (E.2.1 1, 15, .inl f_ends)), (m_letters, .inl (E.2.1 1, 50, .inl f_letters))]) ?_ rfl rfl rfl
          refine ww_bipush (v := 13) C dX12_readAfters_11 rfl ?_
          refine ww_icmp_ne (tgt := 120) C dX12_readAfters_13 (by decide) (fun c_13 => ?_) (fun c_13 => ?_)
          · have zc_13 : ((nn_7 : Nat) : Int) ≠ 13 := i_ne (nI_toInt (n := nn_7) (by omega)) rfl c_13
            exact ww_vret (u := [(hm, .inr (12, [.ref m_manys, .ref m_reals, .ref m_factsOf, .ref m_possible, .int (nI q_undos), .int (nI q_models), .ref m_tape, .int (nI q_taped), .int q_fault, .int 0, .int wa1, .int (nI sp1), .int (nI pl1), .int (nI tk1), .int (nI vl1), .ref m_ends, .ref m_letters, .ref m_actOf, .ref m_whom, .ref m_actMany, .ref m_tokens, .ref m_afters, .ref m_afterOf, .int q_counted, .ref m_pile, .ref m_caseMany, .ref m_happen, .ref m_hasIf, .ref m_becomes, .ref m_goneOf, .ref m_heard, .ref m_pairs, .ref m_heaps, .int q_rounds, .int q_heapMany, .ref m_led, .ref m_newAt, .ref m_knowing, .ref m_firsts, .int (nI q_people), .ref m_secrets, .ref m_tried, .ref m_lanes, .ref m_lengths, .ref m_cells])), (m_tape, .inl (E.2.1 1, 160, .inl f_tape)), (m_ends, .inl (E.2.1 1, 15, .inl f_ends)), (m_letters, .inl (E.2.1 1, 50, .inl f_letters)), (m_afters, .inl (E.2.1 1, 9, .inl g_af)), (m_afterOf, .inl (E.2.1 1, 18, .inl g_ao))]) C hT [2, 3, 4, 5, 0, 1] rfl rfl rfl rfl dX12_readAfters_120 (Or.inl ⟨sp1, pl1, tk1, vl1, p1, v1, w1, wa1, g_af, g_ao, rfl, (by first | assumption | omega | decide), (by first | assumption | omega | decide), (by first | assumption | omega | decide), (by first | assumption | omega | decide), hnb_m_afters_0, hnb_m_afterOf_0, hka, hko, hgo_1, (hgo_2.trans (ah_stop (by omega) hgo_1 (by omega))), hgo_3⟩)
          · have zc_13 : ((nn_7 : Nat) : Int) = 13 := i_eq (nI_toInt (n := nn_7) (by omega)) rfl c_13
            refine ww_aload_n C dX12_readAfters_16 0 rfl rfl ?_
            refine ww_get C fg_X12_43 2 rfl rfl dX12_readAfters_17 ?_
            refine ww_bipush (v := 8) C dX12_readAfters_20 rfl ?_
            have hbx_14 := (hnb_m_afters_0 8 (by omega)).2
            refine ww_iald (v := (nI (cN g_af 8))) C 0 rfl (vin rfl) (hnb_m_afters_0 8 (by omega)).1 dX12_readAfters_22 ?_
            refine ww_iconst (v := 2) C dX12_readAfters_23 rfl ?_
            refine ww_icmp_ne (tgt := 32) C dX12_readAfters_24 (by decide) (fun c_15 => ?_) (fun c_15 => ?_)
            · have zc_15 : ((cN g_af 8 : Nat) : Int) ≠ 2 := i_ne (nI_toInt (n := cN g_af 8) (by omega)) rfl c_15
              refine ww_aload_n C dX12_readAfters_32 0 rfl rfl ?_
              refine ww_cv (wr := [(m_afters, .inl (E.2.1 1, 9, .inl g_af)), (m_afterOf, .inl (E.2.1 1, 18, .inl g_ao)), (m_ends, .inl (E.2.1 1, 15, .inl f_ends)), (m_letters, .inl (E.2.1 1, 50, .inl f_letters))]) (k' := 0) (n' := 0) C (run_V (As := []) (rest := []) C (r_next X.2.1 E ro hm m_manys m_reals m_factsOf m_possible q_undos q_models m_tape q_taped q_fault 0 wa1 sp1 (nI pl1) tk1 vl1 m_ends m_letters m_actOf m_whom m_actMany m_tokens m_afters m_afterOf q_counted m_pile m_caseMany m_happen m_hasIf m_becomes m_goneOf m_heard m_pairs m_heaps q_rounds q_heapMany m_led m_newAt m_knowing m_firsts q_people m_secrets m_tried m_lanes m_lengths m_cells f_tape hb_tape (by omega) (by omega) (by omega) (by omega) (by omega)) mi_X12_next wl_X12_201 rfl 0 12 rfl rfl rfl rfl rfl dX12_readAfters_33) (roK hro) [2, 3] [0, 1, 4, 5] rfl rfl rfl rfl (fun uz hw => ?_)
              rcases hw with hw | hw | hw
              · refine an1 hw ?_
                clear hw
                intro he_18 hw
                have h_17 := hw
                clear hw
                subst he_18
                omega
              · refine ex4 hw ?_
                clear hw
                intro sp2_19 pl2_20 tk2_21 vl2_22 hw
                refine an7 hw ?_
                clear hw
                intro he_30 h_23 h_24 h_25 h_26 h_27 h_28 hw
                have h_29 := hw
                clear hw
                subst he_30
                refine ww_eq (ws' := [(m_afters, .inl (E.2.1 1, 9, .inl g_af)), (m_afterOf, .inl (E.2.1 1, 18, .inl g_ao)), (m_ends, .inl (E.2.1 1, 15, .inl f_ends)), (m_letters, .inl (E.2.1 1, 50, .inl f_letters)), (hm, .inr (12, [.ref m_manys, .ref m_reals, .ref m_factsOf, .ref m_possible, .int (nI q_undos), .int (nI q_models), .ref m_tape, .int (nI q_taped), .int q_fault, .int 0, .int wa1, .int (nI sp2_19), .int (nI pl2_20), .int (nI tk2_21), .int (nI vl2_22), .ref m_ends, .ref m_letters, .ref m_actOf, .ref m_whom, .ref m_actMany, .ref m_tokens, .ref m_afters, .ref m_afterOf, .int q_counted, .ref m_pile, .ref m_caseMany, .ref m_happen, .ref m_hasIf, .ref m_becomes, .ref m_goneOf, .ref m_heard, .ref m_pairs, .ref m_heaps, .int q_rounds, .int q_heapMany, .ref m_led, .ref m_newAt, .ref m_knowing, .ref m_firsts, .int (nI q_people), .ref m_secrets, .ref m_tried, .ref m_lanes, .ref m_lengths, .ref m_cells])), (m_tape, .inl (E.2.1 1, 160, .inl f_tape))]) ?_ rfl rfl rfl
                refine ww_aload_n C dX12_readAfters_36 0 rfl rfl ?_
                refine ww_get C fg_X12_157 4 rfl rfl dX12_readAfters_37 ?_
                refine ww_if_ne_f (tgt := 56) C dX12_readAfters_40 (by decide) (rfl) ?_
                refine ww_aload_n C dX12_readAfters_43 0 rfl rfl ?_
                refine ww_get C fg_X12_175 4 rfl rfl dX12_readAfters_44 ?_
                refine ww_iconst (v := 2) C dX12_readAfters_47 rfl ?_
                refine ww_icmp_eq (tgt := 56) C dX12_readAfters_48 (by decide) (fun c_42 => ?_) (fun c_42 => ?_)
                · have zc_42 : ((tk2_21 : Nat) : Int) = 2 := i_eq (nI_toInt (n := tk2_21) (by omega)) rfl c_42
                  refine ww_aload_n C dX12_readAfters_56 0 rfl rfl ?_
                  refine ww_get C fg_X12_157 4 rfl rfl dX12_readAfters_57 ?_
                  refine ww_if_ne_f (tgt := 76) C dX12_readAfters_60 (by decide) (rfl) ?_
                  refine ww_aload_n C dX12_readAfters_63 0 rfl rfl ?_
                  refine ww_get C fg_X12_172 4 rfl rfl dX12_readAfters_64 ?_
                  refine ww_iconst (v := 3) C dX12_readAfters_67 rfl ?_
                  refine ww_icmp_le (tgt := 76) C dX12_readAfters_68 (by decide) (fun c_43 => ?_) (fun c_43 => ?_)
                  · have zc_43 : ((vl2_22 : Nat) : Int) ≤ 3 := i_le (nI_toInt (n := vl2_22) (by omega)) rfl c_43
                    refine ww_aload_n C dX12_readAfters_76 0 rfl rfl ?_
                    refine ww_get C fg_X12_157 4 rfl rfl dX12_readAfters_77 ?_
                    refine ww_if_ne_f (tgt := 113) C dX12_readAfters_80 (by decide) (rfl) ?_
                    refine ww_aload_n C dX12_readAfters_83 0 rfl rfl ?_
                    refine ww_get C fg_X12_46 4 rfl rfl dX12_readAfters_84 ?_
                    refine ww_bipush (v := 16) C dX12_readAfters_87 rfl ?_
                    refine ww_aload_n C dX12_readAfters_89 0 rfl rfl ?_
                    refine ww_get C fg_X12_43 4 rfl rfl dX12_readAfters_90 ?_
                    refine ww_bipush (v := 8) C dX12_readAfters_93 rfl ?_
                    have hbx_44 := (hnb_m_afters_0 8 (by omega)).2
                    refine ww_iald (v := (nI (cN g_af 8))) C 0 rfl (vin rfl) (hnb_m_afters_0 8 (by omega)).1 dX12_readAfters_95 ?_
                    refine ww_iadd (v := (nI (16 + (cN g_af 8)))) C dX12_readAfters_96 (nI_add 16 (cN g_af 8)) ?_
                    refine ww_aload_n C dX12_readAfters_97 0 rfl rfl ?_
                    refine ww_get C fg_X12_172 4 rfl rfl dX12_readAfters_98 ?_
                    obtain ⟨f_45, ef_45⟩ : ∃ z : Nat → Int32, upd g_ao (16 + (cN g_af 8)) (nI vl2_22) = z := ⟨_, rfl⟩
                    refine ww_iast (ws' := [(m_afters, .inl (E.2.1 1, 9, .inl g_af)), (m_afterOf, .inl (E.2.1 1, 18, .inl f_45)), (m_ends, .inl (E.2.1 1, 15, .inl f_ends)), (m_letters, .inl (E.2.1 1, 50, .inl f_letters)), (hm, .inr (12, [.ref m_manys, .ref m_reals, .ref m_factsOf, .ref m_possible, .int (nI q_undos), .int (nI q_models), .ref m_tape, .int (nI q_taped), .int q_fault, .int 0, .int wa1, .int (nI sp2_19), .int (nI pl2_20), .int (nI tk2_21), .int (nI vl2_22), .ref m_ends, .ref m_letters, .ref m_actOf, .ref m_whom, .ref m_actMany, .ref m_tokens, .ref m_afters, .ref m_afterOf, .int q_counted, .ref m_pile, .ref m_caseMany, .ref m_happen, .ref m_hasIf, .ref m_becomes, .ref m_goneOf, .ref m_heard, .ref m_pairs, .ref m_heaps, .int q_rounds, .int q_heapMany, .ref m_led, .ref m_newAt, .ref m_knowing, .ref m_firsts, .int (nI q_people), .ref m_secrets, .ref m_tried, .ref m_lanes, .ref m_lengths, .ref m_cells])), (m_tape, .inl (E.2.1 1, 160, .inl f_tape))]) C 1 rfl (vp_in_nI (by omega) (by omega)) (ldn2 (by omega) ef_45) rfl dX12_readAfters_101 ?_
                    refine ww_aload_n C dX12_readAfters_102 0 rfl rfl ?_
                    refine ww_get C fg_X12_43 4 rfl rfl dX12_readAfters_103 ?_
                    refine ww_bipush (v := 8) C dX12_readAfters_106 rfl ?_
                    refine ww_dup2 C dX12_readAfters_108 rfl rfl ?_
                    have hbx_46 := (hnb_m_afters_0 8 (by omega)).2
                    refine ww_iald (v := (nI (cN g_af 8))) C 0 rfl (vin rfl) (hnb_m_afters_0 8 (by omega)).1 dX12_readAfters_109 ?_
                    refine ww_iconst (v := 1) C dX12_readAfters_110 rfl ?_
                    refine ww_iadd (v := (nI ((cN g_af 8) + 1))) C dX12_readAfters_111 (nI_add (cN g_af 8) 1) ?_
                    obtain ⟨f_47, ef_47⟩ : ∃ z : Nat → Int32, upd g_af 8 (nI ((cN g_af 8) + 1)) = z := ⟨_, rfl⟩
                    refine ww_iast (ws' := [(m_afters, .inl (E.2.1 1, 9, .inl f_47)), (m_afterOf, .inl (E.2.1 1, 18, .inl f_45)), (m_ends, .inl (E.2.1 1, 15, .inl f_ends)), (m_letters, .inl (E.2.1 1, 50, .inl f_letters)), (hm, .inr (12, [.ref m_manys, .ref m_reals, .ref m_factsOf, .ref m_possible, .int (nI q_undos), .int (nI q_models), .ref m_tape, .int (nI q_taped), .int q_fault, .int 0, .int wa1, .int (nI sp2_19), .int (nI pl2_20), .int (nI tk2_21), .int (nI vl2_22), .ref m_ends, .ref m_letters, .ref m_actOf, .ref m_whom, .ref m_actMany, .ref m_tokens, .ref m_afters, .ref m_afterOf, .int q_counted, .ref m_pile, .ref m_caseMany, .ref m_happen, .ref m_hasIf, .ref m_becomes, .ref m_goneOf, .ref m_heard, .ref m_pairs, .ref m_heaps, .int q_rounds, .int q_heapMany, .ref m_led, .ref m_newAt, .ref m_knowing, .ref m_firsts, .int (nI q_people), .ref m_secrets, .ref m_tried, .ref m_lanes, .ref m_lengths, .ref m_cells])), (m_tape, .inl (E.2.1 1, 160, .inl f_tape))]) C 0 rfl (vin rfl) ef_47 rfl dX12_readAfters_112 ?_
                    have h8u := cN_s (t := (cN g_af 8) + 1) (by omega) ef_47
                    refine ww_aload_n C dX12_readAfters_113 0 rfl rfl ?_
                    refine ww_cv (wr := [(m_afters, .inl (E.2.1 1, 9, .inl f_47)), (m_afterOf, .inl (E.2.1 1, 18, .inl f_45)), (m_ends, .inl (E.2.1 1, 15, .inl f_ends)), (m_letters, .inl (E.2.1 1, 50, .inl f_letters))]) (k' := 0) (n' := 0) C (run_V (As := []) (rest := []) C (r_next X.2.1 E ro hm m_manys m_reals m_factsOf m_possible q_undos q_models m_tape q_taped q_fault 0 wa1 sp2_19 (nI pl2_20) tk2_21 vl2_22 m_ends m_letters m_actOf m_whom m_actMany m_tokens m_afters m_afterOf q_counted m_pile m_caseMany m_happen m_hasIf m_becomes m_goneOf m_heard m_pairs m_heaps q_rounds q_heapMany m_led m_newAt m_knowing m_firsts q_people m_secrets m_tried m_lanes m_lengths m_cells f_tape hb_tape (by omega) (by omega) (by omega) (by omega) (by omega)) mi_X12_next wl_X12_201 rfl 0 12 rfl rfl rfl rfl rfl dX12_readAfters_114) (roK hro) [4, 5] [0, 1, 2, 3] rfl rfl rfl rfl (fun uz hw => ?_)
                    rcases hw with hw | hw | hw
                    · refine an1 hw ?_
                      clear hw
                      intro he_50 hw
                      have h_49 := hw
                      clear hw
                      subst he_50
                      omega
                    · refine ex4 hw ?_
                      clear hw
                      intro sp2_51 pl2_52 tk2_53 vl2_54 hw
                      refine an7 hw ?_
                      clear hw
                      intro he_62 h_55 h_56 h_57 h_58 h_59 h_60 hw
                      have h_61 := hw
                      clear hw
                      subst he_62
                      refine ww_eq (ws' := [(m_afters, .inl (E.2.1 1, 9, .inl f_47)), (m_afterOf, .inl (E.2.1 1, 18, .inl f_45)), (m_ends, .inl (E.2.1 1, 15, .inl f_ends)), (m_letters, .inl (E.2.1 1, 50, .inl f_letters)), (hm, .inr (12, [.ref m_manys, .ref m_reals, .ref m_factsOf, .ref m_possible, .int (nI q_undos), .int (nI q_models), .ref m_tape, .int (nI q_taped), .int q_fault, .int 0, .int wa1, .int (nI sp2_51), .int (nI pl2_52), .int (nI tk2_53), .int (nI vl2_54), .ref m_ends, .ref m_letters, .ref m_actOf, .ref m_whom, .ref m_actMany, .ref m_tokens, .ref m_afters, .ref m_afterOf, .int q_counted, .ref m_pile, .ref m_caseMany, .ref m_happen, .ref m_hasIf, .ref m_becomes, .ref m_goneOf, .ref m_heard, .ref m_pairs, .ref m_heaps, .int q_rounds, .int q_heapMany, .ref m_led, .ref m_newAt, .ref m_knowing, .ref m_firsts, .int (nI q_people), .ref m_secrets, .ref m_tried, .ref m_lanes, .ref m_lengths, .ref m_cells])), (m_tape, .inl (E.2.1 1, 160, .inl f_tape))]) ?_ rfl rfl rfl
                      refine ww_goto (tgt := 0) C dX12_readAfters_117 (by decide) ?_
                      exact ww_lv [0] rfl (ww_sub [4, 5, 2, 3, 0, 1] rfl rfl (ih_0 0 sp2_51 pl2_52 tk2_53 vl2_54 sp2_19 (if cN g_af 8 = 0 then vl2_22 else v1) (if cN g_af 8 = 0 then w1 else vl2_22) wa1 f_47 f_45 (by omega) (by omega) (by omega) (by omega) (by omega) (fun _ => ⟨h_60, hgo_2.trans (ah_go (by omega) h8u hgo_1 (by omega) h_28 (by omega) (h_29 (by omega)) (by omega) h_60 (by omega)), AO.ext hgo_3 (by omega) ef_45 h8u⟩) (fun h => absurd h (by omega)) (KP.put hka (by omega) ef_47) (KP.put hko (by omega) ef_45) (NB.put hnb_m_afters_0 (t := (cN g_af 8) + 1) (by omega) (by decide) ef_47) (NB.put hnb_m_afterOf_0 (t := vl2_22) (by omega) (by decide) ef_45) (by first | omega | (have h8 := cN_s (by omega) (by assumption : upd g_af 8 _ = _); omega))))
                    · refine ex4 hw ?_
                      clear hw
                      intro sp2_63 pl2_64 tk2_65 vl2_66 hw
                      refine an6 hw ?_
                      clear hw
                      intro he_73 h_67 h_68 h_69 h_70 h_71 hw
                      have h_72 := hw
                      clear hw
                      subst he_73
                      refine ww_eq (ws' := [(m_afters, .inl (E.2.1 1, 9, .inl f_47)), (m_afterOf, .inl (E.2.1 1, 18, .inl f_45)), (m_ends, .inl (E.2.1 1, 15, .inl f_ends)), (m_letters, .inl (E.2.1 1, 50, .inl f_letters)), (hm, .inr (12, [.ref m_manys, .ref m_reals, .ref m_factsOf, .ref m_possible, .int (nI q_undos), .int (nI q_models), .ref m_tape, .int (nI q_taped), .int q_fault, .int 1, .int (nI pl2_64), .int (nI sp2_63), .int (nI pl2_64), .int (nI tk2_65), .int (nI vl2_66), .ref m_ends, .ref m_letters, .ref m_actOf, .ref m_whom, .ref m_actMany, .ref m_tokens, .ref m_afters, .ref m_afterOf, .int q_counted, .ref m_pile, .ref m_caseMany, .ref m_happen, .ref m_hasIf, .ref m_becomes, .ref m_goneOf, .ref m_heard, .ref m_pairs, .ref m_heaps, .int q_rounds, .int q_heapMany, .ref m_led, .ref m_newAt, .ref m_knowing, .ref m_firsts, .int (nI q_people), .ref m_secrets, .ref m_tried, .ref m_lanes, .ref m_lengths, .ref m_cells])), (m_tape, .inl (E.2.1 1, 160, .inl f_tape))]) ?_ rfl rfl rfl
                      refine ww_goto (tgt := 0) C dX12_readAfters_117 (by decide) ?_
                      exact ww_lv [0] rfl (ww_sub [4, 5, 2, 3, 0, 1] rfl rfl (ih_0 1 sp2_63 pl2_64 tk2_65 vl2_66 p1 v1 w1 (nI pl2_64) f_47 f_45 (by omega) (by omega) (by omega) (by omega) (by omega) (fun h => absurd h (by decide)) (fun _ => ⟨_, rfl, by omega, by rw [h_72.2]; exact hgo_2.trans (ah_b3 (by omega) hgo_1 (by omega) h_28 (by omega) (by have h9 := h_29 (by omega); omega) h_72.1)⟩) (KP.put hka (by omega) ef_47) (KP.put hko (by omega) ef_45) (NB.put hnb_m_afters_0 (t := (cN g_af 8) + 1) (by omega) (by decide) ef_47) (NB.put hnb_m_afterOf_0 (t := vl2_22) (by omega) (by decide) ef_45) (by first | omega | (have h8 := cN_s (by omega) (by assumption : upd g_af 8 _ = _); omega))))
                  · have zc_43 : ((vl2_22 : Nat) : Int) > 3 := i_nle (nI_toInt (n := vl2_22) (by omega)) rfl c_43
                    refine ww_aload_n C dX12_readAfters_71 0 rfl rfl ?_
                    refine ww_iconst (v := 3) C dX12_readAfters_72 rfl ?_
                    refine ww_cv (wr := [(m_afters, .inl (E.2.1 1, 9, .inl g_af)), (m_afterOf, .inl (E.2.1 1, 18, .inl g_ao)), (m_ends, .inl (E.2.1 1, 15, .inl f_ends)), (m_letters, .inl (E.2.1 1, 50, .inl f_letters)), (m_tape, .inl (E.2.1 1, 160, .inl f_tape))]) (k' := 0) (n' := 0) C (run_V (As := [.int 3]) (rest := []) C (r_fails X.2.1 E ro hm 3 m_manys m_reals m_factsOf m_possible q_undos q_models m_tape q_taped q_fault 0 wa1 (nI sp2_19) (nI pl2_20) (nI tk2_21) (nI vl2_22) m_ends m_letters m_actOf m_whom m_actMany m_tokens m_afters m_afterOf q_counted m_pile m_caseMany m_happen m_hasIf m_becomes m_goneOf m_heard m_pairs m_heaps q_rounds q_heapMany m_led m_newAt m_knowing m_firsts q_people m_secrets m_tried m_lanes m_lengths m_cells (by omega)) mi_X12_fails wl_X12_186 rfl 0 12 rfl rfl rfl rfl rfl dX12_readAfters_73) (roK hro) [4] [0, 1, 2, 3, 5] rfl rfl rfl rfl (fun uz hw => ?_)
                    rcases hw with hw | hw
                    · refine an1 hw ?_
                      clear hw
                      intro he_76 hw
                      have h_75 := hw
                      clear hw
                      subst he_76
                      refine ww_eq (ws' := [(m_afters, .inl (E.2.1 1, 9, .inl g_af)), (m_afterOf, .inl (E.2.1 1, 18, .inl g_ao)), (m_ends, .inl (E.2.1 1, 15, .inl f_ends)), (m_letters, .inl (E.2.1 1, 50, .inl f_letters)), (m_tape, .inl (E.2.1 1, 160, .inl f_tape)), (hm, .inr (12, [.ref m_manys, .ref m_reals, .ref m_factsOf, .ref m_possible, .int (nI q_undos), .int (nI q_models), .ref m_tape, .int (nI q_taped), .int q_fault, .int 3, .int (nI pl2_20), .int (nI sp2_19), .int (nI pl2_20), .int (nI tk2_21), .int (nI vl2_22), .ref m_ends, .ref m_letters, .ref m_actOf, .ref m_whom, .ref m_actMany, .ref m_tokens, .ref m_afters, .ref m_afterOf, .int q_counted, .ref m_pile, .ref m_caseMany, .ref m_happen, .ref m_hasIf, .ref m_becomes, .ref m_goneOf, .ref m_heard, .ref m_pairs, .ref m_heaps, .int q_rounds, .int q_heapMany, .ref m_led, .ref m_newAt, .ref m_knowing, .ref m_firsts, .int (nI q_people), .ref m_secrets, .ref m_tried, .ref m_lanes, .ref m_lengths, .ref m_cells]))]) ?_ rfl rfl rfl
                      refine ww_aload_n C dX12_readAfters_76 0 rfl rfl ?_
                      refine ww_get C fg_X12_157 5 rfl rfl dX12_readAfters_77 ?_
                      refine ww_if_ne_t (tgt := 113) C dX12_readAfters_80 (by decide) (by decide) ?_
                      refine ww_aload_n C dX12_readAfters_113 0 rfl rfl ?_
                      refine ww_cv (wr := [(m_afters, .inl (E.2.1 1, 9, .inl g_af)), (m_afterOf, .inl (E.2.1 1, 18, .inl g_ao)), (m_ends, .inl (E.2.1 1, 15, .inl f_ends)), (m_letters, .inl (E.2.1 1, 50, .inl f_letters))]) (k' := 0) (n' := 0) C (run_V (As := []) (rest := []) C (r_next X.2.1 E ro hm m_manys m_reals m_factsOf m_possible q_undos q_models m_tape q_taped q_fault 3 (nI pl2_20) sp2_19 (nI pl2_20) tk2_21 vl2_22 m_ends m_letters m_actOf m_whom m_actMany m_tokens m_afters m_afterOf q_counted m_pile m_caseMany m_happen m_hasIf m_becomes m_goneOf m_heard m_pairs m_heaps q_rounds q_heapMany m_led m_newAt m_knowing m_firsts q_people m_secrets m_tried m_lanes m_lengths m_cells f_tape hb_tape (by omega) (by omega) (by omega) (by omega) (by omega)) mi_X12_next wl_X12_201 rfl 0 12 rfl rfl rfl rfl rfl dX12_readAfters_114) (roK hro) [5, 4] [0, 1, 2, 3] rfl rfl rfl rfl (fun uz hw => ?_)
                      rcases hw with hw | hw | hw
                      · refine an1 hw ?_
                        clear hw
                        intro he_81 hw
                        have h_80 := hw
                        clear hw
                        subst he_81
                        refine ww_eq (ws' := [(m_afters, .inl (E.2.1 1, 9, .inl g_af)), (m_afterOf, .inl (E.2.1 1, 18, .inl g_ao)), (m_ends, .inl (E.2.1 1, 15, .inl f_ends)), (m_letters, .inl (E.2.1 1, 50, .inl f_letters)), (hm, .inr (12, [.ref m_manys, .ref m_reals, .ref m_factsOf, .ref m_possible, .int (nI q_undos), .int (nI q_models), .ref m_tape, .int (nI q_taped), .int q_fault, .int 3, .int (nI pl2_20), .int (nI sp2_19), .int (nI pl2_20), .int (nI tk2_21), .int (nI vl2_22), .ref m_ends, .ref m_letters, .ref m_actOf, .ref m_whom, .ref m_actMany, .ref m_tokens, .ref m_afters, .ref m_afterOf, .int q_counted, .ref m_pile, .ref m_caseMany, .ref m_happen, .ref m_hasIf, .ref m_becomes, .ref m_goneOf, .ref m_heard, .ref m_pairs, .ref m_heaps, .int q_rounds, .int q_heapMany, .ref m_led, .ref m_newAt, .ref m_knowing, .ref m_firsts, .int (nI q_people), .ref m_secrets, .ref m_tried, .ref m_lanes, .ref m_lengths, .ref m_cells])), (m_tape, .inl (E.2.1 1, 160, .inl f_tape))]) ?_ rfl rfl rfl
                        refine ww_goto (tgt := 0) C dX12_readAfters_117 (by decide) ?_
                        exact ww_lv [0] rfl (ww_sub [4, 5, 2, 3, 0, 1] rfl rfl (ih_0 3 sp2_19 pl2_20 tk2_21 vl2_22 p1 v1 w1 (nI pl2_20) g_af g_ao (by omega) (by omega) (by omega) (by omega) (by omega) (fun h => absurd h (by decide)) (fun _ => ⟨_, rfl, by omega, hgo_2.trans (ah_b2 (by omega) hgo_1 (by omega) h_28 (by first | (left; omega) | (right; have h9 := h_29 (by omega); omega)))⟩) hka hko hnb_m_afters_0 hnb_m_afterOf_0 (by first | omega | (have h8 := cN_s (by omega) (by assumption : upd g_af 8 _ = _); omega))))
                      · refine ex4 hw ?_
                        clear hw
                        intro sp2_82 pl2_83 tk2_84 vl2_85 hw
                        refine an7 hw ?_
                        clear hw
                        intro he_93 h_86 h_87 h_88 h_89 h_90 h_91 hw
                        have h_92 := hw
                        clear hw
                        subst he_93
                        omega
                      · refine ex4 hw ?_
                        clear hw
                        intro sp2_94 pl2_95 tk2_96 vl2_97 hw
                        refine an6 hw ?_
                        clear hw
                        intro he_104 h_98 h_99 h_100 h_101 h_102 hw
                        have h_103 := hw
                        clear hw
                        subst he_104
                        omega
                    · refine an1 hw ?_
                      clear hw
                      intro he_78 hw
                      have h_77 := hw
                      clear hw
                      subst he_78
                      omega
                · have zc_42 : ((tk2_21 : Nat) : Int) ≠ 2 := i_ne (nI_toInt (n := tk2_21) (by omega)) rfl c_42
                  refine ww_aload_n C dX12_readAfters_51 0 rfl rfl ?_
                  refine ww_iconst (v := 2) C dX12_readAfters_52 rfl ?_
                  refine ww_cv (wr := [(m_afters, .inl (E.2.1 1, 9, .inl g_af)), (m_afterOf, .inl (E.2.1 1, 18, .inl g_ao)), (m_ends, .inl (E.2.1 1, 15, .inl f_ends)), (m_letters, .inl (E.2.1 1, 50, .inl f_letters)), (m_tape, .inl (E.2.1 1, 160, .inl f_tape))]) (k' := 0) (n' := 0) C (run_V (As := [.int 2]) (rest := []) C (r_fails X.2.1 E ro hm 2 m_manys m_reals m_factsOf m_possible q_undos q_models m_tape q_taped q_fault 0 wa1 (nI sp2_19) (nI pl2_20) (nI tk2_21) (nI vl2_22) m_ends m_letters m_actOf m_whom m_actMany m_tokens m_afters m_afterOf q_counted m_pile m_caseMany m_happen m_hasIf m_becomes m_goneOf m_heard m_pairs m_heaps q_rounds q_heapMany m_led m_newAt m_knowing m_firsts q_people m_secrets m_tried m_lanes m_lengths m_cells (by omega)) mi_X12_fails wl_X12_186 rfl 0 12 rfl rfl rfl rfl rfl dX12_readAfters_53) (roK hro) [4] [0, 1, 2, 3, 5] rfl rfl rfl rfl (fun uz hw => ?_)
                  rcases hw with hw | hw
                  · refine an1 hw ?_
                    clear hw
                    intro he_107 hw
                    have h_106 := hw
                    clear hw
                    subst he_107
                    refine ww_eq (ws' := [(m_afters, .inl (E.2.1 1, 9, .inl g_af)), (m_afterOf, .inl (E.2.1 1, 18, .inl g_ao)), (m_ends, .inl (E.2.1 1, 15, .inl f_ends)), (m_letters, .inl (E.2.1 1, 50, .inl f_letters)), (m_tape, .inl (E.2.1 1, 160, .inl f_tape)), (hm, .inr (12, [.ref m_manys, .ref m_reals, .ref m_factsOf, .ref m_possible, .int (nI q_undos), .int (nI q_models), .ref m_tape, .int (nI q_taped), .int q_fault, .int 2, .int (nI pl2_20), .int (nI sp2_19), .int (nI pl2_20), .int (nI tk2_21), .int (nI vl2_22), .ref m_ends, .ref m_letters, .ref m_actOf, .ref m_whom, .ref m_actMany, .ref m_tokens, .ref m_afters, .ref m_afterOf, .int q_counted, .ref m_pile, .ref m_caseMany, .ref m_happen, .ref m_hasIf, .ref m_becomes, .ref m_goneOf, .ref m_heard, .ref m_pairs, .ref m_heaps, .int q_rounds, .int q_heapMany, .ref m_led, .ref m_newAt, .ref m_knowing, .ref m_firsts, .int (nI q_people), .ref m_secrets, .ref m_tried, .ref m_lanes, .ref m_lengths, .ref m_cells]))]) ?_ rfl rfl rfl
                    refine ww_aload_n C dX12_readAfters_56 0 rfl rfl ?_
                    refine ww_get C fg_X12_157 5 rfl rfl dX12_readAfters_57 ?_
                    refine ww_if_ne_t (tgt := 76) C dX12_readAfters_60 (by decide) (by decide) ?_
                    refine ww_aload_n C dX12_readAfters_76 0 rfl rfl ?_
                    refine ww_get C fg_X12_157 5 rfl rfl dX12_readAfters_77 ?_
                    refine ww_if_ne_t (tgt := 113) C dX12_readAfters_80 (by decide) (by decide) ?_
                    refine ww_aload_n C dX12_readAfters_113 0 rfl rfl ?_
                    refine ww_cv (wr := [(m_afters, .inl (E.2.1 1, 9, .inl g_af)), (m_afterOf, .inl (E.2.1 1, 18, .inl g_ao)), (m_ends, .inl (E.2.1 1, 15, .inl f_ends)), (m_letters, .inl (E.2.1 1, 50, .inl f_letters))]) (k' := 0) (n' := 0) C (run_V (As := []) (rest := []) C (r_next X.2.1 E ro hm m_manys m_reals m_factsOf m_possible q_undos q_models m_tape q_taped q_fault 2 (nI pl2_20) sp2_19 (nI pl2_20) tk2_21 vl2_22 m_ends m_letters m_actOf m_whom m_actMany m_tokens m_afters m_afterOf q_counted m_pile m_caseMany m_happen m_hasIf m_becomes m_goneOf m_heard m_pairs m_heaps q_rounds q_heapMany m_led m_newAt m_knowing m_firsts q_people m_secrets m_tried m_lanes m_lengths m_cells f_tape hb_tape (by omega) (by omega) (by omega) (by omega) (by omega)) mi_X12_next wl_X12_201 rfl 0 12 rfl rfl rfl rfl rfl dX12_readAfters_114) (roK hro) [5, 4] [0, 1, 2, 3] rfl rfl rfl rfl (fun uz hw => ?_)
                    rcases hw with hw | hw | hw
                    · refine an1 hw ?_
                      clear hw
                      intro he_112 hw
                      have h_111 := hw
                      clear hw
                      subst he_112
                      refine ww_eq (ws' := [(m_afters, .inl (E.2.1 1, 9, .inl g_af)), (m_afterOf, .inl (E.2.1 1, 18, .inl g_ao)), (m_ends, .inl (E.2.1 1, 15, .inl f_ends)), (m_letters, .inl (E.2.1 1, 50, .inl f_letters)), (hm, .inr (12, [.ref m_manys, .ref m_reals, .ref m_factsOf, .ref m_possible, .int (nI q_undos), .int (nI q_models), .ref m_tape, .int (nI q_taped), .int q_fault, .int 2, .int (nI pl2_20), .int (nI sp2_19), .int (nI pl2_20), .int (nI tk2_21), .int (nI vl2_22), .ref m_ends, .ref m_letters, .ref m_actOf, .ref m_whom, .ref m_actMany, .ref m_tokens, .ref m_afters, .ref m_afterOf, .int q_counted, .ref m_pile, .ref m_caseMany, .ref m_happen, .ref m_hasIf, .ref m_becomes, .ref m_goneOf, .ref m_heard, .ref m_pairs, .ref m_heaps, .int q_rounds, .int q_heapMany, .ref m_led, .ref m_newAt, .ref m_knowing, .ref m_firsts, .int (nI q_people), .ref m_secrets, .ref m_tried, .ref m_lanes, .ref m_lengths, .ref m_cells])), (m_tape, .inl (E.2.1 1, 160, .inl f_tape))]) ?_ rfl rfl rfl
                      refine ww_goto (tgt := 0) C dX12_readAfters_117 (by decide) ?_
                      exact ww_lv [0] rfl (ww_sub [4, 5, 2, 3, 0, 1] rfl rfl (ih_0 2 sp2_19 pl2_20 tk2_21 vl2_22 p1 v1 w1 (nI pl2_20) g_af g_ao (by omega) (by omega) (by omega) (by omega) (by omega) (fun h => absurd h (by decide)) (fun _ => ⟨_, rfl, by omega, hgo_2.trans (ah_b2 (by omega) hgo_1 (by omega) h_28 (by first | (left; omega) | (right; have h9 := h_29 (by omega); omega)))⟩) hka hko hnb_m_afters_0 hnb_m_afterOf_0 (by first | omega | (have h8 := cN_s (by omega) (by assumption : upd g_af 8 _ = _); omega))))
                    · refine ex4 hw ?_
                      clear hw
                      intro sp2_113 pl2_114 tk2_115 vl2_116 hw
                      refine an7 hw ?_
                      clear hw
                      intro he_124 h_117 h_118 h_119 h_120 h_121 h_122 hw
                      have h_123 := hw
                      clear hw
                      subst he_124
                      omega
                    · refine ex4 hw ?_
                      clear hw
                      intro sp2_125 pl2_126 tk2_127 vl2_128 hw
                      refine an6 hw ?_
                      clear hw
                      intro he_135 h_129 h_130 h_131 h_132 h_133 hw
                      have h_134 := hw
                      clear hw
                      subst he_135
                      omega
                  · refine an1 hw ?_
                    clear hw
                    intro he_109 hw
                    have h_108 := hw
                    clear hw
                    subst he_109
                    omega
              · refine ex4 hw ?_
                clear hw
                intro sp2_31 pl2_32 tk2_33 vl2_34 hw
                refine an6 hw ?_
                clear hw
                intro he_41 h_35 h_36 h_37 h_38 h_39 hw
                have h_40 := hw
                clear hw
                subst he_41
                refine ww_eq (ws' := [(m_afters, .inl (E.2.1 1, 9, .inl g_af)), (m_afterOf, .inl (E.2.1 1, 18, .inl g_ao)), (m_ends, .inl (E.2.1 1, 15, .inl f_ends)), (m_letters, .inl (E.2.1 1, 50, .inl f_letters)), (hm, .inr (12, [.ref m_manys, .ref m_reals, .ref m_factsOf, .ref m_possible, .int (nI q_undos), .int (nI q_models), .ref m_tape, .int (nI q_taped), .int q_fault, .int 1, .int (nI pl2_32), .int (nI sp2_31), .int (nI pl2_32), .int (nI tk2_33), .int (nI vl2_34), .ref m_ends, .ref m_letters, .ref m_actOf, .ref m_whom, .ref m_actMany, .ref m_tokens, .ref m_afters, .ref m_afterOf, .int q_counted, .ref m_pile, .ref m_caseMany, .ref m_happen, .ref m_hasIf, .ref m_becomes, .ref m_goneOf, .ref m_heard, .ref m_pairs, .ref m_heaps, .int q_rounds, .int q_heapMany, .ref m_led, .ref m_newAt, .ref m_knowing, .ref m_firsts, .int (nI q_people), .ref m_secrets, .ref m_tried, .ref m_lanes, .ref m_lengths, .ref m_cells])), (m_tape, .inl (E.2.1 1, 160, .inl f_tape))]) ?_ rfl rfl rfl
                refine ww_aload_n C dX12_readAfters_36 0 rfl rfl ?_
                refine ww_get C fg_X12_157 4 rfl rfl dX12_readAfters_37 ?_
                refine ww_if_ne_t (tgt := 56) C dX12_readAfters_40 (by decide) (by decide) ?_
                refine ww_aload_n C dX12_readAfters_56 0 rfl rfl ?_
                refine ww_get C fg_X12_157 4 rfl rfl dX12_readAfters_57 ?_
                refine ww_if_ne_t (tgt := 76) C dX12_readAfters_60 (by decide) (by decide) ?_
                refine ww_aload_n C dX12_readAfters_76 0 rfl rfl ?_
                refine ww_get C fg_X12_157 4 rfl rfl dX12_readAfters_77 ?_
                refine ww_if_ne_t (tgt := 113) C dX12_readAfters_80 (by decide) (by decide) ?_
                refine ww_aload_n C dX12_readAfters_113 0 rfl rfl ?_
                refine ww_cv (wr := [(m_afters, .inl (E.2.1 1, 9, .inl g_af)), (m_afterOf, .inl (E.2.1 1, 18, .inl g_ao)), (m_ends, .inl (E.2.1 1, 15, .inl f_ends)), (m_letters, .inl (E.2.1 1, 50, .inl f_letters))]) (k' := 0) (n' := 0) C (run_V (As := []) (rest := []) C (r_next X.2.1 E ro hm m_manys m_reals m_factsOf m_possible q_undos q_models m_tape q_taped q_fault 1 (nI pl2_32) sp2_31 (nI pl2_32) tk2_33 vl2_34 m_ends m_letters m_actOf m_whom m_actMany m_tokens m_afters m_afterOf q_counted m_pile m_caseMany m_happen m_hasIf m_becomes m_goneOf m_heard m_pairs m_heaps q_rounds q_heapMany m_led m_newAt m_knowing m_firsts q_people m_secrets m_tried m_lanes m_lengths m_cells f_tape hb_tape (by omega) (by omega) (by omega) (by omega) (by omega)) mi_X12_next wl_X12_201 rfl 0 12 rfl rfl rfl rfl rfl dX12_readAfters_114) (roK hro) [4, 5] [0, 1, 2, 3] rfl rfl rfl rfl (fun uz hw => ?_)
                rcases hw with hw | hw | hw
                · refine an1 hw ?_
                  clear hw
                  intro he_138 hw
                  have h_137 := hw
                  clear hw
                  subst he_138
                  refine ww_eq (ws' := [(m_afters, .inl (E.2.1 1, 9, .inl g_af)), (m_afterOf, .inl (E.2.1 1, 18, .inl g_ao)), (m_ends, .inl (E.2.1 1, 15, .inl f_ends)), (m_letters, .inl (E.2.1 1, 50, .inl f_letters)), (hm, .inr (12, [.ref m_manys, .ref m_reals, .ref m_factsOf, .ref m_possible, .int (nI q_undos), .int (nI q_models), .ref m_tape, .int (nI q_taped), .int q_fault, .int 1, .int (nI pl2_32), .int (nI sp2_31), .int (nI pl2_32), .int (nI tk2_33), .int (nI vl2_34), .ref m_ends, .ref m_letters, .ref m_actOf, .ref m_whom, .ref m_actMany, .ref m_tokens, .ref m_afters, .ref m_afterOf, .int q_counted, .ref m_pile, .ref m_caseMany, .ref m_happen, .ref m_hasIf, .ref m_becomes, .ref m_goneOf, .ref m_heard, .ref m_pairs, .ref m_heaps, .int q_rounds, .int q_heapMany, .ref m_led, .ref m_newAt, .ref m_knowing, .ref m_firsts, .int (nI q_people), .ref m_secrets, .ref m_tried, .ref m_lanes, .ref m_lengths, .ref m_cells])), (m_tape, .inl (E.2.1 1, 160, .inl f_tape))]) ?_ rfl rfl rfl
                  refine ww_goto (tgt := 0) C dX12_readAfters_117 (by decide) ?_
                  exact ww_lv [0] rfl (ww_sub [4, 5, 2, 3, 0, 1] rfl rfl (ih_0 1 sp2_31 pl2_32 tk2_33 vl2_34 p1 v1 w1 (nI pl2_32) g_af g_ao (by omega) (by omega) (by omega) (by omega) (by omega) (fun h => absurd h (by decide)) (fun _ => ⟨_, rfl, by omega, by rw [h_40.2]; exact hgo_2.trans (ah_b2 (by omega) hgo_1 (by omega) TK.self (Or.inl (by rw [h_40.1]; decide)))⟩) hka hko hnb_m_afters_0 hnb_m_afterOf_0 (by first | omega | (have h8 := cN_s (by omega) (by assumption : upd g_af 8 _ = _); omega))))
                · refine ex4 hw ?_
                  clear hw
                  intro sp2_139 pl2_140 tk2_141 vl2_142 hw
                  refine an7 hw ?_
                  clear hw
                  intro he_150 h_143 h_144 h_145 h_146 h_147 h_148 hw
                  have h_149 := hw
                  clear hw
                  subst he_150
                  omega
                · refine ex4 hw ?_
                  clear hw
                  intro sp2_151 pl2_152 tk2_153 vl2_154 hw
                  refine an6 hw ?_
                  clear hw
                  intro he_161 h_155 h_156 h_157 h_158 h_159 hw
                  have h_160 := hw
                  clear hw
                  subst he_161
                  omega
            · have zc_15 : ((cN g_af 8 : Nat) : Int) = 2 := i_eq (nI_toInt (n := cN g_af 8) (by omega)) rfl c_15
              refine ww_aload_n C dX12_readAfters_27 0 rfl rfl ?_
              refine ww_iconst (v := 4) C dX12_readAfters_28 rfl ?_
              refine ww_cv (wr := [(m_afters, .inl (E.2.1 1, 9, .inl g_af)), (m_afterOf, .inl (E.2.1 1, 18, .inl g_ao)), (m_tape, .inl (E.2.1 1, 160, .inl f_tape)), (m_ends, .inl (E.2.1 1, 15, .inl f_ends)), (m_letters, .inl (E.2.1 1, 50, .inl f_letters))]) (k' := 0) (n' := 0) C (run_V (As := [.int 4]) (rest := []) C (r_fails X.2.1 E ro hm 4 m_manys m_reals m_factsOf m_possible q_undos q_models m_tape q_taped q_fault 0 wa1 (nI sp1) (nI pl1) (nI tk1) (nI vl1) m_ends m_letters m_actOf m_whom m_actMany m_tokens m_afters m_afterOf q_counted m_pile m_caseMany m_happen m_hasIf m_becomes m_goneOf m_heard m_pairs m_heaps q_rounds q_heapMany m_led m_newAt m_knowing m_firsts q_people m_secrets m_tried m_lanes m_lengths m_cells (by omega)) mi_X12_fails wl_X12_186 rfl 0 12 rfl rfl rfl rfl rfl dX12_readAfters_29) (roK hro) [2] [0, 1, 3, 4, 5] rfl rfl rfl rfl (fun uz hw => ?_)
              rcases hw with hw | hw
              · refine an1 hw ?_
                clear hw
                intro he_164 hw
                have h_163 := hw
                clear hw
                subst he_164
                refine ww_eq (ws' := [(m_afters, .inl (E.2.1 1, 9, .inl g_af)), (m_afterOf, .inl (E.2.1 1, 18, .inl g_ao)), (m_tape, .inl (E.2.1 1, 160, .inl f_tape)), (m_ends, .inl (E.2.1 1, 15, .inl f_ends)), (m_letters, .inl (E.2.1 1, 50, .inl f_letters)), (hm, .inr (12, [.ref m_manys, .ref m_reals, .ref m_factsOf, .ref m_possible, .int (nI q_undos), .int (nI q_models), .ref m_tape, .int (nI q_taped), .int q_fault, .int 4, .int (nI pl1), .int (nI sp1), .int (nI pl1), .int (nI tk1), .int (nI vl1), .ref m_ends, .ref m_letters, .ref m_actOf, .ref m_whom, .ref m_actMany, .ref m_tokens, .ref m_afters, .ref m_afterOf, .int q_counted, .ref m_pile, .ref m_caseMany, .ref m_happen, .ref m_hasIf, .ref m_becomes, .ref m_goneOf, .ref m_heard, .ref m_pairs, .ref m_heaps, .int q_rounds, .int q_heapMany, .ref m_led, .ref m_newAt, .ref m_knowing, .ref m_firsts, .int (nI q_people), .ref m_secrets, .ref m_tried, .ref m_lanes, .ref m_lengths, .ref m_cells]))]) ?_ rfl rfl rfl
                refine ww_aload_n C dX12_readAfters_32 0 rfl rfl ?_
                refine ww_cv (wr := [(m_afters, .inl (E.2.1 1, 9, .inl g_af)), (m_afterOf, .inl (E.2.1 1, 18, .inl g_ao)), (m_ends, .inl (E.2.1 1, 15, .inl f_ends)), (m_letters, .inl (E.2.1 1, 50, .inl f_letters))]) (k' := 0) (n' := 0) C (run_V (As := []) (rest := []) C (r_next X.2.1 E ro hm m_manys m_reals m_factsOf m_possible q_undos q_models m_tape q_taped q_fault 4 (nI pl1) sp1 (nI pl1) tk1 vl1 m_ends m_letters m_actOf m_whom m_actMany m_tokens m_afters m_afterOf q_counted m_pile m_caseMany m_happen m_hasIf m_becomes m_goneOf m_heard m_pairs m_heaps q_rounds q_heapMany m_led m_newAt m_knowing m_firsts q_people m_secrets m_tried m_lanes m_lengths m_cells f_tape hb_tape (by omega) (by omega) (by omega) (by omega) (by omega)) mi_X12_next wl_X12_201 rfl 0 12 rfl rfl rfl rfl rfl dX12_readAfters_33) (roK hro) [5, 2] [0, 1, 3, 4] rfl rfl rfl rfl (fun uz hw => ?_)
                rcases hw with hw | hw | hw
                · refine an1 hw ?_
                  clear hw
                  intro he_169 hw
                  have h_168 := hw
                  clear hw
                  subst he_169
                  refine ww_eq (ws' := [(m_afters, .inl (E.2.1 1, 9, .inl g_af)), (m_afterOf, .inl (E.2.1 1, 18, .inl g_ao)), (m_ends, .inl (E.2.1 1, 15, .inl f_ends)), (m_letters, .inl (E.2.1 1, 50, .inl f_letters)), (hm, .inr (12, [.ref m_manys, .ref m_reals, .ref m_factsOf, .ref m_possible, .int (nI q_undos), .int (nI q_models), .ref m_tape, .int (nI q_taped), .int q_fault, .int 4, .int (nI pl1), .int (nI sp1), .int (nI pl1), .int (nI tk1), .int (nI vl1), .ref m_ends, .ref m_letters, .ref m_actOf, .ref m_whom, .ref m_actMany, .ref m_tokens, .ref m_afters, .ref m_afterOf, .int q_counted, .ref m_pile, .ref m_caseMany, .ref m_happen, .ref m_hasIf, .ref m_becomes, .ref m_goneOf, .ref m_heard, .ref m_pairs, .ref m_heaps, .int q_rounds, .int q_heapMany, .ref m_led, .ref m_newAt, .ref m_knowing, .ref m_firsts, .int (nI q_people), .ref m_secrets, .ref m_tried, .ref m_lanes, .ref m_lengths, .ref m_cells])), (m_tape, .inl (E.2.1 1, 160, .inl f_tape))]) ?_ rfl rfl rfl
                  refine ww_aload_n C dX12_readAfters_36 0 rfl rfl ?_
                  refine ww_get C fg_X12_157 4 rfl rfl dX12_readAfters_37 ?_
                  refine ww_if_ne_t (tgt := 56) C dX12_readAfters_40 (by decide) (by decide) ?_
                  refine ww_aload_n C dX12_readAfters_56 0 rfl rfl ?_
                  refine ww_get C fg_X12_157 4 rfl rfl dX12_readAfters_57 ?_
                  refine ww_if_ne_t (tgt := 76) C dX12_readAfters_60 (by decide) (by decide) ?_
                  refine ww_aload_n C dX12_readAfters_76 0 rfl rfl ?_
                  refine ww_get C fg_X12_157 4 rfl rfl dX12_readAfters_77 ?_
                  refine ww_if_ne_t (tgt := 113) C dX12_readAfters_80 (by decide) (by decide) ?_
                  refine ww_aload_n C dX12_readAfters_113 0 rfl rfl ?_
                  refine ww_cv (wr := [(m_afters, .inl (E.2.1 1, 9, .inl g_af)), (m_afterOf, .inl (E.2.1 1, 18, .inl g_ao)), (m_ends, .inl (E.2.1 1, 15, .inl f_ends)), (m_letters, .inl (E.2.1 1, 50, .inl f_letters))]) (k' := 0) (n' := 0) C (run_V (As := []) (rest := []) C (r_next X.2.1 E ro hm m_manys m_reals m_factsOf m_possible q_undos q_models m_tape q_taped q_fault 4 (nI pl1) sp1 (nI pl1) tk1 vl1 m_ends m_letters m_actOf m_whom m_actMany m_tokens m_afters m_afterOf q_counted m_pile m_caseMany m_happen m_hasIf m_becomes m_goneOf m_heard m_pairs m_heaps q_rounds q_heapMany m_led m_newAt m_knowing m_firsts q_people m_secrets m_tried m_lanes m_lengths m_cells f_tape hb_tape (by omega) (by omega) (by omega) (by omega) (by omega)) mi_X12_next wl_X12_201 rfl 0 12 rfl rfl rfl rfl rfl dX12_readAfters_114) (roK hro) [4, 5] [0, 1, 2, 3] rfl rfl rfl rfl (fun uz hw => ?_)
                  rcases hw with hw | hw | hw
                  · refine an1 hw ?_
                    clear hw
                    intro he_195 hw
                    have h_194 := hw
                    clear hw
                    subst he_195
                    refine ww_eq (ws' := [(m_afters, .inl (E.2.1 1, 9, .inl g_af)), (m_afterOf, .inl (E.2.1 1, 18, .inl g_ao)), (m_ends, .inl (E.2.1 1, 15, .inl f_ends)), (m_letters, .inl (E.2.1 1, 50, .inl f_letters)), (hm, .inr (12, [.ref m_manys, .ref m_reals, .ref m_factsOf, .ref m_possible, .int (nI q_undos), .int (nI q_models), .ref m_tape, .int (nI q_taped), .int q_fault, .int 4, .int (nI pl1), .int (nI sp1), .int (nI pl1), .int (nI tk1), .int (nI vl1), .ref m_ends, .ref m_letters, .ref m_actOf, .ref m_whom, .ref m_actMany, .ref m_tokens, .ref m_afters, .ref m_afterOf, .int q_counted, .ref m_pile, .ref m_caseMany, .ref m_happen, .ref m_hasIf, .ref m_becomes, .ref m_goneOf, .ref m_heard, .ref m_pairs, .ref m_heaps, .int q_rounds, .int q_heapMany, .ref m_led, .ref m_newAt, .ref m_knowing, .ref m_firsts, .int (nI q_people), .ref m_secrets, .ref m_tried, .ref m_lanes, .ref m_lengths, .ref m_cells])), (m_tape, .inl (E.2.1 1, 160, .inl f_tape))]) ?_ rfl rfl rfl
                    refine ww_goto (tgt := 0) C dX12_readAfters_117 (by decide) ?_
                    exact ww_lv [0] rfl (ww_sub [4, 5, 2, 3, 0, 1] rfl rfl (ih_0 4 sp1 pl1 tk1 vl1 p1 v1 w1 (nI pl1) g_af g_ao (by omega) (by omega) (by omega) (by omega) (by omega) (fun h => absurd h (by decide)) (fun _ => ⟨_, rfl, by omega, hgo_2.trans (ah_b1 (by omega) hgo_1 (by omega))⟩) hka hko hnb_m_afters_0 hnb_m_afterOf_0 (by first | omega | (have h8 := cN_s (by omega) (by assumption : upd g_af 8 _ = _); omega))))
                  · refine ex4 hw ?_
                    clear hw
                    intro sp2_196 pl2_197 tk2_198 vl2_199 hw
                    refine an7 hw ?_
                    clear hw
                    intro he_207 h_200 h_201 h_202 h_203 h_204 h_205 hw
                    have h_206 := hw
                    clear hw
                    subst he_207
                    omega
                  · refine ex4 hw ?_
                    clear hw
                    intro sp2_208 pl2_209 tk2_210 vl2_211 hw
                    refine an6 hw ?_
                    clear hw
                    intro he_218 h_212 h_213 h_214 h_215 h_216 hw
                    have h_217 := hw
                    clear hw
                    subst he_218
                    omega
                · refine ex4 hw ?_
                  clear hw
                  intro sp2_170 pl2_171 tk2_172 vl2_173 hw
                  refine an7 hw ?_
                  clear hw
                  intro he_181 h_174 h_175 h_176 h_177 h_178 h_179 hw
                  have h_180 := hw
                  clear hw
                  subst he_181
                  omega
                · refine ex4 hw ?_
                  clear hw
                  intro sp2_182 pl2_183 tk2_184 vl2_185 hw
                  refine an6 hw ?_
                  clear hw
                  intro he_192 h_186 h_187 h_188 h_189 h_190 hw
                  have h_191 := hw
                  clear hw
                  subst he_192
                  omega
              · refine an1 hw ?_
                clear hw
                intro he_166 hw
                have h_165 := hw
                clear hw
                subst he_166
                omega
  exact ww_lv [0] rfl (ww_sub [0, 1, 2, 3, 4, 5] rfl rfl (loop_0 _ 0 q_spot q_place q_token q_value p_ 0 0 q_wrongAt f_afters f_afterOf (by omega) (by omega) (by omega) (by omega) (by omega) (fun _ => ⟨htR, by rw [haf0], AO.nil haf0⟩) (fun h => absurd h (by omega)) KP.rf KP.rf hb_afters hb_afterOf (Nat.lt_succ_self _)))
theorem dX12_copyActs_0 : decode cX12_copyActs 0 = .ok (.aload_n 0, 1) := dl_42 (by decide +kernel)
theorem dX12_copyActs_1 : decode cX12_copyActs 1 = .ok (.getfield 37, 3) := dl_180 (by decide +kernel)
theorem dX12_copyActs_4 : decode cX12_copyActs 4 = .ok (.iload_n 2, 1) := dl_28 (by decide +kernel)
theorem dX12_copyActs_5 : decode cX12_copyActs 5 = .ok (.aload_n 0, 1) := dl_42 (by decide +kernel)
theorem dX12_copyActs_6 : decode cX12_copyActs 6 = .ok (.getfield 37, 3) := dl_180 (by decide +kernel)
theorem dX12_copyActs_9 : decode cX12_copyActs 9 = .ok (.iload_n 1, 1) := dl_27 (by decide +kernel)
theorem dX12_copyActs_10 : decode cX12_copyActs 10 = .ok (.iaload, 1) := dl_46 (by decide +kernel)
theorem dX12_copyActs_11 : decode cX12_copyActs 11 = .ok (.iastore, 1) := dl_79 (by decide +kernel)
theorem dX12_copyActs_12 : decode cX12_copyActs 12 = .ok (.iconst 0, 1) := dl_3 (by decide +kernel)
theorem dX12_copyActs_13 : decode cX12_copyActs 13 = .ok (.istore_n 3, 1) := dl_62 (by decide +kernel)
theorem dX12_copyActs_14 : decode cX12_copyActs 14 = .ok (.iload_n 3, 1) := dl_29 (by decide +kernel)
theorem dX12_copyActs_15 : decode cX12_copyActs 15 = .ok (.bipush 32, 2) := dl_16 (by decide +kernel)
theorem dX12_copyActs_17 : decode cX12_copyActs 17 = .ok (.if_icmp .ge 53, 3) := dl_162 (by decide +kernel)
theorem dX12_copyActs_70 : decode cX12_copyActs 70 = .ok (.return_, 1) := dl_177 (by decide +kernel)
theorem dX12_copyActs_20 : decode cX12_copyActs 20 = .ok (.aload_n 0, 1) := dl_42 (by decide +kernel)
theorem dX12_copyActs_21 : decode cX12_copyActs 21 = .ok (.getfield 31, 3) := dl_180 (by decide +kernel)
theorem dX12_copyActs_24 : decode cX12_copyActs 24 = .ok (.bipush 32, 2) := dl_16 (by decide +kernel)
theorem dX12_copyActs_26 : decode cX12_copyActs 26 = .ok (.iload_n 2, 1) := dl_28 (by decide +kernel)
theorem dX12_copyActs_27 : decode cX12_copyActs 27 = .ok (.imul, 1) := dl_104 (by decide +kernel)
theorem dX12_copyActs_28 : decode cX12_copyActs 28 = .ok (.iload_n 3, 1) := dl_29 (by decide +kernel)
theorem dX12_copyActs_29 : decode cX12_copyActs 29 = .ok (.iadd, 1) := dl_96 (by decide +kernel)
theorem dX12_copyActs_30 : decode cX12_copyActs 30 = .ok (.aload_n 0, 1) := dl_42 (by decide +kernel)
theorem dX12_copyActs_31 : decode cX12_copyActs 31 = .ok (.getfield 31, 3) := dl_180 (by decide +kernel)
theorem dX12_copyActs_34 : decode cX12_copyActs 34 = .ok (.bipush 32, 2) := dl_16 (by decide +kernel)
theorem dX12_copyActs_36 : decode cX12_copyActs 36 = .ok (.iload_n 1, 1) := dl_27 (by decide +kernel)
theorem dX12_copyActs_37 : decode cX12_copyActs 37 = .ok (.imul, 1) := dl_104 (by decide +kernel)
theorem dX12_copyActs_38 : decode cX12_copyActs 38 = .ok (.iload_n 3, 1) := dl_29 (by decide +kernel)
theorem dX12_copyActs_39 : decode cX12_copyActs 39 = .ok (.iadd, 1) := dl_96 (by decide +kernel)
theorem dX12_copyActs_40 : decode cX12_copyActs 40 = .ok (.iaload, 1) := dl_46 (by decide +kernel)
theorem dX12_copyActs_41 : decode cX12_copyActs 41 = .ok (.iastore, 1) := dl_79 (by decide +kernel)
theorem dX12_copyActs_42 : decode cX12_copyActs 42 = .ok (.aload_n 0, 1) := dl_42 (by decide +kernel)
theorem dX12_copyActs_43 : decode cX12_copyActs 43 = .ok (.getfield 34, 3) := dl_180 (by decide +kernel)
theorem dX12_copyActs_46 : decode cX12_copyActs 46 = .ok (.bipush 32, 2) := dl_16 (by decide +kernel)
theorem dX12_copyActs_48 : decode cX12_copyActs 48 = .ok (.iload_n 2, 1) := dl_28 (by decide +kernel)
theorem dX12_copyActs_49 : decode cX12_copyActs 49 = .ok (.imul, 1) := dl_104 (by decide +kernel)
theorem dX12_copyActs_50 : decode cX12_copyActs 50 = .ok (.iload_n 3, 1) := dl_29 (by decide +kernel)
theorem dX12_copyActs_51 : decode cX12_copyActs 51 = .ok (.iadd, 1) := dl_96 (by decide +kernel)
theorem dX12_copyActs_52 : decode cX12_copyActs 52 = .ok (.aload_n 0, 1) := dl_42 (by decide +kernel)
theorem dX12_copyActs_53 : decode cX12_copyActs 53 = .ok (.getfield 34, 3) := dl_180 (by decide +kernel)
theorem dX12_copyActs_56 : decode cX12_copyActs 56 = .ok (.bipush 32, 2) := dl_16 (by decide +kernel)
theorem dX12_copyActs_58 : decode cX12_copyActs 58 = .ok (.iload_n 1, 1) := dl_27 (by decide +kernel)
theorem dX12_copyActs_59 : decode cX12_copyActs 59 = .ok (.imul, 1) := dl_104 (by decide +kernel)
theorem dX12_copyActs_60 : decode cX12_copyActs 60 = .ok (.iload_n 3, 1) := dl_29 (by decide +kernel)
theorem dX12_copyActs_61 : decode cX12_copyActs 61 = .ok (.iadd, 1) := dl_96 (by decide +kernel)
theorem dX12_copyActs_62 : decode cX12_copyActs 62 = .ok (.iaload, 1) := dl_46 (by decide +kernel)
theorem dX12_copyActs_63 : decode cX12_copyActs 63 = .ok (.iastore, 1) := dl_79 (by decide +kernel)
theorem dX12_copyActs_64 : decode cX12_copyActs 64 = .ok (.iinc 3 1, 3) := dl_132 (by decide +kernel)
theorem dX12_copyActs_67 : decode cX12_copyActs 67 = .ok (.goto (-53), 3) := dl_167 (by decide +kernel)
set_option maxRecDepth 100000 in
set_option maxHeartbeats 4000000 in
theorem r_copyActs (l : Launch) (E : EV) (ro : va_W) (hm : Nat) (fr : Nat) (to : Nat) (m_manys : Nat) (m_reals : Nat) (m_factsOf : Nat) (m_possible : Nat) (q_undos : Nat) (q_models : Nat) (m_tape : Nat) (q_taped : Nat) (q_fault : Int32) (q_wrong : Int32) (q_wrongAt : Int32) (q_spot : Int32) (q_place : Int32) (q_token : Int32) (q_value : Int32) (m_ends : Nat) (m_letters : Nat) (m_actOf : Nat) (m_whom : Nat) (m_actMany : Nat) (m_tokens : Nat) (m_afters : Nat) (m_afterOf : Nat) (q_counted : Int32) (m_pile : Nat) (m_caseMany : Nat) (m_happen : Nat) (m_hasIf : Nat) (m_becomes : Nat) (m_goneOf : Nat) (m_heard : Nat) (m_pairs : Nat) (m_heaps : Nat) (q_rounds : Int32) (q_heapMany : Int32) (m_led : Nat) (m_newAt : Nat) (m_knowing : Nat) (m_firsts : Nat) (q_people : Nat) (m_secrets : Nat) (m_tried : Nat) (m_lanes : Nat) (m_lengths : Nat) (m_cells : Nat) (f_actMany : Nat → Int32) (f_actOf : Nat → Int32) (f_whom : Nat → Int32) (hb_actMany : NB 25 32 f_actMany) (hsv : SV f_actOf f_actMany) (hfr0 : fr < 25) (hto : to < 25) (hfr : WR (cN f_actMany fr) (slot f_actOf fr)) : CT l yX12_copyActs (Cond.code yX12_copyActs cX12_copyActs 4 none :: TB) ({ frames := 0, cells := 0, slots := 0, locals := 0 }) E ro [.ref hm, .int (nI fr), .int (nI to)] [(hm, .inr (12, [.ref m_manys, .ref m_reals, .ref m_factsOf, .ref m_possible, .int (nI q_undos), .int (nI q_models), .ref m_tape, .int (nI q_taped), .int q_fault, .int q_wrong, .int q_wrongAt, .int q_spot, .int q_place, .int q_token, .int q_value, .ref m_ends, .ref m_letters, .ref m_actOf, .ref m_whom, .ref m_actMany, .ref m_tokens, .ref m_afters, .ref m_afterOf, .int q_counted, .ref m_pile, .ref m_caseMany, .ref m_happen, .ref m_hasIf, .ref m_becomes, .ref m_goneOf, .ref m_heard, .ref m_pairs, .ref m_heaps, .int q_rounds, .int q_heapMany, .ref m_led, .ref m_newAt, .ref m_knowing, .ref m_firsts, .int (nI q_people), .ref m_secrets, .ref m_tried, .ref m_lanes, .ref m_lengths, .ref m_cells])), (m_actMany, .inl (E.2.1 1, 25, .inl f_actMany)), (m_actOf, .inl (E.2.1 1, 800, .inl f_actOf)), (m_whom, .inl (E.2.1 1, 800, .inl f_whom))] (Qv E (fun uz => (∃ (f_actManyz : Nat → Int32) (f_actOfz : Nat → Int32) (f_whomz : Nat → Int32), uz = [(hm, .inr (12, [.ref m_manys, .ref m_reals, .ref m_factsOf, .ref m_possible, .int (nI q_undos), .int (nI q_models), .ref m_tape, .int (nI q_taped), .int q_fault, .int q_wrong, .int q_wrongAt, .int q_spot, .int q_place, .int q_token, .int q_value, .ref m_ends, .ref m_letters, .ref m_actOf, .ref m_whom, .ref m_actMany, .ref m_tokens, .ref m_afters, .ref m_afterOf, .int q_counted, .ref m_pile, .ref m_caseMany, .ref m_happen, .ref m_hasIf, .ref m_becomes, .ref m_goneOf, .ref m_heard, .ref m_pairs, .ref m_heaps, .int q_rounds, .int q_heapMany, .ref m_led, .ref m_newAt, .ref m_knowing, .ref m_firsts, .int (nI q_people), .ref m_secrets, .ref m_tried, .ref m_lanes, .ref m_lengths, .ref m_cells])), (m_actMany, .inl (E.2.1 1, 25, .inl f_actManyz)), (m_actOf, .inl (E.2.1 1, 800, .inl f_actOfz)), (m_whom, .inl (E.2.1 1, 800, .inl f_whomz))] ∧ (NB 25 32 f_actManyz) ∧ (SV f_actOfz f_actManyz) ∧ (upd f_actMany to (nI (cN f_actMany fr)) = f_actManyz) ∧ (CPG 32 fr to 32 f_actOf f_actOfz) ∧ (CPG 32 fr to 32 f_whom f_whomz)))) 0 0 := by
  refine ct_of rfl rfl ?_
  intro X C hT hin hro
  show WW X 4 E 0 [(0, .ref hm), (1, .int (nI fr)), (2, .int (nI to))] [] [(hm, .inr (12, [.ref m_manys, .ref m_reals, .ref m_factsOf, .ref m_possible, .int (nI q_undos), .int (nI q_models), .ref m_tape, .int (nI q_taped), .int q_fault, .int q_wrong, .int q_wrongAt, .int q_spot, .int q_place, .int q_token, .int q_value, .ref m_ends, .ref m_letters, .ref m_actOf, .ref m_whom, .ref m_actMany, .ref m_tokens, .ref m_afters, .ref m_afterOf, .int q_counted, .ref m_pile, .ref m_caseMany, .ref m_happen, .ref m_hasIf, .ref m_becomes, .ref m_goneOf, .ref m_heard, .ref m_pairs, .ref m_heaps, .int q_rounds, .int q_heapMany, .ref m_led, .ref m_newAt, .ref m_knowing, .ref m_firsts, .int (nI q_people), .ref m_secrets, .ref m_tried, .ref m_lanes, .ref m_lengths, .ref m_cells])), (m_actMany, .inl (E.2.1 1, 25, .inl f_actMany)), (m_actOf, .inl (E.2.1 1, 800, .inl f_actOf)), (m_whom, .inl (E.2.1 1, 800, .inl f_whom))] 0 0
  have hfr1 := hfr.1
  refine ww_aload_n C dX12_copyActs_0 0 rfl rfl ?_
  refine ww_get C fg_X12_37 0 rfl rfl dX12_copyActs_1 ?_
  refine ww_iload_n C dX12_copyActs_4 2 rfl rfl ?_
  refine ww_aload_n C dX12_copyActs_5 0 rfl rfl ?_
  refine ww_get C fg_X12_37 0 rfl rfl dX12_copyActs_6 ?_
  refine ww_iload_n C dX12_copyActs_9 1 rfl rfl ?_
  have hbx_1 := (hb_actMany fr (by omega)).2
  refine ww_iald (v := (nI (cN f_actMany fr))) C 1 rfl (vp_in_nI (by omega) (by omega)) (ldn (by omega) (hb_actMany fr (by omega)).1) dX12_copyActs_10 ?_
  obtain ⟨f_2, ef_2⟩ : ∃ z : Nat → Int32, upd f_actMany to (nI (cN f_actMany fr)) = z := ⟨_, rfl⟩
  refine ww_iast (ws' := [(hm, .inr (12, [.ref m_manys, .ref m_reals, .ref m_factsOf, .ref m_possible, .int (nI q_undos), .int (nI q_models), .ref m_tape, .int (nI q_taped), .int q_fault, .int q_wrong, .int q_wrongAt, .int q_spot, .int q_place, .int q_token, .int q_value, .ref m_ends, .ref m_letters, .ref m_actOf, .ref m_whom, .ref m_actMany, .ref m_tokens, .ref m_afters, .ref m_afterOf, .int q_counted, .ref m_pile, .ref m_caseMany, .ref m_happen, .ref m_hasIf, .ref m_becomes, .ref m_goneOf, .ref m_heard, .ref m_pairs, .ref m_heaps, .int q_rounds, .int q_heapMany, .ref m_led, .ref m_newAt, .ref m_knowing, .ref m_firsts, .int (nI q_people), .ref m_secrets, .ref m_tried, .ref m_lanes, .ref m_lengths, .ref m_cells])), (m_actMany, .inl (E.2.1 1, 25, .inl f_2)), (m_actOf, .inl (E.2.1 1, 800, .inl f_actOf)), (m_whom, .inl (E.2.1 1, 800, .inl f_whom))]) C 1 rfl (vp_in_nI (by omega) (by omega)) (ldn2 (by omega) ef_2) rfl dX12_copyActs_11 ?_
  refine ww_iconst (v := 0) C dX12_copyActs_12 rfl ?_
  refine ww_istore_n (lv' := [(3, .int 0), (0, .ref hm), (1, .int (nI fr)), (2, .int (nI to))]) C dX12_copyActs_13 rfl rfl rfl ?_
  have loop_14 : ∀ (fu : Nat) (i1 : Nat) (g1 : Nat → Int32) (g2 : Nat → Int32), (i1 ≤ 32) → (CPG 32 fr to i1 f_actOf g1) → (CPG 32 fr to i1 f_whom g2) → 32 - i1 < fu → WW X 4 E 14 [(3, .int (nI i1)), (0, .ref hm), (1, .int (nI fr)), (2, .int (nI to))] [] [(hm, .inr (12, [.ref m_manys, .ref m_reals, .ref m_factsOf, .ref m_possible, .int (nI q_undos), .int (nI q_models), .ref m_tape, .int (nI q_taped), .int q_fault, .int q_wrong, .int q_wrongAt, .int q_spot, .int q_place, .int q_token, .int q_value, .ref m_ends, .ref m_letters, .ref m_actOf, .ref m_whom, .ref m_actMany, .ref m_tokens, .ref m_afters, .ref m_afterOf, .int q_counted, .ref m_pile, .ref m_caseMany, .ref m_happen, .ref m_hasIf, .ref m_becomes, .ref m_goneOf, .ref m_heard, .ref m_pairs, .ref m_heaps, .int q_rounds, .int q_heapMany, .ref m_led, .ref m_newAt, .ref m_knowing, .ref m_firsts, .int (nI q_people), .ref m_secrets, .ref m_tried, .ref m_lanes, .ref m_lengths, .ref m_cells])), (m_actMany, .inl (E.2.1 1, 25, .inl f_2)), (m_actOf, .inl (E.2.1 1, 800, .inl g1)), (m_whom, .inl (E.2.1 1, 800, .inl g2))] 0 0 := by
    intro fu
    induction fu with
    | zero => intro i1 g1 g2 hi1 hc_g1 hc_g2 hmeas; exact absurd hmeas (Nat.not_lt_zero _)
    | succ fu ih_14 =>
      intro i1 g1 g2 hi1 hc_g1 hc_g2 hmeas
      refine ww_iload_n C dX12_copyActs_14 0 rfl rfl ?_
      refine ww_bipush (v := 32) C dX12_copyActs_15 rfl ?_
      refine ww_icmp_ge (tgt := 70) C dX12_copyActs_17 (by decide) (fun c_3 => ?_) (fun c_3 => ?_)
      · have zc_3 : ((i1 : Nat) : Int) ≥ 32 := i_le rfl (nI_toInt (n := i1) (by omega)) c_3
        exact ww_vret (u := [(hm, .inr (12, [.ref m_manys, .ref m_reals, .ref m_factsOf, .ref m_possible, .int (nI q_undos), .int (nI q_models), .ref m_tape, .int (nI q_taped), .int q_fault, .int q_wrong, .int q_wrongAt, .int q_spot, .int q_place, .int q_token, .int q_value, .ref m_ends, .ref m_letters, .ref m_actOf, .ref m_whom, .ref m_actMany, .ref m_tokens, .ref m_afters, .ref m_afterOf, .int q_counted, .ref m_pile, .ref m_caseMany, .ref m_happen, .ref m_hasIf, .ref m_becomes, .ref m_goneOf, .ref m_heard, .ref m_pairs, .ref m_heaps, .int q_rounds, .int q_heapMany, .ref m_led, .ref m_newAt, .ref m_knowing, .ref m_firsts, .int (nI q_people), .ref m_secrets, .ref m_tried, .ref m_lanes, .ref m_lengths, .ref m_cells])), (m_actMany, .inl (E.2.1 1, 25, .inl f_2)), (m_actOf, .inl (E.2.1 1, 800, .inl g1)), (m_whom, .inl (E.2.1 1, 800, .inl g2))]) C hT [0, 1, 2, 3] rfl rfl rfl rfl dX12_copyActs_70 (⟨f_2, g1, g2, rfl, (NB.put hb_actMany (t := cN f_actMany fr) (by omega) (by decide) ef_2), (SV.copy hsv hfr (by omega) (by have h9 : i1 = 32 := (by omega); rw [h9] at hc_g1; exact hc_g1) ef_2), ef_2, (by have h9 : i1 = 32 := (by omega); rw [h9] at hc_g1; exact hc_g1), (by have h9 : i1 = 32 := (by omega); rw [h9] at hc_g2; exact hc_g2)⟩)
      · have zc_3 : ((i1 : Nat) : Int) < 32 := i_nle rfl (nI_toInt (n := i1) (by omega)) c_3
        refine ww_aload_n C dX12_copyActs_20 1 rfl rfl ?_
        refine ww_get C fg_X12_31 0 rfl rfl dX12_copyActs_21 ?_
        refine ww_bipush (v := 32) C dX12_copyActs_24 rfl ?_
        refine ww_iload_n C dX12_copyActs_26 3 rfl rfl ?_
        refine ww_imul (v := (nI (32 * to))) C dX12_copyActs_27 (pk_mul 32 to) ?_
        refine ww_iload_n C dX12_copyActs_28 0 rfl rfl ?_
        refine ww_iadd (v := (nI ((32 * to) + i1))) C dX12_copyActs_29 (nI_add (32 * to) i1) ?_
        refine ww_aload_n C dX12_copyActs_30 1 rfl rfl ?_
        refine ww_get C fg_X12_31 0 rfl rfl dX12_copyActs_31 ?_
        refine ww_bipush (v := 32) C dX12_copyActs_34 rfl ?_
        refine ww_iload_n C dX12_copyActs_36 2 rfl rfl ?_
        refine ww_imul (v := (nI (32 * fr))) C dX12_copyActs_37 (pk_mul 32 fr) ?_
        refine ww_iload_n C dX12_copyActs_38 0 rfl rfl ?_
        refine ww_iadd (v := (nI ((32 * fr) + i1))) C dX12_copyActs_39 (nI_add (32 * fr) i1) ?_
        obtain ⟨x_4, ex_4⟩ : ∃ z : Int32, g1 ((32 * fr) + i1) = z := ⟨_, rfl⟩
        refine ww_iald (v := x_4) C 2 rfl (vp_in_nI (by omega) (by omega)) (ldn (by omega) ex_4) dX12_copyActs_40 ?_
        obtain ⟨f_5, ef_5⟩ : ∃ z : Nat → Int32, upd g1 ((32 * to) + i1) x_4 = z := ⟨_, rfl⟩
        refine ww_iast (ws' := [(hm, .inr (12, [.ref m_manys, .ref m_reals, .ref m_factsOf, .ref m_possible, .int (nI q_undos), .int (nI q_models), .ref m_tape, .int (nI q_taped), .int q_fault, .int q_wrong, .int q_wrongAt, .int q_spot, .int q_place, .int q_token, .int q_value, .ref m_ends, .ref m_letters, .ref m_actOf, .ref m_whom, .ref m_actMany, .ref m_tokens, .ref m_afters, .ref m_afterOf, .int q_counted, .ref m_pile, .ref m_caseMany, .ref m_happen, .ref m_hasIf, .ref m_becomes, .ref m_goneOf, .ref m_heard, .ref m_pairs, .ref m_heaps, .int q_rounds, .int q_heapMany, .ref m_led, .ref m_newAt, .ref m_knowing, .ref m_firsts, .int (nI q_people), .ref m_secrets, .ref m_tried, .ref m_lanes, .ref m_lengths, .ref m_cells])), (m_actMany, .inl (E.2.1 1, 25, .inl f_2)), (m_actOf, .inl (E.2.1 1, 800, .inl f_5)), (m_whom, .inl (E.2.1 1, 800, .inl g2))]) C 2 rfl (vp_in_nI (by omega) (by omega)) (ldn2 (by omega) ef_5) rfl dX12_copyActs_41 ?_
        refine ww_aload_n C dX12_copyActs_42 1 rfl rfl ?_
        refine ww_get C fg_X12_34 0 rfl rfl dX12_copyActs_43 ?_
        refine ww_bipush (v := 32) C dX12_copyActs_46 rfl ?_
        refine ww_iload_n C dX12_copyActs_48 3 rfl rfl ?_
        refine ww_imul (v := (nI (32 * to))) C dX12_copyActs_49 (pk_mul 32 to) ?_
        refine ww_iload_n C dX12_copyActs_50 0 rfl rfl ?_
        refine ww_iadd (v := (nI ((32 * to) + i1))) C dX12_copyActs_51 (nI_add (32 * to) i1) ?_
        refine ww_aload_n C dX12_copyActs_52 1 rfl rfl ?_
        refine ww_get C fg_X12_34 0 rfl rfl dX12_copyActs_53 ?_
        refine ww_bipush (v := 32) C dX12_copyActs_56 rfl ?_
        refine ww_iload_n C dX12_copyActs_58 2 rfl rfl ?_
        refine ww_imul (v := (nI (32 * fr))) C dX12_copyActs_59 (pk_mul 32 fr) ?_
        refine ww_iload_n C dX12_copyActs_60 0 rfl rfl ?_
        refine ww_iadd (v := (nI ((32 * fr) + i1))) C dX12_copyActs_61 (nI_add (32 * fr) i1) ?_
        obtain ⟨x_6, ex_6⟩ : ∃ z : Int32, g2 ((32 * fr) + i1) = z := ⟨_, rfl⟩
        refine ww_iald (v := x_6) C 3 rfl (vp_in_nI (by omega) (by omega)) (ldn (by omega) ex_6) dX12_copyActs_62 ?_
        obtain ⟨f_7, ef_7⟩ : ∃ z : Nat → Int32, upd g2 ((32 * to) + i1) x_6 = z := ⟨_, rfl⟩
        refine ww_iast (ws' := [(hm, .inr (12, [.ref m_manys, .ref m_reals, .ref m_factsOf, .ref m_possible, .int (nI q_undos), .int (nI q_models), .ref m_tape, .int (nI q_taped), .int q_fault, .int q_wrong, .int q_wrongAt, .int q_spot, .int q_place, .int q_token, .int q_value, .ref m_ends, .ref m_letters, .ref m_actOf, .ref m_whom, .ref m_actMany, .ref m_tokens, .ref m_afters, .ref m_afterOf, .int q_counted, .ref m_pile, .ref m_caseMany, .ref m_happen, .ref m_hasIf, .ref m_becomes, .ref m_goneOf, .ref m_heard, .ref m_pairs, .ref m_heaps, .int q_rounds, .int q_heapMany, .ref m_led, .ref m_newAt, .ref m_knowing, .ref m_firsts, .int (nI q_people), .ref m_secrets, .ref m_tried, .ref m_lanes, .ref m_lengths, .ref m_cells])), (m_actMany, .inl (E.2.1 1, 25, .inl f_2)), (m_actOf, .inl (E.2.1 1, 800, .inl f_5)), (m_whom, .inl (E.2.1 1, 800, .inl f_7))]) C 3 rfl (vp_in_nI (by omega) (by omega)) (ldn2 (by omega) ef_7) rfl dX12_copyActs_63 ?_
        refine ww_iinc (j := 0) (v := (nI (i1 + 1))) (lv' := [(3, .int (nI (i1 + 1))), (0, .ref hm), (1, .int (nI fr)), (2, .int (nI to))]) C dX12_copyActs_64 rfl (nI_add i1 1) rfl rfl ?_
        refine ww_goto (tgt := 14) C dX12_copyActs_67 (by decide) ?_
        exact ww_lv [0, 1, 2, 3] rfl (ww_sub [0, 1, 2, 3] rfl rfl (ih_14 (i1 + 1) f_5 f_7 (by omega) (CPG.ext hc_g1 (by omega) (by assumption) ef_5) (CPG.ext hc_g2 (by omega) (by assumption) ef_7) (by omega)))
  exact ww_lv [0, 1, 2, 3] rfl (ww_sub [0, 1, 2, 3] rfl rfl (loop_14 _ 0 f_actOf f_whom (by omega) CPG.nil CPG.nil (Nat.lt_succ_self _)))
end
