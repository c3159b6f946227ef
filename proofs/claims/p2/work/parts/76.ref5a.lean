theorem dX12_readAfters_0 : decode cX12_readAfters 0 = .ok (.aload_n 0, 1) := by decide +kernel
theorem dX12_readAfters_1 : decode cX12_readAfters 1 = .ok (.getfield 157, 3) := by decide +kernel
theorem dX12_readAfters_4 : decode cX12_readAfters 4 = .ok (.ifCond .ne 116, 3) := by decide +kernel
theorem dX12_readAfters_120 : decode cX12_readAfters 120 = .ok (.return_, 1) := by decide +kernel
set_option maxRecDepth 100000 in
set_option maxHeartbeats 4000000 in
theorem r_readAftersB (l : Launch) (E : EV) (ro : va_W) (hm : Nat) (m_manys : Nat) (m_reals : Nat) (m_factsOf : Nat) (m_possible : Nat) (q_undos : Nat) (q_models : Nat) (m_tape : Nat) (q_taped : Nat) (q_fault : Int32) (q_wrongAt : Int32) (q_spot : Int32) (q_place : Int32) (q_token : Int32) (q_value : Int32) (m_ends : Nat) (m_letters : Nat) (m_actOf : Nat) (m_whom : Nat) (m_actMany : Nat) (m_tokens : Nat) (m_afters : Nat) (m_afterOf : Nat) (q_counted : Int32) (m_pile : Nat) (m_caseMany : Nat) (m_happen : Nat) (m_hasIf : Nat) (m_becomes : Nat) (m_goneOf : Nat) (m_heard : Nat) (m_pairs : Nat) (m_heaps : Nat) (q_rounds : Int32) (q_heapMany : Int32) (m_led : Nat) (m_newAt : Nat) (m_knowing : Nat) (m_firsts : Nat) (q_people : Nat) (m_secrets : Nat) (m_tried : Nat) (m_lanes : Nat) (m_lengths : Nat) (m_cells : Nat) (f_tape : Nat → Int32) (f_ends : Nat → Int32) (f_letters : Nat → Int32) (f_afters : Nat → Int32) (f_afterOf : Nat → Int32) (hb_tape : NB 160 255 f_tape) (hb_ends : EN f_ends) (hb_letters : LTR f_letters) (hb_afters : NB 9 2 f_afters) (hb_afterOf : NB 18 3 f_afterOf) : CT l yX12_readAfters (Cond.code yX12_readAfters cX12_readAfters 1 none :: TB) ({ frames := 0, cells := 0, slots := 0, locals := 0 }) E ro [.ref hm] [(hm, .inr (12, [.ref m_manys, .ref m_reals, .ref m_factsOf, .ref m_possible, .int (nI q_undos), .int (nI q_models), .ref m_tape, .int (nI q_taped), .int q_fault, .int 1, .int q_wrongAt, .int q_spot, .int q_place, .int q_token, .int q_value, .ref m_ends, .ref m_letters, .ref m_actOf, .ref m_whom, .ref m_actMany, .ref m_tokens, .ref m_afters, .ref m_afterOf, .int q_counted, .ref m_pile, .ref m_caseMany, .ref m_happen, .ref m_hasIf, .ref m_becomes, .ref m_goneOf, .ref m_heard, .ref m_pairs, .ref m_heaps, .int q_rounds, .int q_heapMany, .ref m_led, .ref m_newAt, .ref m_knowing, .ref m_firsts, .int (nI q_people), .ref m_secrets, .ref m_tried, .ref m_lanes, .ref m_lengths, .ref m_cells])), (m_tape, .inl (E.2.1 1, 160, .inl f_tape)), (m_ends, .inl (E.2.1 1, 15, .inl f_ends)), (m_letters, .inl (E.2.1 1, 50, .inl f_letters)), (m_afters, .inl (E.2.1 1, 9, .inl f_afters)), (m_afterOf, .inl (E.2.1 1, 18, .inl f_afterOf))] (Qv E (fun uz => (uz = [(hm, .inr (12, [.ref m_manys, .ref m_reals, .ref m_factsOf, .ref m_possible, .int (nI q_undos), .int (nI q_models), .ref m_tape, .int (nI q_taped), .int q_fault, .int 1, .int q_wrongAt, .int q_spot, .int q_place, .int q_token, .int q_value, .ref m_ends, .ref m_letters, .ref m_actOf, .ref m_whom, .ref m_actMany, .ref m_tokens, .ref m_afters, .ref m_afterOf, .int q_counted, .ref m_pile, .ref m_caseMany, .ref m_happen, .ref m_hasIf, .ref m_becomes, .ref m_goneOf, .ref m_heard, .ref m_pairs, .ref m_heaps, .int q_rounds, .int q_heapMany, .ref m_led, .ref m_newAt, .ref m_knowing, .ref m_firsts, .int (nI q_people), .ref m_secrets, .ref m_tried, .ref m_lanes, .ref m_lengths, .ref m_cells])), (m_tape, .inl (E.2.1 1, 160, .inl f_tape)), (m_ends, .inl (E.2.1 1, 15, .inl f_ends)), (m_letters, .inl (E.2.1 1, 50, .inl f_letters)), (m_afters, .inl (E.2.1 1, 9, .inl f_afters)), (m_afterOf, .inl (E.2.1 1, 18, .inl f_afterOf))]))) 0 0 := by
  refine ct_of rfl rfl ?_
  intro X C hT hin hro
  show WW X 1 E 0 [(0, .ref hm)] [] [(hm, .inr (12, [.ref m_manys, .ref m_reals, .ref m_factsOf, .ref m_possible, .int (nI q_undos), .int (nI q_models), .ref m_tape, .int (nI q_taped), .int q_fault, .int 1, .int q_wrongAt, .int q_spot, .int q_place, .int q_token, .int q_value, .ref m_ends, .ref m_letters, .ref m_actOf, .ref m_whom, .ref m_actMany, .ref m_tokens, .ref m_afters, .ref m_afterOf, .int q_counted, .ref m_pile, .ref m_caseMany, .ref m_happen, .ref m_hasIf, .ref m_becomes, .ref m_goneOf, .ref m_heard, .ref m_pairs, .ref m_heaps, .int q_rounds, .int q_heapMany, .ref m_led, .ref m_newAt, .ref m_knowing, .ref m_firsts, .int (nI q_people), .ref m_secrets, .ref m_tried, .ref m_lanes, .ref m_lengths, .ref m_cells])), (m_tape, .inl (E.2.1 1, 160, .inl f_tape)), (m_ends, .inl (E.2.1 1, 15, .inl f_ends)), (m_letters, .inl (E.2.1 1, 50, .inl f_letters)), (m_afters, .inl (E.2.1 1, 9, .inl f_afters)), (m_afterOf, .inl (E.2.1 1, 18, .inl f_afterOf))] 0 0
  refine ww_aload_n C dX12_readAfters_0 0 rfl rfl ?_
  refine ww_get C fg_X12_157 0 rfl rfl dX12_readAfters_1 ?_
  refine ww_if_ne_t (tgt := 120) C dX12_readAfters_4 (by decide) (by decide) ?_
  exact ww_vret (u := [(hm, .inr (12, [.ref m_manys, .ref m_reals, .ref m_factsOf, .ref m_possible, .int (nI q_undos), .int (nI q_models), .ref m_tape, .int (nI q_taped), .int q_fault, .int 1, .int q_wrongAt, .int q_spot, .int q_place, .int q_token, .int q_value, .ref m_ends, .ref m_letters, .ref m_actOf, .ref m_whom, .ref m_actMany, .ref m_tokens, .ref m_afters, .ref m_afterOf, .int q_counted, .ref m_pile, .ref m_caseMany, .ref m_happen, .ref m_hasIf, .ref m_becomes, .ref m_goneOf, .ref m_heard, .ref m_pairs, .ref m_heaps, .int q_rounds, .int q_heapMany, .ref m_led, .ref m_newAt, .ref m_knowing, .ref m_firsts, .int (nI q_people), .ref m_secrets, .ref m_tried, .ref m_lanes, .ref m_lengths, .ref m_cells])), (m_tape, .inl (E.2.1 1, 160, .inl f_tape)), (m_ends, .inl (E.2.1 1, 15, .inl f_ends)), (m_letters, .inl (E.2.1 1, 50, .inl f_letters)), (m_afters, .inl (E.2.1 1, 9, .inl f_afters)), (m_afterOf, .inl (E.2.1 1, 18, .inl f_afterOf))]) C hT [0, 1, 2, 3, 4, 5] rfl rfl rfl rfl dX12_readAfters_120 (rfl)
theorem dX12_readAfters_7 : decode cX12_readAfters 7 = .ok (.aload_n 0, 1) := by decide +kernel
theorem dX12_readAfters_8 : decode cX12_readAfters 8 = .ok (.invokevirtual 194, 3) := by decide +kernel
theorem dX12_readAfters_11 : decode cX12_readAfters 11 = .ok (.bipush 13, 2) := by decide +kernel
theorem dX12_readAfters_13 : decode cX12_readAfters 13 = .ok (.if_icmp .ne 107, 3) := by decide +kernel
theorem dX12_readAfters_16 : decode cX12_readAfters 16 = .ok (.aload_n 0, 1) := by decide +kernel
theorem dX12_readAfters_17 : decode cX12_readAfters 17 = .ok (.getfield 43, 3) := by decide +kernel
theorem wf_X12_43 : Cond.fieldLink RX12 43 RX12 "afters" "[I" ∈ TB := tbm (tq5 (List.mem_of_getElem? (i := 99) (by decide +kernel))) (by decide +kernel)
theorem fg_X12_43 : FG RX12 43 12 21 := ⟨RX12, TX12, 45, uw_X12, wf_X12_43, rfl, by decide, rfl⟩
theorem dX12_readAfters_20 : decode cX12_readAfters 20 = .ok (.bipush 8, 2) := by decide +kernel
theorem dX12_readAfters_22 : decode cX12_readAfters 22 = .ok (.iaload, 1) := by decide +kernel
theorem dX12_readAfters_23 : decode cX12_readAfters 23 = .ok (.iconst 2, 1) := by decide +kernel
theorem dX12_readAfters_24 : decode cX12_readAfters 24 = .ok (.if_icmp .ne 8, 3) := by decide +kernel
theorem dX12_readAfters_32 : decode cX12_readAfters 32 = .ok (.aload_n 0, 1) := by decide +kernel
theorem dX12_readAfters_33 : decode cX12_readAfters 33 = .ok (.invokevirtual 201, 3) := by decide +kernel
theorem dX12_readAfters_36 : decode cX12_readAfters 36 = .ok (.aload_n 0, 1) := by decide +kernel
theorem dX12_readAfters_37 : decode cX12_readAfters 37 = .ok (.getfield 157, 3) := by decide +kernel
theorem dX12_readAfters_40 : decode cX12_readAfters 40 = .ok (.ifCond .ne 16, 3) := by decide +kernel
theorem dX12_readAfters_43 : decode cX12_readAfters 43 = .ok (.aload_n 0, 1) := by decide +kernel
theorem dX12_readAfters_44 : decode cX12_readAfters 44 = .ok (.getfield 175, 3) := by decide +kernel
theorem dX12_readAfters_47 : decode cX12_readAfters 47 = .ok (.iconst 2, 1) := by decide +kernel
theorem dX12_readAfters_48 : decode cX12_readAfters 48 = .ok (.if_icmp .eq 8, 3) := by decide +kernel
theorem dX12_readAfters_56 : decode cX12_readAfters 56 = .ok (.aload_n 0, 1) := by decide +kernel
theorem dX12_readAfters_57 : decode cX12_readAfters 57 = .ok (.getfield 157, 3) := by decide +kernel
theorem dX12_readAfters_60 : decode cX12_readAfters 60 = .ok (.ifCond .ne 16, 3) := by decide +kernel
theorem dX12_readAfters_63 : decode cX12_readAfters 63 = .ok (.aload_n 0, 1) := by decide +kernel
theorem dX12_readAfters_64 : decode cX12_readAfters 64 = .ok (.getfield 172, 3) := by decide +kernel
theorem fg_X12_172 : FG RX12 172 12 14 := ⟨RX12, TX12, 45, uw_X12, wf_X12_172, rfl, by decide, rfl⟩
theorem dX12_readAfters_67 : decode cX12_readAfters 67 = .ok (.iconst 3, 1) := by decide +kernel
theorem dX12_readAfters_68 : decode cX12_readAfters 68 = .ok (.if_icmp .le 8, 3) := by decide +kernel
theorem dX12_readAfters_76 : decode cX12_readAfters 76 = .ok (.aload_n 0, 1) := by decide +kernel
theorem dX12_readAfters_77 : decode cX12_readAfters 77 = .ok (.getfield 157, 3) := by decide +kernel
theorem dX12_readAfters_80 : decode cX12_readAfters 80 = .ok (.ifCond .ne 33, 3) := by decide +kernel
theorem dX12_readAfters_83 : decode cX12_readAfters 83 = .ok (.aload_n 0, 1) := by decide +kernel
theorem dX12_readAfters_84 : decode cX12_readAfters 84 = .ok (.getfield 46, 3) := by decide +kernel
theorem wf_X12_46 : Cond.fieldLink RX12 46 RX12 "afterOf" "[I" ∈ TB := tbm (tq5 (List.mem_of_getElem? (i := 100) (by decide +kernel))) (by decide +kernel)
theorem fg_X12_46 : FG RX12 46 12 22 := ⟨RX12, TX12, 45, uw_X12, wf_X12_46, rfl, by decide, rfl⟩
theorem dX12_readAfters_87 : decode cX12_readAfters 87 = .ok (.bipush 16, 2) := by decide +kernel
theorem dX12_readAfters_89 : decode cX12_readAfters 89 = .ok (.aload_n 0, 1) := by decide +kernel
theorem dX12_readAfters_90 : decode cX12_readAfters 90 = .ok (.getfield 43, 3) := by decide +kernel
theorem dX12_readAfters_93 : decode cX12_readAfters 93 = .ok (.bipush 8, 2) := by decide +kernel
theorem dX12_readAfters_95 : decode cX12_readAfters 95 = .ok (.iaload, 1) := by decide +kernel
theorem dX12_readAfters_96 : decode cX12_readAfters 96 = .ok (.iadd, 1) := by decide +kernel
theorem dX12_readAfters_97 : decode cX12_readAfters 97 = .ok (.aload_n 0, 1) := by decide +kernel
theorem dX12_readAfters_98 : decode cX12_readAfters 98 = .ok (.getfield 172, 3) := by decide +kernel
theorem dX12_readAfters_101 : decode cX12_readAfters 101 = .ok (.iastore, 1) := by decide +kernel
theorem dX12_readAfters_102 : decode cX12_readAfters 102 = .ok (.aload_n 0, 1) := by decide +kernel
theorem dX12_readAfters_103 : decode cX12_readAfters 103 = .ok (.getfield 43, 3) := by decide +kernel
theorem dX12_readAfters_106 : decode cX12_readAfters 106 = .ok (.bipush 8, 2) := by decide +kernel
theorem dX12_readAfters_108 : decode cX12_readAfters 108 = .ok (.dup2, 1) := by decide +kernel
theorem dX12_readAfters_109 : decode cX12_readAfters 109 = .ok (.iaload, 1) := by decide +kernel
theorem dX12_readAfters_110 : decode cX12_readAfters 110 = .ok (.iconst 1, 1) := by decide +kernel
theorem dX12_readAfters_111 : decode cX12_readAfters 111 = .ok (.iadd, 1) := by decide +kernel
theorem dX12_readAfters_112 : decode cX12_readAfters 112 = .ok (.iastore, 1) := by decide +kernel
theorem dX12_readAfters_113 : decode cX12_readAfters 113 = .ok (.aload_n 0, 1) := by decide +kernel
theorem dX12_readAfters_114 : decode cX12_readAfters 114 = .ok (.invokevirtual 201, 3) := by decide +kernel
theorem dX12_readAfters_117 : decode cX12_readAfters 117 = .ok (.goto (-117), 3) := by decide +kernel
theorem dX12_readAfters_71 : decode cX12_readAfters 71 = .ok (.aload_n 0, 1) := by decide +kernel
theorem dX12_readAfters_72 : decode cX12_readAfters 72 = .ok (.iconst 3, 1) := by decide +kernel
theorem dX12_readAfters_73 : decode cX12_readAfters 73 = .ok (.invokevirtual 186, 3) := by decide +kernel
theorem dX12_readAfters_51 : decode cX12_readAfters 51 = .ok (.aload_n 0, 1) := by decide +kernel
theorem dX12_readAfters_52 : decode cX12_readAfters 52 = .ok (.iconst 2, 1) := by decide +kernel
theorem dX12_readAfters_53 : decode cX12_readAfters 53 = .ok (.invokevirtual 186, 3) := by decide +kernel
theorem dX12_readAfters_27 : decode cX12_readAfters 27 = .ok (.aload_n 0, 1) := by decide +kernel
theorem dX12_readAfters_28 : decode cX12_readAfters 28 = .ok (.iconst 4, 1) := by decide +kernel
theorem dX12_readAfters_29 : decode cX12_readAfters 29 = .ok (.invokevirtual 186, 3) := by decide +kernel
set_option maxRecDepth 100000 in
set_option maxHeartbeats 4000000 in
theorem r_readAfters (l : Launch) (E : EV) (ro : va_W) (hm : Nat) (m_manys : Nat) (m_reals : Nat) (m_factsOf : Nat) (m_possible : Nat) (q_undos : Nat) (q_models : Nat) (m_tape : Nat) (q_taped : Nat) (q_fault : Int32) (q_wrongAt : Int32) (q_spot : Nat) (q_place : Nat) (q_token : Nat) (q_value : Nat) (m_ends : Nat) (m_letters : Nat) (m_actOf : Nat) (m_whom : Nat) (m_actMany : Nat) (m_tokens : Nat) (m_afters : Nat) (m_afterOf : Nat) (q_counted : Int32) (m_pile : Nat) (m_caseMany : Nat) (m_happen : Nat) (m_hasIf : Nat) (m_becomes : Nat) (m_goneOf : Nat) (m_heard : Nat) (m_pairs : Nat) (m_heaps : Nat) (q_rounds : Int32) (q_heapMany : Int32) (m_led : Nat) (m_newAt : Nat) (m_knowing : Nat) (m_firsts : Nat) (q_people : Nat) (m_secrets : Nat) (m_tried : Nat) (m_lanes : Nat) (m_lengths : Nat) (m_cells : Nat) (f_tape : Nat → Int32) (f_ends : Nat → Int32) (f_letters : Nat → Int32) (f_afters : Nat → Int32) (f_afterOf : Nat → Int32) (p_ : Nat) (hb_tape : NB 160 255 f_tape) (hb_ends : EN f_ends) (hb_letters : LTR f_letters) (hb_afters : NB 9 2 f_afters) (hb_afterOf : NB 18 3 f_afterOf) (hq_taped : q_taped ≤ 160) (hq_spot : q_spot ≤ q_taped) (hq_place : q_place ≤ q_spot) (hq_token : q_token ≤ 2) (hq_value : q_value ≤ 9) (htR : TK (cz f_tape q_taped) p_ q_place q_token q_spot) (haf0 : cN f_afters 8 = 0) : CT l yX12_readAfters (Cond.code yX12_readAfters cX12_readAfters 1 none :: TB) ({ frames := 2, cells := 0, slots := 0, locals := 46 }) E ro [.ref hm] [(hm, .inr (12, [.ref m_manys, .ref m_reals, .ref m_factsOf, .ref m_possible, .int (nI q_undos), .int (nI q_models), .ref m_tape, .int (nI q_taped), .int q_fault, .int 0, .int q_wrongAt, .int (nI q_spot), .int (nI q_place), .int (nI q_token), .int (nI q_value), .ref m_ends, .ref m_letters, .ref m_actOf, .ref m_whom, .ref m_actMany, .ref m_tokens, .ref m_afters, .ref m_afterOf, .int q_counted, .ref m_pile, .ref m_caseMany, .ref m_happen, .ref m_hasIf, .ref m_becomes, .ref m_goneOf, .ref m_heard, .ref m_pairs, .ref m_heaps, .int q_rounds, .int q_heapMany, .ref m_led, .ref m_newAt, .ref m_knowing, .ref m_firsts, .int (nI q_people), .ref m_secrets, .ref m_tried, .ref m_lanes, .ref m_lengths, .ref m_cells])), (m_tape, .inl (E.2.1 1, 160, .inl f_tape)), (m_ends, .inl (E.2.1 1, 15, .inl f_ends)), (m_letters, .inl (E.2.1 1, 50, .inl f_letters)), (m_afters, .inl (E.2.1 1, 9, .inl f_afters)), (m_afterOf, .inl (E.2.1 1, 18, .inl f_afterOf))] (Qv E (fun uz => (∃ (sp2 : Nat) (pl2 : Nat) (tk2 : Nat) (vl2 : Nat) (p2 : Nat) (v_ : Nat) (w_ : Nat) (wa_ : Int32) (f_aftersz : Nat → Int32) (f_afterOfz : Nat → Int32), uz = [(hm, .inr (12, [.ref m_manys, .ref m_reals, .ref m_factsOf, .ref m_possible, .int (nI q_undos), .int (nI q_models), .ref m_tape, .int (nI q_taped), .int q_fault, .int 0, .int wa_, .int (nI sp2), .int (nI pl2), .int (nI tk2), .int (nI vl2), .ref m_ends, .ref m_letters, .ref m_actOf, .ref m_whom, .ref m_actMany, .ref m_tokens, .ref m_afters, .ref m_afterOf, .int q_counted, .ref m_pile, .ref m_caseMany, .ref m_happen, .ref m_hasIf, .ref m_becomes, .ref m_goneOf, .ref m_heard, .ref m_pairs, .ref m_heaps, .int q_rounds, .int q_heapMany, .ref m_led, .ref m_newAt, .ref m_knowing, .ref m_firsts, .int (nI q_people), .ref m_secrets, .ref m_tried, .ref m_lanes, .ref m_lengths, .ref m_cells])), (m_tape, .inl (E.2.1 1, 160, .inl f_tape)), (m_ends, .inl (E.2.1 1, 15, .inl f_ends)), (m_letters, .inl (E.2.1 1, 50, .inl f_letters)), (m_afters, .inl (E.2.1 1, 9, .inl f_aftersz)), (m_afterOf, .inl (E.2.1 1, 18, .inl f_afterOfz))] ∧ (pl2 ≤ sp2) ∧ (sp2 ≤ q_taped) ∧ (tk2 ≤ 2) ∧ (vl2 ≤ 9) ∧ (NB 9 2 f_aftersz) ∧ (NB 18 3 f_afterOfz) ∧ (KP 8 f_afters f_aftersz) ∧ (KP 16 f_afterOf f_afterOfz) ∧ (TK (cz f_tape q_taped) p2 pl2 tk2 sp2) ∧ (afC (cz f_tape q_taped) 3 p_ 0 0 0 = .inr (p2, cN f_aftersz 8, v_, w_)) ∧ (AO (cN f_aftersz 8) f_afterOfz v_ w_)) ∨ (∃ (sp2 : Nat) (pl2 : Nat) (tk2 : Nat) (vl2 : Nat) (wr2 : Nat) (wa2 : Nat) (f_aftersz : Nat → Int32) (f_afterOfz : Nat → Int32), uz = [(hm, .inr (12, [.ref m_manys, .ref m_reals, .ref m_factsOf, .ref m_possible, .int (nI q_undos), .int (nI q_models), .ref m_tape, .int (nI q_taped), .int q_fault, .int (nI wr2), .int (nI wa2), .int (nI sp2), .int (nI pl2), .int (nI tk2), .int (nI vl2), .ref m_ends, .ref m_letters, .ref m_actOf, .ref m_whom, .ref m_actMany, .ref m_tokens, .ref m_afters, .ref m_afterOf, .int q_counted, .ref m_pile, .ref m_caseMany, .ref m_happen, .ref m_hasIf, .ref m_becomes, .ref m_goneOf, .ref m_heard, .ref m_pairs, .ref m_heaps, .int q_rounds, .int q_heapMany, .ref m_led, .ref m_newAt, .ref m_knowing, .ref m_firsts, .int (nI q_people), .ref m_secrets, .ref m_tried, .ref m_lanes, .ref m_lengths, .ref m_cells])), (m_tape, .inl (E.2.1 1, 160, .inl f_tape)), (m_ends, .inl (E.2.1 1, 15, .inl f_ends)), (m_letters, .inl (E.2.1 1, 50, .inl f_letters)), (m_afters, .inl (E.2.1 1, 9, .inl f_aftersz)), (m_afterOf, .inl (E.2.1 1, 18, .inl f_afterOfz))] ∧ (pl2 ≤ sp2) ∧ (sp2 ≤ q_taped) ∧ (tk2 ≤ 2) ∧ (vl2 ≤ 9) ∧ (NB 9 2 f_aftersz) ∧ (NB 18 3 f_afterOfz) ∧ (KP 8 f_afters f_aftersz) ∧ (KP 16 f_afterOf f_afterOfz) ∧ (wr2 ≤ 5) ∧ (0 < wr2) ∧ (afC (cz f_tape q_taped) 3 p_ 0 0 0 = .inl wa2) ∧ (wa2 ≤ 160)))) 0 0 := by
  refine ct_of rfl rfl ?_
  intro X C hT hin hro
  show WW X 1 E 0 [(0, .ref hm)] [] [(hm, .inr (12, [.ref m_manys, .ref m_reals, .ref m_factsOf, .ref m_possible, .int (nI q_undos), .int (nI q_models), .ref m_tape, .int (nI q_taped), .int q_fault, .int 0, .int q_wrongAt, .int (nI q_spot), .int (nI q_place), .int (nI q_token), .int (nI q_value), .ref m_ends, .ref m_letters, .ref m_actOf, .ref m_whom, .ref m_actMany, .ref m_tokens, .ref m_afters, .ref m_afterOf, .int q_counted, .ref m_pile, .ref m_caseMany, .ref m_happen, .ref m_hasIf, .ref m_becomes, .ref m_goneOf, .ref m_heard, .ref m_pairs, .ref m_heaps, .int q_rounds, .int q_heapMany, .ref m_led, .ref m_newAt, .ref m_knowing, .ref m_firsts, .int (nI q_people), .ref m_secrets, .ref m_tried, .ref m_lanes, .ref m_lengths, .ref m_cells])), (m_tape, .inl (E.2.1 1, 160, .inl f_tape)), (m_ends, .inl (E.2.1 1, 15, .inl f_ends)), (m_letters, .inl (E.2.1 1, 50, .inl f_letters)), (m_afters, .inl (E.2.1 1, 9, .inl f_afters)), (m_afterOf, .inl (E.2.1 1, 18, .inl f_afterOf))] 0 0
  have loop_0 : ∀ (fu : Nat) (wr1 : Nat) (sp1 : Nat) (pl1 : Nat) (tk1 : Nat) (vl1 : Nat) (p1 : Nat) (v1 : Nat) (w1 : Nat) (wa1 : Int32) (g_af : Nat → Int32) (g_ao : Nat → Int32), (wr1 ≤ 5) → (pl1 ≤ sp1) → (sp1 ≤ q_taped) → (tk1 ≤ 2) → (vl1 ≤ 9) → (wr1 = 0 → TK (cz f_tape q_taped) p1 pl1 tk1 sp1 ∧ afC (cz f_tape q_taped) 3 p_ 0 0 0 = afC (cz f_tape q_taped) (3 - (cN g_af 8)) p1 (cN g_af 8) v1 w1 ∧ AO (cN g_af 8) g_ao v1 w1) → (0 < wr1 → ∃ l : Nat, wa1 = nI l ∧ l ≤ 160 ∧ afC (cz f_tape q_taped) 3 p_ 0 0 0 = .inl l) → (KP 8 f_afters g_af) → (KP 16 f_afterOf g_ao) → (NB 9 2 g_af) → (NB 18 3 g_ao) → (8 - cN g_af 8) - 6 * min wr1 1 < fu → WW X 1 E 0 [(0, .ref hm)] [] [(hm, .inr (12, [.ref m_manys, .ref m_reals, .ref m_factsOf, .ref m_possible, .int (nI q_undos), .int (nI q_models), .ref m_tape, .int (nI q_taped), .int q_fault, .int (nI wr1), .int wa1, .int (nI sp1), .int (nI pl1), .int (nI tk1), .int (nI vl1), .ref m_ends, .ref m_letters, .ref m_actOf, .ref m_whom, .ref m_actMany, .ref m_tokens, .ref m_afters, .ref m_afterOf, .int q_counted, .ref m_pile, .ref m_caseMany, .ref m_happen, .ref m_hasIf, .ref m_becomes, .ref m_goneOf, .ref m_heard, .ref m_pairs, .ref m_heaps, .int q_rounds, .int q_heapMany, .ref m_led, .ref m_newAt, .ref m_knowing, .ref m_firsts, .int (nI q_people), .ref m_secrets, .ref m_tried, .ref m_lanes, .ref m_lengths, .ref m_cells])), (m_tape, .inl (E.2.1 1, 160, .inl f_tape)), (m_ends, .inl (E.2.1 1, 15, .inl f_ends)), (m_letters, .inl (E.2.1 1, 50, .inl f_letters)), (m_afters, .inl (E.2.1 1, 9, .inl g_af)), (m_afterOf, .inl (E.2.1 1, 18, .inl g_ao))] 0 0 := by
    intro fu
    induction fu with
    | zero => intro wr1 sp1 pl1 tk1 vl1 p1 v1 w1 wa1 g_af g_ao hwr1 hpl1 hsp1 htk1 hvl1 hgo hbd hka hko hnb_m_afters_0 hnb_m_afterOf_0 hmeas; exact absurd hmeas (Nat.not_lt_zero _)
    | succ fu ih_0 =>
      intro wr1 sp1 pl1 tk1 vl1 p1 v1 w1 wa1 g_af g_ao hwr1 hpl1 hsp1 htk1 hvl1 hgo hbd hka hko hnb_m_afters_0 hnb_m_afterOf_0 hmeas
      refine ww_aload_n C dX12_readAfters_0 0 rfl rfl ?_
      have hb8_k_1 := (hnb_m_afters_0 8 (by omega)).2
      refine ww_get C fg_X12_157 0 rfl rfl dX12_readAfters_1 ?_
      refine ww_if_ne (tgt := 120) C dX12_readAfters_4 (by decide) (fun c_2 => ?_) (fun c_2 => ?_)
      · have zc_2 : ((wr1 : Nat) : Int) ≠ 0 := i_ne (nI_toInt (n := wr1) (by omega)) rfl c_2
        obtain ⟨l_, rfl, hl_, hc_⟩ := hbd (by omega)
        refine ww_eq (ws' := [(hm, .inr (12, [.ref m_manys, .ref m_reals, .ref m_factsOf, .ref m_possible, .int (nI q_undos), .int (nI q_models), .ref m_tape, .int (nI q_taped), .int q_fault, .int (nI wr1), .int (nI l_), .int (nI sp1), .int (nI pl1), .int (nI tk1), .int (nI vl1), .ref m_ends, .ref m_letters, .ref m_actOf, .ref m_whom, .ref m_actMany, .ref m_tokens, .ref m_afters, .ref m_afterOf, .int q_counted, .ref m_pile, .ref m_caseMany, .ref m_happen, .ref m_hasIf, .ref m_becomes, .ref m_goneOf, .ref m_heard, .ref m_pairs, .ref m_heaps, .int q_rounds, .int q_heapMany, .ref m_led, .ref m_newAt, .ref m_knowing, .ref m_firsts, .int (nI q_people), .ref m_secrets, .ref m_tried, .ref m_lanes, .ref m_lengths, .ref m_cells])), (m_tape, .inl (E.2.1 1, 160, .inl f_tape)), (m_ends, .inl (E.2.1 1, 15, .inl f_ends)), (m_letters, .inl (E.2.1 1, 50, .inl f_letters)), (m_afters, .inl (E.2.1 1, 9, .inl g_af)), (m_afterOf, .inl (E.2.1 1, 18, .inl g_ao))]) ?_ rfl rfl rfl
        exact ww_vret (u := [(hm, .inr (12, [.ref m_manys, .ref m_reals, .ref m_factsOf, .ref m_possible, .int (nI q_undos), .int (nI q_models), .ref m_tape, .int (nI q_taped), .int q_fault, .int (nI wr1), .int (nI l_), .int (nI sp1), .int (nI pl1), .int (nI tk1), .int (nI vl1), .ref m_ends, .ref m_letters, .ref m_actOf, .ref m_whom, .ref m_actMany, .ref m_tokens, .ref m_afters, .ref m_afterOf, .int q_counted, .ref m_pile, .ref m_caseMany, .ref m_happen, .ref m_hasIf, .ref m_becomes, .ref m_goneOf, .ref m_heard, .ref m_pairs, .ref m_heaps, .int q_rounds, .int q_heapMany, .ref m_led, .ref m_newAt, .ref m_knowing, .ref m_firsts, .int (nI q_people), .ref m_secrets, .ref m_tried, .ref m_lanes, .ref m_lengths, .ref m_cells])), (m_tape, .inl (E.2.1 1, 160, .inl f_tape)), (m_ends, .inl (E.2.1 1, 15, .inl f_ends)), (m_letters, .inl (E.2.1 1, 50, .inl f_letters)), (m_afters, .inl (E.2.1 1, 9, .inl g_af)), (m_afterOf, .inl (E.2.1 1, 18, .inl g_ao))]) C hT [0, 1, 2, 3, 4, 5] rfl rfl rfl rfl dX12_readAfters_120 (Or.inr ⟨sp1, pl1, tk1, vl1, wr1, l_, g_af, g_ao, rfl, (by first | assumption | omega | decide), (by first | assumption | omega | decide), (by first | assumption | omega | decide), (by first | assumption | omega | decide), hnb_m_afters_0, hnb_m_afterOf_0, hka, hko, (by omega), (by omega), hc_, hl_⟩)
      · have zc_2 : ((wr1 : Nat) : Int) = 0 := i_eq (nI_toInt (n := wr1) (by omega)) rfl c_2
        have hw0 : wr1 = 0 := by omega
        subst hw0
        obtain ⟨hgo_1, hgo_2, hgo_3⟩ := hgo rfl
        refine ww_eq (ws' := [(hm, .inr (12, [.ref m_manys, .ref m_reals, .ref m_factsOf, .ref m_possible, .int (nI q_undos), .int (nI q_models), .ref m_tape, .int (nI q_taped), .int q_fault, .int 0, .int wa1, .int (nI sp1), .int (nI pl1), .int (nI tk1), .int (nI vl1), .ref m_ends, .ref m_letters, .ref m_actOf, .ref m_whom, .ref m_actMany, .ref m_tokens, .ref m_afters, .ref m_afterOf, .int q_counted, .ref m_pile, .ref m_caseMany, .ref m_happen, .ref m_hasIf, .ref m_becomes, .ref m_goneOf, .ref m_heard, .ref m_pairs, .ref m_heaps, .int q_rounds, .int q_heapMany, .ref m_led, .ref m_newAt, .ref m_knowing, .ref m_firsts, .int (nI q_people), .ref m_secrets, .ref m_tried, .ref m_lanes, .ref m_lengths, .ref m_cells])), (m_tape, .inl (E.2.1 1, 160, .inl f_tape)), (m_ends, .inl (E.2.1 1, 15, .inl f_ends)), (m_letters, .inl (E.2.1 1, 50, .inl f_letters)), (m_afters, .inl (E.2.1 1, 9, .inl g_af)), (m_afterOf, .inl (E.2.1 1, 18, .inl g_ao))]) ?_ rfl rfl rfl
        refine ww_aload_n C dX12_readAfters_7 0 rfl rfl ?_
        refine ww_ci (wr := [(m_afters, .inl (E.2.1 1, 9, .inl g_af)), (m_afterOf, .inl (E.2.1 1, 18, .inl g_ao))]) (k' := 0) (n' := 0) C (run_V (As := []) (rest := []) C (r_nameHere X.2.1 E ro hm m_manys m_reals m_factsOf m_possible q_undos q_models m_tape q_taped q_fault 0 wa1 sp1 pl1 tk1 (nI vl1) m_ends m_letters m_actOf m_whom m_actMany m_tokens m_afters m_afterOf q_counted m_pile m_caseMany m_happen m_hasIf m_becomes m_goneOf m_heard m_pairs m_heaps q_rounds q_heapMany m_led m_newAt m_knowing m_firsts q_people m_secrets m_tried m_lanes m_lengths m_cells f_tape f_ends f_letters hb_tape hb_ends hb_letters (by omega) (by omega) (by omega) (by omega)) mi_X12_nameHere wl_X12_194 rfl 0 12 rfl rfl rfl rfl rfl dX12_readAfters_8) (roK hro) [0, 1, 2, 3] [4, 5] rfl rfl rfl rfl (fun r_3 uz hw => ?_)
        rcases hw with hw | hw
        · refine an2 hw ?_
          clear hw
          intro he_5 he_6 hw
          have h_4 := hw
          clear hw
          have he_5 := he_5.symm
          subst he_5
          subst he_6
          refine ww_eq (ws' := [(m_afters, .inl (E.2.1 1, 9, .inl g_af)), (m_afterOf, .inl (E.2.1 1, 18, .inl g_ao)), (hm, .inr (12, [.ref m_manys, .ref m_reals, .ref m_factsOf, .ref m_possible, .int (nI q_undos), .int (nI q_models), .ref m_tape, .int (nI q_taped), .int q_fault, .int 0, .int wa1, .int (nI sp1), .int (nI pl1), .int (nI tk1), .int (nI vl1), .ref m_ends, .ref m_letters, .ref m_actOf, .ref m_whom, .ref m_actMany, .ref m_tokens, .ref m_afters, .ref m_afterOf, .int q_counted, .ref m_pile, .ref m_caseMany, .ref m_happen, .ref m_hasIf, .ref m_becomes, .ref m_goneOf, .ref m_heard, .ref m_pairs, .ref m_heaps, .int q_rounds, .int q_heapMany, .ref m_led, .ref m_newAt, .ref m_knowing, .ref m_firsts, .int (nI q_people), .ref m_secrets, .ref m_tried, .ref m_lanes, .ref m_lengths, .ref m_cells])), (m_tape, .inl (E.2.1 1, 160, .inl f_tape)), (m_ends, .inl (E.2.1 1, 15, .inl f_ends)), (m_letters, .inl (E.2.1 1, 50, .inl f_letters))]) ?_ rfl rfl rfl
          refine ww_bipush (v := 13) C dX12_readAfters_11 rfl ?_
          refine ww_icmp_ne_t (tgt := 120) C dX12_readAfters_13 (by decide) (by decide) ?_
          exact ww_vret (u := [(hm, .inr (12, [.ref m_manys, .ref m_reals, .ref m_factsOf, .ref m_possible, .int (nI q_undos), .int (nI q_models), .ref m_tape, .int (nI q_taped), .int q_fault, .int 0, .int wa1, .int (nI sp1), .int (nI pl1), .int (nI tk1), .int (nI vl1), .ref m_ends, .ref m_letters, .ref m_actOf, .ref m_whom, .ref m_actMany, .ref m_tokens, .ref m_afters, .ref m_afterOf, .int q_counted, .ref m_pile, .ref m_caseMany, .ref m_happen, .ref m_hasIf, .ref m_becomes, .ref m_goneOf, .ref m_heard, .ref m_pairs, .ref m_heaps, .int q_rounds, .int q_heapMany, .ref m_led, .ref m_newAt, .ref m_knowing, .ref m_firsts, .int (nI q_people), .ref m_secrets, .ref m_tried, .ref m_lanes, .ref m_lengths, .ref m_cells])), (m_tape, .inl (E.2.1 1, 160, .inl f_tape)), (m_ends, .inl (E.2.1 1, 15, .inl f_ends)), (m_letters, .inl (E.2.1 1, 50, .inl f_letters)), (m_afters, .inl (E.2.1 1, 9, .inl g_af)), (m_afterOf, .inl (E.2.1 1, 18, .inl g_ao))]) C hT [2, 3, 4, 5, 0, 1] rfl rfl rfl rfl dX12_readAfters_120 (Or.inl ⟨sp1, pl1, tk1, vl1, p1, v1, w1, wa1, g_af, g_ao, rfl, (by first | assumption | omega | decide), (by first | assumption | omega | decide), (by first | assumption | omega | decide), (by first | assumption | omega | decide), hnb_m_afters_0, hnb_m_afterOf_0, hka, hko, hgo_1, (hgo_2.trans (ah_stop (by omega) hgo_1 (by omega))), hgo_3⟩)
        · refine ex1 hw ?_
          clear hw
          intro nn_7 hw
          refine an4 hw ?_
          clear hw
          intro he_11 he_12 h_8 h_9 hw
          have h_10 := hw
          clear hw
          have he_11 := he_11.symm
          subst he_11
          subst he_12
          refine ww_eq (ws' := [(m_afters, .inl (E.2.1 1, 9, .inl g_af)), (m_afterOf, .inl (E.2.1 1, 18, .inl g_ao)), (hm, .inr (12, [.ref m_manys, .ref m_reals, .ref m_factsOf, .ref m_possible, .int (nI q_undos), .int (nI q_models), .ref m_tape, .int (nI q_taped), .int q_fault, .int 0, .int wa1, .int (nI sp1), .int (nI pl1), .int (nI tk1), .int (nI vl1), .ref m_ends, .ref m_letters, .ref m_actOf, .ref m_whom, .ref m_actMany, .ref m_tokens, .ref m_afters, .ref m_afterOf, .int q_counted, .ref m_pile, .ref m_caseMany, .ref m_happen, .ref m_hasIf, .ref m_becomes, .ref m_goneOf, .ref m_heard, .ref m_pairs, .ref m_heaps, .int q_rounds, .int q_heapMany, .ref m_led, .ref m_newAt, .ref m_knowing, .ref m_firsts, .int (nI q_people), .ref m_secrets, .ref m_tried, .ref m_lanes, .ref m_lengths, .ref m_cells])), (m_tape, .inl (E.2.1 1, 160, .inl f_tape)), (m_ends, .inl (E.2.1 1, 15, .inl f_ends)), (m_letters, .inl (E.2.1 1, 50, .inl f_letters))]) ?_ rfl rfl rfl
          refine ww_bipush (v := 13) C dX12_readAfters_11 rfl ?_
          refine ww_icmp_ne (tgt := 120) C dX12_readAfters_13 (by decide) (fun c_13 => ?_) (fun c_13 => ?_)
          · have zc_13 : ((nn_7 : Nat) : Int) ≠ 13 := i_ne (nI_toInt (n := nn_7) (by omega)) rfl c_13
            exact ww_vret (u := [(hm, .inr (12, [.ref m_manys, .ref m_reals, .ref m_factsOf, .ref m_possible, .int (nI q_undos), .int (nI q_models), .ref m_tape, .int (nI q_taped), .int q_fault, .int 0, .int wa1, .int (nI sp1), .int (nI pl1), .int (nI tk1), .int (nI vl1), .ref m_ends, .ref m_letters, .ref m_actOf, .ref m_whom, .ref m_actMany, .ref m_tokens, .ref m_afters, .ref m_afterOf, .int q_counted, .ref m_pile, .ref m_caseMany, .ref m_happen, .ref m_hasIf, .ref m_becomes, .ref m_goneOf, .ref m_heard, .ref m_pairs, .ref m_heaps, .int q_rounds, .int q_heapMany, .ref m_led, .ref m_newAt, .ref m_knowing, .ref m_firsts, .int (nI q_people), .ref m_secrets, .ref m_tried, .ref m_lanes, .ref m_lengths, .ref m_cells])), (m_tape, .inl (E.2.1 1, 160, .inl f_tape)), (m_ends, .inl (E.2.1 1, 15, .inl f_ends)), (m_letters, .inl (E.2.1 1, 50, .inl f_letters)), (m_afters, .inl (E.2.1 1, 9, .inl g_af)), (m_afterOf, .inl (E.2.1 1, 18, .inl g_ao))]) C hT [2, 3, 4, 5, 0, 1] rfl rfl rfl rfl dX12_readAfters_120 (Or.inl ⟨sp1, pl1, tk1, vl1, p1, v1, w1, wa1, g_af, g_ao, rfl, (by first | assumption | omega | decide), (by first | assumption | omega | decide), (by first | assumption | omega | decide), (by first | assumption | omega | decide), hnb_m_afters_0, hnb_m_afterOf_0, hka, hko, hgo_1, (hgo_2.trans (ah_stop (by omega) hgo_1 (by omega))), hgo_3⟩)
          · have zc_13 : ((nn_7 : Nat) : Int) = 13 := i_eq (nI_toInt (n := nn_7) (by omega)) rfl c_13
            refine ww_aload_n C dX12_readAfters_16 0 rfl rfl ?_
            refine ww_get C fg_X12_43 2 rfl rfl dX12_readAfters_17 ?_
            refine ww_bipush (v := 8) C dX12_readAfters_20 rfl ?_
            have hbx_14 := (hnb_m_afters_0 8 (by omega)).2
            refine ww_iald (v := (nI (cN g_af 8))) C 0 rfl (vin rfl) (hnb_m_afters_0 8 (by omega)).1 dX12_readAfters_22 ?_
            refine ww_iconst (v := 2) C dX12_readAfters_23 rfl ?_
            refine ww_icmp_ne (tgt := 32) C dX12_readAfters_24 (by decide) (fun c_15 => ?_) (fun c_15 => ?_)
            · have zc_15 : ((cN g_af 8 : Nat) : Int) ≠ 2 := i_ne (nI_toInt (n := cN g_af 8) (by omega)) rfl c_15
              refine ww_aload_n C dX12_readAfters_32 0 rfl rfl ?_
              refine ww_cv (wr := [(m_afters, .inl (E.2.1 1, 9, .inl g_af)), (m_afterOf, .inl (E.2.1 1, 18, .inl g_ao)), (m_ends, .inl (E.2.1 1, 15, .inl f_ends)), (m_letters, .inl (E.2.1 1, 50, .inl f_letters))]) (k' := 0) (n' := 0) C (run_V (As := []) (rest := []) C (r_next X.2.1 E ro hm m_manys m_reals m_factsOf m_possible q_undos q_models m_tape q_taped q_fault 0 wa1 sp1 (nI pl1) tk1 vl1 m_ends m_letters m_actOf m_whom m_actMany m_tokens m_afters m_afterOf q_counted m_pile m_caseMany m_happen m_hasIf m_becomes m_goneOf m_heard m_pairs m_heaps q_rounds q_heapMany m_led m_newAt m_knowing m_firsts q_people m_secrets m_tried m_lanes m_lengths m_cells f_tape hb_tape (by omega) (by omega) (by omega) (by omega) (by omega)) mi_X12_next wl_X12_201 rfl 0 12 rfl rfl rfl rfl rfl dX12_readAfters_33) (roK hro) [2, 3] [0, 1, 4, 5] rfl rfl rfl rfl (fun uz hw => ?_)
              rcases hw with hw | hw | hw
              · refine an1 hw ?_
                clear hw
                intro he_18 hw
                have h_17 := hw
                clear hw
                subst he_18
                omega
              · refine ex4 hw ?_
                clear hw
                intro sp2_19 pl2_20 tk2_21 vl2_22 hw
                refine an7 hw ?_
                clear hw
                intro he_30 h_23 h_24 h_25 h_26 h_27 h_28 hw
                have h_29 := hw
                clear hw
                subst he_30
                refine ww_eq (ws' := [(m_afters, .inl (E.2.1 1, 9, .inl g_af)), (m_afterOf, .inl (E.2.1 1, 18, .inl g_ao)), (m_ends, .inl (E.2.1 1, 15, .inl f_ends)), (m_letters, .inl (E.2.1 1, 50, .inl f_letters)), (hm, .inr (12, [.ref m_manys, .ref m_reals, .ref m_factsOf, .ref m_possible, .int (nI q_undos), .int (nI q_models), .ref m_tape, .int (nI q_taped), .int q_fault, .int 0, .int wa1, .int (nI sp2_19), .int (nI pl2_20), .int (nI tk2_21), .int (nI vl2_22), .ref m_ends, .ref m_letters, .ref m_actOf, .ref m_whom, .ref m_actMany, .ref m_tokens, .ref m_afters, .ref m_afterOf, .int q_counted, .ref m_pile, .ref m_caseMany, .ref m_happen, .ref m_hasIf, .ref m_becomes, .ref m_goneOf, .ref m_heard, .ref m_pairs, .ref m_heaps, .int q_rounds, .int q_heapMany, .ref m_led, .ref m_newAt, .ref m_knowing, .ref m_firsts, .int (nI q_people), .ref m_secrets, .ref m_tried, .ref m_lanes, .ref m_lengths, .ref m_cells])), (m_tape, .inl (E.2.1 1, 160, .inl f_tape))]) ?_ rfl rfl rfl
                refine ww_aload_n C dX12_readAfters_36 0 rfl rfl ?_
                refine ww_get C fg_X12_157 4 rfl rfl dX12_readAfters_37 ?_
                refine ww_if_ne_f (tgt := 56) C dX12_readAfters_40 (by decide) (rfl) ?_
                refine ww_aload_n C dX12_readAfters_43 0 rfl rfl ?_
                refine ww_get C fg_X12_175 4 rfl rfl dX12_readAfters_44 ?_
                refine ww_iconst (v := 2) C dX12_readAfters_47 rfl ?_
                refine ww_icmp_eq (tgt := 56) C dX12_readAfters_48 (by decide) (fun c_42 => ?_) (fun c_42 => ?_)
                · have zc_42 : ((tk2_21 : Nat) : Int) = 2 := i_eq (nI_toInt (n := tk2_21) (by omega)) rfl c_42
                  refine ww_aload_n C dX12_readAfters_56 0 rfl rfl ?_
                  refine ww_get C fg_X12_157 4 rfl rfl dX12_readAfters_57 ?_
                  refine ww_if_ne_f (tgt := 76) C dX12_readAfters_60 (by decide) (rfl) ?_
                  refine ww_aload_n C dX12_readAfters_63 0 rfl rfl ?_
                  refine ww_get C fg_X12_172 4 rfl rfl dX12_readAfters_64 ?_
                  refine ww_iconst (v := 3) C dX12_readAfters_67 rfl ?_
                  refine ww_icmp_le (tgt := 76) C dX12_readAfters_68 (by decide) (fun c_43 => ?_) (fun c_43 => ?_)
                  · have zc_43 : ((vl2_22 : Nat) : Int) ≤ 3 := i_le (nI_toInt (n := vl2_22) (by omega)) rfl c_43
                    refine ww_aload_n C dX12_readAfters_76 0 rfl rfl ?_
                    refine ww_get C fg_X12_157 4 rfl rfl dX12_readAfters_77 ?_
                    refine ww_if_ne_f (tgt := 113) C dX12_readAfters_80 (by decide) (rfl) ?_
                    refine ww_aload_n C dX12_readAfters_83 0 rfl rfl ?_
                    refine ww_get C fg_X12_46 4 rfl rfl dX12_readAfters_84 ?_
                    refine ww_bipush (v := 16) C dX12_readAfters_87 rfl ?_
                    refine ww_aload_n C dX12_readAfters_89 0 rfl rfl ?_
                    refine ww_get C fg_X12_43 4 rfl rfl dX12_readAfters_90 ?_
                    refine ww_bipush (v := 8) C dX12_readAfters_93 rfl ?_
                    have hbx_44 := (hnb_m_afters_0 8 (by omega)).2
                    refine ww_iald (v := (nI (cN g_af 8))) C 0 rfl (vin rfl) (hnb_m_afters_0 8 (by omega)).1 dX12_readAfters_95 ?_
                    refine ww_iadd (v := (nI (16 + (cN g_af 8)))) C dX12_readAfters_96 (nI_add 16 (cN g_af 8)) ?_
                    refine ww_aload_n C dX12_readAfters_97 0 rfl rfl ?_
                    refine ww_get C fg_X12_172 4 rfl rfl dX12_readAfters_98 ?_
                    obtain ⟨f_45, ef_45⟩ : ∃ z : Nat → Int32, upd g_ao (16 + (cN g_af 8)) (nI vl2_22) = z := ⟨_, rfl⟩
                    refine ww_iast (ws' := [(m_afters, .inl (E.2.1 1, 9, .inl g_af)), (m_afterOf, .inl (E.2.1 1, 18, .inl f_45)), (m_ends, .inl (E.2.1 1, 15, .inl f_ends)), (m_letters, .inl (E.2.1 1, 50, .inl f_letters)), (hm, .inr (12, [.ref m_manys, .ref m_reals, .ref m_factsOf, .ref m_possible, .int (nI q_undos), .int (nI q_models), .ref m_tape, .int (nI q_taped), .int q_fault, .int 0, .int wa1, .int (nI sp2_19), .int (nI pl2_20), .int (nI tk2_21), .int (nI vl2_22), .ref m_ends, .ref m_letters, .ref m_actOf, .ref m_whom, .ref m_actMany, .ref m_tokens, .ref m_afters, .ref m_afterOf, .int q_counted, .ref m_pile, .ref m_caseMany, .ref m_happen, .ref m_hasIf, .ref m_becomes, .ref m_goneOf, .ref m_heard, .ref m_pairs, .ref m_heaps, .int q_rounds, .int q_heapMany, .ref m_led, .ref m_newAt, .ref m_knowing, .ref m_firsts, .int (nI q_people), .ref m_secrets, .ref m_tried, .ref m_lanes, .ref m_lengths, .ref m_cells])), (m_tape, .inl (E.2.1 1, 160, .inl f_tape))]) C 1 rfl (vp_in_nI (by omega) (by omega)) (ldn2 (by omega) ef_45) rfl dX12_readAfters_101 ?_
                    refine ww_aload_n C dX12_readAfters_102 0 rfl rfl ?_
                    refine ww_get C fg_X12_43 4 rfl rfl dX12_readAfters_103 ?_
                    refine ww_bipush (v := 8) C dX12_readAfters_106 rfl ?_
                    refine ww_dup2 C dX12_readAfters_108 rfl rfl ?_
                    have hbx_46 := (hnb_m_afters_0 8 (by omega)).2
                    refine ww_iald (v := (nI (cN g_af 8))) C 0 rfl (vin rfl) (hnb_m_afters_0 8 (by omega)).1 dX12_readAfters_109 ?_
                    refine ww_iconst (v := 1) C dX12_readAfters_110 rfl ?_
                    refine ww_iadd (v := (nI ((cN g_af 8) + 1))) C dX12_readAfters_111 (nI_add (cN g_af 8) 1) ?_
                    obtain ⟨f_47, ef_47⟩ : ∃ z : Nat → Int32, upd g_af 8 (nI ((cN g_af 8) + 1)) = z := ⟨_, rfl⟩
                    refine ww_iast (ws' := [(m_afters, .inl (E.2.1 1, 9, .inl f_47)), (m_afterOf, .inl (E.2.1 1, 18, .inl f_45)), (m_ends, .inl (E.2.1 1, 15, .inl f_ends)), (m_letters, .inl (E.2.1 1, 50, .inl f_letters)), (hm, .inr (12, [.ref m_manys, .ref m_reals, .ref m_factsOf, .ref m_possible, .int (nI q_undos), .int (nI q_models), .ref m_tape, .int (nI q_taped), .int q_fault, .int 0, .int wa1, .int (nI sp2_19), .int (nI pl2_20), .int (nI tk2_21), .int (nI vl2_22), .ref m_ends, .ref m_letters, .ref m_actOf, .ref m_whom, .ref m_actMany, .ref m_tokens, .ref m_afters, .ref m_afterOf, .int q_counted, .ref m_pile, .ref m_caseMany, .ref m_happen, .ref m_hasIf, .ref m_becomes, .ref m_goneOf, .ref m_heard, .ref m_pairs, .ref m_heaps, .int q_rounds, .int q_heapMany, .ref m_led, .ref m_newAt, .ref m_knowing, .ref m_firsts, .int (nI q_people), .ref m_secrets, .ref m_tried, .ref m_lanes, .ref m_lengths, .ref m_cells])), (m_tape, .inl (E.2.1 1, 160, .inl f_tape))]) C 0 rfl (vin rfl) ef_47 rfl dX12_readAfters_112 ?_
                    have h8u := cN_s (t := (cN g_af 8) + 1) (by omega) ef_47
                    refine ww_aload_n C dX12_readAfters_113 0 rfl rfl ?_
                    refine ww_cv (wr := [(m_afters, .inl (E.2.1 1, 9, .inl f_47)), (m_afterOf, .inl (E.2.1 1, 18, .inl f_45)), (m_ends, .inl (E.2.1 1, 15, .inl f_ends)), (m_letters, .inl (E.2.1 1, 50, .inl f_letters))]) (k' := 0) (n' := 0) C (run_V (As := []) (rest := []) C (r_next X.2.1 E ro hm m_manys m_reals m_factsOf m_possible q_undos q_models m_tape q_taped q_fault 0 wa1 sp2_19 (nI pl2_20) tk2_21 vl2_22 m_ends m_letters m_actOf m_whom m_actMany m_tokens m_afters m_afterOf q_counted m_pile m_caseMany m_happen m_hasIf m_becomes m_goneOf m_heard m_pairs m_heaps q_rounds q_heapMany m_led m_newAt m_knowing m_firsts q_people m_secrets m_tried m_lanes m_lengths m_cells f_tape hb_tape (by omega) (by omega) (by omega) (by omega) (by omega)) mi_X12_next wl_X12_201 rfl 0 12 rfl rfl rfl rfl rfl dX12_readAfters_114) (roK hro) [4, 5] [0, 1, 2, 3] rfl rfl rfl rfl (fun uz hw => ?_)
                    rcases hw with hw | hw | hw
                    · refine an1 hw ?_
                      clear hw
                      intro he_50 hw
                      have h_49 := hw
                      clear hw
                      subst he_50
                      omega
                    · refine ex4 hw ?_
                      clear hw
                      intro sp2_51 pl2_52 tk2_53 vl2_54 hw
                      refine an7 hw ?_
                      clear hw
                      intro he_62 h_55 h_56 h_57 h_58 h_59 h_60 hw
                      have h_61 := hw
                      clear hw
                      subst he_62
                      refine ww_eq (ws' := [(m_afters, .inl (E.2.1 1, 9, .inl f_47)), (m_afterOf, .inl (E.2.1 1, 18, .inl f_45)), (m_ends, .inl (E.2.1 1, 15, .inl f_ends)), (m_letters, .inl (E.2.1 1, 50, .inl f_letters)), (hm, .inr (12, [.ref m_manys, .ref m_reals, .ref m_factsOf, .ref m_possible, .int (nI q_undos), .int (nI q_models), .ref m_tape, .int (nI q_taped), .int q_fault, .int 0, .int wa1, .int (nI sp2_51), .int (nI pl2_52), .int (nI tk2_53), .int (nI vl2_54), .ref m_ends, .ref m_letters, .ref m_actOf, .ref m_whom, .ref m_actMany, .ref m_tokens, .ref m_afters, .ref m_afterOf, .int q_counted, .ref m_pile, .ref m_caseMany, .ref m_happen, .ref m_hasIf, .ref m_becomes, .ref m_goneOf, .ref m_heard, .ref m_pairs, .ref m_heaps, .int q_rounds, .int q_heapMany, .ref m_led, .ref m_newAt, .ref m_knowing, .ref m_firsts, .int (nI q_people), .ref m_secrets, .ref m_tried, .ref m_lanes, .ref m_lengths, .ref m_cells])), (m_tape, .inl (E.2.1 1, 160, .inl f_tape))]) ?_ rfl rfl rfl
                      refine ww_goto (tgt := 0) C dX12_readAfters_117 (by decide) ?_
                      exact ww_lv [0] rfl (ww_sub [4, 5, 2, 3, 0, 1] rfl rfl (ih_0 0 sp2_51 pl2_52 tk2_53 vl2_54 sp2_19 (if cN g_af 8 = 0 then vl2_22 else v1) (if cN g_af 8 = 0 then w1 else vl2_22) wa1 f_47 f_45 (by omega) (by omega) (by omega) (by omega) (by omega) (fun _ => ⟨h_60, hgo_2.trans (ah_go (by omega) h8u hgo_1 (by omega) h_28 (by omega) (h_29 (by omega)) (by omega) h_60 (by omega)), AO.ext hgo_3 (by omega) ef_45 h8u⟩) (fun h => absurd h (by omega)) (KP.put hka (by omega) ef_47) (KP.put hko (by omega) ef_45) (NB.put hnb_m_afters_0 (t := (cN g_af 8) + 1) (by omega) (by decide) ef_47) (NB.put hnb_m_afterOf_0 (t := vl2_22) (by omega) (by decide) ef_45) (by first | omega | (have h8 := cN_s (by omega) (by assumption : upd g_af 8 _ = _); omega))))
                    · refine ex4 hw ?_
                      clear hw
                      intro sp2_63 pl2_64 tk2_65 vl2_66 hw
                      refine an6 hw ?_
                      clear hw
                      intro he_73 h_67 h_68 h_69 h_70 h_71 hw
                      have h_72 := hw
                      clear hw
                      subst he_73
                      refine ww_eq (ws' := [(m_afters, .inl (E.2.1 1, 9, .inl f_47)), (m_afterOf, .inl (E.2.1 1, 18, .inl f_45)), (m_ends, .inl (E.2.1 1, 15, .inl f_ends)), (m_letters, .inl (E.2.1 1, 50, .inl f_letters)), (hm, .inr (12, [.ref m_manys, .ref m_reals, .ref m_factsOf, .ref m_possible, .int (nI q_undos), .int (nI q_models), .ref m_tape, .int (nI q_taped), .int q_fault, .int 1, .int (nI pl2_64), .int (nI sp2_63), .int (nI pl2_64), .int (nI tk2_65), .int (nI vl2_66), .ref m_ends, .ref m_letters, .ref m_actOf, .ref m_whom, .ref m_actMany, .ref m_tokens, .ref m_afters, .ref m_afterOf, .int q_counted, .ref m_pile, .ref m_caseMany, .ref m_happen, .ref m_hasIf, .ref m_becomes, .ref m_goneOf, .ref m_heard, .ref m_pairs, .ref m_heaps, .int q_rounds, .int q_heapMany, .ref m_led, .ref m_newAt, .ref m_knowing, .ref m_firsts, .int (nI q_people), .ref m_secrets, .ref m_tried, .ref m_lanes, .ref m_lengths, .ref m_cells])), (m_tape, .inl (E.2.1 1, 160, .inl f_tape))]) ?_ rfl rfl rfl
                      refine ww_goto (tgt := 0) C dX12_readAfters_117 (by decide) ?_
                      exact ww_lv [0] rfl (ww_sub [4, 5, 2, 3, 0, 1] rfl rfl (ih_0 1 sp2_63 pl2_64 tk2_65 vl2_66 p1 v1 w1 (nI pl2_64) f_47 f_45 (by omega) (by omega) (by omega) (by omega) (by omega) (fun h => absurd h (by decide)) (fun _ => ⟨_, rfl, by omega, by rw [h_72.2]; exact hgo_2.trans (ah_b3 (by omega) hgo_1 (by omega) h_28 (by omega) (by have h9 := h_29 (by omega); omega) h_72.1)⟩) (KP.put hka (by omega) ef_47) (KP.put hko (by omega) ef_45) (NB.put hnb_m_afters_0 (t := (cN g_af 8) + 1) (by omega) (by decide) ef_47) (NB.put hnb_m_afterOf_0 (t := vl2_22) (by omega) (by decide) ef_45) (by first | omega | (have h8 := cN_s (by omega) (by assumption : upd g_af 8 _ = _); omega))))
                  · have zc_43 : ((vl2_22 : Nat) : Int) > 3 := i_nle (nI_toInt (n := vl2_22) (by omega)) rfl c_43
                    refine ww_aload_n C dX12_readAfters_71 0 rfl rfl ?_
                    refine ww_iconst (v := 3) C dX12_readAfters_72 rfl ?_
                    refine ww_cv (wr := [(m_afters, .inl (E.2.1 1, 9, .inl g_af)), (m_afterOf, .inl (E.2.1 1, 18, .inl g_ao)), (m_ends, .inl (E.2.1 1, 15, .inl f_ends)), (m_letters, .inl (E.2.1 1, 50, .inl f_letters)), (m_tape, .inl (E.2.1 1, 160, .inl f_tape))]) (k' := 0) (n' := 0) C (run_V (As := [.int 3]) (rest := []) C (r_fails X.2.1 E ro hm 3 m_manys m_reals m_factsOf m_possible q_undos q_models m_tape q_taped q_fault 0 wa1 (nI sp2_19) (nI pl2_20) (nI tk2_21) (nI vl2_22) m_ends m_letters m_actOf m_whom m_actMany m_tokens m_afters m_afterOf q_counted m_pile m_caseMany m_happen m_hasIf m_becomes m_goneOf m_heard m_pairs m_heaps q_rounds q_heapMany m_led m_newAt m_knowing m_firsts q_people m_secrets m_tried m_lanes m_lengths m_cells (by omega)) mi_X12_fails wl_X12_186 rfl 0 12 rfl rfl rfl rfl rfl dX12_readAfters_73) (roK hro) [4] [0, 1, 2, 3, 5] rfl rfl rfl rfl (fun uz hw => ?_)
                    rcases hw with hw | hw
                    · refine an1 hw ?_
                      clear hw
                      intro he_76 hw
                      have h_75 := hw
                      clear hw
                      subst he_76
                      refine ww_eq (ws' := [(m_afters, .inl (E.2.1 1, 9, .inl g_af)), (m_afterOf, .inl (E.2.1 1, 18, .inl g_ao)), (m_ends, .inl (E.2.1 1, 15, .inl f_ends)), (m_letters, .inl (E.2.1 1, 50, .inl f_letters)), (m_tape, .inl (E.2.1 1, 160, .inl f_tape)), (hm, .inr (12, [.ref m_manys, .ref m_reals, .ref m_factsOf, .ref m_possible, .int (nI q_undos), .int (nI q_models), .ref m_tape, .int (nI q_taped), .int q_fault, .int 3, .int (nI pl2_20), .int (nI sp2_19), .int (nI pl2_20), .int (nI tk2_21), .int (nI vl2_22), .ref m_ends, .ref m_letters, .ref m_actOf, .ref m_whom, .ref m_actMany, .ref m_tokens, .ref m_afters, .ref m_afterOf, .int q_counted, .ref m_pile, .ref m_caseMany, .ref m_happen, .ref m_hasIf, .ref m_becomes, .ref m_goneOf, .ref m_heard, .ref m_pairs, .ref m_heaps, .int q_rounds, .int q_heapMany, .ref m_led, .ref m_newAt, .ref m_knowing, .ref m_firsts, .int (nI q_people), .ref m_secrets, .ref m_tried, .ref m_lanes, .ref m_lengths, .ref m_cells]))]) ?_ rfl rfl rfl
                      refine ww_aload_n C dX12_readAfters_76 0 rfl rfl ?_
                      refine ww_get C fg_X12_157 5 rfl rfl dX12_readAfters_77 ?_
                      refine ww_if_ne_t (tgt := 113) C dX12_readAfters_80 (by decide) (by decide) ?_
                      refine ww_aload_n C dX12_readAfters_113 0 rfl rfl ?_
                      refine ww_cv (wr := [(m_afters, .inl (E.2.1 1, 9, .inl g_af)), (m_afterOf, .inl (E.2.1 1, 18, .inl g_ao)), (m_ends, .inl (E.2.1 1, 15, .inl f_ends)), (m_letters, .inl (E.2.1 1, 50, .inl f_letters))]) (k' := 0) (n' := 0) C (run_V (As := []) (rest := []) C (r_next X.2.1 E ro hm m_manys m_reals m_factsOf m_possible q_undos q_models m_tape q_taped q_fault 3 (nI pl2_20) sp2_19 (nI pl2_20) tk2_21 vl2_22 m_ends m_letters m_actOf m_whom m_actMany m_tokens m_afters m_afterOf q_counted m_pile m_caseMany m_happen m_hasIf m_becomes m_goneOf m_heard m_pairs m_heaps q_rounds q_heapMany m_led m_newAt m_knowing m_firsts q_people m_secrets m_tried m_lanes m_lengths m_cells f_tape hb_tape (by omega) (by omega) (by omega) (by omega) (by omega)) mi_X12_next wl_X12_201 rfl 0 12 rfl rfl rfl rfl rfl dX12_readAfters_114) (roK hro) [5, 4] [0, 1, 2, 3] rfl rfl rfl rfl (fun uz hw => ?_)
                      rcases hw with hw | hw | hw
                      · refine an1 hw ?_
                        clear hw
                        intro he_81 hw
                        have h_80 := hw
                        clear hw
                        subst he_81
                        refine ww_eq (ws' := [(m_afters, .inl (E.2.1 1, 9, .inl g_af)), (m_afterOf, .inl (E.2.1 1, 18, .inl g_ao)), (m_ends, .inl (E.2.1 1, 15, .inl f_ends)), (m_letters, .inl (E.2.1 1, 50, .inl f_letters)), (hm, .inr (12, [.ref m_manys, .ref m_reals, .ref m_factsOf, .ref m_possible, .int (nI q_undos), .int (nI q_models), .ref m_tape, .int (nI q_taped), .int q_fault, .int 3, .int (nI pl2_20), .int (nI sp2_19), .int (nI pl2_20), .int (nI tk2_21), .int (nI vl2_22), .ref m_ends, .ref m_letters, .ref m_actOf, .ref m_whom, .ref m_actMany, .ref m_tokens, .ref m_afters, .ref m_afterOf, .int q_counted, .ref m_pile, .ref m_caseMany, .ref m_happen, .ref m_hasIf, .ref m_becomes, .ref m_goneOf, .ref m_heard, .ref m_pairs, .ref m_heaps, .int q_rounds, .int q_heapMany, .ref m_led, .ref m_newAt, .ref m_knowing, .ref m_firsts, .int (nI q_people), .ref m_secrets, .ref m_tried, .ref m_lanes, .ref m_lengths, .ref m_cells])), (m_tape, .inl (E.2.1 1, 160, .inl f_tape))]) ?_ rfl rfl rfl
                        refine ww_goto (tgt := 0) C dX12_readAfters_117 (by decide) ?_
                        exact ww_lv [0] rfl (ww_sub [4, 5, 2, 3, 0, 1] rfl rfl (ih_0 3 sp2_19 pl2_20 tk2_21 vl2_22 p1 v1 w1 (nI pl2_20) g_af g_ao (by omega) (by omega) (by omega) (by omega) (by omega) (fun h => absurd h (by decide)) (fun _ => ⟨_, rfl, by omega, hgo_2.trans (ah_b2 (by omega) hgo_1 (by omega) h_28 (by first | (left; omega) | (right; have h9 := h_29 (by omega); omega)))⟩) hka hko hnb_m_afters_0 hnb_m_afterOf_0 (by first | omega | (have h8 := cN_s (by omega) (by assumption : upd g_af 8 _ = _); omega))))
                      · refine ex4 hw ?_
                        clear hw
                        intro sp2_82 pl2_83 tk2_84 vl2_85 hw
                        refine an7 hw ?_
                        clear hw
                        intro he_93 h_86 h_87 h_88 h_89 h_90 h_91 hw
                        have h_92 := hw
                        clear hw
                        subst he_93
                        omega
                      · refine ex4 hw ?_
                        clear hw
                        intro sp2_94 pl2_95 tk2_96 vl2_97 hw
                        refine an6 hw ?_
                        clear hw
                        intro he_104 h_98 h_99 h_100 h_101 h_102 hw
                        have h_103 := hw
                        clear hw
                        subst he_104
                        omega
                    · refine an1 hw ?_
                      clear hw
                      intro he_78 hw
                      have h_77 := hw
                      clear hw
                      subst he_78
                      omega
                · have zc_42 : ((tk2_21 : Nat) : Int) ≠ 2 := i_ne (nI_toInt (n := tk2_21) (by omega)) rfl c_42
                  refine ww_aload_n C dX12_readAfters_51 0 rfl rfl ?_
                  refine ww_iconst (v := 2) C dX12_readAfters_52 rfl ?_
                  refine ww_cv (wr := [(m_afters, .inl (E.2.1 1, 9, .inl g_af)), (m_afterOf, .inl (E.2.1 1, 18, .inl g_ao)), (m_ends, .inl (E.2.1 1, 15, .inl f_ends)), (m_letters, .inl (E.2.1 1, 50, .inl f_letters)), (m_tape, .inl (E.2.1 1, 160, .inl f_tape))]) (k' := 0) (n' := 0) C (run_V (As := [.int 2]) (rest := []) C (r_fails X.2.1 E ro hm 2 m_manys m_reals m_factsOf m_possible q_undos q_models m_tape q_taped q_fault 0 wa1 (nI sp2_19) (nI pl2_20) (nI tk2_21) (nI vl2_22) m_ends m_letters m_actOf m_whom m_actMany m_tokens m_afters m_afterOf q_counted m_pile m_caseMany m_happen m_hasIf m_becomes m_goneOf m_heard m_pairs m_heaps q_rounds q_heapMany m_led m_newAt m_knowing m_firsts q_people m_secrets m_tried m_lanes m_lengths m_cells (by omega)) mi_X12_fails wl_X12_186 rfl 0 12 rfl rfl rfl rfl rfl dX12_readAfters_53) (roK hro) [4] [0, 1, 2, 3, 5] rfl rfl rfl rfl (fun uz hw => ?_)
                  rcases hw with hw | hw
                  · refine an1 hw ?_
                    clear hw
                    intro he_107 hw
                    have h_106 := hw
                    clear hw
                    subst he_107
                    refine ww_eq (ws' := [(m_afters, .inl (E.2.1 1, 9, .inl g_af)), (m_afterOf, .inl (E.2.1 1, 18, .inl g_ao)), (m_ends, .inl (E.2.1 1, 15, .inl f_ends)), (m_letters, .inl (E.2.1 1, 50, .inl f_letters)), (m_tape, .inl (E.2.1 1, 160, .inl f_tape)), (hm, .inr (12, [.ref m_manys, .ref m_reals, .ref m_factsOf, .ref m_possible, .int (nI q_undos), .int (nI q_models), .ref m_tape, .int (nI q_taped), .int q_fault, .int 2, .int (nI pl2_20), .int (nI sp2_19), .int (nI pl2_20), .int (nI tk2_21), .int (nI vl2_22), .ref m_ends, .ref m_letters, .ref m_actOf, .ref m_whom, .ref m_actMany, .ref m_tokens, .ref m_afters, .ref m_afterOf, .int q_counted, .ref m_pile, .ref m_caseMany, .ref m_happen, .ref m_hasIf, .ref m_becomes, .ref m_goneOf, .ref m_heard, .ref m_pairs, .ref m_heaps, .int q_rounds, .int q_heapMany, .ref m_led, .ref m_newAt, .ref m_knowing, .ref m_firsts, .int (nI q_people), .ref m_secrets, .ref m_tried, .ref m_lanes, .ref m_lengths, .ref m_cells]))]) ?_ rfl rfl rfl
                    refine ww_aload_n C dX12_readAfters_56 0 rfl rfl ?_
                    refine ww_get C fg_X12_157 5 rfl rfl dX12_readAfters_57 ?_
                    refine ww_if_ne_t (tgt := 76) C dX12_readAfters_60 (by decide) (by decide) ?_
                    refine ww_aload_n C dX12_readAfters_76 0 rfl rfl ?_
                    refine ww_get C fg_X12_157 5 rfl rfl dX12_readAfters_77 ?_
                    refine ww_if_ne_t (tgt := 113) C dX12_readAfters_80 (by decide) (by decide) ?_
                    refine ww_aload_n C dX12_readAfters_113 0 rfl rfl ?_
                    refine ww_cv (wr := [(m_afters, .inl (E.2.1 1, 9, .inl g_af)), (m_afterOf, .inl (E.2.1 1, 18, .inl g_ao)), (m_ends, .inl (E.2.1 1, 15, .inl f_ends)), (m_letters, .inl (E.2.1 1, 50, .inl f_letters))]) (k' := 0) (n' := 0) C (run_V (As := []) (rest := []) C (r_next X.2.1 E ro hm m_manys m_reals m_factsOf m_possible q_undos q_models m_tape q_taped q_fault 2 (nI pl2_20) sp2_19 (nI pl2_20) tk2_21 vl2_22 m_ends m_letters m_actOf m_whom m_actMany m_tokens m_afters m_afterOf q_counted m_pile m_caseMany m_happen m_hasIf m_becomes m_goneOf m_heard m_pairs m_heaps q_rounds q_heapMany m_led m_newAt m_knowing m_firsts q_people m_secrets m_tried m_lanes m_lengths m_cells f_tape hb_tape (by omega) (by omega) (by omega) (by omega) (by omega)) mi_X12_next wl_X12_201 rfl 0 12 rfl rfl rfl rfl rfl dX12_readAfters_114) (roK hro) [5, 4] [0, 1, 2, 3] rfl rfl rfl rfl (fun uz hw => ?_)
                    rcases hw with hw | hw | hw
                    · refine an1 hw ?_
                      clear hw
                      intro he_112 hw
                      have h_111 := hw
                      clear hw
                      subst he_112
                      refine ww_eq (ws' := [(m_afters, .inl (E.2.1 1, 9, .inl g_af)), (m_afterOf, .inl (E.2.1 1, 18, .inl g_ao)), (m_ends, .inl (E.2.1 1, 15, .inl f_ends)), (m_letters, .inl (E.2.1 1, 50, .inl f_letters)), (hm, .inr (12, [.ref m_manys, .ref m_reals, .ref m_factsOf, .ref m_possible, .int (nI q_undos), .int (nI q_models), .ref m_tape, .int (nI q_taped), .int q_fault, .int 2, .int (nI pl2_20), .int (nI sp2_19), .int (nI pl2_20), .int (nI tk2_21), .int (nI vl2_22), .ref m_ends, .ref m_letters, .ref m_actOf, .ref m_whom, .ref m_actMany, .ref m_tokens, .ref m_afters, .ref m_afterOf, .int q_counted, .ref m_pile, .ref m_caseMany, .ref m_happen, .ref m_hasIf, .ref m_becomes, .ref m_goneOf, .ref m_heard, .ref m_pairs, .ref m_heaps, .int q_rounds, .int q_heapMany, .ref m_led, .ref m_newAt, .ref m_knowing, .ref m_firsts, .int (nI q_people), .ref m_secrets, .ref m_tried, .ref m_lanes, .ref m_lengths, .ref m_cells])), (m_tape, .inl (E.2.1 1, 160, .inl f_tape))]) ?_ rfl rfl rfl
                      refine ww_goto (tgt := 0) C dX12_readAfters_117 (by decide) ?_
                      exact ww_lv [0] rfl (ww_sub [4, 5, 2, 3, 0, 1] rfl rfl (ih_0 2 sp2_19 pl2_20 tk2_21 vl2_22 p1 v1 w1 (nI pl2_20) g_af g_ao (by omega) (by omega) (by omega) (by omega) (by omega) (fun h => absurd h (by decide)) (fun _ => ⟨_, rfl, by omega, hgo_2.trans (ah_b2 (by omega) hgo_1 (by omega) h_28 (by first | (left; omega) | (right; have h9 := h_29 (by omega); omega)))⟩) hka hko hnb_m_afters_0 hnb_m_afterOf_0 (by first | omega | (have h8 := cN_s (by omega) (by assumption : upd g_af 8 _ = _); omega))))
                    · refine ex4 hw ?_
                      clear hw
                      intro sp2_113 pl2_114 tk2_115 vl2_116 hw
                      refine an7 hw ?_
                      clear hw
                      intro he_124 h_117 h_118 h_119 h_120 h_121 h_122 hw
                      have h_123 := hw
                      clear hw
                      subst he_124
                      omega
                    · refine ex4 hw ?_
                      clear hw
                      intro sp2_125 pl2_126 tk2_127 vl2_128 hw
                      refine an6 hw ?_
                      clear hw
                      intro he_135 h_129 h_130 h_131 h_132 h_133 hw
                      have h_134 := hw
                      clear hw
                      subst he_135
                      omega
                  · refine an1 hw ?_
                    clear hw
                    intro he_109 hw
                    have h_108 := hw
                    clear hw
                    subst he_109
                    omega
              · refine ex4 hw ?_
                clear hw
                intro sp2_31 pl2_32 tk2_33 vl2_34 hw
                refine an6 hw ?_
                clear hw
                intro he_41 h_35 h_36 h_37 h_38 h_39 hw
                have h_40 := hw
                clear hw
                subst he_41
                refine ww_eq (ws' := [(m_afters, .inl (E.2.1 1, 9, .inl g_af)), (m_afterOf, .inl (E.2.1 1, 18, .inl g_ao)), (m_ends, .inl (E.2.1 1, 15, .inl f_ends)), (m_letters, .inl (E.2.1 1, 50, .inl f_letters)), (hm, .inr (12, [.ref m_manys, .ref m_reals, .ref m_factsOf, .ref m_possible, .int (nI q_undos), .int (nI q_models), .ref m_tape, .int (nI q_taped), .int q_fault, .int 1, .int (nI pl2_32), .int (nI sp2_31), .int (nI pl2_32), .int (nI tk2_33), .int (nI vl2_34), .ref m_ends, .ref m_letters, .ref m_actOf, .ref m_whom, .ref m_actMany, .ref m_tokens, .ref m_afters, .ref m_afterOf, .int q_counted, .ref m_pile, .ref m_caseMany, .ref m_happen, .ref m_hasIf, .ref m_becomes, .ref m_goneOf, .ref m_heard, .ref m_pairs, .ref m_heaps, .int q_rounds, .int q_heapMany, .ref m_led, .ref m_newAt, .ref m_knowing, .ref m_firsts, .int (nI q_people), .ref m_secrets, .ref m_tried, .ref m_lanes, .ref m_lengths, .ref m_cells])), (m_tape, .inl (E.2.1 1, 160, .inl f_tape))]) ?_ rfl rfl rfl
                refine ww_aload_n C dX12_readAfters_36 0 rfl rfl ?_
                refine ww_get C fg_X12_157 4 rfl rfl dX12_readAfters_37 ?_
                refine ww_if_ne_t (tgt := 56) C dX12_readAfters_40 (by decide) (by decide) ?_
                refine ww_aload_n C dX12_readAfters_56 0 rfl rfl ?_
                refine ww_get C fg_X12_157 4 rfl rfl dX12_readAfters_57 ?_
                refine ww_if_ne_t (tgt := 76) C dX12_readAfters_60 (by decide) (by decide) ?_
                refine ww_aload_n C dX12_readAfters_76 0 rfl rfl ?_
                refine ww_get C fg_X12_157 4 rfl rfl dX12_readAfters_77 ?_
                refine ww_if_ne_t (tgt := 113) C dX12_readAfters_80 (by decide) (by decide) ?_
                refine ww_aload_n C dX12_readAfters_113 0 rfl rfl ?_
                refine ww_cv (wr := [(m_afters, .inl (E.2.1 1, 9, .inl g_af)), (m_afterOf, .inl (E.2.1 1, 18, .inl g_ao)), (m_ends, .inl (E.2.1 1, 15, .inl f_ends)), (m_letters, .inl (E.2.1 1, 50, .inl f_letters))]) (k' := 0) (n' := 0) C (run_V (As := []) (rest := []) C (r_next X.2.1 E ro hm m_manys m_reals m_factsOf m_possible q_undos q_models m_tape q_taped q_fault 1 (nI pl2_32) sp2_31 (nI pl2_32) tk2_33 vl2_34 m_ends m_letters m_actOf m_whom m_actMany m_tokens m_afters m_afterOf q_counted m_pile m_caseMany m_happen m_hasIf m_becomes m_goneOf m_heard m_pairs m_heaps q_rounds q_heapMany m_led m_newAt m_knowing m_firsts q_people m_secrets m_tried m_lanes m_lengths m_cells f_tape hb_tape (by omega) (by omega) (by omega) (by omega) (by omega)) mi_X12_next wl_X12_201 rfl 0 12 rfl rfl rfl rfl rfl dX12_readAfters_114) (roK hro) [4, 5] [0, 1, 2, 3] rfl rfl rfl rfl (fun uz hw => ?_)
                rcases hw with hw | hw | hw
                · refine an1 hw ?_
                  clear hw
                  intro he_138 hw
                  have h_137 := hw
                  clear hw
                  subst he_138
                  refine ww_eq (ws' := [(m_afters, .inl (E.2.1 1, 9, .inl g_af)), (m_afterOf, .inl (E.2.1 1, 18, .inl g_ao)), (m_ends, .inl (E.2.1 1, 15, .inl f_ends)), (m_letters, .inl (E.2.1 1, 50, .inl f_letters)), (hm, .inr (12, [.ref m_manys, .ref m_reals, .ref m_factsOf, .ref m_possible, .int (nI q_undos), .int (nI q_models), .ref m_tape, .int (nI q_taped), .int q_fault, .int 1, .int (nI pl2_32), .int (nI sp2_31), .int (nI pl2_32), .int (nI tk2_33), .int (nI vl2_34), .ref m_ends, .ref m_letters, .ref m_actOf, .ref m_whom, .ref m_actMany, .ref m_tokens, .ref m_afters, .ref m_afterOf, .int q_counted, .ref m_pile, .ref m_caseMany, .ref m_happen, .ref m_hasIf, .ref m_becomes, .ref m_goneOf, .ref m_heard, .ref m_pairs, .ref m_heaps, .int q_rounds, .int q_heapMany, .ref m_led, .ref m_newAt, .ref m_knowing, .ref m_firsts, .int (nI q_people), .ref m_secrets, .ref m_tried, .ref m_lanes, .ref m_lengths, .ref m_cells])), (m_tape, .inl (E.2.1 1, 160, .inl f_tape))]) ?_ rfl rfl rfl
                  refine ww_goto (tgt := 0) C dX12_readAfters_117 (by decide) ?_
                  exact ww_lv [0] rfl (ww_sub [4, 5, 2, 3, 0, 1] rfl rfl (ih_0 1 sp2_31 pl2_32 tk2_33 vl2_34 p1 v1 w1 (nI pl2_32) g_af g_ao (by omega) (by omega) (by omega) (by omega) (by omega) (fun h => absurd h (by decide)) (fun _ => ⟨_, rfl, by omega, by rw [h_40.2]; exact hgo_2.trans (ah_b2 (by omega) hgo_1 (by omega) TK.self (Or.inl (by rw [h_40.1]; decide)))⟩) hka hko hnb_m_afters_0 hnb_m_afterOf_0 (by first | omega | (have h8 := cN_s (by omega) (by assumption : upd g_af 8 _ = _); omega))))
                · refine ex4 hw ?_
                  clear hw
                  intro sp2_139 pl2_140 tk2_141 vl2_142 hw
                  refine an7 hw ?_
                  clear hw
                  intro he_150 h_143 h_144 h_145 h_146 h_147 h_148 hw
                  have h_149 := hw
                  clear hw
                  subst he_150
                  omega
                · refine ex4 hw ?_
                  clear hw
                  intro sp2_151 pl2_152 tk2_153 vl2_154 hw
                  refine an6 hw ?_
                  clear hw
                  intro he_161 h_155 h_156 h_157 h_158 h_159 hw
                  have h_160 := hw
                  clear hw
                  subst he_161
                  omega
            · have zc_15 : ((cN g_af 8 : Nat) : Int) = 2 := i_eq (nI_toInt (n := cN g_af 8) (by omega)) rfl c_15
              refine ww_aload_n C dX12_readAfters_27 0 rfl rfl ?_
              refine ww_iconst (v := 4) C dX12_readAfters_28 rfl ?_
              refine ww_cv (wr := [(m_afters, .inl (E.2.1 1, 9, .inl g_af)), (m_afterOf, .inl (E.2.1 1, 18, .inl g_ao)), (m_tape, .inl (E.2.1 1, 160, .inl f_tape)), (m_ends, .inl (E.2.1 1, 15, .inl f_ends)), (m_letters, .inl (E.2.1 1, 50, .inl f_letters))]) (k' := 0) (n' := 0) C (run_V (As := [.int 4]) (rest := []) C (r_fails X.2.1 E ro hm 4 m_manys m_reals m_factsOf m_possible q_undos q_models m_tape q_taped q_fault 0 wa1 (nI sp1) (nI pl1) (nI tk1) (nI vl1) m_ends m_letters m_actOf m_whom m_actMany m_tokens m_afters m_afterOf q_counted m_pile m_caseMany m_happen m_hasIf m_becomes m_goneOf m_heard m_pairs m_heaps q_rounds q_heapMany m_led m_newAt m_knowing m_firsts q_people m_secrets m_tried m_lanes m_lengths m_cells (by omega)) mi_X12_fails wl_X12_186 rfl 0 12 rfl rfl rfl rfl rfl dX12_readAfters_29) (roK hro) [2] [0, 1, 3, 4, 5] rfl rfl rfl rfl (fun uz hw => ?_)
              rcases hw with hw | hw
              · refine an1 hw ?_
                clear hw
                intro he_164 hw
                have h_163 := hw
                clear hw
                subst he_164
                refine ww_eq (ws' := [(m_afters, .inl (E.2.1 1, 9, .inl g_af)), (m_afterOf, .inl (E.2.1 1, 18, .inl g_ao)), (m_tape, .inl (E.2.1 1, 160, .inl f_tape)), (m_ends, .inl (E.2.1 1, 15, .inl f_ends)), (m_letters, .inl (E.2.1 1, 50, .inl f_letters)), (hm, .inr (12, [.ref m_manys, .ref m_reals, .ref m_factsOf, .ref m_possible, .int (nI q_undos), .int (nI q_models), .ref m_tape, .int (nI q_taped), .int q_fault, .int 4, .int (nI pl1), .int (nI sp1), .int (nI pl1), .int (nI tk1), .int (nI vl1), .ref m_ends, .ref m_letters, .ref m_actOf, .ref m_whom, .ref m_actMany, .ref m_tokens, .ref m_afters, .ref m_afterOf, .int q_counted, .ref m_pile, .ref m_caseMany, .ref m_happen, .ref m_hasIf, .ref m_becomes, .ref m_goneOf, .ref m_heard, .ref m_pairs, .ref m_heaps, .int q_rounds, .int q_heapMany, .ref m_led, .ref m_newAt, .ref m_knowing, .ref m_firsts, .int (nI q_people), .ref m_secrets, .ref m_tried, .ref m_lanes, .ref m_lengths, .ref m_cells]))]) ?_ rfl rfl rfl
                refine ww_aload_n C dX12_readAfters_32 0 rfl rfl ?_
                refine ww_cv (wr := [(m_afters, .inl (E.2.1 1, 9, .inl g_af)), (m_afterOf, .inl (E.2.1 1, 18, .inl g_ao)), (m_ends, .inl (E.2.1 1, 15, .inl f_ends)), (m_letters, .inl (E.2.1 1, 50, .inl f_letters))]) (k' := 0) (n' := 0) C (run_V (As := []) (rest := []) C (r_next X.2.1 E ro hm m_manys m_reals m_factsOf m_possible q_undos q_models m_tape q_taped q_fault 4 (nI pl1) sp1 (nI pl1) tk1 vl1 m_ends m_letters m_actOf m_whom m_actMany m_tokens m_afters m_afterOf q_counted m_pile m_caseMany m_happen m_hasIf m_becomes m_goneOf m_heard m_pairs m_heaps q_rounds q_heapMany m_led m_newAt m_knowing m_firsts q_people m_secrets m_tried m_lanes m_lengths m_cells f_tape hb_tape (by omega) (by omega) (by omega) (by omega) (by omega)) mi_X12_next wl_X12_201 rfl 0 12 rfl rfl rfl rfl rfl dX12_readAfters_33) (roK hro) [5, 2] [0, 1, 3, 4] rfl rfl rfl rfl (fun uz hw => ?_)
                rcases hw with hw | hw | hw
                · refine an1 hw ?_
                  clear hw
                  intro he_169 hw
                  have h_168 := hw
                  clear hw
                  subst he_169
                  refine ww_eq (ws' := [(m_afters, .inl (E.2.1 1, 9, .inl g_af)), (m_afterOf, .inl (E.2.1 1, 18, .inl g_ao)), (m_ends, .inl (E.2.1 1, 15, .inl f_ends)), (m_letters, .inl (E.2.1 1, 50, .inl f_letters)), (hm, .inr (12, [.ref m_manys, .ref m_reals, .ref m_factsOf, .ref m_possible, .int (nI q_undos), .int (nI q_models), .ref m_tape, .int (nI q_taped), .int q_fault, .int 4, .int (nI pl1), .int (nI sp1), .int (nI pl1), .int (nI tk1), .int (nI vl1), .ref m_ends, .ref m_letters, .ref m_actOf, .ref m_whom, .ref m_actMany, .ref m_tokens, .ref m_afters, .ref m_afterOf, .int q_counted, .ref m_pile, .ref m_caseMany, .ref m_happen, .ref m_hasIf, .ref m_becomes, .ref m_goneOf, .ref m_heard, .ref m_pairs, .ref m_heaps, .int q_rounds, .int q_heapMany, .ref m_led, .ref m_newAt, .ref m_knowing, .ref m_firsts, .int (nI q_people), .ref m_secrets, .ref m_tried, .ref m_lanes, .ref m_lengths, .ref m_cells])), (m_tape, .inl (E.2.1 1, 160, .inl f_tape))]) ?_ rfl rfl rfl
                  refine ww_aload_n C dX12_readAfters_36 0 rfl rfl ?_
                  refine ww_get C fg_X12_157 4 rfl rfl dX12_readAfters_37 ?_
                  refine ww_if_ne_t (tgt := 56) C dX12_readAfters_40 (by decide) (by decide) ?_
                  refine ww_aload_n C dX12_readAfters_56 0 rfl rfl ?_
                  refine ww_get C fg_X12_157 4 rfl rfl dX12_readAfters_57 ?_
                  refine ww_if_ne_t (tgt := 76) C dX12_readAfters_60 (by decide) (by decide) ?_
                  refine ww_aload_n C dX12_readAfters_76 0 rfl rfl ?_
                  refine ww_get C fg_X12_157 4 rfl rfl dX12_readAfters_77 ?_
                  refine ww_if_ne_t (tgt := 113) C dX12_readAfters_80 (by decide) (by decide) ?_
                  refine ww_aload_n C dX12_readAfters_113 0 rfl rfl ?_
                  refine ww_cv (wr := [(m_afters, .inl (E.2.1 1, 9, .inl g_af)), (m_afterOf, .inl (E.2.1 1, 18, .inl g_ao)), (m_ends, .inl (E.2.1 1, 15, .inl f_ends)), (m_letters, .inl (E.2.1 1, 50, .inl f_letters))]) (k' := 0) (n' := 0) C (run_V (As := []) (rest := []) C (r_next X.2.1 E ro hm m_manys m_reals m_factsOf m_possible q_undos q_models m_tape q_taped q_fault 4 (nI pl1) sp1 (nI pl1) tk1 vl1 m_ends m_letters m_actOf m_whom m_actMany m_tokens m_afters m_afterOf q_counted m_pile m_caseMany m_happen m_hasIf m_becomes m_goneOf m_heard m_pairs m_heaps q_rounds q_heapMany m_led m_newAt m_knowing m_firsts q_people m_secrets m_tried m_lanes m_lengths m_cells f_tape hb_tape (by omega) (by omega) (by omega) (by omega) (by omega)) mi_X12_next wl_X12_201 rfl 0 12 rfl rfl rfl rfl rfl dX12_readAfters_114) (roK hro) [4, 5] [0, 1, 2, 3] rfl rfl rfl rfl (fun uz hw => ?_)
                  rcases hw with hw | hw | hw
                  · refine an1 hw ?_
                    clear hw
                    intro he_195 hw
                    have h_194 := hw
                    clear hw
                    subst he_195
                    refine ww_eq (ws' := [(m_afters, .inl (E.2.1 1, 9, .inl g_af)), (m_afterOf, .inl (E.2.1 1, 18, .inl g_ao)), (m_ends, .inl (E.2.1 1, 15, .inl f_ends)), (m_letters, .inl (E.2.1 1, 50, .inl f_letters)), (hm, .inr (12, [.ref m_manys, .ref m_reals, .ref m_factsOf, .ref m_possible, .int (nI q_undos), .int (nI q_models), .ref m_tape, .int (nI q_taped), .int q_fault, .int 4, .int (nI pl1), .int (nI sp1), .int (nI pl1), .int (nI tk1), .int (nI vl1), .ref m_ends, .ref m_letters, .ref m_actOf, .ref m_whom, .ref m_actMany, .ref m_tokens, .ref m_afters, .ref m_afterOf, .int q_counted, .ref m_pile, .ref m_caseMany, .ref m_happen, .ref m_hasIf, .ref m_becomes, .ref m_goneOf, .ref m_heard, .ref m_pairs, .ref m_heaps, .int q_rounds, .int q_heapMany, .ref m_led, .ref m_newAt, .ref m_knowing, .ref m_firsts, .int (nI q_people), .ref m_secrets, .ref m_tried, .ref m_lanes, .ref m_lengths, .ref m_cells])), (m_tape, .inl (E.2.1 1, 160, .inl f_tape))]) ?_ rfl rfl rfl
                    refine ww_goto (tgt := 0) C dX12_readAfters_117 (by decide) ?_
                    exact ww_lv [0] rfl (ww_sub [4, 5, 2, 3, 0, 1] rfl rfl (ih_0 4 sp1 pl1 tk1 vl1 p1 v1 w1 (nI pl1) g_af g_ao (by omega) (by omega) (by omega) (by omega) (by omega) (fun h => absurd h (by decide)) (fun _ => ⟨_, rfl, by omega, hgo_2.trans (ah_b1 (by omega) hgo_1 (by omega))⟩) hka hko hnb_m_afters_0 hnb_m_afterOf_0 (by first | omega | (have h8 := cN_s (by omega) (by assumption : upd g_af 8 _ = _); omega))))
                  · refine ex4 hw ?_
                    clear hw
                    intro sp2_196 pl2_197 tk2_198 vl2_199 hw
                    refine an7 hw ?_
                    clear hw
                    intro he_207 h_200 h_201 h_202 h_203 h_204 h_205 hw
                    have h_206 := hw
                    clear hw
                    subst he_207
                    omega
                  · refine ex4 hw ?_
                    clear hw
                    intro sp2_208 pl2_209 tk2_210 vl2_211 hw
                    refine an6 hw ?_
                    clear hw
                    intro he_218 h_212 h_213 h_214 h_215 h_216 hw
                    have h_217 := hw
                    clear hw
                    subst he_218
                    omega
                · refine ex4 hw ?_
                  clear hw
                  intro sp2_170 pl2_171 tk2_172 vl2_173 hw
                  refine an7 hw ?_
                  clear hw
                  intro he_181 h_174 h_175 h_176 h_177 h_178 h_179 hw
                  have h_180 := hw
                  clear hw
                  subst he_181
                  omega
                · refine ex4 hw ?_
                  clear hw
                  intro sp2_182 pl2_183 tk2_184 vl2_185 hw
                  refine an6 hw ?_
                  clear hw
                  intro he_192 h_186 h_187 h_188 h_189 h_190 hw
                  have h_191 := hw
                  clear hw
                  subst he_192
                  omega
              · refine an1 hw ?_
                clear hw
                intro he_166 hw
                have h_165 := hw
                clear hw
                subst he_166
                omega
  exact ww_lv [0] rfl (ww_sub [0, 1, 2, 3, 4, 5] rfl rfl (loop_0 _ 0 q_spot q_place q_token q_value p_ 0 0 q_wrongAt f_afters f_afterOf (by omega) (by omega) (by omega) (by omega) (by omega) (fun _ => ⟨htR, by rw [haf0], AO.nil haf0⟩) (fun h => absurd h (by omega)) KP.rf KP.rf hb_afters hb_afterOf (Nat.lt_succ_self _)))
theorem dX12_copyActs_0 : decode cX12_copyActs 0 = .ok (.aload_n 0, 1) := by decide +kernel
theorem dX12_copyActs_1 : decode cX12_copyActs 1 = .ok (.getfield 37, 3) := by decide +kernel
theorem dX12_copyActs_4 : decode cX12_copyActs 4 = .ok (.iload_n 2, 1) := by decide +kernel
theorem dX12_copyActs_5 : decode cX12_copyActs 5 = .ok (.aload_n 0, 1) := by decide +kernel
theorem dX12_copyActs_6 : decode cX12_copyActs 6 = .ok (.getfield 37, 3) := by decide +kernel
theorem dX12_copyActs_9 : decode cX12_copyActs 9 = .ok (.iload_n 1, 1) := by decide +kernel
theorem dX12_copyActs_10 : decode cX12_copyActs 10 = .ok (.iaload, 1) := by decide +kernel
theorem dX12_copyActs_11 : decode cX12_copyActs 11 = .ok (.iastore, 1) := by decide +kernel
theorem dX12_copyActs_12 : decode cX12_copyActs 12 = .ok (.iconst 0, 1) := by decide +kernel
theorem dX12_copyActs_13 : decode cX12_copyActs 13 = .ok (.istore_n 3, 1) := by decide +kernel
theorem dX12_copyActs_14 : decode cX12_copyActs 14 = .ok (.iload_n 3, 1) := by decide +kernel
theorem dX12_copyActs_15 : decode cX12_copyActs 15 = .ok (.bipush 32, 2) := by decide +kernel
theorem dX12_copyActs_17 : decode cX12_copyActs 17 = .ok (.if_icmp .ge 53, 3) := by decide +kernel
theorem dX12_copyActs_70 : decode cX12_copyActs 70 = .ok (.return_, 1) := by decide +kernel
theorem dX12_copyActs_20 : decode cX12_copyActs 20 = .ok (.aload_n 0, 1) := by decide +kernel
theorem dX12_copyActs_21 : decode cX12_copyActs 21 = .ok (.getfield 31, 3) := by decide +kernel
theorem dX12_copyActs_24 : decode cX12_copyActs 24 = .ok (.bipush 32, 2) := by decide +kernel
theorem dX12_copyActs_26 : decode cX12_copyActs 26 = .ok (.iload_n 2, 1) := by decide +kernel
theorem dX12_copyActs_27 : decode cX12_copyActs 27 = .ok (.imul, 1) := by decide +kernel
theorem dX12_copyActs_28 : decode cX12_copyActs 28 = .ok (.iload_n 3, 1) := by decide +kernel
theorem dX12_copyActs_29 : decode cX12_copyActs 29 = .ok (.iadd, 1) := by decide +kernel
theorem dX12_copyActs_30 : decode cX12_copyActs 30 = .ok (.aload_n 0, 1) := by decide +kernel
theorem dX12_copyActs_31 : decode cX12_copyActs 31 = .ok (.getfield 31, 3) := by decide +kernel
theorem dX12_copyActs_34 : decode cX12_copyActs 34 = .ok (.bipush 32, 2) := by decide +kernel
theorem dX12_copyActs_36 : decode cX12_copyActs 36 = .ok (.iload_n 1, 1) := by decide +kernel
theorem dX12_copyActs_37 : decode cX12_copyActs 37 = .ok (.imul, 1) := by decide +kernel
theorem dX12_copyActs_38 : decode cX12_copyActs 38 = .ok (.iload_n 3, 1) := by decide +kernel
theorem dX12_copyActs_39 : decode cX12_copyActs 39 = .ok (.iadd, 1) := by decide +kernel
theorem dX12_copyActs_40 : decode cX12_copyActs 40 = .ok (.iaload, 1) := by decide +kernel
theorem dX12_copyActs_41 : decode cX12_copyActs 41 = .ok (.iastore, 1) := by decide +kernel
theorem dX12_copyActs_42 : decode cX12_copyActs 42 = .ok (.aload_n 0, 1) := by decide +kernel
theorem dX12_copyActs_43 : decode cX12_copyActs 43 = .ok (.getfield 34, 3) := by decide +kernel
theorem dX12_copyActs_46 : decode cX12_copyActs 46 = .ok (.bipush 32, 2) := by decide +kernel
theorem dX12_copyActs_48 : decode cX12_copyActs 48 = .ok (.iload_n 2, 1) := by decide +kernel
theorem dX12_copyActs_49 : decode cX12_copyActs 49 = .ok (.imul, 1) := by decide +kernel
theorem dX12_copyActs_50 : decode cX12_copyActs 50 = .ok (.iload_n 3, 1) := by decide +kernel
theorem dX12_copyActs_51 : decode cX12_copyActs 51 = .ok (.iadd, 1) := by decide +kernel
theorem dX12_copyActs_52 : decode cX12_copyActs 52 = .ok (.aload_n 0, 1) := by decide +kernel
theorem dX12_copyActs_53 : decode cX12_copyActs 53 = .ok (.getfield 34, 3) := by decide +kernel
theorem dX12_copyActs_56 : decode cX12_copyActs 56 = .ok (.bipush 32, 2) := by decide +kernel
theorem dX12_copyActs_58 : decode cX12_copyActs 58 = .ok (.iload_n 1, 1) := by decide +kernel
theorem dX12_copyActs_59 : decode cX12_copyActs 59 = .ok (.imul, 1) := by decide +kernel
theorem dX12_copyActs_60 : decode cX12_copyActs 60 = .ok (.iload_n 3, 1) := by decide +kernel
theorem dX12_copyActs_61 : decode cX12_copyActs 61 = .ok (.iadd, 1) := by decide +kernel
theorem dX12_copyActs_62 : decode cX12_copyActs 62 = .ok (.iaload, 1) := by decide +kernel
theorem dX12_copyActs_63 : decode cX12_copyActs 63 = .ok (.iastore, 1) := by decide +kernel
theorem dX12_copyActs_64 : decode cX12_copyActs 64 = .ok (.iinc 3 1, 3) := by decide +kernel
theorem dX12_copyActs_67 : decode cX12_copyActs 67 = .ok (.goto (-53), 3) := by decide +kernel
set_option maxRecDepth 100000 in
set_option maxHeartbeats 4000000 in
theorem r_copyActs (l : Launch) (E : EV) (ro : va_W) (hm : Nat) (fr : Nat) (to : Nat) (m_manys : Nat) (m_reals : Nat) (m_factsOf : Nat) (m_possible : Nat) (q_undos : Nat) (q_models : Nat) (m_tape : Nat) (q_taped : Nat) (q_fault : Int32) (q_wrong : Int32) (q_wrongAt : Int32) (q_spot : Int32) (q_place : Int32) (q_token : Int32) (q_value : Int32) (m_ends : Nat) (m_letters : Nat) (m_actOf : Nat) (m_whom : Nat) (m_actMany : Nat) (m_tokens : Nat) (m_afters : Nat) (m_afterOf : Nat) (q_counted : Int32) (m_pile : Nat) (m_caseMany : Nat) (m_happen : Nat) (m_hasIf : Nat) (m_becomes : Nat) (m_goneOf : Nat) (m_heard : Nat) (m_pairs : Nat) (m_heaps : Nat) (q_rounds : Int32) (q_heapMany : Int32) (m_led : Nat) (m_newAt : Nat) (m_knowing : Nat) (m_firsts : Nat) (q_people : Nat) (m_secrets : Nat) (m_tried : Nat) (m_lanes : Nat) (m_lengths : Nat) (m_cells : Nat) (f_actMany : Nat → Int32) (f_actOf : Nat → Int32) (f_whom : Nat → Int32) (hb_actMany : NB 25 32 f_actMany) (hsv : SV f_actOf f_actMany) (hfr0 : fr < 25) (hto : to < 25) (hfr : WR (cN f_actMany fr) (slot f_actOf fr)) : CT l yX12_copyActs (Cond.code yX12_copyActs cX12_copyActs 4 none :: TB) ({ frames := 0, cells := 0, slots := 0, locals := 0 }) E ro [.ref hm, .int (nI fr), .int (nI to)] [(hm, .inr (12, [.ref m_manys, .ref m_reals, .ref m_factsOf, .ref m_possible, .int (nI q_undos), .int (nI q_models), .ref m_tape, .int (nI q_taped), .int q_fault, .int q_wrong, .int q_wrongAt, .int q_spot, .int q_place, .int q_token, .int q_value, .ref m_ends, .ref m_letters, .ref m_actOf, .ref m_whom, .ref m_actMany, .ref m_tokens, .ref m_afters, .ref m_afterOf, .int q_counted, .ref m_pile, .ref m_caseMany, .ref m_happen, .ref m_hasIf, .ref m_becomes, .ref m_goneOf, .ref m_heard, .ref m_pairs, .ref m_heaps, .int q_rounds, .int q_heapMany, .ref m_led, .ref m_newAt, .ref m_knowing, .ref m_firsts, .int (nI q_people), .ref m_secrets, .ref m_tried, .ref m_lanes, .ref m_lengths, .ref m_cells])), (m_actMany, .inl (E.2.1 1, 25, .inl f_actMany)), (m_actOf, .inl (E.2.1 1, 800, .inl f_actOf)), (m_whom, .inl (E.2.1 1, 800, .inl f_whom))] (Qv E (fun uz => (∃ (f_actManyz : Nat → Int32) (f_actOfz : Nat → Int32) (f_whomz : Nat → Int32), uz = [(hm, .inr (12, [.ref m_manys, .ref m_reals, .ref m_factsOf, .ref m_possible, .int (nI q_undos), .int (nI q_models), .ref m_tape, .int (nI q_taped), .int q_fault, .int q_wrong, .int q_wrongAt, .int q_spot, .int q_place, .int q_token, .int q_value, .ref m_ends, .ref m_letters, .ref m_actOf, .ref m_whom, .ref m_actMany, .ref m_tokens, .ref m_afters, .ref m_afterOf, .int q_counted, .ref m_pile, .ref m_caseMany, .ref m_happen, .ref m_hasIf, .ref m_becomes, .ref m_goneOf, .ref m_heard, .ref m_pairs, .ref m_heaps, .int q_rounds, .int q_heapMany, .ref m_led, .ref m_newAt, .ref m_knowing, .ref m_firsts, .int (nI q_people), .ref m_secrets, .ref m_tried, .ref m_lanes, .ref m_lengths, .ref m_cells])), (m_actMany, .inl (E.2.1 1, 25, .inl f_actManyz)), (m_actOf, .inl (E.2.1 1, 800, .inl f_actOfz)), (m_whom, .inl (E.2.1 1, 800, .inl f_whomz))] ∧ (NB 25 32 f_actManyz) ∧ (SV f_actOfz f_actManyz) ∧ (upd f_actMany to (nI (cN f_actMany fr)) = f_actManyz) ∧ (CPG 32 fr to 32 f_actOf f_actOfz) ∧ (CPG 32 fr to 32 f_whom f_whomz)))) 0 0 := by
  refine ct_of rfl rfl ?_
  intro X C hT hin hro
  show WW X 4 E 0 [(0, .ref hm), (1, .int (nI fr)), (2, .int (nI to))] [] [(hm, .inr (12, [.ref m_manys, .ref m_reals, .ref m_factsOf, .ref m_possible, .int (nI q_undos), .int (nI q_models), .ref m_tape, .int (nI q_taped), .int q_fault, .int q_wrong, .int q_wrongAt, .int q_spot, .int q_place, .int q_token, .int q_value, .ref m_ends, .ref m_letters, .ref m_actOf, .ref m_whom, .ref m_actMany, .ref m_tokens, .ref m_afters, .ref m_afterOf, .int q_counted, .ref m_pile, .ref m_caseMany, .ref m_happen, .ref m_hasIf, .ref m_becomes, .ref m_goneOf, .ref m_heard, .ref m_pairs, .ref m_heaps, .int q_rounds, .int q_heapMany, .ref m_led, .ref m_newAt, .ref m_knowing, .ref m_firsts, .int (nI q_people), .ref m_secrets, .ref m_tried, .ref m_lanes, .ref m_lengths, .ref m_cells])), (m_actMany, .inl (E.2.1 1, 25, .inl f_actMany)), (m_actOf, .inl (E.2.1 1, 800, .inl f_actOf)), (m_whom, .inl (E.2.1 1, 800, .inl f_whom))] 0 0
  have hfr1 := hfr.1
  refine ww_aload_n C dX12_copyActs_0 0 rfl rfl ?_
  refine ww_get C fg_X12_37 0 rfl rfl dX12_copyActs_1 ?_
  refine ww_iload_n C dX12_copyActs_4 2 rfl rfl ?_
  refine ww_aload_n C dX12_copyActs_5 0 rfl rfl ?_
  refine ww_get C fg_X12_37 0 rfl rfl dX12_copyActs_6 ?_
  refine ww_iload_n C dX12_copyActs_9 1 rfl rfl ?_
  have hbx_1 := (hb_actMany fr (by omega)).2
  refine ww_iald (v := (nI (cN f_actMany fr))) C 1 rfl (vp_in_nI (by omega) (by omega)) (ldn (by omega) (hb_actMany fr (by omega)).1) dX12_copyActs_10 ?_
  obtain ⟨f_2, ef_2⟩ : ∃ z : Nat → Int32, upd f_actMany to (nI (cN f_actMany fr)) = z := ⟨_, rfl⟩
  refine ww_iast (ws' := [(hm, .inr (12, [.ref m_manys, .ref m_reals, .ref m_factsOf, .ref m_possible, .int (nI q_undos), .int (nI q_models), .ref m_tape, .int (nI q_taped), .int q_fault, .int q_wrong, .int q_wrongAt, .int q_spot, .int q_place, .int q_token, .int q_value, .ref m_ends, .ref m_letters, .ref m_actOf, .ref m_whom, .ref m_actMany, .ref m_tokens, .ref m_afters, .ref m_afterOf, .int q_counted, .ref m_pile, .ref m_caseMany, .ref m_happen, .ref m_hasIf, .ref m_becomes, .ref m_goneOf, .ref m_heard, .ref m_pairs, .ref m_heaps, .int q_rounds, .int q_heapMany, .ref m_led, .ref m_newAt, .ref m_knowing, .ref m_firsts, .int (nI q_people), .ref m_secrets, .ref m_tried, .ref m_lanes, .ref m_lengths, .ref m_cells])), (m_actMany, .inl (E.2.1 1, 25, .inl f_2)), (m_actOf, .inl (E.2.1 1, 800, .inl f_actOf)), (m_whom, .inl (E.2.1 1, 800, .inl f_whom))]) C 1 rfl (vp_in_nI (by omega) (by omega)) (ldn2 (by omega) ef_2) rfl dX12_copyActs_11 ?_
  refine ww_iconst (v := 0) C dX12_copyActs_12 rfl ?_
  refine ww_istore_n (lv' := [(3, .int 0), (0, .ref hm), (1, .int (nI fr)), (2, .int (nI to))]) C dX12_copyActs_13 rfl rfl rfl ?_
  have loop_14 : ∀ (fu : Nat) (i1 : Nat) (g1 : Nat → Int32) (g2 : Nat → Int32), (i1 ≤ 32) → (CPG 32 fr to i1 f_actOf g1) → (CPG 32 fr to i1 f_whom g2) → 32 - i1 < fu → WW X 4 E 14 [(3, .int (nI i1)), (0, .ref hm), (1, .int (nI fr)), (2, .int (nI to))] [] [(hm, .inr (12, [.ref m_manys, .ref m_reals, .ref m_factsOf, .ref m_possible, .int (nI q_undos), .int (nI q_models), .ref m_tape, .int (nI q_taped), .int q_fault, .int q_wrong, .int q_wrongAt, .int q_spot, .int q_place, .int q_token, .int q_value, .ref m_ends, .ref m_letters, .ref m_actOf, .ref m_whom, .ref m_actMany, .ref m_tokens, .ref m_afters, .ref m_afterOf, .int q_counted, .ref m_pile, .ref m_caseMany, .ref m_happen, .ref m_hasIf, .ref m_becomes, .ref m_goneOf, .ref m_heard, .ref m_pairs, .ref m_heaps, .int q_rounds, .int q_heapMany, .ref m_led, .ref m_newAt, .ref m_knowing, .ref m_firsts, .int (nI q_people), .ref m_secrets, .ref m_tried, .ref m_lanes, .ref m_lengths, .ref m_cells])), (m_actMany, .inl (E.2.1 1, 25, .inl f_2)), (m_actOf, .inl (E.2.1 1, 800, .inl g1)), (m_whom, .inl (E.2.1 1, 800, .inl g2))] 0 0 := by
    intro fu
    induction fu with
    | zero => intro i1 g1 g2 hi1 hc_g1 hc_g2 hmeas; exact absurd hmeas (Nat.not_lt_zero _)
    | succ fu ih_14 =>
      intro i1 g1 g2 hi1 hc_g1 hc_g2 hmeas
      refine ww_iload_n C dX12_copyActs_14 0 rfl rfl ?_
      refine ww_bipush (v := 32) C dX12_copyActs_15 rfl ?_
      refine ww_icmp_ge (tgt := 70) C dX12_copyActs_17 (by decide) (fun c_3 => ?_) (fun c_3 => ?_)
      · have zc_3 : ((i1 : Nat) : Int) ≥ 32 := i_le rfl (nI_toInt (n := i1) (by omega)) c_3
        exact ww_vret (u := [(hm, .inr (12, [.ref m_manys, .ref m_reals, .ref m_factsOf, .ref m_possible, .int (nI q_undos), .int (nI q_models), .ref m_tape, .int (nI q_taped), .int q_fault, .int q_wrong, .int q_wrongAt, .int q_spot, .int q_place, .int q_token, .int q_value, .ref m_ends, .ref m_letters, .ref m_actOf, .ref m_whom, .ref m_actMany, .ref m_tokens, .ref m_afters, .ref m_afterOf, .int q_counted, .ref m_pile, .ref m_caseMany, .ref m_happen, .ref m_hasIf, .ref m_becomes, .ref m_goneOf, .ref m_heard, .ref m_pairs, .ref m_heaps, .int q_rounds, .int q_heapMany, .ref m_led, .ref m_newAt, .ref m_knowing, .ref m_firsts, .int (nI q_people), .ref m_secrets, .ref m_tried, .ref m_lanes, .ref m_lengths, .ref m_cells])), (m_actMany, .inl (E.2.1 1, 25, .inl f_2)), (m_actOf, .inl (E.2.1 1, 800, .inl g1)), (m_whom, .inl (E.2.1 1, 800, .inl g2))]) C hT [0, 1, 2, 3] rfl rfl rfl rfl dX12_copyActs_70 (⟨f_2, g1, g2, rfl, (NB.put hb_actMany (t := cN f_actMany fr) (by omega) (by decide) ef_2), (SV.copy hsv hfr (by omega) (by have h9 : i1 = 32 := (by omega); rw [h9] at hc_g1; exact hc_g1) ef_2), ef_2, (by have h9 : i1 = 32 := (by omega); rw [h9] at hc_g1; exact hc_g1), (by have h9 : i1 = 32 := (by omega); rw [h9] at hc_g2; exact hc_g2)⟩)
      · have zc_3 : ((i1 : Nat) : Int) < 32 := i_nle rfl (nI_toInt (n := i1) (by omega)) c_3
        refine ww_aload_n C dX12_copyActs_20 1 rfl rfl ?_
        refine ww_get C fg_X12_31 0 rfl rfl dX12_copyActs_21 ?_
        refine ww_bipush (v := 32) C dX12_copyActs_24 rfl ?_
        refine ww_iload_n C dX12_copyActs_26 3 rfl rfl ?_
        refine ww_imul (v := (nI (32 * to))) C dX12_copyActs_27 (pk_mul 32 to) ?_
        refine ww_iload_n C dX12_copyActs_28 0 rfl rfl ?_
        refine ww_iadd (v := (nI ((32 * to) + i1))) C dX12_copyActs_29 (nI_add (32 * to) i1) ?_
        refine ww_aload_n C dX12_copyActs_30 1 rfl rfl ?_
        refine ww_get C fg_X12_31 0 rfl rfl dX12_copyActs_31 ?_
        refine ww_bipush (v := 32) C dX12_copyActs_34 rfl ?_
        refine ww_iload_n C dX12_copyActs_36 2 rfl rfl ?_
        refine ww_imul (v := (nI (32 * fr))) C dX12_copyActs_37 (pk_mul 32 fr) ?_
        refine ww_iload_n C dX12_copyActs_38 0 rfl rfl ?_
        refine ww_iadd (v := (nI ((32 * fr) + i1))) C dX12_copyActs_39 (nI_add (32 * fr) i1) ?_
        obtain ⟨x_4, ex_4⟩ : ∃ z : Int32, g1 ((32 * fr) + i1) = z := ⟨_, rfl⟩
        refine ww_iald (v := x_4) C 2 rfl (vp_in_nI (by omega) (by omega)) (ldn (by omega) ex_4) dX12_copyActs_40 ?_
        obtain ⟨f_5, ef_5⟩ : ∃ z : Nat → Int32, upd g1 ((32 * to) + i1) x_4 = z := ⟨_, rfl⟩
        refine ww_iast (ws' := [(hm, .inr (12, [.ref m_manys, .ref m_reals, .ref m_factsOf, .ref m_possible, .int (nI q_undos), .int (nI q_models), .ref m_tape, .int (nI q_taped), .int q_fault, .int q_wrong, .int q_wrongAt, .int q_spot, .int q_place, .int q_token, .int q_value, .ref m_ends, .ref m_letters, .ref m_actOf, .ref m_whom, .ref m_actMany, .ref m_tokens, .ref m_afters, .ref m_afterOf, .int q_counted, .ref m_pile, .ref m_caseMany, .ref m_happen, .ref m_hasIf, .ref m_becomes, .ref m_goneOf, .ref m_heard, .ref m_pairs, .ref m_heaps, .int q_rounds, .int q_heapMany, .ref m_led, .ref m_newAt, .ref m_knowing, .ref m_firsts, .int (nI q_people), .ref m_secrets, .ref m_tried, .ref m_lanes, .ref m_lengths, .ref m_cells])), (m_actMany, .inl (E.2.1 1, 25, .inl f_2)), (m_actOf, .inl (E.2.1 1, 800, .inl f_5)), (m_whom, .inl (E.2.1 1, 800, .inl g2))]) C 2 rfl (vp_in_nI (by omega) (by omega)) (ldn2 (by omega) ef_5) rfl dX12_copyActs_41 ?_
        refine ww_aload_n C dX12_copyActs_42 1 rfl rfl ?_
        refine ww_get C fg_X12_34 0 rfl rfl dX12_copyActs_43 ?_
        refine ww_bipush (v := 32) C dX12_copyActs_46 rfl ?_
        refine ww_iload_n C dX12_copyActs_48 3 rfl rfl ?_
        refine ww_imul (v := (nI (32 * to))) C dX12_copyActs_49 (pk_mul 32 to) ?_
        refine ww_iload_n C dX12_copyActs_50 0 rfl rfl ?_
        refine ww_iadd (v := (nI ((32 * to) + i1))) C dX12_copyActs_51 (nI_add (32 * to) i1) ?_
        refine ww_aload_n C dX12_copyActs_52 1 rfl rfl ?_
        refine ww_get C fg_X12_34 0 rfl rfl dX12_copyActs_53 ?_
        refine ww_bipush (v := 32) C dX12_copyActs_56 rfl ?_
        refine ww_iload_n C dX12_copyActs_58 2 rfl rfl ?_
        refine ww_imul (v := (nI (32 * fr))) C dX12_copyActs_59 (pk_mul 32 fr) ?_
        refine ww_iload_n C dX12_copyActs_60 0 rfl rfl ?_
        refine ww_iadd (v := (nI ((32 * fr) + i1))) C dX12_copyActs_61 (nI_add (32 * fr) i1) ?_
        obtain ⟨x_6, ex_6⟩ : ∃ z : Int32, g2 ((32 * fr) + i1) = z := ⟨_, rfl⟩
        refine ww_iald (v := x_6) C 3 rfl (vp_in_nI (by omega) (by omega)) (ldn (by omega) ex_6) dX12_copyActs_62 ?_
        obtain ⟨f_7, ef_7⟩ : ∃ z : Nat → Int32, upd g2 ((32 * to) + i1) x_6 = z := ⟨_, rfl⟩
        refine ww_iast (ws' := [(hm, .inr (12, [.ref m_manys, .ref m_reals, .ref m_factsOf, .ref m_possible, .int (nI q_undos), .int (nI q_models), .ref m_tape, .int (nI q_taped), .int q_fault, .int q_wrong, .int q_wrongAt, .int q_spot, .int q_place, .int q_token, .int q_value, .ref m_ends, .ref m_letters, .ref m_actOf, .ref m_whom, .ref m_actMany, .ref m_tokens, .ref m_afters, .ref m_afterOf, .int q_counted, .ref m_pile, .ref m_caseMany, .ref m_happen, .ref m_hasIf, .ref m_becomes, .ref m_goneOf, .ref m_heard, .ref m_pairs, .ref m_heaps, .int q_rounds, .int q_heapMany, .ref m_led, .ref m_newAt, .ref m_knowing, .ref m_firsts, .int (nI q_people), .ref m_secrets, .ref m_tried, .ref m_lanes, .ref m_lengths, .ref m_cells])), (m_actMany, .inl (E.2.1 1, 25, .inl f_2)), (m_actOf, .inl (E.2.1 1, 800, .inl f_5)), (m_whom, .inl (E.2.1 1, 800, .inl f_7))]) C 3 rfl (vp_in_nI (by omega) (by omega)) (ldn2 (by omega) ef_7) rfl dX12_copyActs_63 ?_
        refine ww_iinc (j := 0) (v := (nI (i1 + 1))) (lv' := [(3, .int (nI (i1 + 1))), (0, .ref hm), (1, .int (nI fr)), (2, .int (nI to))]) C dX12_copyActs_64 rfl (nI_add i1 1) rfl rfl ?_
        refine ww_goto (tgt := 14) C dX12_copyActs_67 (by decide) ?_
        exact ww_lv [0, 1, 2, 3] rfl (ww_sub [0, 1, 2, 3] rfl rfl (ih_14 (i1 + 1) f_5 f_7 (by omega) (CPG.ext hc_g1 (by omega) (by assumption) ef_5) (CPG.ext hc_g2 (by omega) (by assumption) ef_7) (by omega)))
  exact ww_lv [0, 1, 2, 3] rfl (ww_sub [0, 1, 2, 3] rfl rfl (loop_14 _ 0 f_actOf f_whom (by omega) CPG.nil CPG.nil (Nat.lt_succ_self _)))
