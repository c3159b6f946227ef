section
theorem dX12_heapOf_0 : decode cX12_heapOf 0 = .ok (.aload_n 0, 1) := dl_42 (by decide +kernel)
theorem dX12_heapOf_1 : decode cX12_heapOf 1 = .ok (.getfield 74, 3) := dl_180 (by decide +kernel)
theorem wf_X12_74 : Cond.fieldLink RX12 74 RX12 "heaps" "[I" ∈ TB := tbm (tq5 (List.mem_of_getElem? (i := 110) (by decide +kernel))) (by decide +kernel)
theorem fg_X12_74 : FG RX12 74 12 32 := ⟨RX12, TX12, 45, uw_X12, wf_X12_74, rfl, by decide, rfl⟩
theorem dX12_heapOf_4 : decode cX12_heapOf 4 = .ok (.bipush 48, 2) := dl_16 (by decide +kernel)
theorem dX12_heapOf_6 : decode cX12_heapOf 6 = .ok (.aload_n 0, 1) := dl_42 (by decide +kernel)
theorem dX12_heapOf_7 : decode cX12_heapOf 7 = .ok (.getfield 288, 3) := dl_180 (by decide +kernel)
theorem wf_X12_288 : Cond.fieldLink RX12 288 RX12 "rounds" "I" ∈ TB := tbm (tq5 (List.mem_of_getElem? (i := 111) (by decide +kernel))) (by decide +kernel)
theorem fg_X12_288 : FG RX12 288 12 33 := ⟨RX12, TX12, 45, uw_X12, wf_X12_288, rfl, by decide, rfl⟩
theorem dX12_heapOf_10 : decode cX12_heapOf 10 = .ok (.imul, 1) := dl_104 (by decide +kernel)
theorem dX12_heapOf_11 : decode cX12_heapOf 11 = .ok (.iload_n 1, 1) := dl_27 (by decide +kernel)
theorem dX12_heapOf_12 : decode cX12_heapOf 12 = .ok (.iadd, 1) := dl_96 (by decide +kernel)
theorem dX12_heapOf_13 : decode cX12_heapOf 13 = .ok (.iaload, 1) := dl_46 (by decide +kernel)
theorem dX12_heapOf_14 : decode cX12_heapOf 14 = .ok (.ireturn, 1) := dl_172 (by decide +kernel)
set_option maxRecDepth 100000 in
set_option maxHeartbeats 4000000 in
theorem r_heapOf (l : Launch) (E : EV) (ro : va_W) (hm : Nat) (w : Nat) (m_manys : Nat) (m_reals : Nat) (m_factsOf : Nat) (m_possible : Nat) (q_undos : Nat) (q_models : Nat) (m_tape : Nat) (q_taped : Nat) (q_fault : Int32) (q_wrong : Int32) (q_wrongAt : Int32) (q_spot : Int32) (q_place : Int32) (q_token : Int32) (q_value : Int32) (m_ends : Nat) (m_letters : Nat) (m_actOf : Nat) (m_whom : Nat) (m_actMany : Nat) (m_tokens : Nat) (m_afters : Nat) (m_afterOf : Nat) (q_counted : Int32) (m_pile : Nat) (m_caseMany : Nat) (m_happen : Nat) (m_hasIf : Nat) (m_becomes : Nat) (m_goneOf : Nat) (m_heard : Nat) (m_pairs : Nat) (m_heaps : Nat) (q_rounds : Nat) (q_heapMany : Int32) (m_led : Nat) (m_newAt : Nat) (m_knowing : Nat) (m_firsts : Nat) (q_people : Nat) (m_secrets : Nat) (m_tried : Nat) (m_lanes : Nat) (m_lengths : Nat) (m_cells : Nat) (f_heaps : Nat → Int32) (hr : q_rounds ≤ 49) (hw : w < 48) : CT l yX12_heapOf (Cond.code yX12_heapOf cX12_heapOf 2 (some .int) :: TB) ({ frames := 0, cells := 0, slots := 0, locals := 0 }) E ro [.ref hm, .int (nI w)] [(hm, .inr (12, [.ref m_manys, .ref m_reals, .ref m_factsOf, .ref m_possible, .int (nI q_undos), .int (nI q_models), .ref m_tape, .int (nI q_taped), .int q_fault, .int q_wrong, .int q_wrongAt, .int q_spot, .int q_place, .int q_token, .int q_value, .ref m_ends, .ref m_letters, .ref m_actOf, .ref m_whom, .ref m_actMany, .ref m_tokens, .ref m_afters, .ref m_afterOf, .int q_counted, .ref m_pile, .ref m_caseMany, .ref m_happen, .ref m_hasIf, .ref m_becomes, .ref m_goneOf, .ref m_heard, .ref m_pairs, .ref m_heaps, .int (nI q_rounds), .int q_heapMany, .ref m_led, .ref m_newAt, .ref m_knowing, .ref m_firsts, .int (nI q_people), .ref m_secrets, .ref m_tried, .ref m_lanes, .ref m_lengths, .ref m_cells])), (m_heaps, .inl (E.2.1 1, 2400, .inl f_heaps))] (Qi E (fun (rz : Int32) uz => (rz = (f_heaps (48 * q_rounds + w)) ∧ uz = [(hm, .inr (12, [.ref m_manys, .ref m_reals, .ref m_factsOf, .ref m_possible, .int (nI q_undos), .int (nI q_models), .ref m_tape, .int (nI q_taped), .int q_fault, .int q_wrong, .int q_wrongAt, .int q_spot, .int q_place, .int q_token, .int q_value, .ref m_ends, .ref m_letters, .ref m_actOf, .ref m_whom, .ref m_actMany, .ref m_tokens, .ref m_afters, .ref m_afterOf, .int q_counted, .ref m_pile, .ref m_caseMany, .ref m_happen, .ref m_hasIf, .ref m_becomes, .ref m_goneOf, .ref m_heard, .ref m_pairs, .ref m_heaps, .int (nI q_rounds), .int q_heapMany, .ref m_led, .ref m_newAt, .ref m_knowing, .ref m_firsts, .int (nI q_people), .ref m_secrets, .ref m_tried, .ref m_lanes, .ref m_lengths, .ref m_cells])), (m_heaps, .inl (E.2.1 1, 2400, .inl f_heaps))]))) 0 0 := by
  refine ct_of rfl rfl ?_
  intro X C hT hin hro
  show WW X 2 E 0 [(0, .ref hm), (1, .int (nI w))] [] [(hm, .inr (12, [.ref m_manys, .ref m_reals, .ref m_factsOf, .ref m_possible, .int (nI q_undos), .int (nI q_models), .ref m_tape, .int (nI q_taped), .int q_fault, .int q_wrong, .int q_wrongAt, .int q_spot, .int q_place, .int q_token, .int q_value, .ref m_ends, .ref m_letters, .ref m_actOf, .ref m_whom, .ref m_actMany, .ref m_tokens, .ref m_afters, .ref m_afterOf, .int q_counted, .ref m_pile, .ref m_caseMany, .ref m_happen, .ref m_hasIf, .ref m_becomes, .ref m_goneOf, .ref m_heard, .ref m_pairs, .ref m_heaps, .int (nI q_rounds), .int q_heapMany, .ref m_led, .ref m_newAt, .ref m_knowing, .ref m_firsts, .int (nI q_people), .ref m_secrets, .ref m_tried, .ref m_lanes, .ref m_lengths, .ref m_cells])), (m_heaps, .inl (E.2.1 1, 2400, .inl f_heaps))] 0 0
  refine ww_aload_n C dX12_heapOf_0 0 rfl rfl ?_
  refine ww_get C fg_X12_74 0 rfl rfl dX12_heapOf_1 ?_
  refine ww_bipush (v := 48) C dX12_heapOf_4 rfl ?_
  refine ww_aload_n C dX12_heapOf_6 0 rfl rfl ?_
  refine ww_get C fg_X12_288 0 rfl rfl dX12_heapOf_7 ?_
  refine ww_imul (v := (nI (48 * q_rounds))) C dX12_heapOf_10 (pk_mul 48 q_rounds) ?_
  refine ww_iload_n C dX12_heapOf_11 1 rfl rfl ?_
  refine ww_iadd (v := (nI ((48 * q_rounds) + w))) C dX12_heapOf_12 (nI_add (48 * q_rounds) w) ?_
  obtain ⟨x_1, ex_1⟩ : ∃ z : Int32, f_heaps ((48 * q_rounds) + w) = z := ⟨_, rfl⟩
  refine ww_iald (v := x_1) C 1 rfl (vp_in_nI (by omega) (by omega)) (ldn (by omega) ex_1) dX12_heapOf_13 ?_
  exact ww_iret (u := [(hm, .inr (12, [.ref m_manys, .ref m_reals, .ref m_factsOf, .ref m_possible, .int (nI q_undos), .int (nI q_models), .ref m_tape, .int (nI q_taped), .int q_fault, .int q_wrong, .int q_wrongAt, .int q_spot, .int q_place, .int q_token, .int q_value, .ref m_ends, .ref m_letters, .ref m_actOf, .ref m_whom, .ref m_actMany, .ref m_tokens, .ref m_afters, .ref m_afterOf, .int q_counted, .ref m_pile, .ref m_caseMany, .ref m_happen, .ref m_hasIf, .ref m_becomes, .ref m_goneOf, .ref m_heard, .ref m_pairs, .ref m_heaps, .int (nI q_rounds), .int q_heapMany, .ref m_led, .ref m_newAt, .ref m_knowing, .ref m_firsts, .int (nI q_people), .ref m_secrets, .ref m_tried, .ref m_lanes, .ref m_lengths, .ref m_cells])), (m_heaps, .inl (E.2.1 1, 2400, .inl f_heaps))]) C hT [0, 1] rfl rfl rfl rfl dX12_heapOf_14 (⟨(by subst_vars; rfl), rfl⟩)
theorem dX12_areAlike_0 : decode cX12_areAlike 0 = .ok (.aload_n 0, 1) := dl_42 (by decide +kernel)
theorem dX12_areAlike_1 : decode cX12_areAlike 1 = .ok (.getfield 74, 3) := dl_180 (by decide +kernel)
theorem dX12_areAlike_4 : decode cX12_areAlike 4 = .ok (.bipush 48, 2) := dl_16 (by decide +kernel)
theorem dX12_areAlike_6 : decode cX12_areAlike 6 = .ok (.aload_n 0, 1) := dl_42 (by decide +kernel)
theorem dX12_areAlike_7 : decode cX12_areAlike 7 = .ok (.getfield 288, 3) := dl_180 (by decide +kernel)
theorem dX12_areAlike_10 : decode cX12_areAlike 10 = .ok (.imul, 1) := dl_104 (by decide +kernel)
theorem dX12_areAlike_11 : decode cX12_areAlike 11 = .ok (.iload_n 1, 1) := dl_27 (by decide +kernel)
theorem dX12_areAlike_12 : decode cX12_areAlike 12 = .ok (.iadd, 1) := dl_96 (by decide +kernel)
theorem dX12_areAlike_13 : decode cX12_areAlike 13 = .ok (.iaload, 1) := dl_46 (by decide +kernel)
theorem dX12_areAlike_14 : decode cX12_areAlike 14 = .ok (.aload_n 0, 1) := dl_42 (by decide +kernel)
theorem dX12_areAlike_15 : decode cX12_areAlike 15 = .ok (.getfield 74, 3) := dl_180 (by decide +kernel)
theorem dX12_areAlike_18 : decode cX12_areAlike 18 = .ok (.bipush 48, 2) := dl_16 (by decide +kernel)
theorem dX12_areAlike_20 : decode cX12_areAlike 20 = .ok (.aload_n 0, 1) := dl_42 (by decide +kernel)
theorem dX12_areAlike_21 : decode cX12_areAlike 21 = .ok (.getfield 288, 3) := dl_180 (by decide +kernel)
theorem dX12_areAlike_24 : decode cX12_areAlike 24 = .ok (.imul, 1) := dl_104 (by decide +kernel)
theorem dX12_areAlike_25 : decode cX12_areAlike 25 = .ok (.iload_n 2, 1) := dl_28 (by decide +kernel)
theorem dX12_areAlike_26 : decode cX12_areAlike 26 = .ok (.iadd, 1) := dl_96 (by decide +kernel)
theorem dX12_areAlike_27 : decode cX12_areAlike 27 = .ok (.iaload, 1) := dl_46 (by decide +kernel)
theorem dX12_areAlike_28 : decode cX12_areAlike 28 = .ok (.if_icmp .ne 7, 3) := dl_160 (by decide +kernel)
theorem dX12_areAlike_35 : decode cX12_areAlike 35 = .ok (.iconst 0, 1) := dl_3 (by decide +kernel)
theorem dX12_areAlike_36 : decode cX12_areAlike 36 = .ok (.istore_n 3, 1) := dl_62 (by decide +kernel)
theorem dX12_areAlike_37 : decode cX12_areAlike 37 = .ok (.iconst 0, 1) := dl_3 (by decide +kernel)
theorem dX12_areAlike_38 : decode cX12_areAlike 38 = .ok (.istore 4, 2) := dl_54 (by decide +kernel)
theorem dX12_areAlike_40 : decode cX12_areAlike 40 = .ok (.iload 4, 2) := dl_21 (by decide +kernel)
theorem dX12_areAlike_42 : decode cX12_areAlike 42 = .ok (.iconst 4, 1) := dl_7 (by decide +kernel)
theorem dX12_areAlike_43 : decode cX12_areAlike 43 = .ok (.if_icmp .ge 45, 3) := dl_162 (by decide +kernel)
theorem dX12_areAlike_88 : decode cX12_areAlike 88 = .ok (.iload_n 3, 1) := dl_29 (by decide +kernel)
theorem dX12_areAlike_89 : decode cX12_areAlike 89 = .ok (.ireturn, 1) := dl_172 (by decide +kernel)
theorem dX12_areAlike_46 : decode cX12_areAlike 46 = .ok (.iload_n 3, 1) := dl_29 (by decide +kernel)
theorem dX12_areAlike_47 : decode cX12_areAlike 47 = .ok (.ifCond .eq 33, 3) := dl_153 (by decide +kernel)
theorem dX12_areAlike_80 : decode cX12_areAlike 80 = .ok (.iconst 0, 1) := dl_3 (by decide +kernel)
theorem dX12_areAlike_81 : decode cX12_areAlike 81 = .ok (.istore_n 3, 1) := dl_62 (by decide +kernel)
theorem dX12_areAlike_82 : decode cX12_areAlike 82 = .ok (.iinc 4 1, 3) := dl_132 (by decide +kernel)
theorem dX12_areAlike_85 : decode cX12_areAlike 85 = .ok (.goto (-45), 3) := dl_167 (by decide +kernel)
theorem dX12_areAlike_50 : decode cX12_areAlike 50 = .ok (.aload_n 0, 1) := dl_42 (by decide +kernel)
theorem dX12_areAlike_51 : decode cX12_areAlike 51 = .ok (.getfield 77, 3) := dl_180 (by decide +kernel)
theorem wf_X12_77 : Cond.fieldLink RX12 77 RX12 "led" "[J" ∈ TB := tbm (tq5 (List.mem_of_getElem? (i := 113) (by decide +kernel))) (by decide +kernel)
theorem fg_X12_77 : FG RX12 77 12 35 := ⟨RX12, TX12, 45, uw_X12, wf_X12_77, rfl, by decide, rfl⟩
theorem dX12_areAlike_54 : decode cX12_areAlike 54 = .ok (.iconst 4, 1) := dl_7 (by decide +kernel)
theorem dX12_areAlike_55 : decode cX12_areAlike 55 = .ok (.iload_n 1, 1) := dl_27 (by decide +kernel)
theorem dX12_areAlike_56 : decode cX12_areAlike 56 = .ok (.imul, 1) := dl_104 (by decide +kernel)
theorem dX12_areAlike_57 : decode cX12_areAlike 57 = .ok (.iload 4, 2) := dl_21 (by decide +kernel)
theorem dX12_areAlike_59 : decode cX12_areAlike 59 = .ok (.iadd, 1) := dl_96 (by decide +kernel)
theorem dX12_areAlike_60 : decode cX12_areAlike 60 = .ok (.laload, 1) := dl_47 (by decide +kernel)
theorem dX12_areAlike_61 : decode cX12_areAlike 61 = .ok (.aload_n 0, 1) := dl_42 (by decide +kernel)
theorem dX12_areAlike_62 : decode cX12_areAlike 62 = .ok (.getfield 77, 3) := dl_180 (by decide +kernel)
theorem dX12_areAlike_65 : decode cX12_areAlike 65 = .ok (.iconst 4, 1) := dl_7 (by decide +kernel)
theorem dX12_areAlike_66 : decode cX12_areAlike 66 = .ok (.iload_n 2, 1) := dl_28 (by decide +kernel)
theorem dX12_areAlike_67 : decode cX12_areAlike 67 = .ok (.imul, 1) := dl_104 (by decide +kernel)
theorem dX12_areAlike_68 : decode cX12_areAlike 68 = .ok (.iload 4, 2) := dl_21 (by decide +kernel)
theorem dX12_areAlike_70 : decode cX12_areAlike 70 = .ok (.iadd, 1) := dl_96 (by decide +kernel)
theorem dX12_areAlike_71 : decode cX12_areAlike 71 = .ok (.laload, 1) := dl_47 (by decide +kernel)
theorem dX12_areAlike_72 : decode cX12_areAlike 72 = .ok (.lcmp, 1) := dl_148 (by decide +kernel)
theorem dX12_areAlike_73 : decode cX12_areAlike 73 = .ok (.ifCond .ne 7, 3) := dl_154 (by decide +kernel)
theorem dX12_areAlike_76 : decode cX12_areAlike 76 = .ok (.iconst 1, 1) := dl_4 (by decide +kernel)
theorem dX12_areAlike_77 : decode cX12_areAlike 77 = .ok (.goto 4, 3) := dl_167 (by decide +kernel)
theorem dX12_areAlike_31 : decode cX12_areAlike 31 = .ok (.iconst 1, 1) := dl_4 (by decide +kernel)
theorem dX12_areAlike_32 : decode cX12_areAlike 32 = .ok (.goto 4, 3) := dl_167 (by decide +kernel)
set_option maxRecDepth 100000 in
set_option maxHeartbeats 4000000 in
theorem r_areAlike (l : Launch) (E : EV) (ro : va_W) (hm : Nat) (v : Nat) (w : Nat) (m_manys : Nat) (m_reals : Nat) (m_factsOf : Nat) (m_possible : Nat) (q_undos : Nat) (q_models : Nat) (m_tape : Nat) (q_taped : Nat) (q_fault : Int32) (q_wrong : Int32) (q_wrongAt : Int32) (q_spot : Int32) (q_place : Int32) (q_token : Int32) (q_value : Int32) (m_ends : Nat) (m_letters : Nat) (m_actOf : Nat) (m_whom : Nat) (m_actMany : Nat) (m_tokens : Nat) (m_afters : Nat) (m_afterOf : Nat) (q_counted : Int32) (m_pile : Nat) (m_caseMany : Nat) (m_happen : Nat) (m_hasIf : Nat) (m_becomes : Nat) (m_goneOf : Nat) (m_heard : Nat) (m_pairs : Nat) (m_heaps : Nat) (q_rounds : Nat) (q_heapMany : Int32) (m_led : Nat) (m_newAt : Nat) (m_knowing : Nat) (m_firsts : Nat) (q_people : Nat) (m_secrets : Nat) (m_tried : Nat) (m_lanes : Nat) (m_lengths : Nat) (m_cells : Nat) (f_heaps : Nat → Int32) (f_led : Nat → Int64) (hr : q_rounds ≤ 48) (hv : v < 48) (hw : w < 48) : CT l yX12_areAlike (Cond.code yX12_areAlike cX12_areAlike 5 (some .boolean) :: TB) ({ frames := 0, cells := 0, slots := 0, locals := 0 }) E ro [.ref hm, .int (nI v), .int (nI w)] [(hm, .inr (12, [.ref m_manys, .ref m_reals, .ref m_factsOf, .ref m_possible, .int (nI q_undos), .int (nI q_models), .ref m_tape, .int (nI q_taped), .int q_fault, .int q_wrong, .int q_wrongAt, .int q_spot, .int q_place, .int q_token, .int q_value, .ref m_ends, .ref m_letters, .ref m_actOf, .ref m_whom, .ref m_actMany, .ref m_tokens, .ref m_afters, .ref m_afterOf, .int q_counted, .ref m_pile, .ref m_caseMany, .ref m_happen, .ref m_hasIf, .ref m_becomes, .ref m_goneOf, .ref m_heard, .ref m_pairs, .ref m_heaps, .int (nI q_rounds), .int q_heapMany, .ref m_led, .ref m_newAt, .ref m_knowing, .ref m_firsts, .int (nI q_people), .ref m_secrets, .ref m_tried, .ref m_lanes, .ref m_lengths, .ref m_cells])), (m_heaps, .inl (E.2.1 1, 2400, .inl f_heaps)), (m_led, .inl (E.2.1 2, 192, .inr (.inl f_led)))] (Qi E (fun (rz : Int32) uz => (rz = 1 ∧ uz = [(hm, .inr (12, [.ref m_manys, .ref m_reals, .ref m_factsOf, .ref m_possible, .int (nI q_undos), .int (nI q_models), .ref m_tape, .int (nI q_taped), .int q_fault, .int q_wrong, .int q_wrongAt, .int q_spot, .int q_place, .int q_token, .int q_value, .ref m_ends, .ref m_letters, .ref m_actOf, .ref m_whom, .ref m_actMany, .ref m_tokens, .ref m_afters, .ref m_afterOf, .int q_counted, .ref m_pile, .ref m_caseMany, .ref m_happen, .ref m_hasIf, .ref m_becomes, .ref m_goneOf, .ref m_heard, .ref m_pairs, .ref m_heaps, .int (nI q_rounds), .int q_heapMany, .ref m_led, .ref m_newAt, .ref m_knowing, .ref m_firsts, .int (nI q_people), .ref m_secrets, .ref m_tried, .ref m_lanes, .ref m_lengths, .ref m_cells])), (m_heaps, .inl (E.2.1 1, 2400, .inl f_heaps)), (m_led, .inl (E.2.1 2, 192, .inr (.inl f_led)))] ∧ (ALR f_heaps q_rounds f_led v w)) ∨ (rz = 0 ∧ uz = [(hm, .inr (12, [.ref m_manys, .ref m_reals, .ref m_factsOf, .ref m_possible, .int (nI q_undos), .int (nI q_models), .ref m_tape, .int (nI q_taped), .int q_fault, .int q_wrong, .int q_wrongAt, .int q_spot, .int q_place, .int q_token, .int q_value, .ref m_ends, .ref m_letters, .ref m_actOf, .ref m_whom, .ref m_actMany, .ref m_tokens, .ref m_afters, .ref m_afterOf, .int q_counted, .ref m_pile, .ref m_caseMany, .ref m_happen, .ref m_hasIf, .ref m_becomes, .ref m_goneOf, .ref m_heard, .ref m_pairs, .ref m_heaps, .int (nI q_rounds), .int q_heapMany, .ref m_led, .ref m_newAt, .ref m_knowing, .ref m_firsts, .int (nI q_people), .ref m_secrets, .ref m_tried, .ref m_lanes, .ref m_lengths, .ref m_cells])), (m_heaps, .inl (E.2.1 1, 2400, .inl f_heaps)), (m_led, .inl (E.2.1 2, 192, .inr (.inl f_led)))] ∧ (¬ ALR f_heaps q_rounds f_led v w)))) 0 0 := by
  refine ct_of rfl rfl ?_
  intro X C hT hin hro
  show WW X 5 E 0 [(0, .ref hm), (1, .int (nI v)), (2, .int (nI w))] [] [(hm, .inr (12, [.ref m_manys, .ref m_reals, .ref m_factsOf, .ref m_possible, .int (nI q_undos), .int (nI q_models), .ref m_tape, .int (nI q_taped), .int q_fault, .int q_wrong, .int q_wrongAt, .int q_spot, .int q_place, .int q_token, .int q_value, .ref m_ends, .ref m_letters, .ref m_actOf, .ref m_whom, .ref m_actMany, .ref m_tokens, .ref m_afters, .ref m_afterOf, .int q_counted, .ref m_pile, .ref m_caseMany, .ref m_happen, .ref m_hasIf, .ref m_becomes, .ref m_goneOf, .ref m_heard, .ref m_pairs, .ref m_heaps, .int (nI q_rounds), .int q_heapMany, .ref m_led, .ref m_newAt, .ref m_knowing, .ref m_firsts, .int (nI q_people), .ref m_secrets, .ref m_tried, .ref m_lanes, .ref m_lengths, .ref m_cells])), (m_heaps, .inl (E.2.1 1, 2400, .inl f_heaps)), (m_led, .inl (E.2.1 2, 192, .inr (.inl f_led)))] 0 0
  refine ww_aload_n C dX12_areAlike_0 0 rfl rfl ?_
  refine ww_get C fg_X12_74 0 rfl rfl dX12_areAlike_1 ?_
  refine ww_bipush (v := 48) C dX12_areAlike_4 rfl ?_
  refine ww_aload_n C dX12_areAlike_6 0 rfl rfl ?_
  refine ww_get C fg_X12_288 0 rfl rfl dX12_areAlike_7 ?_
  refine ww_imul (v := (nI (48 * q_rounds))) C dX12_areAlike_10 (pk_mul 48 q_rounds) ?_
  refine ww_iload_n C dX12_areAlike_11 1 rfl rfl ?_
  refine ww_iadd (v := (nI ((48 * q_rounds) + v))) C dX12_areAlike_12 (nI_add (48 * q_rounds) v) ?_
  obtain ⟨x_1, ex_1⟩ : ∃ z : Int32, f_heaps ((48 * q_rounds) + v) = z := ⟨_, rfl⟩
  refine ww_iald (v := x_1) C 1 rfl (vp_in_nI (by omega) (by omega)) (ldn (by omega) ex_1) dX12_areAlike_13 ?_
  refine ww_aload_n C dX12_areAlike_14 0 rfl rfl ?_
  refine ww_get C fg_X12_74 0 rfl rfl dX12_areAlike_15 ?_
  refine ww_bipush (v := 48) C dX12_areAlike_18 rfl ?_
  refine ww_aload_n C dX12_areAlike_20 0 rfl rfl ?_
  refine ww_get C fg_X12_288 0 rfl rfl dX12_areAlike_21 ?_
  refine ww_imul (v := (nI (48 * q_rounds))) C dX12_areAlike_24 (pk_mul 48 q_rounds) ?_
  refine ww_iload_n C dX12_areAlike_25 2 rfl rfl ?_
  refine ww_iadd (v := (nI ((48 * q_rounds) + w))) C dX12_areAlike_26 (nI_add (48 * q_rounds) w) ?_
  obtain ⟨x_2, ex_2⟩ : ∃ z : Int32, f_heaps ((48 * q_rounds) + w) = z := ⟨_, rfl⟩
  refine ww_iald (v := x_2) C 1 rfl (vp_in_nI (by omega) (by omega)) (ldn (by omega) ex_2) dX12_areAlike_27 ?_
  refine ww_icmp_ne (tgt := 35) C dX12_areAlike_28 (by decide) (fun c_3 => ?_) (fun c_3 => ?_)
  · have zc_3 : x_1.toInt ≠ x_2.toInt := i_ne rfl rfl c_3
    refine ww_iconst (v := 0) C dX12_areAlike_35 rfl ?_
    refine ww_istore_n (lv' := [(3, .int 0), (0, .ref hm), (1, .int (nI v)), (2, .int (nI w))]) C dX12_areAlike_36 rfl rfl rfl ?_
    refine ww_iconst (v := 0) C dX12_areAlike_37 rfl ?_
    refine ww_istore (lv' := [(4, .int 0), (3, .int 0), (0, .ref hm), (1, .int (nI v)), (2, .int (nI w))]) C dX12_areAlike_38 rfl rfl ?_
    have loop_40 : ∀ (fu : Nat) (k1 : Nat) (a1 : Nat), (k1 ≤ 4) → (a1 ≤ 1) → (ALk f_heaps q_rounds f_led v w k1 a1) → 4 - k1 < fu → WW X 5 E 40 [(4, .int (nI k1)), (3, .int (nI a1)), (0, .ref hm), (1, .int (nI v)), (2, .int (nI w))] [] [(hm, .inr (12, [.ref m_manys, .ref m_reals, .ref m_factsOf, .ref m_possible, .int (nI q_undos), .int (nI q_models), .ref m_tape, .int (nI q_taped), .int q_fault, .int q_wrong, .int q_wrongAt, .int q_spot, .int q_place, .int q_token, .int q_value, .ref m_ends, .ref m_letters, .ref m_actOf, .ref m_whom, .ref m_actMany, .ref m_tokens, .ref m_afters, .ref m_afterOf, .int q_counted, .ref m_pile, .ref m_caseMany, .ref m_happen, .ref m_hasIf, .ref m_becomes, .ref m_goneOf, .ref m_heard, .ref m_pairs, .ref m_heaps, .int (nI q_rounds), .int q_heapMany, .ref m_led, .ref m_newAt, .ref m_knowing, .ref m_firsts, .int (nI q_people), .ref m_secrets, .ref m_tried, .ref m_lanes, .ref m_lengths, .ref m_cells])), (m_heaps, .inl (E.2.1 1, 2400, .inl f_heaps)), (m_led, .inl (E.2.1 2, 192, .inr (.inl f_led)))] 0 0 := by
      intro fu
      induction fu with
      | zero => intro k1 a1 hk1 ha1 hal hmeas; exact absurd hmeas (Nat.not_lt_zero _)
      | succ fu ih_40 =>
        intro k1 a1 hk1 ha1 hal hmeas
        refine ww_iload C dX12_areAlike_40 0 rfl ?_
        refine ww_iconst (v := 4) C dX12_areAlike_42 rfl ?_
        refine ww_icmp_ge (tgt := 88) C dX12_areAlike_43 (by decide) (fun c_4 => ?_) (fun c_4 => ?_)
        · have zc_4 : ((k1 : Nat) : Int) ≥ 4 := i_le rfl (nI_toInt (n := k1) (by omega)) c_4
          have hk4 : k1 = 4 := by omega
          rw [hk4] at hal
          rcases (show a1 = 0 ∨ a1 = 1 by omega) with rfl | rfl
          · refine ww_iload_n C dX12_areAlike_88 1 rfl rfl ?_
            exact ww_zret (u := [(hm, .inr (12, [.ref m_manys, .ref m_reals, .ref m_factsOf, .ref m_possible, .int (nI q_undos), .int (nI q_models), .ref m_tape, .int (nI q_taped), .int q_fault, .int q_wrong, .int q_wrongAt, .int q_spot, .int q_place, .int q_token, .int q_value, .ref m_ends, .ref m_letters, .ref m_actOf, .ref m_whom, .ref m_actMany, .ref m_tokens, .ref m_afters, .ref m_afterOf, .int q_counted, .ref m_pile, .ref m_caseMany, .ref m_happen, .ref m_hasIf, .ref m_becomes, .ref m_goneOf, .ref m_heard, .ref m_pairs, .ref m_heaps, .int (nI q_rounds), .int q_heapMany, .ref m_led, .ref m_newAt, .ref m_knowing, .ref m_firsts, .int (nI q_people), .ref m_secrets, .ref m_tried, .ref m_lanes, .ref m_lengths, .ref m_cells])), (m_heaps, .inl (E.2.1 1, 2400, .inl f_heaps)), (m_led, .inl (E.2.1 2, 192, .inr (.inl f_led)))]) C hT [0, 1, 2] rfl rfl rfl rfl rfl dX12_areAlike_89 (Or.inr ⟨rfl, rfl, (hal.2 rfl)⟩)
          · refine ww_iload_n C dX12_areAlike_88 1 rfl rfl ?_
            exact ww_zret (u := [(hm, .inr (12, [.ref m_manys, .ref m_reals, .ref m_factsOf, .ref m_possible, .int (nI q_undos), .int (nI q_models), .ref m_tape, .int (nI q_taped), .int q_fault, .int q_wrong, .int q_wrongAt, .int q_spot, .int q_place, .int q_token, .int q_value, .ref m_ends, .ref m_letters, .ref m_actOf, .ref m_whom, .ref m_actMany, .ref m_tokens, .ref m_afters, .ref m_afterOf, .int q_counted, .ref m_pile, .ref m_caseMany, .ref m_happen, .ref m_hasIf, .ref m_becomes, .ref m_goneOf, .ref m_heard, .ref m_pairs, .ref m_heaps, .int (nI q_rounds), .int q_heapMany, .ref m_led, .ref m_newAt, .ref m_knowing, .ref m_firsts, .int (nI q_people), .ref m_secrets, .ref m_tried, .ref m_lanes, .ref m_lengths, .ref m_cells])), (m_heaps, .inl (E.2.1 1, 2400, .inl f_heaps)), (m_led, .inl (E.2.1 2, 192, .inr (.inl f_led)))]) C hT [0, 1, 2] rfl rfl rfl rfl rfl dX12_areAlike_89 (Or.inl ⟨rfl, rfl, (ALk.is hal rfl)⟩)
        · have zc_4 : ((k1 : Nat) : Int) < 4 := i_nle rfl (nI_toInt (n := k1) (by omega)) c_4
          refine ww_iload_n C dX12_areAlike_46 1 rfl rfl ?_
          refine ww_if_eq (tgt := 80) C dX12_areAlike_47 (by decide) (fun c_5 => ?_) (fun c_5 => ?_)
          · have zc_5 : ((a1 : Nat) : Int) = 0 := i_eq (nI_toInt (n := a1) (by omega)) rfl c_5
            refine ww_iconst (v := 0) C dX12_areAlike_80 rfl ?_
            refine ww_istore_n (lv' := [(3, .int 0), (4, .int (nI k1)), (0, .ref hm), (1, .int (nI v)), (2, .int (nI w))]) C dX12_areAlike_81 rfl rfl rfl ?_
            refine ww_iinc (j := 1) (v := (nI (k1 + 1))) (lv' := [(4, .int (nI (k1 + 1))), (3, .int 0), (0, .ref hm), (1, .int (nI v)), (2, .int (nI w))]) C dX12_areAlike_82 rfl (nI_add k1 1) rfl rfl ?_
            refine ww_goto (tgt := 40) C dX12_areAlike_85 (by decide) ?_
            exact ww_lv [0, 1, 2, 3, 4] rfl (ww_sub [0, 1, 2] rfl rfl (ih_40 (k1 + 1) 0 (by omega) (by omega) (by first | exact ALk.keep0 hal (by omega) | exact ALk.no (by omega) (by assumption) (by assumption) (by assumption) hal) (by omega)))
          · have zc_5 : ((a1 : Nat) : Int) ≠ 0 := i_ne (nI_toInt (n := a1) (by omega)) rfl c_5
            refine ww_aload_n C dX12_areAlike_50 2 rfl rfl ?_
            refine ww_get C fg_X12_77 0 rfl rfl dX12_areAlike_51 ?_
            refine ww_iconst (v := 4) C dX12_areAlike_54 rfl ?_
            refine ww_iload_n C dX12_areAlike_55 3 rfl rfl ?_
            refine ww_imul (v := (nI (4 * v))) C dX12_areAlike_56 (pk_mul 4 v) ?_
            refine ww_iload C dX12_areAlike_57 0 rfl ?_
            refine ww_iadd (v := (nI ((4 * v) + k1))) C dX12_areAlike_59 (nI_add (4 * v) k1) ?_
            obtain ⟨x_6, ex_6⟩ : ∃ z : Int64, f_led ((4 * v) + k1) = z := ⟨_, rfl⟩
            refine ww_lald (v := x_6) C 2 rfl (vp_in_nI (by omega) (by omega)) (ldn (by omega) ex_6) dX12_areAlike_60 ?_
            refine ww_aload_n C dX12_areAlike_61 2 rfl rfl ?_
            refine ww_get C fg_X12_77 0 rfl rfl dX12_areAlike_62 ?_
            refine ww_iconst (v := 4) C dX12_areAlike_65 rfl ?_
            refine ww_iload_n C dX12_areAlike_66 4 rfl rfl ?_
            refine ww_imul (v := (nI (4 * w))) C dX12_areAlike_67 (pk_mul 4 w) ?_
            refine ww_iload C dX12_areAlike_68 0 rfl ?_
            refine ww_iadd (v := (nI ((4 * w) + k1))) C dX12_areAlike_70 (nI_add (4 * w) k1) ?_
            obtain ⟨x_7, ex_7⟩ : ∃ z : Int64, f_led ((4 * w) + k1) = z := ⟨_, rfl⟩
            refine ww_lald (v := x_7) C 2 rfl (vp_in_nI (by omega) (by omega)) (ldn (by omega) ex_7) dX12_areAlike_71 ?_
            refine ww_lcmp (v := lg_cmp x_6 x_7) C dX12_areAlike_72 rfl ?_
            refine ww_if_ne (tgt := 80) C dX12_areAlike_73 (by decide) (fun c_9 => ?_) (fun c_9 => ?_)
            · have zc_9 : x_6.toInt ≠ x_7.toInt := lc_ne_t rfl rfl c_9
              refine ww_iconst (v := 0) C dX12_areAlike_80 rfl ?_
              refine ww_istore_n (lv' := [(3, .int 0), (4, .int (nI k1)), (0, .ref hm), (1, .int (nI v)), (2, .int (nI w))]) C dX12_areAlike_81 rfl rfl rfl ?_
              refine ww_iinc (j := 1) (v := (nI (k1 + 1))) (lv' := [(4, .int (nI (k1 + 1))), (3, .int 0), (0, .ref hm), (1, .int (nI v)), (2, .int (nI w))]) C dX12_areAlike_82 rfl (nI_add k1 1) rfl rfl ?_
              refine ww_goto (tgt := 40) C dX12_areAlike_85 (by decide) ?_
              exact ww_lv [0, 1, 2, 3, 4] rfl (ww_sub [0, 1, 2] rfl rfl (ih_40 (k1 + 1) 0 (by omega) (by omega) (by first | exact ALk.keep0 hal (by omega) | exact ALk.no (by omega) (by assumption) (by assumption) (by assumption) hal) (by omega)))
            · have zc_9 : x_6.toInt = x_7.toInt := lc_ne_f rfl rfl c_9
              refine ww_iconst (v := 1) C dX12_areAlike_76 rfl ?_
              refine ww_goto (tgt := 81) C dX12_areAlike_77 (by decide) ?_
              refine ww_istore_n (lv' := [(3, .int 1), (4, .int (nI k1)), (0, .ref hm), (1, .int (nI v)), (2, .int (nI w))]) C dX12_areAlike_81 rfl rfl rfl ?_
              refine ww_iinc (j := 1) (v := (nI (k1 + 1))) (lv' := [(4, .int (nI (k1 + 1))), (3, .int 1), (0, .ref hm), (1, .int (nI v)), (2, .int (nI w))]) C dX12_areAlike_82 rfl (nI_add k1 1) rfl rfl ?_
              refine ww_goto (tgt := 40) C dX12_areAlike_85 (by decide) ?_
              exact ww_lv [0, 1, 2, 3, 4] rfl (ww_sub [0, 1, 2] rfl rfl (ih_40 (k1 + 1) 1 (by omega) (by omega) (ALk.yes hal (by omega) (by assumption) (by assumption) (by assumption)) (by omega)))
    exact ww_lv [0, 1, 2, 3, 4] rfl (ww_sub [0, 1, 2] rfl rfl (loop_40 _ 0 0 (by omega) (by omega) (ALk.start0 (by assumption) (by assumption) (by assumption)) (Nat.lt_succ_self _)))
  · have zc_3 : x_1.toInt = x_2.toInt := i_eq rfl rfl c_3
    refine ww_iconst (v := 1) C dX12_areAlike_31 rfl ?_
    refine ww_goto (tgt := 36) C dX12_areAlike_32 (by decide) ?_
    refine ww_istore_n (lv' := [(3, .int 1), (0, .ref hm), (1, .int (nI v)), (2, .int (nI w))]) C dX12_areAlike_36 rfl rfl rfl ?_
    refine ww_iconst (v := 0) C dX12_areAlike_37 rfl ?_
    refine ww_istore (lv' := [(4, .int 0), (3, .int 1), (0, .ref hm), (1, .int (nI v)), (2, .int (nI w))]) C dX12_areAlike_38 rfl rfl ?_
    have loop_40 : ∀ (fu : Nat) (k1 : Nat) (a1 : Nat), (k1 ≤ 4) → (a1 ≤ 1) → (ALk f_heaps q_rounds f_led v w k1 a1) → 4 - k1 < fu → WW X 5 E 40 [(4, .int (nI k1)), (3, .int (nI a1)), (0, .ref hm), (1, .int (nI v)), (2, .int (nI w))] [] [(hm, .inr (12, [.ref m_manys, .ref m_reals, .ref m_factsOf, .ref m_possible, .int (nI q_undos), .int (nI q_models), .ref m_tape, .int (nI q_taped), .int q_fault, .int q_wrong, .int q_wrongAt, .int q_spot, .int q_place, .int q_token, .int q_value, .ref m_ends, .ref m_letters, .ref m_actOf, .ref m_whom, .ref m_actMany, .ref m_tokens, .ref m_afters, .ref m_afterOf, .int q_counted, .ref m_pile, .ref m_caseMany, .ref m_happen, .ref m_hasIf, .ref m_becomes, .ref m_goneOf, .ref m_heard, .ref m_pairs, .ref m_heaps, .int (nI q_rounds), .int q_heapMany, .ref m_led, .ref m_newAt, .ref m_knowing, .ref m_firsts, .int (nI q_people), .ref m_secrets, .ref m_tried, .ref m_lanes, .ref m_lengths, .ref m_cells])), (m_heaps, .inl (E.2.1 1, 2400, .inl f_heaps)), (m_led, .inl (E.2.1 2, 192, .inr (.inl f_led)))] 0 0 := by
      intro fu
      induction fu with
      | zero => intro k1 a1 hk1 ha1 hal hmeas; exact absurd hmeas (Nat.not_lt_zero _)
      | succ fu ih_40 =>
        intro k1 a1 hk1 ha1 hal hmeas
        refine ww_iload C dX12_areAlike_40 0 rfl ?_
        refine ww_iconst (v := 4) C dX12_areAlike_42 rfl ?_
        refine ww_icmp_ge (tgt := 88) C dX12_areAlike_43 (by decide) (fun c_10 => ?_) (fun c_10 => ?_)
        · have zc_10 : ((k1 : Nat) : Int) ≥ 4 := i_le rfl (nI_toInt (n := k1) (by omega)) c_10
          have hk4 : k1 = 4 := by omega
          rw [hk4] at hal
          rcases (show a1 = 0 ∨ a1 = 1 by omega) with rfl | rfl
          · refine ww_iload_n C dX12_areAlike_88 1 rfl rfl ?_
            exact ww_zret (u := [(hm, .inr (12, [.ref m_manys, .ref m_reals, .ref m_factsOf, .ref m_possible, .int (nI q_undos), .int (nI q_models), .ref m_tape, .int (nI q_taped), .int q_fault, .int q_wrong, .int q_wrongAt, .int q_spot, .int q_place, .int q_token, .int q_value, .ref m_ends, .ref m_letters, .ref m_actOf, .ref m_whom, .ref m_actMany, .ref m_tokens, .ref m_afters, .ref m_afterOf, .int q_counted, .ref m_pile, .ref m_caseMany, .ref m_happen, .ref m_hasIf, .ref m_becomes, .ref m_goneOf, .ref m_heard, .ref m_pairs, .ref m_heaps, .int (nI q_rounds), .int q_heapMany, .ref m_led, .ref m_newAt, .ref m_knowing, .ref m_firsts, .int (nI q_people), .ref m_secrets, .ref m_tried, .ref m_lanes, .ref m_lengths, .ref m_cells])), (m_heaps, .inl (E.2.1 1, 2400, .inl f_heaps)), (m_led, .inl (E.2.1 2, 192, .inr (.inl f_led)))]) C hT [0, 1, 2] rfl rfl rfl rfl rfl dX12_areAlike_89 (Or.inr ⟨rfl, rfl, (hal.2 rfl)⟩)
          · refine ww_iload_n C dX12_areAlike_88 1 rfl rfl ?_
            exact ww_zret (u := [(hm, .inr (12, [.ref m_manys, .ref m_reals, .ref m_factsOf, .ref m_possible, .int (nI q_undos), .int (nI q_models), .ref m_tape, .int (nI q_taped), .int q_fault, .int q_wrong, .int q_wrongAt, .int q_spot, .int q_place, .int q_token, .int q_value, .ref m_ends, .ref m_letters, .ref m_actOf, .ref m_whom, .ref m_actMany, .ref m_tokens, .ref m_afters, .ref m_afterOf, .int q_counted, .ref m_pile, .ref m_caseMany, .ref m_happen, .ref m_hasIf, .ref m_becomes, .ref m_goneOf, .ref m_heard, .ref m_pairs, .ref m_heaps, .int (nI q_rounds), .int q_heapMany, .ref m_led, .ref m_newAt, .ref m_knowing, .ref m_firsts, .int (nI q_people), .ref m_secrets, .ref m_tried, .ref m_lanes, .ref m_lengths, .ref m_cells])), (m_heaps, .inl (E.2.1 1, 2400, .inl f_heaps)), (m_led, .inl (E.2.1 2, 192, .inr (.inl f_led)))]) C hT [0, 1, 2] rfl rfl rfl rfl rfl dX12_areAlike_89 (Or.inl ⟨rfl, rfl, (ALk.is hal rfl)⟩)
        · have zc_10 : ((k1 : Nat) : Int) < 4 := i_nle rfl (nI_toInt (n := k1) (by omega)) c_10
          refine ww_iload_n C dX12_areAlike_46 1 rfl rfl ?_
          refine ww_if_eq (tgt := 80) C dX12_areAlike_47 (by decide) (fun c_11 => ?_) (fun c_11 => ?_)
          · have zc_11 : ((a1 : Nat) : Int) = 0 := i_eq (nI_toInt (n := a1) (by omega)) rfl c_11
            refine ww_iconst (v := 0) C dX12_areAlike_80 rfl ?_
            refine ww_istore_n (lv' := [(3, .int 0), (4, .int (nI k1)), (0, .ref hm), (1, .int (nI v)), (2, .int (nI w))]) C dX12_areAlike_81 rfl rfl rfl ?_
            refine ww_iinc (j := 1) (v := (nI (k1 + 1))) (lv' := [(4, .int (nI (k1 + 1))), (3, .int 0), (0, .ref hm), (1, .int (nI v)), (2, .int (nI w))]) C dX12_areAlike_82 rfl (nI_add k1 1) rfl rfl ?_
            refine ww_goto (tgt := 40) C dX12_areAlike_85 (by decide) ?_
            exact ww_lv [0, 1, 2, 3, 4] rfl (ww_sub [0, 1, 2] rfl rfl (ih_40 (k1 + 1) 0 (by omega) (by omega) (by first | exact ALk.keep0 hal (by omega) | exact ALk.no (by omega) (by assumption) (by assumption) (by assumption) hal) (by omega)))
          · have zc_11 : ((a1 : Nat) : Int) ≠ 0 := i_ne (nI_toInt (n := a1) (by omega)) rfl c_11
            refine ww_aload_n C dX12_areAlike_50 2 rfl rfl ?_
            refine ww_get C fg_X12_77 0 rfl rfl dX12_areAlike_51 ?_
            refine ww_iconst (v := 4) C dX12_areAlike_54 rfl ?_
            refine ww_iload_n C dX12_areAlike_55 3 rfl rfl ?_
            refine ww_imul (v := (nI (4 * v))) C dX12_areAlike_56 (pk_mul 4 v) ?_
            refine ww_iload C dX12_areAlike_57 0 rfl ?_
            refine ww_iadd (v := (nI ((4 * v) + k1))) C dX12_areAlike_59 (nI_add (4 * v) k1) ?_
            obtain ⟨x_12, ex_12⟩ : ∃ z : Int64, f_led ((4 * v) + k1) = z := ⟨_, rfl⟩
            refine ww_lald (v := x_12) C 2 rfl (vp_in_nI (by omega) (by omega)) (ldn (by omega) ex_12) dX12_areAlike_60 ?_
            refine ww_aload_n C dX12_areAlike_61 2 rfl rfl ?_
            refine ww_get C fg_X12_77 0 rfl rfl dX12_areAlike_62 ?_
            refine ww_iconst (v := 4) C dX12_areAlike_65 rfl ?_
            refine ww_iload_n C dX12_areAlike_66 4 rfl rfl ?_
            refine ww_imul (v := (nI (4 * w))) C dX12_areAlike_67 (pk_mul 4 w) ?_
            refine ww_iload C dX12_areAlike_68 0 rfl ?_
            refine ww_iadd (v := (nI ((4 * w) + k1))) C dX12_areAlike_70 (nI_add (4 * w) k1) ?_
            obtain ⟨x_13, ex_13⟩ : ∃ z : Int64, f_led ((4 * w) + k1) = z := ⟨_, rfl⟩
            refine ww_lald (v := x_13) C 2 rfl (vp_in_nI (by omega) (by omega)) (ldn (by omega) ex_13) dX12_areAlike_71 ?_
            refine ww_lcmp (v := lg_cmp x_12 x_13) C dX12_areAlike_72 rfl ?_
            refine ww_if_ne (tgt := 80) C dX12_areAlike_73 (by decide) (fun c_15 => ?_) (fun c_15 => ?_)
            · have zc_15 : x_12.toInt ≠ x_13.toInt := lc_ne_t rfl rfl c_15
              refine ww_iconst (v := 0) C dX12_areAlike_80 rfl ?_
              refine ww_istore_n (lv' := [(3, .int 0), (4, .int (nI k1)), (0, .ref hm), (1, .int (nI v)), (2, .int (nI w))]) C dX12_areAlike_81 rfl rfl rfl ?_
              refine ww_iinc (j := 1) (v := (nI (k1 + 1))) (lv' := [(4, .int (nI (k1 + 1))), (3, .int 0), (0, .ref hm), (1, .int (nI v)), (2, .int (nI w))]) C dX12_areAlike_82 rfl (nI_add k1 1) rfl rfl ?_
              refine ww_goto (tgt := 40) C dX12_areAlike_85 (by decide) ?_
              exact ww_lv [0, 1, 2, 3, 4] rfl (ww_sub [0, 1, 2] rfl rfl (ih_40 (k1 + 1) 0 (by omega) (by omega) (by first | exact ALk.keep0 hal (by omega) | exact ALk.no (by omega) (by assumption) (by assumption) (by assumption) hal) (by omega)))
            · have zc_15 : x_12.toInt = x_13.toInt := lc_ne_f rfl rfl c_15
              refine ww_iconst (v := 1) C dX12_areAlike_76 rfl ?_
              refine ww_goto (tgt := 81) C dX12_areAlike_77 (by decide) ?_
              refine ww_istore_n (lv' := [(3, .int 1), (4, .int (nI k1)), (0, .ref hm), (1, .int (nI v)), (2, .int (nI w))]) C dX12_areAlike_81 rfl rfl rfl ?_
              refine ww_iinc (j := 1) (v := (nI (k1 + 1))) (lv' := [(4, .int (nI (k1 + 1))), (3, .int 1), (0, .ref hm), (1, .int (nI v)), (2, .int (nI w))]) C dX12_areAlike_82 rfl (nI_add k1 1) rfl rfl ?_
              refine ww_goto (tgt := 40) C dX12_areAlike_85 (by decide) ?_
              exact ww_lv [0, 1, 2, 3, 4] rfl (ww_sub [0, 1, 2] rfl rfl (ih_40 (k1 + 1) 1 (by omega) (by omega) (ALk.yes hal (by omega) (by assumption) (by assumption) (by assumption)) (by omega)))
    exact ww_lv [0, 1, 2, 3, 4] rfl (ww_sub [0, 1, 2] rfl rfl (loop_40 _ 0 1 (by omega) (by omega) (ALk.start (by assumption) (by assumption) (by assumption)) (Nat.lt_succ_self _)))
theorem dX12_factsIn_0 : decode cX12_factsIn 0 = .ok (.iload_n 3, 1) := dl_29 (by decide +kernel)
theorem dX12_factsIn_1 : decode cX12_factsIn 1 = .ok (.aload_n 0, 1) := dl_42 (by decide +kernel)
theorem dX12_factsIn_2 : decode cX12_factsIn 2 = .ok (.getfield 7, 3) := dl_180 (by decide +kernel)
theorem dX12_factsIn_5 : decode cX12_factsIn 5 = .ok (.iload_n 1, 1) := dl_27 (by decide +kernel)
theorem dX12_factsIn_6 : decode cX12_factsIn 6 = .ok (.iaload, 1) := dl_46 (by decide +kernel)
theorem dX12_factsIn_7 : decode cX12_factsIn 7 = .ok (.if_icmp .ge 17, 3) := dl_162 (by decide +kernel)
theorem dX12_factsIn_10 : decode cX12_factsIn 10 = .ok (.aload_n 0, 1) := dl_42 (by decide +kernel)
theorem dX12_factsIn_11 : decode cX12_factsIn 11 = .ok (.getfield 16, 3) := dl_180 (by decide +kernel)
theorem dX12_factsIn_14 : decode cX12_factsIn 14 = .ok (.bipush 24, 2) := dl_16 (by decide +kernel)
theorem dX12_factsIn_16 : decode cX12_factsIn 16 = .ok (.iload_n 1, 1) := dl_27 (by decide +kernel)
theorem dX12_factsIn_17 : decode cX12_factsIn 17 = .ok (.imul, 1) := dl_104 (by decide +kernel)
theorem dX12_factsIn_18 : decode cX12_factsIn 18 = .ok (.iload_n 3, 1) := dl_29 (by decide +kernel)
theorem dX12_factsIn_19 : decode cX12_factsIn 19 = .ok (.iadd, 1) := dl_96 (by decide +kernel)
theorem dX12_factsIn_20 : decode cX12_factsIn 20 = .ok (.iaload, 1) := dl_46 (by decide +kernel)
theorem dX12_factsIn_21 : decode cX12_factsIn 21 = .ok (.goto 21, 3) := dl_167 (by decide +kernel)
theorem dX12_factsIn_42 : decode cX12_factsIn 42 = .ok (.ireturn, 1) := dl_172 (by decide +kernel)
set_option maxRecDepth 100000 in
set_option maxHeartbeats 4000000 in
theorem r_factsInN (l : Launch) (E : EV) (ro : va_W) (hm : Nat) (w : Nat) (m_manys : Nat) (m_reals : Nat) (m_factsOf : Nat) (m_possible : Nat) (q_undos : Nat) (q_models : Nat) (m_tape : Nat) (q_taped : Nat) (q_fault : Int32) (q_wrong : Int32) (q_wrongAt : Int32) (q_spot : Int32) (q_place : Int32) (q_token : Int32) (q_value : Int32) (m_ends : Nat) (m_letters : Nat) (m_actOf : Nat) (m_whom : Nat) (m_actMany : Nat) (m_tokens : Nat) (m_afters : Nat) (m_afterOf : Nat) (q_counted : Int32) (m_pile : Nat) (m_caseMany : Nat) (m_happen : Nat) (m_hasIf : Nat) (m_becomes : Nat) (m_goneOf : Nat) (m_heard : Nat) (m_pairs : Nat) (m_heaps : Nat) (q_rounds : Int32) (q_heapMany : Int32) (m_led : Nat) (m_newAt : Nat) (m_knowing : Nat) (m_firsts : Nat) (q_people : Nat) (m_secrets : Nat) (m_tried : Nat) (m_lanes : Nat) (m_lengths : Nat) (m_cells : Nat) (f_manys : Nat → Int32) (f_factsOf : Nat → Int32) (hb_manys : NB 18 24 f_manys) (hw : w < cN f_manys 0) : CT l yX12_factsIn (Cond.code yX12_factsIn cX12_factsIn 4 (some .int) :: TB) ({ frames := 0, cells := 0, slots := 0, locals := 0 }) E ro [.ref hm, .int 0, .int (-4), .int (nI w)] [(hm, .inr (12, [.ref m_manys, .ref m_reals, .ref m_factsOf, .ref m_possible, .int (nI q_undos), .int (nI q_models), .ref m_tape, .int (nI q_taped), .int q_fault, .int q_wrong, .int q_wrongAt, .int q_spot, .int q_place, .int q_token, .int q_value, .ref m_ends, .ref m_letters, .ref m_actOf, .ref m_whom, .ref m_actMany, .ref m_tokens, .ref m_afters, .ref m_afterOf, .int q_counted, .ref m_pile, .ref m_caseMany, .ref m_happen, .ref m_hasIf, .ref m_becomes, .ref m_goneOf, .ref m_heard, .ref m_pairs, .ref m_heaps, .int q_rounds, .int q_heapMany, .ref m_led, .ref m_newAt, .ref m_knowing, .ref m_firsts, .int (nI q_people), .ref m_secrets, .ref m_tried, .ref m_lanes, .ref m_lengths, .ref m_cells])), (m_manys, .inl (E.2.1 1, 18, .inl f_manys)), (m_factsOf, .inl (E.2.1 1, 432, .inl f_factsOf))] (Qi E (fun (rz : Int32) uz => (rz = (fxN f_factsOf w) ∧ uz = [(hm, .inr (12, [.ref m_manys, .ref m_reals, .ref m_factsOf, .ref m_possible, .int (nI q_undos), .int (nI q_models), .ref m_tape, .int (nI q_taped), .int q_fault, .int q_wrong, .int q_wrongAt, .int q_spot, .int q_place, .int q_token, .int q_value, .ref m_ends, .ref m_letters, .ref m_actOf, .ref m_whom, .ref m_actMany, .ref m_tokens, .ref m_afters, .ref m_afterOf, .int q_counted, .ref m_pile, .ref m_caseMany, .ref m_happen, .ref m_hasIf, .ref m_becomes, .ref m_goneOf, .ref m_heard, .ref m_pairs, .ref m_heaps, .int q_rounds, .int q_heapMany, .ref m_led, .ref m_newAt, .ref m_knowing, .ref m_firsts, .int (nI q_people), .ref m_secrets, .ref m_tried, .ref m_lanes, .ref m_lengths, .ref m_cells])), (m_manys, .inl (E.2.1 1, 18, .inl f_manys)), (m_factsOf, .inl (E.2.1 1, 432, .inl f_factsOf))]))) 0 0 := by
  refine ct_of rfl rfl ?_
  intro X C hT hin hro
  show WW X 4 E 0 [(0, .ref hm), (1, .int 0), (2, .int (-4)), (3, .int (nI w))] [] [(hm, .inr (12, [.ref m_manys, .ref m_reals, .ref m_factsOf, .ref m_possible, .int (nI q_undos), .int (nI q_models), .ref m_tape, .int (nI q_taped), .int q_fault, .int q_wrong, .int q_wrongAt, .int q_spot, .int q_place, .int q_token, .int q_value, .ref m_ends, .ref m_letters, .ref m_actOf, .ref m_whom, .ref m_actMany, .ref m_tokens, .ref m_afters, .ref m_afterOf, .int q_counted, .ref m_pile, .ref m_caseMany, .ref m_happen, .ref m_hasIf, .ref m_becomes, .ref m_goneOf, .ref m_heard, .ref m_pairs, .ref m_heaps, .int q_rounds, .int q_heapMany, .ref m_led, .ref m_newAt, .ref m_knowing, .ref m_firsts, .int (nI q_people), .ref m_secrets, .ref m_tried, .ref m_lanes, .ref m_lengths, .ref m_cells])), (m_manys, .inl (E.2.1 1, 18, .inl f_manys)), (m_factsOf, .inl (E.2.1 1, 432, .inl f_factsOf))] 0 0
  have hmn0 := (hb_manys 0 (by omega)).2
  refine ww_iload_n C dX12_factsIn_0 3 rfl rfl ?_
  refine ww_aload_n C dX12_factsIn_1 0 rfl rfl ?_
  refine ww_get C fg_X12_7 0 rfl rfl dX12_factsIn_2 ?_
  refine ww_iload_n C dX12_factsIn_5 1 rfl rfl ?_
  have hbx_1 := (hb_manys 0 (by omega)).2
  refine ww_iald (v := (nI (cN f_manys 0))) C 1 rfl (vin rfl) (hb_manys 0 (by omega)).1 dX12_factsIn_6 ?_
  refine ww_icmp_ge (tgt := 24) C dX12_factsIn_7 (by decide) (fun c_2 => ?_) (fun c_2 => ?_)
  · have zc_2 : ((w : Nat) : Int) ≥ ((cN f_manys 0 : Nat) : Int) := i_le (nI_toInt (n := cN f_manys 0) (by omega)) (nI_toInt (n := w) (by omega)) c_2
    omega
  · have zc_2 : ((w : Nat) : Int) < ((cN f_manys 0 : Nat) : Int) := i_nle (nI_toInt (n := cN f_manys 0) (by omega)) (nI_toInt (n := w) (by omega)) c_2
    refine ww_aload_n C dX12_factsIn_10 0 rfl rfl ?_
    refine ww_get C fg_X12_16 0 rfl rfl dX12_factsIn_11 ?_
    refine ww_bipush (v := 24) C dX12_factsIn_14 rfl ?_
    refine ww_iload_n C dX12_factsIn_16 1 rfl rfl ?_
    refine ww_imul (v := 0) C dX12_factsIn_17 (by decide) ?_
    refine ww_iload_n C dX12_factsIn_18 3 rfl rfl ?_
    refine ww_iadd (v := (nI (0 + w))) C dX12_factsIn_19 (nI_add 0 w) ?_
    obtain ⟨x_3, ex_3⟩ : ∃ z : Int32, f_factsOf (0 + w) = z := ⟨_, rfl⟩
    refine ww_iald (v := x_3) C 2 rfl (vp_in_nI (by omega) (by omega)) (ldn (by omega) ex_3) dX12_factsIn_20 ?_
    refine ww_goto (tgt := 42) C dX12_factsIn_21 (by decide) ?_
    exact ww_iret (u := [(hm, .inr (12, [.ref m_manys, .ref m_reals, .ref m_factsOf, .ref m_possible, .int (nI q_undos), .int (nI q_models), .ref m_tape, .int (nI q_taped), .int q_fault, .int q_wrong, .int q_wrongAt, .int q_spot, .int q_place, .int q_token, .int q_value, .ref m_ends, .ref m_letters, .ref m_actOf, .ref m_whom, .ref m_actMany, .ref m_tokens, .ref m_afters, .ref m_afterOf, .int q_counted, .ref m_pile, .ref m_caseMany, .ref m_happen, .ref m_hasIf, .ref m_becomes, .ref m_goneOf, .ref m_heard, .ref m_pairs, .ref m_heaps, .int q_rounds, .int q_heapMany, .ref m_led, .ref m_newAt, .ref m_knowing, .ref m_firsts, .int (nI q_people), .ref m_secrets, .ref m_tried, .ref m_lanes, .ref m_lengths, .ref m_cells])), (m_manys, .inl (E.2.1 1, 18, .inl f_manys)), (m_factsOf, .inl (E.2.1 1, 432, .inl f_factsOf))]) C hT [0, 1, 2] rfl rfl rfl rfl dX12_factsIn_42 (⟨(by subst_vars; first | rfl | exact fxR_l (by omega) | exact fxR_r (by omega)), rfl⟩)
theorem dX12_ledTo_0 : decode cX12_ledTo 0 = .ok (.iload 4, 2) := dl_21 (by decide +kernel)
theorem dX12_ledTo_2 : decode cX12_ledTo 2 = .ok (.aload_n 0, 1) := dl_42 (by decide +kernel)
theorem dX12_ledTo_3 : decode cX12_ledTo 3 = .ok (.getfield 7, 3) := dl_180 (by decide +kernel)
theorem dX12_ledTo_6 : decode cX12_ledTo 6 = .ok (.iload_n 1, 1) := dl_27 (by decide +kernel)
theorem dX12_ledTo_7 : decode cX12_ledTo 7 = .ok (.iaload, 1) := dl_46 (by decide +kernel)
theorem dX12_ledTo_8 : decode cX12_ledTo 8 = .ok (.if_icmp .ge 7, 3) := dl_162 (by decide +kernel)
theorem dX12_ledTo_11 : decode cX12_ledTo 11 = .ok (.iconst 0, 1) := dl_3 (by decide +kernel)
theorem dX12_ledTo_12 : decode cX12_ledTo 12 = .ok (.goto 9, 3) := dl_167 (by decide +kernel)
theorem dX12_ledTo_21 : decode cX12_ledTo 21 = .ok (.istore 6, 2) := dl_54 (by decide +kernel)
theorem dX12_ledTo_23 : decode cX12_ledTo 23 = .ok (.iload 4, 2) := dl_21 (by decide +kernel)
theorem dX12_ledTo_25 : decode cX12_ledTo 25 = .ok (.aload_n 0, 1) := dl_42 (by decide +kernel)
theorem dX12_ledTo_26 : decode cX12_ledTo 26 = .ok (.getfield 7, 3) := dl_180 (by decide +kernel)
theorem dX12_ledTo_29 : decode cX12_ledTo 29 = .ok (.iload_n 1, 1) := dl_27 (by decide +kernel)
theorem dX12_ledTo_30 : decode cX12_ledTo 30 = .ok (.iaload, 1) := dl_46 (by decide +kernel)
theorem dX12_ledTo_31 : decode cX12_ledTo 31 = .ok (.if_icmp .ge 14, 3) := dl_162 (by decide +kernel)
theorem dX12_ledTo_34 : decode cX12_ledTo 34 = .ok (.aload_n 0, 1) := dl_42 (by decide +kernel)
theorem dX12_ledTo_35 : decode cX12_ledTo 35 = .ok (.iload_n 1, 1) := dl_27 (by decide +kernel)
theorem dX12_ledTo_36 : decode cX12_ledTo 36 = .ok (.iload_n 3, 1) := dl_29 (by decide +kernel)
theorem dX12_ledTo_37 : decode cX12_ledTo 37 = .ok (.iload 4, 2) := dl_21 (by decide +kernel)
theorem dX12_ledTo_39 : decode cX12_ledTo 39 = .ok (.invokevirtual 135, 3) := dl_182 (by decide +kernel)
theorem dX12_ledTo_42 : decode cX12_ledTo 42 = .ok (.goto 18, 3) := dl_167 (by decide +kernel)
theorem dX12_ledTo_60 : decode cX12_ledTo 60 = .ok (.istore 7, 2) := dl_54 (by decide +kernel)
theorem dX12_ledTo_62 : decode cX12_ledTo 62 = .ok (.lconst 0, 1) := dl_9 (by decide +kernel)
theorem dX12_ledTo_63 : decode cX12_ledTo 63 = .ok (.lstore 8, 2) := dl_55 (by decide +kernel)
theorem dX12_ledTo_65 : decode cX12_ledTo 65 = .ok (.iconst 0, 1) := dl_3 (by decide +kernel)
theorem dX12_ledTo_66 : decode cX12_ledTo 66 = .ok (.istore 10, 2) := dl_54 (by decide +kernel)
theorem dX12_ledTo_68 : decode cX12_ledTo 68 = .ok (.iload 10, 2) := dl_21 (by decide +kernel)
theorem dX12_ledTo_70 : decode cX12_ledTo 70 = .ok (.bipush 24, 2) := dl_16 (by decide +kernel)
theorem dX12_ledTo_72 : decode cX12_ledTo 72 = .ok (.if_icmp .ge 47, 3) := dl_162 (by decide +kernel)
theorem dX12_ledTo_119 : decode cX12_ledTo 119 = .ok (.lload 8, 2) := dl_22 (by decide +kernel)
theorem dX12_ledTo_121 : decode cX12_ledTo 121 = .ok (.lreturn, 1) := dl_173 (by decide +kernel)
theorem dX12_ledTo_75 : decode cX12_ledTo 75 = .ok (.lload 8, 2) := dl_22 (by decide +kernel)
theorem dX12_ledTo_77 : decode cX12_ledTo 77 = .ok (.iload 7, 2) := dl_21 (by decide +kernel)
theorem dX12_ledTo_79 : decode cX12_ledTo 79 = .ok (.iload 10, 2) := dl_21 (by decide +kernel)
theorem dX12_ledTo_81 : decode cX12_ledTo 81 = .ok (.ishr, 1) := dl_122 (by decide +kernel)
theorem dX12_ledTo_82 : decode cX12_ledTo 82 = .ok (.iconst 1, 1) := dl_4 (by decide +kernel)
theorem dX12_ledTo_83 : decode cX12_ledTo 83 = .ok (.iand, 1) := dl_126 (by decide +kernel)
theorem dX12_ledTo_84 : decode cX12_ledTo 84 = .ok (.iconst 1, 1) := dl_4 (by decide +kernel)
theorem dX12_ledTo_85 : decode cX12_ledTo 85 = .ok (.if_icmp .ne 24, 3) := dl_160 (by decide +kernel)
theorem dX12_ledTo_109 : decode cX12_ledTo 109 = .ok (.lconst 0, 1) := dl_9 (by decide +kernel)
theorem dX12_ledTo_110 : decode cX12_ledTo 110 = .ok (.lor, 1) := dl_129 (by decide +kernel)
theorem dX12_ledTo_111 : decode cX12_ledTo 111 = .ok (.lstore 8, 2) := dl_55 (by decide +kernel)
theorem dX12_ledTo_113 : decode cX12_ledTo 113 = .ok (.iinc 10 1, 3) := dl_132 (by decide +kernel)
theorem dX12_ledTo_116 : decode cX12_ledTo 116 = .ok (.goto (-48), 3) := dl_167 (by decide +kernel)
theorem dX12_ledTo_88 : decode cX12_ledTo 88 = .ok (.lconst 1, 1) := dl_10 (by decide +kernel)
theorem dX12_ledTo_89 : decode cX12_ledTo 89 = .ok (.aload_n 0, 1) := dl_42 (by decide +kernel)
theorem dX12_ledTo_90 : decode cX12_ledTo 90 = .ok (.getfield 74, 3) := dl_180 (by decide +kernel)
theorem dX12_ledTo_93 : decode cX12_ledTo 93 = .ok (.bipush 48, 2) := dl_16 (by decide +kernel)
theorem dX12_ledTo_95 : decode cX12_ledTo 95 = .ok (.iload 5, 2) := dl_21 (by decide +kernel)
theorem dX12_ledTo_97 : decode cX12_ledTo 97 = .ok (.imul, 1) := dl_104 (by decide +kernel)
theorem dX12_ledTo_98 : decode cX12_ledTo 98 = .ok (.iload 6, 2) := dl_21 (by decide +kernel)
theorem dX12_ledTo_100 : decode cX12_ledTo 100 = .ok (.iadd, 1) := dl_96 (by decide +kernel)
theorem dX12_ledTo_101 : decode cX12_ledTo 101 = .ok (.iload 10, 2) := dl_21 (by decide +kernel)
theorem dX12_ledTo_103 : decode cX12_ledTo 103 = .ok (.iadd, 1) := dl_96 (by decide +kernel)
theorem dX12_ledTo_104 : decode cX12_ledTo 104 = .ok (.iaload, 1) := dl_46 (by decide +kernel)
theorem dX12_ledTo_105 : decode cX12_ledTo 105 = .ok (.lshl, 1) := dl_121 (by decide +kernel)
theorem dX12_ledTo_106 : decode cX12_ledTo 106 = .ok (.goto 4, 3) := dl_167 (by decide +kernel)
set_option maxRecDepth 100000 in
set_option maxHeartbeats 4000000 in
theorem r_ledToN (l : Launch) (E : EV) (ro : va_W) (hm : Nat) (k : Nat) (w : Nat) (r : Nat) (m_manys : Nat) (m_reals : Nat) (m_factsOf : Nat) (m_possible : Nat) (q_undos : Nat) (q_models : Nat) (m_tape : Nat) (q_taped : Nat) (q_fault : Int32) (q_wrong : Int32) (q_wrongAt : Int32) (q_spot : Int32) (q_place : Int32) (q_token : Int32) (q_value : Int32) (m_ends : Nat) (m_letters : Nat) (m_actOf : Nat) (m_whom : Nat) (m_actMany : Nat) (m_tokens : Nat) (m_afters : Nat) (m_afterOf : Nat) (q_counted : Int32) (m_pile : Nat) (m_caseMany : Nat) (m_happen : Nat) (m_hasIf : Nat) (m_becomes : Nat) (m_goneOf : Nat) (m_heard : Nat) (m_pairs : Nat) (m_heaps : Nat) (q_rounds : Int32) (q_heapMany : Int32) (m_led : Nat) (m_newAt : Nat) (m_knowing : Nat) (m_firsts : Nat) (q_people : Nat) (m_secrets : Nat) (m_tried : Nat) (m_lanes : Nat) (m_lengths : Nat) (m_cells : Nat) (f_manys : Nat → Int32) (f_reals : Nat → Int32) (f_factsOf : Nat → Int32) (f_possible : Nat → Int32) (f_heaps : Nat → Int32) (hb_manys : NB 18 24 f_manys) (hb_reals : NB 18 23 f_reals) (hpg : PG f_manys f_reals) (hwf : WFP (pgs f_manys f_reals f_factsOf f_possible)) (hk : k < 4) (hw : w < cN f_manys 0) (hr : r ≤ 48) (hRK : RKx (cm1 (pgs f_manys f_reals f_factsOf f_possible 0)) (cm1 (pgs f_manys f_reals f_factsOf f_possible 0)).1 r (rowH f_heaps r)) : CT l yX12_ledTo (Cond.code yX12_ledTo cX12_ledTo 11 (some .long) :: TB) ({ frames := 1, cells := 0, slots := 0, locals := 23 }) E ro [.ref hm, .int 0, .int (-4), .int (nI k), .int (nI w), .int (nI r)] [(hm, .inr (12, [.ref m_manys, .ref m_reals, .ref m_factsOf, .ref m_possible, .int (nI q_undos), .int (nI q_models), .ref m_tape, .int (nI q_taped), .int q_fault, .int q_wrong, .int q_wrongAt, .int q_spot, .int q_place, .int q_token, .int q_value, .ref m_ends, .ref m_letters, .ref m_actOf, .ref m_whom, .ref m_actMany, .ref m_tokens, .ref m_afters, .ref m_afterOf, .int q_counted, .ref m_pile, .ref m_caseMany, .ref m_happen, .ref m_hasIf, .ref m_becomes, .ref m_goneOf, .ref m_heard, .ref m_pairs, .ref m_heaps, .int q_rounds, .int q_heapMany, .ref m_led, .ref m_newAt, .ref m_knowing, .ref m_firsts, .int (nI q_people), .ref m_secrets, .ref m_tried, .ref m_lanes, .ref m_lengths, .ref m_cells])), (m_manys, .inl (E.2.1 1, 18, .inl f_manys)), (m_reals, .inl (E.2.1 1, 18, .inl f_reals)), (m_factsOf, .inl (E.2.1 1, 432, .inl f_factsOf)), (m_possible, .inl (E.2.1 1, 1728, .inl f_possible)), (m_heaps, .inl (E.2.1 1, 2400, .inl f_heaps))] (Ql E (fun (rz : Int64) uz => (uz = [(hm, .inr (12, [.ref m_manys, .ref m_reals, .ref m_factsOf, .ref m_possible, .int (nI q_undos), .int (nI q_models), .ref m_tape, .int (nI q_taped), .int q_fault, .int q_wrong, .int q_wrongAt, .int q_spot, .int q_place, .int q_token, .int q_value, .ref m_ends, .ref m_letters, .ref m_actOf, .ref m_whom, .ref m_actMany, .ref m_tokens, .ref m_afters, .ref m_afterOf, .int q_counted, .ref m_pile, .ref m_caseMany, .ref m_happen, .ref m_hasIf, .ref m_becomes, .ref m_goneOf, .ref m_heard, .ref m_pairs, .ref m_heaps, .int q_rounds, .int q_heapMany, .ref m_led, .ref m_newAt, .ref m_knowing, .ref m_firsts, .int (nI q_people), .ref m_secrets, .ref m_tried, .ref m_lanes, .ref m_lengths, .ref m_cells])), (m_manys, .inl (E.2.1 1, 18, .inl f_manys)), (m_reals, .inl (E.2.1 1, 18, .inl f_reals)), (m_factsOf, .inl (E.2.1 1, 432, .inl f_factsOf)), (m_possible, .inl (E.2.1 1, 1728, .inl f_possible)), (m_heaps, .inl (E.2.1 1, 2400, .inl f_heaps))] ∧ (LSx rz (HSt (cm1 (pgs f_manys f_reals f_factsOf f_possible 0)) (rk (cm1 (pgs f_manys f_reals f_factsOf f_possible 0)) r) k w))))) 0 0 := by
  refine ct_of rfl rfl ?_
  intro X C hT hin hro
  show WW X 11 E 0 [(0, .ref hm), (1, .int 0), (2, .int (-4)), (3, .int (nI k)), (4, .int (nI w)), (5, .int (nI r))] [] [(hm, .inr (12, [.ref m_manys, .ref m_reals, .ref m_factsOf, .ref m_possible, .int (nI q_undos), .int (nI q_models), .ref m_tape, .int (nI q_taped), .int q_fault, .int q_wrong, .int q_wrongAt, .int q_spot, .int q_place, .int q_token, .int q_value, .ref m_ends, .ref m_letters, .ref m_actOf, .ref m_whom, .ref m_actMany, .ref m_tokens, .ref m_afters, .ref m_afterOf, .int q_counted, .ref m_pile, .ref m_caseMany, .ref m_happen, .ref m_hasIf, .ref m_becomes, .ref m_goneOf, .ref m_heard, .ref m_pairs, .ref m_heaps, .int q_rounds, .int q_heapMany, .ref m_led, .ref m_newAt, .ref m_knowing, .ref m_firsts, .int (nI q_people), .ref m_secrets, .ref m_tried, .ref m_lanes, .ref m_lengths, .ref m_cells])), (m_manys, .inl (E.2.1 1, 18, .inl f_manys)), (m_reals, .inl (E.2.1 1, 18, .inl f_reals)), (m_factsOf, .inl (E.2.1 1, 432, .inl f_factsOf)), (m_possible, .inl (E.2.1 1, 1728, .inl f_possible)), (m_heaps, .inl (E.2.1 1, 2400, .inl f_heaps))] 0 0
  have hmn0 := (hb_manys 0 (by omega)).2
  refine ww_iload C dX12_ledTo_0 4 rfl ?_
  refine ww_aload_n C dX12_ledTo_2 0 rfl rfl ?_
  refine ww_get C fg_X12_7 0 rfl rfl dX12_ledTo_3 ?_
  refine ww_iload_n C dX12_ledTo_6 1 rfl rfl ?_
  have hbx_1 := (hb_manys 0 (by omega)).2
  refine ww_iald (v := (nI (cN f_manys 0))) C 1 rfl (vin rfl) (hb_manys 0 (by omega)).1 dX12_ledTo_7 ?_
  refine ww_icmp_ge (tgt := 15) C dX12_ledTo_8 (by decide) (fun c_2 => ?_) (fun c_2 => ?_)
  · have zc_2 : ((w : Nat) : Int) ≥ ((cN f_manys 0 : Nat) : Int) := i_le (nI_toInt (n := cN f_manys 0) (by omega)) (nI_toInt (n := w) (by omega)) c_2
    omega
  · have zc_2 : ((w : Nat) : Int) < ((cN f_manys 0 : Nat) : Int) := i_nle (nI_toInt (n := cN f_manys 0) (by omega)) (nI_toInt (n := w) (by omega)) c_2
    refine ww_iconst (v := 0) C dX12_ledTo_11 rfl ?_
    refine ww_goto (tgt := 21) C dX12_ledTo_12 (by decide) ?_
    refine ww_istore (lv' := [(6, .int 0), (0, .ref hm), (1, .int 0), (2, .int (-4)), (3, .int (nI k)), (4, .int (nI w)), (5, .int (nI r))]) C dX12_ledTo_21 rfl rfl ?_
    refine ww_iload C dX12_ledTo_23 5 rfl ?_
    refine ww_aload_n C dX12_ledTo_25 1 rfl rfl ?_
    refine ww_get C fg_X12_7 0 rfl rfl dX12_ledTo_26 ?_
    refine ww_iload_n C dX12_ledTo_29 2 rfl rfl ?_
    have hbx_3 := (hb_manys 0 (by omega)).2
    refine ww_iald (v := (nI (cN f_manys 0))) C 1 rfl (vin rfl) (hb_manys 0 (by omega)).1 dX12_ledTo_30 ?_
    refine ww_icmp_ge (tgt := 45) C dX12_ledTo_31 (by decide) (fun c_4 => ?_) (fun c_4 => ?_)
    · have zc_4 : ((w : Nat) : Int) ≥ ((cN f_manys 0 : Nat) : Int) := i_le (nI_toInt (n := cN f_manys 0) (by omega)) (nI_toInt (n := w) (by omega)) c_4
      omega
    · have zc_4 : ((w : Nat) : Int) < ((cN f_manys 0 : Nat) : Int) := i_nle (nI_toInt (n := cN f_manys 0) (by omega)) (nI_toInt (n := w) (by omega)) c_4
      refine ww_aload_n C dX12_ledTo_34 1 rfl rfl ?_
      refine ww_iload_n C dX12_ledTo_35 2 rfl rfl ?_
      refine ww_iload_n C dX12_ledTo_36 4 rfl rfl ?_
      refine ww_iload C dX12_ledTo_37 5 rfl ?_
      refine ww_ci (wr := [(m_manys, .inl (E.2.1 1, 18, .inl f_manys)), (m_reals, .inl (E.2.1 1, 18, .inl f_reals)), (m_factsOf, .inl (E.2.1 1, 432, .inl f_factsOf)), (m_heaps, .inl (E.2.1 1, 2400, .inl f_heaps))]) (k' := 0) (n' := 0) C (run_V (As := [.int 0, .int (nI k), .int (nI w)]) (rest := []) C (r_seen X.2.1 E ro hm 0 k w m_manys m_reals m_factsOf m_possible q_undos q_models m_tape q_taped q_fault q_wrong q_wrongAt q_spot q_place q_token q_value m_ends m_letters m_actOf m_whom m_actMany m_tokens m_afters m_afterOf q_counted m_pile m_caseMany m_happen m_hasIf m_becomes m_goneOf m_heard m_pairs m_heaps q_rounds q_heapMany m_led m_newAt m_knowing m_firsts q_people m_secrets m_tried m_lanes m_lengths m_cells f_possible (by omega) (by omega) (by omega)) mi_X12_seen wl_X12_135 rfl 0 12 rfl rfl rfl rfl rfl dX12_ledTo_39) (roK hro) [0, 4] [1, 2, 3, 5] rfl rfl rfl rfl (fun r_5 uz hw => ?_)
      refine an1 hw ?_
      clear hw
      intro he_6 hw
      have he_7 := hw
      clear hw
      have he_6 := he_6.symm
      subst he_6
      subst he_7
      refine ww_eq (ws' := [(m_manys, .inl (E.2.1 1, 18, .inl f_manys)), (m_reals, .inl (E.2.1 1, 18, .inl f_reals)), (m_factsOf, .inl (E.2.1 1, 432, .inl f_factsOf)), (m_heaps, .inl (E.2.1 1, 2400, .inl f_heaps)), (hm, .inr (12, [.ref m_manys, .ref m_reals, .ref m_factsOf, .ref m_possible, .int (nI q_undos), .int (nI q_models), .ref m_tape, .int (nI q_taped), .int q_fault, .int q_wrong, .int q_wrongAt, .int q_spot, .int q_place, .int q_token, .int q_value, .ref m_ends, .ref m_letters, .ref m_actOf, .ref m_whom, .ref m_actMany, .ref m_tokens, .ref m_afters, .ref m_afterOf, .int q_counted, .ref m_pile, .ref m_caseMany, .ref m_happen, .ref m_hasIf, .ref m_becomes, .ref m_goneOf, .ref m_heard, .ref m_pairs, .ref m_heaps, .int q_rounds, .int q_heapMany, .ref m_led, .ref m_newAt, .ref m_knowing, .ref m_firsts, .int (nI q_people), .ref m_secrets, .ref m_tried, .ref m_lanes, .ref m_lengths, .ref m_cells])), (m_possible, .inl (E.2.1 1, 1728, .inl f_possible))]) ?_ rfl rfl rfl
      refine ww_goto (tgt := 60) C dX12_ledTo_42 (by decide) ?_
      refine ww_istore (lv' := [(7, .int (f_possible (96 * 0 + 24 * k + w))), (6, .int 0), (0, .ref hm), (1, .int 0), (2, .int (-4)), (3, .int (nI k)), (4, .int (nI w)), (5, .int (nI r))]) C dX12_ledTo_60 rfl rfl ?_
      refine ww_lconst (v := 0) C dX12_ledTo_62 rfl ?_
      refine ww_lstore (lv' := [(8, .long 0), (7, .int (f_possible (96 * 0 + 24 * k + w))), (6, .int 0), (0, .ref hm), (1, .int 0), (2, .int (-4)), (3, .int (nI k)), (4, .int (nI w)), (5, .int (nI r))]) C dX12_ledTo_63 rfl rfl ?_
      refine ww_iconst (v := 0) C dX12_ledTo_65 rfl ?_
      refine ww_istore (lv' := [(10, .int 0), (8, .long 0), (7, .int (f_possible (96 * 0 + 24 * k + w))), (6, .int 0), (0, .ref hm), (1, .int 0), (2, .int (-4)), (3, .int (nI k)), (4, .int (nI w)), (5, .int (nI r))]) C dX12_ledTo_66 rfl rfl ?_
      have loop_68 : ∀ (fu : Nat) (i1 : Nat) (ac : Int64), (i1 ≤ 24) → (HOx (f_possible (96 * 0 + 24 * k + w)) (rk (cm1 (pgs f_manys f_reals f_factsOf f_possible 0)) r) 0 i1 ac) → 24 - i1 < fu → WW X 11 E 68 [(10, .int (nI i1)), (8, .long ac), (7, .int (f_possible (96 * 0 + 24 * k + w))), (6, .int 0), (0, .ref hm), (1, .int 0), (2, .int (-4)), (3, .int (nI k)), (4, .int (nI w)), (5, .int (nI r))] [] [(m_manys, .inl (E.2.1 1, 18, .inl f_manys)), (m_reals, .inl (E.2.1 1, 18, .inl f_reals)), (m_factsOf, .inl (E.2.1 1, 432, .inl f_factsOf)), (m_heaps, .inl (E.2.1 1, 2400, .inl f_heaps)), (hm, .inr (12, [.ref m_manys, .ref m_reals, .ref m_factsOf, .ref m_possible, .int (nI q_undos), .int (nI q_models), .ref m_tape, .int (nI q_taped), .int q_fault, .int q_wrong, .int q_wrongAt, .int q_spot, .int q_place, .int q_token, .int q_value, .ref m_ends, .ref m_letters, .ref m_actOf, .ref m_whom, .ref m_actMany, .ref m_tokens, .ref m_afters, .ref m_afterOf, .int q_counted, .ref m_pile, .ref m_caseMany, .ref m_happen, .ref m_hasIf, .ref m_becomes, .ref m_goneOf, .ref m_heard, .ref m_pairs, .ref m_heaps, .int q_rounds, .int q_heapMany, .ref m_led, .ref m_newAt, .ref m_knowing, .ref m_firsts, .int (nI q_people), .ref m_secrets, .ref m_tried, .ref m_lanes, .ref m_lengths, .ref m_cells])), (m_possible, .inl (E.2.1 1, 1728, .inl f_possible))] 0 0 := by
        intro fu
        induction fu with
        | zero => intro i1 ac hi1 hho hmeas; exact absurd hmeas (Nat.not_lt_zero _)
        | succ fu ih_68 =>
          intro i1 ac hi1 hho hmeas
          refine ww_iload C dX12_ledTo_68 0 rfl ?_
          refine ww_bipush (v := 24) C dX12_ledTo_70 rfl ?_
          refine ww_icmp_ge (tgt := 119) C dX12_ledTo_72 (by decide) (fun c_8 => ?_) (fun c_8 => ?_)
          · have zc_8 : ((i1 : Nat) : Int) ≥ 24 := i_le rfl (nI_toInt (n := i1) (by omega)) c_8
            refine ww_lload C dX12_ledTo_119 1 rfl ?_
            exact ww_lret (u := [(hm, .inr (12, [.ref m_manys, .ref m_reals, .ref m_factsOf, .ref m_possible, .int (nI q_undos), .int (nI q_models), .ref m_tape, .int (nI q_taped), .int q_fault, .int q_wrong, .int q_wrongAt, .int q_spot, .int q_place, .int q_token, .int q_value, .ref m_ends, .ref m_letters, .ref m_actOf, .ref m_whom, .ref m_actMany, .ref m_tokens, .ref m_afters, .ref m_afterOf, .int q_counted, .ref m_pile, .ref m_caseMany, .ref m_happen, .ref m_hasIf, .ref m_becomes, .ref m_goneOf, .ref m_heard, .ref m_pairs, .ref m_heaps, .int q_rounds, .int q_heapMany, .ref m_led, .ref m_newAt, .ref m_knowing, .ref m_firsts, .int (nI q_people), .ref m_secrets, .ref m_tried, .ref m_lanes, .ref m_lengths, .ref m_cells])), (m_manys, .inl (E.2.1 1, 18, .inl f_manys)), (m_reals, .inl (E.2.1 1, 18, .inl f_reals)), (m_factsOf, .inl (E.2.1 1, 432, .inl f_factsOf)), (m_possible, .inl (E.2.1 1, 1728, .inl f_possible)), (m_heaps, .inl (E.2.1 1, 2400, .inl f_heaps))]) C hT [4, 0, 1, 2, 5, 3] rfl rfl rfl rfl dX12_ledTo_121 (⟨rfl, (hs_1 (n := cN f_manys 0) (r := cN f_reals 0) (f := sh (24 * 0) f_factsOf) (g := sh (96 * 0) f_possible) (by omega) (hwf 0 (by omega)) (by omega) (by omega) (show HOx (f_possible (96 * 0 + (k * 24 + w))) _ 0 24 _ by have h9 : i1 = 24 := (by omega); rw [h9] at hho; rw [show 96 * 0 + (k * 24 + w) = 96 * 0 + 24 * k + w by omega]; exact hho))⟩)
          · have zc_8 : ((i1 : Nat) : Int) < 24 := i_nle rfl (nI_toInt (n := i1) (by omega)) c_8
            refine ww_lload C dX12_ledTo_75 1 rfl ?_
            refine ww_iload C dX12_ledTo_77 2 rfl ?_
            refine ww_iload C dX12_ledTo_79 0 rfl ?_
            obtain ⟨x_9, ex_9⟩ : ∃ z : Int32, (f_possible (96 * 0 + 24 * k + w)) >>> ((nI i1) &&& 31) = z := ⟨_, rfl⟩
            refine ww_ishr (v := x_9) C dX12_ledTo_81 ex_9 ?_
            refine ww_iconst (v := 1) C dX12_ledTo_82 rfl ?_
            obtain ⟨j_10, hj_10, ej_10⟩ := pk_andE x_9 (m := 1) 1 rfl
            refine ww_iand (v := (nI j_10)) C dX12_ledTo_83 ej_10 ?_
            refine ww_iconst (v := 1) C dX12_ledTo_84 rfl ?_
            refine ww_icmp_ne (tgt := 109) C dX12_ledTo_85 (by decide) (fun c_11 => ?_) (fun c_11 => ?_)
            · have zc_11 : ((j_10 : Nat) : Int) ≠ 1 := i_ne (nI_toInt (n := j_10) (by omega)) rfl c_11
              refine ww_lconst (v := 0) C dX12_ledTo_109 rfl ?_
              obtain ⟨l_12, el_12⟩ : ∃ z : Int64, ac ||| (0 : Int64) = z := ⟨_, rfl⟩
              refine ww_lor C dX12_ledTo_110 el_12 ?_
              refine ww_lstore (lv' := [(8, .long l_12), (10, .int (nI i1)), (7, .int (f_possible (96 * 0 + 24 * k + w))), (6, .int 0), (0, .ref hm), (1, .int 0), (2, .int (-4)), (3, .int (nI k)), (4, .int (nI w)), (5, .int (nI r))]) C dX12_ledTo_111 rfl rfl ?_
              refine ww_iinc (j := 1) (v := (nI (i1 + 1))) (lv' := [(10, .int (nI (i1 + 1))), (8, .long l_12), (7, .int (f_possible (96 * 0 + 24 * k + w))), (6, .int 0), (0, .ref hm), (1, .int 0), (2, .int (-4)), (3, .int (nI k)), (4, .int (nI w)), (5, .int (nI r))]) C dX12_ledTo_113 rfl (nI_add i1 1) rfl rfl ?_
              refine ww_goto (tgt := 68) C dX12_ledTo_116 (by decide) ?_
              exact ww_lv [0, 1, 2, 3, 4, 5, 6, 7, 8, 9] rfl (ww_sub [0, 1, 2, 3, 4, 5] rfl rfl (ih_68 (i1 + 1) l_12 (by omega) (HOx.z hho (hasb_0 (b := (f_possible (96 * 0 + 24 * k + w))) (p := i1) (by omega) (by assumption) (by assumption) (by omega)) el_12) (by omega)))
            · have zc_11 : ((j_10 : Nat) : Int) = 1 := i_eq (nI_toInt (n := j_10) (by omega)) rfl c_11
              refine ww_lconst (v := 1) C dX12_ledTo_88 rfl ?_
              refine ww_aload_n C dX12_ledTo_89 4 rfl rfl ?_
              refine ww_get C fg_X12_74 4 rfl rfl dX12_ledTo_90 ?_
              refine ww_bipush (v := 48) C dX12_ledTo_93 rfl ?_
              refine ww_iload C dX12_ledTo_95 9 rfl ?_
              refine ww_imul (v := (nI (48 * r))) C dX12_ledTo_97 (pk_mul 48 r) ?_
              refine ww_iload C dX12_ledTo_98 3 rfl ?_
              refine ww_iadd (v := (nI (48 * r))) C dX12_ledTo_100 (nI_add (48 * r) 0) ?_
              refine ww_iload C dX12_ledTo_101 0 rfl ?_
              refine ww_iadd (v := (nI ((48 * r) + i1))) C dX12_ledTo_103 (nI_add (48 * r) i1) ?_
              obtain ⟨x_13, ex_13⟩ : ∃ z : Int32, f_heaps ((48 * r) + i1) = z := ⟨_, rfl⟩
              refine ww_iald (v := x_13) C 3 rfl (vp_in_nI (by omega) (by omega)) (ldn (by omega) ex_13) dX12_ledTo_104 ?_
              obtain ⟨l_14, el_14⟩ : ∃ z : Int64, (1 : Int64) <<< (x_13.toInt64 &&& 63) = z := ⟨_, rfl⟩
              refine ww_lshl C dX12_ledTo_105 el_14 ?_
              refine ww_goto (tgt := 110) C dX12_ledTo_106 (by decide) ?_
              obtain ⟨l_15, el_15⟩ : ∃ z : Int64, ac ||| l_14 = z := ⟨_, rfl⟩
              refine ww_lor C dX12_ledTo_110 el_15 ?_
              refine ww_lstore (lv' := [(8, .long l_15), (10, .int (nI i1)), (7, .int (f_possible (96 * 0 + 24 * k + w))), (6, .int 0), (0, .ref hm), (1, .int 0), (2, .int (-4)), (3, .int (nI k)), (4, .int (nI w)), (5, .int (nI r))]) C dX12_ledTo_111 rfl rfl ?_
              refine ww_iinc (j := 1) (v := (nI (i1 + 1))) (lv' := [(10, .int (nI (i1 + 1))), (8, .long l_15), (7, .int (f_possible (96 * 0 + 24 * k + w))), (6, .int 0), (0, .ref hm), (1, .int 0), (2, .int (-4)), (3, .int (nI k)), (4, .int (nI w)), (5, .int (nI r))]) C dX12_ledTo_113 rfl (nI_add i1 1) rfl rfl ?_
              refine ww_goto (tgt := 68) C dX12_ledTo_116 (by decide) ?_
              exact ww_lv [0, 1, 2, 3, 4, 5, 6, 7, 8, 9] rfl (ww_sub [0, 1, 2, 3, 4, 5] rfl rfl (ih_68 (i1 + 1) l_15 (by omega) (HOx.t' hho (hasb_1 (b := (f_possible (96 * 0 + 24 * k + w))) (p := i1) (by omega) (by assumption) (by assumption) (by omega)) (ex_13.symm.trans ((congrArg f_heaps (show ((48 * r) + i1) = 48 * r + (0 + i1) by omega)).trans (show f_heaps (48 * r + (0 + i1)) = _ from hRK (0 + i1) (by have h7 : i1 < cN f_manys 0 := hwf 0 (by omega) k w i1 (by rw [pg_S (by omega) (by omega)]; exact (hasb_1 (b := (f_possible (96 * 0 + 24 * k + w))) (p := i1) (by omega) (by assumption) (by assumption) (by omega))); show 0 + i1 < cN f_manys 0; omega)))) (by have h7 : i1 < cN f_manys 0 := hwf 0 (by omega) k w i1 (by rw [pg_S (by omega) (by omega)]; exact (hasb_1 (b := (f_possible (96 * 0 + 24 * k + w))) (p := i1) (by omega) (by assumption) (by assumption) (by omega))); have h6 := (rk_le (cm1 (pgs f_manys f_reals f_factsOf f_possible 0)) r (0 + i1)).1; omega) el_14 el_15) (by omega)))
      exact ww_lv [0, 1, 2, 3, 4, 5, 6, 7, 8, 9] rfl (ww_sub [0, 1, 2, 3, 4, 5] rfl rfl (loop_68 _ 0 0 (by omega) HOx.nil (Nat.lt_succ_self _)))
theorem dX12_layHeaps_0 : decode cX12_layHeaps 0 = .ok (.aload_n 0, 1) := dl_42 (by decide +kernel)
theorem dX12_layHeaps_1 : decode cX12_layHeaps 1 = .ok (.aload_n 0, 1) := dl_42 (by decide +kernel)
theorem dX12_layHeaps_2 : decode cX12_layHeaps 2 = .ok (.getfield 7, 3) := dl_180 (by decide +kernel)
theorem dX12_layHeaps_5 : decode cX12_layHeaps 5 = .ok (.iload_n 1, 1) := dl_27 (by decide +kernel)
theorem dX12_layHeaps_6 : decode cX12_layHeaps 6 = .ok (.iaload, 1) := dl_46 (by decide +kernel)
theorem dX12_layHeaps_7 : decode cX12_layHeaps 7 = .ok (.iload_n 2, 1) := dl_28 (by decide +kernel)
theorem dX12_layHeaps_8 : decode cX12_layHeaps 8 = .ok (.bipush (-4), 2) := dl_16 (by decide +kernel)
theorem dX12_layHeaps_10 : decode cX12_layHeaps 10 = .ok (.if_icmp .ne 7, 3) := dl_160 (by decide +kernel)
theorem dX12_layHeaps_13 : decode cX12_layHeaps 13 = .ok (.iconst 0, 1) := dl_3 (by decide +kernel)
theorem dX12_layHeaps_14 : decode cX12_layHeaps 14 = .ok (.goto 9, 3) := dl_167 (by decide +kernel)
theorem dX12_layHeaps_23 : decode cX12_layHeaps 23 = .ok (.iadd, 1) := dl_96 (by decide +kernel)
theorem dX12_layHeaps_24 : decode cX12_layHeaps 24 = .ok (.putfield 282, 3) := dl_181 (by decide +kernel)
theorem wf_X12_282 : Cond.fieldLink RX12 282 RX12 "heapMany" "I" ∈ TB := tbm (tq5 (List.mem_of_getElem? (i := 112) (by decide +kernel))) (by decide +kernel)
theorem fp_X12_282 : FP RX12 282 12 34 .int false := ⟨RX12, TX12, 45, tyX12, uw_X12, wf_X12_282, rfl, by decide, rfl, tyX12_ok, nmX12, rfl, by decide +kernel⟩
theorem dX12_layHeaps_27 : decode cX12_layHeaps 27 = .ok (.iconst 0, 1) := dl_3 (by decide +kernel)
theorem dX12_layHeaps_28 : decode cX12_layHeaps 28 = .ok (.istore_n 3, 1) := dl_62 (by decide +kernel)
theorem dX12_layHeaps_29 : decode cX12_layHeaps 29 = .ok (.iload_n 3, 1) := dl_29 (by decide +kernel)
theorem dX12_layHeaps_30 : decode cX12_layHeaps 30 = .ok (.aload_n 0, 1) := dl_42 (by decide +kernel)
theorem dX12_layHeaps_31 : decode cX12_layHeaps 31 = .ok (.getfield 282, 3) := dl_180 (by decide +kernel)
theorem fg_X12_282 : FG RX12 282 12 34 := ⟨RX12, TX12, 45, uw_X12, wf_X12_282, rfl, by decide, rfl⟩
theorem dX12_layHeaps_34 : decode cX12_layHeaps 34 = .ok (.if_icmp .ge 44, 3) := dl_162 (by decide +kernel)
theorem dX12_layHeaps_78 : decode cX12_layHeaps 78 = .ok (.aload_n 0, 1) := dl_42 (by decide +kernel)
theorem dX12_layHeaps_79 : decode cX12_layHeaps 79 = .ok (.iconst 0, 1) := dl_3 (by decide +kernel)
theorem dX12_layHeaps_80 : decode cX12_layHeaps 80 = .ok (.putfield 288, 3) := dl_181 (by decide +kernel)
theorem fp_X12_288 : FP RX12 288 12 33 .int false := ⟨RX12, TX12, 45, tyX12, uw_X12, wf_X12_288, rfl, by decide, rfl, tyX12_ok, nmX12, rfl, by decide +kernel⟩
theorem dX12_layHeaps_83 : decode cX12_layHeaps 83 = .ok (.iconst 1, 1) := dl_4 (by decide +kernel)
theorem dX12_layHeaps_84 : decode cX12_layHeaps 84 = .ok (.istore_n 3, 1) := dl_62 (by decide +kernel)
theorem dX12_layHeaps_85 : decode cX12_layHeaps 85 = .ok (.iload_n 3, 1) := dl_29 (by decide +kernel)
theorem dX12_layHeaps_86 : decode cX12_layHeaps 86 = .ok (.ifCond .eq 164, 3) := dl_153 (by decide +kernel)
theorem dX12_layHeaps_250 : decode cX12_layHeaps 250 = .ok (.return_, 1) := dl_177 (by decide +kernel)
theorem dX12_layHeaps_89 : decode cX12_layHeaps 89 = .ok (.iconst 0, 1) := dl_3 (by decide +kernel)
theorem dX12_layHeaps_90 : decode cX12_layHeaps 90 = .ok (.istore_n 3, 1) := dl_62 (by decide +kernel)
theorem dX12_layHeaps_91 : decode cX12_layHeaps 91 = .ok (.iconst 0, 1) := dl_3 (by decide +kernel)
theorem dX12_layHeaps_92 : decode cX12_layHeaps 92 = .ok (.istore 4, 2) := dl_54 (by decide +kernel)
theorem dX12_layHeaps_94 : decode cX12_layHeaps 94 = .ok (.iload 4, 2) := dl_21 (by decide +kernel)
theorem dX12_layHeaps_96 : decode cX12_layHeaps 96 = .ok (.aload_n 0, 1) := dl_42 (by decide +kernel)
theorem dX12_layHeaps_97 : decode cX12_layHeaps 97 = .ok (.getfield 282, 3) := dl_180 (by decide +kernel)
theorem dX12_layHeaps_100 : decode cX12_layHeaps 100 = .ok (.if_icmp .ge 50, 3) := dl_162 (by decide +kernel)
theorem dX12_layHeaps_150 : decode cX12_layHeaps 150 = .ok (.iconst 0, 1) := dl_3 (by decide +kernel)
theorem dX12_layHeaps_151 : decode cX12_layHeaps 151 = .ok (.istore 4, 2) := dl_54 (by decide +kernel)
theorem dX12_layHeaps_153 : decode cX12_layHeaps 153 = .ok (.iload 4, 2) := dl_21 (by decide +kernel)
theorem dX12_layHeaps_155 : decode cX12_layHeaps 155 = .ok (.aload_n 0, 1) := dl_42 (by decide +kernel)
theorem dX12_layHeaps_156 : decode cX12_layHeaps 156 = .ok (.getfield 282, 3) := dl_180 (by decide +kernel)
theorem dX12_layHeaps_159 : decode cX12_layHeaps 159 = .ok (.if_icmp .ge 78, 3) := dl_162 (by decide +kernel)
theorem dX12_layHeaps_237 : decode cX12_layHeaps 237 = .ok (.aload_n 0, 1) := dl_42 (by decide +kernel)
theorem dX12_layHeaps_238 : decode cX12_layHeaps 238 = .ok (.dup, 1) := dl_89 (by decide +kernel)
theorem dX12_layHeaps_239 : decode cX12_layHeaps 239 = .ok (.getfield 288, 3) := dl_180 (by decide +kernel)
theorem dX12_layHeaps_242 : decode cX12_layHeaps 242 = .ok (.iconst 1, 1) := dl_4 (by decide +kernel)
theorem dX12_layHeaps_243 : decode cX12_layHeaps 243 = .ok (.iadd, 1) := dl_96 (by decide +kernel)
theorem dX12_layHeaps_244 : decode cX12_layHeaps 244 = .ok (.putfield 288, 3) := dl_181 (by decide +kernel)
theorem dX12_layHeaps_247 : decode cX12_layHeaps 247 = .ok (.goto (-162), 3) := dl_167 (by decide +kernel)
theorem dX12_layHeaps_162 : decode cX12_layHeaps 162 = .ok (.iconst 0, 1) := dl_3 (by decide +kernel)
theorem dX12_layHeaps_163 : decode cX12_layHeaps 163 = .ok (.istore 5, 2) := dl_54 (by decide +kernel)
theorem dX12_layHeaps_165 : decode cX12_layHeaps 165 = .ok (.aload_n 0, 1) := dl_42 (by decide +kernel)
theorem dX12_layHeaps_166 : decode cX12_layHeaps 166 = .ok (.iload 5, 2) := dl_21 (by decide +kernel)
theorem dX12_layHeaps_168 : decode cX12_layHeaps 168 = .ok (.iload 4, 2) := dl_21 (by decide +kernel)
theorem dX12_layHeaps_170 : decode cX12_layHeaps 170 = .ok (.invokevirtual 295, 3) := dl_182 (by decide +kernel)
theorem wl_X12_295 : Cond.methodLink RX12 295 yX12_areAlike ∈ TB := tbm (tq6 (List.mem_of_getElem? (i := 221) (by decide +kernel))) (by decide +kernel)
theorem wc_X12_areAlike : Cond.code yX12_areAlike cX12_areAlike 5 (some .boolean) ∈ TB := tbm (tq6 (List.mem_of_getElem? (i := 224) (rfl))) (by decide +kernel)
theorem wi_X12_areAlike : Cond.instanceMethod yX12_areAlike ∈ TB := tbm (tq6 (List.mem_of_getElem? (i := 223) (by decide +kernel))) (by decide +kernel)
theorem ws_X12_areAlike : Cond.selects RX12 yX12_areAlike yX12_areAlike ∈ TB := tbm (tq0 (List.mem_of_getElem? (i := 71) (by decide +kernel))) (by decide +kernel)
theorem mi_X12_areAlike : MI yX12_areAlike cX12_areAlike 5 (some .boolean) 2 := ⟨wc_X12_areAlike, wn_X12, ⟨by decide +kernel, by decide +kernel, by decide +kernel⟩, wi_X12_areAlike, ws_X12_areAlike⟩
theorem dX12_layHeaps_173 : decode cX12_layHeaps 173 = .ok (.ifCond .ne 9, 3) := dl_154 (by decide +kernel)
theorem dX12_layHeaps_182 : decode cX12_layHeaps 182 = .ok (.aload_n 0, 1) := dl_42 (by decide +kernel)
theorem dX12_layHeaps_183 : decode cX12_layHeaps 183 = .ok (.getfield 74, 3) := dl_180 (by decide +kernel)
theorem dX12_layHeaps_186 : decode cX12_layHeaps 186 = .ok (.bipush 48, 2) := dl_16 (by decide +kernel)
theorem dX12_layHeaps_188 : decode cX12_layHeaps 188 = .ok (.aload_n 0, 1) := dl_42 (by decide +kernel)
theorem dX12_layHeaps_189 : decode cX12_layHeaps 189 = .ok (.getfield 288, 3) := dl_180 (by decide +kernel)
theorem dX12_layHeaps_192 : decode cX12_layHeaps 192 = .ok (.iconst 1, 1) := dl_4 (by decide +kernel)
theorem dX12_layHeaps_193 : decode cX12_layHeaps 193 = .ok (.iadd, 1) := dl_96 (by decide +kernel)
theorem dX12_layHeaps_194 : decode cX12_layHeaps 194 = .ok (.imul, 1) := dl_104 (by decide +kernel)
theorem dX12_layHeaps_195 : decode cX12_layHeaps 195 = .ok (.iload 4, 2) := dl_21 (by decide +kernel)
theorem dX12_layHeaps_197 : decode cX12_layHeaps 197 = .ok (.iadd, 1) := dl_96 (by decide +kernel)
theorem dX12_layHeaps_198 : decode cX12_layHeaps 198 = .ok (.iload 5, 2) := dl_21 (by decide +kernel)
theorem dX12_layHeaps_200 : decode cX12_layHeaps 200 = .ok (.iastore, 1) := dl_79 (by decide +kernel)
theorem dX12_layHeaps_201 : decode cX12_layHeaps 201 = .ok (.iload_n 3, 1) := dl_29 (by decide +kernel)
theorem dX12_layHeaps_202 : decode cX12_layHeaps 202 = .ok (.ifCond .ne 23, 3) := dl_154 (by decide +kernel)
theorem dX12_layHeaps_225 : decode cX12_layHeaps 225 = .ok (.iconst 1, 1) := dl_4 (by decide +kernel)
theorem dX12_layHeaps_226 : decode cX12_layHeaps 226 = .ok (.goto 4, 3) := dl_167 (by decide +kernel)
theorem dX12_layHeaps_230 : decode cX12_layHeaps 230 = .ok (.istore_n 3, 1) := dl_62 (by decide +kernel)
theorem dX12_layHeaps_231 : decode cX12_layHeaps 231 = .ok (.iinc 4 1, 3) := dl_132 (by decide +kernel)
theorem dX12_layHeaps_234 : decode cX12_layHeaps 234 = .ok (.goto (-81), 3) := dl_167 (by decide +kernel)
theorem dX12_layHeaps_205 : decode cX12_layHeaps 205 = .ok (.iload 5, 2) := dl_21 (by decide +kernel)
theorem dX12_layHeaps_207 : decode cX12_layHeaps 207 = .ok (.aload_n 0, 1) := dl_42 (by decide +kernel)
theorem dX12_layHeaps_208 : decode cX12_layHeaps 208 = .ok (.getfield 74, 3) := dl_180 (by decide +kernel)
theorem dX12_layHeaps_211 : decode cX12_layHeaps 211 = .ok (.bipush 48, 2) := dl_16 (by decide +kernel)
theorem dX12_layHeaps_213 : decode cX12_layHeaps 213 = .ok (.aload_n 0, 1) := dl_42 (by decide +kernel)
theorem dX12_layHeaps_214 : decode cX12_layHeaps 214 = .ok (.getfield 288, 3) := dl_180 (by decide +kernel)
theorem dX12_layHeaps_217 : decode cX12_layHeaps 217 = .ok (.imul, 1) := dl_104 (by decide +kernel)
theorem dX12_layHeaps_218 : decode cX12_layHeaps 218 = .ok (.iload 4, 2) := dl_21 (by decide +kernel)
theorem dX12_layHeaps_220 : decode cX12_layHeaps 220 = .ok (.iadd, 1) := dl_96 (by decide +kernel)
theorem dX12_layHeaps_221 : decode cX12_layHeaps 221 = .ok (.iaload, 1) := dl_46 (by decide +kernel)
theorem dX12_layHeaps_222 : decode cX12_layHeaps 222 = .ok (.if_icmp .eq 7, 3) := dl_159 (by decide +kernel)
theorem dX12_layHeaps_229 : decode cX12_layHeaps 229 = .ok (.iconst 0, 1) := dl_3 (by decide +kernel)
theorem dX12_layHeaps_176 : decode cX12_layHeaps 176 = .ok (.iinc 5 1, 3) := dl_132 (by decide +kernel)
theorem dX12_layHeaps_179 : decode cX12_layHeaps 179 = .ok (.goto (-14), 3) := dl_167 (by decide +kernel)
theorem dX12_layHeaps_103 : decode cX12_layHeaps 103 = .ok (.iconst 0, 1) := dl_3 (by decide +kernel)
theorem dX12_layHeaps_104 : decode cX12_layHeaps 104 = .ok (.istore 5, 2) := dl_54 (by decide +kernel)
theorem dX12_layHeaps_106 : decode cX12_layHeaps 106 = .ok (.iload 5, 2) := dl_21 (by decide +kernel)
theorem dX12_layHeaps_108 : decode cX12_layHeaps 108 = .ok (.iconst 4, 1) := dl_7 (by decide +kernel)
theorem dX12_layHeaps_109 : decode cX12_layHeaps 109 = .ok (.if_icmp .ge 35, 3) := dl_162 (by decide +kernel)
theorem dX12_layHeaps_144 : decode cX12_layHeaps 144 = .ok (.iinc 4 1, 3) := dl_132 (by decide +kernel)
theorem dX12_layHeaps_147 : decode cX12_layHeaps 147 = .ok (.goto (-53), 3) := dl_167 (by decide +kernel)
theorem dX12_layHeaps_112 : decode cX12_layHeaps 112 = .ok (.aload_n 0, 1) := dl_42 (by decide +kernel)
theorem dX12_layHeaps_113 : decode cX12_layHeaps 113 = .ok (.getfield 77, 3) := dl_180 (by decide +kernel)
theorem dX12_layHeaps_116 : decode cX12_layHeaps 116 = .ok (.iconst 4, 1) := dl_7 (by decide +kernel)
theorem dX12_layHeaps_117 : decode cX12_layHeaps 117 = .ok (.iload 4, 2) := dl_21 (by decide +kernel)
theorem dX12_layHeaps_119 : decode cX12_layHeaps 119 = .ok (.imul, 1) := dl_104 (by decide +kernel)
theorem dX12_layHeaps_120 : decode cX12_layHeaps 120 = .ok (.iload 5, 2) := dl_21 (by decide +kernel)
theorem dX12_layHeaps_122 : decode cX12_layHeaps 122 = .ok (.iadd, 1) := dl_96 (by decide +kernel)
theorem dX12_layHeaps_123 : decode cX12_layHeaps 123 = .ok (.aload_n 0, 1) := dl_42 (by decide +kernel)
theorem dX12_layHeaps_124 : decode cX12_layHeaps 124 = .ok (.iload_n 1, 1) := dl_27 (by decide +kernel)
theorem dX12_layHeaps_125 : decode cX12_layHeaps 125 = .ok (.iload_n 2, 1) := dl_28 (by decide +kernel)
theorem dX12_layHeaps_126 : decode cX12_layHeaps 126 = .ok (.iload 5, 2) := dl_21 (by decide +kernel)
theorem dX12_layHeaps_128 : decode cX12_layHeaps 128 = .ok (.iload 4, 2) := dl_21 (by decide +kernel)
theorem dX12_layHeaps_130 : decode cX12_layHeaps 130 = .ok (.aload_n 0, 1) := dl_42 (by decide +kernel)
theorem dX12_layHeaps_131 : decode cX12_layHeaps 131 = .ok (.getfield 288, 3) := dl_180 (by decide +kernel)
theorem dX12_layHeaps_134 : decode cX12_layHeaps 134 = .ok (.invokevirtual 291, 3) := dl_182 (by decide +kernel)
theorem wl_X12_291 : Cond.methodLink RX12 291 yX12_ledTo ∈ TB := tbm (tq6 (List.mem_of_getElem? (i := 217) (by decide +kernel))) (by decide +kernel)
theorem wc_X12_ledTo : Cond.code yX12_ledTo cX12_ledTo 11 (some .long) ∈ TB := tbm (tq6 (List.mem_of_getElem? (i := 220) (rfl))) (by decide +kernel)
theorem wi_X12_ledTo : Cond.instanceMethod yX12_ledTo ∈ TB := tbm (tq6 (List.mem_of_getElem? (i := 219) (by decide +kernel))) (by decide +kernel)
theorem ws_X12_ledTo : Cond.selects RX12 yX12_ledTo yX12_ledTo ∈ TB := tbm (tq0 (List.mem_of_getElem? (i := 70) (by decide +kernel))) (by decide +kernel)
theorem mi_X12_ledTo : MI yX12_ledTo cX12_ledTo 11 (some .long) 5 := ⟨wc_X12_ledTo, wn_X12, ⟨by decide +kernel, by decide +kernel, by decide +kernel⟩, wi_X12_ledTo, ws_X12_ledTo⟩
theorem dX12_layHeaps_137 : decode cX12_layHeaps 137 = .ok (.lastore, 1) := dl_80 (by decide +kernel)
theorem dX12_layHeaps_138 : decode cX12_layHeaps 138 = .ok (.iinc 5 1, 3) := dl_132 (by decide +kernel)
theorem dX12_layHeaps_141 : decode cX12_layHeaps 141 = .ok (.goto (-35), 3) := dl_167 (by decide +kernel)
theorem dX12_layHeaps_37 : decode cX12_layHeaps 37 = .ok (.iconst 0, 1) := dl_3 (by decide +kernel)
theorem dX12_layHeaps_38 : decode cX12_layHeaps 38 = .ok (.istore 4, 2) := dl_54 (by decide +kernel)
theorem dX12_layHeaps_40 : decode cX12_layHeaps 40 = .ok (.aload_n 0, 1) := dl_42 (by decide +kernel)
theorem dX12_layHeaps_41 : decode cX12_layHeaps 41 = .ok (.iload_n 1, 1) := dl_27 (by decide +kernel)
theorem dX12_layHeaps_42 : decode cX12_layHeaps 42 = .ok (.iload_n 2, 1) := dl_28 (by decide +kernel)
theorem dX12_layHeaps_43 : decode cX12_layHeaps 43 = .ok (.iload 4, 2) := dl_21 (by decide +kernel)
theorem dX12_layHeaps_45 : decode cX12_layHeaps 45 = .ok (.invokevirtual 285, 3) := dl_182 (by decide +kernel)
theorem wl_X12_285 : Cond.methodLink RX12 285 yX12_factsIn ∈ TB := tbm (tq6 (List.mem_of_getElem? (i := 213) (by decide +kernel))) (by decide +kernel)
theorem wc_X12_factsIn : Cond.code yX12_factsIn cX12_factsIn 4 (some .int) ∈ TB := tbm (tq6 (List.mem_of_getElem? (i := 216) (rfl))) (by decide +kernel)
theorem wi_X12_factsIn : Cond.instanceMethod yX12_factsIn ∈ TB := tbm (tq6 (List.mem_of_getElem? (i := 215) (by decide +kernel))) (by decide +kernel)
theorem ws_X12_factsIn : Cond.selects RX12 yX12_factsIn yX12_factsIn ∈ TB := tbm (tq0 (List.mem_of_getElem? (i := 69) (by decide +kernel))) (by decide +kernel)
theorem mi_X12_factsIn : MI yX12_factsIn cX12_factsIn 4 (some .int) 3 := ⟨wc_X12_factsIn, wn_X12, ⟨by decide +kernel, by decide +kernel, by decide +kernel⟩, wi_X12_factsIn, ws_X12_factsIn⟩
theorem dX12_layHeaps_48 : decode cX12_layHeaps 48 = .ok (.aload_n 0, 1) := dl_42 (by decide +kernel)
theorem dX12_layHeaps_49 : decode cX12_layHeaps 49 = .ok (.iload_n 1, 1) := dl_27 (by decide +kernel)
theorem dX12_layHeaps_50 : decode cX12_layHeaps 50 = .ok (.iload_n 2, 1) := dl_28 (by decide +kernel)
theorem dX12_layHeaps_51 : decode cX12_layHeaps 51 = .ok (.iload_n 3, 1) := dl_29 (by decide +kernel)
theorem dX12_layHeaps_52 : decode cX12_layHeaps 52 = .ok (.invokevirtual 285, 3) := dl_182 (by decide +kernel)
theorem dX12_layHeaps_55 : decode cX12_layHeaps 55 = .ok (.if_icmp .eq 9, 3) := dl_159 (by decide +kernel)
theorem dX12_layHeaps_64 : decode cX12_layHeaps 64 = .ok (.aload_n 0, 1) := dl_42 (by decide +kernel)
theorem dX12_layHeaps_65 : decode cX12_layHeaps 65 = .ok (.getfield 74, 3) := dl_180 (by decide +kernel)
theorem dX12_layHeaps_68 : decode cX12_layHeaps 68 = .ok (.iload_n 3, 1) := dl_29 (by decide +kernel)
theorem dX12_layHeaps_69 : decode cX12_layHeaps 69 = .ok (.iload 4, 2) := dl_21 (by decide +kernel)
theorem dX12_layHeaps_71 : decode cX12_layHeaps 71 = .ok (.iastore, 1) := dl_79 (by decide +kernel)
theorem dX12_layHeaps_72 : decode cX12_layHeaps 72 = .ok (.iinc 3 1, 3) := dl_132 (by decide +kernel)
theorem dX12_layHeaps_75 : decode cX12_layHeaps 75 = .ok (.goto (-46), 3) := dl_167 (by decide +kernel)
theorem dX12_layHeaps_58 : decode cX12_layHeaps 58 = .ok (.iinc 4 1, 3) := dl_132 (by decide +kernel)
theorem dX12_layHeaps_61 : decode cX12_layHeaps 61 = .ok (.goto (-21), 3) := dl_167 (by decide +kernel)
set_option maxRecDepth 100000 in
set_option maxHeartbeats 4000000 in
theorem r_layHeapsN (l : Launch) (E : EV) (ro : va_W) (hm : Nat) (m_manys : Nat) (m_reals : Nat) (m_factsOf : Nat) (m_possible : Nat) (q_undos : Nat) (q_models : Nat) (m_tape : Nat) (q_taped : Nat) (q_fault : Int32) (q_wrong : Int32) (q_wrongAt : Int32) (q_spot : Int32) (q_place : Int32) (q_token : Int32) (q_value : Int32) (m_ends : Nat) (m_letters : Nat) (m_actOf : Nat) (m_whom : Nat) (m_actMany : Nat) (m_tokens : Nat) (m_afters : Nat) (m_afterOf : Nat) (q_counted : Int32) (m_pile : Nat) (m_caseMany : Nat) (m_happen : Nat) (m_hasIf : Nat) (m_becomes : Nat) (m_goneOf : Nat) (m_heard : Nat) (m_pairs : Nat) (m_heaps : Nat) (q_rounds : Int32) (q_heapMany : Int32) (m_led : Nat) (m_newAt : Nat) (m_knowing : Nat) (m_firsts : Nat) (q_people : Nat) (m_secrets : Nat) (m_tried : Nat) (m_lanes : Nat) (m_lengths : Nat) (m_cells : Nat) (f_manys : Nat → Int32) (f_reals : Nat → Int32) (f_factsOf : Nat → Int32) (f_possible : Nat → Int32) (f_heaps : Nat → Int32) (f_led : Nat → Int64) (hb_manys : NB 18 24 f_manys) (hb_reals : NB 18 23 f_reals) (hpg : PG f_manys f_reals) (hwf : WFP (pgs f_manys f_reals f_factsOf f_possible)) : CT l yX12_layHeaps (Cond.code yX12_layHeaps cX12_layHeaps 6 none :: TB) ({ frames := 2, cells := 0, slots := 0, locals := 53 }) E ro [.ref hm, .int 0, .int (-4)] [(hm, .inr (12, [.ref m_manys, .ref m_reals, .ref m_factsOf, .ref m_possible, .int (nI q_undos), .int (nI q_models), .ref m_tape, .int (nI q_taped), .int q_fault, .int q_wrong, .int q_wrongAt, .int q_spot, .int q_place, .int q_token, .int q_value, .ref m_ends, .ref m_letters, .ref m_actOf, .ref m_whom, .ref m_actMany, .ref m_tokens, .ref m_afters, .ref m_afterOf, .int q_counted, .ref m_pile, .ref m_caseMany, .ref m_happen, .ref m_hasIf, .ref m_becomes, .ref m_goneOf, .ref m_heard, .ref m_pairs, .ref m_heaps, .int q_rounds, .int q_heapMany, .ref m_led, .ref m_newAt, .ref m_knowing, .ref m_firsts, .int (nI q_people), .ref m_secrets, .ref m_tried, .ref m_lanes, .ref m_lengths, .ref m_cells])), (m_manys, .inl (E.2.1 1, 18, .inl f_manys)), (m_reals, .inl (E.2.1 1, 18, .inl f_reals)), (m_factsOf, .inl (E.2.1 1, 432, .inl f_factsOf)), (m_possible, .inl (E.2.1 1, 1728, .inl f_possible)), (m_heaps, .inl (E.2.1 1, 2400, .inl f_heaps)), (m_led, .inl (E.2.1 2, 192, .inr (.inl f_led)))] (Qv E (fun uz => (∃ (rz_ : Nat) (hmz : Nat) (f_heapsz : Nat → Int32) (f_ledz : Nat → Int64), uz = [(hm, .inr (12, [.ref m_manys, .ref m_reals, .ref m_factsOf, .ref m_possible, .int (nI q_undos), .int (nI q_models), .ref m_tape, .int (nI q_taped), .int q_fault, .int q_wrong, .int q_wrongAt, .int q_spot, .int q_place, .int q_token, .int q_value, .ref m_ends, .ref m_letters, .ref m_actOf, .ref m_whom, .ref m_actMany, .ref m_tokens, .ref m_afters, .ref m_afterOf, .int q_counted, .ref m_pile, .ref m_caseMany, .ref m_happen, .ref m_hasIf, .ref m_becomes, .ref m_goneOf, .ref m_heard, .ref m_pairs, .ref m_heaps, .int (nI rz_), .int (nI hmz), .ref m_led, .ref m_newAt, .ref m_knowing, .ref m_firsts, .int (nI q_people), .ref m_secrets, .ref m_tried, .ref m_lanes, .ref m_lengths, .ref m_cells])), (m_manys, .inl (E.2.1 1, 18, .inl f_manys)), (m_reals, .inl (E.2.1 1, 18, .inl f_reals)), (m_factsOf, .inl (E.2.1 1, 432, .inl f_factsOf)), (m_possible, .inl (E.2.1 1, 1728, .inl f_possible)), (m_heaps, .inl (E.2.1 1, 2400, .inl f_heapsz)), (m_led, .inl (E.2.1 2, 192, .inr (.inl f_ledz)))] ∧ (rz_ ≤ 49) ∧ (hmz = cN f_manys 0) ∧ (LI (cN f_manys 0) (rowH f_heapsz rz_)) ∧ (RKA (cm1 (pgs f_manys f_reals f_factsOf f_possible 0)) f_heapsz rz_) ∧ (RST (cm1 (pgs f_manys f_reals f_factsOf f_possible 0)) rz_)))) 0 0 := by
  refine ct_of rfl rfl ?_
  intro X C hT hin hro
  show WW X 6 E 0 [(0, .ref hm), (1, .int 0), (2, .int (-4))] [] [(hm, .inr (12, [.ref m_manys, .ref m_reals, .ref m_factsOf, .ref m_possible, .int (nI q_undos), .int (nI q_models), .ref m_tape, .int (nI q_taped), .int q_fault, .int q_wrong, .int q_wrongAt, .int q_spot, .int q_place, .int q_token, .int q_value, .ref m_ends, .ref m_letters, .ref m_actOf, .ref m_whom, .ref m_actMany, .ref m_tokens, .ref m_afters, .ref m_afterOf, .int q_counted, .ref m_pile, .ref m_caseMany, .ref m_happen, .ref m_hasIf, .ref m_becomes, .ref m_goneOf, .ref m_heard, .ref m_pairs, .ref m_heaps, .int q_rounds, .int q_heapMany, .ref m_led, .ref m_newAt, .ref m_knowing, .ref m_firsts, .int (nI q_people), .ref m_secrets, .ref m_tried, .ref m_lanes, .ref m_lengths, .ref m_cells])), (m_manys, .inl (E.2.1 1, 18, .inl f_manys)), (m_reals, .inl (E.2.1 1, 18, .inl f_reals)), (m_factsOf, .inl (E.2.1 1, 432, .inl f_factsOf)), (m_possible, .inl (E.2.1 1, 1728, .inl f_possible)), (m_heaps, .inl (E.2.1 1, 2400, .inl f_heaps)), (m_led, .inl (E.2.1 2, 192, .inr (.inl f_led)))] 0 0
  have hmn0 := (hb_manys 0 (by omega)).2
  refine ww_aload_n C dX12_layHeaps_0 0 rfl rfl ?_
  refine ww_aload_n C dX12_layHeaps_1 0 rfl rfl ?_
  refine ww_get C fg_X12_7 0 rfl rfl dX12_layHeaps_2 ?_
  refine ww_iload_n C dX12_layHeaps_5 1 rfl rfl ?_
  have hbx_1 := (hb_manys 0 (by omega)).2
  refine ww_iald (v := (nI (cN f_manys 0))) C 1 rfl (vin rfl) (hb_manys 0 (by omega)).1 dX12_layHeaps_6 ?_
  refine ww_iload_n C dX12_layHeaps_7 2 rfl rfl ?_
  refine ww_bipush (v := (-4)) C dX12_layHeaps_8 rfl ?_
  refine ww_icmp_ne_f (tgt := 17) C dX12_layHeaps_10 (by decide) (rfl) ?_
  refine ww_iconst (v := 0) C dX12_layHeaps_13 rfl ?_
  refine ww_goto (tgt := 23) C dX12_layHeaps_14 (by decide) ?_
  refine ww_iadd (v := (nI (cN f_manys 0))) C dX12_layHeaps_23 (nI_add (cN f_manys 0) 0) ?_
  refine ww_put (ws' := [(hm, .inr (12, [.ref m_manys, .ref m_reals, .ref m_factsOf, .ref m_possible, .int (nI q_undos), .int (nI q_models), .ref m_tape, .int (nI q_taped), .int q_fault, .int q_wrong, .int q_wrongAt, .int q_spot, .int q_place, .int q_token, .int q_value, .ref m_ends, .ref m_letters, .ref m_actOf, .ref m_whom, .ref m_actMany, .ref m_tokens, .ref m_afters, .ref m_afterOf, .int q_counted, .ref m_pile, .ref m_caseMany, .ref m_happen, .ref m_hasIf, .ref m_becomes, .ref m_goneOf, .ref m_heard, .ref m_pairs, .ref m_heaps, .int q_rounds, .int (nI (cN f_manys 0)), .ref m_led, .ref m_newAt, .ref m_knowing, .ref m_firsts, .int (nI q_people), .ref m_secrets, .ref m_tried, .ref m_lanes, .ref m_lengths, .ref m_cells])), (m_manys, .inl (E.2.1 1, 18, .inl f_manys)), (m_reals, .inl (E.2.1 1, 18, .inl f_reals)), (m_factsOf, .inl (E.2.1 1, 432, .inl f_factsOf)), (m_possible, .inl (E.2.1 1, 1728, .inl f_possible)), (m_heaps, .inl (E.2.1 1, 2400, .inl f_heaps)), (m_led, .inl (E.2.1 2, 192, .inr (.inl f_led)))]) C fp_X12_282 0 rfl rfl rfl rfl rfl dX12_layHeaps_24 ?_
  refine ww_iconst (v := 0) C dX12_layHeaps_27 rfl ?_
  refine ww_istore_n (lv' := [(3, .int 0), (0, .ref hm), (1, .int 0), (2, .int (-4))]) C dX12_layHeaps_28 rfl rfl rfl ?_
  have loop_29 : ∀ (fu : Nat) (w1 : Nat) (g1 : Nat → Int32), (w1 ≤ cN f_manys 0) → (HBx w1 (fxN f_factsOf) g1) → cN f_manys 0 - w1 < fu → WW X 6 E 29 [(3, .int (nI w1)), (0, .ref hm), (1, .int 0), (2, .int (-4))] [] [(hm, .inr (12, [.ref m_manys, .ref m_reals, .ref m_factsOf, .ref m_possible, .int (nI q_undos), .int (nI q_models), .ref m_tape, .int (nI q_taped), .int q_fault, .int q_wrong, .int q_wrongAt, .int q_spot, .int q_place, .int q_token, .int q_value, .ref m_ends, .ref m_letters, .ref m_actOf, .ref m_whom, .ref m_actMany, .ref m_tokens, .ref m_afters, .ref m_afterOf, .int q_counted, .ref m_pile, .ref m_caseMany, .ref m_happen, .ref m_hasIf, .ref m_becomes, .ref m_goneOf, .ref m_heard, .ref m_pairs, .ref m_heaps, .int q_rounds, .int (nI (cN f_manys 0)), .ref m_led, .ref m_newAt, .ref m_knowing, .ref m_firsts, .int (nI q_people), .ref m_secrets, .ref m_tried, .ref m_lanes, .ref m_lengths, .ref m_cells])), (m_manys, .inl (E.2.1 1, 18, .inl f_manys)), (m_reals, .inl (E.2.1 1, 18, .inl f_reals)), (m_factsOf, .inl (E.2.1 1, 432, .inl f_factsOf)), (m_possible, .inl (E.2.1 1, 1728, .inl f_possible)), (m_heaps, .inl (E.2.1 1, 2400, .inl g1)), (m_led, .inl (E.2.1 2, 192, .inr (.inl f_led)))] 0 0 := by
    intro fu
    induction fu with
    | zero => intro w1 g1 hw1 hbx hmeas; exact absurd hmeas (Nat.not_lt_zero _)
    | succ fu ih_29 =>
      intro w1 g1 hw1 hbx hmeas
      refine ww_iload_n C dX12_layHeaps_29 0 rfl rfl ?_
      refine ww_aload_n C dX12_layHeaps_30 1 rfl rfl ?_
      refine ww_get C fg_X12_282 0 rfl rfl dX12_layHeaps_31 ?_
      refine ww_icmp_ge (tgt := 78) C dX12_layHeaps_34 (by decide) (fun c_2 => ?_) (fun c_2 => ?_)
      · have zc_2 : ((w1 : Nat) : Int) ≥ ((cN f_manys 0 : Nat) : Int) := i_le (nI_toInt (n := cN f_manys 0) (by omega)) (nI_toInt (n := w1) (by omega)) c_2
        refine ww_aload_n C dX12_layHeaps_78 1 rfl rfl ?_
        refine ww_iconst (v := 0) C dX12_layHeaps_79 rfl ?_
        refine ww_put (ws' := [(hm, .inr (12, [.ref m_manys, .ref m_reals, .ref m_factsOf, .ref m_possible, .int (nI q_undos), .int (nI q_models), .ref m_tape, .int (nI q_taped), .int q_fault, .int q_wrong, .int q_wrongAt, .int q_spot, .int q_place, .int q_token, .int q_value, .ref m_ends, .ref m_letters, .ref m_actOf, .ref m_whom, .ref m_actMany, .ref m_tokens, .ref m_afters, .ref m_afterOf, .int q_counted, .ref m_pile, .ref m_caseMany, .ref m_happen, .ref m_hasIf, .ref m_becomes, .ref m_goneOf, .ref m_heard, .ref m_pairs, .ref m_heaps, .int 0, .int (nI (cN f_manys 0)), .ref m_led, .ref m_newAt, .ref m_knowing, .ref m_firsts, .int (nI q_people), .ref m_secrets, .ref m_tried, .ref m_lanes, .ref m_lengths, .ref m_cells])), (m_manys, .inl (E.2.1 1, 18, .inl f_manys)), (m_reals, .inl (E.2.1 1, 18, .inl f_reals)), (m_factsOf, .inl (E.2.1 1, 432, .inl f_factsOf)), (m_possible, .inl (E.2.1 1, 1728, .inl f_possible)), (m_heaps, .inl (E.2.1 1, 2400, .inl g1)), (m_led, .inl (E.2.1 2, 192, .inr (.inl f_led)))]) C fp_X12_288 0 rfl rfl rfl rfl rfl dX12_layHeaps_80 ?_
        refine ww_iconst (v := 1) C dX12_layHeaps_83 rfl ?_
        refine ww_istore_n (lv' := [(3, .int 1), (0, .ref hm), (1, .int 0), (2, .int (-4))]) C dX12_layHeaps_84 rfl rfl rfl ?_
        have loop_85 : ∀ (fu : Nat) (rr : Nat) (mo : Nat) (g_h : Nat → Int32) (g_l : Nat → Int64), (mo ≤ 1) → (RKA (cm1 (pgs f_manys f_reals f_factsOf f_possible 0)) g_h rr) → (mo = 0 → RST (cm1 (pgs f_manys f_reals f_factsOf f_possible 0)) rr) → (mo = 1 → rr ≤ cbS g_h rr (cN f_manys 0)) → (rr ≤ cN f_manys 0 + 1) → (LI (cN f_manys 0) (rowH g_h rr)) → 60 - rr < fu → WW X 6 E 85 [(3, .int (nI mo)), (0, .ref hm), (1, .int 0), (2, .int (-4))] [] [(hm, .inr (12, [.ref m_manys, .ref m_reals, .ref m_factsOf, .ref m_possible, .int (nI q_undos), .int (nI q_models), .ref m_tape, .int (nI q_taped), .int q_fault, .int q_wrong, .int q_wrongAt, .int q_spot, .int q_place, .int q_token, .int q_value, .ref m_ends, .ref m_letters, .ref m_actOf, .ref m_whom, .ref m_actMany, .ref m_tokens, .ref m_afters, .ref m_afterOf, .int q_counted, .ref m_pile, .ref m_caseMany, .ref m_happen, .ref m_hasIf, .ref m_becomes, .ref m_goneOf, .ref m_heard, .ref m_pairs, .ref m_heaps, .int (nI rr), .int (nI (cN f_manys 0)), .ref m_led, .ref m_newAt, .ref m_knowing, .ref m_firsts, .int (nI q_people), .ref m_secrets, .ref m_tried, .ref m_lanes, .ref m_lengths, .ref m_cells])), (m_manys, .inl (E.2.1 1, 18, .inl f_manys)), (m_reals, .inl (E.2.1 1, 18, .inl f_reals)), (m_factsOf, .inl (E.2.1 1, 432, .inl f_factsOf)), (m_possible, .inl (E.2.1 1, 1728, .inl f_possible)), (m_heaps, .inl (E.2.1 1, 2400, .inl g_h)), (m_led, .inl (E.2.1 2, 192, .inr (.inl g_l)))] 0 0 := by
          intro fu
          induction fu with
          | zero => intro rr mo g_h g_l hmo hra hrs hrr hrn hli hmeas; exact absurd hmeas (Nat.not_lt_zero _)
          | succ fu ih_85 =>
            intro rr mo g_h g_l hmo hra hrs hrr hrn hli hmeas
            refine ww_iload_n C dX12_layHeaps_85 0 rfl rfl ?_
            refine ww_if_eq (tgt := 250) C dX12_layHeaps_86 (by decide) (fun c_3 => ?_) (fun c_3 => ?_)
            · have zc_3 : ((mo : Nat) : Int) = 0 := i_eq (nI_toInt (n := mo) (by omega)) rfl c_3
              exact ww_vret (u := [(hm, .inr (12, [.ref m_manys, .ref m_reals, .ref m_factsOf, .ref m_possible, .int (nI q_undos), .int (nI q_models), .ref m_tape, .int (nI q_taped), .int q_fault, .int q_wrong, .int q_wrongAt, .int q_spot, .int q_place, .int q_token, .int q_value, .ref m_ends, .ref m_letters, .ref m_actOf, .ref m_whom, .ref m_actMany, .ref m_tokens, .ref m_afters, .ref m_afterOf, .int q_counted, .ref m_pile, .ref m_caseMany, .ref m_happen, .ref m_hasIf, .ref m_becomes, .ref m_goneOf, .ref m_heard, .ref m_pairs, .ref m_heaps, .int (nI rr), .int (nI (cN f_manys 0)), .ref m_led, .ref m_newAt, .ref m_knowing, .ref m_firsts, .int (nI q_people), .ref m_secrets, .ref m_tried, .ref m_lanes, .ref m_lengths, .ref m_cells])), (m_manys, .inl (E.2.1 1, 18, .inl f_manys)), (m_reals, .inl (E.2.1 1, 18, .inl f_reals)), (m_factsOf, .inl (E.2.1 1, 432, .inl f_factsOf)), (m_possible, .inl (E.2.1 1, 1728, .inl f_possible)), (m_heaps, .inl (E.2.1 1, 2400, .inl g_h)), (m_led, .inl (E.2.1 2, 192, .inr (.inl g_l)))]) C hT [0, 1, 2, 3, 4, 5, 6] rfl rfl rfl rfl dX12_layHeaps_250 (⟨rr, (cN f_manys 0), g_h, g_l, rfl, (by omega), rfl, hli, hra, (hrs (by omega))⟩)
            · have zc_3 : ((mo : Nat) : Int) ≠ 0 := i_ne (nI_toInt (n := mo) (by omega)) rfl c_3
              have hcl := cbS_le g_h rr (cN f_manys 0)
              have hrr1 := hrr (by omega)
              refine ww_iconst (v := 0) C dX12_layHeaps_89 rfl ?_
              refine ww_istore_n (lv' := [(3, .int 0), (0, .ref hm), (1, .int 0), (2, .int (-4))]) C dX12_layHeaps_90 rfl rfl rfl ?_
              refine ww_iconst (v := 0) C dX12_layHeaps_91 rfl ?_
              refine ww_istore (lv' := [(4, .int 0), (3, .int 0), (0, .ref hm), (1, .int 0), (2, .int (-4))]) C dX12_layHeaps_92 rfl rfl ?_
              have loop_94 : ∀ (fu : Nat) (w2 : Nat) (g_l2 : Nat → Int64), (w2 ≤ cN f_manys 0) → (LKr (cm1 (pgs f_manys f_reals f_factsOf f_possible 0)) (rk (cm1 (pgs f_manys f_reals f_factsOf f_possible 0)) rr) w2 0 g_l2) → cN f_manys 0 - w2 < fu → WW X 6 E 94 [(4, .int (nI w2)), (3, .int 0), (0, .ref hm), (1, .int 0), (2, .int (-4))] [] [(hm, .inr (12, [.ref m_manys, .ref m_reals, .ref m_factsOf, .ref m_possible, .int (nI q_undos), .int (nI q_models), .ref m_tape, .int (nI q_taped), .int q_fault, .int q_wrong, .int q_wrongAt, .int q_spot, .int q_place, .int q_token, .int q_value, .ref m_ends, .ref m_letters, .ref m_actOf, .ref m_whom, .ref m_actMany, .ref m_tokens, .ref m_afters, .ref m_afterOf, .int q_counted, .ref m_pile, .ref m_caseMany, .ref m_happen, .ref m_hasIf, .ref m_becomes, .ref m_goneOf, .ref m_heard, .ref m_pairs, .ref m_heaps, .int (nI rr), .int (nI (cN f_manys 0)), .ref m_led, .ref m_newAt, .ref m_knowing, .ref m_firsts, .int (nI q_people), .ref m_secrets, .ref m_tried, .ref m_lanes, .ref m_lengths, .ref m_cells])), (m_manys, .inl (E.2.1 1, 18, .inl f_manys)), (m_reals, .inl (E.2.1 1, 18, .inl f_reals)), (m_factsOf, .inl (E.2.1 1, 432, .inl f_factsOf)), (m_possible, .inl (E.2.1 1, 1728, .inl f_possible)), (m_heaps, .inl (E.2.1 1, 2400, .inl g_h)), (m_led, .inl (E.2.1 2, 192, .inr (.inl g_l2)))] 0 0 := by
                intro fu
                induction fu with
                | zero => intro w2 g_l2 hw2 hlk hmeas; exact absurd hmeas (Nat.not_lt_zero _)
                | succ fu ih_94 =>
                  intro w2 g_l2 hw2 hlk hmeas
                  refine ww_iload C dX12_layHeaps_94 0 rfl ?_
                  refine ww_aload_n C dX12_layHeaps_96 2 rfl rfl ?_
                  refine ww_get C fg_X12_282 0 rfl rfl dX12_layHeaps_97 ?_
                  refine ww_icmp_ge (tgt := 150) C dX12_layHeaps_100 (by decide) (fun c_4 => ?_) (fun c_4 => ?_)
                  · have zc_4 : ((w2 : Nat) : Int) ≥ ((cN f_manys 0 : Nat) : Int) := i_le (nI_toInt (n := cN f_manys 0) (by omega)) (nI_toInt (n := w2) (by omega)) c_4
                    refine ww_iconst (v := 0) C dX12_layHeaps_150 rfl ?_
                    refine ww_istore (lv' := [(4, .int 0), (3, .int 0), (0, .ref hm), (1, .int 0), (2, .int (-4))]) C dX12_layHeaps_151 rfl rfl ?_
                    have loop_153 : ∀ (fu : Nat) (w3 : Nat) (m3 : Nat) (g_h3 : Nat → Int32), (w3 ≤ cN f_manys 0) → (m3 ≤ 1) → (KP (48 * (rr + 1)) g_h g_h3) → (LA2 w3 g_h rr g_l2 g_h3) → (m3 = 1 → MOR w3 g_h rr g_h3) → (m3 = 0 → ∀ w, w < w3 → rowH g_h3 (rr + 1) w = rowH g_h rr w) → cN f_manys 0 - w3 < fu → WW X 6 E 153 [(4, .int (nI w3)), (3, .int (nI m3)), (0, .ref hm), (1, .int 0), (2, .int (-4))] [] [(hm, .inr (12, [.ref m_manys, .ref m_reals, .ref m_factsOf, .ref m_possible, .int (nI q_undos), .int (nI q_models), .ref m_tape, .int (nI q_taped), .int q_fault, .int q_wrong, .int q_wrongAt, .int q_spot, .int q_place, .int q_token, .int q_value, .ref m_ends, .ref m_letters, .ref m_actOf, .ref m_whom, .ref m_actMany, .ref m_tokens, .ref m_afters, .ref m_afterOf, .int q_counted, .ref m_pile, .ref m_caseMany, .ref m_happen, .ref m_hasIf, .ref m_becomes, .ref m_goneOf, .ref m_heard, .ref m_pairs, .ref m_heaps, .int (nI rr), .int (nI (cN f_manys 0)), .ref m_led, .ref m_newAt, .ref m_knowing, .ref m_firsts, .int (nI q_people), .ref m_secrets, .ref m_tried, .ref m_lanes, .ref m_lengths, .ref m_cells])), (m_manys, .inl (E.2.1 1, 18, .inl f_manys)), (m_reals, .inl (E.2.1 1, 18, .inl f_reals)), (m_factsOf, .inl (E.2.1 1, 432, .inl f_factsOf)), (m_possible, .inl (E.2.1 1, 1728, .inl f_possible)), (m_heaps, .inl (E.2.1 1, 2400, .inl g_h3)), (m_led, .inl (E.2.1 2, 192, .inr (.inl g_l2)))] 0 0 := by
                      intro fu
                      induction fu with
                      | zero => intro w3 m3 g_h3 hw3 hm3 hkp hla hmo3 hmz3 hmeas; exact absurd hmeas (Nat.not_lt_zero _)
                      | succ fu ih_153 =>
                        intro w3 m3 g_h3 hw3 hm3 hkp hla hmo3 hmz3 hmeas
                        refine ww_iload C dX12_layHeaps_153 0 rfl ?_
                        refine ww_aload_n C dX12_layHeaps_155 2 rfl rfl ?_
                        refine ww_get C fg_X12_282 0 rfl rfl dX12_layHeaps_156 ?_
                        refine ww_icmp_ge (tgt := 237) C dX12_layHeaps_159 (by decide) (fun c_5 => ?_) (fun c_5 => ?_)
                        · have zc_5 : ((w3 : Nat) : Int) ≥ ((cN f_manys 0 : Nat) : Int) := i_le (nI_toInt (n := cN f_manys 0) (by omega)) (nI_toInt (n := w3) (by omega)) c_5
                          refine ww_aload_n C dX12_layHeaps_237 2 rfl rfl ?_
                          refine ww_dup C dX12_layHeaps_238 rfl ?_
                          refine ww_get C fg_X12_288 0 rfl rfl dX12_layHeaps_239 ?_
                          refine ww_iconst (v := 1) C dX12_layHeaps_242 rfl ?_
                          refine ww_iadd (v := (nI (rr + 1))) C dX12_layHeaps_243 (nI_add rr 1) ?_
                          refine ww_put (ws' := [(hm, .inr (12, [.ref m_manys, .ref m_reals, .ref m_factsOf, .ref m_possible, .int (nI q_undos), .int (nI q_models), .ref m_tape, .int (nI q_taped), .int q_fault, .int q_wrong, .int q_wrongAt, .int q_spot, .int q_place, .int q_token, .int q_value, .ref m_ends, .ref m_letters, .ref m_actOf, .ref m_whom, .ref m_actMany, .ref m_tokens, .ref m_afters, .ref m_afterOf, .int q_counted, .ref m_pile, .ref m_caseMany, .ref m_happen, .ref m_hasIf, .ref m_becomes, .ref m_goneOf, .ref m_heard, .ref m_pairs, .ref m_heaps, .int (nI (rr + 1)), .int (nI (cN f_manys 0)), .ref m_led, .ref m_newAt, .ref m_knowing, .ref m_firsts, .int (nI q_people), .ref m_secrets, .ref m_tried, .ref m_lanes, .ref m_lengths, .ref m_cells])), (m_manys, .inl (E.2.1 1, 18, .inl f_manys)), (m_reals, .inl (E.2.1 1, 18, .inl f_reals)), (m_factsOf, .inl (E.2.1 1, 432, .inl f_factsOf)), (m_possible, .inl (E.2.1 1, 1728, .inl f_possible)), (m_heaps, .inl (E.2.1 1, 2400, .inl g_h3)), (m_led, .inl (E.2.1 2, 192, .inr (.inl g_l2)))]) C fp_X12_288 0 rfl rfl rfl rfl rfl dX12_layHeaps_244 ?_
                          refine ww_goto (tgt := 85) C dX12_layHeaps_247 (by decide) ?_
                          exact ww_lv [1, 2, 3, 4] rfl (ww_sub [0, 1, 2, 3, 4, 5, 6] rfl rfl (ih_85 (rr + 1) m3 g_h3 g_l2 (by omega) (RKA.ext hra (show cN f_manys 0 ≤ 48 by omega) hkp (la2_rk (show cN f_manys 0 ≤ 48 by omega) (hra rr (Nat.le_refl _)) (by have h7 : w2 = cN f_manys 0 := (by omega); rw [h7] at hlk; exact hlk) (by have h7 : w3 = cN f_manys 0 := (by omega); rw [h7] at hla; exact hla))) (fun h9 => ⟨rr, rfl, (show rr ≤ cN f_manys 0 by omega), rk_same (show cN f_manys 0 ≤ 48 by omega) (hra rr (Nat.le_refl _)) (la2_rk (show cN f_manys 0 ≤ 48 by omega) (hra rr (Nat.le_refl _)) (by have h7 : w2 = cN f_manys 0 := (by omega); rw [h7] at hlk; exact hlk) (by have h7 : w3 = cN f_manys 0 := (by omega); rw [h7] at hla; exact hla)) (by have h7 : w3 = cN f_manys 0 := (by omega); have h6 := hmz3 h9; rw [h7] at h6; exact h6)⟩) (fun h9 => by have h8 := cbS_lt (by omega) hli (by have h7 : w3 = cN f_manys 0 := (by omega); rw [h7] at hla; exact hla) (by have h7 : w3 = cN f_manys 0 := (by omega); rw [h7] at hmo3; exact hmo3 h9); have h6 := hrr (by omega); omega) (by have h8 := cbS_le g_h rr (cN f_manys 0); have h9 := hrr (by omega); omega) (by have h7 : w3 = cN f_manys 0 := (by omega); rw [h7] at hla; exact hla.LI) (by omega)))
                        · have zc_5 : ((w3 : Nat) : Int) < ((cN f_manys 0 : Nat) : Int) := i_nle (nI_toInt (n := cN f_manys 0) (by omega)) (nI_toInt (n := w3) (by omega)) c_5
                          refine ww_iconst (v := 0) C dX12_layHeaps_162 rfl ?_
                          refine ww_istore (lv' := [(5, .int 0), (4, .int (nI w3)), (3, .int (nI m3)), (0, .ref hm), (1, .int 0), (2, .int (-4))]) C dX12_layHeaps_163 rfl rfl ?_
                          have loop_165 : ∀ (fu : Nat) (v5 : Nat), (v5 ≤ w3) → (∀ u, u < v5 → ¬ ALR g_h rr g_l2 u w3) → w3 - v5 + 1 < fu → WW X 6 E 165 [(5, .int (nI v5)), (4, .int (nI w3)), (3, .int (nI m3)), (0, .ref hm), (1, .int 0), (2, .int (-4))] [] [(hm, .inr (12, [.ref m_manys, .ref m_reals, .ref m_factsOf, .ref m_possible, .int (nI q_undos), .int (nI q_models), .ref m_tape, .int (nI q_taped), .int q_fault, .int q_wrong, .int q_wrongAt, .int q_spot, .int q_place, .int q_token, .int q_value, .ref m_ends, .ref m_letters, .ref m_actOf, .ref m_whom, .ref m_actMany, .ref m_tokens, .ref m_afters, .ref m_afterOf, .int q_counted, .ref m_pile, .ref m_caseMany, .ref m_happen, .ref m_hasIf, .ref m_becomes, .ref m_goneOf, .ref m_heard, .ref m_pairs, .ref m_heaps, .int (nI rr), .int (nI (cN f_manys 0)), .ref m_led, .ref m_newAt, .ref m_knowing, .ref m_firsts, .int (nI q_people), .ref m_secrets, .ref m_tried, .ref m_lanes, .ref m_lengths, .ref m_cells])), (m_manys, .inl (E.2.1 1, 18, .inl f_manys)), (m_reals, .inl (E.2.1 1, 18, .inl f_reals)), (m_factsOf, .inl (E.2.1 1, 432, .inl f_factsOf)), (m_possible, .inl (E.2.1 1, 1728, .inl f_possible)), (m_heaps, .inl (E.2.1 1, 2400, .inl g_h3)), (m_led, .inl (E.2.1 2, 192, .inr (.inl g_l2)))] 0 0 := by
                            intro fu
                            induction fu with
                            | zero => intro v5 hv5 hu5 hmeas; exact absurd hmeas (Nat.not_lt_zero _)
                            | succ fu ih_165 =>
                              intro v5 hv5 hu5 hmeas
                              refine ww_aload_n C dX12_layHeaps_165 3 rfl rfl ?_
                              refine ww_iload C dX12_layHeaps_166 0 rfl ?_
                              refine ww_iload C dX12_layHeaps_168 1 rfl ?_
                              refine ww_ci (wr := [(m_manys, .inl (E.2.1 1, 18, .inl f_manys)), (m_reals, .inl (E.2.1 1, 18, .inl f_reals)), (m_factsOf, .inl (E.2.1 1, 432, .inl f_factsOf)), (m_possible, .inl (E.2.1 1, 1728, .inl f_possible))]) (k' := 0) (n' := 0) C (run_V (As := [.int (nI v5), .int (nI w3)]) (rest := []) C (r_areAlike X.2.1 E ro hm v5 w3 m_manys m_reals m_factsOf m_possible q_undos q_models m_tape q_taped q_fault q_wrong q_wrongAt q_spot q_place q_token q_value m_ends m_letters m_actOf m_whom m_actMany m_tokens m_afters m_afterOf q_counted m_pile m_caseMany m_happen m_hasIf m_becomes m_goneOf m_heard m_pairs m_heaps rr (nI (cN f_manys 0)) m_led m_newAt m_knowing m_firsts q_people m_secrets m_tried m_lanes m_lengths m_cells g_h3 g_l2 (by omega) (by omega) (by omega)) mi_X12_areAlike wl_X12_295 rfl 0 12 rfl rfl rfl rfl rfl dX12_layHeaps_170) (roK hro) [0, 5, 6] [1, 2, 3, 4] rfl rfl rfl rfl (fun r_6 uz hw => ?_)
                              rcases hw with hw | hw
                              · refine an2 hw ?_
                                clear hw
                                intro he_8 he_9 hw
                                have h_7 := hw
                                clear hw
                                have he_8 := he_8.symm
                                subst he_8
                                subst he_9
                                refine ww_eq (ws' := [(m_manys, .inl (E.2.1 1, 18, .inl f_manys)), (m_reals, .inl (E.2.1 1, 18, .inl f_reals)), (m_factsOf, .inl (E.2.1 1, 432, .inl f_factsOf)), (m_possible, .inl (E.2.1 1, 1728, .inl f_possible)), (hm, .inr (12, [.ref m_manys, .ref m_reals, .ref m_factsOf, .ref m_possible, .int (nI q_undos), .int (nI q_models), .ref m_tape, .int (nI q_taped), .int q_fault, .int q_wrong, .int q_wrongAt, .int q_spot, .int q_place, .int q_token, .int q_value, .ref m_ends, .ref m_letters, .ref m_actOf, .ref m_whom, .ref m_actMany, .ref m_tokens, .ref m_afters, .ref m_afterOf, .int q_counted, .ref m_pile, .ref m_caseMany, .ref m_happen, .ref m_hasIf, .ref m_becomes, .ref m_goneOf, .ref m_heard, .ref m_pairs, .ref m_heaps, .int (nI rr), .int (nI (cN f_manys 0)), .ref m_led, .ref m_newAt, .ref m_knowing, .ref m_firsts, .int (nI q_people), .ref m_secrets, .ref m_tried, .ref m_lanes, .ref m_lengths, .ref m_cells])), (m_heaps, .inl (E.2.1 1, 2400, .inl g_h3)), (m_led, .inl (E.2.1 2, 192, .inr (.inl g_l2)))]) ?_ rfl rfl rfl
                                refine ww_if_ne_t (tgt := 182) C dX12_layHeaps_173 (by decide) (by decide) ?_
                                refine ww_aload_n C dX12_layHeaps_182 3 rfl rfl ?_
                                refine ww_get C fg_X12_74 4 rfl rfl dX12_layHeaps_183 ?_
                                refine ww_bipush (v := 48) C dX12_layHeaps_186 rfl ?_
                                refine ww_aload_n C dX12_layHeaps_188 3 rfl rfl ?_
                                refine ww_get C fg_X12_288 4 rfl rfl dX12_layHeaps_189 ?_
                                refine ww_iconst (v := 1) C dX12_layHeaps_192 rfl ?_
                                refine ww_iadd (v := (nI (rr + 1))) C dX12_layHeaps_193 (nI_add rr 1) ?_
                                refine ww_imul (v := (nI (48 * (rr + 1)))) C dX12_layHeaps_194 (pk_mul 48 (rr + 1)) ?_
                                refine ww_iload C dX12_layHeaps_195 1 rfl ?_
                                refine ww_iadd (v := (nI ((48 * (rr + 1)) + w3))) C dX12_layHeaps_197 (nI_add (48 * (rr + 1)) w3) ?_
                                refine ww_iload C dX12_layHeaps_198 0 rfl ?_
                                obtain ⟨f_13, ef_13⟩ : ∃ z : Nat → Int32, upd g_h3 ((48 * (rr + 1)) + w3) (nI v5) = z := ⟨_, rfl⟩
                                refine ww_iast (ws' := [(m_manys, .inl (E.2.1 1, 18, .inl f_manys)), (m_reals, .inl (E.2.1 1, 18, .inl f_reals)), (m_factsOf, .inl (E.2.1 1, 432, .inl f_factsOf)), (m_possible, .inl (E.2.1 1, 1728, .inl f_possible)), (hm, .inr (12, [.ref m_manys, .ref m_reals, .ref m_factsOf, .ref m_possible, .int (nI q_undos), .int (nI q_models), .ref m_tape, .int (nI q_taped), .int q_fault, .int q_wrong, .int q_wrongAt, .int q_spot, .int q_place, .int q_token, .int q_value, .ref m_ends, .ref m_letters, .ref m_actOf, .ref m_whom, .ref m_actMany, .ref m_tokens, .ref m_afters, .ref m_afterOf, .int q_counted, .ref m_pile, .ref m_caseMany, .ref m_happen, .ref m_hasIf, .ref m_becomes, .ref m_goneOf, .ref m_heard, .ref m_pairs, .ref m_heaps, .int (nI rr), .int (nI (cN f_manys 0)), .ref m_led, .ref m_newAt, .ref m_knowing, .ref m_firsts, .int (nI q_people), .ref m_secrets, .ref m_tried, .ref m_lanes, .ref m_lengths, .ref m_cells])), (m_heaps, .inl (E.2.1 1, 2400, .inl f_13)), (m_led, .inl (E.2.1 2, 192, .inr (.inl g_l2)))]) C 5 rfl (vp_in_nI (by omega) (by omega)) (ldn2 (by omega) ef_13) rfl dX12_layHeaps_200 ?_
                                refine ww_iload_n C dX12_layHeaps_201 2 rfl rfl ?_
                                refine ww_if_ne (tgt := 225) C dX12_layHeaps_202 (by decide) (fun c_14 => ?_) (fun c_14 => ?_)
                                · have zc_14 : ((m3 : Nat) : Int) ≠ 0 := i_ne (nI_toInt (n := m3) (by omega)) rfl c_14
                                  refine ww_iconst (v := 1) C dX12_layHeaps_225 rfl ?_
                                  refine ww_goto (tgt := 230) C dX12_layHeaps_226 (by decide) ?_
                                  refine ww_istore_n (lv' := [(3, .int 1), (5, .int (nI v5)), (4, .int (nI w3)), (0, .ref hm), (1, .int 0), (2, .int (-4))]) C dX12_layHeaps_230 rfl rfl rfl ?_
                                  refine ww_iinc (j := 2) (v := (nI (w3 + 1))) (lv' := [(4, .int (nI (w3 + 1))), (3, .int 1), (5, .int (nI v5)), (0, .ref hm), (1, .int 0), (2, .int (-4))]) C dX12_layHeaps_231 rfl (nI_add w3 1) rfl rfl ?_
                                  refine ww_goto (tgt := 153) C dX12_layHeaps_234 (by decide) ?_
                                  exact ww_lv [0, 1, 3, 4, 5] rfl (ww_sub [4, 0, 1, 2, 3, 5, 6] rfl rfl (ih_153 (w3 + 1) 1 f_13 (by omega) (by omega) (KP.put hkp (by omega) ef_13) (LA2.ext hla hv5 (ALR.kp hkp (by omega) (by omega) (by assumption)) hu5 ef_13) (fun _ => by first | exact MOR.ext (hmo3 (by omega)) ef_13 | exact MOR.new (by omega) (KP.put hkp (by omega) ef_13) ef_13 (by assumption) (fun h9 => by have h8 := nI_toInt (n := v5) (by omega); rw [h9] at h8; omega)) (fun h9 => absurd h9 (by decide)) (by omega)))
                                · have zc_14 : ((m3 : Nat) : Int) = 0 := i_eq (nI_toInt (n := m3) (by omega)) rfl c_14
                                  refine ww_iload C dX12_layHeaps_205 0 rfl ?_
                                  refine ww_aload_n C dX12_layHeaps_207 3 rfl rfl ?_
                                  refine ww_get C fg_X12_74 4 rfl rfl dX12_layHeaps_208 ?_
                                  refine ww_bipush (v := 48) C dX12_layHeaps_211 rfl ?_
                                  refine ww_aload_n C dX12_layHeaps_213 3 rfl rfl ?_
                                  refine ww_get C fg_X12_288 4 rfl rfl dX12_layHeaps_214 ?_
                                  refine ww_imul (v := (nI (48 * rr))) C dX12_layHeaps_217 (pk_mul 48 rr) ?_
                                  refine ww_iload C dX12_layHeaps_218 1 rfl ?_
                                  refine ww_iadd (v := (nI ((48 * rr) + w3))) C dX12_layHeaps_220 (nI_add (48 * rr) w3) ?_
                                  obtain ⟨x_15, ex_15⟩ : ∃ z : Int32, f_13 ((48 * rr) + w3) = z := ⟨_, rfl⟩
                                  refine ww_iald (v := x_15) C 5 rfl (vp_in_nI (by omega) (by omega)) (ldn (by omega) ex_15) dX12_layHeaps_221 ?_
                                  refine ww_icmp_eq (tgt := 229) C dX12_layHeaps_222 (by decide) (fun c_16 => ?_) (fun c_16 => ?_)
                                  · have zc_16 : ((v5 : Nat) : Int) = x_15.toInt := i_eq (nI_toInt (n := v5) (by omega)) rfl c_16
                                    refine ww_iconst (v := 0) C dX12_layHeaps_229 rfl ?_
                                    refine ww_istore_n (lv' := [(3, .int 0), (5, .int (nI v5)), (4, .int (nI w3)), (0, .ref hm), (1, .int 0), (2, .int (-4))]) C dX12_layHeaps_230 rfl rfl rfl ?_
                                    refine ww_iinc (j := 2) (v := (nI (w3 + 1))) (lv' := [(4, .int (nI (w3 + 1))), (3, .int 0), (5, .int (nI v5)), (0, .ref hm), (1, .int 0), (2, .int (-4))]) C dX12_layHeaps_231 rfl (nI_add w3 1) rfl rfl ?_
                                    refine ww_goto (tgt := 153) C dX12_layHeaps_234 (by decide) ?_
                                    exact ww_lv [0, 1, 3, 4, 5] rfl (ww_sub [4, 0, 1, 2, 3, 5, 6] rfl rfl (ih_153 (w3 + 1) 0 f_13 (by omega) (by omega) (KP.put hkp (by omega) ef_13) (LA2.ext hla hv5 (ALR.kp hkp (by omega) (by omega) (by assumption)) hu5 ef_13) (fun h => absurd h (by decide)) (fun _ => MZ_ext (hmz3 (by omega)) (by omega) (KP.put hkp (by omega) ef_13) ef_13 (by assumption) (by assumption)) (by omega)))
                                  · have zc_16 : ((v5 : Nat) : Int) ≠ x_15.toInt := i_ne (nI_toInt (n := v5) (by omega)) rfl c_16
                                    refine ww_iconst (v := 1) C dX12_layHeaps_225 rfl ?_
                                    refine ww_goto (tgt := 230) C dX12_layHeaps_226 (by decide) ?_
                                    refine ww_istore_n (lv' := [(3, .int 1), (5, .int (nI v5)), (4, .int (nI w3)), (0, .ref hm), (1, .int 0), (2, .int (-4))]) C dX12_layHeaps_230 rfl rfl rfl ?_
                                    refine ww_iinc (j := 2) (v := (nI (w3 + 1))) (lv' := [(4, .int (nI (w3 + 1))), (3, .int 1), (5, .int (nI v5)), (0, .ref hm), (1, .int 0), (2, .int (-4))]) C dX12_layHeaps_231 rfl (nI_add w3 1) rfl rfl ?_
                                    refine ww_goto (tgt := 153) C dX12_layHeaps_234 (by decide) ?_
                                    exact ww_lv [0, 1, 3, 4, 5] rfl (ww_sub [4, 0, 1, 2, 3, 5, 6] rfl rfl (ih_153 (w3 + 1) 1 f_13 (by omega) (by omega) (KP.put hkp (by omega) ef_13) (LA2.ext hla hv5 (ALR.kp hkp (by omega) (by omega) (by assumption)) hu5 ef_13) (fun _ => by first | exact MOR.ext (hmo3 (by omega)) ef_13 | exact MOR.new (by omega) (KP.put hkp (by omega) ef_13) ef_13 (by assumption) (fun h9 => by have h8 := nI_toInt (n := v5) (by omega); rw [h9] at h8; omega)) (fun h9 => absurd h9 (by decide)) (by omega)))
                              · refine an2 hw ?_
                                clear hw
                                intro he_11 he_12 hw
                                have h_10 := hw
                                clear hw
                                have he_11 := he_11.symm
                                subst he_11
                                subst he_12
                                refine ww_eq (ws' := [(m_manys, .inl (E.2.1 1, 18, .inl f_manys)), (m_reals, .inl (E.2.1 1, 18, .inl f_reals)), (m_factsOf, .inl (E.2.1 1, 432, .inl f_factsOf)), (m_possible, .inl (E.2.1 1, 1728, .inl f_possible)), (hm, .inr (12, [.ref m_manys, .ref m_reals, .ref m_factsOf, .ref m_possible, .int (nI q_undos), .int (nI q_models), .ref m_tape, .int (nI q_taped), .int q_fault, .int q_wrong, .int q_wrongAt, .int q_spot, .int q_place, .int q_token, .int q_value, .ref m_ends, .ref m_letters, .ref m_actOf, .ref m_whom, .ref m_actMany, .ref m_tokens, .ref m_afters, .ref m_afterOf, .int q_counted, .ref m_pile, .ref m_caseMany, .ref m_happen, .ref m_hasIf, .ref m_becomes, .ref m_goneOf, .ref m_heard, .ref m_pairs, .ref m_heaps, .int (nI rr), .int (nI (cN f_manys 0)), .ref m_led, .ref m_newAt, .ref m_knowing, .ref m_firsts, .int (nI q_people), .ref m_secrets, .ref m_tried, .ref m_lanes, .ref m_lengths, .ref m_cells])), (m_heaps, .inl (E.2.1 1, 2400, .inl g_h3)), (m_led, .inl (E.2.1 2, 192, .inr (.inl g_l2)))]) ?_ rfl rfl rfl
                                refine ww_if_ne_f (tgt := 182) C dX12_layHeaps_173 (by decide) (rfl) ?_
                                refine ww_iinc (j := 0) (v := (nI (v5 + 1))) (lv' := [(5, .int (nI (v5 + 1))), (4, .int (nI w3)), (3, .int (nI m3)), (0, .ref hm), (1, .int 0), (2, .int (-4))]) C dX12_layHeaps_176 rfl (nI_add v5 1) rfl rfl ?_
                                refine ww_goto (tgt := 165) C dX12_layHeaps_179 (by decide) ?_
                                exact ww_lv [0, 1, 2, 3, 4, 5] rfl (ww_sub [4, 0, 1, 2, 3, 5, 6] rfl rfl (ih_165 (v5 + 1) (Nat.lt_of_le_of_ne hv5 (fun h9 => by subst h9; exact (by assumption : ¬ ALR _ _ _ _ _) ALR.rf)) (fun u hu => if hk : u = v5 then (fun h9 => (by assumption : ¬ ALR _ _ _ v5 w3) (ALR.kp' hkp (by omega) (by omega) (hk ▸ h9))) else hu5 u (by omega)) (by have h8 : v5 < w3 := Nat.lt_of_le_of_ne hv5 (fun h9 => by subst h9; exact (by assumption : ¬ ALR _ _ _ _ _) ALR.rf); omega)))
                          exact ww_lv [0, 1, 2, 3, 4, 5] rfl (ww_sub [0, 1, 2, 3, 4, 5, 6] rfl rfl (loop_165 _ 0 (by omega) (fun u h => absurd h (Nat.not_lt_zero _)) (Nat.lt_succ_self _)))
                    exact ww_lv [0, 1, 2, 3, 4] rfl (ww_sub [0, 1, 2, 3, 4, 5, 6] rfl rfl (loop_153 _ 0 0 g_h (by omega) (by omega) KP.rf LA2.zero (fun h => absurd h (by decide)) (fun _ w h => absurd h (Nat.not_lt_zero _)) (Nat.lt_succ_self _)))
                  · have zc_4 : ((w2 : Nat) : Int) < ((cN f_manys 0 : Nat) : Int) := i_nle (nI_toInt (n := cN f_manys 0) (by omega)) (nI_toInt (n := w2) (by omega)) c_4
                    refine ww_iconst (v := 0) C dX12_layHeaps_103 rfl ?_
                    refine ww_istore (lv' := [(5, .int 0), (4, .int (nI w2)), (3, .int 0), (0, .ref hm), (1, .int 0), (2, .int (-4))]) C dX12_layHeaps_104 rfl rfl ?_
                    have loop_106 : ∀ (fu : Nat) (k2 : Nat) (g_l3 : Nat → Int64), (k2 ≤ 4) → (LKr (cm1 (pgs f_manys f_reals f_factsOf f_possible 0)) (rk (cm1 (pgs f_manys f_reals f_factsOf f_possible 0)) rr) w2 k2 g_l3) → 4 - k2 < fu → WW X 6 E 106 [(5, .int (nI k2)), (4, .int (nI w2)), (3, .int 0), (0, .ref hm), (1, .int 0), (2, .int (-4))] [] [(hm, .inr (12, [.ref m_manys, .ref m_reals, .ref m_factsOf, .ref m_possible, .int (nI q_undos), .int (nI q_models), .ref m_tape, .int (nI q_taped), .int q_fault, .int q_wrong, .int q_wrongAt, .int q_spot, .int q_place, .int q_token, .int q_value, .ref m_ends, .ref m_letters, .ref m_actOf, .ref m_whom, .ref m_actMany, .ref m_tokens, .ref m_afters, .ref m_afterOf, .int q_counted, .ref m_pile, .ref m_caseMany, .ref m_happen, .ref m_hasIf, .ref m_becomes, .ref m_goneOf, .ref m_heard, .ref m_pairs, .ref m_heaps, .int (nI rr), .int (nI (cN f_manys 0)), .ref m_led, .ref m_newAt, .ref m_knowing, .ref m_firsts, .int (nI q_people), .ref m_secrets, .ref m_tried, .ref m_lanes, .ref m_lengths, .ref m_cells])), (m_manys, .inl (E.2.1 1, 18, .inl f_manys)), (m_reals, .inl (E.2.1 1, 18, .inl f_reals)), (m_factsOf, .inl (E.2.1 1, 432, .inl f_factsOf)), (m_possible, .inl (E.2.1 1, 1728, .inl f_possible)), (m_heaps, .inl (E.2.1 1, 2400, .inl g_h)), (m_led, .inl (E.2.1 2, 192, .inr (.inl g_l3)))] 0 0 := by
                      intro fu
                      induction fu with
                      | zero => intro k2 g_l3 hk2 hlk3 hmeas; exact absurd hmeas (Nat.not_lt_zero _)
                      | succ fu ih_106 =>
                        intro k2 g_l3 hk2 hlk3 hmeas
                        refine ww_iload C dX12_layHeaps_106 0 rfl ?_
                        refine ww_iconst (v := 4) C dX12_layHeaps_108 rfl ?_
                        refine ww_icmp_ge (tgt := 144) C dX12_layHeaps_109 (by decide) (fun c_17 => ?_) (fun c_17 => ?_)
                        · have zc_17 : ((k2 : Nat) : Int) ≥ 4 := i_le rfl (nI_toInt (n := k2) (by omega)) c_17
                          refine ww_iinc (j := 1) (v := (nI (w2 + 1))) (lv' := [(4, .int (nI (w2 + 1))), (5, .int (nI k2)), (3, .int 0), (0, .ref hm), (1, .int 0), (2, .int (-4))]) C dX12_layHeaps_144 rfl (nI_add w2 1) rfl rfl ?_
                          refine ww_goto (tgt := 94) C dX12_layHeaps_147 (by decide) ?_
                          exact ww_lv [0, 2, 3, 4, 5] rfl (ww_sub [0, 1, 2, 3, 4, 5, 6] rfl rfl (ih_94 (w2 + 1) g_l3 (by omega) (LKr.up hlk3 (by omega)) (by omega)))
                        · have zc_17 : ((k2 : Nat) : Int) < 4 := i_nle rfl (nI_toInt (n := k2) (by omega)) c_17
                          refine ww_aload_n C dX12_layHeaps_112 3 rfl rfl ?_
                          refine ww_get C fg_X12_77 0 rfl rfl dX12_layHeaps_113 ?_
                          refine ww_iconst (v := 4) C dX12_layHeaps_116 rfl ?_
                          refine ww_iload C dX12_layHeaps_117 1 rfl ?_
                          refine ww_imul (v := (nI (4 * w2))) C dX12_layHeaps_119 (pk_mul 4 w2) ?_
                          refine ww_iload C dX12_layHeaps_120 0 rfl ?_
                          refine ww_iadd (v := (nI ((4 * w2) + k2))) C dX12_layHeaps_122 (nI_add (4 * w2) k2) ?_
                          refine ww_aload_n C dX12_layHeaps_123 3 rfl rfl ?_
                          refine ww_iload_n C dX12_layHeaps_124 4 rfl rfl ?_
                          refine ww_iload_n C dX12_layHeaps_125 5 rfl rfl ?_
                          refine ww_iload C dX12_layHeaps_126 0 rfl ?_
                          refine ww_iload C dX12_layHeaps_128 1 rfl ?_
                          refine ww_aload_n C dX12_layHeaps_130 3 rfl rfl ?_
                          refine ww_get C fg_X12_288 0 rfl rfl dX12_layHeaps_131 ?_
                          refine ww_cl (wr := [(m_led, .inl (E.2.1 2, 192, .inr (.inl g_l3)))]) (k' := 0) (n' := 0) C (run_V (As := [.int 0, .int (-4), .int (nI k2), .int (nI w2), .int (nI rr)]) (rest := [.int (nI ((4 * w2) + k2)), .ref m_led]) C (r_ledToN X.2.1 E ro hm k2 w2 rr m_manys m_reals m_factsOf m_possible q_undos q_models m_tape q_taped q_fault q_wrong q_wrongAt q_spot q_place q_token q_value m_ends m_letters m_actOf m_whom m_actMany m_tokens m_afters m_afterOf q_counted m_pile m_caseMany m_happen m_hasIf m_becomes m_goneOf m_heard m_pairs m_heaps (nI rr) (nI (cN f_manys 0)) m_led m_newAt m_knowing m_firsts q_people m_secrets m_tried m_lanes m_lengths m_cells f_manys f_reals f_factsOf f_possible g_h hb_manys hb_reals hpg hwf (by omega) (by omega) (by omega) (hra rr (Nat.le_refl _))) mi_X12_ledTo wl_X12_291 rfl 0 12 rfl rfl rfl rfl rfl dX12_layHeaps_134) (roK hro) [0, 1, 2, 3, 4, 5] [6] rfl rfl rfl rfl (fun r_18 uz hw => ?_)
                          refine an1 hw ?_
                          clear hw
                          intro he_20 hw
                          have h_19 := hw
                          clear hw
                          subst he_20
                          refine ww_eq (ws' := [(m_led, .inl (E.2.1 2, 192, .inr (.inl g_l3))), (hm, .inr (12, [.ref m_manys, .ref m_reals, .ref m_factsOf, .ref m_possible, .int (nI q_undos), .int (nI q_models), .ref m_tape, .int (nI q_taped), .int q_fault, .int q_wrong, .int q_wrongAt, .int q_spot, .int q_place, .int q_token, .int q_value, .ref m_ends, .ref m_letters, .ref m_actOf, .ref m_whom, .ref m_actMany, .ref m_tokens, .ref m_afters, .ref m_afterOf, .int q_counted, .ref m_pile, .ref m_caseMany, .ref m_happen, .ref m_hasIf, .ref m_becomes, .ref m_goneOf, .ref m_heard, .ref m_pairs, .ref m_heaps, .int (nI rr), .int (nI (cN f_manys 0)), .ref m_led, .ref m_newAt, .ref m_knowing, .ref m_firsts, .int (nI q_people), .ref m_secrets, .ref m_tried, .ref m_lanes, .ref m_lengths, .ref m_cells])), (m_manys, .inl (E.2.1 1, 18, .inl f_manys)), (m_reals, .inl (E.2.1 1, 18, .inl f_reals)), (m_factsOf, .inl (E.2.1 1, 432, .inl f_factsOf)), (m_possible, .inl (E.2.1 1, 1728, .inl f_possible)), (m_heaps, .inl (E.2.1 1, 2400, .inl g_h))]) ?_ rfl rfl rfl
                          obtain ⟨f_21, ef_21⟩ : ∃ z : Nat → Int64, vp_updL g_l3 ((4 * w2) + k2) r_18 = z := ⟨_, rfl⟩
                          refine ww_last (ws' := [(m_led, .inl (E.2.1 2, 192, .inr (.inl f_21))), (hm, .inr (12, [.ref m_manys, .ref m_reals, .ref m_factsOf, .ref m_possible, .int (nI q_undos), .int (nI q_models), .ref m_tape, .int (nI q_taped), .int q_fault, .int q_wrong, .int q_wrongAt, .int q_spot, .int q_place, .int q_token, .int q_value, .ref m_ends, .ref m_letters, .ref m_actOf, .ref m_whom, .ref m_actMany, .ref m_tokens, .ref m_afters, .ref m_afterOf, .int q_counted, .ref m_pile, .ref m_caseMany, .ref m_happen, .ref m_hasIf, .ref m_becomes, .ref m_goneOf, .ref m_heard, .ref m_pairs, .ref m_heaps, .int (nI rr), .int (nI (cN f_manys 0)), .ref m_led, .ref m_newAt, .ref m_knowing, .ref m_firsts, .int (nI q_people), .ref m_secrets, .ref m_tried, .ref m_lanes, .ref m_lengths, .ref m_cells])), (m_manys, .inl (E.2.1 1, 18, .inl f_manys)), (m_reals, .inl (E.2.1 1, 18, .inl f_reals)), (m_factsOf, .inl (E.2.1 1, 432, .inl f_factsOf)), (m_possible, .inl (E.2.1 1, 1728, .inl f_possible)), (m_heaps, .inl (E.2.1 1, 2400, .inl g_h))]) C 0 rfl (vp_in_nI (by omega) (by omega)) (ldn2 (by omega) ef_21) rfl dX12_layHeaps_137 ?_
                          refine ww_iinc (j := 0) (v := (nI (k2 + 1))) (lv' := [(5, .int (nI (k2 + 1))), (4, .int (nI w2)), (3, .int 0), (0, .ref hm), (1, .int 0), (2, .int (-4))]) C dX12_layHeaps_138 rfl (nI_add k2 1) rfl rfl ?_
                          refine ww_goto (tgt := 106) C dX12_layHeaps_141 (by decide) ?_
                          exact ww_lv [0, 1, 2, 3, 4, 5] rfl (ww_sub [1, 2, 3, 4, 5, 6, 0] rfl rfl (ih_106 (k2 + 1) f_21 (by omega) (LKr.ext hlk3 (by omega) h_19 ef_21) (by omega)))
                    exact ww_lv [0, 1, 2, 3, 4, 5] rfl (ww_sub [0, 1, 2, 3, 4, 5, 6] rfl rfl (loop_106 _ 0 g_l2 (by omega) hlk (Nat.lt_succ_self _)))
              exact ww_lv [0, 1, 2, 3, 4] rfl (ww_sub [0, 1, 2, 3, 4, 5, 6] rfl rfl (loop_94 _ 0 g_l (by omega) LKr.nil (Nat.lt_succ_self _)))
        exact ww_lv [0, 1, 2, 3] rfl (ww_sub [0, 1, 2, 3, 4, 5, 6] rfl rfl (loop_85 _ 0 1 g1 f_led (by omega) (RKA.z (hb_rk fx_1 (by have h7 : w1 = cN f_manys 0 := (by omega); rw [h7] at hbx; exact hbx))) (fun h9 => absurd h9 (by decide)) (fun _ => Nat.zero_le _) (by omega) (by rw [rowH_0]; have h7 : w1 = cN f_manys 0 := (by omega); rw [← h7]; exact HBx.LI hbx (by omega)) (Nat.lt_succ_self _)))
      · have zc_2 : ((w1 : Nat) : Int) < ((cN f_manys 0 : Nat) : Int) := i_nle (nI_toInt (n := cN f_manys 0) (by omega)) (nI_toInt (n := w1) (by omega)) c_2
        refine ww_iconst (v := 0) C dX12_layHeaps_37 rfl ?_
        refine ww_istore (lv' := [(4, .int 0), (3, .int (nI w1)), (0, .ref hm), (1, .int 0), (2, .int (-4))]) C dX12_layHeaps_38 rfl rfl ?_
        have loop_40 : ∀ (fu : Nat) (v1 : Nat), (v1 ≤ w1) → (∀ u, u < v1 → (fxN f_factsOf) u ≠ (fxN f_factsOf) w1) → w1 - v1 + 1 < fu → WW X 6 E 40 [(4, .int (nI v1)), (3, .int (nI w1)), (0, .ref hm), (1, .int 0), (2, .int (-4))] [] [(hm, .inr (12, [.ref m_manys, .ref m_reals, .ref m_factsOf, .ref m_possible, .int (nI q_undos), .int (nI q_models), .ref m_tape, .int (nI q_taped), .int q_fault, .int q_wrong, .int q_wrongAt, .int q_spot, .int q_place, .int q_token, .int q_value, .ref m_ends, .ref m_letters, .ref m_actOf, .ref m_whom, .ref m_actMany, .ref m_tokens, .ref m_afters, .ref m_afterOf, .int q_counted, .ref m_pile, .ref m_caseMany, .ref m_happen, .ref m_hasIf, .ref m_becomes, .ref m_goneOf, .ref m_heard, .ref m_pairs, .ref m_heaps, .int q_rounds, .int (nI (cN f_manys 0)), .ref m_led, .ref m_newAt, .ref m_knowing, .ref m_firsts, .int (nI q_people), .ref m_secrets, .ref m_tried, .ref m_lanes, .ref m_lengths, .ref m_cells])), (m_manys, .inl (E.2.1 1, 18, .inl f_manys)), (m_reals, .inl (E.2.1 1, 18, .inl f_reals)), (m_factsOf, .inl (E.2.1 1, 432, .inl f_factsOf)), (m_possible, .inl (E.2.1 1, 1728, .inl f_possible)), (m_heaps, .inl (E.2.1 1, 2400, .inl g1)), (m_led, .inl (E.2.1 2, 192, .inr (.inl f_led)))] 0 0 := by
          intro fu
          induction fu with
          | zero => intro v1 hv1 hvv hmeas; exact absurd hmeas (Nat.not_lt_zero _)
          | succ fu ih_40 =>
            intro v1 hv1 hvv hmeas
            refine ww_aload_n C dX12_layHeaps_40 2 rfl rfl ?_
            refine ww_iload_n C dX12_layHeaps_41 3 rfl rfl ?_
            refine ww_iload_n C dX12_layHeaps_42 4 rfl rfl ?_
            refine ww_iload C dX12_layHeaps_43 0 rfl ?_
            refine ww_ci (wr := [(m_reals, .inl (E.2.1 1, 18, .inl f_reals)), (m_possible, .inl (E.2.1 1, 1728, .inl f_possible)), (m_heaps, .inl (E.2.1 1, 2400, .inl g1)), (m_led, .inl (E.2.1 2, 192, .inr (.inl f_led)))]) (k' := 0) (n' := 0) C (run_V (As := [.int 0, .int (-4), .int (nI v1)]) (rest := []) C (r_factsInN X.2.1 E ro hm v1 m_manys m_reals m_factsOf m_possible q_undos q_models m_tape q_taped q_fault q_wrong q_wrongAt q_spot q_place q_token q_value m_ends m_letters m_actOf m_whom m_actMany m_tokens m_afters m_afterOf q_counted m_pile m_caseMany m_happen m_hasIf m_becomes m_goneOf m_heard m_pairs m_heaps q_rounds (nI (cN f_manys 0)) m_led m_newAt m_knowing m_firsts q_people m_secrets m_tried m_lanes m_lengths m_cells f_manys f_factsOf hb_manys (by omega)) mi_X12_factsIn wl_X12_285 rfl 0 12 rfl rfl rfl rfl rfl dX12_layHeaps_45) (roK hro) [0, 1, 3] [2, 4, 5, 6] rfl rfl rfl rfl (fun r_22 uz hw => ?_)
            refine an1 hw ?_
            clear hw
            intro he_23 hw
            have he_24 := hw
            clear hw
            have he_23 := he_23.symm
            subst he_23
            subst he_24
            refine ww_eq (ws' := [(m_reals, .inl (E.2.1 1, 18, .inl f_reals)), (m_possible, .inl (E.2.1 1, 1728, .inl f_possible)), (m_heaps, .inl (E.2.1 1, 2400, .inl g1)), (m_led, .inl (E.2.1 2, 192, .inr (.inl f_led))), (hm, .inr (12, [.ref m_manys, .ref m_reals, .ref m_factsOf, .ref m_possible, .int (nI q_undos), .int (nI q_models), .ref m_tape, .int (nI q_taped), .int q_fault, .int q_wrong, .int q_wrongAt, .int q_spot, .int q_place, .int q_token, .int q_value, .ref m_ends, .ref m_letters, .ref m_actOf, .ref m_whom, .ref m_actMany, .ref m_tokens, .ref m_afters, .ref m_afterOf, .int q_counted, .ref m_pile, .ref m_caseMany, .ref m_happen, .ref m_hasIf, .ref m_becomes, .ref m_goneOf, .ref m_heard, .ref m_pairs, .ref m_heaps, .int q_rounds, .int (nI (cN f_manys 0)), .ref m_led, .ref m_newAt, .ref m_knowing, .ref m_firsts, .int (nI q_people), .ref m_secrets, .ref m_tried, .ref m_lanes, .ref m_lengths, .ref m_cells])), (m_manys, .inl (E.2.1 1, 18, .inl f_manys)), (m_factsOf, .inl (E.2.1 1, 432, .inl f_factsOf))]) ?_ rfl rfl rfl
            refine ww_aload_n C dX12_layHeaps_48 2 rfl rfl ?_
            refine ww_iload_n C dX12_layHeaps_49 3 rfl rfl ?_
            refine ww_iload_n C dX12_layHeaps_50 4 rfl rfl ?_
            refine ww_iload_n C dX12_layHeaps_51 1 rfl rfl ?_
            refine ww_ci (wr := [(m_reals, .inl (E.2.1 1, 18, .inl f_reals)), (m_possible, .inl (E.2.1 1, 1728, .inl f_possible)), (m_heaps, .inl (E.2.1 1, 2400, .inl g1)), (m_led, .inl (E.2.1 2, 192, .inr (.inl f_led)))]) (k' := 0) (n' := 0) C (run_V (As := [.int 0, .int (-4), .int (nI w1)]) (rest := [.int (fxN f_factsOf v1)]) C (r_factsInN X.2.1 E ro hm w1 m_manys m_reals m_factsOf m_possible q_undos q_models m_tape q_taped q_fault q_wrong q_wrongAt q_spot q_place q_token q_value m_ends m_letters m_actOf m_whom m_actMany m_tokens m_afters m_afterOf q_counted m_pile m_caseMany m_happen m_hasIf m_becomes m_goneOf m_heard m_pairs m_heaps q_rounds (nI (cN f_manys 0)) m_led m_newAt m_knowing m_firsts q_people m_secrets m_tried m_lanes m_lengths m_cells f_manys f_factsOf hb_manys (by omega)) mi_X12_factsIn wl_X12_285 rfl 0 12 rfl rfl rfl rfl rfl dX12_layHeaps_52) (roK hro) [4, 5, 6] [0, 1, 2, 3] rfl rfl rfl rfl (fun r_25 uz hw => ?_)
            refine an1 hw ?_
            clear hw
            intro he_26 hw
            have he_27 := hw
            clear hw
            have he_26 := he_26.symm
            subst he_26
            subst he_27
            refine ww_eq (ws' := [(m_reals, .inl (E.2.1 1, 18, .inl f_reals)), (m_possible, .inl (E.2.1 1, 1728, .inl f_possible)), (m_heaps, .inl (E.2.1 1, 2400, .inl g1)), (m_led, .inl (E.2.1 2, 192, .inr (.inl f_led))), (hm, .inr (12, [.ref m_manys, .ref m_reals, .ref m_factsOf, .ref m_possible, .int (nI q_undos), .int (nI q_models), .ref m_tape, .int (nI q_taped), .int q_fault, .int q_wrong, .int q_wrongAt, .int q_spot, .int q_place, .int q_token, .int q_value, .ref m_ends, .ref m_letters, .ref m_actOf, .ref m_whom, .ref m_actMany, .ref m_tokens, .ref m_afters, .ref m_afterOf, .int q_counted, .ref m_pile, .ref m_caseMany, .ref m_happen, .ref m_hasIf, .ref m_becomes, .ref m_goneOf, .ref m_heard, .ref m_pairs, .ref m_heaps, .int q_rounds, .int (nI (cN f_manys 0)), .ref m_led, .ref m_newAt, .ref m_knowing, .ref m_firsts, .int (nI q_people), .ref m_secrets, .ref m_tried, .ref m_lanes, .ref m_lengths, .ref m_cells])), (m_manys, .inl (E.2.1 1, 18, .inl f_manys)), (m_factsOf, .inl (E.2.1 1, 432, .inl f_factsOf))]) ?_ rfl rfl rfl
            refine ww_icmp_eq (tgt := 64) C dX12_layHeaps_55 (by decide) (fun c_28 => ?_) (fun c_28 => ?_)
            · have zc_28 : (fxN f_factsOf v1).toInt = (fxN f_factsOf w1).toInt := i_eq rfl rfl c_28
              refine ww_aload_n C dX12_layHeaps_64 2 rfl rfl ?_
              refine ww_get C fg_X12_74 4 rfl rfl dX12_layHeaps_65 ?_
              refine ww_iload_n C dX12_layHeaps_68 1 rfl rfl ?_
              refine ww_iload C dX12_layHeaps_69 0 rfl ?_
              obtain ⟨f_29, ef_29⟩ : ∃ z : Nat → Int32, upd g1 w1 (nI v1) = z := ⟨_, rfl⟩
              refine ww_iast (ws' := [(m_reals, .inl (E.2.1 1, 18, .inl f_reals)), (m_possible, .inl (E.2.1 1, 1728, .inl f_possible)), (m_heaps, .inl (E.2.1 1, 2400, .inl f_29)), (m_led, .inl (E.2.1 2, 192, .inr (.inl f_led))), (hm, .inr (12, [.ref m_manys, .ref m_reals, .ref m_factsOf, .ref m_possible, .int (nI q_undos), .int (nI q_models), .ref m_tape, .int (nI q_taped), .int q_fault, .int q_wrong, .int q_wrongAt, .int q_spot, .int q_place, .int q_token, .int q_value, .ref m_ends, .ref m_letters, .ref m_actOf, .ref m_whom, .ref m_actMany, .ref m_tokens, .ref m_afters, .ref m_afterOf, .int q_counted, .ref m_pile, .ref m_caseMany, .ref m_happen, .ref m_hasIf, .ref m_becomes, .ref m_goneOf, .ref m_heard, .ref m_pairs, .ref m_heaps, .int q_rounds, .int (nI (cN f_manys 0)), .ref m_led, .ref m_newAt, .ref m_knowing, .ref m_firsts, .int (nI q_people), .ref m_secrets, .ref m_tried, .ref m_lanes, .ref m_lengths, .ref m_cells])), (m_manys, .inl (E.2.1 1, 18, .inl f_manys)), (m_factsOf, .inl (E.2.1 1, 432, .inl f_factsOf))]) C 2 rfl (vp_in_nI (by omega) (by omega)) (ldn2 (by omega) ef_29) rfl dX12_layHeaps_71 ?_
              refine ww_iinc (j := 1) (v := (nI (w1 + 1))) (lv' := [(3, .int (nI (w1 + 1))), (4, .int (nI v1)), (0, .ref hm), (1, .int 0), (2, .int (-4))]) C dX12_layHeaps_72 rfl (nI_add w1 1) rfl rfl ?_
              refine ww_goto (tgt := 29) C dX12_layHeaps_75 (by decide) ?_
              exact ww_lv [0, 2, 3, 4] rfl (ww_sub [4, 5, 0, 6, 1, 2, 3] rfl rfl (ih_29 (w1 + 1) f_29 (by omega) (HBx.ext hbx hv1 hvv (Int32.toInt_inj.mp (by assumption)) ef_29) (by omega)))
            · have zc_28 : (fxN f_factsOf v1).toInt ≠ (fxN f_factsOf w1).toInt := i_ne rfl rfl c_28
              refine ww_iinc (j := 0) (v := (nI (v1 + 1))) (lv' := [(4, .int (nI (v1 + 1))), (3, .int (nI w1)), (0, .ref hm), (1, .int 0), (2, .int (-4))]) C dX12_layHeaps_58 rfl (nI_add v1 1) rfl rfl ?_
              refine ww_goto (tgt := 40) C dX12_layHeaps_61 (by decide) ?_
              exact ww_lv [0, 1, 2, 3, 4] rfl (ww_sub [4, 5, 0, 6, 1, 2, 3] rfl rfl (ih_40 (v1 + 1) (Nat.lt_of_le_of_ne hv1 (fun h9 => by subst h9; omega)) (fun u hu => if hk : u = v1 then (by rw [hk]; exact fun h9 => absurd (congrArg Int32.toInt h9) (by assumption)) else hvv u (by omega)) (by have h8 : v1 < w1 := Nat.lt_of_le_of_ne hv1 (fun h9 => by subst h9; omega); omega)))
        exact ww_lv [0, 1, 2, 3, 4] rfl (ww_sub [0, 1, 2, 3, 4, 5, 6] rfl rfl (loop_40 _ 0 (by omega) (fun u h => absurd h (Nat.not_lt_zero _)) (Nat.lt_succ_self _)))
  exact ww_lv [0, 1, 2, 3] rfl (ww_sub [0, 1, 2, 3, 4, 5, 6] rfl rfl (loop_29 _ 0 f_heaps (by omega) HBx.zero (Nat.lt_succ_self _)))
end
section
theorem dX12_factsIn_24 : decode cX12_factsIn 24 = .ok (.aload_n 0, 1) := dl_42 (by decide +kernel)
theorem dX12_factsIn_25 : decode cX12_factsIn 25 = .ok (.getfield 16, 3) := dl_180 (by decide +kernel)
theorem dX12_factsIn_28 : decode cX12_factsIn 28 = .ok (.bipush 24, 2) := dl_16 (by decide +kernel)
theorem dX12_factsIn_30 : decode cX12_factsIn 30 = .ok (.iload_n 2, 1) := dl_28 (by decide +kernel)
theorem dX12_factsIn_31 : decode cX12_factsIn 31 = .ok (.imul, 1) := dl_104 (by decide +kernel)
theorem dX12_factsIn_32 : decode cX12_factsIn 32 = .ok (.iload_n 3, 1) := dl_29 (by decide +kernel)
theorem dX12_factsIn_33 : decode cX12_factsIn 33 = .ok (.iadd, 1) := dl_96 (by decide +kernel)
theorem dX12_factsIn_34 : decode cX12_factsIn 34 = .ok (.aload_n 0, 1) := dl_42 (by decide +kernel)
theorem dX12_factsIn_35 : decode cX12_factsIn 35 = .ok (.getfield 7, 3) := dl_180 (by decide +kernel)
theorem dX12_factsIn_38 : decode cX12_factsIn 38 = .ok (.iload_n 1, 1) := dl_27 (by decide +kernel)
theorem dX12_factsIn_39 : decode cX12_factsIn 39 = .ok (.iaload, 1) := dl_46 (by decide +kernel)
theorem dX12_factsIn_40 : decode cX12_factsIn 40 = .ok (.isub, 1) := dl_100 (by decide +kernel)
theorem dX12_factsIn_41 : decode cX12_factsIn 41 = .ok (.iaload, 1) := dl_46 (by decide +kernel)
set_option maxRecDepth 100000 in
set_option maxHeartbeats 4000000 in
theorem r_factsInM (l : Launch) (E : EV) (ro : va_W) (hm : Nat) (b : Nat) (w : Nat) (m_manys : Nat) (m_reals : Nat) (m_factsOf : Nat) (m_possible : Nat) (q_undos : Nat) (q_models : Nat) (m_tape : Nat) (q_taped : Nat) (q_fault : Int32) (q_wrong : Int32) (q_wrongAt : Int32) (q_spot : Int32) (q_place : Int32) (q_token : Int32) (q_value : Int32) (m_ends : Nat) (m_letters : Nat) (m_actOf : Nat) (m_whom : Nat) (m_actMany : Nat) (m_tokens : Nat) (m_afters : Nat) (m_afterOf : Nat) (q_counted : Int32) (m_pile : Nat) (m_caseMany : Nat) (m_happen : Nat) (m_hasIf : Nat) (m_becomes : Nat) (m_goneOf : Nat) (m_heard : Nat) (m_pairs : Nat) (m_heaps : Nat) (q_rounds : Int32) (q_heapMany : Int32) (m_led : Nat) (m_newAt : Nat) (m_knowing : Nat) (m_firsts : Nat) (q_people : Nat) (m_secrets : Nat) (m_tried : Nat) (m_lanes : Nat) (m_lengths : Nat) (m_cells : Nat) (f_manys : Nat → Int32) (f_factsOf : Nat → Int32) (hb_manys : NB 18 24 f_manys) (hb : 6 ≤ b ∧ b < 18) (hw : w < (cN f_manys 0 + cN f_manys b)) : CT l yX12_factsIn (Cond.code yX12_factsIn cX12_factsIn 4 (some .int) :: TB) ({ frames := 0, cells := 0, slots := 0, locals := 0 }) E ro [.ref hm, .int 0, .int (nI b), .int (nI w)] [(hm, .inr (12, [.ref m_manys, .ref m_reals, .ref m_factsOf, .ref m_possible, .int (nI q_undos), .int (nI q_models), .ref m_tape, .int (nI q_taped), .int q_fault, .int q_wrong, .int q_wrongAt, .int q_spot, .int q_place, .int q_token, .int q_value, .ref m_ends, .ref m_letters, .ref m_actOf, .ref m_whom, .ref m_actMany, .ref m_tokens, .ref m_afters, .ref m_afterOf, .int q_counted, .ref m_pile, .ref m_caseMany, .ref m_happen, .ref m_hasIf, .ref m_becomes, .ref m_goneOf, .ref m_heard, .ref m_pairs, .ref m_heaps, .int q_rounds, .int q_heapMany, .ref m_led, .ref m_newAt, .ref m_knowing, .ref m_firsts, .int (nI q_people), .ref m_secrets, .ref m_tried, .ref m_lanes, .ref m_lengths, .ref m_cells])), (m_manys, .inl (E.2.1 1, 18, .inl f_manys)), (m_factsOf, .inl (E.2.1 1, 432, .inl f_factsOf))] (Qi E (fun (rz : Int32) uz => (rz = (fxR (cN f_manys 0) f_factsOf b w) ∧ uz = [(hm, .inr (12, [.ref m_manys, .ref m_reals, .ref m_factsOf, .ref m_possible, .int (nI q_undos), .int (nI q_models), .ref m_tape, .int (nI q_taped), .int q_fault, .int q_wrong, .int q_wrongAt, .int q_spot, .int q_place, .int q_token, .int q_value, .ref m_ends, .ref m_letters, .ref m_actOf, .ref m_whom, .ref m_actMany, .ref m_tokens, .ref m_afters, .ref m_afterOf, .int q_counted, .ref m_pile, .ref m_caseMany, .ref m_happen, .ref m_hasIf, .ref m_becomes, .ref m_goneOf, .ref m_heard, .ref m_pairs, .ref m_heaps, .int q_rounds, .int q_heapMany, .ref m_led, .ref m_newAt, .ref m_knowing, .ref m_firsts, .int (nI q_people), .ref m_secrets, .ref m_tried, .ref m_lanes, .ref m_lengths, .ref m_cells])), (m_manys, .inl (E.2.1 1, 18, .inl f_manys)), (m_factsOf, .inl (E.2.1 1, 432, .inl f_factsOf))]))) 0 0 := by
  refine ct_of rfl rfl ?_
  intro X C hT hin hro
  show WW X 4 E 0 [(0, .ref hm), (1, .int 0), (2, .int (nI b)), (3, .int (nI w))] [] [(hm, .inr (12, [.ref m_manys, .ref m_reals, .ref m_factsOf, .ref m_possible, .int (nI q_undos), .int (nI q_models), .ref m_tape, .int (nI q_taped), .int q_fault, .int q_wrong, .int q_wrongAt, .int q_spot, .int q_place, .int q_token, .int q_value, .ref m_ends, .ref m_letters, .ref m_actOf, .ref m_whom, .ref m_actMany, .ref m_tokens, .ref m_afters, .ref m_afterOf, .int q_counted, .ref m_pile, .ref m_caseMany, .ref m_happen, .ref m_hasIf, .ref m_becomes, .ref m_goneOf, .ref m_heard, .ref m_pairs, .ref m_heaps, .int q_rounds, .int q_heapMany, .ref m_led, .ref m_newAt, .ref m_knowing, .ref m_firsts, .int (nI q_people), .ref m_secrets, .ref m_tried, .ref m_lanes, .ref m_lengths, .ref m_cells])), (m_manys, .inl (E.2.1 1, 18, .inl f_manys)), (m_factsOf, .inl (E.2.1 1, 432, .inl f_factsOf))] 0 0
  have hmn0 := (hb_manys 0 (by omega)).2
  have hmnb := (hb_manys b (by omega)).2
  refine ww_iload_n C dX12_factsIn_0 3 rfl rfl ?_
  refine ww_aload_n C dX12_factsIn_1 0 rfl rfl ?_
  refine ww_get C fg_X12_7 0 rfl rfl dX12_factsIn_2 ?_
  refine ww_iload_n C dX12_factsIn_5 1 rfl rfl ?_
  have hbx_1 := (hb_manys 0 (by omega)).2
  refine ww_iald (v := (nI (cN f_manys 0))) C 1 rfl (vin rfl) (hb_manys 0 (by omega)).1 dX12_factsIn_6 ?_
  refine ww_icmp_ge (tgt := 24) C dX12_factsIn_7 (by decide) (fun c_2 => ?_) (fun c_2 => ?_)
  · have zc_2 : ((w : Nat) : Int) ≥ ((cN f_manys 0 : Nat) : Int) := i_le (nI_toInt (n := cN f_manys 0) (by omega)) (nI_toInt (n := w) (by omega)) c_2
    refine ww_aload_n C dX12_factsIn_24 0 rfl rfl ?_
    refine ww_get C fg_X12_16 0 rfl rfl dX12_factsIn_25 ?_
    refine ww_bipush (v := 24) C dX12_factsIn_28 rfl ?_
    refine ww_iload_n C dX12_factsIn_30 2 rfl rfl ?_
    refine ww_imul (v := (nI (24 * b))) C dX12_factsIn_31 (pk_mul 24 b) ?_
    refine ww_iload_n C dX12_factsIn_32 3 rfl rfl ?_
    refine ww_iadd (v := (nI ((24 * b) + w))) C dX12_factsIn_33 (nI_add (24 * b) w) ?_
    refine ww_aload_n C dX12_factsIn_34 0 rfl rfl ?_
    refine ww_get C fg_X12_7 0 rfl rfl dX12_factsIn_35 ?_
    refine ww_iload_n C dX12_factsIn_38 1 rfl rfl ?_
    have hbx_3 := (hb_manys 0 (by omega)).2
    refine ww_iald (v := (nI (cN f_manys 0))) C 1 rfl (vin rfl) (hb_manys 0 (by omega)).1 dX12_factsIn_39 ?_
    refine ww_isub (v := (nI (((24 * b) + w) - (cN f_manys 0)))) C dX12_factsIn_40 (pk_sub (a := ((24 * b) + w)) (b := (cN f_manys 0)) (by omega)) ?_
    obtain ⟨x_4, ex_4⟩ : ∃ z : Int32, f_factsOf (((24 * b) + w) - (cN f_manys 0)) = z := ⟨_, rfl⟩
    refine ww_iald (v := x_4) C 2 rfl (vp_in_nI (by omega) (by omega)) (ldn (by omega) ex_4) dX12_factsIn_41 ?_
    exact ww_iret (u := [(hm, .inr (12, [.ref m_manys, .ref m_reals, .ref m_factsOf, .ref m_possible, .int (nI q_undos), .int (nI q_models), .ref m_tape, .int (nI q_taped), .int q_fault, .int q_wrong, .int q_wrongAt, .int q_spot, .int q_place, .int q_token, .int q_value, .ref m_ends, .ref m_letters, .ref m_actOf, .ref m_whom, .ref m_actMany, .ref m_tokens, .ref m_afters, .ref m_afterOf, .int q_counted, .ref m_pile, .ref m_caseMany, .ref m_happen, .ref m_hasIf, .ref m_becomes, .ref m_goneOf, .ref m_heard, .ref m_pairs, .ref m_heaps, .int q_rounds, .int q_heapMany, .ref m_led, .ref m_newAt, .ref m_knowing, .ref m_firsts, .int (nI q_people), .ref m_secrets, .ref m_tried, .ref m_lanes, .ref m_lengths, .ref m_cells])), (m_manys, .inl (E.2.1 1, 18, .inl f_manys)), (m_factsOf, .inl (E.2.1 1, 432, .inl f_factsOf))]) C hT [0, 1, 2] rfl rfl rfl rfl dX12_factsIn_42 (⟨(by subst_vars; first | rfl | exact fxR_l (by omega) | exact fxR_r (by omega)), rfl⟩)
  · have zc_2 : ((w : Nat) : Int) < ((cN f_manys 0 : Nat) : Int) := i_nle (nI_toInt (n := cN f_manys 0) (by omega)) (nI_toInt (n := w) (by omega)) c_2
    refine ww_aload_n C dX12_factsIn_10 0 rfl rfl ?_
    refine ww_get C fg_X12_16 0 rfl rfl dX12_factsIn_11 ?_
    refine ww_bipush (v := 24) C dX12_factsIn_14 rfl ?_
    refine ww_iload_n C dX12_factsIn_16 1 rfl rfl ?_
    refine ww_imul (v := 0) C dX12_factsIn_17 (by decide) ?_
    refine ww_iload_n C dX12_factsIn_18 3 rfl rfl ?_
    refine ww_iadd (v := (nI (0 + w))) C dX12_factsIn_19 (nI_add 0 w) ?_
    obtain ⟨x_5, ex_5⟩ : ∃ z : Int32, f_factsOf (0 + w) = z := ⟨_, rfl⟩
    refine ww_iald (v := x_5) C 2 rfl (vp_in_nI (by omega) (by omega)) (ldn (by omega) ex_5) dX12_factsIn_20 ?_
    refine ww_goto (tgt := 42) C dX12_factsIn_21 (by decide) ?_
    exact ww_iret (u := [(hm, .inr (12, [.ref m_manys, .ref m_reals, .ref m_factsOf, .ref m_possible, .int (nI q_undos), .int (nI q_models), .ref m_tape, .int (nI q_taped), .int q_fault, .int q_wrong, .int q_wrongAt, .int q_spot, .int q_place, .int q_token, .int q_value, .ref m_ends, .ref m_letters, .ref m_actOf, .ref m_whom, .ref m_actMany, .ref m_tokens, .ref m_afters, .ref m_afterOf, .int q_counted, .ref m_pile, .ref m_caseMany, .ref m_happen, .ref m_hasIf, .ref m_becomes, .ref m_goneOf, .ref m_heard, .ref m_pairs, .ref m_heaps, .int q_rounds, .int q_heapMany, .ref m_led, .ref m_newAt, .ref m_knowing, .ref m_firsts, .int (nI q_people), .ref m_secrets, .ref m_tried, .ref m_lanes, .ref m_lengths, .ref m_cells])), (m_manys, .inl (E.2.1 1, 18, .inl f_manys)), (m_factsOf, .inl (E.2.1 1, 432, .inl f_factsOf))]) C hT [0, 1, 2] rfl rfl rfl rfl dX12_factsIn_42 (⟨(by subst_vars; first | rfl | exact fxR_l (by omega) | exact fxR_r (by omega)), rfl⟩)
theorem dX12_ledTo_15 : decode cX12_ledTo 15 = .ok (.aload_n 0, 1) := dl_42 (by decide +kernel)
theorem dX12_ledTo_16 : decode cX12_ledTo 16 = .ok (.getfield 7, 3) := dl_180 (by decide +kernel)
theorem dX12_ledTo_19 : decode cX12_ledTo 19 = .ok (.iload_n 1, 1) := dl_27 (by decide +kernel)
theorem dX12_ledTo_20 : decode cX12_ledTo 20 = .ok (.iaload, 1) := dl_46 (by decide +kernel)
theorem dX12_ledTo_45 : decode cX12_ledTo 45 = .ok (.aload_n 0, 1) := dl_42 (by decide +kernel)
theorem dX12_ledTo_46 : decode cX12_ledTo 46 = .ok (.iload_n 2, 1) := dl_28 (by decide +kernel)
theorem dX12_ledTo_47 : decode cX12_ledTo 47 = .ok (.iload_n 3, 1) := dl_29 (by decide +kernel)
theorem dX12_ledTo_48 : decode cX12_ledTo 48 = .ok (.iload 4, 2) := dl_21 (by decide +kernel)
theorem dX12_ledTo_50 : decode cX12_ledTo 50 = .ok (.aload_n 0, 1) := dl_42 (by decide +kernel)
theorem dX12_ledTo_51 : decode cX12_ledTo 51 = .ok (.getfield 7, 3) := dl_180 (by decide +kernel)
theorem dX12_ledTo_54 : decode cX12_ledTo 54 = .ok (.iload_n 1, 1) := dl_27 (by decide +kernel)
theorem dX12_ledTo_55 : decode cX12_ledTo 55 = .ok (.iaload, 1) := dl_46 (by decide +kernel)
theorem dX12_ledTo_56 : decode cX12_ledTo 56 = .ok (.isub, 1) := dl_100 (by decide +kernel)
theorem dX12_ledTo_57 : decode cX12_ledTo 57 = .ok (.invokevirtual 135, 3) := dl_182 (by decide +kernel)
set_option maxRecDepth 100000 in
set_option maxHeartbeats 4000000 in
theorem r_ledToM (l : Launch) (E : EV) (ro : va_W) (hm : Nat) (b : Nat) (k : Nat) (w : Nat) (r : Nat) (m_manys : Nat) (m_reals : Nat) (m_factsOf : Nat) (m_possible : Nat) (q_undos : Nat) (q_models : Nat) (m_tape : Nat) (q_taped : Nat) (q_fault : Int32) (q_wrong : Int32) (q_wrongAt : Int32) (q_spot : Int32) (q_place : Int32) (q_token : Int32) (q_value : Int32) (m_ends : Nat) (m_letters : Nat) (m_actOf : Nat) (m_whom : Nat) (m_actMany : Nat) (m_tokens : Nat) (m_afters : Nat) (m_afterOf : Nat) (q_counted : Int32) (m_pile : Nat) (m_caseMany : Nat) (m_happen : Nat) (m_hasIf : Nat) (m_becomes : Nat) (m_goneOf : Nat) (m_heard : Nat) (m_pairs : Nat) (m_heaps : Nat) (q_rounds : Int32) (q_heapMany : Int32) (m_led : Nat) (m_newAt : Nat) (m_knowing : Nat) (m_firsts : Nat) (q_people : Nat) (m_secrets : Nat) (m_tried : Nat) (m_lanes : Nat) (m_lengths : Nat) (m_cells : Nat) (f_manys : Nat → Int32) (f_reals : Nat → Int32) (f_factsOf : Nat → Int32) (f_possible : Nat → Int32) (f_heaps : Nat → Int32) (hb_manys : NB 18 24 f_manys) (hb_reals : NB 18 23 f_reals) (hpg : PG f_manys f_reals) (hwf : WFP (pgs f_manys f_reals f_factsOf f_possible)) (hb : 6 ≤ b ∧ b < 18) (hk : k < 4) (hw : w < (cN f_manys 0 + cN f_manys b)) (hr : r ≤ 48) (hRK : RKx (cm2 (pgs f_manys f_reals f_factsOf f_possible 0) (pgs f_manys f_reals f_factsOf f_possible b)) (cm2 (pgs f_manys f_reals f_factsOf f_possible 0) (pgs f_manys f_reals f_factsOf f_possible b)).1 r (rowH f_heaps r)) : CT l yX12_ledTo (Cond.code yX12_ledTo cX12_ledTo 11 (some .long) :: TB) ({ frames := 1, cells := 0, slots := 0, locals := 23 }) E ro [.ref hm, .int 0, .int (nI b), .int (nI k), .int (nI w), .int (nI r)] [(hm, .inr (12, [.ref m_manys, .ref m_reals, .ref m_factsOf, .ref m_possible, .int (nI q_undos), .int (nI q_models), .ref m_tape, .int (nI q_taped), .int q_fault, .int q_wrong, .int q_wrongAt, .int q_spot, .int q_place, .int q_token, .int q_value, .ref m_ends, .ref m_letters, .ref m_actOf, .ref m_whom, .ref m_actMany, .ref m_tokens, .ref m_afters, .ref m_afterOf, .int q_counted, .ref m_pile, .ref m_caseMany, .ref m_happen, .ref m_hasIf, .ref m_becomes, .ref m_goneOf, .ref m_heard, .ref m_pairs, .ref m_heaps, .int q_rounds, .int q_heapMany, .ref m_led, .ref m_newAt, .ref m_knowing, .ref m_firsts, .int (nI q_people), .ref m_secrets, .ref m_tried, .ref m_lanes, .ref m_lengths, .ref m_cells])), (m_manys, .inl (E.2.1 1, 18, .inl f_manys)), (m_reals, .inl (E.2.1 1, 18, .inl f_reals)), (m_factsOf, .inl (E.2.1 1, 432, .inl f_factsOf)), (m_possible, .inl (E.2.1 1, 1728, .inl f_possible)), (m_heaps, .inl (E.2.1 1, 2400, .inl f_heaps))] (Ql E (fun (rz : Int64) uz => (uz = [(hm, .inr (12, [.ref m_manys, .ref m_reals, .ref m_factsOf, .ref m_possible, .int (nI q_undos), .int (nI q_models), .ref m_tape, .int (nI q_taped), .int q_fault, .int q_wrong, .int q_wrongAt, .int q_spot, .int q_place, .int q_token, .int q_value, .ref m_ends, .ref m_letters, .ref m_actOf, .ref m_whom, .ref m_actMany, .ref m_tokens, .ref m_afters, .ref m_afterOf, .int q_counted, .ref m_pile, .ref m_caseMany, .ref m_happen, .ref m_hasIf, .ref m_becomes, .ref m_goneOf, .ref m_heard, .ref m_pairs, .ref m_heaps, .int q_rounds, .int q_heapMany, .ref m_led, .ref m_newAt, .ref m_knowing, .ref m_firsts, .int (nI q_people), .ref m_secrets, .ref m_tried, .ref m_lanes, .ref m_lengths, .ref m_cells])), (m_manys, .inl (E.2.1 1, 18, .inl f_manys)), (m_reals, .inl (E.2.1 1, 18, .inl f_reals)), (m_factsOf, .inl (E.2.1 1, 432, .inl f_factsOf)), (m_possible, .inl (E.2.1 1, 1728, .inl f_possible)), (m_heaps, .inl (E.2.1 1, 2400, .inl f_heaps))] ∧ (LSx rz (HSt (cm2 (pgs f_manys f_reals f_factsOf f_possible 0) (pgs f_manys f_reals f_factsOf f_possible b)) (rk (cm2 (pgs f_manys f_reals f_factsOf f_possible 0) (pgs f_manys f_reals f_factsOf f_possible b)) r) k w))))) 0 0 := by
  refine ct_of rfl rfl ?_
  intro X C hT hin hro
  show WW X 11 E 0 [(0, .ref hm), (1, .int 0), (2, .int (nI b)), (3, .int (nI k)), (4, .int (nI w)), (5, .int (nI r))] [] [(hm, .inr (12, [.ref m_manys, .ref m_reals, .ref m_factsOf, .ref m_possible, .int (nI q_undos), .int (nI q_models), .ref m_tape, .int (nI q_taped), .int q_fault, .int q_wrong, .int q_wrongAt, .int q_spot, .int q_place, .int q_token, .int q_value, .ref m_ends, .ref m_letters, .ref m_actOf, .ref m_whom, .ref m_actMany, .ref m_tokens, .ref m_afters, .ref m_afterOf, .int q_counted, .ref m_pile, .ref m_caseMany, .ref m_happen, .ref m_hasIf, .ref m_becomes, .ref m_goneOf, .ref m_heard, .ref m_pairs, .ref m_heaps, .int q_rounds, .int q_heapMany, .ref m_led, .ref m_newAt, .ref m_knowing, .ref m_firsts, .int (nI q_people), .ref m_secrets, .ref m_tried, .ref m_lanes, .ref m_lengths, .ref m_cells])), (m_manys, .inl (E.2.1 1, 18, .inl f_manys)), (m_reals, .inl (E.2.1 1, 18, .inl f_reals)), (m_factsOf, .inl (E.2.1 1, 432, .inl f_factsOf)), (m_possible, .inl (E.2.1 1, 1728, .inl f_possible)), (m_heaps, .inl (E.2.1 1, 2400, .inl f_heaps))] 0 0
  have hmn0 := (hb_manys 0 (by omega)).2
  have hmnb := (hb_manys b (by omega)).2
  refine ww_iload C dX12_ledTo_0 4 rfl ?_
  refine ww_aload_n C dX12_ledTo_2 0 rfl rfl ?_
  refine ww_get C fg_X12_7 0 rfl rfl dX12_ledTo_3 ?_
  refine ww_iload_n C dX12_ledTo_6 1 rfl rfl ?_
  have hbx_1 := (hb_manys 0 (by omega)).2
  refine ww_iald (v := (nI (cN f_manys 0))) C 1 rfl (vin rfl) (hb_manys 0 (by omega)).1 dX12_ledTo_7 ?_
  refine ww_icmp_ge (tgt := 15) C dX12_ledTo_8 (by decide) (fun c_2 => ?_) (fun c_2 => ?_)
  · have zc_2 : ((w : Nat) : Int) ≥ ((cN f_manys 0 : Nat) : Int) := i_le (nI_toInt (n := cN f_manys 0) (by omega)) (nI_toInt (n := w) (by omega)) c_2
    refine ww_aload_n C dX12_ledTo_15 0 rfl rfl ?_
    refine ww_get C fg_X12_7 0 rfl rfl dX12_ledTo_16 ?_
    refine ww_iload_n C dX12_ledTo_19 1 rfl rfl ?_
    have hbx_3 := (hb_manys 0 (by omega)).2
    refine ww_iald (v := (nI (cN f_manys 0))) C 1 rfl (vin rfl) (hb_manys 0 (by omega)).1 dX12_ledTo_20 ?_
    refine ww_istore (lv' := [(6, .int (nI (cN f_manys 0))), (0, .ref hm), (1, .int 0), (2, .int (nI b)), (3, .int (nI k)), (4, .int (nI w)), (5, .int (nI r))]) C dX12_ledTo_21 rfl rfl ?_
    refine ww_iload C dX12_ledTo_23 5 rfl ?_
    refine ww_aload_n C dX12_ledTo_25 1 rfl rfl ?_
    refine ww_get C fg_X12_7 0 rfl rfl dX12_ledTo_26 ?_
    refine ww_iload_n C dX12_ledTo_29 2 rfl rfl ?_
    have hbx_4 := (hb_manys 0 (by omega)).2
    refine ww_iald (v := (nI (cN f_manys 0))) C 1 rfl (vin rfl) (hb_manys 0 (by omega)).1 dX12_ledTo_30 ?_
    refine ww_icmp_ge (tgt := 45) C dX12_ledTo_31 (by decide) (fun c_5 => ?_) (fun c_5 => ?_)
    · have zc_5 : ((w : Nat) : Int) ≥ ((cN f_manys 0 : Nat) : Int) := i_le (nI_toInt (n := cN f_manys 0) (by omega)) (nI_toInt (n := w) (by omega)) c_5
      refine ww_aload_n C dX12_ledTo_45 1 rfl rfl ?_
      refine ww_iload_n C dX12_ledTo_46 3 rfl rfl ?_
      refine ww_iload_n C dX12_ledTo_47 4 rfl rfl ?_
      refine ww_iload C dX12_ledTo_48 5 rfl ?_
      refine ww_aload_n C dX12_ledTo_50 1 rfl rfl ?_
      refine ww_get C fg_X12_7 0 rfl rfl dX12_ledTo_51 ?_
      refine ww_iload_n C dX12_ledTo_54 2 rfl rfl ?_
      have hbx_6 := (hb_manys 0 (by omega)).2
      refine ww_iald (v := (nI (cN f_manys 0))) C 1 rfl (vin rfl) (hb_manys 0 (by omega)).1 dX12_ledTo_55 ?_
      refine ww_isub (v := (nI (w - (cN f_manys 0)))) C dX12_ledTo_56 (pk_sub (a := w) (b := (cN f_manys 0)) (by omega)) ?_
      refine ww_ci (wr := [(m_manys, .inl (E.2.1 1, 18, .inl f_manys)), (m_reals, .inl (E.2.1 1, 18, .inl f_reals)), (m_factsOf, .inl (E.2.1 1, 432, .inl f_factsOf)), (m_heaps, .inl (E.2.1 1, 2400, .inl f_heaps))]) (k' := 0) (n' := 0) C (run_V (As := [.int (nI b), .int (nI k), .int (nI (w - (cN f_manys 0)))]) (rest := []) C (r_seen X.2.1 E ro hm b k (w - (cN f_manys 0)) m_manys m_reals m_factsOf m_possible q_undos q_models m_tape q_taped q_fault q_wrong q_wrongAt q_spot q_place q_token q_value m_ends m_letters m_actOf m_whom m_actMany m_tokens m_afters m_afterOf q_counted m_pile m_caseMany m_happen m_hasIf m_becomes m_goneOf m_heard m_pairs m_heaps q_rounds q_heapMany m_led m_newAt m_knowing m_firsts q_people m_secrets m_tried m_lanes m_lengths m_cells f_possible (by omega) (by omega) (by omega)) mi_X12_seen wl_X12_135 rfl 0 12 rfl rfl rfl rfl rfl dX12_ledTo_57) (roK hro) [0, 4] [1, 2, 3, 5] rfl rfl rfl rfl (fun r_7 uz hw => ?_)
      refine an1 hw ?_
      clear hw
      intro he_8 hw
      have he_9 := hw
      clear hw
      have he_8 := he_8.symm
      subst he_8
      subst he_9
      refine ww_eq (ws' := [(m_manys, .inl (E.2.1 1, 18, .inl f_manys)), (m_reals, .inl (E.2.1 1, 18, .inl f_reals)), (m_factsOf, .inl (E.2.1 1, 432, .inl f_factsOf)), (m_heaps, .inl (E.2.1 1, 2400, .inl f_heaps)), (hm, .inr (12, [.ref m_manys, .ref m_reals, .ref m_factsOf, .ref m_possible, .int (nI q_undos), .int (nI q_models), .ref m_tape, .int (nI q_taped), .int q_fault, .int q_wrong, .int q_wrongAt, .int q_spot, .int q_place, .int q_token, .int q_value, .ref m_ends, .ref m_letters, .ref m_actOf, .ref m_whom, .ref m_actMany, .ref m_tokens, .ref m_afters, .ref m_afterOf, .int q_counted, .ref m_pile, .ref m_caseMany, .ref m_happen, .ref m_hasIf, .ref m_becomes, .ref m_goneOf, .ref m_heard, .ref m_pairs, .ref m_heaps, .int q_rounds, .int q_heapMany, .ref m_led, .ref m_newAt, .ref m_knowing, .ref m_firsts, .int (nI q_people), .ref m_secrets, .ref m_tried, .ref m_lanes, .ref m_lengths, .ref m_cells])), (m_possible, .inl (E.2.1 1, 1728, .inl f_possible))]) ?_ rfl rfl rfl
      refine ww_istore (lv' := [(7, .int (f_possible (96 * b + 24 * k + (w - (cN f_manys 0))))), (6, .int (nI (cN f_manys 0))), (0, .ref hm), (1, .int 0), (2, .int (nI b)), (3, .int (nI k)), (4, .int (nI w)), (5, .int (nI r))]) C dX12_ledTo_60 rfl rfl ?_
      refine ww_lconst (v := 0) C dX12_ledTo_62 rfl ?_
      refine ww_lstore (lv' := [(8, .long 0), (7, .int (f_possible (96 * b + 24 * k + (w - (cN f_manys 0))))), (6, .int (nI (cN f_manys 0))), (0, .ref hm), (1, .int 0), (2, .int (nI b)), (3, .int (nI k)), (4, .int (nI w)), (5, .int (nI r))]) C dX12_ledTo_63 rfl rfl ?_
      refine ww_iconst (v := 0) C dX12_ledTo_65 rfl ?_
      refine ww_istore (lv' := [(10, .int 0), (8, .long 0), (7, .int (f_possible (96 * b + 24 * k + (w - (cN f_manys 0))))), (6, .int (nI (cN f_manys 0))), (0, .ref hm), (1, .int 0), (2, .int (nI b)), (3, .int (nI k)), (4, .int (nI w)), (5, .int (nI r))]) C dX12_ledTo_66 rfl rfl ?_
      have loop_68 : ∀ (fu : Nat) (i1 : Nat) (ac : Int64), (i1 ≤ 24) → (HOx (f_possible (96 * b + 24 * k + (w - (cN f_manys 0)))) (rk (cm2 (pgs f_manys f_reals f_factsOf f_possible 0) (pgs f_manys f_reals f_factsOf f_possible b)) r) (cN f_manys 0) i1 ac) → 24 - i1 < fu → WW X 11 E 68 [(10, .int (nI i1)), (8, .long ac), (7, .int (f_possible (96 * b + 24 * k + (w - (cN f_manys 0))))), (6, .int (nI (cN f_manys 0))), (0, .ref hm), (1, .int 0), (2, .int (nI b)), (3, .int (nI k)), (4, .int (nI w)), (5, .int (nI r))] [] [(m_manys, .inl (E.2.1 1, 18, .inl f_manys)), (m_reals, .inl (E.2.1 1, 18, .inl f_reals)), (m_factsOf, .inl (E.2.1 1, 432, .inl f_factsOf)), (m_heaps, .inl (E.2.1 1, 2400, .inl f_heaps)), (hm, .inr (12, [.ref m_manys, .ref m_reals, .ref m_factsOf, .ref m_possible, .int (nI q_undos), .int (nI q_models), .ref m_tape, .int (nI q_taped), .int q_fault, .int q_wrong, .int q_wrongAt, .int q_spot, .int q_place, .int q_token, .int q_value, .ref m_ends, .ref m_letters, .ref m_actOf, .ref m_whom, .ref m_actMany, .ref m_tokens, .ref m_afters, .ref m_afterOf, .int q_counted, .ref m_pile, .ref m_caseMany, .ref m_happen, .ref m_hasIf, .ref m_becomes, .ref m_goneOf, .ref m_heard, .ref m_pairs, .ref m_heaps, .int q_rounds, .int q_heapMany, .ref m_led, .ref m_newAt, .ref m_knowing, .ref m_firsts, .int (nI q_people), .ref m_secrets, .ref m_tried, .ref m_lanes, .ref m_lengths, .ref m_cells])), (m_possible, .inl (E.2.1 1, 1728, .inl f_possible))] 0 0 := by
        intro fu
        induction fu with
        | zero => intro i1 ac hi1 hho hmeas; exact absurd hmeas (Nat.not_lt_zero _)
        | succ fu ih_68 =>
          intro i1 ac hi1 hho hmeas
          refine ww_iload C dX12_ledTo_68 0 rfl ?_
          refine ww_bipush (v := 24) C dX12_ledTo_70 rfl ?_
          refine ww_icmp_ge (tgt := 119) C dX12_ledTo_72 (by decide) (fun c_10 => ?_) (fun c_10 => ?_)
          · have zc_10 : ((i1 : Nat) : Int) ≥ 24 := i_le rfl (nI_toInt (n := i1) (by omega)) c_10
            refine ww_lload C dX12_ledTo_119 1 rfl ?_
            exact ww_lret (u := [(hm, .inr (12, [.ref m_manys, .ref m_reals, .ref m_factsOf, .ref m_possible, .int (nI q_undos), .int (nI q_models), .ref m_tape, .int (nI q_taped), .int q_fault, .int q_wrong, .int q_wrongAt, .int q_spot, .int q_place, .int q_token, .int q_value, .ref m_ends, .ref m_letters, .ref m_actOf, .ref m_whom, .ref m_actMany, .ref m_tokens, .ref m_afters, .ref m_afterOf, .int q_counted, .ref m_pile, .ref m_caseMany, .ref m_happen, .ref m_hasIf, .ref m_becomes, .ref m_goneOf, .ref m_heard, .ref m_pairs, .ref m_heaps, .int q_rounds, .int q_heapMany, .ref m_led, .ref m_newAt, .ref m_knowing, .ref m_firsts, .int (nI q_people), .ref m_secrets, .ref m_tried, .ref m_lanes, .ref m_lengths, .ref m_cells])), (m_manys, .inl (E.2.1 1, 18, .inl f_manys)), (m_reals, .inl (E.2.1 1, 18, .inl f_reals)), (m_factsOf, .inl (E.2.1 1, 432, .inl f_factsOf)), (m_possible, .inl (E.2.1 1, 1728, .inl f_possible)), (m_heaps, .inl (E.2.1 1, 2400, .inl f_heaps))]) C hT [4, 0, 1, 2, 5, 3] rfl rfl rfl rfl dX12_ledTo_121 (⟨rfl, (hs_r (n := cN f_manys 0) (r := cN f_reals 0) (f := sh (24 * 0) f_factsOf) (g := sh (96 * 0) f_possible) (n2 := cN f_manys b) (r2 := cN f_reals b) (f2 := sh (24 * b) f_factsOf) (g2 := sh (96 * b) f_possible) (by omega) (by omega) (hwf b (by omega)) (by omega) (by omega) (by omega) (show HOx (f_possible (96 * b + (k * 24 + (w - cN f_manys 0)))) _ (cN f_manys 0) 24 _ by have h9 : i1 = 24 := (by omega); rw [h9] at hho; rw [show 96 * b + (k * 24 + (w - cN f_manys 0)) = 96 * b + 24 * k + (w - cN f_manys 0) by omega]; exact hho))⟩)
          · have zc_10 : ((i1 : Nat) : Int) < 24 := i_nle rfl (nI_toInt (n := i1) (by omega)) c_10
            refine ww_lload C dX12_ledTo_75 1 rfl ?_
            refine ww_iload C dX12_ledTo_77 2 rfl ?_
            refine ww_iload C dX12_ledTo_79 0 rfl ?_
            obtain ⟨x_11, ex_11⟩ : ∃ z : Int32, (f_possible (96 * b + 24 * k + (w - (cN f_manys 0)))) >>> ((nI i1) &&& 31) = z := ⟨_, rfl⟩
            refine ww_ishr (v := x_11) C dX12_ledTo_81 ex_11 ?_
            refine ww_iconst (v := 1) C dX12_ledTo_82 rfl ?_
            obtain ⟨j_12, hj_12, ej_12⟩ := pk_andE x_11 (m := 1) 1 rfl
            refine ww_iand (v := (nI j_12)) C dX12_ledTo_83 ej_12 ?_
            refine ww_iconst (v := 1) C dX12_ledTo_84 rfl ?_
            refine ww_icmp_ne (tgt := 109) C dX12_ledTo_85 (by decide) (fun c_13 => ?_) (fun c_13 => ?_)
            · have zc_13 : ((j_12 : Nat) : Int) ≠ 1 := i_ne (nI_toInt (n := j_12) (by omega)) rfl c_13
              refine ww_lconst (v := 0) C dX12_ledTo_109 rfl ?_
              obtain ⟨l_14, el_14⟩ : ∃ z : Int64, ac ||| (0 : Int64) = z := ⟨_, rfl⟩
              refine ww_lor C dX12_ledTo_110 el_14 ?_
              refine ww_lstore (lv' := [(8, .long l_14), (10, .int (nI i1)), (7, .int (f_possible (96 * b + 24 * k + (w - (cN f_manys 0))))), (6, .int (nI (cN f_manys 0))), (0, .ref hm), (1, .int 0), (2, .int (nI b)), (3, .int (nI k)), (4, .int (nI w)), (5, .int (nI r))]) C dX12_ledTo_111 rfl rfl ?_
              refine ww_iinc (j := 1) (v := (nI (i1 + 1))) (lv' := [(10, .int (nI (i1 + 1))), (8, .long l_14), (7, .int (f_possible (96 * b + 24 * k + (w - (cN f_manys 0))))), (6, .int (nI (cN f_manys 0))), (0, .ref hm), (1, .int 0), (2, .int (nI b)), (3, .int (nI k)), (4, .int (nI w)), (5, .int (nI r))]) C dX12_ledTo_113 rfl (nI_add i1 1) rfl rfl ?_
              refine ww_goto (tgt := 68) C dX12_ledTo_116 (by decide) ?_
              exact ww_lv [0, 1, 2, 3, 4, 5, 6, 7, 8, 9] rfl (ww_sub [0, 1, 2, 3, 4, 5] rfl rfl (ih_68 (i1 + 1) l_14 (by omega) (HOx.z hho (hasb_0 (b := (f_possible (96 * b + 24 * k + (w - (cN f_manys 0))))) (p := i1) (by omega) (by assumption) (by assumption) (by omega)) el_14) (by omega)))
            · have zc_13 : ((j_12 : Nat) : Int) = 1 := i_eq (nI_toInt (n := j_12) (by omega)) rfl c_13
              refine ww_lconst (v := 1) C dX12_ledTo_88 rfl ?_
              refine ww_aload_n C dX12_ledTo_89 4 rfl rfl ?_
              refine ww_get C fg_X12_74 4 rfl rfl dX12_ledTo_90 ?_
              refine ww_bipush (v := 48) C dX12_ledTo_93 rfl ?_
              refine ww_iload C dX12_ledTo_95 9 rfl ?_
              refine ww_imul (v := (nI (48 * r))) C dX12_ledTo_97 (pk_mul 48 r) ?_
              refine ww_iload C dX12_ledTo_98 3 rfl ?_
              refine ww_iadd (v := (nI ((48 * r) + (cN f_manys 0)))) C dX12_ledTo_100 (nI_add (48 * r) (cN f_manys 0)) ?_
              refine ww_iload C dX12_ledTo_101 0 rfl ?_
              refine ww_iadd (v := (nI (((48 * r) + (cN f_manys 0)) + i1))) C dX12_ledTo_103 (nI_add ((48 * r) + (cN f_manys 0)) i1) ?_
              obtain ⟨x_15, ex_15⟩ : ∃ z : Int32, f_heaps (((48 * r) + (cN f_manys 0)) + i1) = z := ⟨_, rfl⟩
              refine ww_iald (v := x_15) C 3 rfl (vp_in_nI (by omega) (by omega)) (ldn (by omega) ex_15) dX12_ledTo_104 ?_
              obtain ⟨l_16, el_16⟩ : ∃ z : Int64, (1 : Int64) <<< (x_15.toInt64 &&& 63) = z := ⟨_, rfl⟩
              refine ww_lshl C dX12_ledTo_105 el_16 ?_
              refine ww_goto (tgt := 110) C dX12_ledTo_106 (by decide) ?_
              obtain ⟨l_17, el_17⟩ : ∃ z : Int64, ac ||| l_16 = z := ⟨_, rfl⟩
              refine ww_lor C dX12_ledTo_110 el_17 ?_
              refine ww_lstore (lv' := [(8, .long l_17), (10, .int (nI i1)), (7, .int (f_possible (96 * b + 24 * k + (w - (cN f_manys 0))))), (6, .int (nI (cN f_manys 0))), (0, .ref hm), (1, .int 0), (2, .int (nI b)), (3, .int (nI k)), (4, .int (nI w)), (5, .int (nI r))]) C dX12_ledTo_111 rfl rfl ?_
              refine ww_iinc (j := 1) (v := (nI (i1 + 1))) (lv' := [(10, .int (nI (i1 + 1))), (8, .long l_17), (7, .int (f_possible (96 * b + 24 * k + (w - (cN f_manys 0))))), (6, .int (nI (cN f_manys 0))), (0, .ref hm), (1, .int 0), (2, .int (nI b)), (3, .int (nI k)), (4, .int (nI w)), (5, .int (nI r))]) C dX12_ledTo_113 rfl (nI_add i1 1) rfl rfl ?_
              refine ww_goto (tgt := 68) C dX12_ledTo_116 (by decide) ?_
              exact ww_lv [0, 1, 2, 3, 4, 5, 6, 7, 8, 9] rfl (ww_sub [0, 1, 2, 3, 4, 5] rfl rfl (ih_68 (i1 + 1) l_17 (by omega) (HOx.t' hho (hasb_1 (b := (f_possible (96 * b + 24 * k + (w - (cN f_manys 0))))) (p := i1) (by omega) (by assumption) (by assumption) (by omega)) (ex_15.symm.trans ((congrArg f_heaps (show (((48 * r) + (cN f_manys 0)) + i1) = 48 * r + ((cN f_manys 0) + i1) by omega)).trans (show f_heaps (48 * r + ((cN f_manys 0) + i1)) = _ from hRK ((cN f_manys 0) + i1) (by have h7 : i1 < cN f_manys b := hwf b (by omega) k (w - cN f_manys 0) i1 (by rw [pg_S (by omega) (by omega)]; exact (hasb_1 (b := (f_possible (96 * b + 24 * k + (w - (cN f_manys 0))))) (p := i1) (by omega) (by assumption) (by assumption) (by omega))); show (cN f_manys 0) + i1 < (cN f_manys 0 + cN f_manys b); omega)))) (by have h7 : i1 < cN f_manys b := hwf b (by omega) k (w - cN f_manys 0) i1 (by rw [pg_S (by omega) (by omega)]; exact (hasb_1 (b := (f_possible (96 * b + 24 * k + (w - (cN f_manys 0))))) (p := i1) (by omega) (by assumption) (by assumption) (by omega))); have h6 := (rk_le (cm2 (pgs f_manys f_reals f_factsOf f_possible 0) (pgs f_manys f_reals f_factsOf f_possible b)) r ((cN f_manys 0) + i1)).1; omega) el_16 el_17) (by omega)))
      exact ww_lv [0, 1, 2, 3, 4, 5, 6, 7, 8, 9] rfl (ww_sub [0, 1, 2, 3, 4, 5] rfl rfl (loop_68 _ 0 0 (by omega) HOx.nil (Nat.lt_succ_self _)))
    · have zc_5 : ((w : Nat) : Int) < ((cN f_manys 0 : Nat) : Int) := i_nle (nI_toInt (n := cN f_manys 0) (by omega)) (nI_toInt (n := w) (by omega)) c_5
      omega
  · have zc_2 : ((w : Nat) : Int) < ((cN f_manys 0 : Nat) : Int) := i_nle (nI_toInt (n := cN f_manys 0) (by omega)) (nI_toInt (n := w) (by omega)) c_2
    refine ww_iconst (v := 0) C dX12_ledTo_11 rfl ?_
    refine ww_goto (tgt := 21) C dX12_ledTo_12 (by decide) ?_
    refine ww_istore (lv' := [(6, .int 0), (0, .ref hm), (1, .int 0), (2, .int (nI b)), (3, .int (nI k)), (4, .int (nI w)), (5, .int (nI r))]) C dX12_ledTo_21 rfl rfl ?_
    refine ww_iload C dX12_ledTo_23 5 rfl ?_
    refine ww_aload_n C dX12_ledTo_25 1 rfl rfl ?_
    refine ww_get C fg_X12_7 0 rfl rfl dX12_ledTo_26 ?_
    refine ww_iload_n C dX12_ledTo_29 2 rfl rfl ?_
    have hbx_18 := (hb_manys 0 (by omega)).2
    refine ww_iald (v := (nI (cN f_manys 0))) C 1 rfl (vin rfl) (hb_manys 0 (by omega)).1 dX12_ledTo_30 ?_
    refine ww_icmp_ge (tgt := 45) C dX12_ledTo_31 (by decide) (fun c_19 => ?_) (fun c_19 => ?_)
    · have zc_19 : ((w : Nat) : Int) ≥ ((cN f_manys 0 : Nat) : Int) := i_le (nI_toInt (n := cN f_manys 0) (by omega)) (nI_toInt (n := w) (by omega)) c_19
      omega
    · have zc_19 : ((w : Nat) : Int) < ((cN f_manys 0 : Nat) : Int) := i_nle (nI_toInt (n := cN f_manys 0) (by omega)) (nI_toInt (n := w) (by omega)) c_19
      refine ww_aload_n C dX12_ledTo_34 1 rfl rfl ?_
      refine ww_iload_n C dX12_ledTo_35 2 rfl rfl ?_
      refine ww_iload_n C dX12_ledTo_36 4 rfl rfl ?_
      refine ww_iload C dX12_ledTo_37 5 rfl ?_
      refine ww_ci (wr := [(m_manys, .inl (E.2.1 1, 18, .inl f_manys)), (m_reals, .inl (E.2.1 1, 18, .inl f_reals)), (m_factsOf, .inl (E.2.1 1, 432, .inl f_factsOf)), (m_heaps, .inl (E.2.1 1, 2400, .inl f_heaps))]) (k' := 0) (n' := 0) C (run_V (As := [.int 0, .int (nI k), .int (nI w)]) (rest := []) C (r_seen X.2.1 E ro hm 0 k w m_manys m_reals m_factsOf m_possible q_undos q_models m_tape q_taped q_fault q_wrong q_wrongAt q_spot q_place q_token q_value m_ends m_letters m_actOf m_whom m_actMany m_tokens m_afters m_afterOf q_counted m_pile m_caseMany m_happen m_hasIf m_becomes m_goneOf m_heard m_pairs m_heaps q_rounds q_heapMany m_led m_newAt m_knowing m_firsts q_people m_secrets m_tried m_lanes m_lengths m_cells f_possible (by omega) (by omega) (by omega)) mi_X12_seen wl_X12_135 rfl 0 12 rfl rfl rfl rfl rfl dX12_ledTo_39) (roK hro) [0, 4] [1, 2, 3, 5] rfl rfl rfl rfl (fun r_20 uz hw => ?_)
      refine an1 hw ?_
      clear hw
      intro he_21 hw
      have he_22 := hw
      clear hw
      have he_21 := he_21.symm
      subst he_21
      subst he_22
      refine ww_eq (ws' := [(m_manys, .inl (E.2.1 1, 18, .inl f_manys)), (m_reals, .inl (E.2.1 1, 18, .inl f_reals)), (m_factsOf, .inl (E.2.1 1, 432, .inl f_factsOf)), (m_heaps, .inl (E.2.1 1, 2400, .inl f_heaps)), (hm, .inr (12, [.ref m_manys, .ref m_reals, .ref m_factsOf, .ref m_possible, .int (nI q_undos), .int (nI q_models), .ref m_tape, .int (nI q_taped), .int q_fault, .int q_wrong, .int q_wrongAt, .int q_spot, .int q_place, .int q_token, .int q_value, .ref m_ends, .ref m_letters, .ref m_actOf, .ref m_whom, .ref m_actMany, .ref m_tokens, .ref m_afters, .ref m_afterOf, .int q_counted, .ref m_pile, .ref m_caseMany, .ref m_happen, .ref m_hasIf, .ref m_becomes, .ref m_goneOf, .ref m_heard, .ref m_pairs, .ref m_heaps, .int q_rounds, .int q_heapMany, .ref m_led, .ref m_newAt, .ref m_knowing, .ref m_firsts, .int (nI q_people), .ref m_secrets, .ref m_tried, .ref m_lanes, .ref m_lengths, .ref m_cells])), (m_possible, .inl (E.2.1 1, 1728, .inl f_possible))]) ?_ rfl rfl rfl
      refine ww_goto (tgt := 60) C dX12_ledTo_42 (by decide) ?_
      refine ww_istore (lv' := [(7, .int (f_possible (96 * 0 + 24 * k + w))), (6, .int 0), (0, .ref hm), (1, .int 0), (2, .int (nI b)), (3, .int (nI k)), (4, .int (nI w)), (5, .int (nI r))]) C dX12_ledTo_60 rfl rfl ?_
      refine ww_lconst (v := 0) C dX12_ledTo_62 rfl ?_
      refine ww_lstore (lv' := [(8, .long 0), (7, .int (f_possible (96 * 0 + 24 * k + w))), (6, .int 0), (0, .ref hm), (1, .int 0), (2, .int (nI b)), (3, .int (nI k)), (4, .int (nI w)), (5, .int (nI r))]) C dX12_ledTo_63 rfl rfl ?_
      refine ww_iconst (v := 0) C dX12_ledTo_65 rfl ?_
      refine ww_istore (lv' := [(10, .int 0), (8, .long 0), (7, .int (f_possible (96 * 0 + 24 * k + w))), (6, .int 0), (0, .ref hm), (1, .int 0), (2, .int (nI b)), (3, .int (nI k)), (4, .int (nI w)), (5, .int (nI r))]) C dX12_ledTo_66 rfl rfl ?_
      have loop_68 : ∀ (fu : Nat) (i1 : Nat) (ac : Int64), (i1 ≤ 24) → (HOx (f_possible (96 * 0 + 24 * k + w)) (rk (cm2 (pgs f_manys f_reals f_factsOf f_possible 0) (pgs f_manys f_reals f_factsOf f_possible b)) r) 0 i1 ac) → 24 - i1 < fu → WW X 11 E 68 [(10, .int (nI i1)), (8, .long ac), (7, .int (f_possible (96 * 0 + 24 * k + w))), (6, .int 0), (0, .ref hm), (1, .int 0), (2, .int (nI b)), (3, .int (nI k)), (4, .int (nI w)), (5, .int (nI r))] [] [(m_manys, .inl (E.2.1 1, 18, .inl f_manys)), (m_reals, .inl (E.2.1 1, 18, .inl f_reals)), (m_factsOf, .inl (E.2.1 1, 432, .inl f_factsOf)), (m_heaps, .inl (E.2.1 1, 2400, .inl f_heaps)), (hm, .inr (12, [.ref m_manys, .ref m_reals, .ref m_factsOf, .ref m_possible, .int (nI q_undos), .int (nI q_models), .ref m_tape, .int (nI q_taped), .int q_fault, .int q_wrong, .int q_wrongAt, .int q_spot, .int q_place, .int q_token, .int q_value, .ref m_ends, .ref m_letters, .ref m_actOf, .ref m_whom, .ref m_actMany, .ref m_tokens, .ref m_afters, .ref m_afterOf, .int q_counted, .ref m_pile, .ref m_caseMany, .ref m_happen, .ref m_hasIf, .ref m_becomes, .ref m_goneOf, .ref m_heard, .ref m_pairs, .ref m_heaps, .int q_rounds, .int q_heapMany, .ref m_led, .ref m_newAt, .ref m_knowing, .ref m_firsts, .int (nI q_people), .ref m_secrets, .ref m_tried, .ref m_lanes, .ref m_lengths, .ref m_cells])), (m_possible, .inl (E.2.1 1, 1728, .inl f_possible))] 0 0 := by
        intro fu
        induction fu with
        | zero => intro i1 ac hi1 hho hmeas; exact absurd hmeas (Nat.not_lt_zero _)
        | succ fu ih_68 =>
          intro i1 ac hi1 hho hmeas
          refine ww_iload C dX12_ledTo_68 0 rfl ?_
          refine ww_bipush (v := 24) C dX12_ledTo_70 rfl ?_
          refine ww_icmp_ge (tgt := 119) C dX12_ledTo_72 (by decide) (fun c_23 => ?_) (fun c_23 => ?_)
          · have zc_23 : ((i1 : Nat) : Int) ≥ 24 := i_le rfl (nI_toInt (n := i1) (by omega)) c_23
            refine ww_lload C dX12_ledTo_119 1 rfl ?_
            exact ww_lret (u := [(hm, .inr (12, [.ref m_manys, .ref m_reals, .ref m_factsOf, .ref m_possible, .int (nI q_undos), .int (nI q_models), .ref m_tape, .int (nI q_taped), .int q_fault, .int q_wrong, .int q_wrongAt, .int q_spot, .int q_place, .int q_token, .int q_value, .ref m_ends, .ref m_letters, .ref m_actOf, .ref m_whom, .ref m_actMany, .ref m_tokens, .ref m_afters, .ref m_afterOf, .int q_counted, .ref m_pile, .ref m_caseMany, .ref m_happen, .ref m_hasIf, .ref m_becomes, .ref m_goneOf, .ref m_heard, .ref m_pairs, .ref m_heaps, .int q_rounds, .int q_heapMany, .ref m_led, .ref m_newAt, .ref m_knowing, .ref m_firsts, .int (nI q_people), .ref m_secrets, .ref m_tried, .ref m_lanes, .ref m_lengths, .ref m_cells])), (m_manys, .inl (E.2.1 1, 18, .inl f_manys)), (m_reals, .inl (E.2.1 1, 18, .inl f_reals)), (m_factsOf, .inl (E.2.1 1, 432, .inl f_factsOf)), (m_possible, .inl (E.2.1 1, 1728, .inl f_possible)), (m_heaps, .inl (E.2.1 1, 2400, .inl f_heaps))]) C hT [4, 0, 1, 2, 5, 3] rfl rfl rfl rfl dX12_ledTo_121 (⟨rfl, (hs_l (n := cN f_manys 0) (r := cN f_reals 0) (f := sh (24 * 0) f_factsOf) (g := sh (96 * 0) f_possible) (n2 := cN f_manys b) (r2 := cN f_reals b) (f2 := sh (24 * b) f_factsOf) (g2 := sh (96 * b) f_possible) (by omega) (hwf 0 (by omega)) (by omega) (by omega) (show HOx (f_possible (96 * 0 + (k * 24 + w))) _ 0 24 _ by have h9 : i1 = 24 := (by omega); rw [h9] at hho; rw [show 96 * 0 + (k * 24 + w) = 96 * 0 + 24 * k + w by omega]; exact hho))⟩)
          · have zc_23 : ((i1 : Nat) : Int) < 24 := i_nle rfl (nI_toInt (n := i1) (by omega)) c_23
            refine ww_lload C dX12_ledTo_75 1 rfl ?_
            refine ww_iload C dX12_ledTo_77 2 rfl ?_
            refine ww_iload C dX12_ledTo_79 0 rfl ?_
            obtain ⟨x_24, ex_24⟩ : ∃ z : Int32, (f_possible (96 * 0 + 24 * k + w)) >>> ((nI i1) &&& 31) = z := ⟨_, rfl⟩
            refine ww_ishr (v := x_24) C dX12_ledTo_81 ex_24 ?_
            refine ww_iconst (v := 1) C dX12_ledTo_82 rfl ?_
            obtain ⟨j_25, hj_25, ej_25⟩ := pk_andE x_24 (m := 1) 1 rfl
            refine ww_iand (v := (nI j_25)) C dX12_ledTo_83 ej_25 ?_
            refine ww_iconst (v := 1) C dX12_ledTo_84 rfl ?_
            refine ww_icmp_ne (tgt := 109) C dX12_ledTo_85 (by decide) (fun c_26 => ?_) (fun c_26 => ?_)
            · have zc_26 : ((j_25 : Nat) : Int) ≠ 1 := i_ne (nI_toInt (n := j_25) (by omega)) rfl c_26
              refine ww_lconst (v := 0) C dX12_ledTo_109 rfl ?_
              obtain ⟨l_27, el_27⟩ : ∃ z : Int64, ac ||| (0 : Int64) = z := ⟨_, rfl⟩
              refine ww_lor C dX12_ledTo_110 el_27 ?_
              refine ww_lstore (lv' := [(8, .long l_27), (10, .int (nI i1)), (7, .int (f_possible (96 * 0 + 24 * k + w))), (6, .int 0), (0, .ref hm), (1, .int 0), (2, .int (nI b)), (3, .int (nI k)), (4, .int (nI w)), (5, .int (nI r))]) C dX12_ledTo_111 rfl rfl ?_
              refine ww_iinc (j := 1) (v := (nI (i1 + 1))) (lv' := [(10, .int (nI (i1 + 1))), (8, .long l_27), (7, .int (f_possible (96 * 0 + 24 * k + w))), (6, .int 0), (0, .ref hm), (1, .int 0), (2, .int (nI b)), (3, .int (nI k)), (4, .int (nI w)), (5, .int (nI r))]) C dX12_ledTo_113 rfl (nI_add i1 1) rfl rfl ?_
              refine ww_goto (tgt := 68) C dX12_ledTo_116 (by decide) ?_
              exact ww_lv [0, 1, 2, 3, 4, 5, 6, 7, 8, 9] rfl (ww_sub [0, 1, 2, 3, 4, 5] rfl rfl (ih_68 (i1 + 1) l_27 (by omega) (HOx.z hho (hasb_0 (b := (f_possible (96 * 0 + 24 * k + w))) (p := i1) (by omega) (by assumption) (by assumption) (by omega)) el_27) (by omega)))
            · have zc_26 : ((j_25 : Nat) : Int) = 1 := i_eq (nI_toInt (n := j_25) (by omega)) rfl c_26
              refine ww_lconst (v := 1) C dX12_ledTo_88 rfl ?_
              refine ww_aload_n C dX12_ledTo_89 4 rfl rfl ?_
              refine ww_get C fg_X12_74 4 rfl rfl dX12_ledTo_90 ?_
              refine ww_bipush (v := 48) C dX12_ledTo_93 rfl ?_
              refine ww_iload C dX12_ledTo_95 9 rfl ?_
              refine ww_imul (v := (nI (48 * r))) C dX12_ledTo_97 (pk_mul 48 r) ?_
              refine ww_iload C dX12_ledTo_98 3 rfl ?_
              refine ww_iadd (v := (nI (48 * r))) C dX12_ledTo_100 (nI_add (48 * r) 0) ?_
              refine ww_iload C dX12_ledTo_101 0 rfl ?_
              refine ww_iadd (v := (nI ((48 * r) + i1))) C dX12_ledTo_103 (nI_add (48 * r) i1) ?_
              obtain ⟨x_28, ex_28⟩ : ∃ z : Int32, f_heaps ((48 * r) + i1) = z := ⟨_, rfl⟩
              refine ww_iald (v := x_28) C 3 rfl (vp_in_nI (by omega) (by omega)) (ldn (by omega) ex_28) dX12_ledTo_104 ?_
              obtain ⟨l_29, el_29⟩ : ∃ z : Int64, (1 : Int64) <<< (x_28.toInt64 &&& 63) = z := ⟨_, rfl⟩
              refine ww_lshl C dX12_ledTo_105 el_29 ?_
              refine ww_goto (tgt := 110) C dX12_ledTo_106 (by decide) ?_
              obtain ⟨l_30, el_30⟩ : ∃ z : Int64, ac ||| l_29 = z := ⟨_, rfl⟩
              refine ww_lor C dX12_ledTo_110 el_30 ?_
              refine ww_lstore (lv' := [(8, .long l_30), (10, .int (nI i1)), (7, .int (f_possible (96 * 0 + 24 * k + w))), (6, .int 0), (0, .ref hm), (1, .int 0), (2, .int (nI b)), (3, .int (nI k)), (4, .int (nI w)), (5, .int (nI r))]) C dX12_ledTo_111 rfl rfl ?_
              refine ww_iinc (j := 1) (v := (nI (i1 + 1))) (lv' := [(10, .int (nI (i1 + 1))), (8, .long l_30), (7, .int (f_possible (96 * 0 + 24 * k + w))), (6, .int 0), (0, .ref hm), (1, .int 0), (2, .int (nI b)), (3, .int (nI k)), (4, .int (nI w)), (5, .int (nI r))]) C dX12_ledTo_113 rfl (nI_add i1 1) rfl rfl ?_
              refine ww_goto (tgt := 68) C dX12_ledTo_116 (by decide) ?_
              exact ww_lv [0, 1, 2, 3, 4, 5, 6, 7, 8, 9] rfl (ww_sub [0, 1, 2, 3, 4, 5] rfl rfl (ih_68 (i1 + 1) l_30 (by omega) (HOx.t' hho (hasb_1 (b := (f_possible (96 * 0 + 24 * k + w))) (p := i1) (by omega) (by assumption) (by assumption) (by omega)) (ex_28.symm.trans ((congrArg f_heaps (show ((48 * r) + i1) = 48 * r + (0 + i1) by omega)).trans (show f_heaps (48 * r + (0 + i1)) = _ from hRK (0 + i1) (by have h7 : i1 < cN f_manys 0 := hwf 0 (by omega) k w i1 (by rw [pg_S (by omega) (by omega)]; exact (hasb_1 (b := (f_possible (96 * 0 + 24 * k + w))) (p := i1) (by omega) (by assumption) (by assumption) (by omega))); show 0 + i1 < (cN f_manys 0 + cN f_manys b); omega)))) (by have h7 : i1 < cN f_manys 0 := hwf 0 (by omega) k w i1 (by rw [pg_S (by omega) (by omega)]; exact (hasb_1 (b := (f_possible (96 * 0 + 24 * k + w))) (p := i1) (by omega) (by assumption) (by assumption) (by omega))); have h6 := (rk_le (cm2 (pgs f_manys f_reals f_factsOf f_possible 0) (pgs f_manys f_reals f_factsOf f_possible b)) r (0 + i1)).1; omega) el_29 el_30) (by omega)))
      exact ww_lv [0, 1, 2, 3, 4, 5, 6, 7, 8, 9] rfl (ww_sub [0, 1, 2, 3, 4, 5] rfl rfl (loop_68 _ 0 0 (by omega) HOx.nil (Nat.lt_succ_self _)))
theorem dX12_layHeaps_17 : decode cX12_layHeaps 17 = .ok (.aload_n 0, 1) := dl_42 (by decide +kernel)
theorem dX12_layHeaps_18 : decode cX12_layHeaps 18 = .ok (.getfield 7, 3) := dl_180 (by decide +kernel)
theorem dX12_layHeaps_21 : decode cX12_layHeaps 21 = .ok (.iload_n 2, 1) := dl_28 (by decide +kernel)
theorem dX12_layHeaps_22 : decode cX12_layHeaps 22 = .ok (.iaload, 1) := dl_46 (by decide +kernel)
set_option maxRecDepth 100000 in
set_option maxHeartbeats 4000000 in
theorem r_layHeapsM (l : Launch) (E : EV) (ro : va_W) (hm : Nat) (b : Nat) (m_manys : Nat) (m_reals : Nat) (m_factsOf : Nat) (m_possible : Nat) (q_undos : Nat) (q_models : Nat) (m_tape : Nat) (q_taped : Nat) (q_fault : Int32) (q_wrong : Int32) (q_wrongAt : Int32) (q_spot : Int32) (q_place : Int32) (q_token : Int32) (q_value : Int32) (m_ends : Nat) (m_letters : Nat) (m_actOf : Nat) (m_whom : Nat) (m_actMany : Nat) (m_tokens : Nat) (m_afters : Nat) (m_afterOf : Nat) (q_counted : Int32) (m_pile : Nat) (m_caseMany : Nat) (m_happen : Nat) (m_hasIf : Nat) (m_becomes : Nat) (m_goneOf : Nat) (m_heard : Nat) (m_pairs : Nat) (m_heaps : Nat) (q_rounds : Int32) (q_heapMany : Int32) (m_led : Nat) (m_newAt : Nat) (m_knowing : Nat) (m_firsts : Nat) (q_people : Nat) (m_secrets : Nat) (m_tried : Nat) (m_lanes : Nat) (m_lengths : Nat) (m_cells : Nat) (f_manys : Nat → Int32) (f_reals : Nat → Int32) (f_factsOf : Nat → Int32) (f_possible : Nat → Int32) (f_heaps : Nat → Int32) (f_led : Nat → Int64) (hb_manys : NB 18 24 f_manys) (hb_reals : NB 18 23 f_reals) (hpg : PG f_manys f_reals) (hwf : WFP (pgs f_manys f_reals f_factsOf f_possible)) (hb : 6 ≤ b ∧ b < 18) : CT l yX12_layHeaps (Cond.code yX12_layHeaps cX12_layHeaps 6 none :: TB) ({ frames := 2, cells := 0, slots := 0, locals := 53 }) E ro [.ref hm, .int 0, .int (nI b)] [(hm, .inr (12, [.ref m_manys, .ref m_reals, .ref m_factsOf, .ref m_possible, .int (nI q_undos), .int (nI q_models), .ref m_tape, .int (nI q_taped), .int q_fault, .int q_wrong, .int q_wrongAt, .int q_spot, .int q_place, .int q_token, .int q_value, .ref m_ends, .ref m_letters, .ref m_actOf, .ref m_whom, .ref m_actMany, .ref m_tokens, .ref m_afters, .ref m_afterOf, .int q_counted, .ref m_pile, .ref m_caseMany, .ref m_happen, .ref m_hasIf, .ref m_becomes, .ref m_goneOf, .ref m_heard, .ref m_pairs, .ref m_heaps, .int q_rounds, .int q_heapMany, .ref m_led, .ref m_newAt, .ref m_knowing, .ref m_firsts, .int (nI q_people), .ref m_secrets, .ref m_tried, .ref m_lanes, .ref m_lengths, .ref m_cells])), (m_manys, .inl (E.2.1 1, 18, .inl f_manys)), (m_reals, .inl (E.2.1 1, 18, .inl f_reals)), (m_factsOf, .inl (E.2.1 1, 432, .inl f_factsOf)), (m_possible, .inl (E.2.1 1, 1728, .inl f_possible)), (m_heaps, .inl (E.2.1 1, 2400, .inl f_heaps)), (m_led, .inl (E.2.1 2, 192, .inr (.inl f_led)))] (Qv E (fun uz => (∃ (rz_ : Nat) (hmz : Nat) (f_heapsz : Nat → Int32) (f_ledz : Nat → Int64), uz = [(hm, .inr (12, [.ref m_manys, .ref m_reals, .ref m_factsOf, .ref m_possible, .int (nI q_undos), .int (nI q_models), .ref m_tape, .int (nI q_taped), .int q_fault, .int q_wrong, .int q_wrongAt, .int q_spot, .int q_place, .int q_token, .int q_value, .ref m_ends, .ref m_letters, .ref m_actOf, .ref m_whom, .ref m_actMany, .ref m_tokens, .ref m_afters, .ref m_afterOf, .int q_counted, .ref m_pile, .ref m_caseMany, .ref m_happen, .ref m_hasIf, .ref m_becomes, .ref m_goneOf, .ref m_heard, .ref m_pairs, .ref m_heaps, .int (nI rz_), .int (nI hmz), .ref m_led, .ref m_newAt, .ref m_knowing, .ref m_firsts, .int (nI q_people), .ref m_secrets, .ref m_tried, .ref m_lanes, .ref m_lengths, .ref m_cells])), (m_manys, .inl (E.2.1 1, 18, .inl f_manys)), (m_reals, .inl (E.2.1 1, 18, .inl f_reals)), (m_factsOf, .inl (E.2.1 1, 432, .inl f_factsOf)), (m_possible, .inl (E.2.1 1, 1728, .inl f_possible)), (m_heaps, .inl (E.2.1 1, 2400, .inl f_heapsz)), (m_led, .inl (E.2.1 2, 192, .inr (.inl f_ledz)))] ∧ (rz_ ≤ 49) ∧ (hmz = (cN f_manys 0 + cN f_manys b)) ∧ (LI (cN f_manys 0 + cN f_manys b) (rowH f_heapsz rz_)) ∧ (RKA (cm2 (pgs f_manys f_reals f_factsOf f_possible 0) (pgs f_manys f_reals f_factsOf f_possible b)) f_heapsz rz_) ∧ (RST (cm2 (pgs f_manys f_reals f_factsOf f_possible 0) (pgs f_manys f_reals f_factsOf f_possible b)) rz_)))) 0 0 := by
  refine ct_of rfl rfl ?_
  intro X C hT hin hro
  show WW X 6 E 0 [(0, .ref hm), (1, .int 0), (2, .int (nI b))] [] [(hm, .inr (12, [.ref m_manys, .ref m_reals, .ref m_factsOf, .ref m_possible, .int (nI q_undos), .int (nI q_models), .ref m_tape, .int (nI q_taped), .int q_fault, .int q_wrong, .int q_wrongAt, .int q_spot, .int q_place, .int q_token, .int q_value, .ref m_ends, .ref m_letters, .ref m_actOf, .ref m_whom, .ref m_actMany, .ref m_tokens, .ref m_afters, .ref m_afterOf, .int q_counted, .ref m_pile, .ref m_caseMany, .ref m_happen, .ref m_hasIf, .ref m_becomes, .ref m_goneOf, .ref m_heard, .ref m_pairs, .ref m_heaps, .int q_rounds, .int q_heapMany, .ref m_led, .ref m_newAt, .ref m_knowing, .ref m_firsts, .int (nI q_people), .ref m_secrets, .ref m_tried, .ref m_lanes, .ref m_lengths, .ref m_cells])), (m_manys, .inl (E.2.1 1, 18, .inl f_manys)), (m_reals, .inl (E.2.1 1, 18, .inl f_reals)), (m_factsOf, .inl (E.2.1 1, 432, .inl f_factsOf)), (m_possible, .inl (E.2.1 1, 1728, .inl f_possible)), (m_heaps, .inl (E.2.1 1, 2400, .inl f_heaps)), (m_led, .inl (E.2.1 2, 192, .inr (.inl f_led)))] 0 0
  have hmn0 := (hb_manys 0 (by omega)).2
  have hmnb := (hb_manys b (by omega)).2
  refine ww_aload_n C dX12_layHeaps_0 0 rfl rfl ?_
  refine ww_aload_n C dX12_layHeaps_1 0 rfl rfl ?_
  refine ww_get C fg_X12_7 0 rfl rfl dX12_layHeaps_2 ?_
  refine ww_iload_n C dX12_layHeaps_5 1 rfl rfl ?_
  have hbx_1 := (hb_manys 0 (by omega)).2
  refine ww_iald (v := (nI (cN f_manys 0))) C 1 rfl (vin rfl) (hb_manys 0 (by omega)).1 dX12_layHeaps_6 ?_
  refine ww_iload_n C dX12_layHeaps_7 2 rfl rfl ?_
  refine ww_bipush (v := (-4)) C dX12_layHeaps_8 rfl ?_
  refine ww_icmp_ne (tgt := 17) C dX12_layHeaps_10 (by decide) (fun c_2 => ?_) (fun c_2 => ?_)
  · have zc_2 : ((b : Nat) : Int) ≠ (-4) := i_ne (nI_toInt (n := b) (by omega)) rfl c_2
    refine ww_aload_n C dX12_layHeaps_17 0 rfl rfl ?_
    refine ww_get C fg_X12_7 0 rfl rfl dX12_layHeaps_18 ?_
    refine ww_iload_n C dX12_layHeaps_21 2 rfl rfl ?_
    have hbx_3 := (hb_manys b (by omega)).2
    refine ww_iald (v := (nI (cN f_manys b))) C 1 rfl (vp_in_nI (by omega) (by omega)) (ldn (by omega) (hb_manys b (by omega)).1) dX12_layHeaps_22 ?_
    refine ww_iadd (v := (nI ((cN f_manys 0) + (cN f_manys b)))) C dX12_layHeaps_23 (nI_add (cN f_manys 0) (cN f_manys b)) ?_
    refine ww_put (ws' := [(hm, .inr (12, [.ref m_manys, .ref m_reals, .ref m_factsOf, .ref m_possible, .int (nI q_undos), .int (nI q_models), .ref m_tape, .int (nI q_taped), .int q_fault, .int q_wrong, .int q_wrongAt, .int q_spot, .int q_place, .int q_token, .int q_value, .ref m_ends, .ref m_letters, .ref m_actOf, .ref m_whom, .ref m_actMany, .ref m_tokens, .ref m_afters, .ref m_afterOf, .int q_counted, .ref m_pile, .ref m_caseMany, .ref m_happen, .ref m_hasIf, .ref m_becomes, .ref m_goneOf, .ref m_heard, .ref m_pairs, .ref m_heaps, .int q_rounds, .int (nI ((cN f_manys 0) + (cN f_manys b))), .ref m_led, .ref m_newAt, .ref m_knowing, .ref m_firsts, .int (nI q_people), .ref m_secrets, .ref m_tried, .ref m_lanes, .ref m_lengths, .ref m_cells])), (m_manys, .inl (E.2.1 1, 18, .inl f_manys)), (m_reals, .inl (E.2.1 1, 18, .inl f_reals)), (m_factsOf, .inl (E.2.1 1, 432, .inl f_factsOf)), (m_possible, .inl (E.2.1 1, 1728, .inl f_possible)), (m_heaps, .inl (E.2.1 1, 2400, .inl f_heaps)), (m_led, .inl (E.2.1 2, 192, .inr (.inl f_led)))]) C fp_X12_282 0 rfl rfl rfl rfl rfl dX12_layHeaps_24 ?_
    refine ww_iconst (v := 0) C dX12_layHeaps_27 rfl ?_
    refine ww_istore_n (lv' := [(3, .int 0), (0, .ref hm), (1, .int 0), (2, .int (nI b))]) C dX12_layHeaps_28 rfl rfl rfl ?_
    have loop_29 : ∀ (fu : Nat) (w1 : Nat) (g1 : Nat → Int32), (w1 ≤ (cN f_manys 0 + cN f_manys b)) → (HBx w1 (fxR (cN f_manys 0) f_factsOf b) g1) → (cN f_manys 0 + cN f_manys b) - w1 < fu → WW X 6 E 29 [(3, .int (nI w1)), (0, .ref hm), (1, .int 0), (2, .int (nI b))] [] [(hm, .inr (12, [.ref m_manys, .ref m_reals, .ref m_factsOf, .ref m_possible, .int (nI q_undos), .int (nI q_models), .ref m_tape, .int (nI q_taped), .int q_fault, .int q_wrong, .int q_wrongAt, .int q_spot, .int q_place, .int q_token, .int q_value, .ref m_ends, .ref m_letters, .ref m_actOf, .ref m_whom, .ref m_actMany, .ref m_tokens, .ref m_afters, .ref m_afterOf, .int q_counted, .ref m_pile, .ref m_caseMany, .ref m_happen, .ref m_hasIf, .ref m_becomes, .ref m_goneOf, .ref m_heard, .ref m_pairs, .ref m_heaps, .int q_rounds, .int (nI ((cN f_manys 0) + (cN f_manys b))), .ref m_led, .ref m_newAt, .ref m_knowing, .ref m_firsts, .int (nI q_people), .ref m_secrets, .ref m_tried, .ref m_lanes, .ref m_lengths, .ref m_cells])), (m_manys, .inl (E.2.1 1, 18, .inl f_manys)), (m_reals, .inl (E.2.1 1, 18, .inl f_reals)), (m_factsOf, .inl (E.2.1 1, 432, .inl f_factsOf)), (m_possible, .inl (E.2.1 1, 1728, .inl f_possible)), (m_heaps, .inl (E.2.1 1, 2400, .inl g1)), (m_led, .inl (E.2.1 2, 192, .inr (.inl f_led)))] 0 0 := by
      intro fu
      induction fu with
      | zero => intro w1 g1 hw1 hbx hmeas; exact absurd hmeas (Nat.not_lt_zero _)
      | succ fu ih_29 =>
        intro w1 g1 hw1 hbx hmeas
        refine ww_iload_n C dX12_layHeaps_29 0 rfl rfl ?_
        refine ww_aload_n C dX12_layHeaps_30 1 rfl rfl ?_
        refine ww_get C fg_X12_282 0 rfl rfl dX12_layHeaps_31 ?_
        refine ww_icmp_ge (tgt := 78) C dX12_layHeaps_34 (by decide) (fun c_4 => ?_) (fun c_4 => ?_)
        · have zc_4 : ((w1 : Nat) : Int) ≥ (((cN f_manys 0) + (cN f_manys b) : Nat) : Int) := i_le (nI_toInt (n := (cN f_manys 0) + (cN f_manys b)) (by omega)) (nI_toInt (n := w1) (by omega)) c_4
          refine ww_aload_n C dX12_layHeaps_78 1 rfl rfl ?_
          refine ww_iconst (v := 0) C dX12_layHeaps_79 rfl ?_
          refine ww_put (ws' := [(hm, .inr (12, [.ref m_manys, .ref m_reals, .ref m_factsOf, .ref m_possible, .int (nI q_undos), .int (nI q_models), .ref m_tape, .int (nI q_taped), .int q_fault, .int q_wrong, .int q_wrongAt, .int q_spot, .int q_place, .int q_token, .int q_value, .ref m_ends, .ref m_letters, .ref m_actOf, .ref m_whom, .ref m_actMany, .ref m_tokens, .ref m_afters, .ref m_afterOf, .int q_counted, .ref m_pile, .ref m_caseMany, .ref m_happen, .ref m_hasIf, .ref m_becomes, .ref m_goneOf, .ref m_heard, .ref m_pairs, .ref m_heaps, .int 0, .int (nI ((cN f_manys 0) + (cN f_manys b))), .ref m_led, .ref m_newAt, .ref m_knowing, .ref m_firsts, .int (nI q_people), .ref m_secrets, .ref m_tried, .ref m_lanes, .ref m_lengths, .ref m_cells])), (m_manys, .inl (E.2.1 1, 18, .inl f_manys)), (m_reals, .inl (E.2.1 1, 18, .inl f_reals)), (m_factsOf, .inl (E.2.1 1, 432, .inl f_factsOf)), (m_possible, .inl (E.2.1 1, 1728, .inl f_possible)), (m_heaps, .inl (E.2.1 1, 2400, .inl g1)), (m_led, .inl (E.2.1 2, 192, .inr (.inl f_led)))]) C fp_X12_288 0 rfl rfl rfl rfl rfl dX12_layHeaps_80 ?_
          refine ww_iconst (v := 1) C dX12_layHeaps_83 rfl ?_
          refine ww_istore_n (lv' := [(3, .int 1), (0, .ref hm), (1, .int 0), (2, .int (nI b))]) C dX12_layHeaps_84 rfl rfl rfl ?_
          have loop_85 : ∀ (fu : Nat) (rr : Nat) (mo : Nat) (g_h : Nat → Int32) (g_l : Nat → Int64), (mo ≤ 1) → (RKA (cm2 (pgs f_manys f_reals f_factsOf f_possible 0) (pgs f_manys f_reals f_factsOf f_possible b)) g_h rr) → (mo = 0 → RST (cm2 (pgs f_manys f_reals f_factsOf f_possible 0) (pgs f_manys f_reals f_factsOf f_possible b)) rr) → (mo = 1 → rr ≤ cbS g_h rr (cN f_manys 0 + cN f_manys b)) → (rr ≤ (cN f_manys 0 + cN f_manys b) + 1) → (LI (cN f_manys 0 + cN f_manys b) (rowH g_h rr)) → 60 - rr < fu → WW X 6 E 85 [(3, .int (nI mo)), (0, .ref hm), (1, .int 0), (2, .int (nI b))] [] [(hm, .inr (12, [.ref m_manys, .ref m_reals, .ref m_factsOf, .ref m_possible, .int (nI q_undos), .int (nI q_models), .ref m_tape, .int (nI q_taped), .int q_fault, .int q_wrong, .int q_wrongAt, .int q_spot, .int q_place, .int q_token, .int q_value, .ref m_ends, .ref m_letters, .ref m_actOf, .ref m_whom, .ref m_actMany, .ref m_tokens, .ref m_afters, .ref m_afterOf, .int q_counted, .ref m_pile, .ref m_caseMany, .ref m_happen, .ref m_hasIf, .ref m_becomes, .ref m_goneOf, .ref m_heard, .ref m_pairs, .ref m_heaps, .int (nI rr), .int (nI ((cN f_manys 0) + (cN f_manys b))), .ref m_led, .ref m_newAt, .ref m_knowing, .ref m_firsts, .int (nI q_people), .ref m_secrets, .ref m_tried, .ref m_lanes, .ref m_lengths, .ref m_cells])), (m_manys, .inl (E.2.1 1, 18, .inl f_manys)), (m_reals, .inl (E.2.1 1, 18, .inl f_reals)), (m_factsOf, .inl (E.2.1 1, 432, .inl f_factsOf)), (m_possible, .inl (E.2.1 1, 1728, .inl f_possible)), (m_heaps, .inl (E.2.1 1, 2400, .inl g_h)), (m_led, .inl (E.2.1 2, 192, .inr (.inl g_l)))] 0 0 := by
            intro fu
            induction fu with
            | zero => intro rr mo g_h g_l hmo hra hrs hrr hrn hli hmeas; exact absurd hmeas (Nat.not_lt_zero _)
            | succ fu ih_85 =>
              intro rr mo g_h g_l hmo hra hrs hrr hrn hli hmeas
              refine ww_iload_n C dX12_layHeaps_85 0 rfl rfl ?_
              refine ww_if_eq (tgt := 250) C dX12_layHeaps_86 (by decide) (fun c_5 => ?_) (fun c_5 => ?_)
              · have zc_5 : ((mo : Nat) : Int) = 0 := i_eq (nI_toInt (n := mo) (by omega)) rfl c_5
                exact ww_vret (u := [(hm, .inr (12, [.ref m_manys, .ref m_reals, .ref m_factsOf, .ref m_possible, .int (nI q_undos), .int (nI q_models), .ref m_tape, .int (nI q_taped), .int q_fault, .int q_wrong, .int q_wrongAt, .int q_spot, .int q_place, .int q_token, .int q_value, .ref m_ends, .ref m_letters, .ref m_actOf, .ref m_whom, .ref m_actMany, .ref m_tokens, .ref m_afters, .ref m_afterOf, .int q_counted, .ref m_pile, .ref m_caseMany, .ref m_happen, .ref m_hasIf, .ref m_becomes, .ref m_goneOf, .ref m_heard, .ref m_pairs, .ref m_heaps, .int (nI rr), .int (nI ((cN f_manys 0) + (cN f_manys b))), .ref m_led, .ref m_newAt, .ref m_knowing, .ref m_firsts, .int (nI q_people), .ref m_secrets, .ref m_tried, .ref m_lanes, .ref m_lengths, .ref m_cells])), (m_manys, .inl (E.2.1 1, 18, .inl f_manys)), (m_reals, .inl (E.2.1 1, 18, .inl f_reals)), (m_factsOf, .inl (E.2.1 1, 432, .inl f_factsOf)), (m_possible, .inl (E.2.1 1, 1728, .inl f_possible)), (m_heaps, .inl (E.2.1 1, 2400, .inl g_h)), (m_led, .inl (E.2.1 2, 192, .inr (.inl g_l)))]) C hT [0, 1, 2, 3, 4, 5, 6] rfl rfl rfl rfl dX12_layHeaps_250 (⟨rr, ((cN f_manys 0) + (cN f_manys b)), g_h, g_l, rfl, (by omega), rfl, hli, hra, (hrs (by omega))⟩)
              · have zc_5 : ((mo : Nat) : Int) ≠ 0 := i_ne (nI_toInt (n := mo) (by omega)) rfl c_5
                have hcl := cbS_le g_h rr (cN f_manys 0 + cN f_manys b)
                have hrr1 := hrr (by omega)
                refine ww_iconst (v := 0) C dX12_layHeaps_89 rfl ?_
                refine ww_istore_n (lv' := [(3, .int 0), (0, .ref hm), (1, .int 0), (2, .int (nI b))]) C dX12_layHeaps_90 rfl rfl rfl ?_
                refine ww_iconst (v := 0) C dX12_layHeaps_91 rfl ?_
                refine ww_istore (lv' := [(4, .int 0), (3, .int 0), (0, .ref hm), (1, .int 0), (2, .int (nI b))]) C dX12_layHeaps_92 rfl rfl ?_
                have loop_94 : ∀ (fu : Nat) (w2 : Nat) (g_l2 : Nat → Int64), (w2 ≤ (cN f_manys 0 + cN f_manys b)) → (LKr (cm2 (pgs f_manys f_reals f_factsOf f_possible 0) (pgs f_manys f_reals f_factsOf f_possible b)) (rk (cm2 (pgs f_manys f_reals f_factsOf f_possible 0) (pgs f_manys f_reals f_factsOf f_possible b)) rr) w2 0 g_l2) → (cN f_manys 0 + cN f_manys b) - w2 < fu → WW X 6 E 94 [(4, .int (nI w2)), (3, .int 0), (0, .ref hm), (1, .int 0), (2, .int (nI b))] [] [(hm, .inr (12, [.ref m_manys, .ref m_reals, .ref m_factsOf, .ref m_possible, .int (nI q_undos), .int (nI q_models), .ref m_tape, .int (nI q_taped), .int q_fault, .int q_wrong, .int q_wrongAt, .int q_spot, .int q_place, .int q_token, .int q_value, .ref m_ends, .ref m_letters, .ref m_actOf, .ref m_whom, .ref m_actMany, .ref m_tokens, .ref m_afters, .ref m_afterOf, .int q_counted, .ref m_pile, .ref m_caseMany, .ref m_happen, .ref m_hasIf, .ref m_becomes, .ref m_goneOf, .ref m_heard, .ref m_pairs, .ref m_heaps, .int (nI rr), .int (nI ((cN f_manys 0) + (cN f_manys b))), .ref m_led, .ref m_newAt, .ref m_knowing, .ref m_firsts, .int (nI q_people), .ref m_secrets, .ref m_tried, .ref m_lanes, .ref m_lengths, .ref m_cells])), (m_manys, .inl (E.2.1 1, 18, .inl f_manys)), (m_reals, .inl (E.2.1 1, 18, .inl f_reals)), (m_factsOf, .inl (E.2.1 1, 432, .inl f_factsOf)), (m_possible, .inl (E.2.1 1, 1728, .inl f_possible)), (m_heaps, .inl (E.2.1 1, 2400, .inl g_h)), (m_led, .inl (E.2.1 2, 192, .inr (.inl g_l2)))] 0 0 := by
                  intro fu
                  induction fu with
                  | zero => intro w2 g_l2 hw2 hlk hmeas; exact absurd hmeas (Nat.not_lt_zero _)
                  | succ fu ih_94 =>
                    intro w2 g_l2 hw2 hlk hmeas
                    refine ww_iload C dX12_layHeaps_94 0 rfl ?_
                    refine ww_aload_n C dX12_layHeaps_96 2 rfl rfl ?_
                    refine ww_get C fg_X12_282 0 rfl rfl dX12_layHeaps_97 ?_
                    refine ww_icmp_ge (tgt := 150) C dX12_layHeaps_100 (by decide) (fun c_6 => ?_) (fun c_6 => ?_)
                    · have zc_6 : ((w2 : Nat) : Int) ≥ (((cN f_manys 0) + (cN f_manys b) : Nat) : Int) := i_le (nI_toInt (n := (cN f_manys 0) + (cN f_manys b)) (by omega)) (nI_toInt (n := w2) (by omega)) c_6
                      refine ww_iconst (v := 0) C dX12_layHeaps_150 rfl ?_
                      refine ww_istore (lv' := [(4, .int 0), (3, .int 0), (0, .ref hm), (1, .int 0), (2, .int (nI b))]) C dX12_layHeaps_151 rfl rfl ?_
                      have loop_153 : ∀ (fu : Nat) (w3 : Nat) (m3 : Nat) (g_h3 : Nat → Int32), (w3 ≤ (cN f_manys 0 + cN f_manys b)) → (m3 ≤ 1) → (KP (48 * (rr + 1)) g_h g_h3) → (LA2 w3 g_h rr g_l2 g_h3) → (m3 = 1 → MOR w3 g_h rr g_h3) → (m3 = 0 → ∀ w, w < w3 → rowH g_h3 (rr + 1) w = rowH g_h rr w) → (cN f_manys 0 + cN f_manys b) - w3 < fu → WW X 6 E 153 [(4, .int (nI w3)), (3, .int (nI m3)), (0, .ref hm), (1, .int 0), (2, .int (nI b))] [] [(hm, .inr (12, [.ref m_manys, .ref m_reals, .ref m_factsOf, .ref m_possible, .int (nI q_undos), .int (nI q_models), .ref m_tape, .int (nI q_taped), .int q_fault, .int q_wrong, .int q_wrongAt, .int q_spot, .int q_place, .int q_token, .int q_value, .ref m_ends, .ref m_letters, .ref m_actOf, .ref m_whom, .ref m_actMany, .ref m_tokens, .ref m_afters, .ref m_afterOf, .int q_counted, .ref m_pile, .ref m_caseMany, .ref m_happen, .ref m_hasIf, .ref m_becomes, .ref m_goneOf, .ref m_heard, .ref m_pairs, .ref m_heaps, .int (nI rr), .int (nI ((cN f_manys 0) + (cN f_manys b))), .ref m_led, .ref m_newAt, .ref m_knowing, .ref m_firsts, .int (nI q_people), .ref m_secrets, .ref m_tried, .ref m_lanes, .ref m_lengths, .ref m_cells])), (m_manys, .inl (E.2.1 1, 18, .inl f_manys)), (m_reals, .inl (E.2.1 1, 18, .inl f_reals)), (m_factsOf, .inl (E.2.1 1, 432, .inl f_factsOf)), (m_possible, .inl (E.2.1 1, 1728, .inl f_possible)), (m_heaps, .inl (E.2.1 1, 2400, .inl g_h3)), (m_led, .inl (E.2.1 2, 192, .inr (.inl g_l2)))] 0 0 := by
                        intro fu
                        induction fu with
                        | zero => intro w3 m3 g_h3 hw3 hm3 hkp hla hmo3 hmz3 hmeas; exact absurd hmeas (Nat.not_lt_zero _)
                        | succ fu ih_153 =>
                          intro w3 m3 g_h3 hw3 hm3 hkp hla hmo3 hmz3 hmeas
                          refine ww_iload C dX12_layHeaps_153 0 rfl ?_
                          refine ww_aload_n C dX12_layHeaps_155 2 rfl rfl ?_
                          refine ww_get C fg_X12_282 0 rfl rfl dX12_layHeaps_156 ?_
                          refine ww_icmp_ge (tgt := 237) C dX12_layHeaps_159 (by decide) (fun c_7 => ?_) (fun c_7 => ?_)
                          · have zc_7 : ((w3 : Nat) : Int) ≥ (((cN f_manys 0) + (cN f_manys b) : Nat) : Int) := i_le (nI_toInt (n := (cN f_manys 0) + (cN f_manys b)) (by omega)) (nI_toInt (n := w3) (by omega)) c_7
                            refine ww_aload_n C dX12_layHeaps_237 2 rfl rfl ?_
                            refine ww_dup C dX12_layHeaps_238 rfl ?_
                            refine ww_get C fg_X12_288 0 rfl rfl dX12_layHeaps_239 ?_
                            refine ww_iconst (v := 1) C dX12_layHeaps_242 rfl ?_
                            refine ww_iadd (v := (nI (rr + 1))) C dX12_layHeaps_243 (nI_add rr 1) ?_
                            refine ww_put (ws' := [(hm, .inr (12, [.ref m_manys, .ref m_reals, .ref m_factsOf, .ref m_possible, .int (nI q_undos), .int (nI q_models), .ref m_tape, .int (nI q_taped), .int q_fault, .int q_wrong, .int q_wrongAt, .int q_spot, .int q_place, .int q_token, .int q_value, .ref m_ends, .ref m_letters, .ref m_actOf, .ref m_whom, .ref m_actMany, .ref m_tokens, .ref m_afters, .ref m_afterOf, .int q_counted, .ref m_pile, .ref m_caseMany, .ref m_happen, .ref m_hasIf, .ref m_becomes, .ref m_goneOf, .ref m_heard, .ref m_pairs, .ref m_heaps, .int (nI (rr + 1)), .int (nI ((cN f_manys 0) + (cN f_manys b))), .ref m_led, .ref m_newAt, .ref m_knowing, .ref m_firsts, .int (nI q_people), .ref m_secrets, .ref m_tried, .ref m_lanes, .ref m_lengths, .ref m_cells])), (m_manys, .inl (E.2.1 1, 18, .inl f_manys)), (m_reals, .inl (E.2.1 1, 18, .inl f_reals)), (m_factsOf, .inl (E.2.1 1, 432, .inl f_factsOf)), (m_possible, .inl (E.2.1 1, 1728, .inl f_possible)), (m_heaps, .inl (E.2.1 1, 2400, .inl g_h3)), (m_led, .inl (E.2.1 2, 192, .inr (.inl g_l2)))]) C fp_X12_288 0 rfl rfl rfl rfl rfl dX12_layHeaps_244 ?_
                            refine ww_goto (tgt := 85) C dX12_layHeaps_247 (by decide) ?_
                            exact ww_lv [1, 2, 3, 4] rfl (ww_sub [0, 1, 2, 3, 4, 5, 6] rfl rfl (ih_85 (rr + 1) m3 g_h3 g_l2 (by omega) (RKA.ext hra (show (cN f_manys 0 + cN f_manys b) ≤ 48 by omega) hkp (la2_rk (show (cN f_manys 0 + cN f_manys b) ≤ 48 by omega) (hra rr (Nat.le_refl _)) (by have h7 : w2 = (cN f_manys 0 + cN f_manys b) := (by omega); rw [h7] at hlk; exact hlk) (by have h7 : w3 = (cN f_manys 0 + cN f_manys b) := (by omega); rw [h7] at hla; exact hla))) (fun h9 => ⟨rr, rfl, (show rr ≤ (cN f_manys 0 + cN f_manys b) by omega), rk_same (show (cN f_manys 0 + cN f_manys b) ≤ 48 by omega) (hra rr (Nat.le_refl _)) (la2_rk (show (cN f_manys 0 + cN f_manys b) ≤ 48 by omega) (hra rr (Nat.le_refl _)) (by have h7 : w2 = (cN f_manys 0 + cN f_manys b) := (by omega); rw [h7] at hlk; exact hlk) (by have h7 : w3 = (cN f_manys 0 + cN f_manys b) := (by omega); rw [h7] at hla; exact hla)) (by have h7 : w3 = (cN f_manys 0 + cN f_manys b) := (by omega); have h6 := hmz3 h9; rw [h7] at h6; exact h6)⟩) (fun h9 => by have h8 := cbS_lt (by omega) hli (by have h7 : w3 = (cN f_manys 0 + cN f_manys b) := (by omega); rw [h7] at hla; exact hla) (by have h7 : w3 = (cN f_manys 0 + cN f_manys b) := (by omega); rw [h7] at hmo3; exact hmo3 h9); have h6 := hrr (by omega); omega) (by have h8 := cbS_le g_h rr (cN f_manys 0 + cN f_manys b); have h9 := hrr (by omega); omega) (by have h7 : w3 = (cN f_manys 0 + cN f_manys b) := (by omega); rw [h7] at hla; exact hla.LI) (by omega)))
                          · have zc_7 : ((w3 : Nat) : Int) < (((cN f_manys 0) + (cN f_manys b) : Nat) : Int) := i_nle (nI_toInt (n := (cN f_manys 0) + (cN f_manys b)) (by omega)) (nI_toInt (n := w3) (by omega)) c_7
                            refine ww_iconst (v := 0) C dX12_layHeaps_162 rfl ?_
                            refine ww_istore (lv' := [(5, .int 0), (4, .int (nI w3)), (3, .int (nI m3)), (0, .ref hm), (1, .int 0), (2, .int (nI b))]) C dX12_layHeaps_163 rfl rfl ?_
                            have loop_165 : ∀ (fu : Nat) (v5 : Nat), (v5 ≤ w3) → (∀ u, u < v5 → ¬ ALR g_h rr g_l2 u w3) → w3 - v5 + 1 < fu → WW X 6 E 165 [(5, .int (nI v5)), (4, .int (nI w3)), (3, .int (nI m3)), (0, .ref hm), (1, .int 0), (2, .int (nI b))] [] [(hm, .inr (12, [.ref m_manys, .ref m_reals, .ref m_factsOf, .ref m_possible, .int (nI q_undos), .int (nI q_models), .ref m_tape, .int (nI q_taped), .int q_fault, .int q_wrong, .int q_wrongAt, .int q_spot, .int q_place, .int q_token, .int q_value, .ref m_ends, .ref m_letters, .ref m_actOf, .ref m_whom, .ref m_actMany, .ref m_tokens, .ref m_afters, .ref m_afterOf, .int q_counted, .ref m_pile, .ref m_caseMany, .ref m_happen, .ref m_hasIf, .ref m_becomes, .ref m_goneOf, .ref m_heard, .ref m_pairs, .ref m_heaps, .int (nI rr), .int (nI ((cN f_manys 0) + (cN f_manys b))), .ref m_led, .ref m_newAt, .ref m_knowing, .ref m_firsts, .int (nI q_people), .ref m_secrets, .ref m_tried, .ref m_lanes, .ref m_lengths, .ref m_cells])), (m_manys, .inl (E.2.1 1, 18, .inl f_manys)), (m_reals, .inl (E.2.1 1, 18, .inl f_reals)), (m_factsOf, .inl (E.2.1 1, 432, .inl f_factsOf)), (m_possible, .inl (E.2.1 1, 1728, .inl f_possible)), (m_heaps, .inl (E.2.1 1, 2400, .inl g_h3)), (m_led, .inl (E.2.1 2, 192, .inr (.inl g_l2)))] 0 0 := by
                              intro fu
                              induction fu with
                              | zero => intro v5 hv5 hu5 hmeas; exact absurd hmeas (Nat.not_lt_zero _)
                              | succ fu ih_165 =>
                                intro v5 hv5 hu5 hmeas
                                refine ww_aload_n C dX12_layHeaps_165 3 rfl rfl ?_
                                refine ww_iload C dX12_layHeaps_166 0 rfl ?_
                                refine ww_iload C dX12_layHeaps_168 1 rfl ?_
                                refine ww_ci (wr := [(m_manys, .inl (E.2.1 1, 18, .inl f_manys)), (m_reals, .inl (E.2.1 1, 18, .inl f_reals)), (m_factsOf, .inl (E.2.1 1, 432, .inl f_factsOf)), (m_possible, .inl (E.2.1 1, 1728, .inl f_possible))]) (k' := 0) (n' := 0) C (run_V (As := [.int (nI v5), .int (nI w3)]) (rest := []) C (r_areAlike X.2.1 E ro hm v5 w3 m_manys m_reals m_factsOf m_possible q_undos q_models m_tape q_taped q_fault q_wrong q_wrongAt q_spot q_place q_token q_value m_ends m_letters m_actOf m_whom m_actMany m_tokens m_afters m_afterOf q_counted m_pile m_caseMany m_happen m_hasIf m_becomes m_goneOf m_heard m_pairs m_heaps rr (nI ((cN f_manys 0) + (cN f_manys b))) m_led m_newAt m_knowing m_firsts q_people m_secrets m_tried m_lanes m_lengths m_cells g_h3 g_l2 (by omega) (by omega) (by omega)) mi_X12_areAlike wl_X12_295 rfl 0 12 rfl rfl rfl rfl rfl dX12_layHeaps_170) (roK hro) [0, 5, 6] [1, 2, 3, 4] rfl rfl rfl rfl (fun r_8 uz hw => ?_)
                                rcases hw with hw | hw
                                · refine an2 hw ?_
                                  clear hw
                                  intro he_10 he_11 hw
                                  have h_9 := hw
                                  clear hw
                                  have he_10 := he_10.symm
                                  subst he_10
                                  subst he_11
                                  refine ww_eq (ws' := [(m_manys, .inl (E.2.1 1, 18, .inl f_manys)), (m_reals, .inl (E.2.1 1, 18, .inl f_reals)), (m_factsOf, .inl (E.2.1 1, 432, .inl f_factsOf)), (m_possible, .inl (E.2.1 1, 1728, .inl f_possible)), (hm, .inr (12, [.ref m_manys, .ref m_reals, .ref m_factsOf, .ref m_possible, .int (nI q_undos), .int (nI q_models), .ref m_tape, .int (nI q_taped), .int q_fault, .int q_wrong, .int q_wrongAt, .int q_spot, .int q_place, .int q_token, .int q_value, .ref m_ends, .ref m_letters, .ref m_actOf, .ref m_whom, .ref m_actMany, .ref m_tokens, .ref m_afters, .ref m_afterOf, .int q_counted, .ref m_pile, .ref m_caseMany, .ref m_happen, .ref m_hasIf, .ref m_becomes, .ref m_goneOf, .ref m_heard, .ref m_pairs, .ref m_heaps, .int (nI rr), .int (nI ((cN f_manys 0) + (cN f_manys b))), .ref m_led, .ref m_newAt, .ref m_knowing, .ref m_firsts, .int (nI q_people), .ref m_secrets, .ref m_tried, .ref m_lanes, .ref m_lengths, .ref m_cells])), (m_heaps, .inl (E.2.1 1, 2400, .inl g_h3)), (m_led, .inl (E.2.1 2, 192, .inr (.inl g_l2)))]) ?_ rfl rfl rfl
                                  refine ww_if_ne_t (tgt := 182) C dX12_layHeaps_173 (by decide) (by decide) ?_
                                  refine ww_aload_n C dX12_layHeaps_182 3 rfl rfl ?_
                                  refine ww_get C fg_X12_74 4 rfl rfl dX12_layHeaps_183 ?_
                                  refine ww_bipush (v := 48) C dX12_layHeaps_186 rfl ?_
                                  refine ww_aload_n C dX12_layHeaps_188 3 rfl rfl ?_
                                  refine ww_get C fg_X12_288 4 rfl rfl dX12_layHeaps_189 ?_
                                  refine ww_iconst (v := 1) C dX12_layHeaps_192 rfl ?_
                                  refine ww_iadd (v := (nI (rr + 1))) C dX12_layHeaps_193 (nI_add rr 1) ?_
                                  refine ww_imul (v := (nI (48 * (rr + 1)))) C dX12_layHeaps_194 (pk_mul 48 (rr + 1)) ?_
                                  refine ww_iload C dX12_layHeaps_195 1 rfl ?_
                                  refine ww_iadd (v := (nI ((48 * (rr + 1)) + w3))) C dX12_layHeaps_197 (nI_add (48 * (rr + 1)) w3) ?_
                                  refine ww_iload C dX12_layHeaps_198 0 rfl ?_
                                  obtain ⟨f_15, ef_15⟩ : ∃ z : Nat → Int32, upd g_h3 ((48 * (rr + 1)) + w3) (nI v5) = z := ⟨_, rfl⟩
                                  refine ww_iast (ws' := [(m_manys, .inl (E.2.1 1, 18, .inl f_manys)), (m_reals, .inl (E.2.1 1, 18, .inl f_reals)), (m_factsOf, .inl (E.2.1 1, 432, .inl f_factsOf)), (m_possible, .inl (E.2.1 1, 1728, .inl f_possible)), (hm, .inr (12, [.ref m_manys, .ref m_reals, .ref m_factsOf, .ref m_possible, .int (nI q_undos), .int (nI q_models), .ref m_tape, .int (nI q_taped), .int q_fault, .int q_wrong, .int q_wrongAt, .int q_spot, .int q_place, .int q_token, .int q_value, .ref m_ends, .ref m_letters, .ref m_actOf, .ref m_whom, .ref m_actMany, .ref m_tokens, .ref m_afters, .ref m_afterOf, .int q_counted, .ref m_pile, .ref m_caseMany, .ref m_happen, .ref m_hasIf, .ref m_becomes, .ref m_goneOf, .ref m_heard, .ref m_pairs, .ref m_heaps, .int (nI rr), .int (nI ((cN f_manys 0) + (cN f_manys b))), .ref m_led, .ref m_newAt, .ref m_knowing, .ref m_firsts, .int (nI q_people), .ref m_secrets, .ref m_tried, .ref m_lanes, .ref m_lengths, .ref m_cells])), (m_heaps, .inl (E.2.1 1, 2400, .inl f_15)), (m_led, .inl (E.2.1 2, 192, .inr (.inl g_l2)))]) C 5 rfl (vp_in_nI (by omega) (by omega)) (ldn2 (by omega) ef_15) rfl dX12_layHeaps_200 ?_
                                  refine ww_iload_n C dX12_layHeaps_201 2 rfl rfl ?_
                                  refine ww_if_ne (tgt := 225) C dX12_layHeaps_202 (by decide) (fun c_16 => ?_) (fun c_16 => ?_)
                                  · have zc_16 : ((m3 : Nat) : Int) ≠ 0 := i_ne (nI_toInt (n := m3) (by omega)) rfl c_16
                                    refine ww_iconst (v := 1) C dX12_layHeaps_225 rfl ?_
                                    refine ww_goto (tgt := 230) C dX12_layHeaps_226 (by decide) ?_
                                    refine ww_istore_n (lv' := [(3, .int 1), (5, .int (nI v5)), (4, .int (nI w3)), (0, .ref hm), (1, .int 0), (2, .int (nI b))]) C dX12_layHeaps_230 rfl rfl rfl ?_
                                    refine ww_iinc (j := 2) (v := (nI (w3 + 1))) (lv' := [(4, .int (nI (w3 + 1))), (3, .int 1), (5, .int (nI v5)), (0, .ref hm), (1, .int 0), (2, .int (nI b))]) C dX12_layHeaps_231 rfl (nI_add w3 1) rfl rfl ?_
                                    refine ww_goto (tgt := 153) C dX12_layHeaps_234 (by decide) ?_
                                    exact ww_lv [0, 1, 3, 4, 5] rfl (ww_sub [4, 0, 1, 2, 3, 5, 6] rfl rfl (ih_153 (w3 + 1) 1 f_15 (by omega) (by omega) (KP.put hkp (by omega) ef_15) (LA2.ext hla hv5 (ALR.kp hkp (by omega) (by omega) (by assumption)) hu5 ef_15) (fun _ => by first | exact MOR.ext (hmo3 (by omega)) ef_15 | exact MOR.new (by omega) (KP.put hkp (by omega) ef_15) ef_15 (by assumption) (fun h9 => by have h8 := nI_toInt (n := v5) (by omega); rw [h9] at h8; omega)) (fun h9 => absurd h9 (by decide)) (by omega)))
                                  · have zc_16 : ((m3 : Nat) : Int) = 0 := i_eq (nI_toInt (n := m3) (by omega)) rfl c_16
                                    refine ww_iload C dX12_layHeaps_205 0 rfl ?_
                                    refine ww_aload_n C dX12_layHeaps_207 3 rfl rfl ?_
                                    refine ww_get C fg_X12_74 4 rfl rfl dX12_layHeaps_208 ?_
                                    refine ww_bipush (v := 48) C dX12_layHeaps_211 rfl ?_
                                    refine ww_aload_n C dX12_layHeaps_213 3 rfl rfl ?_
                                    refine ww_get C fg_X12_288 4 rfl rfl dX12_layHeaps_214 ?_
                                    refine ww_imul (v := (nI (48 * rr))) C dX12_layHeaps_217 (pk_mul 48 rr) ?_
                                    refine ww_iload C dX12_layHeaps_218 1 rfl ?_
                                    refine ww_iadd (v := (nI ((48 * rr) + w3))) C dX12_layHeaps_220 (nI_add (48 * rr) w3) ?_
                                    obtain ⟨x_17, ex_17⟩ : ∃ z : Int32, f_15 ((48 * rr) + w3) = z := ⟨_, rfl⟩
                                    refine ww_iald (v := x_17) C 5 rfl (vp_in_nI (by omega) (by omega)) (ldn (by omega) ex_17) dX12_layHeaps_221 ?_
                                    refine ww_icmp_eq (tgt := 229) C dX12_layHeaps_222 (by decide) (fun c_18 => ?_) (fun c_18 => ?_)
                                    · have zc_18 : ((v5 : Nat) : Int) = x_17.toInt := i_eq (nI_toInt (n := v5) (by omega)) rfl c_18
                                      refine ww_iconst (v := 0) C dX12_layHeaps_229 rfl ?_
                                      refine ww_istore_n (lv' := [(3, .int 0), (5, .int (nI v5)), (4, .int (nI w3)), (0, .ref hm), (1, .int 0), (2, .int (nI b))]) C dX12_layHeaps_230 rfl rfl rfl ?_
                                      refine ww_iinc (j := 2) (v := (nI (w3 + 1))) (lv' := [(4, .int (nI (w3 + 1))), (3, .int 0), (5, .int (nI v5)), (0, .ref hm), (1, .int 0), (2, .int (nI b))]) C dX12_layHeaps_231 rfl (nI_add w3 1) rfl rfl ?_
                                      refine ww_goto (tgt := 153) C dX12_layHeaps_234 (by decide) ?_
                                      exact ww_lv [0, 1, 3, 4, 5] rfl (ww_sub [4, 0, 1, 2, 3, 5, 6] rfl rfl (ih_153 (w3 + 1) 0 f_15 (by omega) (by omega) (KP.put hkp (by omega) ef_15) (LA2.ext hla hv5 (ALR.kp hkp (by omega) (by omega) (by assumption)) hu5 ef_15) (fun h => absurd h (by decide)) (fun _ => MZ_ext (hmz3 (by omega)) (by omega) (KP.put hkp (by omega) ef_15) ef_15 (by assumption) (by assumption)) (by omega)))
                                    · have zc_18 : ((v5 : Nat) : Int) ≠ x_17.toInt := i_ne (nI_toInt (n := v5) (by omega)) rfl c_18
                                      refine ww_iconst (v := 1) C dX12_layHeaps_225 rfl ?_
                                      refine ww_goto (tgt := 230) C dX12_layHeaps_226 (by decide) ?_
                                      refine ww_istore_n (lv' := [(3, .int 1), (5, .int (nI v5)), (4, .int (nI w3)), (0, .ref hm), (1, .int 0), (2, .int (nI b))]) C dX12_layHeaps_230 rfl rfl rfl ?_
                                      refine ww_iinc (j := 2) (v := (nI (w3 + 1))) (lv' := [(4, .int (nI (w3 + 1))), (3, .int 1), (5, .int (nI v5)), (0, .ref hm), (1, .int 0), (2, .int (nI b))]) C dX12_layHeaps_231 rfl (nI_add w3 1) rfl rfl ?_
                                      refine ww_goto (tgt := 153) C dX12_layHeaps_234 (by decide) ?_
                                      exact ww_lv [0, 1, 3, 4, 5] rfl (ww_sub [4, 0, 1, 2, 3, 5, 6] rfl rfl (ih_153 (w3 + 1) 1 f_15 (by omega) (by omega) (KP.put hkp (by omega) ef_15) (LA2.ext hla hv5 (ALR.kp hkp (by omega) (by omega) (by assumption)) hu5 ef_15) (fun _ => by first | exact MOR.ext (hmo3 (by omega)) ef_15 | exact MOR.new (by omega) (KP.put hkp (by omega) ef_15) ef_15 (by assumption) (fun h9 => by have h8 := nI_toInt (n := v5) (by omega); rw [h9] at h8; omega)) (fun h9 => absurd h9 (by decide)) (by omega)))
                                · refine an2 hw ?_
                                  clear hw
                                  intro he_13 he_14 hw
                                  have h_12 := hw
                                  clear hw
                                  have he_13 := he_13.symm
                                  subst he_13
                                  subst he_14
                                  refine ww_eq (ws' := [(m_manys, .inl (E.2.1 1, 18, .inl f_manys)), (m_reals, .inl (E.2.1 1, 18, .inl f_reals)), (m_factsOf, .inl (E.2.1 1, 432, .inl f_factsOf)), (m_possible, .inl (E.2.1 1, 1728, .inl f_possible)), (hm, .inr (12, [.ref m_manys, .ref m_reals, .ref m_factsOf, .ref m_possible, .int (nI q_undos), .int (nI q_models), .ref m_tape, .int (nI q_taped), .int q_fault, .int q_wrong, .int q_wrongAt, .int q_spot, .int q_place, .int q_token, .int q_value, .ref m_ends, .ref m_letters, .ref m_actOf, .ref m_whom, .ref m_actMany, .ref m_tokens, .ref m_afters, .ref m_afterOf, .int q_counted, .ref m_pile, .ref m_caseMany, .ref m_happen, .ref m_hasIf, .ref m_becomes, .ref m_goneOf, .ref m_heard, .ref m_pairs, .ref m_heaps, .int (nI rr), .int (nI ((cN f_manys 0) + (cN f_manys b))), .ref m_led, .ref m_newAt, .ref m_knowing, .ref m_firsts, .int (nI q_people), .ref m_secrets, .ref m_tried, .ref m_lanes, .ref m_lengths, .ref m_cells])), (m_heaps, .inl (E.2.1 1, 2400, .inl g_h3)), (m_led, .inl (E.2.1 2, 192, .inr (.inl g_l2)))]) ?_ rfl rfl rfl
                                  refine ww_if_ne_f (tgt := 182) C dX12_layHeaps_173 (by decide) (rfl) ?_
                                  refine ww_iinc (j := 0) (v := (nI (v5 + 1))) (lv' := [(5, .int (nI (v5 + 1))), (4, .int (nI w3)), (3, .int (nI m3)), (0, .ref hm), (1, .int 0), (2, .int (nI b))]) C dX12_layHeaps_176 rfl (nI_add v5 1) rfl rfl ?_
                                  refine ww_goto (tgt := 165) C dX12_layHeaps_179 (by decide) ?_
                                  exact ww_lv [0, 1, 2, 3, 4, 5] rfl (ww_sub [4, 0, 1, 2, 3, 5, 6] rfl rfl (ih_165 (v5 + 1) (Nat.lt_of_le_of_ne hv5 (fun h9 => by subst h9; exact (by assumption : ¬ ALR _ _ _ _ _) ALR.rf)) (fun u hu => if hk : u = v5 then (fun h9 => (by assumption : ¬ ALR _ _ _ v5 w3) (ALR.kp' hkp (by omega) (by omega) (hk ▸ h9))) else hu5 u (by omega)) (by have h8 : v5 < w3 := Nat.lt_of_le_of_ne hv5 (fun h9 => by subst h9; exact (by assumption : ¬ ALR _ _ _ _ _) ALR.rf); omega)))
                            exact ww_lv [0, 1, 2, 3, 4, 5] rfl (ww_sub [0, 1, 2, 3, 4, 5, 6] rfl rfl (loop_165 _ 0 (by omega) (fun u h => absurd h (Nat.not_lt_zero _)) (Nat.lt_succ_self _)))
                      exact ww_lv [0, 1, 2, 3, 4] rfl (ww_sub [0, 1, 2, 3, 4, 5, 6] rfl rfl (loop_153 _ 0 0 g_h (by omega) (by omega) KP.rf LA2.zero (fun h => absurd h (by decide)) (fun _ w h => absurd h (Nat.not_lt_zero _)) (Nat.lt_succ_self _)))
                    · have zc_6 : ((w2 : Nat) : Int) < (((cN f_manys 0) + (cN f_manys b) : Nat) : Int) := i_nle (nI_toInt (n := (cN f_manys 0) + (cN f_manys b)) (by omega)) (nI_toInt (n := w2) (by omega)) c_6
                      refine ww_iconst (v := 0) C dX12_layHeaps_103 rfl ?_
                      refine ww_istore (lv' := [(5, .int 0), (4, .int (nI w2)), (3, .int 0), (0, .ref hm), (1, .int 0), (2, .int (nI b))]) C dX12_layHeaps_104 rfl rfl ?_
                      have loop_106 : ∀ (fu : Nat) (k2 : Nat) (g_l3 : Nat → Int64), (k2 ≤ 4) → (LKr (cm2 (pgs f_manys f_reals f_factsOf f_possible 0) (pgs f_manys f_reals f_factsOf f_possible b)) (rk (cm2 (pgs f_manys f_reals f_factsOf f_possible 0) (pgs f_manys f_reals f_factsOf f_possible b)) rr) w2 k2 g_l3) → 4 - k2 < fu → WW X 6 E 106 [(5, .int (nI k2)), (4, .int (nI w2)), (3, .int 0), (0, .ref hm), (1, .int 0), (2, .int (nI b))] [] [(hm, .inr (12, [.ref m_manys, .ref m_reals, .ref m_factsOf, .ref m_possible, .int (nI q_undos), .int (nI q_models), .ref m_tape, .int (nI q_taped), .int q_fault, .int q_wrong, .int q_wrongAt, .int q_spot, .int q_place, .int q_token, .int q_value, .ref m_ends, .ref m_letters, .ref m_actOf, .ref m_whom, .ref m_actMany, .ref m_tokens, .ref m_afters, .ref m_afterOf, .int q_counted, .ref m_pile, .ref m_caseMany, .ref m_happen, .ref m_hasIf, .ref m_becomes, .ref m_goneOf, .ref m_heard, .ref m_pairs, .ref m_heaps, .int (nI rr), .int (nI ((cN f_manys 0) + (cN f_manys b))), .ref m_led, .ref m_newAt, .ref m_knowing, .ref m_firsts, .int (nI q_people), .ref m_secrets, .ref m_tried, .ref m_lanes, .ref m_lengths, .ref m_cells])), (m_manys, .inl (E.2.1 1, 18, .inl f_manys)), (m_reals, .inl (E.2.1 1, 18, .inl f_reals)), (m_factsOf, .inl (E.2.1 1, 432, .inl f_factsOf)), (m_possible, .inl (E.2.1 1, 1728, .inl f_possible)), (m_heaps, .inl (E.2.1 1, 2400, .inl g_h)), (m_led, .inl (E.2.1 2, 192, .inr (.inl g_l3)))] 0 0 := by
                        intro fu
                        induction fu with
                        | zero => intro k2 g_l3 hk2 hlk3 hmeas; exact absurd hmeas (Nat.not_lt_zero _)
                        | succ fu ih_106 =>
                          intro k2 g_l3 hk2 hlk3 hmeas
                          refine ww_iload C dX12_layHeaps_106 0 rfl ?_
                          refine ww_iconst (v := 4) C dX12_layHeaps_108 rfl ?_
                          refine ww_icmp_ge (tgt := 144) C dX12_layHeaps_109 (by decide) (fun c_19 => ?_) (fun c_19 => ?_)
                          · have zc_19 : ((k2 : Nat) : Int) ≥ 4 := i_le rfl (nI_toInt (n := k2) (by omega)) c_19
                            refine ww_iinc (j := 1) (v := (nI (w2 + 1))) (lv' := [(4, .int (nI (w2 + 1))), (5, .int (nI k2)), (3, .int 0), (0, .ref hm), (1, .int 0), (2, .int (nI b))]) C dX12_layHeaps_144 rfl (nI_add w2 1) rfl rfl ?_
                            refine ww_goto (tgt := 94) C dX12_layHeaps_147 (by decide) ?_
                            exact ww_lv [0, 2, 3, 4, 5] rfl (ww_sub [0, 1, 2, 3, 4, 5, 6] rfl rfl (ih_94 (w2 + 1) g_l3 (by omega) (LKr.up hlk3 (by omega)) (by omega)))
                          · have zc_19 : ((k2 : Nat) : Int) < 4 := i_nle rfl (nI_toInt (n := k2) (by omega)) c_19
                            refine ww_aload_n C dX12_layHeaps_112 3 rfl rfl ?_
                            refine ww_get C fg_X12_77 0 rfl rfl dX12_layHeaps_113 ?_
                            refine ww_iconst (v := 4) C dX12_layHeaps_116 rfl ?_
                            refine ww_iload C dX12_layHeaps_117 1 rfl ?_
                            refine ww_imul (v := (nI (4 * w2))) C dX12_layHeaps_119 (pk_mul 4 w2) ?_
                            refine ww_iload C dX12_layHeaps_120 0 rfl ?_
                            refine ww_iadd (v := (nI ((4 * w2) + k2))) C dX12_layHeaps_122 (nI_add (4 * w2) k2) ?_
                            refine ww_aload_n C dX12_layHeaps_123 3 rfl rfl ?_
                            refine ww_iload_n C dX12_layHeaps_124 4 rfl rfl ?_
                            refine ww_iload_n C dX12_layHeaps_125 5 rfl rfl ?_
                            refine ww_iload C dX12_layHeaps_126 0 rfl ?_
                            refine ww_iload C dX12_layHeaps_128 1 rfl ?_
                            refine ww_aload_n C dX12_layHeaps_130 3 rfl rfl ?_
                            refine ww_get C fg_X12_288 0 rfl rfl dX12_layHeaps_131 ?_
                            refine ww_cl (wr := [(m_led, .inl (E.2.1 2, 192, .inr (.inl g_l3)))]) (k' := 0) (n' := 0) C (run_V (As := [.int 0, .int (nI b), .int (nI k2), .int (nI w2), .int (nI rr)]) (rest := [.int (nI ((4 * w2) + k2)), .ref m_led]) C (r_ledToM X.2.1 E ro hm b k2 w2 rr m_manys m_reals m_factsOf m_possible q_undos q_models m_tape q_taped q_fault q_wrong q_wrongAt q_spot q_place q_token q_value m_ends m_letters m_actOf m_whom m_actMany m_tokens m_afters m_afterOf q_counted m_pile m_caseMany m_happen m_hasIf m_becomes m_goneOf m_heard m_pairs m_heaps (nI rr) (nI ((cN f_manys 0) + (cN f_manys b))) m_led m_newAt m_knowing m_firsts q_people m_secrets m_tried m_lanes m_lengths m_cells f_manys f_reals f_factsOf f_possible g_h hb_manys hb_reals hpg hwf (by omega) (by omega) (by omega) (by omega) (hra rr (Nat.le_refl _))) mi_X12_ledTo wl_X12_291 rfl 0 12 rfl rfl rfl rfl rfl dX12_layHeaps_134) (roK hro) [0, 1, 2, 3, 4, 5] [6] rfl rfl rfl rfl (fun r_20 uz hw => ?_)
                            refine an1 hw ?_
                            clear hw
                            intro he_22 hw
                            have h_21 := hw
                            clear hw
                            subst he_22
                            refine ww_eq (ws' := [(m_led, .inl (E.2.1 2, 192, .inr (.inl g_l3))), (hm, .inr (12, [.ref m_manys, .ref m_reals, .ref m_factsOf, .ref m_possible, .int (nI q_undos), .int (nI q_models), .ref m_tape, .int (nI q_taped), .int q_fault, .int q_wrong, .int q_wrongAt, .int q_spot, .int q_place, .int q_token, .int q_value, .ref m_ends, .ref m_letters, .ref m_actOf, .ref m_whom, .ref m_actMany, .ref m_tokens, .ref m_afters, .ref m_afterOf, .int q_counted, .ref m_pile, .ref m_caseMany, .ref m_happen, .ref m_hasIf, .ref m_becomes, .ref m_goneOf, .ref m_heard, .ref m_pairs, .ref m_heaps, .int (nI rr), .int (nI ((cN f_manys 0) + (cN f_manys b))), .ref m_led, .ref m_newAt, .ref m_knowing, .ref m_firsts, .int (nI q_people), .ref m_secrets, .ref m_tried, .ref m_lanes, .ref m_lengths, .ref m_cells])), (m_manys, .inl (E.2.1 1, 18, .inl f_manys)), (m_reals, .inl (E.2.1 1, 18, .inl f_reals)), (m_factsOf, .inl (E.2.1 1, 432, .inl f_factsOf)), (m_possible, .inl (E.2.1 1, 1728, .inl f_possible)), (m_heaps, .inl (E.2.1 1, 2400, .inl g_h))]) ?_ rfl rfl rfl
                            obtain ⟨f_23, ef_23⟩ : ∃ z : Nat → Int64, vp_updL g_l3 ((4 * w2) + k2) r_20 = z := ⟨_, rfl⟩
                            refine ww_last (ws' := [(m_led, .inl (E.2.1 2, 192, .inr (.inl f_23))), (hm, .inr (12, [.ref m_manys, .ref m_reals, .ref m_factsOf, .ref m_possible, .int (nI q_undos), .int (nI q_models), .ref m_tape, .int (nI q_taped), .int q_fault, .int q_wrong, .int q_wrongAt, .int q_spot, .int q_place, .int q_token, .int q_value, .ref m_ends, .ref m_letters, .ref m_actOf, .ref m_whom, .ref m_actMany, .ref m_tokens, .ref m_afters, .ref m_afterOf, .int q_counted, .ref m_pile, .ref m_caseMany, .ref m_happen, .ref m_hasIf, .ref m_becomes, .ref m_goneOf, .ref m_heard, .ref m_pairs, .ref m_heaps, .int (nI rr), .int (nI ((cN f_manys 0) + (cN f_manys b))), .ref m_led, .ref m_newAt, .ref m_knowing, .ref m_firsts, .int (nI q_people), .ref m_secrets, .ref m_tried, .ref m_lanes, .ref m_lengths, .ref m_cells])), (m_manys, .inl (E.2.1 1, 18, .inl f_manys)), (m_reals, .inl (E.2.1 1, 18, .inl f_reals)), (m_factsOf, .inl (E.2.1 1, 432, .inl f_factsOf)), (m_possible, .inl (E.2.1 1, 1728, .inl f_possible)), (m_heaps, .inl (E.2.1 1, 2400, .inl g_h))]) C 0 rfl (vp_in_nI (by omega) (by omega)) (ldn2 (by omega) ef_23) rfl dX12_layHeaps_137 ?_
                            refine ww_iinc (j := 0) (v := (nI (k2 + 1))) (lv' := [(5, .int (nI (k2 + 1))), (4, .int (nI w2)), (3, .int 0), (0, .ref hm), (1, .int 0), (2, .int (nI b))]) C dX12_layHeaps_138 rfl (nI_add k2 1) rfl rfl ?_
                            refine ww_goto (tgt := 106) C dX12_layHeaps_141 (by decide) ?_
                            exact ww_lv [0, 1, 2, 3, 4, 5] rfl (ww_sub [1, 2, 3, 4, 5, 6, 0] rfl rfl (ih_106 (k2 + 1) f_23 (by omega) (LKr.ext hlk3 (by omega) h_21 ef_23) (by omega)))
                      exact ww_lv [0, 1, 2, 3, 4, 5] rfl (ww_sub [0, 1, 2, 3, 4, 5, 6] rfl rfl (loop_106 _ 0 g_l2 (by omega) hlk (Nat.lt_succ_self _)))
                exact ww_lv [0, 1, 2, 3, 4] rfl (ww_sub [0, 1, 2, 3, 4, 5, 6] rfl rfl (loop_94 _ 0 g_l (by omega) LKr.nil (Nat.lt_succ_self _)))
          exact ww_lv [0, 1, 2, 3] rfl (ww_sub [0, 1, 2, 3, 4, 5, 6] rfl rfl (loop_85 _ 0 1 g1 f_led (by omega) (RKA.z (hb_rk fx_2 (by have h7 : w1 = (cN f_manys 0 + cN f_manys b) := (by omega); rw [h7] at hbx; exact hbx))) (fun h9 => absurd h9 (by decide)) (fun _ => Nat.zero_le _) (by omega) (by rw [rowH_0]; have h7 : w1 = (cN f_manys 0 + cN f_manys b) := (by omega); rw [← h7]; exact HBx.LI hbx (by omega)) (Nat.lt_succ_self _)))
        · have zc_4 : ((w1 : Nat) : Int) < (((cN f_manys 0) + (cN f_manys b) : Nat) : Int) := i_nle (nI_toInt (n := (cN f_manys 0) + (cN f_manys b)) (by omega)) (nI_toInt (n := w1) (by omega)) c_4
          refine ww_iconst (v := 0) C dX12_layHeaps_37 rfl ?_
          refine ww_istore (lv' := [(4, .int 0), (3, .int (nI w1)), (0, .ref hm), (1, .int 0), (2, .int (nI b))]) C dX12_layHeaps_38 rfl rfl ?_
          have loop_40 : ∀ (fu : Nat) (v1 : Nat), (v1 ≤ w1) → (∀ u, u < v1 → (fxR (cN f_manys 0) f_factsOf b) u ≠ (fxR (cN f_manys 0) f_factsOf b) w1) → w1 - v1 + 1 < fu → WW X 6 E 40 [(4, .int (nI v1)), (3, .int (nI w1)), (0, .ref hm), (1, .int 0), (2, .int (nI b))] [] [(hm, .inr (12, [.ref m_manys, .ref m_reals, .ref m_factsOf, .ref m_possible, .int (nI q_undos), .int (nI q_models), .ref m_tape, .int (nI q_taped), .int q_fault, .int q_wrong, .int q_wrongAt, .int q_spot, .int q_place, .int q_token, .int q_value, .ref m_ends, .ref m_letters, .ref m_actOf, .ref m_whom, .ref m_actMany, .ref m_tokens, .ref m_afters, .ref m_afterOf, .int q_counted, .ref m_pile, .ref m_caseMany, .ref m_happen, .ref m_hasIf, .ref m_becomes, .ref m_goneOf, .ref m_heard, .ref m_pairs, .ref m_heaps, .int q_rounds, .int (nI ((cN f_manys 0) + (cN f_manys b))), .ref m_led, .ref m_newAt, .ref m_knowing, .ref m_firsts, .int (nI q_people), .ref m_secrets, .ref m_tried, .ref m_lanes, .ref m_lengths, .ref m_cells])), (m_manys, .inl (E.2.1 1, 18, .inl f_manys)), (m_reals, .inl (E.2.1 1, 18, .inl f_reals)), (m_factsOf, .inl (E.2.1 1, 432, .inl f_factsOf)), (m_possible, .inl (E.2.1 1, 1728, .inl f_possible)), (m_heaps, .inl (E.2.1 1, 2400, .inl g1)), (m_led, .inl (E.2.1 2, 192, .inr (.inl f_led)))] 0 0 := by
            intro fu
            induction fu with
            | zero => intro v1 hv1 hvv hmeas; exact absurd hmeas (Nat.not_lt_zero _)
            | succ fu ih_40 =>
              intro v1 hv1 hvv hmeas
              refine ww_aload_n C dX12_layHeaps_40 2 rfl rfl ?_
              refine ww_iload_n C dX12_layHeaps_41 3 rfl rfl ?_
              refine ww_iload_n C dX12_layHeaps_42 4 rfl rfl ?_
              refine ww_iload C dX12_layHeaps_43 0 rfl ?_
              refine ww_ci (wr := [(m_reals, .inl (E.2.1 1, 18, .inl f_reals)), (m_possible, .inl (E.2.1 1, 1728, .inl f_possible)), (m_heaps, .inl (E.2.1 1, 2400, .inl g1)), (m_led, .inl (E.2.1 2, 192, .inr (.inl f_led)))]) (k' := 0) (n' := 0) C (run_V (As := [.int 0, .int (nI b), .int (nI v1)]) (rest := []) C (r_factsInM X.2.1 E ro hm b v1 m_manys m_reals m_factsOf m_possible q_undos q_models m_tape q_taped q_fault q_wrong q_wrongAt q_spot q_place q_token q_value m_ends m_letters m_actOf m_whom m_actMany m_tokens m_afters m_afterOf q_counted m_pile m_caseMany m_happen m_hasIf m_becomes m_goneOf m_heard m_pairs m_heaps q_rounds (nI ((cN f_manys 0) + (cN f_manys b))) m_led m_newAt m_knowing m_firsts q_people m_secrets m_tried m_lanes m_lengths m_cells f_manys f_factsOf hb_manys (by omega) (by omega)) mi_X12_factsIn wl_X12_285 rfl 0 12 rfl rfl rfl rfl rfl dX12_layHeaps_45) (roK hro) [0, 1, 3] [2, 4, 5, 6] rfl rfl rfl rfl (fun r_24 uz hw => ?_)
              refine an1 hw ?_
              clear hw
              intro he_25 hw
              have he_26 := hw
              clear hw
              have he_25 := he_25.symm
              subst he_25
              subst he_26
              refine ww_eq (ws' := [(m_reals, .inl (E.2.1 1, 18, .inl f_reals)), (m_possible, .inl (E.2.1 1, 1728, .inl f_possible)), (m_heaps, .inl (E.2.1 1, 2400, .inl g1)), (m_led, .inl (E.2.1 2, 192, .inr (.inl f_led))), (hm, .inr (12, [.ref m_manys, .ref m_reals, .ref m_factsOf, .ref m_possible, .int (nI q_undos), .int (nI q_models), .ref m_tape, .int (nI q_taped), .int q_fault, .int q_wrong, .int q_wrongAt, .int q_spot, .int q_place, .int q_token, .int q_value, .ref m_ends, .ref m_letters, .ref m_actOf, .ref m_whom, .ref m_actMany, .ref m_tokens, .ref m_afters, .ref m_afterOf, .int q_counted, .ref m_pile, .ref m_caseMany, .ref m_happen, .ref m_hasIf, .ref m_becomes, .ref m_goneOf, .ref m_heard, .ref m_pairs, .ref m_heaps, .int q_rounds, .int (nI ((cN f_manys 0) + (cN f_manys b))), .ref m_led, .ref m_newAt, .ref m_knowing, .ref m_firsts, .int (nI q_people), .ref m_secrets, .ref m_tried, .ref m_lanes, .ref m_lengths, .ref m_cells])), (m_manys, .inl (E.2.1 1, 18, .inl f_manys)), (m_factsOf, .inl (E.2.1 1, 432, .inl f_factsOf))]) ?_ rfl rfl rfl
              refine ww_aload_n C dX12_layHeaps_48 2 rfl rfl ?_
              refine ww_iload_n C dX12_layHeaps_49 3 rfl rfl ?_
              refine ww_iload_n C dX12_layHeaps_50 4 rfl rfl ?_
              refine ww_iload_n C dX12_layHeaps_51 1 rfl rfl ?_
              refine ww_ci (wr := [(m_reals, .inl (E.2.1 1, 18, .inl f_reals)), (m_possible, .inl (E.2.1 1, 1728, .inl f_possible)), (m_heaps, .inl (E.2.1 1, 2400, .inl g1)), (m_led, .inl (E.2.1 2, 192, .inr (.inl f_led)))]) (k' := 0) (n' := 0) C (run_V (As := [.int 0, .int (nI b), .int (nI w1)]) (rest := [.int (fxR (cN f_manys 0) f_factsOf b v1)]) C (r_factsInM X.2.1 E ro hm b w1 m_manys m_reals m_factsOf m_possible q_undos q_models m_tape q_taped q_fault q_wrong q_wrongAt q_spot q_place q_token q_value m_ends m_letters m_actOf m_whom m_actMany m_tokens m_afters m_afterOf q_counted m_pile m_caseMany m_happen m_hasIf m_becomes m_goneOf m_heard m_pairs m_heaps q_rounds (nI ((cN f_manys 0) + (cN f_manys b))) m_led m_newAt m_knowing m_firsts q_people m_secrets m_tried m_lanes m_lengths m_cells f_manys f_factsOf hb_manys (by omega) (by omega)) mi_X12_factsIn wl_X12_285 rfl 0 12 rfl rfl rfl rfl rfl dX12_layHeaps_52) (roK hro) [4, 5, 6] [0, 1, 2, 3] rfl rfl rfl rfl (fun r_27 uz hw => ?_)
              refine an1 hw ?_
              clear hw
              intro he_28 hw
              have he_29 := hw
              clear hw
              have he_28 := he_28.symm
              subst he_28
              subst he_29
              refine ww_eq (ws' := [(m_reals, .inl (E.2.1 1, 18, .inl f_reals)), (m_possible, .inl (E.2.1 1, 1728, .inl f_possible)), (m_heaps, .inl (E.2.1 1, 2400, .inl g1)), (m_led, .inl (E.2.1 2, 192, .inr (.inl f_led))), (hm, .inr (12, [.ref m_manys, .ref m_reals, .ref m_factsOf, .ref m_possible, .int (nI q_undos), .int (nI q_models), .ref m_tape, .int (nI q_taped), .int q_fault, .int q_wrong, .int q_wrongAt, .int q_spot, .int q_place, .int q_token, .int q_value, .ref m_ends, .ref m_letters, .ref m_actOf, .ref m_whom, .ref m_actMany, .ref m_tokens, .ref m_afters, .ref m_afterOf, .int q_counted, .ref m_pile, .ref m_caseMany, .ref m_happen, .ref m_hasIf, .ref m_becomes, .ref m_goneOf, .ref m_heard, .ref m_pairs, .ref m_heaps, .int q_rounds, .int (nI ((cN f_manys 0) + (cN f_manys b))), .ref m_led, .ref m_newAt, .ref m_knowing, .ref m_firsts, .int (nI q_people), .ref m_secrets, .ref m_tried, .ref m_lanes, .ref m_lengths, .ref m_cells])), (m_manys, .inl (E.2.1 1, 18, .inl f_manys)), (m_factsOf, .inl (E.2.1 1, 432, .inl f_factsOf))]) ?_ rfl rfl rfl
              refine ww_icmp_eq (tgt := 64) C dX12_layHeaps_55 (by decide) (fun c_30 => ?_) (fun c_30 => ?_)
              · have zc_30 : (fxR (cN f_manys 0) f_factsOf b v1).toInt = (fxR (cN f_manys 0) f_factsOf b w1).toInt := i_eq rfl rfl c_30
                refine ww_aload_n C dX12_layHeaps_64 2 rfl rfl ?_
                refine ww_get C fg_X12_74 4 rfl rfl dX12_layHeaps_65 ?_
                refine ww_iload_n C dX12_layHeaps_68 1 rfl rfl ?_
                refine ww_iload C dX12_layHeaps_69 0 rfl ?_
                obtain ⟨f_31, ef_31⟩ : ∃ z : Nat → Int32, upd g1 w1 (nI v1) = z := ⟨_, rfl⟩
                refine ww_iast (ws' := [(m_reals, .inl (E.2.1 1, 18, .inl f_reals)), (m_possible, .inl (E.2.1 1, 1728, .inl f_possible)), (m_heaps, .inl (E.2.1 1, 2400, .inl f_31)), (m_led, .inl (E.2.1 2, 192, .inr (.inl f_led))), (hm, .inr (12, [.ref m_manys, .ref m_reals, .ref m_factsOf, .ref m_possible, .int (nI q_undos), .int (nI q_models), .ref m_tape, .int (nI q_taped), .int q_fault, .int q_wrong, .int q_wrongAt, .int q_spot, .int q_place, .int q_token, .int q_value, .ref m_ends, .ref m_letters, .ref m_actOf, .ref m_whom, .ref m_actMany, .ref m_tokens, .ref m_afters, .ref m_afterOf, .int q_counted, .ref m_pile, .ref m_caseMany, .ref m_happen, .ref m_hasIf, .ref m_becomes, .ref m_goneOf, .ref m_heard, .ref m_pairs, .ref m_heaps, .int q_rounds, .int (nI ((cN f_manys 0) + (cN f_manys b))), .ref m_led, .ref m_newAt, .ref m_knowing, .ref m_firsts, .int (nI q_people), .ref m_secrets, .ref m_tried, .ref m_lanes, .ref m_lengths, .ref m_cells])), (m_manys, .inl (E.2.1 1, 18, .inl f_manys)), (m_factsOf, .inl (E.2.1 1, 432, .inl f_factsOf))]) C 2 rfl (vp_in_nI (by omega) (by omega)) (ldn2 (by omega) ef_31) rfl dX12_layHeaps_71 ?_
                refine ww_iinc (j := 1) (v := (nI (w1 + 1))) (lv' := [(3, .int (nI (w1 + 1))), (4, .int (nI v1)), (0, .ref hm), (1, .int 0), (2, .int (nI b))]) C dX12_layHeaps_72 rfl (nI_add w1 1) rfl rfl ?_
                refine ww_goto (tgt := 29) C dX12_layHeaps_75 (by decide) ?_
                exact ww_lv [0, 2, 3, 4] rfl (ww_sub [4, 5, 0, 6, 1, 2, 3] rfl rfl (ih_29 (w1 + 1) f_31 (by omega) (HBx.ext hbx hv1 hvv (Int32.toInt_inj.mp (by assumption)) ef_31) (by omega)))
              · have zc_30 : (fxR (cN f_manys 0) f_factsOf b v1).toInt ≠ (fxR (cN f_manys 0) f_factsOf b w1).toInt := i_ne rfl rfl c_30
                refine ww_iinc (j := 0) (v := (nI (v1 + 1))) (lv' := [(4, .int (nI (v1 + 1))), (3, .int (nI w1)), (0, .ref hm), (1, .int 0), (2, .int (nI b))]) C dX12_layHeaps_58 rfl (nI_add v1 1) rfl rfl ?_
                refine ww_goto (tgt := 40) C dX12_layHeaps_61 (by decide) ?_
                exact ww_lv [0, 1, 2, 3, 4] rfl (ww_sub [4, 5, 0, 6, 1, 2, 3] rfl rfl (ih_40 (v1 + 1) (Nat.lt_of_le_of_ne hv1 (fun h9 => by subst h9; omega)) (fun u hu => if hk : u = v1 then (by rw [hk]; exact fun h9 => absurd (congrArg Int32.toInt h9) (by assumption)) else hvv u (by omega)) (by have h8 : v1 < w1 := Nat.lt_of_le_of_ne hv1 (fun h9 => by subst h9; omega); omega)))
          exact ww_lv [0, 1, 2, 3, 4] rfl (ww_sub [0, 1, 2, 3, 4, 5, 6] rfl rfl (loop_40 _ 0 (by omega) (fun u h => absurd h (Nat.not_lt_zero _)) (Nat.lt_succ_self _)))
    exact ww_lv [0, 1, 2, 3] rfl (ww_sub [0, 1, 2, 3, 4, 5, 6] rfl rfl (loop_29 _ 0 f_heaps (by omega) HBx.zero (Nat.lt_succ_self _)))
  · have zc_2 : ((b : Nat) : Int) = (-4) := i_eq (nI_toInt (n := b) (by omega)) rfl c_2
    omega
end
