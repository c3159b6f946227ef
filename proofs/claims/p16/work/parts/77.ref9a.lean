theorem dX12_classes_0 : decode cX12_classes 0 = .ok (.aload_n 0, 1) := by decide +kernel
theorem dX12_classes_1 : decode cX12_classes 1 = .ok (.iconst 0, 1) := by decide +kernel
theorem dX12_classes_2 : decode cX12_classes 2 = .ok (.bipush (-4), 2) := by decide +kernel
theorem dX12_classes_4 : decode cX12_classes 4 = .ok (.invokevirtual 298, 3) := by decide +kernel
theorem wl_X12_298 : Cond.methodLink RX12 298 yX12_layHeaps ∈ TB := tbm (tq6 (List.mem_of_getElem? (i := 209) (by decide +kernel))) (by decide +kernel)
theorem wc_X12_layHeaps : Cond.code yX12_layHeaps cX12_layHeaps 6 none ∈ TB := tbm (tq6 (List.mem_of_getElem? (i := 212) (rfl))) (by decide +kernel)
theorem wi_X12_layHeaps : Cond.instanceMethod yX12_layHeaps ∈ TB := tbm (tq6 (List.mem_of_getElem? (i := 211) (by decide +kernel))) (by decide +kernel)
theorem ws_X12_layHeaps : Cond.selects RX12 yX12_layHeaps yX12_layHeaps ∈ TB := tbm (tq0 (List.mem_of_getElem? (i := 68) (by decide +kernel))) (by decide +kernel)
theorem mi_X12_layHeaps : MI yX12_layHeaps cX12_layHeaps 6 none 2 := ⟨wc_X12_layHeaps, wn_X12, ⟨by decide +kernel, by decide +kernel, by decide +kernel⟩, wi_X12_layHeaps, ws_X12_layHeaps⟩
theorem dX12_classes_7 : decode cX12_classes 7 = .ok (.iconst 0, 1) := by decide +kernel
theorem dX12_classes_8 : decode cX12_classes 8 = .ok (.istore_n 1, 1) := by decide +kernel
theorem dX12_classes_9 : decode cX12_classes 9 = .ok (.iconst 0, 1) := by decide +kernel
theorem dX12_classes_10 : decode cX12_classes 10 = .ok (.istore_n 2, 1) := by decide +kernel
theorem dX12_classes_11 : decode cX12_classes 11 = .ok (.iload_n 2, 1) := by decide +kernel
theorem dX12_classes_12 : decode cX12_classes 12 = .ok (.aload_n 0, 1) := by decide +kernel
theorem dX12_classes_13 : decode cX12_classes 13 = .ok (.getfield 282, 3) := by decide +kernel
theorem dX12_classes_16 : decode cX12_classes 16 = .ok (.if_icmp .ge 26, 3) := by decide +kernel
theorem dX12_classes_42 : decode cX12_classes 42 = .ok (.iload_n 1, 1) := by decide +kernel
theorem dX12_classes_43 : decode cX12_classes 43 = .ok (.ireturn, 1) := by decide +kernel
theorem dX12_classes_19 : decode cX12_classes 19 = .ok (.iload_n 1, 1) := by decide +kernel
theorem dX12_classes_20 : decode cX12_classes 20 = .ok (.aload_n 0, 1) := by decide +kernel
theorem dX12_classes_21 : decode cX12_classes 21 = .ok (.iload_n 2, 1) := by decide +kernel
theorem dX12_classes_22 : decode cX12_classes 22 = .ok (.invokevirtual 301, 3) := by decide +kernel
theorem wl_X12_301 : Cond.methodLink RX12 301 yX12_heapOf ∈ TB := tbm (tq6 (List.mem_of_getElem? (i := 225) (by decide +kernel))) (by decide +kernel)
theorem wc_X12_heapOf : Cond.code yX12_heapOf cX12_heapOf 2 (some .int) ∈ TB := tbm (tq6 (List.mem_of_getElem? (i := 228) (rfl))) (by decide +kernel)
theorem wi_X12_heapOf : Cond.instanceMethod yX12_heapOf ∈ TB := tbm (tq6 (List.mem_of_getElem? (i := 227) (by decide +kernel))) (by decide +kernel)
theorem ws_X12_heapOf : Cond.selects RX12 yX12_heapOf yX12_heapOf ∈ TB := tbm (tq0 (List.mem_of_getElem? (i := 72) (by decide +kernel))) (by decide +kernel)
theorem mi_X12_heapOf : MI yX12_heapOf cX12_heapOf 2 (some .int) 1 := ⟨wc_X12_heapOf, wn_X12, ⟨by decide +kernel, by decide +kernel, by decide +kernel⟩, wi_X12_heapOf, ws_X12_heapOf⟩
theorem dX12_classes_25 : decode cX12_classes 25 = .ok (.iload_n 2, 1) := by decide +kernel
theorem dX12_classes_26 : decode cX12_classes 26 = .ok (.if_icmp .ne 7, 3) := by decide +kernel
theorem dX12_classes_33 : decode cX12_classes 33 = .ok (.iconst 0, 1) := by decide +kernel
theorem dX12_classes_34 : decode cX12_classes 34 = .ok (.iadd, 1) := by decide +kernel
theorem dX12_classes_35 : decode cX12_classes 35 = .ok (.istore_n 1, 1) := by decide +kernel
theorem dX12_classes_36 : decode cX12_classes 36 = .ok (.iinc 2 1, 3) := by decide +kernel
theorem dX12_classes_39 : decode cX12_classes 39 = .ok (.goto (-28), 3) := by decide +kernel
theorem dX12_classes_29 : decode cX12_classes 29 = .ok (.iconst 1, 1) := by decide +kernel
theorem dX12_classes_30 : decode cX12_classes 30 = .ok (.goto 4, 3) := by decide +kernel
set_option maxRecDepth 100000 in
set_option maxHeartbeats 4000000 in
theorem y_classes (l : Launch) (E : EV) (ro : va_W) (hm : Nat) (m_manys : Nat) (m_reals : Nat) (m_factsOf : Nat) (m_possible : Nat) (q_undos : Nat) (q_models : Nat) (m_tape : Nat) (q_taped : Nat) (q_fault : Int32) (q_wrong : Int32) (q_wrongAt : Int32) (q_spot : Int32) (q_place : Int32) (q_token : Int32) (q_value : Int32) (m_ends : Nat) (m_letters : Nat) (m_actOf : Nat) (m_whom : Nat) (m_actMany : Nat) (m_tokens : Nat) (m_afters : Nat) (m_afterOf : Nat) (q_counted : Int32) (m_pile : Nat) (m_caseMany : Nat) (m_happen : Nat) (m_hasIf : Nat) (m_becomes : Nat) (m_goneOf : Nat) (m_heard : Nat) (m_pairs : Nat) (m_heaps : Nat) (q_rounds : Int32) (q_heapMany : Int32) (m_led : Nat) (m_newAt : Nat) (m_knowing : Nat) (m_firsts : Nat) (q_people : Nat) (m_secrets : Nat) (m_tried : Nat) (m_lanes : Nat) (m_lengths : Nat) (m_cells : Nat) (f_manys : Nat → Int32) (f_possible : Nat → Int32) (f_factsOf : Nat → Int32) (f_heaps : Nat → Int32) (f_led : Nat → Int64) (hb_manys : NB 18 24 f_manys) : CT l yX12_classes (Cond.code yX12_classes cX12_classes 3 (some .int) :: TB) ({ frames := 3, cells := 0, slots := 0, locals := 78 }) E ro [.ref hm] [(hm, .inr (12, [.ref m_manys, .ref m_reals, .ref m_factsOf, .ref m_possible, .int (nI q_undos), .int (nI q_models), .ref m_tape, .int (nI q_taped), .int q_fault, .int q_wrong, .int q_wrongAt, .int q_spot, .int q_place, .int q_token, .int q_value, .ref m_ends, .ref m_letters, .ref m_actOf, .ref m_whom, .ref m_actMany, .ref m_tokens, .ref m_afters, .ref m_afterOf, .int q_counted, .ref m_pile, .ref m_caseMany, .ref m_happen, .ref m_hasIf, .ref m_becomes, .ref m_goneOf, .ref m_heard, .ref m_pairs, .ref m_heaps, .int q_rounds, .int q_heapMany, .ref m_led, .ref m_newAt, .ref m_knowing, .ref m_firsts, .int (nI q_people), .ref m_secrets, .ref m_tried, .ref m_lanes, .ref m_lengths, .ref m_cells])), (m_manys, .inl (E.2.1 1, 18, .inl f_manys)), (m_possible, .inl (E.2.1 1, 1728, .inl f_possible)), (m_factsOf, .inl (E.2.1 1, 432, .inl f_factsOf)), (m_heaps, .inl (E.2.1 1, 2400, .inl f_heaps)), (m_led, .inl (E.2.1 2, 192, .inr (.inl f_led)))] (Qi E (fun (rz : Int32) uz => (∃ (rz_ : Int32) (hmz : Int32) (f_heapsz : Nat → Int32) (f_ledz : Nat → Int64), uz = [(hm, .inr (12, [.ref m_manys, .ref m_reals, .ref m_factsOf, .ref m_possible, .int (nI q_undos), .int (nI q_models), .ref m_tape, .int (nI q_taped), .int q_fault, .int q_wrong, .int q_wrongAt, .int q_spot, .int q_place, .int q_token, .int q_value, .ref m_ends, .ref m_letters, .ref m_actOf, .ref m_whom, .ref m_actMany, .ref m_tokens, .ref m_afters, .ref m_afterOf, .int q_counted, .ref m_pile, .ref m_caseMany, .ref m_happen, .ref m_hasIf, .ref m_becomes, .ref m_goneOf, .ref m_heard, .ref m_pairs, .ref m_heaps, .int rz_, .int hmz, .ref m_led, .ref m_newAt, .ref m_knowing, .ref m_firsts, .int (nI q_people), .ref m_secrets, .ref m_tried, .ref m_lanes, .ref m_lengths, .ref m_cells])), (m_manys, .inl (E.2.1 1, 18, .inl f_manys)), (m_possible, .inl (E.2.1 1, 1728, .inl f_possible)), (m_factsOf, .inl (E.2.1 1, 432, .inl f_factsOf)), (m_heaps, .inl (E.2.1 1, 2400, .inl f_heapsz)), (m_led, .inl (E.2.1 2, 192, .inr (.inl f_ledz)))]))) 0 0 := by
  refine ct_of rfl rfl ?_
  intro X C hT hin hro
  show WW X 3 E 0 [(0, .ref hm)] [] [(hm, .inr (12, [.ref m_manys, .ref m_reals, .ref m_factsOf, .ref m_possible, .int (nI q_undos), .int (nI q_models), .ref m_tape, .int (nI q_taped), .int q_fault, .int q_wrong, .int q_wrongAt, .int q_spot, .int q_place, .int q_token, .int q_value, .ref m_ends, .ref m_letters, .ref m_actOf, .ref m_whom, .ref m_actMany, .ref m_tokens, .ref m_afters, .ref m_afterOf, .int q_counted, .ref m_pile, .ref m_caseMany, .ref m_happen, .ref m_hasIf, .ref m_becomes, .ref m_goneOf, .ref m_heard, .ref m_pairs, .ref m_heaps, .int q_rounds, .int q_heapMany, .ref m_led, .ref m_newAt, .ref m_knowing, .ref m_firsts, .int (nI q_people), .ref m_secrets, .ref m_tried, .ref m_lanes, .ref m_lengths, .ref m_cells])), (m_manys, .inl (E.2.1 1, 18, .inl f_manys)), (m_possible, .inl (E.2.1 1, 1728, .inl f_possible)), (m_factsOf, .inl (E.2.1 1, 432, .inl f_factsOf)), (m_heaps, .inl (E.2.1 1, 2400, .inl f_heaps)), (m_led, .inl (E.2.1 2, 192, .inr (.inl f_led)))] 0 0
  have hmn0 := (hb_manys 0 (by omega)).2
  refine ww_aload_n C dX12_classes_0 0 rfl rfl ?_
  refine ww_iconst (v := 0) C dX12_classes_1 rfl ?_
  refine ww_bipush (v := (-4)) C dX12_classes_2 rfl ?_
  refine ww_cv (wr := []) (k' := 0) (n' := 0) C (run_V (As := [.int 0, .int (-4)]) (rest := []) C (r_layHeapsN X.2.1 E ro hm m_manys m_reals m_factsOf m_possible q_undos q_models m_tape q_taped q_fault q_wrong q_wrongAt q_spot q_place q_token q_value m_ends m_letters m_actOf m_whom m_actMany m_tokens m_afters m_afterOf q_counted m_pile m_caseMany m_happen m_hasIf m_becomes m_goneOf m_heard m_pairs m_heaps q_rounds q_heapMany m_led m_newAt m_knowing m_firsts q_people m_secrets m_tried m_lanes m_lengths m_cells f_manys f_possible f_factsOf f_heaps f_led hb_manys) mi_X12_layHeaps wl_X12_298 rfl 0 12 rfl rfl rfl rfl rfl dX12_classes_4) (roK hro) [0, 1, 2, 3, 4, 5] [] rfl rfl rfl rfl (fun uz hw => ?_)
  refine ex4 hw ?_
  clear hw
  intro rz__2 hmz_3 f_heapsz_4 f_ledz_5 hw
  refine an3 hw ?_
  clear hw
  intro he_9 h_6 h_7 hw
  have h_8 := hw
  clear hw
  subst he_9
  refine ww_eq (ws' := [(hm, .inr (12, [.ref m_manys, .ref m_reals, .ref m_factsOf, .ref m_possible, .int (nI q_undos), .int (nI q_models), .ref m_tape, .int (nI q_taped), .int q_fault, .int q_wrong, .int q_wrongAt, .int q_spot, .int q_place, .int q_token, .int q_value, .ref m_ends, .ref m_letters, .ref m_actOf, .ref m_whom, .ref m_actMany, .ref m_tokens, .ref m_afters, .ref m_afterOf, .int q_counted, .ref m_pile, .ref m_caseMany, .ref m_happen, .ref m_hasIf, .ref m_becomes, .ref m_goneOf, .ref m_heard, .ref m_pairs, .ref m_heaps, .int (nI rz__2), .int (nI hmz_3), .ref m_led, .ref m_newAt, .ref m_knowing, .ref m_firsts, .int (nI q_people), .ref m_secrets, .ref m_tried, .ref m_lanes, .ref m_lengths, .ref m_cells])), (m_manys, .inl (E.2.1 1, 18, .inl f_manys)), (m_possible, .inl (E.2.1 1, 1728, .inl f_possible)), (m_factsOf, .inl (E.2.1 1, 432, .inl f_factsOf)), (m_heaps, .inl (E.2.1 1, 2400, .inl f_heapsz_4)), (m_led, .inl (E.2.1 2, 192, .inr (.inl f_ledz_5)))]) ?_ rfl rfl rfl
  refine ww_iconst (v := 0) C dX12_classes_7 rfl ?_
  refine ww_istore_n (lv' := [(1, .int 0), (0, .ref hm)]) C dX12_classes_8 rfl rfl rfl ?_
  refine ww_iconst (v := 0) C dX12_classes_9 rfl ?_
  refine ww_istore_n (lv' := [(2, .int 0), (1, .int 0), (0, .ref hm)]) C dX12_classes_10 rfl rfl rfl ?_
  have loop_11 : ∀ (fu : Nat) (i1 : Nat) (c1 : Int32), (i1 ≤ cN f_manys 0) → cN f_manys 0 - i1 < fu → WW X 3 E 11 [(2, .int (nI i1)), (1, .int c1), (0, .ref hm)] [] [(hm, .inr (12, [.ref m_manys, .ref m_reals, .ref m_factsOf, .ref m_possible, .int (nI q_undos), .int (nI q_models), .ref m_tape, .int (nI q_taped), .int q_fault, .int q_wrong, .int q_wrongAt, .int q_spot, .int q_place, .int q_token, .int q_value, .ref m_ends, .ref m_letters, .ref m_actOf, .ref m_whom, .ref m_actMany, .ref m_tokens, .ref m_afters, .ref m_afterOf, .int q_counted, .ref m_pile, .ref m_caseMany, .ref m_happen, .ref m_hasIf, .ref m_becomes, .ref m_goneOf, .ref m_heard, .ref m_pairs, .ref m_heaps, .int (nI rz__2), .int (nI hmz_3), .ref m_led, .ref m_newAt, .ref m_knowing, .ref m_firsts, .int (nI q_people), .ref m_secrets, .ref m_tried, .ref m_lanes, .ref m_lengths, .ref m_cells])), (m_manys, .inl (E.2.1 1, 18, .inl f_manys)), (m_possible, .inl (E.2.1 1, 1728, .inl f_possible)), (m_factsOf, .inl (E.2.1 1, 432, .inl f_factsOf)), (m_heaps, .inl (E.2.1 1, 2400, .inl f_heapsz_4)), (m_led, .inl (E.2.1 2, 192, .inr (.inl f_ledz_5)))] 0 0 := by
    intro fu
    induction fu with
    | zero => intro i1 c1 hi1 hmeas; exact absurd hmeas (Nat.not_lt_zero _)
    | succ fu ih_11 =>
      intro i1 c1 hi1 hmeas
      refine ww_iload_n C dX12_classes_11 0 rfl rfl ?_
      refine ww_aload_n C dX12_classes_12 2 rfl rfl ?_
      refine ww_get C fg_X12_282 0 rfl rfl dX12_classes_13 ?_
      refine ww_icmp_ge (tgt := 42) C dX12_classes_16 (by decide) (fun c_10 => ?_) (fun c_10 => ?_)
      · have zc_10 : ((i1 : Nat) : Int) ≥ ((hmz_3 : Nat) : Int) := i_le (nI_toInt (n := hmz_3) (by omega)) (nI_toInt (n := i1) (by omega)) c_10
        refine ww_iload_n C dX12_classes_42 1 rfl rfl ?_
        exact ww_iret (u := [(hm, .inr (12, [.ref m_manys, .ref m_reals, .ref m_factsOf, .ref m_possible, .int (nI q_undos), .int (nI q_models), .ref m_tape, .int (nI q_taped), .int q_fault, .int q_wrong, .int q_wrongAt, .int q_spot, .int q_place, .int q_token, .int q_value, .ref m_ends, .ref m_letters, .ref m_actOf, .ref m_whom, .ref m_actMany, .ref m_tokens, .ref m_afters, .ref m_afterOf, .int q_counted, .ref m_pile, .ref m_caseMany, .ref m_happen, .ref m_hasIf, .ref m_becomes, .ref m_goneOf, .ref m_heard, .ref m_pairs, .ref m_heaps, .int (nI rz__2), .int (nI hmz_3), .ref m_led, .ref m_newAt, .ref m_knowing, .ref m_firsts, .int (nI q_people), .ref m_secrets, .ref m_tried, .ref m_lanes, .ref m_lengths, .ref m_cells])), (m_manys, .inl (E.2.1 1, 18, .inl f_manys)), (m_possible, .inl (E.2.1 1, 1728, .inl f_possible)), (m_factsOf, .inl (E.2.1 1, 432, .inl f_factsOf)), (m_heaps, .inl (E.2.1 1, 2400, .inl f_heapsz_4)), (m_led, .inl (E.2.1 2, 192, .inr (.inl f_ledz_5)))]) C hT [0, 1, 2, 3, 4, 5] rfl rfl rfl rfl dX12_classes_43 (⟨(nI rz__2), (nI hmz_3), f_heapsz_4, f_ledz_5, rfl⟩)
      · have zc_10 : ((i1 : Nat) : Int) < ((hmz_3 : Nat) : Int) := i_nle (nI_toInt (n := hmz_3) (by omega)) (nI_toInt (n := i1) (by omega)) c_10
        refine ww_iload_n C dX12_classes_19 1 rfl rfl ?_
        refine ww_aload_n C dX12_classes_20 2 rfl rfl ?_
        refine ww_iload_n C dX12_classes_21 0 rfl rfl ?_
        refine ww_ci (wr := [(m_manys, .inl (E.2.1 1, 18, .inl f_manys)), (m_possible, .inl (E.2.1 1, 1728, .inl f_possible)), (m_factsOf, .inl (E.2.1 1, 432, .inl f_factsOf)), (m_led, .inl (E.2.1 2, 192, .inr (.inl f_ledz_5)))]) (k' := 0) (n' := 0) C (run_V (As := [.int (nI i1)]) (rest := [.int c1]) C (r_heapOf X.2.1 E ro hm i1 m_manys m_reals m_factsOf m_possible q_undos q_models m_tape q_taped q_fault q_wrong q_wrongAt q_spot q_place q_token q_value m_ends m_letters m_actOf m_whom m_actMany m_tokens m_afters m_afterOf q_counted m_pile m_caseMany m_happen m_hasIf m_becomes m_goneOf m_heard m_pairs m_heaps rz__2 (nI hmz_3) m_led m_newAt m_knowing m_firsts q_people m_secrets m_tried m_lanes m_lengths m_cells f_heapsz_4 (by omega) (by omega)) mi_X12_heapOf wl_X12_301 rfl 0 12 rfl rfl rfl rfl rfl dX12_classes_22) (roK hro) [0, 4] [1, 2, 3, 5] rfl rfl rfl rfl (fun r_11 uz hw => ?_)
        refine an1 hw ?_
        clear hw
        intro he_12 hw
        have he_13 := hw
        clear hw
        have he_12 := he_12.symm
        subst he_12
        subst he_13
        refine ww_eq (ws' := [(m_manys, .inl (E.2.1 1, 18, .inl f_manys)), (m_possible, .inl (E.2.1 1, 1728, .inl f_possible)), (m_factsOf, .inl (E.2.1 1, 432, .inl f_factsOf)), (m_led, .inl (E.2.1 2, 192, .inr (.inl f_ledz_5))), (hm, .inr (12, [.ref m_manys, .ref m_reals, .ref m_factsOf, .ref m_possible, .int (nI q_undos), .int (nI q_models), .ref m_tape, .int (nI q_taped), .int q_fault, .int q_wrong, .int q_wrongAt, .int q_spot, .int q_place, .int q_token, .int q_value, .ref m_ends, .ref m_letters, .ref m_actOf, .ref m_whom, .ref m_actMany, .ref m_tokens, .ref m_afters, .ref m_afterOf, .int q_counted, .ref m_pile, .ref m_caseMany, .ref m_happen, .ref m_hasIf, .ref m_becomes, .ref m_goneOf, .ref m_heard, .ref m_pairs, .ref m_heaps, .int (nI rz__2), .int (nI hmz_3), .ref m_led, .ref m_newAt, .ref m_knowing, .ref m_firsts, .int (nI q_people), .ref m_secrets, .ref m_tried, .ref m_lanes, .ref m_lengths, .ref m_cells])), (m_heaps, .inl (E.2.1 1, 2400, .inl f_heapsz_4))]) ?_ rfl rfl rfl
        refine ww_iload_n C dX12_classes_25 0 rfl rfl ?_
        refine ww_icmp_ne (tgt := 33) C dX12_classes_26 (by decide) (fun c_14 => ?_) (fun c_14 => ?_)
        · have zc_14 : (f_heapsz_4 (48 * rz__2 + i1)).toInt ≠ ((i1 : Nat) : Int) := i_ne rfl (nI_toInt (n := i1) (by omega)) c_14
          refine ww_iconst (v := 0) C dX12_classes_33 rfl ?_
          obtain ⟨x_15, ex_15⟩ : ∃ z : Int32, c1 + (0 : Int32) = z := ⟨_, rfl⟩
          refine ww_iadd (v := x_15) C dX12_classes_34 ex_15 ?_
          refine ww_istore_n (lv' := [(1, .int x_15), (2, .int (nI i1)), (0, .ref hm)]) C dX12_classes_35 rfl rfl rfl ?_
          refine ww_iinc (j := 1) (v := (nI (i1 + 1))) (lv' := [(2, .int (nI (i1 + 1))), (1, .int x_15), (0, .ref hm)]) C dX12_classes_36 rfl (nI_add i1 1) rfl rfl ?_
          refine ww_goto (tgt := 11) C dX12_classes_39 (by decide) ?_
          exact ww_lv [0, 1, 2] rfl (ww_sub [4, 0, 1, 2, 5, 3] rfl rfl (ih_11 (i1 + 1) x_15 (by omega) (by omega)))
        · have zc_14 : (f_heapsz_4 (48 * rz__2 + i1)).toInt = ((i1 : Nat) : Int) := i_eq rfl (nI_toInt (n := i1) (by omega)) c_14
          refine ww_iconst (v := 1) C dX12_classes_29 rfl ?_
          refine ww_goto (tgt := 34) C dX12_classes_30 (by decide) ?_
          obtain ⟨x_16, ex_16⟩ : ∃ z : Int32, c1 + (1 : Int32) = z := ⟨_, rfl⟩
          refine ww_iadd (v := x_16) C dX12_classes_34 ex_16 ?_
          refine ww_istore_n (lv' := [(1, .int x_16), (2, .int (nI i1)), (0, .ref hm)]) C dX12_classes_35 rfl rfl rfl ?_
          refine ww_iinc (j := 1) (v := (nI (i1 + 1))) (lv' := [(2, .int (nI (i1 + 1))), (1, .int x_16), (0, .ref hm)]) C dX12_classes_36 rfl (nI_add i1 1) rfl rfl ?_
          refine ww_goto (tgt := 11) C dX12_classes_39 (by decide) ?_
          exact ww_lv [0, 1, 2] rfl (ww_sub [4, 0, 1, 2, 5, 3] rfl rfl (ih_11 (i1 + 1) x_16 (by omega) (by omega)))
  exact ww_lv [0, 1, 2] rfl (ww_sub [0, 1, 2, 3, 4, 5] rfl rfl (loop_11 _ 0 0 (by omega) (Nat.lt_succ_self _)))
theorem dX12_classOf_0 : decode cX12_classOf 0 = .ok (.aload_n 0, 1) := by decide +kernel
theorem dX12_classOf_1 : decode cX12_classOf 1 = .ok (.iload_n 1, 1) := by decide +kernel
theorem dX12_classOf_2 : decode cX12_classOf 2 = .ok (.invokevirtual 132, 3) := by decide +kernel
theorem dX12_classOf_5 : decode cX12_classOf 5 = .ok (.ifCond .ne 5, 3) := by decide +kernel
theorem dX12_classOf_10 : decode cX12_classOf 10 = .ok (.aload_n 0, 1) := by decide +kernel
theorem dX12_classOf_11 : decode cX12_classOf 11 = .ok (.iconst 0, 1) := by decide +kernel
theorem dX12_classOf_12 : decode cX12_classOf 12 = .ok (.bipush (-4), 2) := by decide +kernel
theorem dX12_classOf_14 : decode cX12_classOf 14 = .ok (.invokevirtual 298, 3) := by decide +kernel
theorem dX12_classOf_17 : decode cX12_classOf 17 = .ok (.aload_n 0, 1) := by decide +kernel
theorem dX12_classOf_18 : decode cX12_classOf 18 = .ok (.iload_n 1, 1) := by decide +kernel
theorem dX12_classOf_19 : decode cX12_classOf 19 = .ok (.invokevirtual 301, 3) := by decide +kernel
theorem dX12_classOf_22 : decode cX12_classOf 22 = .ok (.ireturn, 1) := by decide +kernel
theorem dX12_classOf_8 : decode cX12_classOf 8 = .ok (.iconst (-1), 1) := by decide +kernel
theorem dX12_classOf_9 : decode cX12_classOf 9 = .ok (.ireturn, 1) := by decide +kernel
set_option maxRecDepth 100000 in
set_option maxHeartbeats 4000000 in
theorem y_classOf (l : Launch) (E : EV) (ro : va_W) (hm : Nat) (v0 : Int32) (m_manys : Nat) (m_reals : Nat) (m_factsOf : Nat) (m_possible : Nat) (q_undos : Nat) (q_models : Nat) (m_tape : Nat) (q_taped : Nat) (q_fault : Int32) (q_wrong : Int32) (q_wrongAt : Int32) (q_spot : Int32) (q_place : Int32) (q_token : Int32) (q_value : Int32) (m_ends : Nat) (m_letters : Nat) (m_actOf : Nat) (m_whom : Nat) (m_actMany : Nat) (m_tokens : Nat) (m_afters : Nat) (m_afterOf : Nat) (q_counted : Int32) (m_pile : Nat) (m_caseMany : Nat) (m_happen : Nat) (m_hasIf : Nat) (m_becomes : Nat) (m_goneOf : Nat) (m_heard : Nat) (m_pairs : Nat) (m_heaps : Nat) (q_rounds : Int32) (q_heapMany : Int32) (m_led : Nat) (m_newAt : Nat) (m_knowing : Nat) (m_firsts : Nat) (q_people : Nat) (m_secrets : Nat) (m_tried : Nat) (m_lanes : Nat) (m_lengths : Nat) (m_cells : Nat) (f_manys : Nat → Int32) (f_possible : Nat → Int32) (f_factsOf : Nat → Int32) (f_heaps : Nat → Int32) (f_led : Nat → Int64) (hb_manys : NB 18 24 f_manys) : CT l yX12_classOf (Cond.code yX12_classOf cX12_classOf 2 (some .int) :: TB) ({ frames := 3, cells := 0, slots := 0, locals := 78 }) E ro [.ref hm, .int v0] [(hm, .inr (12, [.ref m_manys, .ref m_reals, .ref m_factsOf, .ref m_possible, .int (nI q_undos), .int (nI q_models), .ref m_tape, .int (nI q_taped), .int q_fault, .int q_wrong, .int q_wrongAt, .int q_spot, .int q_place, .int q_token, .int q_value, .ref m_ends, .ref m_letters, .ref m_actOf, .ref m_whom, .ref m_actMany, .ref m_tokens, .ref m_afters, .ref m_afterOf, .int q_counted, .ref m_pile, .ref m_caseMany, .ref m_happen, .ref m_hasIf, .ref m_becomes, .ref m_goneOf, .ref m_heard, .ref m_pairs, .ref m_heaps, .int q_rounds, .int q_heapMany, .ref m_led, .ref m_newAt, .ref m_knowing, .ref m_firsts, .int (nI q_people), .ref m_secrets, .ref m_tried, .ref m_lanes, .ref m_lengths, .ref m_cells])), (m_manys, .inl (E.2.1 1, 18, .inl f_manys)), (m_possible, .inl (E.2.1 1, 1728, .inl f_possible)), (m_factsOf, .inl (E.2.1 1, 432, .inl f_factsOf)), (m_heaps, .inl (E.2.1 1, 2400, .inl f_heaps)), (m_led, .inl (E.2.1 2, 192, .inr (.inl f_led)))] (Qi E (fun (rz : Int32) uz => (∃ (rz_ : Int32) (hmz : Int32) (f_heapsz : Nat → Int32) (f_ledz : Nat → Int64), uz = [(hm, .inr (12, [.ref m_manys, .ref m_reals, .ref m_factsOf, .ref m_possible, .int (nI q_undos), .int (nI q_models), .ref m_tape, .int (nI q_taped), .int q_fault, .int q_wrong, .int q_wrongAt, .int q_spot, .int q_place, .int q_token, .int q_value, .ref m_ends, .ref m_letters, .ref m_actOf, .ref m_whom, .ref m_actMany, .ref m_tokens, .ref m_afters, .ref m_afterOf, .int q_counted, .ref m_pile, .ref m_caseMany, .ref m_happen, .ref m_hasIf, .ref m_becomes, .ref m_goneOf, .ref m_heard, .ref m_pairs, .ref m_heaps, .int rz_, .int hmz, .ref m_led, .ref m_newAt, .ref m_knowing, .ref m_firsts, .int (nI q_people), .ref m_secrets, .ref m_tried, .ref m_lanes, .ref m_lengths, .ref m_cells])), (m_manys, .inl (E.2.1 1, 18, .inl f_manys)), (m_possible, .inl (E.2.1 1, 1728, .inl f_possible)), (m_factsOf, .inl (E.2.1 1, 432, .inl f_factsOf)), (m_heaps, .inl (E.2.1 1, 2400, .inl f_heapsz)), (m_led, .inl (E.2.1 2, 192, .inr (.inl f_ledz)))]))) 0 0 := by
  refine ct_of rfl rfl ?_
  intro X C hT hin hro
  show WW X 2 E 0 [(0, .ref hm), (1, .int v0)] [] [(hm, .inr (12, [.ref m_manys, .ref m_reals, .ref m_factsOf, .ref m_possible, .int (nI q_undos), .int (nI q_models), .ref m_tape, .int (nI q_taped), .int q_fault, .int q_wrong, .int q_wrongAt, .int q_spot, .int q_place, .int q_token, .int q_value, .ref m_ends, .ref m_letters, .ref m_actOf, .ref m_whom, .ref m_actMany, .ref m_tokens, .ref m_afters, .ref m_afterOf, .int q_counted, .ref m_pile, .ref m_caseMany, .ref m_happen, .ref m_hasIf, .ref m_becomes, .ref m_goneOf, .ref m_heard, .ref m_pairs, .ref m_heaps, .int q_rounds, .int q_heapMany, .ref m_led, .ref m_newAt, .ref m_knowing, .ref m_firsts, .int (nI q_people), .ref m_secrets, .ref m_tried, .ref m_lanes, .ref m_lengths, .ref m_cells])), (m_manys, .inl (E.2.1 1, 18, .inl f_manys)), (m_possible, .inl (E.2.1 1, 1728, .inl f_possible)), (m_factsOf, .inl (E.2.1 1, 432, .inl f_factsOf)), (m_heaps, .inl (E.2.1 1, 2400, .inl f_heaps)), (m_led, .inl (E.2.1 2, 192, .inr (.inl f_led)))] 0 0
  have hmn0 := (hb_manys 0 (by omega)).2
  refine ww_aload_n C dX12_classOf_0 0 rfl rfl ?_
  refine ww_iload_n C dX12_classOf_1 1 rfl rfl ?_
  refine ww_ci (wr := [(m_possible, .inl (E.2.1 1, 1728, .inl f_possible)), (m_factsOf, .inl (E.2.1 1, 432, .inl f_factsOf)), (m_heaps, .inl (E.2.1 1, 2400, .inl f_heaps)), (m_led, .inl (E.2.1 2, 192, .inr (.inl f_led)))]) (k' := 0) (n' := 0) C (run_V (As := [.int v0]) (rest := []) C (r_isWorld X.2.1 E ro hm v0 m_manys m_reals m_factsOf m_possible q_undos q_models m_tape q_taped q_fault q_wrong q_wrongAt q_spot q_place q_token q_value m_ends m_letters m_actOf m_whom m_actMany m_tokens m_afters m_afterOf q_counted m_pile m_caseMany m_happen m_hasIf m_becomes m_goneOf m_heard m_pairs m_heaps q_rounds q_heapMany m_led m_newAt m_knowing m_firsts q_people m_secrets m_tried m_lanes m_lengths m_cells f_manys hb_manys) mi_X12_isWorld wl_X12_132 rfl 0 12 rfl rfl rfl rfl rfl dX12_classOf_2) (roK hro) [0, 1] [2, 3, 4, 5] rfl rfl rfl rfl (fun r_1 uz hw => ?_)
  rcases hw with hw | hw
  · refine an3 hw ?_
    clear hw
    intro he_4 he_5 h_2 hw
    have h_3 := hw
    clear hw
    have he_4 := he_4.symm
    subst he_4
    subst he_5
    refine ww_eq (ws' := [(m_possible, .inl (E.2.1 1, 1728, .inl f_possible)), (m_factsOf, .inl (E.2.1 1, 432, .inl f_factsOf)), (m_heaps, .inl (E.2.1 1, 2400, .inl f_heaps)), (m_led, .inl (E.2.1 2, 192, .inr (.inl f_led))), (hm, .inr (12, [.ref m_manys, .ref m_reals, .ref m_factsOf, .ref m_possible, .int (nI q_undos), .int (nI q_models), .ref m_tape, .int (nI q_taped), .int q_fault, .int q_wrong, .int q_wrongAt, .int q_spot, .int q_place, .int q_token, .int q_value, .ref m_ends, .ref m_letters, .ref m_actOf, .ref m_whom, .ref m_actMany, .ref m_tokens, .ref m_afters, .ref m_afterOf, .int q_counted, .ref m_pile, .ref m_caseMany, .ref m_happen, .ref m_hasIf, .ref m_becomes, .ref m_goneOf, .ref m_heard, .ref m_pairs, .ref m_heaps, .int q_rounds, .int q_heapMany, .ref m_led, .ref m_newAt, .ref m_knowing, .ref m_firsts, .int (nI q_people), .ref m_secrets, .ref m_tried, .ref m_lanes, .ref m_lengths, .ref m_cells])), (m_manys, .inl (E.2.1 1, 18, .inl f_manys))]) ?_ rfl rfl rfl
    refine ww_if_ne_t (tgt := 10) C dX12_classOf_5 (by decide) (by decide) ?_
    obtain ⟨j_9, hj_9, rfl⟩ := i_nat (x := v0) (N := 24) (by omega) (by omega)
    have hzj_9 := nI_toInt (n := j_9) (by omega)
    refine ww_aload_n C dX12_classOf_10 0 rfl rfl ?_
    refine ww_iconst (v := 0) C dX12_classOf_11 rfl ?_
    refine ww_bipush (v := (-4)) C dX12_classOf_12 rfl ?_
    refine ww_cv (wr := []) (k' := 0) (n' := 0) C (run_V (As := [.int 0, .int (-4)]) (rest := []) C (r_layHeapsN X.2.1 E ro hm m_manys m_reals m_factsOf m_possible q_undos q_models m_tape q_taped q_fault q_wrong q_wrongAt q_spot q_place q_token q_value m_ends m_letters m_actOf m_whom m_actMany m_tokens m_afters m_afterOf q_counted m_pile m_caseMany m_happen m_hasIf m_becomes m_goneOf m_heard m_pairs m_heaps q_rounds q_heapMany m_led m_newAt m_knowing m_firsts q_people m_secrets m_tried m_lanes m_lengths m_cells f_manys f_possible f_factsOf f_heaps f_led hb_manys) mi_X12_layHeaps wl_X12_298 rfl 0 12 rfl rfl rfl rfl rfl dX12_classOf_14) (roK hro) [4, 5, 0, 1, 2, 3] [] rfl rfl rfl rfl (fun uz hw => ?_)
    refine ex4 hw ?_
    clear hw
    intro rz__11 hmz_12 f_heapsz_13 f_ledz_14 hw
    refine an3 hw ?_
    clear hw
    intro he_18 h_15 h_16 hw
    have h_17 := hw
    clear hw
    subst he_18
    refine ww_eq (ws' := [(hm, .inr (12, [.ref m_manys, .ref m_reals, .ref m_factsOf, .ref m_possible, .int (nI q_undos), .int (nI q_models), .ref m_tape, .int (nI q_taped), .int q_fault, .int q_wrong, .int q_wrongAt, .int q_spot, .int q_place, .int q_token, .int q_value, .ref m_ends, .ref m_letters, .ref m_actOf, .ref m_whom, .ref m_actMany, .ref m_tokens, .ref m_afters, .ref m_afterOf, .int q_counted, .ref m_pile, .ref m_caseMany, .ref m_happen, .ref m_hasIf, .ref m_becomes, .ref m_goneOf, .ref m_heard, .ref m_pairs, .ref m_heaps, .int (nI rz__11), .int (nI hmz_12), .ref m_led, .ref m_newAt, .ref m_knowing, .ref m_firsts, .int (nI q_people), .ref m_secrets, .ref m_tried, .ref m_lanes, .ref m_lengths, .ref m_cells])), (m_manys, .inl (E.2.1 1, 18, .inl f_manys)), (m_possible, .inl (E.2.1 1, 1728, .inl f_possible)), (m_factsOf, .inl (E.2.1 1, 432, .inl f_factsOf)), (m_heaps, .inl (E.2.1 1, 2400, .inl f_heapsz_13)), (m_led, .inl (E.2.1 2, 192, .inr (.inl f_ledz_14)))]) ?_ rfl rfl rfl
    refine ww_aload_n C dX12_classOf_17 0 rfl rfl ?_
    refine ww_iload_n C dX12_classOf_18 1 rfl rfl ?_
    refine ww_ci (wr := [(m_manys, .inl (E.2.1 1, 18, .inl f_manys)), (m_possible, .inl (E.2.1 1, 1728, .inl f_possible)), (m_factsOf, .inl (E.2.1 1, 432, .inl f_factsOf)), (m_led, .inl (E.2.1 2, 192, .inr (.inl f_ledz_14)))]) (k' := 0) (n' := 0) C (run_V (As := [.int (nI j_9)]) (rest := []) C (r_heapOf X.2.1 E ro hm j_9 m_manys m_reals m_factsOf m_possible q_undos q_models m_tape q_taped q_fault q_wrong q_wrongAt q_spot q_place q_token q_value m_ends m_letters m_actOf m_whom m_actMany m_tokens m_afters m_afterOf q_counted m_pile m_caseMany m_happen m_hasIf m_becomes m_goneOf m_heard m_pairs m_heaps rz__11 (nI hmz_12) m_led m_newAt m_knowing m_firsts q_people m_secrets m_tried m_lanes m_lengths m_cells f_heapsz_13 (by omega) (by omega)) mi_X12_heapOf wl_X12_301 rfl 0 12 rfl rfl rfl rfl rfl dX12_classOf_19) (roK hro) [0, 4] [1, 2, 3, 5] rfl rfl rfl rfl (fun r_19 uz hw => ?_)
    refine an1 hw ?_
    clear hw
    intro he_20 hw
    have he_21 := hw
    clear hw
    have he_20 := he_20.symm
    subst he_20
    subst he_21
    refine ww_eq (ws' := [(m_manys, .inl (E.2.1 1, 18, .inl f_manys)), (m_possible, .inl (E.2.1 1, 1728, .inl f_possible)), (m_factsOf, .inl (E.2.1 1, 432, .inl f_factsOf)), (m_led, .inl (E.2.1 2, 192, .inr (.inl f_ledz_14))), (hm, .inr (12, [.ref m_manys, .ref m_reals, .ref m_factsOf, .ref m_possible, .int (nI q_undos), .int (nI q_models), .ref m_tape, .int (nI q_taped), .int q_fault, .int q_wrong, .int q_wrongAt, .int q_spot, .int q_place, .int q_token, .int q_value, .ref m_ends, .ref m_letters, .ref m_actOf, .ref m_whom, .ref m_actMany, .ref m_tokens, .ref m_afters, .ref m_afterOf, .int q_counted, .ref m_pile, .ref m_caseMany, .ref m_happen, .ref m_hasIf, .ref m_becomes, .ref m_goneOf, .ref m_heard, .ref m_pairs, .ref m_heaps, .int (nI rz__11), .int (nI hmz_12), .ref m_led, .ref m_newAt, .ref m_knowing, .ref m_firsts, .int (nI q_people), .ref m_secrets, .ref m_tried, .ref m_lanes, .ref m_lengths, .ref m_cells])), (m_heaps, .inl (E.2.1 1, 2400, .inl f_heapsz_13))]) ?_ rfl rfl rfl
    exact ww_iret (u := [(hm, .inr (12, [.ref m_manys, .ref m_reals, .ref m_factsOf, .ref m_possible, .int (nI q_undos), .int (nI q_models), .ref m_tape, .int (nI q_taped), .int q_fault, .int q_wrong, .int q_wrongAt, .int q_spot, .int q_place, .int q_token, .int q_value, .ref m_ends, .ref m_letters, .ref m_actOf, .ref m_whom, .ref m_actMany, .ref m_tokens, .ref m_afters, .ref m_afterOf, .int q_counted, .ref m_pile, .ref m_caseMany, .ref m_happen, .ref m_hasIf, .ref m_becomes, .ref m_goneOf, .ref m_heard, .ref m_pairs, .ref m_heaps, .int (nI rz__11), .int (nI hmz_12), .ref m_led, .ref m_newAt, .ref m_knowing, .ref m_firsts, .int (nI q_people), .ref m_secrets, .ref m_tried, .ref m_lanes, .ref m_lengths, .ref m_cells])), (m_manys, .inl (E.2.1 1, 18, .inl f_manys)), (m_possible, .inl (E.2.1 1, 1728, .inl f_possible)), (m_factsOf, .inl (E.2.1 1, 432, .inl f_factsOf)), (m_heaps, .inl (E.2.1 1, 2400, .inl f_heapsz_13)), (m_led, .inl (E.2.1 2, 192, .inr (.inl f_ledz_14)))]) C hT [4, 0, 1, 2, 5, 3] rfl rfl rfl rfl dX12_classOf_22 (⟨(nI rz__11), (nI hmz_12), f_heapsz_13, f_ledz_14, rfl⟩)
  · refine an2 hw ?_
    clear hw
    intro he_7 he_8 hw
    have h_6 := hw
    clear hw
    have he_7 := he_7.symm
    subst he_7
    subst he_8
    refine ww_eq (ws' := [(m_possible, .inl (E.2.1 1, 1728, .inl f_possible)), (m_factsOf, .inl (E.2.1 1, 432, .inl f_factsOf)), (m_heaps, .inl (E.2.1 1, 2400, .inl f_heaps)), (m_led, .inl (E.2.1 2, 192, .inr (.inl f_led))), (hm, .inr (12, [.ref m_manys, .ref m_reals, .ref m_factsOf, .ref m_possible, .int (nI q_undos), .int (nI q_models), .ref m_tape, .int (nI q_taped), .int q_fault, .int q_wrong, .int q_wrongAt, .int q_spot, .int q_place, .int q_token, .int q_value, .ref m_ends, .ref m_letters, .ref m_actOf, .ref m_whom, .ref m_actMany, .ref m_tokens, .ref m_afters, .ref m_afterOf, .int q_counted, .ref m_pile, .ref m_caseMany, .ref m_happen, .ref m_hasIf, .ref m_becomes, .ref m_goneOf, .ref m_heard, .ref m_pairs, .ref m_heaps, .int q_rounds, .int q_heapMany, .ref m_led, .ref m_newAt, .ref m_knowing, .ref m_firsts, .int (nI q_people), .ref m_secrets, .ref m_tried, .ref m_lanes, .ref m_lengths, .ref m_cells])), (m_manys, .inl (E.2.1 1, 18, .inl f_manys))]) ?_ rfl rfl rfl
    refine ww_if_ne_f (tgt := 10) C dX12_classOf_5 (by decide) (rfl) ?_
    refine ww_iconst (v := (-1)) C dX12_classOf_8 rfl ?_
    exact ww_iret (u := [(hm, .inr (12, [.ref m_manys, .ref m_reals, .ref m_factsOf, .ref m_possible, .int (nI q_undos), .int (nI q_models), .ref m_tape, .int (nI q_taped), .int q_fault, .int q_wrong, .int q_wrongAt, .int q_spot, .int q_place, .int q_token, .int q_value, .ref m_ends, .ref m_letters, .ref m_actOf, .ref m_whom, .ref m_actMany, .ref m_tokens, .ref m_afters, .ref m_afterOf, .int q_counted, .ref m_pile, .ref m_caseMany, .ref m_happen, .ref m_hasIf, .ref m_becomes, .ref m_goneOf, .ref m_heard, .ref m_pairs, .ref m_heaps, .int q_rounds, .int q_heapMany, .ref m_led, .ref m_newAt, .ref m_knowing, .ref m_firsts, .int (nI q_people), .ref m_secrets, .ref m_tried, .ref m_lanes, .ref m_lengths, .ref m_cells])), (m_manys, .inl (E.2.1 1, 18, .inl f_manys)), (m_possible, .inl (E.2.1 1, 1728, .inl f_possible)), (m_factsOf, .inl (E.2.1 1, 432, .inl f_factsOf)), (m_heaps, .inl (E.2.1 1, 2400, .inl f_heaps)), (m_led, .inl (E.2.1 2, 192, .inr (.inl f_led)))]) C hT [4, 5, 0, 1, 2, 3] rfl rfl rfl rfl dX12_classOf_9 (⟨q_rounds, q_heapMany, f_heaps, f_led, rfl⟩)
theorem dX12_depth_0 : decode cX12_depth 0 = .ok (.aload_n 0, 1) := by decide +kernel
theorem dX12_depth_1 : decode cX12_depth 1 = .ok (.iload_n 1, 1) := by decide +kernel
theorem dX12_depth_2 : decode cX12_depth 2 = .ok (.invokevirtual 132, 3) := by decide +kernel
theorem dX12_depth_5 : decode cX12_depth 5 = .ok (.ifCond .eq 11, 3) := by decide +kernel
theorem dX12_depth_8 : decode cX12_depth 8 = .ok (.aload_n 0, 1) := by decide +kernel
theorem dX12_depth_9 : decode cX12_depth 9 = .ok (.iload_n 2, 1) := by decide +kernel
theorem dX12_depth_10 : decode cX12_depth 10 = .ok (.invokevirtual 132, 3) := by decide +kernel
theorem dX12_depth_13 : decode cX12_depth 13 = .ok (.ifCond .ne 5, 3) := by decide +kernel
theorem dX12_depth_18 : decode cX12_depth 18 = .ok (.aload_n 0, 1) := by decide +kernel
theorem dX12_depth_19 : decode cX12_depth 19 = .ok (.iconst 0, 1) := by decide +kernel
theorem dX12_depth_20 : decode cX12_depth 20 = .ok (.bipush (-4), 2) := by decide +kernel
theorem dX12_depth_22 : decode cX12_depth 22 = .ok (.invokevirtual 298, 3) := by decide +kernel
theorem dX12_depth_25 : decode cX12_depth 25 = .ok (.iconst 0, 1) := by decide +kernel
theorem dX12_depth_26 : decode cX12_depth 26 = .ok (.istore_n 3, 1) := by decide +kernel
theorem dX12_depth_27 : decode cX12_depth 27 = .ok (.iload_n 3, 1) := by decide +kernel
theorem dX12_depth_28 : decode cX12_depth 28 = .ok (.aload_n 0, 1) := by decide +kernel
theorem dX12_depth_29 : decode cX12_depth 29 = .ok (.getfield 288, 3) := by decide +kernel
theorem dX12_depth_32 : decode cX12_depth 32 = .ok (.if_icmp .gt 36, 3) := by decide +kernel
theorem dX12_depth_68 : decode cX12_depth 68 = .ok (.bipush (-4), 2) := by decide +kernel
theorem dX12_depth_70 : decode cX12_depth 70 = .ok (.ireturn, 1) := by decide +kernel
theorem dX12_depth_35 : decode cX12_depth 35 = .ok (.aload_n 0, 1) := by decide +kernel
theorem dX12_depth_36 : decode cX12_depth 36 = .ok (.getfield 74, 3) := by decide +kernel
theorem dX12_depth_39 : decode cX12_depth 39 = .ok (.bipush 48, 2) := by decide +kernel
theorem dX12_depth_41 : decode cX12_depth 41 = .ok (.iload_n 3, 1) := by decide +kernel
theorem dX12_depth_42 : decode cX12_depth 42 = .ok (.imul, 1) := by decide +kernel
theorem dX12_depth_43 : decode cX12_depth 43 = .ok (.iload_n 1, 1) := by decide +kernel
theorem dX12_depth_44 : decode cX12_depth 44 = .ok (.iadd, 1) := by decide +kernel
theorem dX12_depth_45 : decode cX12_depth 45 = .ok (.iaload, 1) := by decide +kernel
theorem dX12_depth_46 : decode cX12_depth 46 = .ok (.aload_n 0, 1) := by decide +kernel
theorem dX12_depth_47 : decode cX12_depth 47 = .ok (.getfield 74, 3) := by decide +kernel
theorem dX12_depth_50 : decode cX12_depth 50 = .ok (.bipush 48, 2) := by decide +kernel
theorem dX12_depth_52 : decode cX12_depth 52 = .ok (.iload_n 3, 1) := by decide +kernel
theorem dX12_depth_53 : decode cX12_depth 53 = .ok (.imul, 1) := by decide +kernel
theorem dX12_depth_54 : decode cX12_depth 54 = .ok (.iload_n 2, 1) := by decide +kernel
theorem dX12_depth_55 : decode cX12_depth 55 = .ok (.iadd, 1) := by decide +kernel
theorem dX12_depth_56 : decode cX12_depth 56 = .ok (.iaload, 1) := by decide +kernel
theorem dX12_depth_57 : decode cX12_depth 57 = .ok (.if_icmp .eq 5, 3) := by decide +kernel
theorem dX12_depth_62 : decode cX12_depth 62 = .ok (.iinc 3 1, 3) := by decide +kernel
theorem dX12_depth_65 : decode cX12_depth 65 = .ok (.goto (-38), 3) := by decide +kernel
theorem dX12_depth_60 : decode cX12_depth 60 = .ok (.iload_n 3, 1) := by decide +kernel
theorem dX12_depth_61 : decode cX12_depth 61 = .ok (.ireturn, 1) := by decide +kernel
theorem dX12_depth_16 : decode cX12_depth 16 = .ok (.iconst (-1), 1) := by decide +kernel
theorem dX12_depth_17 : decode cX12_depth 17 = .ok (.ireturn, 1) := by decide +kernel
set_option maxRecDepth 100000 in
set_option maxHeartbeats 4000000 in
theorem y_depth (l : Launch) (E : EV) (ro : va_W) (hm : Nat) (v0 : Int32) (v1 : Int32) (m_manys : Nat) (m_reals : Nat) (m_factsOf : Nat) (m_possible : Nat) (q_undos : Nat) (q_models : Nat) (m_tape : Nat) (q_taped : Nat) (q_fault : Int32) (q_wrong : Int32) (q_wrongAt : Int32) (q_spot : Int32) (q_place : Int32) (q_token : Int32) (q_value : Int32) (m_ends : Nat) (m_letters : Nat) (m_actOf : Nat) (m_whom : Nat) (m_actMany : Nat) (m_tokens : Nat) (m_afters : Nat) (m_afterOf : Nat) (q_counted : Int32) (m_pile : Nat) (m_caseMany : Nat) (m_happen : Nat) (m_hasIf : Nat) (m_becomes : Nat) (m_goneOf : Nat) (m_heard : Nat) (m_pairs : Nat) (m_heaps : Nat) (q_rounds : Int32) (q_heapMany : Int32) (m_led : Nat) (m_newAt : Nat) (m_knowing : Nat) (m_firsts : Nat) (q_people : Nat) (m_secrets : Nat) (m_tried : Nat) (m_lanes : Nat) (m_lengths : Nat) (m_cells : Nat) (f_manys : Nat → Int32) (f_possible : Nat → Int32) (f_factsOf : Nat → Int32) (f_heaps : Nat → Int32) (f_led : Nat → Int64) (hb_manys : NB 18 24 f_manys) : CT l yX12_depth (Cond.code yX12_depth cX12_depth 4 (some .int) :: TB) ({ frames := 3, cells := 0, slots := 0, locals := 78 }) E ro [.ref hm, .int v0, .int v1] [(hm, .inr (12, [.ref m_manys, .ref m_reals, .ref m_factsOf, .ref m_possible, .int (nI q_undos), .int (nI q_models), .ref m_tape, .int (nI q_taped), .int q_fault, .int q_wrong, .int q_wrongAt, .int q_spot, .int q_place, .int q_token, .int q_value, .ref m_ends, .ref m_letters, .ref m_actOf, .ref m_whom, .ref m_actMany, .ref m_tokens, .ref m_afters, .ref m_afterOf, .int q_counted, .ref m_pile, .ref m_caseMany, .ref m_happen, .ref m_hasIf, .ref m_becomes, .ref m_goneOf, .ref m_heard, .ref m_pairs, .ref m_heaps, .int q_rounds, .int q_heapMany, .ref m_led, .ref m_newAt, .ref m_knowing, .ref m_firsts, .int (nI q_people), .ref m_secrets, .ref m_tried, .ref m_lanes, .ref m_lengths, .ref m_cells])), (m_manys, .inl (E.2.1 1, 18, .inl f_manys)), (m_possible, .inl (E.2.1 1, 1728, .inl f_possible)), (m_factsOf, .inl (E.2.1 1, 432, .inl f_factsOf)), (m_heaps, .inl (E.2.1 1, 2400, .inl f_heaps)), (m_led, .inl (E.2.1 2, 192, .inr (.inl f_led)))] (Qi E (fun (rz : Int32) uz => (∃ (rz_ : Int32) (hmz : Int32) (f_heapsz : Nat → Int32) (f_ledz : Nat → Int64), uz = [(hm, .inr (12, [.ref m_manys, .ref m_reals, .ref m_factsOf, .ref m_possible, .int (nI q_undos), .int (nI q_models), .ref m_tape, .int (nI q_taped), .int q_fault, .int q_wrong, .int q_wrongAt, .int q_spot, .int q_place, .int q_token, .int q_value, .ref m_ends, .ref m_letters, .ref m_actOf, .ref m_whom, .ref m_actMany, .ref m_tokens, .ref m_afters, .ref m_afterOf, .int q_counted, .ref m_pile, .ref m_caseMany, .ref m_happen, .ref m_hasIf, .ref m_becomes, .ref m_goneOf, .ref m_heard, .ref m_pairs, .ref m_heaps, .int rz_, .int hmz, .ref m_led, .ref m_newAt, .ref m_knowing, .ref m_firsts, .int (nI q_people), .ref m_secrets, .ref m_tried, .ref m_lanes, .ref m_lengths, .ref m_cells])), (m_manys, .inl (E.2.1 1, 18, .inl f_manys)), (m_possible, .inl (E.2.1 1, 1728, .inl f_possible)), (m_factsOf, .inl (E.2.1 1, 432, .inl f_factsOf)), (m_heaps, .inl (E.2.1 1, 2400, .inl f_heapsz)), (m_led, .inl (E.2.1 2, 192, .inr (.inl f_ledz)))]))) 0 0 := by
  refine ct_of rfl rfl ?_
  intro X C hT hin hro
  show WW X 4 E 0 [(0, .ref hm), (1, .int v0), (2, .int v1)] [] [(hm, .inr (12, [.ref m_manys, .ref m_reals, .ref m_factsOf, .ref m_possible, .int (nI q_undos), .int (nI q_models), .ref m_tape, .int (nI q_taped), .int q_fault, .int q_wrong, .int q_wrongAt, .int q_spot, .int q_place, .int q_token, .int q_value, .ref m_ends, .ref m_letters, .ref m_actOf, .ref m_whom, .ref m_actMany, .ref m_tokens, .ref m_afters, .ref m_afterOf, .int q_counted, .ref m_pile, .ref m_caseMany, .ref m_happen, .ref m_hasIf, .ref m_becomes, .ref m_goneOf, .ref m_heard, .ref m_pairs, .ref m_heaps, .int q_rounds, .int q_heapMany, .ref m_led, .ref m_newAt, .ref m_knowing, .ref m_firsts, .int (nI q_people), .ref m_secrets, .ref m_tried, .ref m_lanes, .ref m_lengths, .ref m_cells])), (m_manys, .inl (E.2.1 1, 18, .inl f_manys)), (m_possible, .inl (E.2.1 1, 1728, .inl f_possible)), (m_factsOf, .inl (E.2.1 1, 432, .inl f_factsOf)), (m_heaps, .inl (E.2.1 1, 2400, .inl f_heaps)), (m_led, .inl (E.2.1 2, 192, .inr (.inl f_led)))] 0 0
  have hmn0 := (hb_manys 0 (by omega)).2
  refine ww_aload_n C dX12_depth_0 0 rfl rfl ?_
  refine ww_iload_n C dX12_depth_1 1 rfl rfl ?_
  refine ww_ci (wr := [(m_possible, .inl (E.2.1 1, 1728, .inl f_possible)), (m_factsOf, .inl (E.2.1 1, 432, .inl f_factsOf)), (m_heaps, .inl (E.2.1 1, 2400, .inl f_heaps)), (m_led, .inl (E.2.1 2, 192, .inr (.inl f_led)))]) (k' := 0) (n' := 0) C (run_V (As := [.int v0]) (rest := []) C (r_isWorld X.2.1 E ro hm v0 m_manys m_reals m_factsOf m_possible q_undos q_models m_tape q_taped q_fault q_wrong q_wrongAt q_spot q_place q_token q_value m_ends m_letters m_actOf m_whom m_actMany m_tokens m_afters m_afterOf q_counted m_pile m_caseMany m_happen m_hasIf m_becomes m_goneOf m_heard m_pairs m_heaps q_rounds q_heapMany m_led m_newAt m_knowing m_firsts q_people m_secrets m_tried m_lanes m_lengths m_cells f_manys hb_manys) mi_X12_isWorld wl_X12_132 rfl 0 12 rfl rfl rfl rfl rfl dX12_depth_2) (roK hro) [0, 1] [2, 3, 4, 5] rfl rfl rfl rfl (fun r_1 uz hw => ?_)
  rcases hw with hw | hw
  · refine an3 hw ?_
    clear hw
    intro he_4 he_5 h_2 hw
    have h_3 := hw
    clear hw
    have he_4 := he_4.symm
    subst he_4
    subst he_5
    refine ww_eq (ws' := [(m_possible, .inl (E.2.1 1, 1728, .inl f_possible)), (m_factsOf, .inl (E.2.1 1, 432, .inl f_factsOf)), (m_heaps, .inl (E.2.1 1, 2400, .inl f_heaps)), (m_led, .inl (E.2.1 2, 192, .inr (.inl f_led))), (hm, .inr (12, [.ref m_manys, .ref m_reals, .ref m_factsOf, .ref m_possible, .int (nI q_undos), .int (nI q_models), .ref m_tape, .int (nI q_taped), .int q_fault, .int q_wrong, .int q_wrongAt, .int q_spot, .int q_place, .int q_token, .int q_value, .ref m_ends, .ref m_letters, .ref m_actOf, .ref m_whom, .ref m_actMany, .ref m_tokens, .ref m_afters, .ref m_afterOf, .int q_counted, .ref m_pile, .ref m_caseMany, .ref m_happen, .ref m_hasIf, .ref m_becomes, .ref m_goneOf, .ref m_heard, .ref m_pairs, .ref m_heaps, .int q_rounds, .int q_heapMany, .ref m_led, .ref m_newAt, .ref m_knowing, .ref m_firsts, .int (nI q_people), .ref m_secrets, .ref m_tried, .ref m_lanes, .ref m_lengths, .ref m_cells])), (m_manys, .inl (E.2.1 1, 18, .inl f_manys))]) ?_ rfl rfl rfl
    refine ww_if_eq_f (tgt := 16) C dX12_depth_5 (by decide) (by decide) ?_
    refine ww_aload_n C dX12_depth_8 0 rfl rfl ?_
    refine ww_iload_n C dX12_depth_9 2 rfl rfl ?_
    refine ww_ci (wr := [(m_possible, .inl (E.2.1 1, 1728, .inl f_possible)), (m_factsOf, .inl (E.2.1 1, 432, .inl f_factsOf)), (m_heaps, .inl (E.2.1 1, 2400, .inl f_heaps)), (m_led, .inl (E.2.1 2, 192, .inr (.inl f_led)))]) (k' := 0) (n' := 0) C (run_V (As := [.int v1]) (rest := []) C (r_isWorld X.2.1 E ro hm v1 m_manys m_reals m_factsOf m_possible q_undos q_models m_tape q_taped q_fault q_wrong q_wrongAt q_spot q_place q_token q_value m_ends m_letters m_actOf m_whom m_actMany m_tokens m_afters m_afterOf q_counted m_pile m_caseMany m_happen m_hasIf m_becomes m_goneOf m_heard m_pairs m_heaps q_rounds q_heapMany m_led m_newAt m_knowing m_firsts q_people m_secrets m_tried m_lanes m_lengths m_cells f_manys hb_manys) mi_X12_isWorld wl_X12_132 rfl 0 12 rfl rfl rfl rfl rfl dX12_depth_10) (roK hro) [4, 5] [0, 1, 2, 3] rfl rfl rfl rfl (fun r_9 uz hw => ?_)
    rcases hw with hw | hw
    · refine an3 hw ?_
      clear hw
      intro he_12 he_13 h_10 hw
      have h_11 := hw
      clear hw
      have he_12 := he_12.symm
      subst he_12
      subst he_13
      refine ww_eq (ws' := [(m_possible, .inl (E.2.1 1, 1728, .inl f_possible)), (m_factsOf, .inl (E.2.1 1, 432, .inl f_factsOf)), (m_heaps, .inl (E.2.1 1, 2400, .inl f_heaps)), (m_led, .inl (E.2.1 2, 192, .inr (.inl f_led))), (hm, .inr (12, [.ref m_manys, .ref m_reals, .ref m_factsOf, .ref m_possible, .int (nI q_undos), .int (nI q_models), .ref m_tape, .int (nI q_taped), .int q_fault, .int q_wrong, .int q_wrongAt, .int q_spot, .int q_place, .int q_token, .int q_value, .ref m_ends, .ref m_letters, .ref m_actOf, .ref m_whom, .ref m_actMany, .ref m_tokens, .ref m_afters, .ref m_afterOf, .int q_counted, .ref m_pile, .ref m_caseMany, .ref m_happen, .ref m_hasIf, .ref m_becomes, .ref m_goneOf, .ref m_heard, .ref m_pairs, .ref m_heaps, .int q_rounds, .int q_heapMany, .ref m_led, .ref m_newAt, .ref m_knowing, .ref m_firsts, .int (nI q_people), .ref m_secrets, .ref m_tried, .ref m_lanes, .ref m_lengths, .ref m_cells])), (m_manys, .inl (E.2.1 1, 18, .inl f_manys))]) ?_ rfl rfl rfl
      refine ww_if_ne_t (tgt := 18) C dX12_depth_13 (by decide) (by decide) ?_
      obtain ⟨j_17, hj_17, rfl⟩ := i_nat (x := v0) (N := 24) (by omega) (by omega)
      have hzj_17 := nI_toInt (n := j_17) (by omega)
      obtain ⟨j_18, hj_18, rfl⟩ := i_nat (x := v1) (N := 24) (by omega) (by omega)
      have hzj_18 := nI_toInt (n := j_18) (by omega)
      refine ww_aload_n C dX12_depth_18 0 rfl rfl ?_
      refine ww_iconst (v := 0) C dX12_depth_19 rfl ?_
      refine ww_bipush (v := (-4)) C dX12_depth_20 rfl ?_
      refine ww_cv (wr := []) (k' := 0) (n' := 0) C (run_V (As := [.int 0, .int (-4)]) (rest := []) C (r_layHeapsN X.2.1 E ro hm m_manys m_reals m_factsOf m_possible q_undos q_models m_tape q_taped q_fault q_wrong q_wrongAt q_spot q_place q_token q_value m_ends m_letters m_actOf m_whom m_actMany m_tokens m_afters m_afterOf q_counted m_pile m_caseMany m_happen m_hasIf m_becomes m_goneOf m_heard m_pairs m_heaps q_rounds q_heapMany m_led m_newAt m_knowing m_firsts q_people m_secrets m_tried m_lanes m_lengths m_cells f_manys f_possible f_factsOf f_heaps f_led hb_manys) mi_X12_layHeaps wl_X12_298 rfl 0 12 rfl rfl rfl rfl rfl dX12_depth_22) (roK hro) [4, 5, 0, 1, 2, 3] [] rfl rfl rfl rfl (fun uz hw => ?_)
      refine ex4 hw ?_
      clear hw
      intro rz__20 hmz_21 f_heapsz_22 f_ledz_23 hw
      refine an3 hw ?_
      clear hw
      intro he_27 h_24 h_25 hw
      have h_26 := hw
      clear hw
      subst he_27
      refine ww_eq (ws' := [(hm, .inr (12, [.ref m_manys, .ref m_reals, .ref m_factsOf, .ref m_possible, .int (nI q_undos), .int (nI q_models), .ref m_tape, .int (nI q_taped), .int q_fault, .int q_wrong, .int q_wrongAt, .int q_spot, .int q_place, .int q_token, .int q_value, .ref m_ends, .ref m_letters, .ref m_actOf, .ref m_whom, .ref m_actMany, .ref m_tokens, .ref m_afters, .ref m_afterOf, .int q_counted, .ref m_pile, .ref m_caseMany, .ref m_happen, .ref m_hasIf, .ref m_becomes, .ref m_goneOf, .ref m_heard, .ref m_pairs, .ref m_heaps, .int (nI rz__20), .int (nI hmz_21), .ref m_led, .ref m_newAt, .ref m_knowing, .ref m_firsts, .int (nI q_people), .ref m_secrets, .ref m_tried, .ref m_lanes, .ref m_lengths, .ref m_cells])), (m_manys, .inl (E.2.1 1, 18, .inl f_manys)), (m_possible, .inl (E.2.1 1, 1728, .inl f_possible)), (m_factsOf, .inl (E.2.1 1, 432, .inl f_factsOf)), (m_heaps, .inl (E.2.1 1, 2400, .inl f_heapsz_22)), (m_led, .inl (E.2.1 2, 192, .inr (.inl f_ledz_23)))]) ?_ rfl rfl rfl
      refine ww_iconst (v := 0) C dX12_depth_25 rfl ?_
      refine ww_istore_n (lv' := [(3, .int 0), (0, .ref hm), (1, .int (nI j_17)), (2, .int (nI j_18))]) C dX12_depth_26 rfl rfl rfl ?_
      have loop_27 : ∀ (fu : Nat) (r1 : Nat), (r1 ≤ rz__20 + 1) → rz__20 + 1 - r1 < fu → WW X 4 E 27 [(3, .int (nI r1)), (0, .ref hm), (1, .int (nI j_17)), (2, .int (nI j_18))] [] [(hm, .inr (12, [.ref m_manys, .ref m_reals, .ref m_factsOf, .ref m_possible, .int (nI q_undos), .int (nI q_models), .ref m_tape, .int (nI q_taped), .int q_fault, .int q_wrong, .int q_wrongAt, .int q_spot, .int q_place, .int q_token, .int q_value, .ref m_ends, .ref m_letters, .ref m_actOf, .ref m_whom, .ref m_actMany, .ref m_tokens, .ref m_afters, .ref m_afterOf, .int q_counted, .ref m_pile, .ref m_caseMany, .ref m_happen, .ref m_hasIf, .ref m_becomes, .ref m_goneOf, .ref m_heard, .ref m_pairs, .ref m_heaps, .int (nI rz__20), .int (nI hmz_21), .ref m_led, .ref m_newAt, .ref m_knowing, .ref m_firsts, .int (nI q_people), .ref m_secrets, .ref m_tried, .ref m_lanes, .ref m_lengths, .ref m_cells])), (m_manys, .inl (E.2.1 1, 18, .inl f_manys)), (m_possible, .inl (E.2.1 1, 1728, .inl f_possible)), (m_factsOf, .inl (E.2.1 1, 432, .inl f_factsOf)), (m_heaps, .inl (E.2.1 1, 2400, .inl f_heapsz_22)), (m_led, .inl (E.2.1 2, 192, .inr (.inl f_ledz_23)))] 0 0 := by
        intro fu
        induction fu with
        | zero => intro r1 hr1 hmeas; exact absurd hmeas (Nat.not_lt_zero _)
        | succ fu ih_27 =>
          intro r1 hr1 hmeas
          refine ww_iload_n C dX12_depth_27 0 rfl rfl ?_
          refine ww_aload_n C dX12_depth_28 1 rfl rfl ?_
          refine ww_get C fg_X12_288 0 rfl rfl dX12_depth_29 ?_
          refine ww_icmp_gt (tgt := 68) C dX12_depth_32 (by decide) (fun c_28 => ?_) (fun c_28 => ?_)
          · have zc_28 : ((r1 : Nat) : Int) > ((rz__20 : Nat) : Int) := i_lt (nI_toInt (n := rz__20) (by omega)) (nI_toInt (n := r1) (by omega)) c_28
            refine ww_bipush (v := (-4)) C dX12_depth_68 rfl ?_
            exact ww_iret (u := [(hm, .inr (12, [.ref m_manys, .ref m_reals, .ref m_factsOf, .ref m_possible, .int (nI q_undos), .int (nI q_models), .ref m_tape, .int (nI q_taped), .int q_fault, .int q_wrong, .int q_wrongAt, .int q_spot, .int q_place, .int q_token, .int q_value, .ref m_ends, .ref m_letters, .ref m_actOf, .ref m_whom, .ref m_actMany, .ref m_tokens, .ref m_afters, .ref m_afterOf, .int q_counted, .ref m_pile, .ref m_caseMany, .ref m_happen, .ref m_hasIf, .ref m_becomes, .ref m_goneOf, .ref m_heard, .ref m_pairs, .ref m_heaps, .int (nI rz__20), .int (nI hmz_21), .ref m_led, .ref m_newAt, .ref m_knowing, .ref m_firsts, .int (nI q_people), .ref m_secrets, .ref m_tried, .ref m_lanes, .ref m_lengths, .ref m_cells])), (m_manys, .inl (E.2.1 1, 18, .inl f_manys)), (m_possible, .inl (E.2.1 1, 1728, .inl f_possible)), (m_factsOf, .inl (E.2.1 1, 432, .inl f_factsOf)), (m_heaps, .inl (E.2.1 1, 2400, .inl f_heapsz_22)), (m_led, .inl (E.2.1 2, 192, .inr (.inl f_ledz_23)))]) C hT [0, 1, 2, 3, 4, 5] rfl rfl rfl rfl dX12_depth_70 (⟨(nI rz__20), (nI hmz_21), f_heapsz_22, f_ledz_23, rfl⟩)
          · have zc_28 : ((r1 : Nat) : Int) ≤ ((rz__20 : Nat) : Int) := i_nlt (nI_toInt (n := rz__20) (by omega)) (nI_toInt (n := r1) (by omega)) c_28
            refine ww_aload_n C dX12_depth_35 1 rfl rfl ?_
            refine ww_get C fg_X12_74 0 rfl rfl dX12_depth_36 ?_
            refine ww_bipush (v := 48) C dX12_depth_39 rfl ?_
            refine ww_iload_n C dX12_depth_41 0 rfl rfl ?_
            refine ww_imul (v := (nI (48 * r1))) C dX12_depth_42 (pk_mul 48 r1) ?_
            refine ww_iload_n C dX12_depth_43 2 rfl rfl ?_
            refine ww_iadd (v := (nI ((48 * r1) + j_17))) C dX12_depth_44 (nI_add (48 * r1) j_17) ?_
            obtain ⟨x_29, ex_29⟩ : ∃ z : Int32, f_heapsz_22 ((48 * r1) + j_17) = z := ⟨_, rfl⟩
            refine ww_iald (v := x_29) C 4 rfl (vp_in_nI (by omega) (by omega)) (ldn (by omega) ex_29) dX12_depth_45 ?_
            refine ww_aload_n C dX12_depth_46 1 rfl rfl ?_
            refine ww_get C fg_X12_74 0 rfl rfl dX12_depth_47 ?_
            refine ww_bipush (v := 48) C dX12_depth_50 rfl ?_
            refine ww_iload_n C dX12_depth_52 0 rfl rfl ?_
            refine ww_imul (v := (nI (48 * r1))) C dX12_depth_53 (pk_mul 48 r1) ?_
            refine ww_iload_n C dX12_depth_54 3 rfl rfl ?_
            refine ww_iadd (v := (nI ((48 * r1) + j_18))) C dX12_depth_55 (nI_add (48 * r1) j_18) ?_
            obtain ⟨x_30, ex_30⟩ : ∃ z : Int32, f_heapsz_22 ((48 * r1) + j_18) = z := ⟨_, rfl⟩
            refine ww_iald (v := x_30) C 4 rfl (vp_in_nI (by omega) (by omega)) (ldn (by omega) ex_30) dX12_depth_56 ?_
            refine ww_icmp_eq (tgt := 62) C dX12_depth_57 (by decide) (fun c_31 => ?_) (fun c_31 => ?_)
            · have zc_31 : x_29.toInt = x_30.toInt := i_eq rfl rfl c_31
              refine ww_iinc (j := 0) (v := (nI (r1 + 1))) (lv' := [(3, .int (nI (r1 + 1))), (0, .ref hm), (1, .int (nI j_17)), (2, .int (nI j_18))]) C dX12_depth_62 rfl (nI_add r1 1) rfl rfl ?_
              refine ww_goto (tgt := 27) C dX12_depth_65 (by decide) ?_
              exact ww_lv [0, 1, 2, 3] rfl (ww_sub [0, 1, 2, 3, 4, 5] rfl rfl (ih_27 (r1 + 1) (by omega) (by omega)))
            · have zc_31 : x_29.toInt ≠ x_30.toInt := i_ne rfl rfl c_31
              refine ww_iload_n C dX12_depth_60 0 rfl rfl ?_
              exact ww_iret (u := [(hm, .inr (12, [.ref m_manys, .ref m_reals, .ref m_factsOf, .ref m_possible, .int (nI q_undos), .int (nI q_models), .ref m_tape, .int (nI q_taped), .int q_fault, .int q_wrong, .int q_wrongAt, .int q_spot, .int q_place, .int q_token, .int q_value, .ref m_ends, .ref m_letters, .ref m_actOf, .ref m_whom, .ref m_actMany, .ref m_tokens, .ref m_afters, .ref m_afterOf, .int q_counted, .ref m_pile, .ref m_caseMany, .ref m_happen, .ref m_hasIf, .ref m_becomes, .ref m_goneOf, .ref m_heard, .ref m_pairs, .ref m_heaps, .int (nI rz__20), .int (nI hmz_21), .ref m_led, .ref m_newAt, .ref m_knowing, .ref m_firsts, .int (nI q_people), .ref m_secrets, .ref m_tried, .ref m_lanes, .ref m_lengths, .ref m_cells])), (m_manys, .inl (E.2.1 1, 18, .inl f_manys)), (m_possible, .inl (E.2.1 1, 1728, .inl f_possible)), (m_factsOf, .inl (E.2.1 1, 432, .inl f_factsOf)), (m_heaps, .inl (E.2.1 1, 2400, .inl f_heapsz_22)), (m_led, .inl (E.2.1 2, 192, .inr (.inl f_ledz_23)))]) C hT [0, 1, 2, 3, 4, 5] rfl rfl rfl rfl dX12_depth_61 (⟨(nI rz__20), (nI hmz_21), f_heapsz_22, f_ledz_23, rfl⟩)
      exact ww_lv [0, 1, 2, 3] rfl (ww_sub [0, 1, 2, 3, 4, 5] rfl rfl (loop_27 _ 0 (by omega) (Nat.lt_succ_self _)))
    · refine an2 hw ?_
      clear hw
      intro he_15 he_16 hw
      have h_14 := hw
      clear hw
      have he_15 := he_15.symm
      subst he_15
      subst he_16
      refine ww_eq (ws' := [(m_possible, .inl (E.2.1 1, 1728, .inl f_possible)), (m_factsOf, .inl (E.2.1 1, 432, .inl f_factsOf)), (m_heaps, .inl (E.2.1 1, 2400, .inl f_heaps)), (m_led, .inl (E.2.1 2, 192, .inr (.inl f_led))), (hm, .inr (12, [.ref m_manys, .ref m_reals, .ref m_factsOf, .ref m_possible, .int (nI q_undos), .int (nI q_models), .ref m_tape, .int (nI q_taped), .int q_fault, .int q_wrong, .int q_wrongAt, .int q_spot, .int q_place, .int q_token, .int q_value, .ref m_ends, .ref m_letters, .ref m_actOf, .ref m_whom, .ref m_actMany, .ref m_tokens, .ref m_afters, .ref m_afterOf, .int q_counted, .ref m_pile, .ref m_caseMany, .ref m_happen, .ref m_hasIf, .ref m_becomes, .ref m_goneOf, .ref m_heard, .ref m_pairs, .ref m_heaps, .int q_rounds, .int q_heapMany, .ref m_led, .ref m_newAt, .ref m_knowing, .ref m_firsts, .int (nI q_people), .ref m_secrets, .ref m_tried, .ref m_lanes, .ref m_lengths, .ref m_cells])), (m_manys, .inl (E.2.1 1, 18, .inl f_manys))]) ?_ rfl rfl rfl
      refine ww_if_ne_f (tgt := 18) C dX12_depth_13 (by decide) (rfl) ?_
      refine ww_iconst (v := (-1)) C dX12_depth_16 rfl ?_
      exact ww_iret (u := [(hm, .inr (12, [.ref m_manys, .ref m_reals, .ref m_factsOf, .ref m_possible, .int (nI q_undos), .int (nI q_models), .ref m_tape, .int (nI q_taped), .int q_fault, .int q_wrong, .int q_wrongAt, .int q_spot, .int q_place, .int q_token, .int q_value, .ref m_ends, .ref m_letters, .ref m_actOf, .ref m_whom, .ref m_actMany, .ref m_tokens, .ref m_afters, .ref m_afterOf, .int q_counted, .ref m_pile, .ref m_caseMany, .ref m_happen, .ref m_hasIf, .ref m_becomes, .ref m_goneOf, .ref m_heard, .ref m_pairs, .ref m_heaps, .int q_rounds, .int q_heapMany, .ref m_led, .ref m_newAt, .ref m_knowing, .ref m_firsts, .int (nI q_people), .ref m_secrets, .ref m_tried, .ref m_lanes, .ref m_lengths, .ref m_cells])), (m_manys, .inl (E.2.1 1, 18, .inl f_manys)), (m_possible, .inl (E.2.1 1, 1728, .inl f_possible)), (m_factsOf, .inl (E.2.1 1, 432, .inl f_factsOf)), (m_heaps, .inl (E.2.1 1, 2400, .inl f_heaps)), (m_led, .inl (E.2.1 2, 192, .inr (.inl f_led)))]) C hT [4, 5, 0, 1, 2, 3] rfl rfl rfl rfl dX12_depth_17 (⟨q_rounds, q_heapMany, f_heaps, f_led, rfl⟩)
  · refine an2 hw ?_
    clear hw
    intro he_7 he_8 hw
    have h_6 := hw
    clear hw
    have he_7 := he_7.symm
    subst he_7
    subst he_8
    refine ww_eq (ws' := [(m_possible, .inl (E.2.1 1, 1728, .inl f_possible)), (m_factsOf, .inl (E.2.1 1, 432, .inl f_factsOf)), (m_heaps, .inl (E.2.1 1, 2400, .inl f_heaps)), (m_led, .inl (E.2.1 2, 192, .inr (.inl f_led))), (hm, .inr (12, [.ref m_manys, .ref m_reals, .ref m_factsOf, .ref m_possible, .int (nI q_undos), .int (nI q_models), .ref m_tape, .int (nI q_taped), .int q_fault, .int q_wrong, .int q_wrongAt, .int q_spot, .int q_place, .int q_token, .int q_value, .ref m_ends, .ref m_letters, .ref m_actOf, .ref m_whom, .ref m_actMany, .ref m_tokens, .ref m_afters, .ref m_afterOf, .int q_counted, .ref m_pile, .ref m_caseMany, .ref m_happen, .ref m_hasIf, .ref m_becomes, .ref m_goneOf, .ref m_heard, .ref m_pairs, .ref m_heaps, .int q_rounds, .int q_heapMany, .ref m_led, .ref m_newAt, .ref m_knowing, .ref m_firsts, .int (nI q_people), .ref m_secrets, .ref m_tried, .ref m_lanes, .ref m_lengths, .ref m_cells])), (m_manys, .inl (E.2.1 1, 18, .inl f_manys))]) ?_ rfl rfl rfl
    refine ww_if_eq_t (tgt := 16) C dX12_depth_5 (by decide) (rfl) ?_
    refine ww_iconst (v := (-1)) C dX12_depth_16 rfl ?_
    exact ww_iret (u := [(hm, .inr (12, [.ref m_manys, .ref m_reals, .ref m_factsOf, .ref m_possible, .int (nI q_undos), .int (nI q_models), .ref m_tape, .int (nI q_taped), .int q_fault, .int q_wrong, .int q_wrongAt, .int q_spot, .int q_place, .int q_token, .int q_value, .ref m_ends, .ref m_letters, .ref m_actOf, .ref m_whom, .ref m_actMany, .ref m_tokens, .ref m_afters, .ref m_afterOf, .int q_counted, .ref m_pile, .ref m_caseMany, .ref m_happen, .ref m_hasIf, .ref m_becomes, .ref m_goneOf, .ref m_heard, .ref m_pairs, .ref m_heaps, .int q_rounds, .int q_heapMany, .ref m_led, .ref m_newAt, .ref m_knowing, .ref m_firsts, .int (nI q_people), .ref m_secrets, .ref m_tried, .ref m_lanes, .ref m_lengths, .ref m_cells])), (m_manys, .inl (E.2.1 1, 18, .inl f_manys)), (m_possible, .inl (E.2.1 1, 1728, .inl f_possible)), (m_factsOf, .inl (E.2.1 1, 432, .inl f_factsOf)), (m_heaps, .inl (E.2.1 1, 2400, .inl f_heaps)), (m_led, .inl (E.2.1 2, 192, .inr (.inl f_led)))]) C hT [4, 5, 0, 1, 2, 3] rfl rfl rfl rfl dX12_depth_17 (⟨q_rounds, q_heapMany, f_heaps, f_led, rfl⟩)
