theorem wc_X12_keep : Cond.code yX12_keep cX12_keep 1 (some .int) ∈ TB := tbm (tq7 (List.mem_of_getElem? (i := 4) (rfl))) (by decide +kernel)
theorem wi_X12_keep : Cond.instanceMethod yX12_keep ∈ TB := tbm (tq7 (List.mem_of_getElem? (i := 2) (by decide +kernel))) (by decide +kernel)
theorem ws_X12_keep : Cond.selects RX12 yX12_keep yX12_keep ∈ TB := tbm (tq7 (List.mem_of_getElem? (i := 3) (by decide +kernel))) (by decide +kernel)
theorem mi_X12_keep : MI yX12_keep cX12_keep 1 (some .int) 0 := ⟨wc_X12_keep, wn_X12, ⟨by decide +kernel, by decide +kernel, by decide +kernel⟩, wi_X12_keep, ws_X12_keep⟩
theorem wl_L_118 : Cond.methodLink RL 118 yX12_keep ∈ TB := tbm (tq7 (List.mem_of_getElem? (i := 1) (by decide +kernel))) (by decide +kernel)
theorem dL_law_993 : decode cL_law 993 = .ok (.invokevirtual 118, 3) := by decide +kernel
set_option maxRecDepth 100000 in
set_option maxHeartbeats 4000000 in
theorem lm_keep {X : XT} {E : EV} {wT wm : va_W} {lv : List (Nat × Value)} {rest : List Value} {kC nC : Nat} {hm : Nat} {q_undos : Nat} {q_models : Nat} {PGv : Nat → AM} {f_afterOf : Nat → Int32} {f_actMany : Nat → Int32} {f_actOf : Nat → Int32} {f_whom : Nat → Int32} {f_hasIf : Nat → Int32} {f_becomes : Nat → Int32} {f_goneOf : Nat → Int32} {q_taped : Nat} {cr : Nat → Int} {q_people : Nat} {f_secrets : Nat → Int32} {f_lanes : Nat → Int32} {f_lengths : Nat → Int32} {f_cells : Nat → Int32} {f_tokens : Nat → Int32} {f_afters : Nat → Int32} {f_caseMany : Nat → Int32} {f_happen : Nat → Int32} {f_heard : Nat → Int32} (C : CX X room_1 cL_law 4 RL ret E) (hW : Nat.ble (rest.map fun v => v.category).sum 8 = true) (hk : kC ≤ 600000 ∧ nC ≤ 7302250) (H_ref : ok_ref E [] hm q_undos q_models PGv f_afterOf f_actMany f_actOf f_whom f_hasIf f_becomes f_goneOf q_taped cr q_people f_secrets f_lanes f_lengths f_cells f_tokens f_afters f_caseMany f_happen f_heard wm) (kont : ∀ (rr : Int32) (q_modelsZ : Nat) (PGvZ : Nat → AM) (wmZ : va_W), ok_ref E [] hm q_undos q_modelsZ PGvZ f_afterOf f_actMany f_actOf f_whom f_hasIf f_becomes f_goneOf q_taped cr q_people f_secrets f_lanes f_lengths f_cells f_tokens f_afters f_caseMany f_happen f_heard wmZ → (KPx (PGv 0).1 q_models q_modelsZ (PGv 0) (fun i => PGv (6 + i)) (fun i => PGvZ (6 + i)) rr ∧ KPU PGv PGvZ) → WW X 4 E 996 lv (.int rr :: rest) (wmZ ++ wT) kC nC) : WW X 4 E 993 lv (.ref hm :: rest) (wm ++ wT) kC nC := by
  unfold ok_ref at H_ref
  refine ex8 H_ref ?_
  clear H_ref
  intro m_manys m_reals m_factsOf m_possible m_tape q_fault q_wrong q_wrongAt H_ref
  refine ex8 H_ref ?_
  clear H_ref
  intro q_spot q_place q_token q_value m_ends m_letters m_actOf m_whom H_ref
  refine ex8 H_ref ?_
  clear H_ref
  intro m_actMany m_tokens m_afters m_afterOf q_counted m_pile m_caseMany m_happen H_ref
  refine ex8 H_ref ?_
  clear H_ref
  intro m_hasIf m_becomes m_goneOf m_heard m_pairs m_heaps q_rounds q_heapMany H_ref
  refine ex8 H_ref ?_
  clear H_ref
  intro m_led m_newAt m_knowing m_firsts m_secrets m_tried m_lanes m_lengths H_ref
  refine ex8 H_ref ?_
  clear H_ref
  intro m_cells f_manys f_reals f_factsOf f_possible f_tape f_ends f_letters H_ref
  refine ex8 H_ref ?_
  clear H_ref
  intro f_pile f_pairs f_heaps f_led f_newAt f_knowing f_firsts f_tried H_ref
  refine an8 H_ref ?_
  clear H_ref
  intro we_ref hb_manys hb_reals hb_tape hb_ends hb_letters hb_actMany hb_afters H_ref
  refine an8 H_ref ?_
  clear H_ref
  intro hb_afterOf hb_caseMany hb_happen hb_lengths hpg hhp hsv hwf H_ref
  refine an7 H_ref ?_
  clear H_ref
  intro hq_undos hq_models hq_taped hq_people hq_token hq_value hcr H_ref
  have hPGv := H_ref
  clear H_ref
  subst we_ref
  subst hcr
  subst hPGv
  refine ww_ciT (k' := kC) (n' := nC) (wr := [(m_tape, .inl (E.2.1 1, 160, .inl f_tape)), (m_ends, .inl (E.2.1 1, 15, .inl f_ends)), (m_letters, .inl (E.2.1 1, 50, .inl f_letters)), (m_actOf, .inl (E.2.1 1, 800, .inl f_actOf)), (m_whom, .inl (E.2.1 1, 800, .inl f_whom)), (m_actMany, .inl (E.2.1 1, 25, .inl f_actMany)), (m_tokens, .inl (E.2.1 1, 9, .inl f_tokens)), (m_afters, .inl (E.2.1 1, 9, .inl f_afters)), (m_afterOf, .inl (E.2.1 1, 18, .inl f_afterOf)), (m_pile, .inl (E.2.1 1, 34, .inl f_pile)), (m_caseMany, .inl (E.2.1 1, 4, .inl f_caseMany)), (m_happen, .inl (E.2.1 1, 4, .inl f_happen)), (m_hasIf, .inl (E.2.1 3, 16, .inl f_hasIf)), (m_becomes, .inl (E.2.1 1, 16, .inl f_becomes)), (m_goneOf, .inl (E.2.1 1, 16, .inl f_goneOf)), (m_heard, .inl (E.2.1 1, 64, .inl f_heard)), (m_pairs, .inl (E.2.1 1, 576, .inl f_pairs)), (m_heaps, .inl (E.2.1 1, 2400, .inl f_heaps)), (m_led, .inl (E.2.1 2, 192, .inr (.inl f_led))), (m_newAt, .inl (E.2.1 1, 24, .inl f_newAt)), (m_knowing, .inl (E.2.1 1, 4, .inl f_knowing)), (m_firsts, .inl (E.2.1 1, 4, .inl f_firsts)), (m_secrets, .inl (E.2.1 1, 4, .inl f_secrets)), (m_tried, .inl (E.2.1 1, 4, .inl f_tried)), (m_lanes, .inl (E.2.1 1, 4, .inl f_lanes)), (m_lengths, .inl (E.2.1 1, 4, .inl f_lengths)), (m_cells, .inl (E.2.1 1, 192, .inl f_cells))]) C (run_V (As := []) (rest := rest) C (y_keep X.2.1 E [] hm m_manys m_reals m_factsOf m_possible q_undos q_models m_tape q_taped q_fault q_wrong q_wrongAt q_spot q_place (nI q_token) (nI q_value) m_ends m_letters m_actOf m_whom m_actMany m_tokens m_afters m_afterOf q_counted m_pile m_caseMany m_happen m_hasIf m_becomes m_goneOf m_heard m_pairs m_heaps q_rounds q_heapMany m_led m_newAt m_knowing m_firsts q_people m_secrets m_tried m_lanes m_lengths m_cells f_manys f_reals f_factsOf f_possible hb_manys hb_reals hpg hwf (by first | assumption | omega)) mi_X12_keep wl_L_118 rfl 0 12 rfl rfl rfl rfl hW dL_law_993) ro0 [0, 1, 2, 3, 4] [5, 6, 7, 8, 9, 10, 11, 12, 13, 14, 15, 16, 17, 18, 19, 20, 21, 22, 23, 24, 25, 26, 27, 28, 29, 30, 31] rfl rfl rfl ⟨by omega, by omega, hk.1, hk.2⟩ (fun rr u hw => ?_)
  refine ex5 hw ?_
  clear hw
  intro mz__1 f_manysz_2 f_realsz_3 f_factsOfz_4 f_possiblez_5 hw
  refine an7 hw ?_
  clear hw
  intro he_u h_6 h_7 h_8 h_9 h_10 h_11 hw
  have h_12 := hw
  clear hw
  subst he_u
  refine ww_subT (w1 := [(hm, .inr (12, [.ref m_manys, .ref m_reals, .ref m_factsOf, .ref m_possible, .int (nI q_undos), .int (nI mz__1), .ref m_tape, .int (nI q_taped), .int q_fault, .int q_wrong, .int q_wrongAt, .int q_spot, .int q_place, .int (nI q_token), .int (nI q_value), .ref m_ends, .ref m_letters, .ref m_actOf, .ref m_whom, .ref m_actMany, .ref m_tokens, .ref m_afters, .ref m_afterOf, .int q_counted, .ref m_pile, .ref m_caseMany, .ref m_happen, .ref m_hasIf, .ref m_becomes, .ref m_goneOf, .ref m_heard, .ref m_pairs, .ref m_heaps, .int q_rounds, .int q_heapMany, .ref m_led, .ref m_newAt, .ref m_knowing, .ref m_firsts, .int (nI q_people), .ref m_secrets, .ref m_tried, .ref m_lanes, .ref m_lengths, .ref m_cells])), (m_manys, .inl (E.2.1 1, 18, .inl f_manysz_2)), (m_reals, .inl (E.2.1 1, 18, .inl f_realsz_3)), (m_factsOf, .inl (E.2.1 1, 432, .inl f_factsOfz_4)), (m_possible, .inl (E.2.1 1, 1728, .inl f_possiblez_5)), (m_tape, .inl (E.2.1 1, 160, .inl f_tape)), (m_ends, .inl (E.2.1 1, 15, .inl f_ends)), (m_letters, .inl (E.2.1 1, 50, .inl f_letters)), (m_actOf, .inl (E.2.1 1, 800, .inl f_actOf)), (m_whom, .inl (E.2.1 1, 800, .inl f_whom)), (m_actMany, .inl (E.2.1 1, 25, .inl f_actMany)), (m_tokens, .inl (E.2.1 1, 9, .inl f_tokens)), (m_afters, .inl (E.2.1 1, 9, .inl f_afters)), (m_afterOf, .inl (E.2.1 1, 18, .inl f_afterOf)), (m_pile, .inl (E.2.1 1, 34, .inl f_pile)), (m_caseMany, .inl (E.2.1 1, 4, .inl f_caseMany)), (m_happen, .inl (E.2.1 1, 4, .inl f_happen)), (m_hasIf, .inl (E.2.1 3, 16, .inl f_hasIf)), (m_becomes, .inl (E.2.1 1, 16, .inl f_becomes)), (m_goneOf, .inl (E.2.1 1, 16, .inl f_goneOf)), (m_heard, .inl (E.2.1 1, 64, .inl f_heard)), (m_pairs, .inl (E.2.1 1, 576, .inl f_pairs)), (m_heaps, .inl (E.2.1 1, 2400, .inl f_heaps)), (m_led, .inl (E.2.1 2, 192, .inr (.inl f_led))), (m_newAt, .inl (E.2.1 1, 24, .inl f_newAt)), (m_knowing, .inl (E.2.1 1, 4, .inl f_knowing)), (m_firsts, .inl (E.2.1 1, 4, .inl f_firsts)), (m_secrets, .inl (E.2.1 1, 4, .inl f_secrets)), (m_tried, .inl (E.2.1 1, 4, .inl f_tried)), (m_lanes, .inl (E.2.1 1, 4, .inl f_lanes)), (m_lengths, .inl (E.2.1 1, 4, .inl f_lengths)), (m_cells, .inl (E.2.1 1, 192, .inl f_cells))]) [27, 28, 29, 30, 31, 0, 1, 2, 3, 4, 5, 6, 7, 8, 9, 10, 11, 12, 13, 14, 15, 16, 17, 18, 19, 20, 21, 22, 23, 24, 25, 26] rfl rfl ?_
  exact kont rr mz__1 (pgs f_manysz_2 f_realsz_3 f_factsOfz_4 f_possiblez_5) [(hm, .inr (12, [.ref m_manys, .ref m_reals, .ref m_factsOf, .ref m_possible, .int (nI q_undos), .int (nI mz__1), .ref m_tape, .int (nI q_taped), .int q_fault, .int q_wrong, .int q_wrongAt, .int q_spot, .int q_place, .int (nI q_token), .int (nI q_value), .ref m_ends, .ref m_letters, .ref m_actOf, .ref m_whom, .ref m_actMany, .ref m_tokens, .ref m_afters, .ref m_afterOf, .int q_counted, .ref m_pile, .ref m_caseMany, .ref m_happen, .ref m_hasIf, .ref m_becomes, .ref m_goneOf, .ref m_heard, .ref m_pairs, .ref m_heaps, .int q_rounds, .int q_heapMany, .ref m_led, .ref m_newAt, .ref m_knowing, .ref m_firsts, .int (nI q_people), .ref m_secrets, .ref m_tried, .ref m_lanes, .ref m_lengths, .ref m_cells])), (m_manys, .inl (E.2.1 1, 18, .inl f_manysz_2)), (m_reals, .inl (E.2.1 1, 18, .inl f_realsz_3)), (m_factsOf, .inl (E.2.1 1, 432, .inl f_factsOfz_4)), (m_possible, .inl (E.2.1 1, 1728, .inl f_possiblez_5)), (m_tape, .inl (E.2.1 1, 160, .inl f_tape)), (m_ends, .inl (E.2.1 1, 15, .inl f_ends)), (m_letters, .inl (E.2.1 1, 50, .inl f_letters)), (m_actOf, .inl (E.2.1 1, 800, .inl f_actOf)), (m_whom, .inl (E.2.1 1, 800, .inl f_whom)), (m_actMany, .inl (E.2.1 1, 25, .inl f_actMany)), (m_tokens, .inl (E.2.1 1, 9, .inl f_tokens)), (m_afters, .inl (E.2.1 1, 9, .inl f_afters)), (m_afterOf, .inl (E.2.1 1, 18, .inl f_afterOf)), (m_pile, .inl (E.2.1 1, 34, .inl f_pile)), (m_caseMany, .inl (E.2.1 1, 4, .inl f_caseMany)), (m_happen, .inl (E.2.1 1, 4, .inl f_happen)), (m_hasIf, .inl (E.2.1 3, 16, .inl f_hasIf)), (m_becomes, .inl (E.2.1 1, 16, .inl f_becomes)), (m_goneOf, .inl (E.2.1 1, 16, .inl f_goneOf)), (m_heard, .inl (E.2.1 1, 64, .inl f_heard)), (m_pairs, .inl (E.2.1 1, 576, .inl f_pairs)), (m_heaps, .inl (E.2.1 1, 2400, .inl f_heaps)), (m_led, .inl (E.2.1 2, 192, .inr (.inl f_led))), (m_newAt, .inl (E.2.1 1, 24, .inl f_newAt)), (m_knowing, .inl (E.2.1 1, 4, .inl f_knowing)), (m_firsts, .inl (E.2.1 1, 4, .inl f_firsts)), (m_secrets, .inl (E.2.1 1, 4, .inl f_secrets)), (m_tried, .inl (E.2.1 1, 4, .inl f_tried)), (m_lanes, .inl (E.2.1 1, 4, .inl f_lanes)), (m_lengths, .inl (E.2.1 1, 4, .inl f_lengths)), (m_cells, .inl (E.2.1 1, 192, .inl f_cells))] ⟨m_manys, m_reals, m_factsOf, m_possible, m_tape, q_fault, q_wrong, q_wrongAt, q_spot, q_place, q_token, q_value, m_ends, m_letters, m_actOf, m_whom, m_actMany, m_tokens, m_afters, m_afterOf, q_counted, m_pile, m_caseMany, m_happen, m_hasIf, m_becomes, m_goneOf, m_heard, m_pairs, m_heaps, q_rounds, q_heapMany, m_led, m_newAt, m_knowing, m_firsts, m_secrets, m_tried, m_lanes, m_lengths, m_cells, f_manysz_2, f_realsz_3, f_factsOfz_4, f_possiblez_5, f_tape, f_ends, f_letters, f_pile, f_pairs, f_heaps, f_led, f_newAt, f_knowing, f_firsts, f_tried, rfl, h_6, h_7, hb_tape, hb_ends, hb_letters, hb_actMany, hb_afters, hb_afterOf, hb_caseMany, hb_happen, hb_lengths, h_8, hhp, hsv, h_9, (by first | assumption | omega), (by first | assumption | omega), (by first | assumption | omega), (by first | assumption | omega), (by first | assumption | omega), (by first | assumption | omega), rfl, rfl⟩ (⟨h_11, h_12⟩)
theorem wc_X12_stand : Cond.code yX12_stand cX12_stand 2 (some .int) ∈ TB := tbm (tq7 (List.mem_of_getElem? (i := 8) (rfl))) (by decide +kernel)
theorem wi_X12_stand : Cond.instanceMethod yX12_stand ∈ TB := tbm (tq7 (List.mem_of_getElem? (i := 6) (by decide +kernel))) (by decide +kernel)
theorem ws_X12_stand : Cond.selects RX12 yX12_stand yX12_stand ∈ TB := tbm (tq7 (List.mem_of_getElem? (i := 7) (by decide +kernel))) (by decide +kernel)
theorem mi_X12_stand : MI yX12_stand cX12_stand 2 (some .int) 1 := ⟨wc_X12_stand, wn_X12, ⟨by decide +kernel, by decide +kernel, by decide +kernel⟩, wi_X12_stand, ws_X12_stand⟩
theorem wl_L_122 : Cond.methodLink RL 122 yX12_stand ∈ TB := tbm (tq7 (List.mem_of_getElem? (i := 5) (by decide +kernel))) (by decide +kernel)
theorem dL_law_1016 : decode cL_law 1016 = .ok (.invokevirtual 122, 3) := by decide +kernel
set_option maxRecDepth 100000 in
set_option maxHeartbeats 4000000 in
theorem lm_stand {X : XT} {E : EV} {wT wm : va_W} {lv : List (Nat × Value)} {rest : List Value} {kC nC : Nat} {hm : Nat} {q_undos : Nat} {q_models : Nat} {PGv : Nat → AM} {f_afterOf : Nat → Int32} {f_actMany : Nat → Int32} {f_actOf : Nat → Int32} {f_whom : Nat → Int32} {f_hasIf : Nat → Int32} {f_becomes : Nat → Int32} {f_goneOf : Nat → Int32} {q_taped : Nat} {cr : Nat → Int} {q_people : Nat} {f_secrets : Nat → Int32} {f_lanes : Nat → Int32} {f_lengths : Nat → Int32} {f_cells : Nat → Int32} {f_tokens : Nat → Int32} {f_afters : Nat → Int32} {f_caseMany : Nat → Int32} {f_happen : Nat → Int32} {f_heard : Nat → Int32} {v0 : Int32} (C : CX X room_1 cL_law 4 RL ret E) (hW : Nat.ble (rest.map fun v => v.category).sum 8 = true) (hk : kC ≤ 600000 ∧ nC ≤ 7302250) (H_ref : ok_ref E [] hm q_undos q_models PGv f_afterOf f_actMany f_actOf f_whom f_hasIf f_becomes f_goneOf q_taped cr q_people f_secrets f_lanes f_lengths f_cells f_tokens f_afters f_caseMany f_happen f_heard wm) (kont : ∀ (rr : Int32) (q_undosZ : Nat) (PGvZ : Nat → AM) (wmZ : va_W), ok_ref E [] hm q_undosZ q_models PGvZ f_afterOf f_actMany f_actOf f_whom f_hasIf f_becomes f_goneOf q_taped cr q_people f_secrets f_lanes f_lengths f_cells f_tokens f_afters f_caseMany f_happen f_heard wmZ → (((asM q_undosZ PGvZ), rr) = opStand (asM q_undos PGv) q_models (fun i => PGv (6 + i)) v0 ∧ KP6 PGv PGvZ) → WW X 4 E 1019 lv (.int rr :: rest) (wmZ ++ wT) kC nC) : WW X 4 E 1016 lv (.int v0 :: .ref hm :: rest) (wm ++ wT) kC nC := by
  unfold ok_ref at H_ref
  refine ex8 H_ref ?_
  clear H_ref
  intro m_manys m_reals m_factsOf m_possible m_tape q_fault q_wrong q_wrongAt H_ref
  refine ex8 H_ref ?_
  clear H_ref
  intro q_spot q_place q_token q_value m_ends m_letters m_actOf m_whom H_ref
  refine ex8 H_ref ?_
  clear H_ref
  intro m_actMany m_tokens m_afters m_afterOf q_counted m_pile m_caseMany m_happen H_ref
  refine ex8 H_ref ?_
  clear H_ref
  intro m_hasIf m_becomes m_goneOf m_heard m_pairs m_heaps q_rounds q_heapMany H_ref
  refine ex8 H_ref ?_
  clear H_ref
  intro m_led m_newAt m_knowing m_firsts m_secrets m_tried m_lanes m_lengths H_ref
  refine ex8 H_ref ?_
  clear H_ref
  intro m_cells f_manys f_reals f_factsOf f_possible f_tape f_ends f_letters H_ref
  refine ex8 H_ref ?_
  clear H_ref
  intro f_pile f_pairs f_heaps f_led f_newAt f_knowing f_firsts f_tried H_ref
  refine an8 H_ref ?_
  clear H_ref
  intro we_ref hb_manys hb_reals hb_tape hb_ends hb_letters hb_actMany hb_afters H_ref
  refine an8 H_ref ?_
  clear H_ref
  intro hb_afterOf hb_caseMany hb_happen hb_lengths hpg hhp hsv hwf H_ref
  refine an7 H_ref ?_
  clear H_ref
  intro hq_undos hq_models hq_taped hq_people hq_token hq_value hcr H_ref
  have hPGv := H_ref
  clear H_ref
  subst we_ref
  subst hcr
  subst hPGv
  refine ww_ciT (k' := kC) (n' := nC) (wr := [(m_tape, .inl (E.2.1 1, 160, .inl f_tape)), (m_ends, .inl (E.2.1 1, 15, .inl f_ends)), (m_letters, .inl (E.2.1 1, 50, .inl f_letters)), (m_actOf, .inl (E.2.1 1, 800, .inl f_actOf)), (m_whom, .inl (E.2.1 1, 800, .inl f_whom)), (m_actMany, .inl (E.2.1 1, 25, .inl f_actMany)), (m_tokens, .inl (E.2.1 1, 9, .inl f_tokens)), (m_afters, .inl (E.2.1 1, 9, .inl f_afters)), (m_afterOf, .inl (E.2.1 1, 18, .inl f_afterOf)), (m_pile, .inl (E.2.1 1, 34, .inl f_pile)), (m_caseMany, .inl (E.2.1 1, 4, .inl f_caseMany)), (m_happen, .inl (E.2.1 1, 4, .inl f_happen)), (m_hasIf, .inl (E.2.1 3, 16, .inl f_hasIf)), (m_becomes, .inl (E.2.1 1, 16, .inl f_becomes)), (m_goneOf, .inl (E.2.1 1, 16, .inl f_goneOf)), (m_heard, .inl (E.2.1 1, 64, .inl f_heard)), (m_pairs, .inl (E.2.1 1, 576, .inl f_pairs)), (m_heaps, .inl (E.2.1 1, 2400, .inl f_heaps)), (m_led, .inl (E.2.1 2, 192, .inr (.inl f_led))), (m_newAt, .inl (E.2.1 1, 24, .inl f_newAt)), (m_knowing, .inl (E.2.1 1, 4, .inl f_knowing)), (m_firsts, .inl (E.2.1 1, 4, .inl f_firsts)), (m_secrets, .inl (E.2.1 1, 4, .inl f_secrets)), (m_tried, .inl (E.2.1 1, 4, .inl f_tried)), (m_lanes, .inl (E.2.1 1, 4, .inl f_lanes)), (m_lengths, .inl (E.2.1 1, 4, .inl f_lengths)), (m_cells, .inl (E.2.1 1, 192, .inl f_cells))]) C (run_V (As := [.int v0]) (rest := rest) C (y_stand X.2.1 E [] hm v0 m_manys m_reals m_factsOf m_possible q_undos q_models m_tape q_taped q_fault q_wrong q_wrongAt q_spot q_place (nI q_token) (nI q_value) m_ends m_letters m_actOf m_whom m_actMany m_tokens m_afters m_afterOf q_counted m_pile m_caseMany m_happen m_hasIf m_becomes m_goneOf m_heard m_pairs m_heaps q_rounds q_heapMany m_led m_newAt m_knowing m_firsts q_people m_secrets m_tried m_lanes m_lengths m_cells f_manys f_reals f_factsOf f_possible hb_manys hb_reals hpg hwf (by first | assumption | omega) (by first | assumption | omega)) mi_X12_stand wl_L_122 rfl 0 12 rfl rfl rfl rfl hW dL_law_1016) ro0 [0, 1, 2, 3, 4] [5, 6, 7, 8, 9, 10, 11, 12, 13, 14, 15, 16, 17, 18, 19, 20, 21, 22, 23, 24, 25, 26, 27, 28, 29, 30, 31] rfl rfl rfl ⟨by omega, by omega, hk.1, hk.2⟩ (fun rr u hw => ?_)
  refine ex5 hw ?_
  clear hw
  intro uz__1 f_manysz_2 f_realsz_3 f_factsOfz_4 f_possiblez_5 hw
  refine an7 hw ?_
  clear hw
  intro he_u h_6 h_7 h_8 h_9 h_10 h_11 hw
  have h_12 := hw
  clear hw
  subst he_u
  refine ww_subT (w1 := [(hm, .inr (12, [.ref m_manys, .ref m_reals, .ref m_factsOf, .ref m_possible, .int (nI uz__1), .int (nI q_models), .ref m_tape, .int (nI q_taped), .int q_fault, .int q_wrong, .int q_wrongAt, .int q_spot, .int q_place, .int (nI q_token), .int (nI q_value), .ref m_ends, .ref m_letters, .ref m_actOf, .ref m_whom, .ref m_actMany, .ref m_tokens, .ref m_afters, .ref m_afterOf, .int q_counted, .ref m_pile, .ref m_caseMany, .ref m_happen, .ref m_hasIf, .ref m_becomes, .ref m_goneOf, .ref m_heard, .ref m_pairs, .ref m_heaps, .int q_rounds, .int q_heapMany, .ref m_led, .ref m_newAt, .ref m_knowing, .ref m_firsts, .int (nI q_people), .ref m_secrets, .ref m_tried, .ref m_lanes, .ref m_lengths, .ref m_cells])), (m_manys, .inl (E.2.1 1, 18, .inl f_manysz_2)), (m_reals, .inl (E.2.1 1, 18, .inl f_realsz_3)), (m_factsOf, .inl (E.2.1 1, 432, .inl f_factsOfz_4)), (m_possible, .inl (E.2.1 1, 1728, .inl f_possiblez_5)), (m_tape, .inl (E.2.1 1, 160, .inl f_tape)), (m_ends, .inl (E.2.1 1, 15, .inl f_ends)), (m_letters, .inl (E.2.1 1, 50, .inl f_letters)), (m_actOf, .inl (E.2.1 1, 800, .inl f_actOf)), (m_whom, .inl (E.2.1 1, 800, .inl f_whom)), (m_actMany, .inl (E.2.1 1, 25, .inl f_actMany)), (m_tokens, .inl (E.2.1 1, 9, .inl f_tokens)), (m_afters, .inl (E.2.1 1, 9, .inl f_afters)), (m_afterOf, .inl (E.2.1 1, 18, .inl f_afterOf)), (m_pile, .inl (E.2.1 1, 34, .inl f_pile)), (m_caseMany, .inl (E.2.1 1, 4, .inl f_caseMany)), (m_happen, .inl (E.2.1 1, 4, .inl f_happen)), (m_hasIf, .inl (E.2.1 3, 16, .inl f_hasIf)), (m_becomes, .inl (E.2.1 1, 16, .inl f_becomes)), (m_goneOf, .inl (E.2.1 1, 16, .inl f_goneOf)), (m_heard, .inl (E.2.1 1, 64, .inl f_heard)), (m_pairs, .inl (E.2.1 1, 576, .inl f_pairs)), (m_heaps, .inl (E.2.1 1, 2400, .inl f_heaps)), (m_led, .inl (E.2.1 2, 192, .inr (.inl f_led))), (m_newAt, .inl (E.2.1 1, 24, .inl f_newAt)), (m_knowing, .inl (E.2.1 1, 4, .inl f_knowing)), (m_firsts, .inl (E.2.1 1, 4, .inl f_firsts)), (m_secrets, .inl (E.2.1 1, 4, .inl f_secrets)), (m_tried, .inl (E.2.1 1, 4, .inl f_tried)), (m_lanes, .inl (E.2.1 1, 4, .inl f_lanes)), (m_lengths, .inl (E.2.1 1, 4, .inl f_lengths)), (m_cells, .inl (E.2.1 1, 192, .inl f_cells))]) [27, 28, 29, 30, 31, 0, 1, 2, 3, 4, 5, 6, 7, 8, 9, 10, 11, 12, 13, 14, 15, 16, 17, 18, 19, 20, 21, 22, 23, 24, 25, 26] rfl rfl ?_
  exact kont rr uz__1 (pgs f_manysz_2 f_realsz_3 f_factsOfz_4 f_possiblez_5) [(hm, .inr (12, [.ref m_manys, .ref m_reals, .ref m_factsOf, .ref m_possible, .int (nI uz__1), .int (nI q_models), .ref m_tape, .int (nI q_taped), .int q_fault, .int q_wrong, .int q_wrongAt, .int q_spot, .int q_place, .int (nI q_token), .int (nI q_value), .ref m_ends, .ref m_letters, .ref m_actOf, .ref m_whom, .ref m_actMany, .ref m_tokens, .ref m_afters, .ref m_afterOf, .int q_counted, .ref m_pile, .ref m_caseMany, .ref m_happen, .ref m_hasIf, .ref m_becomes, .ref m_goneOf, .ref m_heard, .ref m_pairs, .ref m_heaps, .int q_rounds, .int q_heapMany, .ref m_led, .ref m_newAt, .ref m_knowing, .ref m_firsts, .int (nI q_people), .ref m_secrets, .ref m_tried, .ref m_lanes, .ref m_lengths, .ref m_cells])), (m_manys, .inl (E.2.1 1, 18, .inl f_manysz_2)), (m_reals, .inl (E.2.1 1, 18, .inl f_realsz_3)), (m_factsOf, .inl (E.2.1 1, 432, .inl f_factsOfz_4)), (m_possible, .inl (E.2.1 1, 1728, .inl f_possiblez_5)), (m_tape, .inl (E.2.1 1, 160, .inl f_tape)), (m_ends, .inl (E.2.1 1, 15, .inl f_ends)), (m_letters, .inl (E.2.1 1, 50, .inl f_letters)), (m_actOf, .inl (E.2.1 1, 800, .inl f_actOf)), (m_whom, .inl (E.2.1 1, 800, .inl f_whom)), (m_actMany, .inl (E.2.1 1, 25, .inl f_actMany)), (m_tokens, .inl (E.2.1 1, 9, .inl f_tokens)), (m_afters, .inl (E.2.1 1, 9, .inl f_afters)), (m_afterOf, .inl (E.2.1 1, 18, .inl f_afterOf)), (m_pile, .inl (E.2.1 1, 34, .inl f_pile)), (m_caseMany, .inl (E.2.1 1, 4, .inl f_caseMany)), (m_happen, .inl (E.2.1 1, 4, .inl f_happen)), (m_hasIf, .inl (E.2.1 3, 16, .inl f_hasIf)), (m_becomes, .inl (E.2.1 1, 16, .inl f_becomes)), (m_goneOf, .inl (E.2.1 1, 16, .inl f_goneOf)), (m_heard, .inl (E.2.1 1, 64, .inl f_heard)), (m_pairs, .inl (E.2.1 1, 576, .inl f_pairs)), (m_heaps, .inl (E.2.1 1, 2400, .inl f_heaps)), (m_led, .inl (E.2.1 2, 192, .inr (.inl f_led))), (m_newAt, .inl (E.2.1 1, 24, .inl f_newAt)), (m_knowing, .inl (E.2.1 1, 4, .inl f_knowing)), (m_firsts, .inl (E.2.1 1, 4, .inl f_firsts)), (m_secrets, .inl (E.2.1 1, 4, .inl f_secrets)), (m_tried, .inl (E.2.1 1, 4, .inl f_tried)), (m_lanes, .inl (E.2.1 1, 4, .inl f_lanes)), (m_lengths, .inl (E.2.1 1, 4, .inl f_lengths)), (m_cells, .inl (E.2.1 1, 192, .inl f_cells))] ⟨m_manys, m_reals, m_factsOf, m_possible, m_tape, q_fault, q_wrong, q_wrongAt, q_spot, q_place, q_token, q_value, m_ends, m_letters, m_actOf, m_whom, m_actMany, m_tokens, m_afters, m_afterOf, q_counted, m_pile, m_caseMany, m_happen, m_hasIf, m_becomes, m_goneOf, m_heard, m_pairs, m_heaps, q_rounds, q_heapMany, m_led, m_newAt, m_knowing, m_firsts, m_secrets, m_tried, m_lanes, m_lengths, m_cells, f_manysz_2, f_realsz_3, f_factsOfz_4, f_possiblez_5, f_tape, f_ends, f_letters, f_pile, f_pairs, f_heaps, f_led, f_newAt, f_knowing, f_firsts, f_tried, rfl, h_6, h_7, hb_tape, hb_ends, hb_letters, hb_actMany, hb_afters, hb_afterOf, hb_caseMany, hb_happen, hb_lengths, h_8, hhp, hsv, h_9, (by first | assumption | omega), (by first | assumption | omega), (by first | assumption | omega), (by first | assumption | omega), (by first | assumption | omega), (by first | assumption | omega), rfl, rfl⟩ (⟨h_11, h_12⟩)
theorem wc_X12_same : Cond.code yX12_same cX12_same 2 (some .int) ∈ TB := tbm (tq7 (List.mem_of_getElem? (i := 16) (rfl))) (by decide +kernel)
theorem wi_X12_same : Cond.instanceMethod yX12_same ∈ TB := tbm (tq7 (List.mem_of_getElem? (i := 14) (by decide +kernel))) (by decide +kernel)
theorem ws_X12_same : Cond.selects RX12 yX12_same yX12_same ∈ TB := tbm (tq7 (List.mem_of_getElem? (i := 15) (by decide +kernel))) (by decide +kernel)
theorem mi_X12_same : MI yX12_same cX12_same 2 (some .int) 1 := ⟨wc_X12_same, wn_X12, ⟨by decide +kernel, by decide +kernel, by decide +kernel⟩, wi_X12_same, ws_X12_same⟩
theorem wl_L_126 : Cond.methodLink RL 126 yX12_same ∈ TB := tbm (tq7 (List.mem_of_getElem? (i := 13) (by decide +kernel))) (by decide +kernel)
theorem dL_law_1039 : decode cL_law 1039 = .ok (.invokevirtual 126, 3) := by decide +kernel
set_option maxRecDepth 100000 in
set_option maxHeartbeats 4000000 in
theorem lm_same {X : XT} {E : EV} {wT wm : va_W} {lv : List (Nat × Value)} {rest : List Value} {kC nC : Nat} {hm : Nat} {q_undos : Nat} {q_models : Nat} {PGv : Nat → AM} {f_afterOf : Nat → Int32} {f_actMany : Nat → Int32} {f_actOf : Nat → Int32} {f_whom : Nat → Int32} {f_hasIf : Nat → Int32} {f_becomes : Nat → Int32} {f_goneOf : Nat → Int32} {q_taped : Nat} {cr : Nat → Int} {q_people : Nat} {f_secrets : Nat → Int32} {f_lanes : Nat → Int32} {f_lengths : Nat → Int32} {f_cells : Nat → Int32} {f_tokens : Nat → Int32} {f_afters : Nat → Int32} {f_caseMany : Nat → Int32} {f_happen : Nat → Int32} {f_heard : Nat → Int32} {v0 : Int32} (C : CX X room_1 cL_law 4 RL ret E) (hW : Nat.ble (rest.map fun v => v.category).sum 8 = true) (hk : kC ≤ 600000 ∧ nC ≤ 7302250) (H_ref : ok_ref E [] hm q_undos q_models PGv f_afterOf f_actMany f_actOf f_whom f_hasIf f_becomes f_goneOf q_taped cr q_people f_secrets f_lanes f_lengths f_cells f_tokens f_afters f_caseMany f_happen f_heard wm) (hKN : ∀ j, j < q_models → (PGv (6 + j)).2.1 < (PGv (6 + j)).1) (kont : ∀ (rr : Int32) (wmZ : va_W), ok_ref E [] hm q_undos q_models PGv f_afterOf f_actMany f_actOf f_whom f_hasIf f_becomes f_goneOf q_taped cr q_people f_secrets f_lanes f_lengths f_cells f_tokens f_afters f_caseMany f_happen f_heard wmZ → (rr = ansSame (PGv 0) q_models (fun i => PGv (6 + i)) v0) → WW X 4 E 1042 lv (.int rr :: rest) (wmZ ++ wT) kC nC) : WW X 4 E 1039 lv (.int v0 :: .ref hm :: rest) (wm ++ wT) kC nC := by
  unfold ok_ref at H_ref
  refine ex8 H_ref ?_
  clear H_ref
  intro m_manys m_reals m_factsOf m_possible m_tape q_fault q_wrong q_wrongAt H_ref
  refine ex8 H_ref ?_
  clear H_ref
  intro q_spot q_place q_token q_value m_ends m_letters m_actOf m_whom H_ref
  refine ex8 H_ref ?_
  clear H_ref
  intro m_actMany m_tokens m_afters m_afterOf q_counted m_pile m_caseMany m_happen H_ref
  refine ex8 H_ref ?_
  clear H_ref
  intro m_hasIf m_becomes m_goneOf m_heard m_pairs m_heaps q_rounds q_heapMany H_ref
  refine ex8 H_ref ?_
  clear H_ref
  intro m_led m_newAt m_knowing m_firsts m_secrets m_tried m_lanes m_lengths H_ref
  refine ex8 H_ref ?_
  clear H_ref
  intro m_cells f_manys f_reals f_factsOf f_possible f_tape f_ends f_letters H_ref
  refine ex8 H_ref ?_
  clear H_ref
  intro f_pile f_pairs f_heaps f_led f_newAt f_knowing f_firsts f_tried H_ref
  refine an8 H_ref ?_
  clear H_ref
  intro we_ref hb_manys hb_reals hb_tape hb_ends hb_letters hb_actMany hb_afters H_ref
  refine an8 H_ref ?_
  clear H_ref
  intro hb_afterOf hb_caseMany hb_happen hb_lengths hpg hhp hsv hwf H_ref
  refine an7 H_ref ?_
  clear H_ref
  intro hq_undos hq_models hq_taped hq_people hq_token hq_value hcr H_ref
  have hPGv := H_ref
  clear H_ref
  subst we_ref
  subst hcr
  subst hPGv
  refine ww_ciT (k' := kC) (n' := nC) (wr := [(m_tape, .inl (E.2.1 1, 160, .inl f_tape)), (m_ends, .inl (E.2.1 1, 15, .inl f_ends)), (m_letters, .inl (E.2.1 1, 50, .inl f_letters)), (m_actOf, .inl (E.2.1 1, 800, .inl f_actOf)), (m_whom, .inl (E.2.1 1, 800, .inl f_whom)), (m_actMany, .inl (E.2.1 1, 25, .inl f_actMany)), (m_tokens, .inl (E.2.1 1, 9, .inl f_tokens)), (m_afters, .inl (E.2.1 1, 9, .inl f_afters)), (m_afterOf, .inl (E.2.1 1, 18, .inl f_afterOf)), (m_pile, .inl (E.2.1 1, 34, .inl f_pile)), (m_caseMany, .inl (E.2.1 1, 4, .inl f_caseMany)), (m_happen, .inl (E.2.1 1, 4, .inl f_happen)), (m_hasIf, .inl (E.2.1 3, 16, .inl f_hasIf)), (m_becomes, .inl (E.2.1 1, 16, .inl f_becomes)), (m_goneOf, .inl (E.2.1 1, 16, .inl f_goneOf)), (m_heard, .inl (E.2.1 1, 64, .inl f_heard)), (m_pairs, .inl (E.2.1 1, 576, .inl f_pairs)), (m_newAt, .inl (E.2.1 1, 24, .inl f_newAt)), (m_knowing, .inl (E.2.1 1, 4, .inl f_knowing)), (m_firsts, .inl (E.2.1 1, 4, .inl f_firsts)), (m_secrets, .inl (E.2.1 1, 4, .inl f_secrets)), (m_tried, .inl (E.2.1 1, 4, .inl f_tried)), (m_lanes, .inl (E.2.1 1, 4, .inl f_lanes)), (m_lengths, .inl (E.2.1 1, 4, .inl f_lengths)), (m_cells, .inl (E.2.1 1, 192, .inl f_cells))]) C (run_V (As := [.int v0]) (rest := rest) C (y_same X.2.1 E [] hm v0 m_manys m_reals m_factsOf m_possible q_undos q_models m_tape q_taped q_fault q_wrong q_wrongAt q_spot q_place (nI q_token) (nI q_value) m_ends m_letters m_actOf m_whom m_actMany m_tokens m_afters m_afterOf q_counted m_pile m_caseMany m_happen m_hasIf m_becomes m_goneOf m_heard m_pairs m_heaps q_rounds q_heapMany m_led m_newAt m_knowing m_firsts q_people m_secrets m_tried m_lanes m_lengths m_cells f_manys f_reals f_factsOf f_possible f_heaps f_led hb_manys hb_reals hpg hwf (by first | assumption | omega) (by first | assumption | omega)) mi_X12_same wl_L_126 rfl 0 12 rfl rfl rfl rfl hW dL_law_1039) ro0 [0, 1, 2, 3, 4, 22, 23] [5, 6, 7, 8, 9, 10, 11, 12, 13, 14, 15, 16, 17, 18, 19, 20, 21, 24, 25, 26, 27, 28, 29, 30, 31] rfl rfl rfl ⟨by omega, by omega, hk.1, hk.2⟩ (fun rr u hw => ?_)
  refine ex4 hw ?_
  clear hw
  intro rz__1 hmz_2 f_heapsz_3 f_ledz_4 hw
  refine an1 hw ?_
  clear hw
  intro he_u hw
  have h_5 := hw
  clear hw
  subst he_u
  refine ww_subT (w1 := [(hm, .inr (12, [.ref m_manys, .ref m_reals, .ref m_factsOf, .ref m_possible, .int (nI q_undos), .int (nI q_models), .ref m_tape, .int (nI q_taped), .int q_fault, .int q_wrong, .int q_wrongAt, .int q_spot, .int q_place, .int (nI q_token), .int (nI q_value), .ref m_ends, .ref m_letters, .ref m_actOf, .ref m_whom, .ref m_actMany, .ref m_tokens, .ref m_afters, .ref m_afterOf, .int q_counted, .ref m_pile, .ref m_caseMany, .ref m_happen, .ref m_hasIf, .ref m_becomes, .ref m_goneOf, .ref m_heard, .ref m_pairs, .ref m_heaps, .int rz__1, .int hmz_2, .ref m_led, .ref m_newAt, .ref m_knowing, .ref m_firsts, .int (nI q_people), .ref m_secrets, .ref m_tried, .ref m_lanes, .ref m_lengths, .ref m_cells])), (m_manys, .inl (E.2.1 1, 18, .inl f_manys)), (m_reals, .inl (E.2.1 1, 18, .inl f_reals)), (m_factsOf, .inl (E.2.1 1, 432, .inl f_factsOf)), (m_possible, .inl (E.2.1 1, 1728, .inl f_possible)), (m_tape, .inl (E.2.1 1, 160, .inl f_tape)), (m_ends, .inl (E.2.1 1, 15, .inl f_ends)), (m_letters, .inl (E.2.1 1, 50, .inl f_letters)), (m_actOf, .inl (E.2.1 1, 800, .inl f_actOf)), (m_whom, .inl (E.2.1 1, 800, .inl f_whom)), (m_actMany, .inl (E.2.1 1, 25, .inl f_actMany)), (m_tokens, .inl (E.2.1 1, 9, .inl f_tokens)), (m_afters, .inl (E.2.1 1, 9, .inl f_afters)), (m_afterOf, .inl (E.2.1 1, 18, .inl f_afterOf)), (m_pile, .inl (E.2.1 1, 34, .inl f_pile)), (m_caseMany, .inl (E.2.1 1, 4, .inl f_caseMany)), (m_happen, .inl (E.2.1 1, 4, .inl f_happen)), (m_hasIf, .inl (E.2.1 3, 16, .inl f_hasIf)), (m_becomes, .inl (E.2.1 1, 16, .inl f_becomes)), (m_goneOf, .inl (E.2.1 1, 16, .inl f_goneOf)), (m_heard, .inl (E.2.1 1, 64, .inl f_heard)), (m_pairs, .inl (E.2.1 1, 576, .inl f_pairs)), (m_heaps, .inl (E.2.1 1, 2400, .inl f_heapsz_3)), (m_led, .inl (E.2.1 2, 192, .inr (.inl f_ledz_4))), (m_newAt, .inl (E.2.1 1, 24, .inl f_newAt)), (m_knowing, .inl (E.2.1 1, 4, .inl f_knowing)), (m_firsts, .inl (E.2.1 1, 4, .inl f_firsts)), (m_secrets, .inl (E.2.1 1, 4, .inl f_secrets)), (m_tried, .inl (E.2.1 1, 4, .inl f_tried)), (m_lanes, .inl (E.2.1 1, 4, .inl f_lanes)), (m_lengths, .inl (E.2.1 1, 4, .inl f_lengths)), (m_cells, .inl (E.2.1 1, 192, .inl f_cells))]) [25, 26, 27, 28, 29, 0, 1, 2, 3, 4, 5, 6, 7, 8, 9, 10, 11, 12, 13, 14, 15, 16, 30, 31, 17, 18, 19, 20, 21, 22, 23, 24] rfl rfl ?_
  exact kont rr  [(hm, .inr (12, [.ref m_manys, .ref m_reals, .ref m_factsOf, .ref m_possible, .int (nI q_undos), .int (nI q_models), .ref m_tape, .int (nI q_taped), .int q_fault, .int q_wrong, .int q_wrongAt, .int q_spot, .int q_place, .int (nI q_token), .int (nI q_value), .ref m_ends, .ref m_letters, .ref m_actOf, .ref m_whom, .ref m_actMany, .ref m_tokens, .ref m_afters, .ref m_afterOf, .int q_counted, .ref m_pile, .ref m_caseMany, .ref m_happen, .ref m_hasIf, .ref m_becomes, .ref m_goneOf, .ref m_heard, .ref m_pairs, .ref m_heaps, .int rz__1, .int hmz_2, .ref m_led, .ref m_newAt, .ref m_knowing, .ref m_firsts, .int (nI q_people), .ref m_secrets, .ref m_tried, .ref m_lanes, .ref m_lengths, .ref m_cells])), (m_manys, .inl (E.2.1 1, 18, .inl f_manys)), (m_reals, .inl (E.2.1 1, 18, .inl f_reals)), (m_factsOf, .inl (E.2.1 1, 432, .inl f_factsOf)), (m_possible, .inl (E.2.1 1, 1728, .inl f_possible)), (m_tape, .inl (E.2.1 1, 160, .inl f_tape)), (m_ends, .inl (E.2.1 1, 15, .inl f_ends)), (m_letters, .inl (E.2.1 1, 50, .inl f_letters)), (m_actOf, .inl (E.2.1 1, 800, .inl f_actOf)), (m_whom, .inl (E.2.1 1, 800, .inl f_whom)), (m_actMany, .inl (E.2.1 1, 25, .inl f_actMany)), (m_tokens, .inl (E.2.1 1, 9, .inl f_tokens)), (m_afters, .inl (E.2.1 1, 9, .inl f_afters)), (m_afterOf, .inl (E.2.1 1, 18, .inl f_afterOf)), (m_pile, .inl (E.2.1 1, 34, .inl f_pile)), (m_caseMany, .inl (E.2.1 1, 4, .inl f_caseMany)), (m_happen, .inl (E.2.1 1, 4, .inl f_happen)), (m_hasIf, .inl (E.2.1 3, 16, .inl f_hasIf)), (m_becomes, .inl (E.2.1 1, 16, .inl f_becomes)), (m_goneOf, .inl (E.2.1 1, 16, .inl f_goneOf)), (m_heard, .inl (E.2.1 1, 64, .inl f_heard)), (m_pairs, .inl (E.2.1 1, 576, .inl f_pairs)), (m_heaps, .inl (E.2.1 1, 2400, .inl f_heapsz_3)), (m_led, .inl (E.2.1 2, 192, .inr (.inl f_ledz_4))), (m_newAt, .inl (E.2.1 1, 24, .inl f_newAt)), (m_knowing, .inl (E.2.1 1, 4, .inl f_knowing)), (m_firsts, .inl (E.2.1 1, 4, .inl f_firsts)), (m_secrets, .inl (E.2.1 1, 4, .inl f_secrets)), (m_tried, .inl (E.2.1 1, 4, .inl f_tried)), (m_lanes, .inl (E.2.1 1, 4, .inl f_lanes)), (m_lengths, .inl (E.2.1 1, 4, .inl f_lengths)), (m_cells, .inl (E.2.1 1, 192, .inl f_cells))] ⟨m_manys, m_reals, m_factsOf, m_possible, m_tape, q_fault, q_wrong, q_wrongAt, q_spot, q_place, q_token, q_value, m_ends, m_letters, m_actOf, m_whom, m_actMany, m_tokens, m_afters, m_afterOf, q_counted, m_pile, m_caseMany, m_happen, m_hasIf, m_becomes, m_goneOf, m_heard, m_pairs, m_heaps, rz__1, hmz_2, m_led, m_newAt, m_knowing, m_firsts, m_secrets, m_tried, m_lanes, m_lengths, m_cells, f_manys, f_reals, f_factsOf, f_possible, f_tape, f_ends, f_letters, f_pile, f_pairs, f_heapsz_3, f_ledz_4, f_newAt, f_knowing, f_firsts, f_tried, rfl, hb_manys, hb_reals, hb_tape, hb_ends, hb_letters, hb_actMany, hb_afters, hb_afterOf, hb_caseMany, hb_happen, hb_lengths, hpg, hhp, hsv, hwf, (by first | assumption | omega), (by first | assumption | omega), (by first | assumption | omega), (by first | assumption | omega), (by first | assumption | omega), (by first | assumption | omega), rfl, rfl⟩ (h_5)
theorem wc_X12_turn : Cond.code yX12_turn cX12_turn 4 (some .int) ∈ TB := tbm (tq7 (List.mem_of_getElem? (i := 20) (rfl))) (by decide +kernel)
theorem wi_X12_turn : Cond.instanceMethod yX12_turn ∈ TB := tbm (tq7 (List.mem_of_getElem? (i := 18) (by decide +kernel))) (by decide +kernel)
theorem ws_X12_turn : Cond.selects RX12 yX12_turn yX12_turn ∈ TB := tbm (tq7 (List.mem_of_getElem? (i := 19) (by decide +kernel))) (by decide +kernel)
theorem mi_X12_turn : MI yX12_turn cX12_turn 4 (some .int) 2 := ⟨wc_X12_turn, wn_X12, ⟨by decide +kernel, by decide +kernel, by decide +kernel⟩, wi_X12_turn, ws_X12_turn⟩
theorem wl_L_130 : Cond.methodLink RL 130 yX12_turn ∈ TB := tbm (tq7 (List.mem_of_getElem? (i := 17) (by decide +kernel))) (by decide +kernel)
theorem dL_law_1072 : decode cL_law 1072 = .ok (.invokevirtual 130, 3) := by decide +kernel
set_option maxRecDepth 100000 in
set_option maxHeartbeats 4000000 in
theorem lm_turn {X : XT} {E : EV} {wT wm : va_W} {lv : List (Nat × Value)} {rest : List Value} {kC nC : Nat} {hm : Nat} {q_undos : Nat} {q_models : Nat} {PGv : Nat → AM} {f_afterOf : Nat → Int32} {f_actMany : Nat → Int32} {f_actOf : Nat → Int32} {f_whom : Nat → Int32} {f_hasIf : Nat → Int32} {f_becomes : Nat → Int32} {f_goneOf : Nat → Int32} {q_taped : Nat} {cr : Nat → Int} {q_people : Nat} {f_secrets : Nat → Int32} {f_lanes : Nat → Int32} {f_lengths : Nat → Int32} {f_cells : Nat → Int32} {f_tokens : Nat → Int32} {f_afters : Nat → Int32} {f_caseMany : Nat → Int32} {f_happen : Nat → Int32} {f_heard : Nat → Int32} {v0 : Int32} {v1 : Int32} (C : CX X room_1 cL_law 4 RL ret E) (hW : Nat.ble (rest.map fun v => v.category).sum 8 = true) (hk : kC ≤ 600000 ∧ nC ≤ 7302250) (H_ref : ok_ref E [] hm q_undos q_models PGv f_afterOf f_actMany f_actOf f_whom f_hasIf f_becomes f_goneOf q_taped cr q_people f_secrets f_lanes f_lengths f_cells f_tokens f_afters f_caseMany f_happen f_heard wm) (hWI : WHI f_hasIf f_actMany f_actOf f_whom) (hWT : WHT f_tokens f_actMany f_actOf f_whom) (kont : ∀ (rr : Int32) (q_undosZ : Nat) (PGvZ : Nat → AM) (wmZ : va_W), ok_ref E [] hm q_undosZ q_models PGvZ f_afterOf f_actMany f_actOf f_whom f_hasIf f_becomes f_goneOf q_taped cr q_people f_secrets f_lanes f_lengths f_cells f_tokens f_afters f_caseMany f_happen f_heard wmZ → (((asM q_undosZ PGvZ), rr) = opTurn (asM q_undos PGv) (rEv f_caseMany f_happen f_hasIf f_actMany f_actOf f_whom f_becomes f_goneOf f_heard) (rTT f_tokens f_actMany f_actOf f_whom f_afterOf f_afters) v0 v1 ∧ KP6 PGv PGvZ) → WW X 4 E 1075 lv (.int rr :: rest) (wmZ ++ wT) kC nC) : WW X 4 E 1072 lv (.int v1 :: .int v0 :: .ref hm :: rest) (wm ++ wT) kC nC := by
  unfold ok_ref at H_ref
  refine ex8 H_ref ?_
  clear H_ref
  intro m_manys m_reals m_factsOf m_possible m_tape q_fault q_wrong q_wrongAt H_ref
  refine ex8 H_ref ?_
  clear H_ref
  intro q_spot q_place q_token q_value m_ends m_letters m_actOf m_whom H_ref
  refine ex8 H_ref ?_
  clear H_ref
  intro m_actMany m_tokens m_afters m_afterOf q_counted m_pile m_caseMany m_happen H_ref
  refine ex8 H_ref ?_
  clear H_ref
  intro m_hasIf m_becomes m_goneOf m_heard m_pairs m_heaps q_rounds q_heapMany H_ref
  refine ex8 H_ref ?_
  clear H_ref
  intro m_led m_newAt m_knowing m_firsts m_secrets m_tried m_lanes m_lengths H_ref
  refine ex8 H_ref ?_
  clear H_ref
  intro m_cells f_manys f_reals f_factsOf f_possible f_tape f_ends f_letters H_ref
  refine ex8 H_ref ?_
  clear H_ref
  intro f_pile f_pairs f_heaps f_led f_newAt f_knowing f_firsts f_tried H_ref
  refine an8 H_ref ?_
  clear H_ref
  intro we_ref hb_manys hb_reals hb_tape hb_ends hb_letters hb_actMany hb_afters H_ref
  refine an8 H_ref ?_
  clear H_ref
  intro hb_afterOf hb_caseMany hb_happen hb_lengths hpg hhp hsv hwf H_ref
  refine an7 H_ref ?_
  clear H_ref
  intro hq_undos hq_models hq_taped hq_people hq_token hq_value hcr H_ref
  have hPGv := H_ref
  clear H_ref
  subst we_ref
  subst hcr
  subst hPGv
  refine ww_ciT (k' := kC) (n' := nC) (wr := [(m_tape, .inl (E.2.1 1, 160, .inl f_tape)), (m_ends, .inl (E.2.1 1, 15, .inl f_ends)), (m_letters, .inl (E.2.1 1, 50, .inl f_letters)), (m_heaps, .inl (E.2.1 1, 2400, .inl f_heaps)), (m_led, .inl (E.2.1 2, 192, .inr (.inl f_led))), (m_firsts, .inl (E.2.1 1, 4, .inl f_firsts)), (m_secrets, .inl (E.2.1 1, 4, .inl f_secrets)), (m_tried, .inl (E.2.1 1, 4, .inl f_tried)), (m_lanes, .inl (E.2.1 1, 4, .inl f_lanes)), (m_lengths, .inl (E.2.1 1, 4, .inl f_lengths)), (m_cells, .inl (E.2.1 1, 192, .inl f_cells))]) C (run_V (As := [.int v0, .int v1]) (rest := rest) C (y_turn X.2.1 E [] hm v0 v1 m_manys m_reals m_factsOf m_possible q_undos q_models m_tape q_taped q_fault q_wrong q_wrongAt q_spot q_place (nI q_token) (nI q_value) m_ends m_letters m_actOf m_whom m_actMany m_tokens m_afters m_afterOf q_counted m_pile m_caseMany m_happen m_hasIf m_becomes m_goneOf m_heard m_pairs m_heaps q_rounds q_heapMany m_led m_newAt m_knowing m_firsts q_people m_secrets m_tried m_lanes m_lengths m_cells f_manys f_reals f_factsOf f_possible f_pairs f_pile f_caseMany f_happen f_hasIf f_becomes f_goneOf f_heard f_actMany f_actOf f_whom f_afters f_afterOf f_knowing f_newAt f_tokens hb_manys hb_reals hpg hwf hb_caseMany hb_happen hb_actMany hhp hsv hb_afters hb_afterOf (by first | assumption | omega) (by first | assumption | omega) (by first | assumption | omega)) mi_X12_turn wl_L_130 rfl 0 12 rfl rfl rfl rfl hW dL_law_1072) ro0 [0, 1, 2, 3, 4, 21, 14, 15, 16, 17, 18, 19, 20, 10, 8, 9, 12, 13, 25, 24, 11] [5, 6, 7, 22, 23, 26, 27, 28, 29, 30, 31] rfl rfl rfl ⟨by omega, by omega, hk.1, hk.2⟩ (fun rr u hw => ?_)
  refine ex8 hw ?_
  clear hw
  intro uz__1 f_manysz_2 f_realsz_3 f_factsOfz_4 f_possiblez_5 f_pairsz_6 f_pilez_7 f_knowingz_8 hw
  refine ex1 hw ?_
  clear hw
  intro f_newAtz_9 hw
  refine an7 hw ?_
  clear hw
  intro he_u h_10 h_11 h_12 h_13 h_14 h_15 hw
  have h_16 := hw
  clear hw
  subst he_u
  refine ww_subT (w1 := [(hm, .inr (12, [.ref m_manys, .ref m_reals, .ref m_factsOf, .ref m_possible, .int (nI uz__1), .int (nI q_models), .ref m_tape, .int (nI q_taped), .int q_fault, .int q_wrong, .int q_wrongAt, .int q_spot, .int q_place, .int (nI q_token), .int (nI q_value), .ref m_ends, .ref m_letters, .ref m_actOf, .ref m_whom, .ref m_actMany, .ref m_tokens, .ref m_afters, .ref m_afterOf, .int q_counted, .ref m_pile, .ref m_caseMany, .ref m_happen, .ref m_hasIf, .ref m_becomes, .ref m_goneOf, .ref m_heard, .ref m_pairs, .ref m_heaps, .int q_rounds, .int q_heapMany, .ref m_led, .ref m_newAt, .ref m_knowing, .ref m_firsts, .int (nI q_people), .ref m_secrets, .ref m_tried, .ref m_lanes, .ref m_lengths, .ref m_cells])), (m_manys, .inl (E.2.1 1, 18, .inl f_manysz_2)), (m_reals, .inl (E.2.1 1, 18, .inl f_realsz_3)), (m_factsOf, .inl (E.2.1 1, 432, .inl f_factsOfz_4)), (m_possible, .inl (E.2.1 1, 1728, .inl f_possiblez_5)), (m_tape, .inl (E.2.1 1, 160, .inl f_tape)), (m_ends, .inl (E.2.1 1, 15, .inl f_ends)), (m_letters, .inl (E.2.1 1, 50, .inl f_letters)), (m_actOf, .inl (E.2.1 1, 800, .inl f_actOf)), (m_whom, .inl (E.2.1 1, 800, .inl f_whom)), (m_actMany, .inl (E.2.1 1, 25, .inl f_actMany)), (m_tokens, .inl (E.2.1 1, 9, .inl f_tokens)), (m_afters, .inl (E.2.1 1, 9, .inl f_afters)), (m_afterOf, .inl (E.2.1 1, 18, .inl f_afterOf)), (m_pile, .inl (E.2.1 1, 34, .inl f_pilez_7)), (m_caseMany, .inl (E.2.1 1, 4, .inl f_caseMany)), (m_happen, .inl (E.2.1 1, 4, .inl f_happen)), (m_hasIf, .inl (E.2.1 3, 16, .inl f_hasIf)), (m_becomes, .inl (E.2.1 1, 16, .inl f_becomes)), (m_goneOf, .inl (E.2.1 1, 16, .inl f_goneOf)), (m_heard, .inl (E.2.1 1, 64, .inl f_heard)), (m_pairs, .inl (E.2.1 1, 576, .inl f_pairsz_6)), (m_heaps, .inl (E.2.1 1, 2400, .inl f_heaps)), (m_led, .inl (E.2.1 2, 192, .inr (.inl f_led))), (m_newAt, .inl (E.2.1 1, 24, .inl f_newAtz_9)), (m_knowing, .inl (E.2.1 1, 4, .inl f_knowingz_8)), (m_firsts, .inl (E.2.1 1, 4, .inl f_firsts)), (m_secrets, .inl (E.2.1 1, 4, .inl f_secrets)), (m_tried, .inl (E.2.1 1, 4, .inl f_tried)), (m_lanes, .inl (E.2.1 1, 4, .inl f_lanes)), (m_lengths, .inl (E.2.1 1, 4, .inl f_lengths)), (m_cells, .inl (E.2.1 1, 192, .inl f_cells))]) [11, 12, 13, 14, 15, 0, 1, 2, 25, 26, 24, 31, 27, 28, 17, 18, 19, 20, 21, 22, 23, 16, 3, 4, 30, 29, 5, 6, 7, 8, 9, 10] rfl rfl ?_
  exact kont rr uz__1 (pgs f_manysz_2 f_realsz_3 f_factsOfz_4 f_possiblez_5) [(hm, .inr (12, [.ref m_manys, .ref m_reals, .ref m_factsOf, .ref m_possible, .int (nI uz__1), .int (nI q_models), .ref m_tape, .int (nI q_taped), .int q_fault, .int q_wrong, .int q_wrongAt, .int q_spot, .int q_place, .int (nI q_token), .int (nI q_value), .ref m_ends, .ref m_letters, .ref m_actOf, .ref m_whom, .ref m_actMany, .ref m_tokens, .ref m_afters, .ref m_afterOf, .int q_counted, .ref m_pile, .ref m_caseMany, .ref m_happen, .ref m_hasIf, .ref m_becomes, .ref m_goneOf, .ref m_heard, .ref m_pairs, .ref m_heaps, .int q_rounds, .int q_heapMany, .ref m_led, .ref m_newAt, .ref m_knowing, .ref m_firsts, .int (nI q_people), .ref m_secrets, .ref m_tried, .ref m_lanes, .ref m_lengths, .ref m_cells])), (m_manys, .inl (E.2.1 1, 18, .inl f_manysz_2)), (m_reals, .inl (E.2.1 1, 18, .inl f_realsz_3)), (m_factsOf, .inl (E.2.1 1, 432, .inl f_factsOfz_4)), (m_possible, .inl (E.2.1 1, 1728, .inl f_possiblez_5)), (m_tape, .inl (E.2.1 1, 160, .inl f_tape)), (m_ends, .inl (E.2.1 1, 15, .inl f_ends)), (m_letters, .inl (E.2.1 1, 50, .inl f_letters)), (m_actOf, .inl (E.2.1 1, 800, .inl f_actOf)), (m_whom, .inl (E.2.1 1, 800, .inl f_whom)), (m_actMany, .inl (E.2.1 1, 25, .inl f_actMany)), (m_tokens, .inl (E.2.1 1, 9, .inl f_tokens)), (m_afters, .inl (E.2.1 1, 9, .inl f_afters)), (m_afterOf, .inl (E.2.1 1, 18, .inl f_afterOf)), (m_pile, .inl (E.2.1 1, 34, .inl f_pilez_7)), (m_caseMany, .inl (E.2.1 1, 4, .inl f_caseMany)), (m_happen, .inl (E.2.1 1, 4, .inl f_happen)), (m_hasIf, .inl (E.2.1 3, 16, .inl f_hasIf)), (m_becomes, .inl (E.2.1 1, 16, .inl f_becomes)), (m_goneOf, .inl (E.2.1 1, 16, .inl f_goneOf)), (m_heard, .inl (E.2.1 1, 64, .inl f_heard)), (m_pairs, .inl (E.2.1 1, 576, .inl f_pairsz_6)), (m_heaps, .inl (E.2.1 1, 2400, .inl f_heaps)), (m_led, .inl (E.2.1 2, 192, .inr (.inl f_led))), (m_newAt, .inl (E.2.1 1, 24, .inl f_newAtz_9)), (m_knowing, .inl (E.2.1 1, 4, .inl f_knowingz_8)), (m_firsts, .inl (E.2.1 1, 4, .inl f_firsts)), (m_secrets, .inl (E.2.1 1, 4, .inl f_secrets)), (m_tried, .inl (E.2.1 1, 4, .inl f_tried)), (m_lanes, .inl (E.2.1 1, 4, .inl f_lanes)), (m_lengths, .inl (E.2.1 1, 4, .inl f_lengths)), (m_cells, .inl (E.2.1 1, 192, .inl f_cells))] ⟨m_manys, m_reals, m_factsOf, m_possible, m_tape, q_fault, q_wrong, q_wrongAt, q_spot, q_place, q_token, q_value, m_ends, m_letters, m_actOf, m_whom, m_actMany, m_tokens, m_afters, m_afterOf, q_counted, m_pile, m_caseMany, m_happen, m_hasIf, m_becomes, m_goneOf, m_heard, m_pairs, m_heaps, q_rounds, q_heapMany, m_led, m_newAt, m_knowing, m_firsts, m_secrets, m_tried, m_lanes, m_lengths, m_cells, f_manysz_2, f_realsz_3, f_factsOfz_4, f_possiblez_5, f_tape, f_ends, f_letters, f_pilez_7, f_pairsz_6, f_heaps, f_led, f_newAtz_9, f_knowingz_8, f_firsts, f_tried, rfl, h_10, h_11, hb_tape, hb_ends, hb_letters, hb_actMany, hb_afters, hb_afterOf, hb_caseMany, hb_happen, hb_lengths, h_12, hhp, hsv, h_13, (by first | assumption | omega), (by first | assumption | omega), (by first | assumption | omega), (by first | assumption | omega), (by first | assumption | omega), (by first | assumption | omega), rfl, rfl⟩ (⟨h_15, h_16⟩)
theorem wc_X12_turns : Cond.code yX12_turns cX12_turns 8 (some .int) ∈ TB := tbm (tq7 (List.mem_of_getElem? (i := 41) (rfl))) (by decide +kernel)
theorem wi_X12_turns : Cond.instanceMethod yX12_turns ∈ TB := tbm (tq7 (List.mem_of_getElem? (i := 39) (by decide +kernel))) (by decide +kernel)
theorem ws_X12_turns : Cond.selects RX12 yX12_turns yX12_turns ∈ TB := tbm (tq7 (List.mem_of_getElem? (i := 40) (by decide +kernel))) (by decide +kernel)
theorem mi_X12_turns : MI yX12_turns cX12_turns 8 (some .int) 3 := ⟨wc_X12_turns, wn_X12, ⟨by decide +kernel, by decide +kernel, by decide +kernel⟩, wi_X12_turns, ws_X12_turns⟩
theorem wl_L_135 : Cond.methodLink RL 135 yX12_turns ∈ TB := tbm (tq7 (List.mem_of_getElem? (i := 38) (by decide +kernel))) (by decide +kernel)
theorem dL_law_1115 : decode cL_law 1115 = .ok (.invokevirtual 135, 3) := by decide +kernel
set_option maxRecDepth 100000 in
set_option maxHeartbeats 4000000 in
theorem lm_turns {X : XT} {E : EV} {wT wm : va_W} {lv : List (Nat × Value)} {rest : List Value} {kC nC : Nat} {hm : Nat} {q_undos : Nat} {q_models : Nat} {PGv : Nat → AM} {f_afterOf : Nat → Int32} {f_actMany : Nat → Int32} {f_actOf : Nat → Int32} {f_whom : Nat → Int32} {f_hasIf : Nat → Int32} {f_becomes : Nat → Int32} {f_goneOf : Nat → Int32} {q_taped : Nat} {cr : Nat → Int} {q_people : Nat} {f_secrets : Nat → Int32} {f_lanes : Nat → Int32} {f_lengths : Nat → Int32} {f_cells : Nat → Int32} {f_tokens : Nat → Int32} {f_afters : Nat → Int32} {f_caseMany : Nat → Int32} {f_happen : Nat → Int32} {f_heard : Nat → Int32} {v0 : Int32} {v1 : Int32} {v2 : Int32} (C : CX X room_1 cL_law 4 RL ret E) (hW : Nat.ble (rest.map fun v => v.category).sum 8 = true) (hk : kC ≤ 600000 ∧ nC ≤ 7302250) (H_ref : ok_ref E [] hm q_undos q_models PGv f_afterOf f_actMany f_actOf f_whom f_hasIf f_becomes f_goneOf q_taped cr q_people f_secrets f_lanes f_lengths f_cells f_tokens f_afters f_caseMany f_happen f_heard wm) (hWI : WHI f_hasIf f_actMany f_actOf f_whom) (hWT : WHT f_tokens f_actMany f_actOf f_whom) (kont : ∀ (rr : Int32) (PGvZ : Nat → AM) (wmZ : va_W), ok_ref E [] hm q_undos q_models PGvZ f_afterOf f_actMany f_actOf f_whom f_hasIf f_becomes f_goneOf q_taped cr q_people f_secrets f_lanes f_lengths f_cells f_tokens f_afters f_caseMany f_happen f_heard wmZ → (TUR (PGv 0) (rEv f_caseMany f_happen f_hasIf f_actMany f_actOf f_whom f_becomes f_goneOf f_heard) (rTT f_tokens f_actMany f_actOf f_whom f_afterOf f_afters) v0 v1 v2 rr ∧ KPA 0 PGv PGvZ) → WW X 4 E 1118 lv (.int rr :: rest) (wmZ ++ wT) kC nC) : WW X 4 E 1115 lv (.int v2 :: .int v1 :: .int v0 :: .ref hm :: rest) (wm ++ wT) kC nC := by
  unfold ok_ref at H_ref
  refine ex8 H_ref ?_
  clear H_ref
  intro m_manys m_reals m_factsOf m_possible m_tape q_fault q_wrong q_wrongAt H_ref
  refine ex8 H_ref ?_
  clear H_ref
  intro q_spot q_place q_token q_value m_ends m_letters m_actOf m_whom H_ref
  refine ex8 H_ref ?_
  clear H_ref
  intro m_actMany m_tokens m_afters m_afterOf q_counted m_pile m_caseMany m_happen H_ref
  refine ex8 H_ref ?_
  clear H_ref
  intro m_hasIf m_becomes m_goneOf m_heard m_pairs m_heaps q_rounds q_heapMany H_ref
  refine ex8 H_ref ?_
  clear H_ref
  intro m_led m_newAt m_knowing m_firsts m_secrets m_tried m_lanes m_lengths H_ref
  refine ex8 H_ref ?_
  clear H_ref
  intro m_cells f_manys f_reals f_factsOf f_possible f_tape f_ends f_letters H_ref
  refine ex8 H_ref ?_
  clear H_ref
  intro f_pile f_pairs f_heaps f_led f_newAt f_knowing f_firsts f_tried H_ref
  refine an8 H_ref ?_
  clear H_ref
  intro we_ref hb_manys hb_reals hb_tape hb_ends hb_letters hb_actMany hb_afters H_ref
  refine an8 H_ref ?_
  clear H_ref
  intro hb_afterOf hb_caseMany hb_happen hb_lengths hpg hhp hsv hwf H_ref
  refine an7 H_ref ?_
  clear H_ref
  intro hq_undos hq_models hq_taped hq_people hq_token hq_value hcr H_ref
  have hPGv := H_ref
  clear H_ref
  subst we_ref
  subst hcr
  subst hPGv
  refine ww_ciT (k' := kC) (n' := nC) (wr := [(m_tape, .inl (E.2.1 1, 160, .inl f_tape)), (m_ends, .inl (E.2.1 1, 15, .inl f_ends)), (m_letters, .inl (E.2.1 1, 50, .inl f_letters)), (m_heaps, .inl (E.2.1 1, 2400, .inl f_heaps)), (m_led, .inl (E.2.1 2, 192, .inr (.inl f_led))), (m_secrets, .inl (E.2.1 1, 4, .inl f_secrets)), (m_tried, .inl (E.2.1 1, 4, .inl f_tried)), (m_lanes, .inl (E.2.1 1, 4, .inl f_lanes)), (m_lengths, .inl (E.2.1 1, 4, .inl f_lengths)), (m_cells, .inl (E.2.1 1, 192, .inl f_cells))]) C (run_V (As := [.int v0, .int v1, .int v2]) (rest := rest) C (y_turns X.2.1 E [] hm v0 v1 v2 m_manys m_reals m_factsOf m_possible q_undos q_models m_tape q_taped q_fault q_wrong q_wrongAt q_spot q_place (nI q_token) (nI q_value) m_ends m_letters m_actOf m_whom m_actMany m_tokens m_afters m_afterOf q_counted m_pile m_caseMany m_happen m_hasIf m_becomes m_goneOf m_heard m_pairs m_heaps q_rounds q_heapMany m_led m_newAt m_knowing m_firsts q_people m_secrets m_tried m_lanes m_lengths m_cells f_manys f_reals f_factsOf f_possible f_pairs f_pile f_caseMany f_happen f_hasIf f_becomes f_goneOf f_heard f_actMany f_actOf f_whom f_afters f_afterOf f_knowing f_newAt f_firsts f_tokens hb_manys hb_reals hpg hwf hb_caseMany hb_happen hb_actMany hhp hsv hb_afters hb_afterOf (by first | assumption | omega) (by first | assumption | omega)) mi_X12_turns wl_L_135 rfl 0 12 rfl rfl rfl rfl hW dL_law_1115) ro0 [0, 1, 2, 3, 4, 21, 14, 15, 16, 17, 18, 19, 20, 10, 8, 9, 12, 13, 25, 24, 26, 11] [5, 6, 7, 22, 23, 27, 28, 29, 30, 31] rfl rfl rfl ⟨by omega, by omega, hk.1, hk.2⟩ (fun rr u hw => ?_)
  refine ex8 hw ?_
  clear hw
  intro f_manysz_1 f_realsz_2 f_factsOfz_3 f_possiblez_4 f_pairsz_5 f_pilez_6 f_knowingz_7 f_newAtz_8 hw
  refine ex1 hw ?_
  clear hw
  intro f_firstsz_9 hw
  refine an6 hw ?_
  clear hw
  intro he_u h_10 h_11 h_12 h_13 h_14 hw
  have h_15 := hw
  clear hw
  subst he_u
  refine ww_subT (w1 := [(hm, .inr (12, [.ref m_manys, .ref m_reals, .ref m_factsOf, .ref m_possible, .int (nI q_undos), .int (nI q_models), .ref m_tape, .int (nI q_taped), .int q_fault, .int q_wrong, .int q_wrongAt, .int q_spot, .int q_place, .int (nI q_token), .int (nI q_value), .ref m_ends, .ref m_letters, .ref m_actOf, .ref m_whom, .ref m_actMany, .ref m_tokens, .ref m_afters, .ref m_afterOf, .int q_counted, .ref m_pile, .ref m_caseMany, .ref m_happen, .ref m_hasIf, .ref m_becomes, .ref m_goneOf, .ref m_heard, .ref m_pairs, .ref m_heaps, .int q_rounds, .int q_heapMany, .ref m_led, .ref m_newAt, .ref m_knowing, .ref m_firsts, .int (nI q_people), .ref m_secrets, .ref m_tried, .ref m_lanes, .ref m_lengths, .ref m_cells])), (m_manys, .inl (E.2.1 1, 18, .inl f_manysz_1)), (m_reals, .inl (E.2.1 1, 18, .inl f_realsz_2)), (m_factsOf, .inl (E.2.1 1, 432, .inl f_factsOfz_3)), (m_possible, .inl (E.2.1 1, 1728, .inl f_possiblez_4)), (m_tape, .inl (E.2.1 1, 160, .inl f_tape)), (m_ends, .inl (E.2.1 1, 15, .inl f_ends)), (m_letters, .inl (E.2.1 1, 50, .inl f_letters)), (m_actOf, .inl (E.2.1 1, 800, .inl f_actOf)), (m_whom, .inl (E.2.1 1, 800, .inl f_whom)), (m_actMany, .inl (E.2.1 1, 25, .inl f_actMany)), (m_tokens, .inl (E.2.1 1, 9, .inl f_tokens)), (m_afters, .inl (E.2.1 1, 9, .inl f_afters)), (m_afterOf, .inl (E.2.1 1, 18, .inl f_afterOf)), (m_pile, .inl (E.2.1 1, 34, .inl f_pilez_6)), (m_caseMany, .inl (E.2.1 1, 4, .inl f_caseMany)), (m_happen, .inl (E.2.1 1, 4, .inl f_happen)), (m_hasIf, .inl (E.2.1 3, 16, .inl f_hasIf)), (m_becomes, .inl (E.2.1 1, 16, .inl f_becomes)), (m_goneOf, .inl (E.2.1 1, 16, .inl f_goneOf)), (m_heard, .inl (E.2.1 1, 64, .inl f_heard)), (m_pairs, .inl (E.2.1 1, 576, .inl f_pairsz_5)), (m_heaps, .inl (E.2.1 1, 2400, .inl f_heaps)), (m_led, .inl (E.2.1 2, 192, .inr (.inl f_led))), (m_newAt, .inl (E.2.1 1, 24, .inl f_newAtz_8)), (m_knowing, .inl (E.2.1 1, 4, .inl f_knowingz_7)), (m_firsts, .inl (E.2.1 1, 4, .inl f_firstsz_9)), (m_secrets, .inl (E.2.1 1, 4, .inl f_secrets)), (m_tried, .inl (E.2.1 1, 4, .inl f_tried)), (m_lanes, .inl (E.2.1 1, 4, .inl f_lanes)), (m_lengths, .inl (E.2.1 1, 4, .inl f_lengths)), (m_cells, .inl (E.2.1 1, 192, .inl f_cells))]) [10, 11, 12, 13, 14, 0, 1, 2, 24, 25, 23, 31, 26, 27, 16, 17, 18, 19, 20, 21, 22, 15, 3, 4, 29, 28, 30, 5, 6, 7, 8, 9] rfl rfl ?_
  exact kont rr (pgs f_manysz_1 f_realsz_2 f_factsOfz_3 f_possiblez_4) [(hm, .inr (12, [.ref m_manys, .ref m_reals, .ref m_factsOf, .ref m_possible, .int (nI q_undos), .int (nI q_models), .ref m_tape, .int (nI q_taped), .int q_fault, .int q_wrong, .int q_wrongAt, .int q_spot, .int q_place, .int (nI q_token), .int (nI q_value), .ref m_ends, .ref m_letters, .ref m_actOf, .ref m_whom, .ref m_actMany, .ref m_tokens, .ref m_afters, .ref m_afterOf, .int q_counted, .ref m_pile, .ref m_caseMany, .ref m_happen, .ref m_hasIf, .ref m_becomes, .ref m_goneOf, .ref m_heard, .ref m_pairs, .ref m_heaps, .int q_rounds, .int q_heapMany, .ref m_led, .ref m_newAt, .ref m_knowing, .ref m_firsts, .int (nI q_people), .ref m_secrets, .ref m_tried, .ref m_lanes, .ref m_lengths, .ref m_cells])), (m_manys, .inl (E.2.1 1, 18, .inl f_manysz_1)), (m_reals, .inl (E.2.1 1, 18, .inl f_realsz_2)), (m_factsOf, .inl (E.2.1 1, 432, .inl f_factsOfz_3)), (m_possible, .inl (E.2.1 1, 1728, .inl f_possiblez_4)), (m_tape, .inl (E.2.1 1, 160, .inl f_tape)), (m_ends, .inl (E.2.1 1, 15, .inl f_ends)), (m_letters, .inl (E.2.1 1, 50, .inl f_letters)), (m_actOf, .inl (E.2.1 1, 800, .inl f_actOf)), (m_whom, .inl (E.2.1 1, 800, .inl f_whom)), (m_actMany, .inl (E.2.1 1, 25, .inl f_actMany)), (m_tokens, .inl (E.2.1 1, 9, .inl f_tokens)), (m_afters, .inl (E.2.1 1, 9, .inl f_afters)), (m_afterOf, .inl (E.2.1 1, 18, .inl f_afterOf)), (m_pile, .inl (E.2.1 1, 34, .inl f_pilez_6)), (m_caseMany, .inl (E.2.1 1, 4, .inl f_caseMany)), (m_happen, .inl (E.2.1 1, 4, .inl f_happen)), (m_hasIf, .inl (E.2.1 3, 16, .inl f_hasIf)), (m_becomes, .inl (E.2.1 1, 16, .inl f_becomes)), (m_goneOf, .inl (E.2.1 1, 16, .inl f_goneOf)), (m_heard, .inl (E.2.1 1, 64, .inl f_heard)), (m_pairs, .inl (E.2.1 1, 576, .inl f_pairsz_5)), (m_heaps, .inl (E.2.1 1, 2400, .inl f_heaps)), (m_led, .inl (E.2.1 2, 192, .inr (.inl f_led))), (m_newAt, .inl (E.2.1 1, 24, .inl f_newAtz_8)), (m_knowing, .inl (E.2.1 1, 4, .inl f_knowingz_7)), (m_firsts, .inl (E.2.1 1, 4, .inl f_firstsz_9)), (m_secrets, .inl (E.2.1 1, 4, .inl f_secrets)), (m_tried, .inl (E.2.1 1, 4, .inl f_tried)), (m_lanes, .inl (E.2.1 1, 4, .inl f_lanes)), (m_lengths, .inl (E.2.1 1, 4, .inl f_lengths)), (m_cells, .inl (E.2.1 1, 192, .inl f_cells))] ⟨m_manys, m_reals, m_factsOf, m_possible, m_tape, q_fault, q_wrong, q_wrongAt, q_spot, q_place, q_token, q_value, m_ends, m_letters, m_actOf, m_whom, m_actMany, m_tokens, m_afters, m_afterOf, q_counted, m_pile, m_caseMany, m_happen, m_hasIf, m_becomes, m_goneOf, m_heard, m_pairs, m_heaps, q_rounds, q_heapMany, m_led, m_newAt, m_knowing, m_firsts, m_secrets, m_tried, m_lanes, m_lengths, m_cells, f_manysz_1, f_realsz_2, f_factsOfz_3, f_possiblez_4, f_tape, f_ends, f_letters, f_pilez_6, f_pairsz_5, f_heaps, f_led, f_newAtz_8, f_knowingz_7, f_firstsz_9, f_tried, rfl, h_10, h_11, hb_tape, hb_ends, hb_letters, hb_actMany, hb_afters, hb_afterOf, hb_caseMany, hb_happen, hb_lengths, h_12, hhp, hsv, h_13, (by first | assumption | omega), (by first | assumption | omega), (by first | assumption | omega), (by first | assumption | omega), (by first | assumption | omega), (by first | assumption | omega), rfl, rfl⟩ (⟨h_14, h_15⟩)
