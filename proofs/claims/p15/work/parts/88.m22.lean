theorem wc_X12_when : Cond.code yX12_when cX12_when 6 (some .int) ∈ TB := tbm (tq6 (List.mem_of_getElem? (i := 124) (rfl))) (by decide +kernel)
theorem wi_X12_when : Cond.instanceMethod yX12_when ∈ TB := tbm (tq6 (List.mem_of_getElem? (i := 122) (by decide +kernel))) (by decide +kernel)
theorem ws_X12_when : Cond.selects RX12 yX12_when yX12_when ∈ TB := tbm (tq6 (List.mem_of_getElem? (i := 123) (by decide +kernel))) (by decide +kernel)
theorem mi_X12_when : MI yX12_when cX12_when 6 (some .int) 5 := ⟨wc_X12_when, wn_X12, ⟨by decide +kernel, by decide +kernel, by decide +kernel⟩, wi_X12_when, ws_X12_when⟩
theorem wl_L_80 : Cond.methodLink RL 80 yX12_when ∈ TB := tbm (tq6 (List.mem_of_getElem? (i := 121) (by decide +kernel))) (by decide +kernel)
theorem dL_law_710 : decode cL_law 710 = .ok (.invokevirtual 80, 3) := by decide +kernel
set_option maxRecDepth 100000 in
set_option maxHeartbeats 4000000 in
theorem lm_when {X : XT} {E : EV} {wT wm : va_W} {lv : List (Nat × Value)} {rest : List Value} {kC nC : Nat} {hm : Nat} {q_taped : Nat} {q_people : Nat} {f_secrets : Nat → Int32} {f_lanes : Nat → Int32} {f_lengths : Nat → Int32} {v0 : Int32} {v1 : Int32} {v2 : Int32} {v3 : Int32} {v4 : Int32} (C : CX X room_1 cL_law 4 RL ret E) (hW : Nat.ble (rest.map fun v => v.category).sum 8 = true) (hk : kC ≤ 600000 ∧ nC ≤ 7302250) (H_ref : ok_ref E [] hm q_taped q_people f_secrets f_lanes f_lengths wm) (kont : ∀ (rr : Int32) (wmZ : va_W), ok_ref E [] hm q_taped q_people f_secrets f_lanes f_lengths wmZ → (True) → WW X 4 E 713 lv (.int rr :: rest) (wmZ ++ wT) kC nC) : WW X 4 E 710 lv (.int v4 :: .int v3 :: .int v2 :: .int v1 :: .int v0 :: .ref hm :: rest) (wm ++ wT) kC nC := by
  unfold ok_ref at H_ref
  refine ex8 H_ref ?_
  clear H_ref
  intro m_manys m_reals m_factsOf m_possible q_undos q_models m_tape q_fault H_ref
  refine ex8 H_ref ?_
  clear H_ref
  intro q_wrong q_wrongAt q_spot q_place q_token q_value m_ends m_letters H_ref
  refine ex8 H_ref ?_
  clear H_ref
  intro m_actOf m_whom m_actMany m_tokens m_afters m_afterOf q_counted m_pile H_ref
  refine ex8 H_ref ?_
  clear H_ref
  intro m_caseMany m_happen m_hasIf m_becomes m_goneOf m_heard m_pairs m_heaps H_ref
  refine ex8 H_ref ?_
  clear H_ref
  intro q_rounds q_heapMany m_led m_newAt m_knowing m_firsts m_secrets m_tried H_ref
  refine ex8 H_ref ?_
  clear H_ref
  intro m_lanes m_lengths m_cells f_manys f_reals f_factsOf f_possible f_tape H_ref
  refine ex8 H_ref ?_
  clear H_ref
  intro f_ends f_letters f_actOf f_whom f_actMany f_tokens f_afters f_afterOf H_ref
  refine ex8 H_ref ?_
  clear H_ref
  intro f_pile f_caseMany f_happen f_hasIf f_becomes f_goneOf f_heard f_pairs H_ref
  refine ex7 H_ref ?_
  clear H_ref
  intro f_heaps f_led f_newAt f_knowing f_firsts f_tried f_cells H_ref
  refine an8 H_ref ?_
  clear H_ref
  intro we_ref hb_manys hb_reals hb_ends hb_actMany hb_afters hb_afterOf hb_caseMany H_ref
  refine an8 H_ref ?_
  clear H_ref
  intro hb_happen hb_lengths hpg hhp hsv hq_undos hq_models hq_taped H_ref
  refine an2 H_ref ?_
  clear H_ref
  intro hq_people hq_token H_ref
  have hq_value := H_ref
  clear H_ref
  subst we_ref
  refine ww_ciT (k' := kC) (n' := nC) (wr := [(m_manys, .inl (E.2.1 1, 18, .inl f_manys)), (m_reals, .inl (E.2.1 1, 18, .inl f_reals)), (m_factsOf, .inl (E.2.1 1, 432, .inl f_factsOf)), (m_possible, .inl (E.2.1 1, 1728, .inl f_possible)), (m_tape, .inl (E.2.1 1, 160, .inl f_tape)), (m_ends, .inl (E.2.1 1, 15, .inl f_ends)), (m_letters, .inl (E.2.1 1, 50, .inl f_letters)), (m_afterOf, .inl (E.2.1 1, 18, .inl f_afterOf)), (m_pile, .inl (E.2.1 1, 34, .inl f_pile)), (m_happen, .inl (E.2.1 1, 4, .inl f_happen)), (m_heard, .inl (E.2.1 1, 64, .inl f_heard)), (m_pairs, .inl (E.2.1 1, 576, .inl f_pairs)), (m_heaps, .inl (E.2.1 1, 2400, .inl f_heaps)), (m_led, .inl (E.2.1 2, 192, .inr (.inl f_led))), (m_newAt, .inl (E.2.1 1, 24, .inl f_newAt)), (m_knowing, .inl (E.2.1 1, 4, .inl f_knowing)), (m_firsts, .inl (E.2.1 1, 4, .inl f_firsts)), (m_secrets, .inl (E.2.1 1, 4, .inl f_secrets)), (m_tried, .inl (E.2.1 1, 4, .inl f_tried)), (m_lanes, .inl (E.2.1 1, 4, .inl f_lanes)), (m_lengths, .inl (E.2.1 1, 4, .inl f_lengths)), (m_cells, .inl (E.2.1 1, 192, .inl f_cells))]) C (run_V (As := [.int v0, .int v1, .int v2, .int v3, .int v4]) (rest := rest) C (y_when X.2.1 E [] hm v0 v1 v2 v3 v4 m_manys m_reals m_factsOf m_possible q_undos q_models m_tape q_taped q_fault q_wrong q_wrongAt q_spot q_place (nI q_token) (nI q_value) m_ends m_letters m_actOf m_whom m_actMany m_tokens m_afters m_afterOf q_counted m_pile m_caseMany m_happen m_hasIf m_becomes m_goneOf m_heard m_pairs m_heaps q_rounds q_heapMany m_led m_newAt m_knowing m_firsts q_people m_secrets m_tried m_lanes m_lengths m_cells f_caseMany f_hasIf f_actMany f_actOf f_whom f_tokens f_afters f_becomes f_goneOf hb_caseMany hb_actMany hsv hb_afters) mi_X12_when wl_L_80 rfl 0 12 rfl rfl rfl rfl hW dL_law_710) ro0 [0, 15, 17, 10, 8, 9, 11, 12, 18, 19] [1, 2, 3, 4, 5, 6, 7, 13, 14, 16, 20, 21, 22, 23, 24, 25, 26, 27, 28, 29, 30, 31] rfl rfl rfl ⟨by omega, by omega, hk.1, hk.2⟩ (fun rr u hw => ?_)
  refine ex6 hw ?_
  clear hw
  intro f_hasIfz_1 f_actManyz_2 f_actOfz_3 f_whomz_4 f_becomesz_5 f_goneOfz_6 hw
  refine an2 hw ?_
  clear hw
  intro he_u h_7 hw
  have h_8 := hw
  clear hw
  subst he_u
  refine ww_subT (w1 := [(hm, .inr (12, [.ref m_manys, .ref m_reals, .ref m_factsOf, .ref m_possible, .int (nI q_undos), .int (nI q_models), .ref m_tape, .int (nI q_taped), .int q_fault, .int q_wrong, .int q_wrongAt, .int q_spot, .int q_place, .int (nI q_token), .int (nI q_value), .ref m_ends, .ref m_letters, .ref m_actOf, .ref m_whom, .ref m_actMany, .ref m_tokens, .ref m_afters, .ref m_afterOf, .int q_counted, .ref m_pile, .ref m_caseMany, .ref m_happen, .ref m_hasIf, .ref m_becomes, .ref m_goneOf, .ref m_heard, .ref m_pairs, .ref m_heaps, .int q_rounds, .int q_heapMany, .ref m_led, .ref m_newAt, .ref m_knowing, .ref m_firsts, .int (nI q_people), .ref m_secrets, .ref m_tried, .ref m_lanes, .ref m_lengths, .ref m_cells])), (m_manys, .inl (E.2.1 1, 18, .inl f_manys)), (m_reals, .inl (E.2.1 1, 18, .inl f_reals)), (m_factsOf, .inl (E.2.1 1, 432, .inl f_factsOf)), (m_possible, .inl (E.2.1 1, 1728, .inl f_possible)), (m_tape, .inl (E.2.1 1, 160, .inl f_tape)), (m_ends, .inl (E.2.1 1, 15, .inl f_ends)), (m_letters, .inl (E.2.1 1, 50, .inl f_letters)), (m_actOf, .inl (E.2.1 1, 800, .inl f_actOfz_3)), (m_whom, .inl (E.2.1 1, 800, .inl f_whomz_4)), (m_actMany, .inl (E.2.1 1, 25, .inl f_actManyz_2)), (m_tokens, .inl (E.2.1 1, 9, .inl f_tokens)), (m_afters, .inl (E.2.1 1, 9, .inl f_afters)), (m_afterOf, .inl (E.2.1 1, 18, .inl f_afterOf)), (m_pile, .inl (E.2.1 1, 34, .inl f_pile)), (m_caseMany, .inl (E.2.1 1, 4, .inl f_caseMany)), (m_happen, .inl (E.2.1 1, 4, .inl f_happen)), (m_hasIf, .inl (E.2.1 3, 16, .inl f_hasIfz_1)), (m_becomes, .inl (E.2.1 1, 16, .inl f_becomesz_5)), (m_goneOf, .inl (E.2.1 1, 16, .inl f_goneOfz_6)), (m_heard, .inl (E.2.1 1, 64, .inl f_heard)), (m_pairs, .inl (E.2.1 1, 576, .inl f_pairs)), (m_heaps, .inl (E.2.1 1, 2400, .inl f_heaps)), (m_led, .inl (E.2.1 2, 192, .inr (.inl f_led))), (m_newAt, .inl (E.2.1 1, 24, .inl f_newAt)), (m_knowing, .inl (E.2.1 1, 4, .inl f_knowing)), (m_firsts, .inl (E.2.1 1, 4, .inl f_firsts)), (m_secrets, .inl (E.2.1 1, 4, .inl f_secrets)), (m_tried, .inl (E.2.1 1, 4, .inl f_tried)), (m_lanes, .inl (E.2.1 1, 4, .inl f_lanes)), (m_lengths, .inl (E.2.1 1, 4, .inl f_lengths)), (m_cells, .inl (E.2.1 1, 192, .inl f_cells))]) [22, 0, 1, 2, 3, 4, 5, 6, 26, 27, 25, 28, 29, 7, 8, 23, 9, 24, 30, 31, 10, 11, 12, 13, 14, 15, 16, 17, 18, 19, 20, 21] rfl rfl ?_
  exact kont rr  [(hm, .inr (12, [.ref m_manys, .ref m_reals, .ref m_factsOf, .ref m_possible, .int (nI q_undos), .int (nI q_models), .ref m_tape, .int (nI q_taped), .int q_fault, .int q_wrong, .int q_wrongAt, .int q_spot, .int q_place, .int (nI q_token), .int (nI q_value), .ref m_ends, .ref m_letters, .ref m_actOf, .ref m_whom, .ref m_actMany, .ref m_tokens, .ref m_afters, .ref m_afterOf, .int q_counted, .ref m_pile, .ref m_caseMany, .ref m_happen, .ref m_hasIf, .ref m_becomes, .ref m_goneOf, .ref m_heard, .ref m_pairs, .ref m_heaps, .int q_rounds, .int q_heapMany, .ref m_led, .ref m_newAt, .ref m_knowing, .ref m_firsts, .int (nI q_people), .ref m_secrets, .ref m_tried, .ref m_lanes, .ref m_lengths, .ref m_cells])), (m_manys, .inl (E.2.1 1, 18, .inl f_manys)), (m_reals, .inl (E.2.1 1, 18, .inl f_reals)), (m_factsOf, .inl (E.2.1 1, 432, .inl f_factsOf)), (m_possible, .inl (E.2.1 1, 1728, .inl f_possible)), (m_tape, .inl (E.2.1 1, 160, .inl f_tape)), (m_ends, .inl (E.2.1 1, 15, .inl f_ends)), (m_letters, .inl (E.2.1 1, 50, .inl f_letters)), (m_actOf, .inl (E.2.1 1, 800, .inl f_actOfz_3)), (m_whom, .inl (E.2.1 1, 800, .inl f_whomz_4)), (m_actMany, .inl (E.2.1 1, 25, .inl f_actManyz_2)), (m_tokens, .inl (E.2.1 1, 9, .inl f_tokens)), (m_afters, .inl (E.2.1 1, 9, .inl f_afters)), (m_afterOf, .inl (E.2.1 1, 18, .inl f_afterOf)), (m_pile, .inl (E.2.1 1, 34, .inl f_pile)), (m_caseMany, .inl (E.2.1 1, 4, .inl f_caseMany)), (m_happen, .inl (E.2.1 1, 4, .inl f_happen)), (m_hasIf, .inl (E.2.1 3, 16, .inl f_hasIfz_1)), (m_becomes, .inl (E.2.1 1, 16, .inl f_becomesz_5)), (m_goneOf, .inl (E.2.1 1, 16, .inl f_goneOfz_6)), (m_heard, .inl (E.2.1 1, 64, .inl f_heard)), (m_pairs, .inl (E.2.1 1, 576, .inl f_pairs)), (m_heaps, .inl (E.2.1 1, 2400, .inl f_heaps)), (m_led, .inl (E.2.1 2, 192, .inr (.inl f_led))), (m_newAt, .inl (E.2.1 1, 24, .inl f_newAt)), (m_knowing, .inl (E.2.1 1, 4, .inl f_knowing)), (m_firsts, .inl (E.2.1 1, 4, .inl f_firsts)), (m_secrets, .inl (E.2.1 1, 4, .inl f_secrets)), (m_tried, .inl (E.2.1 1, 4, .inl f_tried)), (m_lanes, .inl (E.2.1 1, 4, .inl f_lanes)), (m_lengths, .inl (E.2.1 1, 4, .inl f_lengths)), (m_cells, .inl (E.2.1 1, 192, .inl f_cells))] ⟨m_manys, m_reals, m_factsOf, m_possible, q_undos, q_models, m_tape, q_fault, q_wrong, q_wrongAt, q_spot, q_place, q_token, q_value, m_ends, m_letters, m_actOf, m_whom, m_actMany, m_tokens, m_afters, m_afterOf, q_counted, m_pile, m_caseMany, m_happen, m_hasIf, m_becomes, m_goneOf, m_heard, m_pairs, m_heaps, q_rounds, q_heapMany, m_led, m_newAt, m_knowing, m_firsts, m_secrets, m_tried, m_lanes, m_lengths, m_cells, f_manys, f_reals, f_factsOf, f_possible, f_tape, f_ends, f_letters, f_actOfz_3, f_whomz_4, f_actManyz_2, f_tokens, f_afters, f_afterOf, f_pile, f_caseMany, f_happen, f_hasIfz_1, f_becomesz_5, f_goneOfz_6, f_heard, f_pairs, f_heaps, f_led, f_newAt, f_knowing, f_firsts, f_tried, f_cells, rfl, hb_manys, hb_reals, hb_ends, h_7, hb_afters, hb_afterOf, hb_caseMany, hb_happen, hb_lengths, hpg, hhp, h_8, (by first | assumption | omega), (by first | assumption | omega), (by first | assumption | omega), (by first | assumption | omega), (by first | assumption | omega), (by first | assumption | omega)⟩ (trivial)
theorem wc_X12_hears : Cond.code yX12_hears cX12_hears 8 (some .int) ∈ TB := tbm (tq6 (List.mem_of_getElem? (i := 144) (rfl))) (by decide +kernel)
theorem wi_X12_hears : Cond.instanceMethod yX12_hears ∈ TB := tbm (tq6 (List.mem_of_getElem? (i := 142) (by decide +kernel))) (by decide +kernel)
theorem ws_X12_hears : Cond.selects RX12 yX12_hears yX12_hears ∈ TB := tbm (tq6 (List.mem_of_getElem? (i := 143) (by decide +kernel))) (by decide +kernel)
theorem mi_X12_hears : MI yX12_hears cX12_hears 8 (some .int) 5 := ⟨wc_X12_hears, wn_X12, ⟨by decide +kernel, by decide +kernel, by decide +kernel⟩, wi_X12_hears, ws_X12_hears⟩
theorem wl_L_85 : Cond.methodLink RL 85 yX12_hears ∈ TB := tbm (tq6 (List.mem_of_getElem? (i := 141) (by decide +kernel))) (by decide +kernel)
theorem dL_law_789 : decode cL_law 789 = .ok (.invokevirtual 85, 3) := by decide +kernel
set_option maxRecDepth 100000 in
set_option maxHeartbeats 4000000 in
theorem lm_hears {X : XT} {E : EV} {wT wm : va_W} {lv : List (Nat × Value)} {rest : List Value} {kC nC : Nat} {hm : Nat} {q_taped : Nat} {q_people : Nat} {f_secrets : Nat → Int32} {f_lanes : Nat → Int32} {f_lengths : Nat → Int32} {v0 : Int32} {v1 : Int32} {v2 : Int32} {v3 : Int32} {v4 : Int32} (C : CX X room_1 cL_law 4 RL ret E) (hW : Nat.ble (rest.map fun v => v.category).sum 8 = true) (hk : kC ≤ 600000 ∧ nC ≤ 7302250) (H_ref : ok_ref E [] hm q_taped q_people f_secrets f_lanes f_lengths wm) (kont : ∀ (rr : Int32) (wmZ : va_W), ok_ref E [] hm q_taped q_people f_secrets f_lanes f_lengths wmZ → (True) → WW X 4 E 792 lv (.int rr :: rest) (wmZ ++ wT) kC nC) : WW X 4 E 789 lv (.int v4 :: .int v3 :: .int v2 :: .int v1 :: .int v0 :: .ref hm :: rest) (wm ++ wT) kC nC := by
  unfold ok_ref at H_ref
  refine ex8 H_ref ?_
  clear H_ref
  intro m_manys m_reals m_factsOf m_possible q_undos q_models m_tape q_fault H_ref
  refine ex8 H_ref ?_
  clear H_ref
  intro q_wrong q_wrongAt q_spot q_place q_token q_value m_ends m_letters H_ref
  refine ex8 H_ref ?_
  clear H_ref
  intro m_actOf m_whom m_actMany m_tokens m_afters m_afterOf q_counted m_pile H_ref
  refine ex8 H_ref ?_
  clear H_ref
  intro m_caseMany m_happen m_hasIf m_becomes m_goneOf m_heard m_pairs m_heaps H_ref
  refine ex8 H_ref ?_
  clear H_ref
  intro q_rounds q_heapMany m_led m_newAt m_knowing m_firsts m_secrets m_tried H_ref
  refine ex8 H_ref ?_
  clear H_ref
  intro m_lanes m_lengths m_cells f_manys f_reals f_factsOf f_possible f_tape H_ref
  refine ex8 H_ref ?_
  clear H_ref
  intro f_ends f_letters f_actOf f_whom f_actMany f_tokens f_afters f_afterOf H_ref
  refine ex8 H_ref ?_
  clear H_ref
  intro f_pile f_caseMany f_happen f_hasIf f_becomes f_goneOf f_heard f_pairs H_ref
  refine ex7 H_ref ?_
  clear H_ref
  intro f_heaps f_led f_newAt f_knowing f_firsts f_tried f_cells H_ref
  refine an8 H_ref ?_
  clear H_ref
  intro we_ref hb_manys hb_reals hb_ends hb_actMany hb_afters hb_afterOf hb_caseMany H_ref
  refine an8 H_ref ?_
  clear H_ref
  intro hb_happen hb_lengths hpg hhp hsv hq_undos hq_models hq_taped H_ref
  refine an2 H_ref ?_
  clear H_ref
  intro hq_people hq_token H_ref
  have hq_value := H_ref
  clear H_ref
  subst we_ref
  refine ww_ciT (k' := kC) (n' := nC) (wr := [(m_manys, .inl (E.2.1 1, 18, .inl f_manys)), (m_reals, .inl (E.2.1 1, 18, .inl f_reals)), (m_factsOf, .inl (E.2.1 1, 432, .inl f_factsOf)), (m_possible, .inl (E.2.1 1, 1728, .inl f_possible)), (m_tape, .inl (E.2.1 1, 160, .inl f_tape)), (m_ends, .inl (E.2.1 1, 15, .inl f_ends)), (m_letters, .inl (E.2.1 1, 50, .inl f_letters)), (m_actOf, .inl (E.2.1 1, 800, .inl f_actOf)), (m_whom, .inl (E.2.1 1, 800, .inl f_whom)), (m_actMany, .inl (E.2.1 1, 25, .inl f_actMany)), (m_tokens, .inl (E.2.1 1, 9, .inl f_tokens)), (m_afters, .inl (E.2.1 1, 9, .inl f_afters)), (m_afterOf, .inl (E.2.1 1, 18, .inl f_afterOf)), (m_pile, .inl (E.2.1 1, 34, .inl f_pile)), (m_happen, .inl (E.2.1 1, 4, .inl f_happen)), (m_hasIf, .inl (E.2.1 3, 16, .inl f_hasIf)), (m_becomes, .inl (E.2.1 1, 16, .inl f_becomes)), (m_goneOf, .inl (E.2.1 1, 16, .inl f_goneOf)), (m_pairs, .inl (E.2.1 1, 576, .inl f_pairs)), (m_heaps, .inl (E.2.1 1, 2400, .inl f_heaps)), (m_led, .inl (E.2.1 2, 192, .inr (.inl f_led))), (m_newAt, .inl (E.2.1 1, 24, .inl f_newAt)), (m_knowing, .inl (E.2.1 1, 4, .inl f_knowing)), (m_firsts, .inl (E.2.1 1, 4, .inl f_firsts)), (m_secrets, .inl (E.2.1 1, 4, .inl f_secrets)), (m_tried, .inl (E.2.1 1, 4, .inl f_tried)), (m_lanes, .inl (E.2.1 1, 4, .inl f_lanes)), (m_lengths, .inl (E.2.1 1, 4, .inl f_lengths)), (m_cells, .inl (E.2.1 1, 192, .inl f_cells))]) C (run_V (As := [.int v0, .int v1, .int v2, .int v3, .int v4]) (rest := rest) C (y_hears X.2.1 E [] hm v0 v1 v2 v3 v4 m_manys m_reals m_factsOf m_possible q_undos q_models m_tape q_taped q_fault q_wrong q_wrongAt q_spot q_place (nI q_token) (nI q_value) m_ends m_letters m_actOf m_whom m_actMany m_tokens m_afters m_afterOf q_counted m_pile m_caseMany m_happen m_hasIf m_becomes m_goneOf m_heard m_pairs m_heaps q_rounds q_heapMany m_led m_newAt m_knowing m_firsts q_people m_secrets m_tried m_lanes m_lengths m_cells f_caseMany f_heard hb_caseMany) mi_X12_hears wl_L_85 rfl 0 12 rfl rfl rfl rfl hW dL_law_789) ro0 [0, 15, 20] [1, 2, 3, 4, 5, 6, 7, 8, 9, 10, 11, 12, 13, 14, 16, 17, 18, 19, 21, 22, 23, 24, 25, 26, 27, 28, 29, 30, 31] rfl rfl rfl ⟨by omega, by omega, hk.1, hk.2⟩ (fun rr u hw => ?_)
  refine ex1 hw ?_
  clear hw
  intro f_heardz_1 hw
  have he_u := hw
  clear hw
  subst he_u
  refine ww_subT (w1 := [(hm, .inr (12, [.ref m_manys, .ref m_reals, .ref m_factsOf, .ref m_possible, .int (nI q_undos), .int (nI q_models), .ref m_tape, .int (nI q_taped), .int q_fault, .int q_wrong, .int q_wrongAt, .int q_spot, .int q_place, .int (nI q_token), .int (nI q_value), .ref m_ends, .ref m_letters, .ref m_actOf, .ref m_whom, .ref m_actMany, .ref m_tokens, .ref m_afters, .ref m_afterOf, .int q_counted, .ref m_pile, .ref m_caseMany, .ref m_happen, .ref m_hasIf, .ref m_becomes, .ref m_goneOf, .ref m_heard, .ref m_pairs, .ref m_heaps, .int q_rounds, .int q_heapMany, .ref m_led, .ref m_newAt, .ref m_knowing, .ref m_firsts, .int (nI q_people), .ref m_secrets, .ref m_tried, .ref m_lanes, .ref m_lengths, .ref m_cells])), (m_manys, .inl (E.2.1 1, 18, .inl f_manys)), (m_reals, .inl (E.2.1 1, 18, .inl f_reals)), (m_factsOf, .inl (E.2.1 1, 432, .inl f_factsOf)), (m_possible, .inl (E.2.1 1, 1728, .inl f_possible)), (m_tape, .inl (E.2.1 1, 160, .inl f_tape)), (m_ends, .inl (E.2.1 1, 15, .inl f_ends)), (m_letters, .inl (E.2.1 1, 50, .inl f_letters)), (m_actOf, .inl (E.2.1 1, 800, .inl f_actOf)), (m_whom, .inl (E.2.1 1, 800, .inl f_whom)), (m_actMany, .inl (E.2.1 1, 25, .inl f_actMany)), (m_tokens, .inl (E.2.1 1, 9, .inl f_tokens)), (m_afters, .inl (E.2.1 1, 9, .inl f_afters)), (m_afterOf, .inl (E.2.1 1, 18, .inl f_afterOf)), (m_pile, .inl (E.2.1 1, 34, .inl f_pile)), (m_caseMany, .inl (E.2.1 1, 4, .inl f_caseMany)), (m_happen, .inl (E.2.1 1, 4, .inl f_happen)), (m_hasIf, .inl (E.2.1 3, 16, .inl f_hasIf)), (m_becomes, .inl (E.2.1 1, 16, .inl f_becomes)), (m_goneOf, .inl (E.2.1 1, 16, .inl f_goneOf)), (m_heard, .inl (E.2.1 1, 64, .inl f_heardz_1)), (m_pairs, .inl (E.2.1 1, 576, .inl f_pairs)), (m_heaps, .inl (E.2.1 1, 2400, .inl f_heaps)), (m_led, .inl (E.2.1 2, 192, .inr (.inl f_led))), (m_newAt, .inl (E.2.1 1, 24, .inl f_newAt)), (m_knowing, .inl (E.2.1 1, 4, .inl f_knowing)), (m_firsts, .inl (E.2.1 1, 4, .inl f_firsts)), (m_secrets, .inl (E.2.1 1, 4, .inl f_secrets)), (m_tried, .inl (E.2.1 1, 4, .inl f_tried)), (m_lanes, .inl (E.2.1 1, 4, .inl f_lanes)), (m_lengths, .inl (E.2.1 1, 4, .inl f_lengths)), (m_cells, .inl (E.2.1 1, 192, .inl f_cells))]) [29, 0, 1, 2, 3, 4, 5, 6, 7, 8, 9, 10, 11, 12, 13, 30, 14, 15, 16, 17, 31, 18, 19, 20, 21, 22, 23, 24, 25, 26, 27, 28] rfl rfl ?_
  exact kont rr  [(hm, .inr (12, [.ref m_manys, .ref m_reals, .ref m_factsOf, .ref m_possible, .int (nI q_undos), .int (nI q_models), .ref m_tape, .int (nI q_taped), .int q_fault, .int q_wrong, .int q_wrongAt, .int q_spot, .int q_place, .int (nI q_token), .int (nI q_value), .ref m_ends, .ref m_letters, .ref m_actOf, .ref m_whom, .ref m_actMany, .ref m_tokens, .ref m_afters, .ref m_afterOf, .int q_counted, .ref m_pile, .ref m_caseMany, .ref m_happen, .ref m_hasIf, .ref m_becomes, .ref m_goneOf, .ref m_heard, .ref m_pairs, .ref m_heaps, .int q_rounds, .int q_heapMany, .ref m_led, .ref m_newAt, .ref m_knowing, .ref m_firsts, .int (nI q_people), .ref m_secrets, .ref m_tried, .ref m_lanes, .ref m_lengths, .ref m_cells])), (m_manys, .inl (E.2.1 1, 18, .inl f_manys)), (m_reals, .inl (E.2.1 1, 18, .inl f_reals)), (m_factsOf, .inl (E.2.1 1, 432, .inl f_factsOf)), (m_possible, .inl (E.2.1 1, 1728, .inl f_possible)), (m_tape, .inl (E.2.1 1, 160, .inl f_tape)), (m_ends, .inl (E.2.1 1, 15, .inl f_ends)), (m_letters, .inl (E.2.1 1, 50, .inl f_letters)), (m_actOf, .inl (E.2.1 1, 800, .inl f_actOf)), (m_whom, .inl (E.2.1 1, 800, .inl f_whom)), (m_actMany, .inl (E.2.1 1, 25, .inl f_actMany)), (m_tokens, .inl (E.2.1 1, 9, .inl f_tokens)), (m_afters, .inl (E.2.1 1, 9, .inl f_afters)), (m_afterOf, .inl (E.2.1 1, 18, .inl f_afterOf)), (m_pile, .inl (E.2.1 1, 34, .inl f_pile)), (m_caseMany, .inl (E.2.1 1, 4, .inl f_caseMany)), (m_happen, .inl (E.2.1 1, 4, .inl f_happen)), (m_hasIf, .inl (E.2.1 3, 16, .inl f_hasIf)), (m_becomes, .inl (E.2.1 1, 16, .inl f_becomes)), (m_goneOf, .inl (E.2.1 1, 16, .inl f_goneOf)), (m_heard, .inl (E.2.1 1, 64, .inl f_heardz_1)), (m_pairs, .inl (E.2.1 1, 576, .inl f_pairs)), (m_heaps, .inl (E.2.1 1, 2400, .inl f_heaps)), (m_led, .inl (E.2.1 2, 192, .inr (.inl f_led))), (m_newAt, .inl (E.2.1 1, 24, .inl f_newAt)), (m_knowing, .inl (E.2.1 1, 4, .inl f_knowing)), (m_firsts, .inl (E.2.1 1, 4, .inl f_firsts)), (m_secrets, .inl (E.2.1 1, 4, .inl f_secrets)), (m_tried, .inl (E.2.1 1, 4, .inl f_tried)), (m_lanes, .inl (E.2.1 1, 4, .inl f_lanes)), (m_lengths, .inl (E.2.1 1, 4, .inl f_lengths)), (m_cells, .inl (E.2.1 1, 192, .inl f_cells))] ⟨m_manys, m_reals, m_factsOf, m_possible, q_undos, q_models, m_tape, q_fault, q_wrong, q_wrongAt, q_spot, q_place, q_token, q_value, m_ends, m_letters, m_actOf, m_whom, m_actMany, m_tokens, m_afters, m_afterOf, q_counted, m_pile, m_caseMany, m_happen, m_hasIf, m_becomes, m_goneOf, m_heard, m_pairs, m_heaps, q_rounds, q_heapMany, m_led, m_newAt, m_knowing, m_firsts, m_secrets, m_tried, m_lanes, m_lengths, m_cells, f_manys, f_reals, f_factsOf, f_possible, f_tape, f_ends, f_letters, f_actOf, f_whom, f_actMany, f_tokens, f_afters, f_afterOf, f_pile, f_caseMany, f_happen, f_hasIf, f_becomes, f_goneOf, f_heardz_1, f_pairs, f_heaps, f_led, f_newAt, f_knowing, f_firsts, f_tried, f_cells, rfl, hb_manys, hb_reals, hb_ends, hb_actMany, hb_afters, hb_afterOf, hb_caseMany, hb_happen, hb_lengths, hpg, hhp, hsv, (by first | assumption | omega), (by first | assumption | omega), (by first | assumption | omega), (by first | assumption | omega), (by first | assumption | omega), (by first | assumption | omega)⟩ (trivial)
theorem wc_X12_happens : Cond.code yX12_happens cX12_happens 4 (some .int) ∈ TB := tbm (tq6 (List.mem_of_getElem? (i := 148) (rfl))) (by decide +kernel)
theorem wi_X12_happens : Cond.instanceMethod yX12_happens ∈ TB := tbm (tq6 (List.mem_of_getElem? (i := 146) (by decide +kernel))) (by decide +kernel)
theorem ws_X12_happens : Cond.selects RX12 yX12_happens yX12_happens ∈ TB := tbm (tq6 (List.mem_of_getElem? (i := 147) (by decide +kernel))) (by decide +kernel)
theorem mi_X12_happens : MI yX12_happens cX12_happens 4 (some .int) 2 := ⟨wc_X12_happens, wn_X12, ⟨by decide +kernel, by decide +kernel, by decide +kernel⟩, wi_X12_happens, ws_X12_happens⟩
theorem wl_L_89 : Cond.methodLink RL 89 yX12_happens ∈ TB := tbm (tq6 (List.mem_of_getElem? (i := 145) (by decide +kernel))) (by decide +kernel)
theorem dL_law_822 : decode cL_law 822 = .ok (.invokevirtual 89, 3) := by decide +kernel
set_option maxRecDepth 100000 in
set_option maxHeartbeats 4000000 in
theorem lm_happens {X : XT} {E : EV} {wT wm : va_W} {lv : List (Nat × Value)} {rest : List Value} {kC nC : Nat} {hm : Nat} {q_taped : Nat} {q_people : Nat} {f_secrets : Nat → Int32} {f_lanes : Nat → Int32} {f_lengths : Nat → Int32} {v0 : Int32} {v1 : Int32} (C : CX X room_1 cL_law 4 RL ret E) (hW : Nat.ble (rest.map fun v => v.category).sum 8 = true) (hk : kC ≤ 600000 ∧ nC ≤ 7302250) (H_ref : ok_ref E [] hm q_taped q_people f_secrets f_lanes f_lengths wm) (kont : ∀ (rr : Int32) (wmZ : va_W), ok_ref E [] hm q_taped q_people f_secrets f_lanes f_lengths wmZ → (True) → WW X 4 E 825 lv (.int rr :: rest) (wmZ ++ wT) kC nC) : WW X 4 E 822 lv (.int v1 :: .int v0 :: .ref hm :: rest) (wm ++ wT) kC nC := by
  unfold ok_ref at H_ref
  refine ex8 H_ref ?_
  clear H_ref
  intro m_manys m_reals m_factsOf m_possible q_undos q_models m_tape q_fault H_ref
  refine ex8 H_ref ?_
  clear H_ref
  intro q_wrong q_wrongAt q_spot q_place q_token q_value m_ends m_letters H_ref
  refine ex8 H_ref ?_
  clear H_ref
  intro m_actOf m_whom m_actMany m_tokens m_afters m_afterOf q_counted m_pile H_ref
  refine ex8 H_ref ?_
  clear H_ref
  intro m_caseMany m_happen m_hasIf m_becomes m_goneOf m_heard m_pairs m_heaps H_ref
  refine ex8 H_ref ?_
  clear H_ref
  intro q_rounds q_heapMany m_led m_newAt m_knowing m_firsts m_secrets m_tried H_ref
  refine ex8 H_ref ?_
  clear H_ref
  intro m_lanes m_lengths m_cells f_manys f_reals f_factsOf f_possible f_tape H_ref
  refine ex8 H_ref ?_
  clear H_ref
  intro f_ends f_letters f_actOf f_whom f_actMany f_tokens f_afters f_afterOf H_ref
  refine ex8 H_ref ?_
  clear H_ref
  intro f_pile f_caseMany f_happen f_hasIf f_becomes f_goneOf f_heard f_pairs H_ref
  refine ex7 H_ref ?_
  clear H_ref
  intro f_heaps f_led f_newAt f_knowing f_firsts f_tried f_cells H_ref
  refine an8 H_ref ?_
  clear H_ref
  intro we_ref hb_manys hb_reals hb_ends hb_actMany hb_afters hb_afterOf hb_caseMany H_ref
  refine an8 H_ref ?_
  clear H_ref
  intro hb_happen hb_lengths hpg hhp hsv hq_undos hq_models hq_taped H_ref
  refine an2 H_ref ?_
  clear H_ref
  intro hq_people hq_token H_ref
  have hq_value := H_ref
  clear H_ref
  subst we_ref
  refine ww_ciT (k' := kC) (n' := nC) (wr := [(m_manys, .inl (E.2.1 1, 18, .inl f_manys)), (m_reals, .inl (E.2.1 1, 18, .inl f_reals)), (m_factsOf, .inl (E.2.1 1, 432, .inl f_factsOf)), (m_possible, .inl (E.2.1 1, 1728, .inl f_possible)), (m_tape, .inl (E.2.1 1, 160, .inl f_tape)), (m_ends, .inl (E.2.1 1, 15, .inl f_ends)), (m_letters, .inl (E.2.1 1, 50, .inl f_letters)), (m_actOf, .inl (E.2.1 1, 800, .inl f_actOf)), (m_whom, .inl (E.2.1 1, 800, .inl f_whom)), (m_actMany, .inl (E.2.1 1, 25, .inl f_actMany)), (m_tokens, .inl (E.2.1 1, 9, .inl f_tokens)), (m_afters, .inl (E.2.1 1, 9, .inl f_afters)), (m_afterOf, .inl (E.2.1 1, 18, .inl f_afterOf)), (m_pile, .inl (E.2.1 1, 34, .inl f_pile)), (m_hasIf, .inl (E.2.1 3, 16, .inl f_hasIf)), (m_becomes, .inl (E.2.1 1, 16, .inl f_becomes)), (m_goneOf, .inl (E.2.1 1, 16, .inl f_goneOf)), (m_heard, .inl (E.2.1 1, 64, .inl f_heard)), (m_pairs, .inl (E.2.1 1, 576, .inl f_pairs)), (m_heaps, .inl (E.2.1 1, 2400, .inl f_heaps)), (m_led, .inl (E.2.1 2, 192, .inr (.inl f_led))), (m_newAt, .inl (E.2.1 1, 24, .inl f_newAt)), (m_knowing, .inl (E.2.1 1, 4, .inl f_knowing)), (m_firsts, .inl (E.2.1 1, 4, .inl f_firsts)), (m_secrets, .inl (E.2.1 1, 4, .inl f_secrets)), (m_tried, .inl (E.2.1 1, 4, .inl f_tried)), (m_lanes, .inl (E.2.1 1, 4, .inl f_lanes)), (m_lengths, .inl (E.2.1 1, 4, .inl f_lengths)), (m_cells, .inl (E.2.1 1, 192, .inl f_cells))]) C (run_V (As := [.int v0, .int v1]) (rest := rest) C (y_happens X.2.1 E [] hm v0 v1 m_manys m_reals m_factsOf m_possible q_undos q_models m_tape q_taped q_fault q_wrong q_wrongAt q_spot q_place (nI q_token) (nI q_value) m_ends m_letters m_actOf m_whom m_actMany m_tokens m_afters m_afterOf q_counted m_pile m_caseMany m_happen m_hasIf m_becomes m_goneOf m_heard m_pairs m_heaps q_rounds q_heapMany m_led m_newAt m_knowing m_firsts q_people m_secrets m_tried m_lanes m_lengths m_cells f_caseMany f_happen hb_caseMany hb_happen hhp) mi_X12_happens wl_L_89 rfl 0 12 rfl rfl rfl rfl hW dL_law_822) ro0 [0, 15, 16] [1, 2, 3, 4, 5, 6, 7, 8, 9, 10, 11, 12, 13, 14, 17, 18, 19, 20, 21, 22, 23, 24, 25, 26, 27, 28, 29, 30, 31] rfl rfl rfl ⟨by omega, by omega, hk.1, hk.2⟩ (fun rr u hw => ?_)
  refine ex1 hw ?_
  clear hw
  intro f_happenz_1 hw
  refine an2 hw ?_
  clear hw
  intro he_u h_2 hw
  have h_3 := hw
  clear hw
  subst he_u
  refine ww_subT (w1 := [(hm, .inr (12, [.ref m_manys, .ref m_reals, .ref m_factsOf, .ref m_possible, .int (nI q_undos), .int (nI q_models), .ref m_tape, .int (nI q_taped), .int q_fault, .int q_wrong, .int q_wrongAt, .int q_spot, .int q_place, .int (nI q_token), .int (nI q_value), .ref m_ends, .ref m_letters, .ref m_actOf, .ref m_whom, .ref m_actMany, .ref m_tokens, .ref m_afters, .ref m_afterOf, .int q_counted, .ref m_pile, .ref m_caseMany, .ref m_happen, .ref m_hasIf, .ref m_becomes, .ref m_goneOf, .ref m_heard, .ref m_pairs, .ref m_heaps, .int q_rounds, .int q_heapMany, .ref m_led, .ref m_newAt, .ref m_knowing, .ref m_firsts, .int (nI q_people), .ref m_secrets, .ref m_tried, .ref m_lanes, .ref m_lengths, .ref m_cells])), (m_manys, .inl (E.2.1 1, 18, .inl f_manys)), (m_reals, .inl (E.2.1 1, 18, .inl f_reals)), (m_factsOf, .inl (E.2.1 1, 432, .inl f_factsOf)), (m_possible, .inl (E.2.1 1, 1728, .inl f_possible)), (m_tape, .inl (E.2.1 1, 160, .inl f_tape)), (m_ends, .inl (E.2.1 1, 15, .inl f_ends)), (m_letters, .inl (E.2.1 1, 50, .inl f_letters)), (m_actOf, .inl (E.2.1 1, 800, .inl f_actOf)), (m_whom, .inl (E.2.1 1, 800, .inl f_whom)), (m_actMany, .inl (E.2.1 1, 25, .inl f_actMany)), (m_tokens, .inl (E.2.1 1, 9, .inl f_tokens)), (m_afters, .inl (E.2.1 1, 9, .inl f_afters)), (m_afterOf, .inl (E.2.1 1, 18, .inl f_afterOf)), (m_pile, .inl (E.2.1 1, 34, .inl f_pile)), (m_caseMany, .inl (E.2.1 1, 4, .inl f_caseMany)), (m_happen, .inl (E.2.1 1, 4, .inl f_happenz_1)), (m_hasIf, .inl (E.2.1 3, 16, .inl f_hasIf)), (m_becomes, .inl (E.2.1 1, 16, .inl f_becomes)), (m_goneOf, .inl (E.2.1 1, 16, .inl f_goneOf)), (m_heard, .inl (E.2.1 1, 64, .inl f_heard)), (m_pairs, .inl (E.2.1 1, 576, .inl f_pairs)), (m_heaps, .inl (E.2.1 1, 2400, .inl f_heaps)), (m_led, .inl (E.2.1 2, 192, .inr (.inl f_led))), (m_newAt, .inl (E.2.1 1, 24, .inl f_newAt)), (m_knowing, .inl (E.2.1 1, 4, .inl f_knowing)), (m_firsts, .inl (E.2.1 1, 4, .inl f_firsts)), (m_secrets, .inl (E.2.1 1, 4, .inl f_secrets)), (m_tried, .inl (E.2.1 1, 4, .inl f_tried)), (m_lanes, .inl (E.2.1 1, 4, .inl f_lanes)), (m_lengths, .inl (E.2.1 1, 4, .inl f_lengths)), (m_cells, .inl (E.2.1 1, 192, .inl f_cells))]) [29, 0, 1, 2, 3, 4, 5, 6, 7, 8, 9, 10, 11, 12, 13, 30, 31, 14, 15, 16, 17, 18, 19, 20, 21, 22, 23, 24, 25, 26, 27, 28] rfl rfl ?_
  exact kont rr  [(hm, .inr (12, [.ref m_manys, .ref m_reals, .ref m_factsOf, .ref m_possible, .int (nI q_undos), .int (nI q_models), .ref m_tape, .int (nI q_taped), .int q_fault, .int q_wrong, .int q_wrongAt, .int q_spot, .int q_place, .int (nI q_token), .int (nI q_value), .ref m_ends, .ref m_letters, .ref m_actOf, .ref m_whom, .ref m_actMany, .ref m_tokens, .ref m_afters, .ref m_afterOf, .int q_counted, .ref m_pile, .ref m_caseMany, .ref m_happen, .ref m_hasIf, .ref m_becomes, .ref m_goneOf, .ref m_heard, .ref m_pairs, .ref m_heaps, .int q_rounds, .int q_heapMany, .ref m_led, .ref m_newAt, .ref m_knowing, .ref m_firsts, .int (nI q_people), .ref m_secrets, .ref m_tried, .ref m_lanes, .ref m_lengths, .ref m_cells])), (m_manys, .inl (E.2.1 1, 18, .inl f_manys)), (m_reals, .inl (E.2.1 1, 18, .inl f_reals)), (m_factsOf, .inl (E.2.1 1, 432, .inl f_factsOf)), (m_possible, .inl (E.2.1 1, 1728, .inl f_possible)), (m_tape, .inl (E.2.1 1, 160, .inl f_tape)), (m_ends, .inl (E.2.1 1, 15, .inl f_ends)), (m_letters, .inl (E.2.1 1, 50, .inl f_letters)), (m_actOf, .inl (E.2.1 1, 800, .inl f_actOf)), (m_whom, .inl (E.2.1 1, 800, .inl f_whom)), (m_actMany, .inl (E.2.1 1, 25, .inl f_actMany)), (m_tokens, .inl (E.2.1 1, 9, .inl f_tokens)), (m_afters, .inl (E.2.1 1, 9, .inl f_afters)), (m_afterOf, .inl (E.2.1 1, 18, .inl f_afterOf)), (m_pile, .inl (E.2.1 1, 34, .inl f_pile)), (m_caseMany, .inl (E.2.1 1, 4, .inl f_caseMany)), (m_happen, .inl (E.2.1 1, 4, .inl f_happenz_1)), (m_hasIf, .inl (E.2.1 3, 16, .inl f_hasIf)), (m_becomes, .inl (E.2.1 1, 16, .inl f_becomes)), (m_goneOf, .inl (E.2.1 1, 16, .inl f_goneOf)), (m_heard, .inl (E.2.1 1, 64, .inl f_heard)), (m_pairs, .inl (E.2.1 1, 576, .inl f_pairs)), (m_heaps, .inl (E.2.1 1, 2400, .inl f_heaps)), (m_led, .inl (E.2.1 2, 192, .inr (.inl f_led))), (m_newAt, .inl (E.2.1 1, 24, .inl f_newAt)), (m_knowing, .inl (E.2.1 1, 4, .inl f_knowing)), (m_firsts, .inl (E.2.1 1, 4, .inl f_firsts)), (m_secrets, .inl (E.2.1 1, 4, .inl f_secrets)), (m_tried, .inl (E.2.1 1, 4, .inl f_tried)), (m_lanes, .inl (E.2.1 1, 4, .inl f_lanes)), (m_lengths, .inl (E.2.1 1, 4, .inl f_lengths)), (m_cells, .inl (E.2.1 1, 192, .inl f_cells))] ⟨m_manys, m_reals, m_factsOf, m_possible, q_undos, q_models, m_tape, q_fault, q_wrong, q_wrongAt, q_spot, q_place, q_token, q_value, m_ends, m_letters, m_actOf, m_whom, m_actMany, m_tokens, m_afters, m_afterOf, q_counted, m_pile, m_caseMany, m_happen, m_hasIf, m_becomes, m_goneOf, m_heard, m_pairs, m_heaps, q_rounds, q_heapMany, m_led, m_newAt, m_knowing, m_firsts, m_secrets, m_tried, m_lanes, m_lengths, m_cells, f_manys, f_reals, f_factsOf, f_possible, f_tape, f_ends, f_letters, f_actOf, f_whom, f_actMany, f_tokens, f_afters, f_afterOf, f_pile, f_caseMany, f_happenz_1, f_hasIf, f_becomes, f_goneOf, f_heard, f_pairs, f_heaps, f_led, f_newAt, f_knowing, f_firsts, f_tried, f_cells, rfl, hb_manys, hb_reals, hb_ends, hb_actMany, hb_afters, hb_afterOf, hb_caseMany, h_2, hb_lengths, hpg, h_3, hsv, (by first | assumption | omega), (by first | assumption | omega), (by first | assumption | omega), (by first | assumption | omega), (by first | assumption | omega), (by first | assumption | omega)⟩ (trivial)
theorem wc_X12_word : Cond.code yX12_word cX12_word 7 (some .int) ∈ TB := tbm (tq6 (List.mem_of_getElem? (i := 152) (rfl))) (by decide +kernel)
theorem wi_X12_word : Cond.instanceMethod yX12_word ∈ TB := tbm (tq6 (List.mem_of_getElem? (i := 150) (by decide +kernel))) (by decide +kernel)
theorem ws_X12_word : Cond.selects RX12 yX12_word yX12_word ∈ TB := tbm (tq6 (List.mem_of_getElem? (i := 151) (by decide +kernel))) (by decide +kernel)
theorem mi_X12_word : MI yX12_word cX12_word 7 (some .int) 4 := ⟨wc_X12_word, wn_X12, ⟨by decide +kernel, by decide +kernel, by decide +kernel⟩, wi_X12_word, ws_X12_word⟩
theorem wl_L_94 : Cond.methodLink RL 94 yX12_word ∈ TB := tbm (tq6 (List.mem_of_getElem? (i := 149) (by decide +kernel))) (by decide +kernel)
theorem dL_law_875 : decode cL_law 875 = .ok (.invokevirtual 94, 3) := by decide +kernel
set_option maxRecDepth 100000 in
set_option maxHeartbeats 4000000 in
theorem lm_word {X : XT} {E : EV} {wT wm : va_W} {lv : List (Nat × Value)} {rest : List Value} {kC nC : Nat} {hm : Nat} {q_taped : Nat} {q_people : Nat} {f_secrets : Nat → Int32} {f_lanes : Nat → Int32} {f_lengths : Nat → Int32} {v0 : Int32} {v1 : Int32} {v2 : Int32} {v3 : Int32} (C : CX X room_1 cL_law 4 RL ret E) (hW : Nat.ble (rest.map fun v => v.category).sum 8 = true) (hk : kC ≤ 600000 ∧ nC ≤ 7302250) (H_ref : ok_ref E [] hm q_taped q_people f_secrets f_lanes f_lengths wm) (kont : ∀ (rr : Int32) (wmZ : va_W), ok_ref E [] hm q_taped q_people f_secrets f_lanes f_lengths wmZ → (True) → WW X 4 E 878 lv (.int rr :: rest) (wmZ ++ wT) kC nC) : WW X 4 E 875 lv (.int v3 :: .int v2 :: .int v1 :: .int v0 :: .ref hm :: rest) (wm ++ wT) kC nC := by
  unfold ok_ref at H_ref
  refine ex8 H_ref ?_
  clear H_ref
  intro m_manys m_reals m_factsOf m_possible q_undos q_models m_tape q_fault H_ref
  refine ex8 H_ref ?_
  clear H_ref
  intro q_wrong q_wrongAt q_spot q_place q_token q_value m_ends m_letters H_ref
  refine ex8 H_ref ?_
  clear H_ref
  intro m_actOf m_whom m_actMany m_tokens m_afters m_afterOf q_counted m_pile H_ref
  refine ex8 H_ref ?_
  clear H_ref
  intro m_caseMany m_happen m_hasIf m_becomes m_goneOf m_heard m_pairs m_heaps H_ref
  refine ex8 H_ref ?_
  clear H_ref
  intro q_rounds q_heapMany m_led m_newAt m_knowing m_firsts m_secrets m_tried H_ref
  refine ex8 H_ref ?_
  clear H_ref
  intro m_lanes m_lengths m_cells f_manys f_reals f_factsOf f_possible f_tape H_ref
  refine ex8 H_ref ?_
  clear H_ref
  intro f_ends f_letters f_actOf f_whom f_actMany f_tokens f_afters f_afterOf H_ref
  refine ex8 H_ref ?_
  clear H_ref
  intro f_pile f_caseMany f_happen f_hasIf f_becomes f_goneOf f_heard f_pairs H_ref
  refine ex7 H_ref ?_
  clear H_ref
  intro f_heaps f_led f_newAt f_knowing f_firsts f_tried f_cells H_ref
  refine an8 H_ref ?_
  clear H_ref
  intro we_ref hb_manys hb_reals hb_ends hb_actMany hb_afters hb_afterOf hb_caseMany H_ref
  refine an8 H_ref ?_
  clear H_ref
  intro hb_happen hb_lengths hpg hhp hsv hq_undos hq_models hq_taped H_ref
  refine an2 H_ref ?_
  clear H_ref
  intro hq_people hq_token H_ref
  have hq_value := H_ref
  clear H_ref
  subst we_ref
  refine ww_ciT (k' := kC) (n' := nC) (wr := [(m_manys, .inl (E.2.1 1, 18, .inl f_manys)), (m_reals, .inl (E.2.1 1, 18, .inl f_reals)), (m_factsOf, .inl (E.2.1 1, 432, .inl f_factsOf)), (m_possible, .inl (E.2.1 1, 1728, .inl f_possible)), (m_tape, .inl (E.2.1 1, 160, .inl f_tape)), (m_ends, .inl (E.2.1 1, 15, .inl f_ends)), (m_letters, .inl (E.2.1 1, 50, .inl f_letters)), (m_afterOf, .inl (E.2.1 1, 18, .inl f_afterOf)), (m_pile, .inl (E.2.1 1, 34, .inl f_pile)), (m_pairs, .inl (E.2.1 1, 576, .inl f_pairs)), (m_heaps, .inl (E.2.1 1, 2400, .inl f_heaps)), (m_led, .inl (E.2.1 2, 192, .inr (.inl f_led))), (m_newAt, .inl (E.2.1 1, 24, .inl f_newAt)), (m_knowing, .inl (E.2.1 1, 4, .inl f_knowing)), (m_firsts, .inl (E.2.1 1, 4, .inl f_firsts)), (m_secrets, .inl (E.2.1 1, 4, .inl f_secrets)), (m_tried, .inl (E.2.1 1, 4, .inl f_tried)), (m_lanes, .inl (E.2.1 1, 4, .inl f_lanes)), (m_lengths, .inl (E.2.1 1, 4, .inl f_lengths)), (m_cells, .inl (E.2.1 1, 192, .inl f_cells))]) C (run_V (As := [.int v0, .int v1, .int v2, .int v3]) (rest := rest) C (y_word X.2.1 E [] hm v0 v1 v2 v3 m_manys m_reals m_factsOf m_possible q_undos q_models m_tape q_taped q_fault q_wrong q_wrongAt q_spot q_place (nI q_token) (nI q_value) m_ends m_letters m_actOf m_whom m_actMany m_tokens m_afters m_afterOf q_counted m_pile m_caseMany m_happen m_hasIf m_becomes m_goneOf m_heard m_pairs m_heaps q_rounds q_heapMany m_led m_newAt m_knowing m_firsts q_people m_secrets m_tried m_lanes m_lengths m_cells f_caseMany f_happen f_hasIf f_becomes f_goneOf f_heard f_actMany f_actOf f_whom f_tokens f_afters hb_caseMany hb_happen hhp hb_actMany hsv hb_afters) mi_X12_word wl_L_94 rfl 0 12 rfl rfl rfl rfl hW dL_law_875) ro0 [0, 15, 16, 17, 18, 19, 20, 10, 8, 9, 11, 12] [1, 2, 3, 4, 5, 6, 7, 13, 14, 21, 22, 23, 24, 25, 26, 27, 28, 29, 30, 31] rfl rfl rfl ⟨by omega, by omega, hk.1, hk.2⟩ (fun rr u hw => ?_)
  refine ex8 hw ?_
  clear hw
  intro f_caseManyz_1 f_happenz_2 f_hasIfz_3 f_becomesz_4 f_goneOfz_5 f_heardz_6 f_actManyz_7 f_actOfz_8 hw
  refine ex1 hw ?_
  clear hw
  intro f_whomz_9 hw
  refine an5 hw ?_
  clear hw
  intro he_u h_10 h_11 h_12 h_13 hw
  have h_14 := hw
  clear hw
  subst he_u
  refine ww_subT (w1 := [(hm, .inr (12, [.ref m_manys, .ref m_reals, .ref m_factsOf, .ref m_possible, .int (nI q_undos), .int (nI q_models), .ref m_tape, .int (nI q_taped), .int q_fault, .int q_wrong, .int q_wrongAt, .int q_spot, .int q_place, .int (nI q_token), .int (nI q_value), .ref m_ends, .ref m_letters, .ref m_actOf, .ref m_whom, .ref m_actMany, .ref m_tokens, .ref m_afters, .ref m_afterOf, .int q_counted, .ref m_pile, .ref m_caseMany, .ref m_happen, .ref m_hasIf, .ref m_becomes, .ref m_goneOf, .ref m_heard, .ref m_pairs, .ref m_heaps, .int q_rounds, .int q_heapMany, .ref m_led, .ref m_newAt, .ref m_knowing, .ref m_firsts, .int (nI q_people), .ref m_secrets, .ref m_tried, .ref m_lanes, .ref m_lengths, .ref m_cells])), (m_manys, .inl (E.2.1 1, 18, .inl f_manys)), (m_reals, .inl (E.2.1 1, 18, .inl f_reals)), (m_factsOf, .inl (E.2.1 1, 432, .inl f_factsOf)), (m_possible, .inl (E.2.1 1, 1728, .inl f_possible)), (m_tape, .inl (E.2.1 1, 160, .inl f_tape)), (m_ends, .inl (E.2.1 1, 15, .inl f_ends)), (m_letters, .inl (E.2.1 1, 50, .inl f_letters)), (m_actOf, .inl (E.2.1 1, 800, .inl f_actOfz_8)), (m_whom, .inl (E.2.1 1, 800, .inl f_whomz_9)), (m_actMany, .inl (E.2.1 1, 25, .inl f_actManyz_7)), (m_tokens, .inl (E.2.1 1, 9, .inl f_tokens)), (m_afters, .inl (E.2.1 1, 9, .inl f_afters)), (m_afterOf, .inl (E.2.1 1, 18, .inl f_afterOf)), (m_pile, .inl (E.2.1 1, 34, .inl f_pile)), (m_caseMany, .inl (E.2.1 1, 4, .inl f_caseManyz_1)), (m_happen, .inl (E.2.1 1, 4, .inl f_happenz_2)), (m_hasIf, .inl (E.2.1 3, 16, .inl f_hasIfz_3)), (m_becomes, .inl (E.2.1 1, 16, .inl f_becomesz_4)), (m_goneOf, .inl (E.2.1 1, 16, .inl f_goneOfz_5)), (m_heard, .inl (E.2.1 1, 64, .inl f_heardz_6)), (m_pairs, .inl (E.2.1 1, 576, .inl f_pairs)), (m_heaps, .inl (E.2.1 1, 2400, .inl f_heaps)), (m_led, .inl (E.2.1 2, 192, .inr (.inl f_led))), (m_newAt, .inl (E.2.1 1, 24, .inl f_newAt)), (m_knowing, .inl (E.2.1 1, 4, .inl f_knowing)), (m_firsts, .inl (E.2.1 1, 4, .inl f_firsts)), (m_secrets, .inl (E.2.1 1, 4, .inl f_secrets)), (m_tried, .inl (E.2.1 1, 4, .inl f_tried)), (m_lanes, .inl (E.2.1 1, 4, .inl f_lanes)), (m_lengths, .inl (E.2.1 1, 4, .inl f_lengths)), (m_cells, .inl (E.2.1 1, 192, .inl f_cells))]) [20, 0, 1, 2, 3, 4, 5, 6, 28, 29, 27, 30, 31, 7, 8, 21, 22, 23, 24, 25, 26, 9, 10, 11, 12, 13, 14, 15, 16, 17, 18, 19] rfl rfl ?_
  exact kont rr  [(hm, .inr (12, [.ref m_manys, .ref m_reals, .ref m_factsOf, .ref m_possible, .int (nI q_undos), .int (nI q_models), .ref m_tape, .int (nI q_taped), .int q_fault, .int q_wrong, .int q_wrongAt, .int q_spot, .int q_place, .int (nI q_token), .int (nI q_value), .ref m_ends, .ref m_letters, .ref m_actOf, .ref m_whom, .ref m_actMany, .ref m_tokens, .ref m_afters, .ref m_afterOf, .int q_counted, .ref m_pile, .ref m_caseMany, .ref m_happen, .ref m_hasIf, .ref m_becomes, .ref m_goneOf, .ref m_heard, .ref m_pairs, .ref m_heaps, .int q_rounds, .int q_heapMany, .ref m_led, .ref m_newAt, .ref m_knowing, .ref m_firsts, .int (nI q_people), .ref m_secrets, .ref m_tried, .ref m_lanes, .ref m_lengths, .ref m_cells])), (m_manys, .inl (E.2.1 1, 18, .inl f_manys)), (m_reals, .inl (E.2.1 1, 18, .inl f_reals)), (m_factsOf, .inl (E.2.1 1, 432, .inl f_factsOf)), (m_possible, .inl (E.2.1 1, 1728, .inl f_possible)), (m_tape, .inl (E.2.1 1, 160, .inl f_tape)), (m_ends, .inl (E.2.1 1, 15, .inl f_ends)), (m_letters, .inl (E.2.1 1, 50, .inl f_letters)), (m_actOf, .inl (E.2.1 1, 800, .inl f_actOfz_8)), (m_whom, .inl (E.2.1 1, 800, .inl f_whomz_9)), (m_actMany, .inl (E.2.1 1, 25, .inl f_actManyz_7)), (m_tokens, .inl (E.2.1 1, 9, .inl f_tokens)), (m_afters, .inl (E.2.1 1, 9, .inl f_afters)), (m_afterOf, .inl (E.2.1 1, 18, .inl f_afterOf)), (m_pile, .inl (E.2.1 1, 34, .inl f_pile)), (m_caseMany, .inl (E.2.1 1, 4, .inl f_caseManyz_1)), (m_happen, .inl (E.2.1 1, 4, .inl f_happenz_2)), (m_hasIf, .inl (E.2.1 3, 16, .inl f_hasIfz_3)), (m_becomes, .inl (E.2.1 1, 16, .inl f_becomesz_4)), (m_goneOf, .inl (E.2.1 1, 16, .inl f_goneOfz_5)), (m_heard, .inl (E.2.1 1, 64, .inl f_heardz_6)), (m_pairs, .inl (E.2.1 1, 576, .inl f_pairs)), (m_heaps, .inl (E.2.1 1, 2400, .inl f_heaps)), (m_led, .inl (E.2.1 2, 192, .inr (.inl f_led))), (m_newAt, .inl (E.2.1 1, 24, .inl f_newAt)), (m_knowing, .inl (E.2.1 1, 4, .inl f_knowing)), (m_firsts, .inl (E.2.1 1, 4, .inl f_firsts)), (m_secrets, .inl (E.2.1 1, 4, .inl f_secrets)), (m_tried, .inl (E.2.1 1, 4, .inl f_tried)), (m_lanes, .inl (E.2.1 1, 4, .inl f_lanes)), (m_lengths, .inl (E.2.1 1, 4, .inl f_lengths)), (m_cells, .inl (E.2.1 1, 192, .inl f_cells))] ⟨m_manys, m_reals, m_factsOf, m_possible, q_undos, q_models, m_tape, q_fault, q_wrong, q_wrongAt, q_spot, q_place, q_token, q_value, m_ends, m_letters, m_actOf, m_whom, m_actMany, m_tokens, m_afters, m_afterOf, q_counted, m_pile, m_caseMany, m_happen, m_hasIf, m_becomes, m_goneOf, m_heard, m_pairs, m_heaps, q_rounds, q_heapMany, m_led, m_newAt, m_knowing, m_firsts, m_secrets, m_tried, m_lanes, m_lengths, m_cells, f_manys, f_reals, f_factsOf, f_possible, f_tape, f_ends, f_letters, f_actOfz_8, f_whomz_9, f_actManyz_7, f_tokens, f_afters, f_afterOf, f_pile, f_caseManyz_1, f_happenz_2, f_hasIfz_3, f_becomesz_4, f_goneOfz_5, f_heardz_6, f_pairs, f_heaps, f_led, f_newAt, f_knowing, f_firsts, f_tried, f_cells, rfl, hb_manys, hb_reals, hb_ends, h_13, hb_afters, hb_afterOf, h_10, h_11, hb_lengths, hpg, h_12, h_14, (by first | assumption | omega), (by first | assumption | omega), (by first | assumption | omega), (by first | assumption | omega), (by first | assumption | omega), (by first | assumption | omega)⟩ (trivial)
theorem wc_X12_lay : Cond.code yX12_lay cX12_lay 2 (some .int) ∈ TB := tbm (tq6 (List.mem_of_getElem? (i := 200) (rfl))) (by decide +kernel)
theorem wi_X12_lay : Cond.instanceMethod yX12_lay ∈ TB := tbm (tq6 (List.mem_of_getElem? (i := 198) (by decide +kernel))) (by decide +kernel)
theorem ws_X12_lay : Cond.selects RX12 yX12_lay yX12_lay ∈ TB := tbm (tq6 (List.mem_of_getElem? (i := 199) (by decide +kernel))) (by decide +kernel)
theorem mi_X12_lay : MI yX12_lay cX12_lay 2 (some .int) 1 := ⟨wc_X12_lay, wn_X12, ⟨by decide +kernel, by decide +kernel, by decide +kernel⟩, wi_X12_lay, ws_X12_lay⟩
theorem wl_L_98 : Cond.methodLink RL 98 yX12_lay ∈ TB := tbm (tq6 (List.mem_of_getElem? (i := 197) (by decide +kernel))) (by decide +kernel)
theorem dL_law_898 : decode cL_law 898 = .ok (.invokevirtual 98, 3) := by decide +kernel
set_option maxRecDepth 100000 in
set_option maxHeartbeats 4000000 in
theorem lm_lay {X : XT} {E : EV} {wT wm : va_W} {lv : List (Nat × Value)} {rest : List Value} {kC nC : Nat} {hm : Nat} {q_taped : Nat} {q_people : Nat} {f_secrets : Nat → Int32} {f_lanes : Nat → Int32} {f_lengths : Nat → Int32} {v0 : Int32} (C : CX X room_1 cL_law 4 RL ret E) (hW : Nat.ble (rest.map fun v => v.category).sum 8 = true) (hk : kC ≤ 600000 ∧ nC ≤ 7302250) (H_ref : ok_ref E [] hm q_taped q_people f_secrets f_lanes f_lengths wm) (kont : ∀ (rr : Int32) (wmZ : va_W), ok_ref E [] hm q_taped q_people f_secrets f_lanes f_lengths wmZ → (True) → WW X 4 E 901 lv (.int rr :: rest) (wmZ ++ wT) kC nC) : WW X 4 E 898 lv (.int v0 :: .ref hm :: rest) (wm ++ wT) kC nC := by
  unfold ok_ref at H_ref
  refine ex8 H_ref ?_
  clear H_ref
  intro m_manys m_reals m_factsOf m_possible q_undos q_models m_tape q_fault H_ref
  refine ex8 H_ref ?_
  clear H_ref
  intro q_wrong q_wrongAt q_spot q_place q_token q_value m_ends m_letters H_ref
  refine ex8 H_ref ?_
  clear H_ref
  intro m_actOf m_whom m_actMany m_tokens m_afters m_afterOf q_counted m_pile H_ref
  refine ex8 H_ref ?_
  clear H_ref
  intro m_caseMany m_happen m_hasIf m_becomes m_goneOf m_heard m_pairs m_heaps H_ref
  refine ex8 H_ref ?_
  clear H_ref
  intro q_rounds q_heapMany m_led m_newAt m_knowing m_firsts m_secrets m_tried H_ref
  refine ex8 H_ref ?_
  clear H_ref
  intro m_lanes m_lengths m_cells f_manys f_reals f_factsOf f_possible f_tape H_ref
  refine ex8 H_ref ?_
  clear H_ref
  intro f_ends f_letters f_actOf f_whom f_actMany f_tokens f_afters f_afterOf H_ref
  refine ex8 H_ref ?_
  clear H_ref
  intro f_pile f_caseMany f_happen f_hasIf f_becomes f_goneOf f_heard f_pairs H_ref
  refine ex7 H_ref ?_
  clear H_ref
  intro f_heaps f_led f_newAt f_knowing f_firsts f_tried f_cells H_ref
  refine an8 H_ref ?_
  clear H_ref
  intro we_ref hb_manys hb_reals hb_ends hb_actMany hb_afters hb_afterOf hb_caseMany H_ref
  refine an8 H_ref ?_
  clear H_ref
  intro hb_happen hb_lengths hpg hhp hsv hq_undos hq_models hq_taped H_ref
  refine an2 H_ref ?_
  clear H_ref
  intro hq_people hq_token H_ref
  have hq_value := H_ref
  clear H_ref
  subst we_ref
  refine ww_ciT (k' := kC) (n' := nC) (wr := [(m_tape, .inl (E.2.1 1, 160, .inl f_tape)), (m_ends, .inl (E.2.1 1, 15, .inl f_ends)), (m_letters, .inl (E.2.1 1, 50, .inl f_letters)), (m_tokens, .inl (E.2.1 1, 9, .inl f_tokens)), (m_afters, .inl (E.2.1 1, 9, .inl f_afters)), (m_afterOf, .inl (E.2.1 1, 18, .inl f_afterOf)), (m_heaps, .inl (E.2.1 1, 2400, .inl f_heaps)), (m_led, .inl (E.2.1 2, 192, .inr (.inl f_led))), (m_newAt, .inl (E.2.1 1, 24, .inl f_newAt)), (m_knowing, .inl (E.2.1 1, 4, .inl f_knowing)), (m_firsts, .inl (E.2.1 1, 4, .inl f_firsts)), (m_secrets, .inl (E.2.1 1, 4, .inl f_secrets)), (m_tried, .inl (E.2.1 1, 4, .inl f_tried)), (m_lanes, .inl (E.2.1 1, 4, .inl f_lanes)), (m_lengths, .inl (E.2.1 1, 4, .inl f_lengths)), (m_cells, .inl (E.2.1 1, 192, .inl f_cells))]) C (run_V (As := [.int v0]) (rest := rest) C (y_lay X.2.1 E [] hm v0 m_manys m_reals m_factsOf m_possible q_undos q_models m_tape q_taped q_fault q_wrong q_wrongAt q_spot q_place (nI q_token) (nI q_value) m_ends m_letters m_actOf m_whom m_actMany m_tokens m_afters m_afterOf q_counted m_pile m_caseMany m_happen m_hasIf m_becomes m_goneOf m_heard m_pairs m_heaps q_rounds q_heapMany m_led m_newAt m_knowing m_firsts q_people m_secrets m_tried m_lanes m_lengths m_cells f_manys f_reals f_factsOf f_possible f_pairs f_pile f_caseMany f_happen f_hasIf f_becomes f_goneOf f_heard f_actMany f_actOf f_whom hb_manys hb_reals hpg hb_caseMany hb_happen hb_actMany hhp hsv (by first | assumption | omega)) mi_X12_lay wl_L_98 rfl 0 12 rfl rfl rfl rfl hW dL_law_898) ro0 [0, 1, 2, 3, 4, 21, 14, 15, 16, 17, 18, 19, 20, 10, 8, 9] [5, 6, 7, 11, 12, 13, 22, 23, 24, 25, 26, 27, 28, 29, 30, 31] rfl rfl rfl ⟨by omega, by omega, hk.1, hk.2⟩ (fun rr u hw => ?_)
  refine ex7 hw ?_
  clear hw
  intro uz__1 f_manysz_2 f_realsz_3 f_factsOfz_4 f_possiblez_5 f_pairsz_6 f_pilez_7 hw
  refine an4 hw ?_
  clear hw
  intro he_u h_8 h_9 h_10 hw
  have h_11 := hw
  clear hw
  subst he_u
  refine ww_subT (w1 := [(hm, .inr (12, [.ref m_manys, .ref m_reals, .ref m_factsOf, .ref m_possible, .int (nI uz__1), .int (nI q_models), .ref m_tape, .int (nI q_taped), .int q_fault, .int q_wrong, .int q_wrongAt, .int q_spot, .int q_place, .int (nI q_token), .int (nI q_value), .ref m_ends, .ref m_letters, .ref m_actOf, .ref m_whom, .ref m_actMany, .ref m_tokens, .ref m_afters, .ref m_afterOf, .int q_counted, .ref m_pile, .ref m_caseMany, .ref m_happen, .ref m_hasIf, .ref m_becomes, .ref m_goneOf, .ref m_heard, .ref m_pairs, .ref m_heaps, .int q_rounds, .int q_heapMany, .ref m_led, .ref m_newAt, .ref m_knowing, .ref m_firsts, .int (nI q_people), .ref m_secrets, .ref m_tried, .ref m_lanes, .ref m_lengths, .ref m_cells])), (m_manys, .inl (E.2.1 1, 18, .inl f_manysz_2)), (m_reals, .inl (E.2.1 1, 18, .inl f_realsz_3)), (m_factsOf, .inl (E.2.1 1, 432, .inl f_factsOfz_4)), (m_possible, .inl (E.2.1 1, 1728, .inl f_possiblez_5)), (m_tape, .inl (E.2.1 1, 160, .inl f_tape)), (m_ends, .inl (E.2.1 1, 15, .inl f_ends)), (m_letters, .inl (E.2.1 1, 50, .inl f_letters)), (m_actOf, .inl (E.2.1 1, 800, .inl f_actOf)), (m_whom, .inl (E.2.1 1, 800, .inl f_whom)), (m_actMany, .inl (E.2.1 1, 25, .inl f_actMany)), (m_tokens, .inl (E.2.1 1, 9, .inl f_tokens)), (m_afters, .inl (E.2.1 1, 9, .inl f_afters)), (m_afterOf, .inl (E.2.1 1, 18, .inl f_afterOf)), (m_pile, .inl (E.2.1 1, 34, .inl f_pilez_7)), (m_caseMany, .inl (E.2.1 1, 4, .inl f_caseMany)), (m_happen, .inl (E.2.1 1, 4, .inl f_happen)), (m_hasIf, .inl (E.2.1 3, 16, .inl f_hasIf)), (m_becomes, .inl (E.2.1 1, 16, .inl f_becomes)), (m_goneOf, .inl (E.2.1 1, 16, .inl f_goneOf)), (m_heard, .inl (E.2.1 1, 64, .inl f_heard)), (m_pairs, .inl (E.2.1 1, 576, .inl f_pairsz_6)), (m_heaps, .inl (E.2.1 1, 2400, .inl f_heaps)), (m_led, .inl (E.2.1 2, 192, .inr (.inl f_led))), (m_newAt, .inl (E.2.1 1, 24, .inl f_newAt)), (m_knowing, .inl (E.2.1 1, 4, .inl f_knowing)), (m_firsts, .inl (E.2.1 1, 4, .inl f_firsts)), (m_secrets, .inl (E.2.1 1, 4, .inl f_secrets)), (m_tried, .inl (E.2.1 1, 4, .inl f_tried)), (m_lanes, .inl (E.2.1 1, 4, .inl f_lanes)), (m_lengths, .inl (E.2.1 1, 4, .inl f_lengths)), (m_cells, .inl (E.2.1 1, 192, .inl f_cells))]) [16, 17, 18, 19, 20, 0, 1, 2, 30, 31, 29, 3, 4, 5, 22, 23, 24, 25, 26, 27, 28, 21, 6, 7, 8, 9, 10, 11, 12, 13, 14, 15] rfl rfl ?_
  exact kont rr  [(hm, .inr (12, [.ref m_manys, .ref m_reals, .ref m_factsOf, .ref m_possible, .int (nI uz__1), .int (nI q_models), .ref m_tape, .int (nI q_taped), .int q_fault, .int q_wrong, .int q_wrongAt, .int q_spot, .int q_place, .int (nI q_token), .int (nI q_value), .ref m_ends, .ref m_letters, .ref m_actOf, .ref m_whom, .ref m_actMany, .ref m_tokens, .ref m_afters, .ref m_afterOf, .int q_counted, .ref m_pile, .ref m_caseMany, .ref m_happen, .ref m_hasIf, .ref m_becomes, .ref m_goneOf, .ref m_heard, .ref m_pairs, .ref m_heaps, .int q_rounds, .int q_heapMany, .ref m_led, .ref m_newAt, .ref m_knowing, .ref m_firsts, .int (nI q_people), .ref m_secrets, .ref m_tried, .ref m_lanes, .ref m_lengths, .ref m_cells])), (m_manys, .inl (E.2.1 1, 18, .inl f_manysz_2)), (m_reals, .inl (E.2.1 1, 18, .inl f_realsz_3)), (m_factsOf, .inl (E.2.1 1, 432, .inl f_factsOfz_4)), (m_possible, .inl (E.2.1 1, 1728, .inl f_possiblez_5)), (m_tape, .inl (E.2.1 1, 160, .inl f_tape)), (m_ends, .inl (E.2.1 1, 15, .inl f_ends)), (m_letters, .inl (E.2.1 1, 50, .inl f_letters)), (m_actOf, .inl (E.2.1 1, 800, .inl f_actOf)), (m_whom, .inl (E.2.1 1, 800, .inl f_whom)), (m_actMany, .inl (E.2.1 1, 25, .inl f_actMany)), (m_tokens, .inl (E.2.1 1, 9, .inl f_tokens)), (m_afters, .inl (E.2.1 1, 9, .inl f_afters)), (m_afterOf, .inl (E.2.1 1, 18, .inl f_afterOf)), (m_pile, .inl (E.2.1 1, 34, .inl f_pilez_7)), (m_caseMany, .inl (E.2.1 1, 4, .inl f_caseMany)), (m_happen, .inl (E.2.1 1, 4, .inl f_happen)), (m_hasIf, .inl (E.2.1 3, 16, .inl f_hasIf)), (m_becomes, .inl (E.2.1 1, 16, .inl f_becomes)), (m_goneOf, .inl (E.2.1 1, 16, .inl f_goneOf)), (m_heard, .inl (E.2.1 1, 64, .inl f_heard)), (m_pairs, .inl (E.2.1 1, 576, .inl f_pairsz_6)), (m_heaps, .inl (E.2.1 1, 2400, .inl f_heaps)), (m_led, .inl (E.2.1 2, 192, .inr (.inl f_led))), (m_newAt, .inl (E.2.1 1, 24, .inl f_newAt)), (m_knowing, .inl (E.2.1 1, 4, .inl f_knowing)), (m_firsts, .inl (E.2.1 1, 4, .inl f_firsts)), (m_secrets, .inl (E.2.1 1, 4, .inl f_secrets)), (m_tried, .inl (E.2.1 1, 4, .inl f_tried)), (m_lanes, .inl (E.2.1 1, 4, .inl f_lanes)), (m_lengths, .inl (E.2.1 1, 4, .inl f_lengths)), (m_cells, .inl (E.2.1 1, 192, .inl f_cells))] ⟨m_manys, m_reals, m_factsOf, m_possible, uz__1, q_models, m_tape, q_fault, q_wrong, q_wrongAt, q_spot, q_place, q_token, q_value, m_ends, m_letters, m_actOf, m_whom, m_actMany, m_tokens, m_afters, m_afterOf, q_counted, m_pile, m_caseMany, m_happen, m_hasIf, m_becomes, m_goneOf, m_heard, m_pairs, m_heaps, q_rounds, q_heapMany, m_led, m_newAt, m_knowing, m_firsts, m_secrets, m_tried, m_lanes, m_lengths, m_cells, f_manysz_2, f_realsz_3, f_factsOfz_4, f_possiblez_5, f_tape, f_ends, f_letters, f_actOf, f_whom, f_actMany, f_tokens, f_afters, f_afterOf, f_pilez_7, f_caseMany, f_happen, f_hasIf, f_becomes, f_goneOf, f_heard, f_pairsz_6, f_heaps, f_led, f_newAt, f_knowing, f_firsts, f_tried, f_cells, rfl, h_9, h_10, hb_ends, hb_actMany, hb_afters, hb_afterOf, hb_caseMany, hb_happen, hb_lengths, h_11, hhp, hsv, (by first | assumption | omega), (by first | assumption | omega), (by first | assumption | omega), (by first | assumption | omega), (by first | assumption | omega), (by first | assumption | omega)⟩ (trivial)
theorem wc_X12_classes : Cond.code yX12_classes cX12_classes 3 (some .int) ∈ TB := tbm (tq6 (List.mem_of_getElem? (i := 208) (rfl))) (by decide +kernel)
theorem wi_X12_classes : Cond.instanceMethod yX12_classes ∈ TB := tbm (tq6 (List.mem_of_getElem? (i := 206) (by decide +kernel))) (by decide +kernel)
theorem ws_X12_classes : Cond.selects RX12 yX12_classes yX12_classes ∈ TB := tbm (tq6 (List.mem_of_getElem? (i := 207) (by decide +kernel))) (by decide +kernel)
theorem mi_X12_classes : MI yX12_classes cX12_classes 3 (some .int) 0 := ⟨wc_X12_classes, wn_X12, ⟨by decide +kernel, by decide +kernel, by decide +kernel⟩, wi_X12_classes, ws_X12_classes⟩
theorem wl_L_102 : Cond.methodLink RL 102 yX12_classes ∈ TB := tbm (tq6 (List.mem_of_getElem? (i := 205) (by decide +kernel))) (by decide +kernel)
theorem dL_law_911 : decode cL_law 911 = .ok (.invokevirtual 102, 3) := by decide +kernel
set_option maxRecDepth 100000 in
set_option maxHeartbeats 4000000 in
theorem lm_classes {X : XT} {E : EV} {wT wm : va_W} {lv : List (Nat × Value)} {rest : List Value} {kC nC : Nat} {hm : Nat} {q_taped : Nat} {q_people : Nat} {f_secrets : Nat → Int32} {f_lanes : Nat → Int32} {f_lengths : Nat → Int32} (C : CX X room_1 cL_law 4 RL ret E) (hW : Nat.ble (rest.map fun v => v.category).sum 8 = true) (hk : kC ≤ 600000 ∧ nC ≤ 7302250) (H_ref : ok_ref E [] hm q_taped q_people f_secrets f_lanes f_lengths wm) (kont : ∀ (rr : Int32) (wmZ : va_W), ok_ref E [] hm q_taped q_people f_secrets f_lanes f_lengths wmZ → (True) → WW X 4 E 914 lv (.int rr :: rest) (wmZ ++ wT) kC nC) : WW X 4 E 911 lv (.ref hm :: rest) (wm ++ wT) kC nC := by
  unfold ok_ref at H_ref
  refine ex8 H_ref ?_
  clear H_ref
  intro m_manys m_reals m_factsOf m_possible q_undos q_models m_tape q_fault H_ref
  refine ex8 H_ref ?_
  clear H_ref
  intro q_wrong q_wrongAt q_spot q_place q_token q_value m_ends m_letters H_ref
  refine ex8 H_ref ?_
  clear H_ref
  intro m_actOf m_whom m_actMany m_tokens m_afters m_afterOf q_counted m_pile H_ref
  refine ex8 H_ref ?_
  clear H_ref
  intro m_caseMany m_happen m_hasIf m_becomes m_goneOf m_heard m_pairs m_heaps H_ref
  refine ex8 H_ref ?_
  clear H_ref
  intro q_rounds q_heapMany m_led m_newAt m_knowing m_firsts m_secrets m_tried H_ref
  refine ex8 H_ref ?_
  clear H_ref
  intro m_lanes m_lengths m_cells f_manys f_reals f_factsOf f_possible f_tape H_ref
  refine ex8 H_ref ?_
  clear H_ref
  intro f_ends f_letters f_actOf f_whom f_actMany f_tokens f_afters f_afterOf H_ref
  refine ex8 H_ref ?_
  clear H_ref
  intro f_pile f_caseMany f_happen f_hasIf f_becomes f_goneOf f_heard f_pairs H_ref
  refine ex7 H_ref ?_
  clear H_ref
  intro f_heaps f_led f_newAt f_knowing f_firsts f_tried f_cells H_ref
  refine an8 H_ref ?_
  clear H_ref
  intro we_ref hb_manys hb_reals hb_ends hb_actMany hb_afters hb_afterOf hb_caseMany H_ref
  refine an8 H_ref ?_
  clear H_ref
  intro hb_happen hb_lengths hpg hhp hsv hq_undos hq_models hq_taped H_ref
  refine an2 H_ref ?_
  clear H_ref
  intro hq_people hq_token H_ref
  have hq_value := H_ref
  clear H_ref
  subst we_ref
  refine ww_ciT (k' := kC) (n' := nC) (wr := [(m_reals, .inl (E.2.1 1, 18, .inl f_reals)), (m_tape, .inl (E.2.1 1, 160, .inl f_tape)), (m_ends, .inl (E.2.1 1, 15, .inl f_ends)), (m_letters, .inl (E.2.1 1, 50, .inl f_letters)), (m_actOf, .inl (E.2.1 1, 800, .inl f_actOf)), (m_whom, .inl (E.2.1 1, 800, .inl f_whom)), (m_actMany, .inl (E.2.1 1, 25, .inl f_actMany)), (m_tokens, .inl (E.2.1 1, 9, .inl f_tokens)), (m_afters, .inl (E.2.1 1, 9, .inl f_afters)), (m_afterOf, .inl (E.2.1 1, 18, .inl f_afterOf)), (m_pile, .inl (E.2.1 1, 34, .inl f_pile)), (m_caseMany, .inl (E.2.1 1, 4, .inl f_caseMany)), (m_happen, .inl (E.2.1 1, 4, .inl f_happen)), (m_hasIf, .inl (E.2.1 3, 16, .inl f_hasIf)), (m_becomes, .inl (E.2.1 1, 16, .inl f_becomes)), (m_goneOf, .inl (E.2.1 1, 16, .inl f_goneOf)), (m_heard, .inl (E.2.1 1, 64, .inl f_heard)), (m_pairs, .inl (E.2.1 1, 576, .inl f_pairs)), (m_newAt, .inl (E.2.1 1, 24, .inl f_newAt)), (m_knowing, .inl (E.2.1 1, 4, .inl f_knowing)), (m_firsts, .inl (E.2.1 1, 4, .inl f_firsts)), (m_secrets, .inl (E.2.1 1, 4, .inl f_secrets)), (m_tried, .inl (E.2.1 1, 4, .inl f_tried)), (m_lanes, .inl (E.2.1 1, 4, .inl f_lanes)), (m_lengths, .inl (E.2.1 1, 4, .inl f_lengths)), (m_cells, .inl (E.2.1 1, 192, .inl f_cells))]) C (run_V (As := []) (rest := rest) C (y_classes X.2.1 E [] hm m_manys m_reals m_factsOf m_possible q_undos q_models m_tape q_taped q_fault q_wrong q_wrongAt q_spot q_place (nI q_token) (nI q_value) m_ends m_letters m_actOf m_whom m_actMany m_tokens m_afters m_afterOf q_counted m_pile m_caseMany m_happen m_hasIf m_becomes m_goneOf m_heard m_pairs m_heaps q_rounds q_heapMany m_led m_newAt m_knowing m_firsts q_people m_secrets m_tried m_lanes m_lengths m_cells f_manys f_possible f_factsOf f_heaps f_led hb_manys) mi_X12_classes wl_L_102 rfl 0 12 rfl rfl rfl rfl hW dL_law_911) ro0 [0, 1, 4, 3, 22, 23] [2, 5, 6, 7, 8, 9, 10, 11, 12, 13, 14, 15, 16, 17, 18, 19, 20, 21, 24, 25, 26, 27, 28, 29, 30, 31] rfl rfl rfl ⟨by omega, by omega, hk.1, hk.2⟩ (fun rr u hw => ?_)
  refine ex4 hw ?_
  clear hw
  intro rz__1 hmz_2 f_heapsz_3 f_ledz_4 hw
  have he_u := hw
  clear hw
  subst he_u
  refine ww_subT (w1 := [(hm, .inr (12, [.ref m_manys, .ref m_reals, .ref m_factsOf, .ref m_possible, .int (nI q_undos), .int (nI q_models), .ref m_tape, .int (nI q_taped), .int q_fault, .int q_wrong, .int q_wrongAt, .int q_spot, .int q_place, .int (nI q_token), .int (nI q_value), .ref m_ends, .ref m_letters, .ref m_actOf, .ref m_whom, .ref m_actMany, .ref m_tokens, .ref m_afters, .ref m_afterOf, .int q_counted, .ref m_pile, .ref m_caseMany, .ref m_happen, .ref m_hasIf, .ref m_becomes, .ref m_goneOf, .ref m_heard, .ref m_pairs, .ref m_heaps, .int rz__1, .int hmz_2, .ref m_led, .ref m_newAt, .ref m_knowing, .ref m_firsts, .int (nI q_people), .ref m_secrets, .ref m_tried, .ref m_lanes, .ref m_lengths, .ref m_cells])), (m_manys, .inl (E.2.1 1, 18, .inl f_manys)), (m_reals, .inl (E.2.1 1, 18, .inl f_reals)), (m_factsOf, .inl (E.2.1 1, 432, .inl f_factsOf)), (m_possible, .inl (E.2.1 1, 1728, .inl f_possible)), (m_tape, .inl (E.2.1 1, 160, .inl f_tape)), (m_ends, .inl (E.2.1 1, 15, .inl f_ends)), (m_letters, .inl (E.2.1 1, 50, .inl f_letters)), (m_actOf, .inl (E.2.1 1, 800, .inl f_actOf)), (m_whom, .inl (E.2.1 1, 800, .inl f_whom)), (m_actMany, .inl (E.2.1 1, 25, .inl f_actMany)), (m_tokens, .inl (E.2.1 1, 9, .inl f_tokens)), (m_afters, .inl (E.2.1 1, 9, .inl f_afters)), (m_afterOf, .inl (E.2.1 1, 18, .inl f_afterOf)), (m_pile, .inl (E.2.1 1, 34, .inl f_pile)), (m_caseMany, .inl (E.2.1 1, 4, .inl f_caseMany)), (m_happen, .inl (E.2.1 1, 4, .inl f_happen)), (m_hasIf, .inl (E.2.1 3, 16, .inl f_hasIf)), (m_becomes, .inl (E.2.1 1, 16, .inl f_becomes)), (m_goneOf, .inl (E.2.1 1, 16, .inl f_goneOf)), (m_heard, .inl (E.2.1 1, 64, .inl f_heard)), (m_pairs, .inl (E.2.1 1, 576, .inl f_pairs)), (m_heaps, .inl (E.2.1 1, 2400, .inl f_heapsz_3)), (m_led, .inl (E.2.1 2, 192, .inr (.inl f_ledz_4))), (m_newAt, .inl (E.2.1 1, 24, .inl f_newAt)), (m_knowing, .inl (E.2.1 1, 4, .inl f_knowing)), (m_firsts, .inl (E.2.1 1, 4, .inl f_firsts)), (m_secrets, .inl (E.2.1 1, 4, .inl f_secrets)), (m_tried, .inl (E.2.1 1, 4, .inl f_tried)), (m_lanes, .inl (E.2.1 1, 4, .inl f_lanes)), (m_lengths, .inl (E.2.1 1, 4, .inl f_lengths)), (m_cells, .inl (E.2.1 1, 192, .inl f_cells))]) [26, 27, 0, 29, 28, 1, 2, 3, 4, 5, 6, 7, 8, 9, 10, 11, 12, 13, 14, 15, 16, 17, 30, 31, 18, 19, 20, 21, 22, 23, 24, 25] rfl rfl ?_
  exact kont rr  [(hm, .inr (12, [.ref m_manys, .ref m_reals, .ref m_factsOf, .ref m_possible, .int (nI q_undos), .int (nI q_models), .ref m_tape, .int (nI q_taped), .int q_fault, .int q_wrong, .int q_wrongAt, .int q_spot, .int q_place, .int (nI q_token), .int (nI q_value), .ref m_ends, .ref m_letters, .ref m_actOf, .ref m_whom, .ref m_actMany, .ref m_tokens, .ref m_afters, .ref m_afterOf, .int q_counted, .ref m_pile, .ref m_caseMany, .ref m_happen, .ref m_hasIf, .ref m_becomes, .ref m_goneOf, .ref m_heard, .ref m_pairs, .ref m_heaps, .int rz__1, .int hmz_2, .ref m_led, .ref m_newAt, .ref m_knowing, .ref m_firsts, .int (nI q_people), .ref m_secrets, .ref m_tried, .ref m_lanes, .ref m_lengths, .ref m_cells])), (m_manys, .inl (E.2.1 1, 18, .inl f_manys)), (m_reals, .inl (E.2.1 1, 18, .inl f_reals)), (m_factsOf, .inl (E.2.1 1, 432, .inl f_factsOf)), (m_possible, .inl (E.2.1 1, 1728, .inl f_possible)), (m_tape, .inl (E.2.1 1, 160, .inl f_tape)), (m_ends, .inl (E.2.1 1, 15, .inl f_ends)), (m_letters, .inl (E.2.1 1, 50, .inl f_letters)), (m_actOf, .inl (E.2.1 1, 800, .inl f_actOf)), (m_whom, .inl (E.2.1 1, 800, .inl f_whom)), (m_actMany, .inl (E.2.1 1, 25, .inl f_actMany)), (m_tokens, .inl (E.2.1 1, 9, .inl f_tokens)), (m_afters, .inl (E.2.1 1, 9, .inl f_afters)), (m_afterOf, .inl (E.2.1 1, 18, .inl f_afterOf)), (m_pile, .inl (E.2.1 1, 34, .inl f_pile)), (m_caseMany, .inl (E.2.1 1, 4, .inl f_caseMany)), (m_happen, .inl (E.2.1 1, 4, .inl f_happen)), (m_hasIf, .inl (E.2.1 3, 16, .inl f_hasIf)), (m_becomes, .inl (E.2.1 1, 16, .inl f_becomes)), (m_goneOf, .inl (E.2.1 1, 16, .inl f_goneOf)), (m_heard, .inl (E.2.1 1, 64, .inl f_heard)), (m_pairs, .inl (E.2.1 1, 576, .inl f_pairs)), (m_heaps, .inl (E.2.1 1, 2400, .inl f_heapsz_3)), (m_led, .inl (E.2.1 2, 192, .inr (.inl f_ledz_4))), (m_newAt, .inl (E.2.1 1, 24, .inl f_newAt)), (m_knowing, .inl (E.2.1 1, 4, .inl f_knowing)), (m_firsts, .inl (E.2.1 1, 4, .inl f_firsts)), (m_secrets, .inl (E.2.1 1, 4, .inl f_secrets)), (m_tried, .inl (E.2.1 1, 4, .inl f_tried)), (m_lanes, .inl (E.2.1 1, 4, .inl f_lanes)), (m_lengths, .inl (E.2.1 1, 4, .inl f_lengths)), (m_cells, .inl (E.2.1 1, 192, .inl f_cells))] ⟨m_manys, m_reals, m_factsOf, m_possible, q_undos, q_models, m_tape, q_fault, q_wrong, q_wrongAt, q_spot, q_place, q_token, q_value, m_ends, m_letters, m_actOf, m_whom, m_actMany, m_tokens, m_afters, m_afterOf, q_counted, m_pile, m_caseMany, m_happen, m_hasIf, m_becomes, m_goneOf, m_heard, m_pairs, m_heaps, rz__1, hmz_2, m_led, m_newAt, m_knowing, m_firsts, m_secrets, m_tried, m_lanes, m_lengths, m_cells, f_manys, f_reals, f_factsOf, f_possible, f_tape, f_ends, f_letters, f_actOf, f_whom, f_actMany, f_tokens, f_afters, f_afterOf, f_pile, f_caseMany, f_happen, f_hasIf, f_becomes, f_goneOf, f_heard, f_pairs, f_heapsz_3, f_ledz_4, f_newAt, f_knowing, f_firsts, f_tried, f_cells, rfl, hb_manys, hb_reals, hb_ends, hb_actMany, hb_afters, hb_afterOf, hb_caseMany, hb_happen, hb_lengths, hpg, hhp, hsv, (by first | assumption | omega), (by first | assumption | omega), (by first | assumption | omega), (by first | assumption | omega), (by first | assumption | omega), (by first | assumption | omega)⟩ (trivial)
theorem wc_X12_classOf : Cond.code yX12_classOf cX12_classOf 2 (some .int) ∈ TB := tbm (tq6 (List.mem_of_getElem? (i := 232) (rfl))) (by decide +kernel)
theorem wi_X12_classOf : Cond.instanceMethod yX12_classOf ∈ TB := tbm (tq6 (List.mem_of_getElem? (i := 230) (by decide +kernel))) (by decide +kernel)
theorem ws_X12_classOf : Cond.selects RX12 yX12_classOf yX12_classOf ∈ TB := tbm (tq6 (List.mem_of_getElem? (i := 231) (by decide +kernel))) (by decide +kernel)
theorem mi_X12_classOf : MI yX12_classOf cX12_classOf 2 (some .int) 1 := ⟨wc_X12_classOf, wn_X12, ⟨by decide +kernel, by decide +kernel, by decide +kernel⟩, wi_X12_classOf, ws_X12_classOf⟩
theorem wl_L_106 : Cond.methodLink RL 106 yX12_classOf ∈ TB := tbm (tq6 (List.mem_of_getElem? (i := 229) (by decide +kernel))) (by decide +kernel)
theorem dL_law_934 : decode cL_law 934 = .ok (.invokevirtual 106, 3) := by decide +kernel
set_option maxRecDepth 100000 in
set_option maxHeartbeats 4000000 in
theorem lm_classOf {X : XT} {E : EV} {wT wm : va_W} {lv : List (Nat × Value)} {rest : List Value} {kC nC : Nat} {hm : Nat} {q_taped : Nat} {q_people : Nat} {f_secrets : Nat → Int32} {f_lanes : Nat → Int32} {f_lengths : Nat → Int32} {v0 : Int32} (C : CX X room_1 cL_law 4 RL ret E) (hW : Nat.ble (rest.map fun v => v.category).sum 8 = true) (hk : kC ≤ 600000 ∧ nC ≤ 7302250) (H_ref : ok_ref E [] hm q_taped q_people f_secrets f_lanes f_lengths wm) (kont : ∀ (rr : Int32) (wmZ : va_W), ok_ref E [] hm q_taped q_people f_secrets f_lanes f_lengths wmZ → (True) → WW X 4 E 937 lv (.int rr :: rest) (wmZ ++ wT) kC nC) : WW X 4 E 934 lv (.int v0 :: .ref hm :: rest) (wm ++ wT) kC nC := by
  unfold ok_ref at H_ref
  refine ex8 H_ref ?_
  clear H_ref
  intro m_manys m_reals m_factsOf m_possible q_undos q_models m_tape q_fault H_ref
  refine ex8 H_ref ?_
  clear H_ref
  intro q_wrong q_wrongAt q_spot q_place q_token q_value m_ends m_letters H_ref
  refine ex8 H_ref ?_
  clear H_ref
  intro m_actOf m_whom m_actMany m_tokens m_afters m_afterOf q_counted m_pile H_ref
  refine ex8 H_ref ?_
  clear H_ref
  intro m_caseMany m_happen m_hasIf m_becomes m_goneOf m_heard m_pairs m_heaps H_ref
  refine ex8 H_ref ?_
  clear H_ref
  intro q_rounds q_heapMany m_led m_newAt m_knowing m_firsts m_secrets m_tried H_ref
  refine ex8 H_ref ?_
  clear H_ref
  intro m_lanes m_lengths m_cells f_manys f_reals f_factsOf f_possible f_tape H_ref
  refine ex8 H_ref ?_
  clear H_ref
  intro f_ends f_letters f_actOf f_whom f_actMany f_tokens f_afters f_afterOf H_ref
  refine ex8 H_ref ?_
  clear H_ref
  intro f_pile f_caseMany f_happen f_hasIf f_becomes f_goneOf f_heard f_pairs H_ref
  refine ex7 H_ref ?_
  clear H_ref
  intro f_heaps f_led f_newAt f_knowing f_firsts f_tried f_cells H_ref
  refine an8 H_ref ?_
  clear H_ref
  intro we_ref hb_manys hb_reals hb_ends hb_actMany hb_afters hb_afterOf hb_caseMany H_ref
  refine an8 H_ref ?_
  clear H_ref
  intro hb_happen hb_lengths hpg hhp hsv hq_undos hq_models hq_taped H_ref
  refine an2 H_ref ?_
  clear H_ref
  intro hq_people hq_token H_ref
  have hq_value := H_ref
  clear H_ref
  subst we_ref
  refine ww_ciT (k' := kC) (n' := nC) (wr := [(m_reals, .inl (E.2.1 1, 18, .inl f_reals)), (m_tape, .inl (E.2.1 1, 160, .inl f_tape)), (m_ends, .inl (E.2.1 1, 15, .inl f_ends)), (m_letters, .inl (E.2.1 1, 50, .inl f_letters)), (m_actOf, .inl (E.2.1 1, 800, .inl f_actOf)), (m_whom, .inl (E.2.1 1, 800, .inl f_whom)), (m_actMany, .inl (E.2.1 1, 25, .inl f_actMany)), (m_tokens, .inl (E.2.1 1, 9, .inl f_tokens)), (m_afters, .inl (E.2.1 1, 9, .inl f_afters)), (m_afterOf, .inl (E.2.1 1, 18, .inl f_afterOf)), (m_pile, .inl (E.2.1 1, 34, .inl f_pile)), (m_caseMany, .inl (E.2.1 1, 4, .inl f_caseMany)), (m_happen, .inl (E.2.1 1, 4, .inl f_happen)), (m_hasIf, .inl (E.2.1 3, 16, .inl f_hasIf)), (m_becomes, .inl (E.2.1 1, 16, .inl f_becomes)), (m_goneOf, .inl (E.2.1 1, 16, .inl f_goneOf)), (m_heard, .inl (E.2.1 1, 64, .inl f_heard)), (m_pairs, .inl (E.2.1 1, 576, .inl f_pairs)), (m_newAt, .inl (E.2.1 1, 24, .inl f_newAt)), (m_knowing, .inl (E.2.1 1, 4, .inl f_knowing)), (m_firsts, .inl (E.2.1 1, 4, .inl f_firsts)), (m_secrets, .inl (E.2.1 1, 4, .inl f_secrets)), (m_tried, .inl (E.2.1 1, 4, .inl f_tried)), (m_lanes, .inl (E.2.1 1, 4, .inl f_lanes)), (m_lengths, .inl (E.2.1 1, 4, .inl f_lengths)), (m_cells, .inl (E.2.1 1, 192, .inl f_cells))]) C (run_V (As := [.int v0]) (rest := rest) C (y_classOf X.2.1 E [] hm v0 m_manys m_reals m_factsOf m_possible q_undos q_models m_tape q_taped q_fault q_wrong q_wrongAt q_spot q_place (nI q_token) (nI q_value) m_ends m_letters m_actOf m_whom m_actMany m_tokens m_afters m_afterOf q_counted m_pile m_caseMany m_happen m_hasIf m_becomes m_goneOf m_heard m_pairs m_heaps q_rounds q_heapMany m_led m_newAt m_knowing m_firsts q_people m_secrets m_tried m_lanes m_lengths m_cells f_manys f_possible f_factsOf f_heaps f_led hb_manys) mi_X12_classOf wl_L_106 rfl 0 12 rfl rfl rfl rfl hW dL_law_934) ro0 [0, 1, 4, 3, 22, 23] [2, 5, 6, 7, 8, 9, 10, 11, 12, 13, 14, 15, 16, 17, 18, 19, 20, 21, 24, 25, 26, 27, 28, 29, 30, 31] rfl rfl rfl ⟨by omega, by omega, hk.1, hk.2⟩ (fun rr u hw => ?_)
  refine ex4 hw ?_
  clear hw
  intro rz__1 hmz_2 f_heapsz_3 f_ledz_4 hw
  have he_u := hw
  clear hw
  subst he_u
  refine ww_subT (w1 := [(hm, .inr (12, [.ref m_manys, .ref m_reals, .ref m_factsOf, .ref m_possible, .int (nI q_undos), .int (nI q_models), .ref m_tape, .int (nI q_taped), .int q_fault, .int q_wrong, .int q_wrongAt, .int q_spot, .int q_place, .int (nI q_token), .int (nI q_value), .ref m_ends, .ref m_letters, .ref m_actOf, .ref m_whom, .ref m_actMany, .ref m_tokens, .ref m_afters, .ref m_afterOf, .int q_counted, .ref m_pile, .ref m_caseMany, .ref m_happen, .ref m_hasIf, .ref m_becomes, .ref m_goneOf, .ref m_heard, .ref m_pairs, .ref m_heaps, .int rz__1, .int hmz_2, .ref m_led, .ref m_newAt, .ref m_knowing, .ref m_firsts, .int (nI q_people), .ref m_secrets, .ref m_tried, .ref m_lanes, .ref m_lengths, .ref m_cells])), (m_manys, .inl (E.2.1 1, 18, .inl f_manys)), (m_reals, .inl (E.2.1 1, 18, .inl f_reals)), (m_factsOf, .inl (E.2.1 1, 432, .inl f_factsOf)), (m_possible, .inl (E.2.1 1, 1728, .inl f_possible)), (m_tape, .inl (E.2.1 1, 160, .inl f_tape)), (m_ends, .inl (E.2.1 1, 15, .inl f_ends)), (m_letters, .inl (E.2.1 1, 50, .inl f_letters)), (m_actOf, .inl (E.2.1 1, 800, .inl f_actOf)), (m_whom, .inl (E.2.1 1, 800, .inl f_whom)), (m_actMany, .inl (E.2.1 1, 25, .inl f_actMany)), (m_tokens, .inl (E.2.1 1, 9, .inl f_tokens)), (m_afters, .inl (E.2.1 1, 9, .inl f_afters)), (m_afterOf, .inl (E.2.1 1, 18, .inl f_afterOf)), (m_pile, .inl (E.2.1 1, 34, .inl f_pile)), (m_caseMany, .inl (E.2.1 1, 4, .inl f_caseMany)), (m_happen, .inl (E.2.1 1, 4, .inl f_happen)), (m_hasIf, .inl (E.2.1 3, 16, .inl f_hasIf)), (m_becomes, .inl (E.2.1 1, 16, .inl f_becomes)), (m_goneOf, .inl (E.2.1 1, 16, .inl f_goneOf)), (m_heard, .inl (E.2.1 1, 64, .inl f_heard)), (m_pairs, .inl (E.2.1 1, 576, .inl f_pairs)), (m_heaps, .inl (E.2.1 1, 2400, .inl f_heapsz_3)), (m_led, .inl (E.2.1 2, 192, .inr (.inl f_ledz_4))), (m_newAt, .inl (E.2.1 1, 24, .inl f_newAt)), (m_knowing, .inl (E.2.1 1, 4, .inl f_knowing)), (m_firsts, .inl (E.2.1 1, 4, .inl f_firsts)), (m_secrets, .inl (E.2.1 1, 4, .inl f_secrets)), (m_tried, .inl (E.2.1 1, 4, .inl f_tried)), (m_lanes, .inl (E.2.1 1, 4, .inl f_lanes)), (m_lengths, .inl (E.2.1 1, 4, .inl f_lengths)), (m_cells, .inl (E.2.1 1, 192, .inl f_cells))]) [26, 27, 0, 29, 28, 1, 2, 3, 4, 5, 6, 7, 8, 9, 10, 11, 12, 13, 14, 15, 16, 17, 30, 31, 18, 19, 20, 21, 22, 23, 24, 25] rfl rfl ?_
  exact kont rr  [(hm, .inr (12, [.ref m_manys, .ref m_reals, .ref m_factsOf, .ref m_possible, .int (nI q_undos), .int (nI q_models), .ref m_tape, .int (nI q_taped), .int q_fault, .int q_wrong, .int q_wrongAt, .int q_spot, .int q_place, .int (nI q_token), .int (nI q_value), .ref m_ends, .ref m_letters, .ref m_actOf, .ref m_whom, .ref m_actMany, .ref m_tokens, .ref m_afters, .ref m_afterOf, .int q_counted, .ref m_pile, .ref m_caseMany, .ref m_happen, .ref m_hasIf, .ref m_becomes, .ref m_goneOf, .ref m_heard, .ref m_pairs, .ref m_heaps, .int rz__1, .int hmz_2, .ref m_led, .ref m_newAt, .ref m_knowing, .ref m_firsts, .int (nI q_people), .ref m_secrets, .ref m_tried, .ref m_lanes, .ref m_lengths, .ref m_cells])), (m_manys, .inl (E.2.1 1, 18, .inl f_manys)), (m_reals, .inl (E.2.1 1, 18, .inl f_reals)), (m_factsOf, .inl (E.2.1 1, 432, .inl f_factsOf)), (m_possible, .inl (E.2.1 1, 1728, .inl f_possible)), (m_tape, .inl (E.2.1 1, 160, .inl f_tape)), (m_ends, .inl (E.2.1 1, 15, .inl f_ends)), (m_letters, .inl (E.2.1 1, 50, .inl f_letters)), (m_actOf, .inl (E.2.1 1, 800, .inl f_actOf)), (m_whom, .inl (E.2.1 1, 800, .inl f_whom)), (m_actMany, .inl (E.2.1 1, 25, .inl f_actMany)), (m_tokens, .inl (E.2.1 1, 9, .inl f_tokens)), (m_afters, .inl (E.2.1 1, 9, .inl f_afters)), (m_afterOf, .inl (E.2.1 1, 18, .inl f_afterOf)), (m_pile, .inl (E.2.1 1, 34, .inl f_pile)), (m_caseMany, .inl (E.2.1 1, 4, .inl f_caseMany)), (m_happen, .inl (E.2.1 1, 4, .inl f_happen)), (m_hasIf, .inl (E.2.1 3, 16, .inl f_hasIf)), (m_becomes, .inl (E.2.1 1, 16, .inl f_becomes)), (m_goneOf, .inl (E.2.1 1, 16, .inl f_goneOf)), (m_heard, .inl (E.2.1 1, 64, .inl f_heard)), (m_pairs, .inl (E.2.1 1, 576, .inl f_pairs)), (m_heaps, .inl (E.2.1 1, 2400, .inl f_heapsz_3)), (m_led, .inl (E.2.1 2, 192, .inr (.inl f_ledz_4))), (m_newAt, .inl (E.2.1 1, 24, .inl f_newAt)), (m_knowing, .inl (E.2.1 1, 4, .inl f_knowing)), (m_firsts, .inl (E.2.1 1, 4, .inl f_firsts)), (m_secrets, .inl (E.2.1 1, 4, .inl f_secrets)), (m_tried, .inl (E.2.1 1, 4, .inl f_tried)), (m_lanes, .inl (E.2.1 1, 4, .inl f_lanes)), (m_lengths, .inl (E.2.1 1, 4, .inl f_lengths)), (m_cells, .inl (E.2.1 1, 192, .inl f_cells))] ⟨m_manys, m_reals, m_factsOf, m_possible, q_undos, q_models, m_tape, q_fault, q_wrong, q_wrongAt, q_spot, q_place, q_token, q_value, m_ends, m_letters, m_actOf, m_whom, m_actMany, m_tokens, m_afters, m_afterOf, q_counted, m_pile, m_caseMany, m_happen, m_hasIf, m_becomes, m_goneOf, m_heard, m_pairs, m_heaps, rz__1, hmz_2, m_led, m_newAt, m_knowing, m_firsts, m_secrets, m_tried, m_lanes, m_lengths, m_cells, f_manys, f_reals, f_factsOf, f_possible, f_tape, f_ends, f_letters, f_actOf, f_whom, f_actMany, f_tokens, f_afters, f_afterOf, f_pile, f_caseMany, f_happen, f_hasIf, f_becomes, f_goneOf, f_heard, f_pairs, f_heapsz_3, f_ledz_4, f_newAt, f_knowing, f_firsts, f_tried, f_cells, rfl, hb_manys, hb_reals, hb_ends, hb_actMany, hb_afters, hb_afterOf, hb_caseMany, hb_happen, hb_lengths, hpg, hhp, hsv, (by first | assumption | omega), (by first | assumption | omega), (by first | assumption | omega), (by first | assumption | omega), (by first | assumption | omega), (by first | assumption | omega)⟩ (trivial)
theorem wc_X12_depth : Cond.code yX12_depth cX12_depth 4 (some .int) ∈ TB := tbm (tq6 (List.mem_of_getElem? (i := 236) (rfl))) (by decide +kernel)
theorem wi_X12_depth : Cond.instanceMethod yX12_depth ∈ TB := tbm (tq6 (List.mem_of_getElem? (i := 234) (by decide +kernel))) (by decide +kernel)
theorem ws_X12_depth : Cond.selects RX12 yX12_depth yX12_depth ∈ TB := tbm (tq6 (List.mem_of_getElem? (i := 235) (by decide +kernel))) (by decide +kernel)
theorem mi_X12_depth : MI yX12_depth cX12_depth 4 (some .int) 2 := ⟨wc_X12_depth, wn_X12, ⟨by decide +kernel, by decide +kernel, by decide +kernel⟩, wi_X12_depth, ws_X12_depth⟩
theorem wl_L_110 : Cond.methodLink RL 110 yX12_depth ∈ TB := tbm (tq6 (List.mem_of_getElem? (i := 233) (by decide +kernel))) (by decide +kernel)
theorem dL_law_967 : decode cL_law 967 = .ok (.invokevirtual 110, 3) := by decide +kernel
set_option maxRecDepth 100000 in
set_option maxHeartbeats 4000000 in
theorem lm_depth {X : XT} {E : EV} {wT wm : va_W} {lv : List (Nat × Value)} {rest : List Value} {kC nC : Nat} {hm : Nat} {q_taped : Nat} {q_people : Nat} {f_secrets : Nat → Int32} {f_lanes : Nat → Int32} {f_lengths : Nat → Int32} {v0 : Int32} {v1 : Int32} (C : CX X room_1 cL_law 4 RL ret E) (hW : Nat.ble (rest.map fun v => v.category).sum 8 = true) (hk : kC ≤ 600000 ∧ nC ≤ 7302250) (H_ref : ok_ref E [] hm q_taped q_people f_secrets f_lanes f_lengths wm) (kont : ∀ (rr : Int32) (wmZ : va_W), ok_ref E [] hm q_taped q_people f_secrets f_lanes f_lengths wmZ → (True) → WW X 4 E 970 lv (.int rr :: rest) (wmZ ++ wT) kC nC) : WW X 4 E 967 lv (.int v1 :: .int v0 :: .ref hm :: rest) (wm ++ wT) kC nC := by
  unfold ok_ref at H_ref
  refine ex8 H_ref ?_
  clear H_ref
  intro m_manys m_reals m_factsOf m_possible q_undos q_models m_tape q_fault H_ref
  refine ex8 H_ref ?_
  clear H_ref
  intro q_wrong q_wrongAt q_spot q_place q_token q_value m_ends m_letters H_ref
  refine ex8 H_ref ?_
  clear H_ref
  intro m_actOf m_whom m_actMany m_tokens m_afters m_afterOf q_counted m_pile H_ref
  refine ex8 H_ref ?_
  clear H_ref
  intro m_caseMany m_happen m_hasIf m_becomes m_goneOf m_heard m_pairs m_heaps H_ref
  refine ex8 H_ref ?_
  clear H_ref
  intro q_rounds q_heapMany m_led m_newAt m_knowing m_firsts m_secrets m_tried H_ref
  refine ex8 H_ref ?_
  clear H_ref
  intro m_lanes m_lengths m_cells f_manys f_reals f_factsOf f_possible f_tape H_ref
  refine ex8 H_ref ?_
  clear H_ref
  intro f_ends f_letters f_actOf f_whom f_actMany f_tokens f_afters f_afterOf H_ref
  refine ex8 H_ref ?_
  clear H_ref
  intro f_pile f_caseMany f_happen f_hasIf f_becomes f_goneOf f_heard f_pairs H_ref
  refine ex7 H_ref ?_
  clear H_ref
  intro f_heaps f_led f_newAt f_knowing f_firsts f_tried f_cells H_ref
  refine an8 H_ref ?_
  clear H_ref
  intro we_ref hb_manys hb_reals hb_ends hb_actMany hb_afters hb_afterOf hb_caseMany H_ref
  refine an8 H_ref ?_
  clear H_ref
  intro hb_happen hb_lengths hpg hhp hsv hq_undos hq_models hq_taped H_ref
  refine an2 H_ref ?_
  clear H_ref
  intro hq_people hq_token H_ref
  have hq_value := H_ref
  clear H_ref
  subst we_ref
  refine ww_ciT (k' := kC) (n' := nC) (wr := [(m_reals, .inl (E.2.1 1, 18, .inl f_reals)), (m_tape, .inl (E.2.1 1, 160, .inl f_tape)), (m_ends, .inl (E.2.1 1, 15, .inl f_ends)), (m_letters, .inl (E.2.1 1, 50, .inl f_letters)), (m_actOf, .inl (E.2.1 1, 800, .inl f_actOf)), (m_whom, .inl (E.2.1 1, 800, .inl f_whom)), (m_actMany, .inl (E.2.1 1, 25, .inl f_actMany)), (m_tokens, .inl (E.2.1 1, 9, .inl f_tokens)), (m_afters, .inl (E.2.1 1, 9, .inl f_afters)), (m_afterOf, .inl (E.2.1 1, 18, .inl f_afterOf)), (m_pile, .inl (E.2.1 1, 34, .inl f_pile)), (m_caseMany, .inl (E.2.1 1, 4, .inl f_caseMany)), (m_happen, .inl (E.2.1 1, 4, .inl f_happen)), (m_hasIf, .inl (E.2.1 3, 16, .inl f_hasIf)), (m_becomes, .inl (E.2.1 1, 16, .inl f_becomes)), (m_goneOf, .inl (E.2.1 1, 16, .inl f_goneOf)), (m_heard, .inl (E.2.1 1, 64, .inl f_heard)), (m_pairs, .inl (E.2.1 1, 576, .inl f_pairs)), (m_newAt, .inl (E.2.1 1, 24, .inl f_newAt)), (m_knowing, .inl (E.2.1 1, 4, .inl f_knowing)), (m_firsts, .inl (E.2.1 1, 4, .inl f_firsts)), (m_secrets, .inl (E.2.1 1, 4, .inl f_secrets)), (m_tried, .inl (E.2.1 1, 4, .inl f_tried)), (m_lanes, .inl (E.2.1 1, 4, .inl f_lanes)), (m_lengths, .inl (E.2.1 1, 4, .inl f_lengths)), (m_cells, .inl (E.2.1 1, 192, .inl f_cells))]) C (run_V (As := [.int v0, .int v1]) (rest := rest) C (y_depth X.2.1 E [] hm v0 v1 m_manys m_reals m_factsOf m_possible q_undos q_models m_tape q_taped q_fault q_wrong q_wrongAt q_spot q_place (nI q_token) (nI q_value) m_ends m_letters m_actOf m_whom m_actMany m_tokens m_afters m_afterOf q_counted m_pile m_caseMany m_happen m_hasIf m_becomes m_goneOf m_heard m_pairs m_heaps q_rounds q_heapMany m_led m_newAt m_knowing m_firsts q_people m_secrets m_tried m_lanes m_lengths m_cells f_manys f_possible f_factsOf f_heaps f_led hb_manys) mi_X12_depth wl_L_110 rfl 0 12 rfl rfl rfl rfl hW dL_law_967) ro0 [0, 1, 4, 3, 22, 23] [2, 5, 6, 7, 8, 9, 10, 11, 12, 13, 14, 15, 16, 17, 18, 19, 20, 21, 24, 25, 26, 27, 28, 29, 30, 31] rfl rfl rfl ⟨by omega, by omega, hk.1, hk.2⟩ (fun rr u hw => ?_)
  refine ex4 hw ?_
  clear hw
  intro rz__1 hmz_2 f_heapsz_3 f_ledz_4 hw
  have he_u := hw
  clear hw
  subst he_u
  refine ww_subT (w1 := [(hm, .inr (12, [.ref m_manys, .ref m_reals, .ref m_factsOf, .ref m_possible, .int (nI q_undos), .int (nI q_models), .ref m_tape, .int (nI q_taped), .int q_fault, .int q_wrong, .int q_wrongAt, .int q_spot, .int q_place, .int (nI q_token), .int (nI q_value), .ref m_ends, .ref m_letters, .ref m_actOf, .ref m_whom, .ref m_actMany, .ref m_tokens, .ref m_afters, .ref m_afterOf, .int q_counted, .ref m_pile, .ref m_caseMany, .ref m_happen, .ref m_hasIf, .ref m_becomes, .ref m_goneOf, .ref m_heard, .ref m_pairs, .ref m_heaps, .int rz__1, .int hmz_2, .ref m_led, .ref m_newAt, .ref m_knowing, .ref m_firsts, .int (nI q_people), .ref m_secrets, .ref m_tried, .ref m_lanes, .ref m_lengths, .ref m_cells])), (m_manys, .inl (E.2.1 1, 18, .inl f_manys)), (m_reals, .inl (E.2.1 1, 18, .inl f_reals)), (m_factsOf, .inl (E.2.1 1, 432, .inl f_factsOf)), (m_possible, .inl (E.2.1 1, 1728, .inl f_possible)), (m_tape, .inl (E.2.1 1, 160, .inl f_tape)), (m_ends, .inl (E.2.1 1, 15, .inl f_ends)), (m_letters, .inl (E.2.1 1, 50, .inl f_letters)), (m_actOf, .inl (E.2.1 1, 800, .inl f_actOf)), (m_whom, .inl (E.2.1 1, 800, .inl f_whom)), (m_actMany, .inl (E.2.1 1, 25, .inl f_actMany)), (m_tokens, .inl (E.2.1 1, 9, .inl f_tokens)), (m_afters, .inl (E.2.1 1, 9, .inl f_afters)), (m_afterOf, .inl (E.2.1 1, 18, .inl f_afterOf)), (m_pile, .inl (E.2.1 1, 34, .inl f_pile)), (m_caseMany, .inl (E.2.1 1, 4, .inl f_caseMany)), (m_happen, .inl (E.2.1 1, 4, .inl f_happen)), (m_hasIf, .inl (E.2.1 3, 16, .inl f_hasIf)), (m_becomes, .inl (E.2.1 1, 16, .inl f_becomes)), (m_goneOf, .inl (E.2.1 1, 16, .inl f_goneOf)), (m_heard, .inl (E.2.1 1, 64, .inl f_heard)), (m_pairs, .inl (E.2.1 1, 576, .inl f_pairs)), (m_heaps, .inl (E.2.1 1, 2400, .inl f_heapsz_3)), (m_led, .inl (E.2.1 2, 192, .inr (.inl f_ledz_4))), (m_newAt, .inl (E.2.1 1, 24, .inl f_newAt)), (m_knowing, .inl (E.2.1 1, 4, .inl f_knowing)), (m_firsts, .inl (E.2.1 1, 4, .inl f_firsts)), (m_secrets, .inl (E.2.1 1, 4, .inl f_secrets)), (m_tried, .inl (E.2.1 1, 4, .inl f_tried)), (m_lanes, .inl (E.2.1 1, 4, .inl f_lanes)), (m_lengths, .inl (E.2.1 1, 4, .inl f_lengths)), (m_cells, .inl (E.2.1 1, 192, .inl f_cells))]) [26, 27, 0, 29, 28, 1, 2, 3, 4, 5, 6, 7, 8, 9, 10, 11, 12, 13, 14, 15, 16, 17, 30, 31, 18, 19, 20, 21, 22, 23, 24, 25] rfl rfl ?_
  exact kont rr  [(hm, .inr (12, [.ref m_manys, .ref m_reals, .ref m_factsOf, .ref m_possible, .int (nI q_undos), .int (nI q_models), .ref m_tape, .int (nI q_taped), .int q_fault, .int q_wrong, .int q_wrongAt, .int q_spot, .int q_place, .int (nI q_token), .int (nI q_value), .ref m_ends, .ref m_letters, .ref m_actOf, .ref m_whom, .ref m_actMany, .ref m_tokens, .ref m_afters, .ref m_afterOf, .int q_counted, .ref m_pile, .ref m_caseMany, .ref m_happen, .ref m_hasIf, .ref m_becomes, .ref m_goneOf, .ref m_heard, .ref m_pairs, .ref m_heaps, .int rz__1, .int hmz_2, .ref m_led, .ref m_newAt, .ref m_knowing, .ref m_firsts, .int (nI q_people), .ref m_secrets, .ref m_tried, .ref m_lanes, .ref m_lengths, .ref m_cells])), (m_manys, .inl (E.2.1 1, 18, .inl f_manys)), (m_reals, .inl (E.2.1 1, 18, .inl f_reals)), (m_factsOf, .inl (E.2.1 1, 432, .inl f_factsOf)), (m_possible, .inl (E.2.1 1, 1728, .inl f_possible)), (m_tape, .inl (E.2.1 1, 160, .inl f_tape)), (m_ends, .inl (E.2.1 1, 15, .inl f_ends)), (m_letters, .inl (E.2.1 1, 50, .inl f_letters)), (m_actOf, .inl (E.2.1 1, 800, .inl f_actOf)), (m_whom, .inl (E.2.1 1, 800, .inl f_whom)), (m_actMany, .inl (E.2.1 1, 25, .inl f_actMany)), (m_tokens, .inl (E.2.1 1, 9, .inl f_tokens)), (m_afters, .inl (E.2.1 1, 9, .inl f_afters)), (m_afterOf, .inl (E.2.1 1, 18, .inl f_afterOf)), (m_pile, .inl (E.2.1 1, 34, .inl f_pile)), (m_caseMany, .inl (E.2.1 1, 4, .inl f_caseMany)), (m_happen, .inl (E.2.1 1, 4, .inl f_happen)), (m_hasIf, .inl (E.2.1 3, 16, .inl f_hasIf)), (m_becomes, .inl (E.2.1 1, 16, .inl f_becomes)), (m_goneOf, .inl (E.2.1 1, 16, .inl f_goneOf)), (m_heard, .inl (E.2.1 1, 64, .inl f_heard)), (m_pairs, .inl (E.2.1 1, 576, .inl f_pairs)), (m_heaps, .inl (E.2.1 1, 2400, .inl f_heapsz_3)), (m_led, .inl (E.2.1 2, 192, .inr (.inl f_ledz_4))), (m_newAt, .inl (E.2.1 1, 24, .inl f_newAt)), (m_knowing, .inl (E.2.1 1, 4, .inl f_knowing)), (m_firsts, .inl (E.2.1 1, 4, .inl f_firsts)), (m_secrets, .inl (E.2.1 1, 4, .inl f_secrets)), (m_tried, .inl (E.2.1 1, 4, .inl f_tried)), (m_lanes, .inl (E.2.1 1, 4, .inl f_lanes)), (m_lengths, .inl (E.2.1 1, 4, .inl f_lengths)), (m_cells, .inl (E.2.1 1, 192, .inl f_cells))] ⟨m_manys, m_reals, m_factsOf, m_possible, q_undos, q_models, m_tape, q_fault, q_wrong, q_wrongAt, q_spot, q_place, q_token, q_value, m_ends, m_letters, m_actOf, m_whom, m_actMany, m_tokens, m_afters, m_afterOf, q_counted, m_pile, m_caseMany, m_happen, m_hasIf, m_becomes, m_goneOf, m_heard, m_pairs, m_heaps, rz__1, hmz_2, m_led, m_newAt, m_knowing, m_firsts, m_secrets, m_tried, m_lanes, m_lengths, m_cells, f_manys, f_reals, f_factsOf, f_possible, f_tape, f_ends, f_letters, f_actOf, f_whom, f_actMany, f_tokens, f_afters, f_afterOf, f_pile, f_caseMany, f_happen, f_hasIf, f_becomes, f_goneOf, f_heard, f_pairs, f_heapsz_3, f_ledz_4, f_newAt, f_knowing, f_firsts, f_tried, f_cells, rfl, hb_manys, hb_reals, hb_ends, hb_actMany, hb_afters, hb_afterOf, hb_caseMany, hb_happen, hb_lengths, hpg, hhp, hsv, (by first | assumption | omega), (by first | assumption | omega), (by first | assumption | omega), (by first | assumption | omega), (by first | assumption | omega), (by first | assumption | omega)⟩ (trivial)
theorem wc_X12_melt : Cond.code yX12_melt cX12_melt 6 (some .int) ∈ TB := tbm (tq7 (List.mem_of_getElem? (i := 0) (rfl))) (by decide +kernel)
theorem wi_X12_melt : Cond.instanceMethod yX12_melt ∈ TB := tbm (tq6 (List.mem_of_getElem? (i := 238) (by decide +kernel))) (by decide +kernel)
theorem ws_X12_melt : Cond.selects RX12 yX12_melt yX12_melt ∈ TB := tbm (tq6 (List.mem_of_getElem? (i := 239) (by decide +kernel))) (by decide +kernel)
theorem mi_X12_melt : MI yX12_melt cX12_melt 6 (some .int) 0 := ⟨wc_X12_melt, wn_X12, ⟨by decide +kernel, by decide +kernel, by decide +kernel⟩, wi_X12_melt, ws_X12_melt⟩
theorem wl_L_114 : Cond.methodLink RL 114 yX12_melt ∈ TB := tbm (tq6 (List.mem_of_getElem? (i := 237) (by decide +kernel))) (by decide +kernel)
theorem dL_law_980 : decode cL_law 980 = .ok (.invokevirtual 114, 3) := by decide +kernel
set_option maxRecDepth 100000 in
set_option maxHeartbeats 4000000 in
theorem lm_melt {X : XT} {E : EV} {wT wm : va_W} {lv : List (Nat × Value)} {rest : List Value} {kC nC : Nat} {hm : Nat} {q_taped : Nat} {q_people : Nat} {f_secrets : Nat → Int32} {f_lanes : Nat → Int32} {f_lengths : Nat → Int32} (C : CX X room_1 cL_law 4 RL ret E) (hW : Nat.ble (rest.map fun v => v.category).sum 8 = true) (hk : kC ≤ 600000 ∧ nC ≤ 7302250) (H_ref : ok_ref E [] hm q_taped q_people f_secrets f_lanes f_lengths wm) (kont : ∀ (rr : Int32) (wmZ : va_W), ok_ref E [] hm q_taped q_people f_secrets f_lanes f_lengths wmZ → (True) → WW X 4 E 983 lv (.int rr :: rest) (wmZ ++ wT) kC nC) : WW X 4 E 980 lv (.ref hm :: rest) (wm ++ wT) kC nC := by
  unfold ok_ref at H_ref
  refine ex8 H_ref ?_
  clear H_ref
  intro m_manys m_reals m_factsOf m_possible q_undos q_models m_tape q_fault H_ref
  refine ex8 H_ref ?_
  clear H_ref
  intro q_wrong q_wrongAt q_spot q_place q_token q_value m_ends m_letters H_ref
  refine ex8 H_ref ?_
  clear H_ref
  intro m_actOf m_whom m_actMany m_tokens m_afters m_afterOf q_counted m_pile H_ref
  refine ex8 H_ref ?_
  clear H_ref
  intro m_caseMany m_happen m_hasIf m_becomes m_goneOf m_heard m_pairs m_heaps H_ref
  refine ex8 H_ref ?_
  clear H_ref
  intro q_rounds q_heapMany m_led m_newAt m_knowing m_firsts m_secrets m_tried H_ref
  refine ex8 H_ref ?_
  clear H_ref
  intro m_lanes m_lengths m_cells f_manys f_reals f_factsOf f_possible f_tape H_ref
  refine ex8 H_ref ?_
  clear H_ref
  intro f_ends f_letters f_actOf f_whom f_actMany f_tokens f_afters f_afterOf H_ref
  refine ex8 H_ref ?_
  clear H_ref
  intro f_pile f_caseMany f_happen f_hasIf f_becomes f_goneOf f_heard f_pairs H_ref
  refine ex7 H_ref ?_
  clear H_ref
  intro f_heaps f_led f_newAt f_knowing f_firsts f_tried f_cells H_ref
  refine an8 H_ref ?_
  clear H_ref
  intro we_ref hb_manys hb_reals hb_ends hb_actMany hb_afters hb_afterOf hb_caseMany H_ref
  refine an8 H_ref ?_
  clear H_ref
  intro hb_happen hb_lengths hpg hhp hsv hq_undos hq_models hq_taped H_ref
  refine an2 H_ref ?_
  clear H_ref
  intro hq_people hq_token H_ref
  have hq_value := H_ref
  clear H_ref
  subst we_ref
  refine ww_ciT (k' := kC) (n' := nC) (wr := [(m_tape, .inl (E.2.1 1, 160, .inl f_tape)), (m_ends, .inl (E.2.1 1, 15, .inl f_ends)), (m_letters, .inl (E.2.1 1, 50, .inl f_letters)), (m_actOf, .inl (E.2.1 1, 800, .inl f_actOf)), (m_whom, .inl (E.2.1 1, 800, .inl f_whom)), (m_actMany, .inl (E.2.1 1, 25, .inl f_actMany)), (m_tokens, .inl (E.2.1 1, 9, .inl f_tokens)), (m_afters, .inl (E.2.1 1, 9, .inl f_afters)), (m_afterOf, .inl (E.2.1 1, 18, .inl f_afterOf)), (m_pile, .inl (E.2.1 1, 34, .inl f_pile)), (m_caseMany, .inl (E.2.1 1, 4, .inl f_caseMany)), (m_happen, .inl (E.2.1 1, 4, .inl f_happen)), (m_hasIf, .inl (E.2.1 3, 16, .inl f_hasIf)), (m_becomes, .inl (E.2.1 1, 16, .inl f_becomes)), (m_goneOf, .inl (E.2.1 1, 16, .inl f_goneOf)), (m_heard, .inl (E.2.1 1, 64, .inl f_heard)), (m_pairs, .inl (E.2.1 1, 576, .inl f_pairs)), (m_knowing, .inl (E.2.1 1, 4, .inl f_knowing)), (m_firsts, .inl (E.2.1 1, 4, .inl f_firsts)), (m_secrets, .inl (E.2.1 1, 4, .inl f_secrets)), (m_tried, .inl (E.2.1 1, 4, .inl f_tried)), (m_lanes, .inl (E.2.1 1, 4, .inl f_lanes)), (m_lengths, .inl (E.2.1 1, 4, .inl f_lengths)), (m_cells, .inl (E.2.1 1, 192, .inl f_cells))]) C (run_V (As := []) (rest := rest) C (y_melt X.2.1 E [] hm m_manys m_reals m_factsOf m_possible q_undos q_models m_tape q_taped q_fault q_wrong q_wrongAt q_spot q_place (nI q_token) (nI q_value) m_ends m_letters m_actOf m_whom m_actMany m_tokens m_afters m_afterOf q_counted m_pile m_caseMany m_happen m_hasIf m_becomes m_goneOf m_heard m_pairs m_heaps q_rounds q_heapMany m_led m_newAt m_knowing m_firsts q_people m_secrets m_tried m_lanes m_lengths m_cells f_manys f_reals f_factsOf f_possible f_heaps f_led f_newAt hb_manys hb_reals hpg (by first | assumption | omega)) mi_X12_melt wl_L_114 rfl 0 12 rfl rfl rfl rfl hW dL_law_980) ro0 [0, 1, 2, 3, 4, 22, 23, 24] [5, 6, 7, 8, 9, 10, 11, 12, 13, 14, 15, 16, 17, 18, 19, 20, 21, 25, 26, 27, 28, 29, 30, 31] rfl rfl rfl ⟨by omega, by omega, hk.1, hk.2⟩ (fun rr u hw => ?_)
  refine ex8 hw ?_
  clear hw
  intro uz__1 rz__2 hmz_3 f_manysz_4 f_realsz_5 f_factsOfz_6 f_possiblez_7 f_heapsz_8 hw
  refine ex2 hw ?_
  clear hw
  intro f_ledz_9 f_newAtz_10 hw
  refine an4 hw ?_
  clear hw
  intro he_u h_11 h_12 h_13 hw
  have h_14 := hw
  clear hw
  subst he_u
  refine ww_subT (w1 := [(hm, .inr (12, [.ref m_manys, .ref m_reals, .ref m_factsOf, .ref m_possible, .int (nI uz__1), .int (nI q_models), .ref m_tape, .int (nI q_taped), .int q_fault, .int q_wrong, .int q_wrongAt, .int q_spot, .int q_place, .int (nI q_token), .int (nI q_value), .ref m_ends, .ref m_letters, .ref m_actOf, .ref m_whom, .ref m_actMany, .ref m_tokens, .ref m_afters, .ref m_afterOf, .int q_counted, .ref m_pile, .ref m_caseMany, .ref m_happen, .ref m_hasIf, .ref m_becomes, .ref m_goneOf, .ref m_heard, .ref m_pairs, .ref m_heaps, .int rz__2, .int hmz_3, .ref m_led, .ref m_newAt, .ref m_knowing, .ref m_firsts, .int (nI q_people), .ref m_secrets, .ref m_tried, .ref m_lanes, .ref m_lengths, .ref m_cells])), (m_manys, .inl (E.2.1 1, 18, .inl f_manysz_4)), (m_reals, .inl (E.2.1 1, 18, .inl f_realsz_5)), (m_factsOf, .inl (E.2.1 1, 432, .inl f_factsOfz_6)), (m_possible, .inl (E.2.1 1, 1728, .inl f_possiblez_7)), (m_tape, .inl (E.2.1 1, 160, .inl f_tape)), (m_ends, .inl (E.2.1 1, 15, .inl f_ends)), (m_letters, .inl (E.2.1 1, 50, .inl f_letters)), (m_actOf, .inl (E.2.1 1, 800, .inl f_actOf)), (m_whom, .inl (E.2.1 1, 800, .inl f_whom)), (m_actMany, .inl (E.2.1 1, 25, .inl f_actMany)), (m_tokens, .inl (E.2.1 1, 9, .inl f_tokens)), (m_afters, .inl (E.2.1 1, 9, .inl f_afters)), (m_afterOf, .inl (E.2.1 1, 18, .inl f_afterOf)), (m_pile, .inl (E.2.1 1, 34, .inl f_pile)), (m_caseMany, .inl (E.2.1 1, 4, .inl f_caseMany)), (m_happen, .inl (E.2.1 1, 4, .inl f_happen)), (m_hasIf, .inl (E.2.1 3, 16, .inl f_hasIf)), (m_becomes, .inl (E.2.1 1, 16, .inl f_becomes)), (m_goneOf, .inl (E.2.1 1, 16, .inl f_goneOf)), (m_heard, .inl (E.2.1 1, 64, .inl f_heard)), (m_pairs, .inl (E.2.1 1, 576, .inl f_pairs)), (m_heaps, .inl (E.2.1 1, 2400, .inl f_heapsz_8)), (m_led, .inl (E.2.1 2, 192, .inr (.inl f_ledz_9))), (m_newAt, .inl (E.2.1 1, 24, .inl f_newAtz_10)), (m_knowing, .inl (E.2.1 1, 4, .inl f_knowing)), (m_firsts, .inl (E.2.1 1, 4, .inl f_firsts)), (m_secrets, .inl (E.2.1 1, 4, .inl f_secrets)), (m_tried, .inl (E.2.1 1, 4, .inl f_tried)), (m_lanes, .inl (E.2.1 1, 4, .inl f_lanes)), (m_lengths, .inl (E.2.1 1, 4, .inl f_lengths)), (m_cells, .inl (E.2.1 1, 192, .inl f_cells))]) [24, 25, 26, 27, 28, 0, 1, 2, 3, 4, 5, 6, 7, 8, 9, 10, 11, 12, 13, 14, 15, 16, 29, 30, 31, 17, 18, 19, 20, 21, 22, 23] rfl rfl ?_
  exact kont rr  [(hm, .inr (12, [.ref m_manys, .ref m_reals, .ref m_factsOf, .ref m_possible, .int (nI uz__1), .int (nI q_models), .ref m_tape, .int (nI q_taped), .int q_fault, .int q_wrong, .int q_wrongAt, .int q_spot, .int q_place, .int (nI q_token), .int (nI q_value), .ref m_ends, .ref m_letters, .ref m_actOf, .ref m_whom, .ref m_actMany, .ref m_tokens, .ref m_afters, .ref m_afterOf, .int q_counted, .ref m_pile, .ref m_caseMany, .ref m_happen, .ref m_hasIf, .ref m_becomes, .ref m_goneOf, .ref m_heard, .ref m_pairs, .ref m_heaps, .int rz__2, .int hmz_3, .ref m_led, .ref m_newAt, .ref m_knowing, .ref m_firsts, .int (nI q_people), .ref m_secrets, .ref m_tried, .ref m_lanes, .ref m_lengths, .ref m_cells])), (m_manys, .inl (E.2.1 1, 18, .inl f_manysz_4)), (m_reals, .inl (E.2.1 1, 18, .inl f_realsz_5)), (m_factsOf, .inl (E.2.1 1, 432, .inl f_factsOfz_6)), (m_possible, .inl (E.2.1 1, 1728, .inl f_possiblez_7)), (m_tape, .inl (E.2.1 1, 160, .inl f_tape)), (m_ends, .inl (E.2.1 1, 15, .inl f_ends)), (m_letters, .inl (E.2.1 1, 50, .inl f_letters)), (m_actOf, .inl (E.2.1 1, 800, .inl f_actOf)), (m_whom, .inl (E.2.1 1, 800, .inl f_whom)), (m_actMany, .inl (E.2.1 1, 25, .inl f_actMany)), (m_tokens, .inl (E.2.1 1, 9, .inl f_tokens)), (m_afters, .inl (E.2.1 1, 9, .inl f_afters)), (m_afterOf, .inl (E.2.1 1, 18, .inl f_afterOf)), (m_pile, .inl (E.2.1 1, 34, .inl f_pile)), (m_caseMany, .inl (E.2.1 1, 4, .inl f_caseMany)), (m_happen, .inl (E.2.1 1, 4, .inl f_happen)), (m_hasIf, .inl (E.2.1 3, 16, .inl f_hasIf)), (m_becomes, .inl (E.2.1 1, 16, .inl f_becomes)), (m_goneOf, .inl (E.2.1 1, 16, .inl f_goneOf)), (m_heard, .inl (E.2.1 1, 64, .inl f_heard)), (m_pairs, .inl (E.2.1 1, 576, .inl f_pairs)), (m_heaps, .inl (E.2.1 1, 2400, .inl f_heapsz_8)), (m_led, .inl (E.2.1 2, 192, .inr (.inl f_ledz_9))), (m_newAt, .inl (E.2.1 1, 24, .inl f_newAtz_10)), (m_knowing, .inl (E.2.1 1, 4, .inl f_knowing)), (m_firsts, .inl (E.2.1 1, 4, .inl f_firsts)), (m_secrets, .inl (E.2.1 1, 4, .inl f_secrets)), (m_tried, .inl (E.2.1 1, 4, .inl f_tried)), (m_lanes, .inl (E.2.1 1, 4, .inl f_lanes)), (m_lengths, .inl (E.2.1 1, 4, .inl f_lengths)), (m_cells, .inl (E.2.1 1, 192, .inl f_cells))] ⟨m_manys, m_reals, m_factsOf, m_possible, uz__1, q_models, m_tape, q_fault, q_wrong, q_wrongAt, q_spot, q_place, q_token, q_value, m_ends, m_letters, m_actOf, m_whom, m_actMany, m_tokens, m_afters, m_afterOf, q_counted, m_pile, m_caseMany, m_happen, m_hasIf, m_becomes, m_goneOf, m_heard, m_pairs, m_heaps, rz__2, hmz_3, m_led, m_newAt, m_knowing, m_firsts, m_secrets, m_tried, m_lanes, m_lengths, m_cells, f_manysz_4, f_realsz_5, f_factsOfz_6, f_possiblez_7, f_tape, f_ends, f_letters, f_actOf, f_whom, f_actMany, f_tokens, f_afters, f_afterOf, f_pile, f_caseMany, f_happen, f_hasIf, f_becomes, f_goneOf, f_heard, f_pairs, f_heapsz_8, f_ledz_9, f_newAtz_10, f_knowing, f_firsts, f_tried, f_cells, rfl, h_12, h_13, hb_ends, hb_actMany, hb_afters, hb_afterOf, hb_caseMany, hb_happen, hb_lengths, h_14, hhp, hsv, (by first | assumption | omega), (by first | assumption | omega), (by first | assumption | omega), (by first | assumption | omega), (by first | assumption | omega), (by first | assumption | omega)⟩ (trivial)
