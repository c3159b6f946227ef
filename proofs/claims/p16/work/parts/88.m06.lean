theorem wc_X12_world : Cond.code yX12_world cX12_world 2 (some .int) ∈ TB := tbm (tq5 (List.mem_of_getElem? (i := 218) (rfl))) (by decide +kernel)
theorem wi_X12_world : Cond.instanceMethod yX12_world ∈ TB := tbm (tq5 (List.mem_of_getElem? (i := 216) (by decide +kernel))) (by decide +kernel)
theorem ws_X12_world : Cond.selects RX12 yX12_world yX12_world ∈ TB := tbm (tq5 (List.mem_of_getElem? (i := 217) (by decide +kernel))) (by decide +kernel)
theorem mi_X12_world : MI yX12_world cX12_world 2 (some .int) 1 := ⟨wc_X12_world, wn_X12, ⟨by decide +kernel, by decide +kernel, by decide +kernel⟩, wi_X12_world, ws_X12_world⟩
theorem wl_L_17 : Cond.methodLink RL 17 yX12_world ∈ TB := tbm (tq5 (List.mem_of_getElem? (i := 215) (by decide +kernel))) (by decide +kernel)
theorem dL_law_216 : decode cL_law 216 = .ok (.invokevirtual 17, 3) := by decide +kernel
set_option maxRecDepth 100000 in
set_option maxHeartbeats 4000000 in
theorem lm_world {X : XT} {E : EV} {wT wm : va_W} {lv : List (Nat × Value)} {rest : List Value} {kC nC : Nat} {hm : Nat} {q_taped : Nat} {cr : Nat → Int} {q_people : Nat} {f_secrets : Nat → Int32} {f_lanes : Nat → Int32} {f_lengths : Nat → Int32} {f_cells : Nat → Int32} {f_tokens : Nat → Int32} {f_afters : Nat → Int32} {f_caseMany : Nat → Int32} {f_happen : Nat → Int32} {f_heard : Nat → Int32} {v0 : Int32} (C : CX X room_1 cL_law 4 RL ret E) (hW : Nat.ble (rest.map fun v => v.category).sum 8 = true) (hk : kC ≤ 600000 ∧ nC ≤ 7302250) (H_ref : ok_ref E [] hm q_taped cr q_people f_secrets f_lanes f_lengths f_cells f_tokens f_afters f_caseMany f_happen f_heard wm) (kont : ∀ (rr : Int32) (wmZ : va_W), ok_ref E [] hm q_taped cr q_people f_secrets f_lanes f_lengths f_cells f_tokens f_afters f_caseMany f_happen f_heard wmZ → (True) → WW X 4 E 219 lv (.int rr :: rest) (wmZ ++ wT) kC nC) : WW X 4 E 216 lv (.int v0 :: .ref hm :: rest) (wm ++ wT) kC nC := by
  unfold ok_ref at H_ref
  refine ex8 H_ref ?_
  clear H_ref
  intro m_manys m_reals m_factsOf m_possible q_undos q_models m_tape q_fault H_ref
  refine ex8 H_ref ?_
  clear H_ref
  intro q_wrong q_wrongAt q_spot q_place q_token q_value m_ends m_letters H_ref
  refine ex8 H_ref ?_
  clear H_ref
  intro m_actOf m_whom m_actMany m_tokens m_afters m_afterOf q_counted m_pile H_ref
  refine ex8 H_ref ?_
  clear H_ref
  intro m_caseMany m_happen m_hasIf m_becomes m_goneOf m_heard m_pairs m_heaps H_ref
  refine ex8 H_ref ?_
  clear H_ref
  intro q_rounds q_heapMany m_led m_newAt m_knowing m_firsts m_secrets m_tried H_ref
  refine ex8 H_ref ?_
  clear H_ref
  intro m_lanes m_lengths m_cells f_manys f_reals f_factsOf f_possible f_tape H_ref
  refine ex8 H_ref ?_
  clear H_ref
  intro f_ends f_letters f_actOf f_whom f_actMany f_afterOf f_pile f_hasIf H_ref
  refine ex8 H_ref ?_
  clear H_ref
  intro f_becomes f_goneOf f_pairs f_heaps f_led f_newAt f_knowing f_firsts H_ref
  refine ex1 H_ref ?_
  clear H_ref
  intro f_tried H_ref
  refine an8 H_ref ?_
  clear H_ref
  intro we_ref hb_manys hb_reals hb_tape hb_ends hb_letters hb_actMany hb_afters H_ref
  refine an8 H_ref ?_
  clear H_ref
  intro hb_afterOf hb_caseMany hb_happen hb_lengths hpg hhp hsv hq_undos H_ref
  refine an5 H_ref ?_
  clear H_ref
  intro hq_models hq_taped hq_people hq_token hq_value H_ref
  have hcr := H_ref
  clear H_ref
  subst we_ref
  subst hcr
  refine ww_ciT (k' := kC) (n' := nC) (wr := [(m_tape, .inl (E.2.1 1, 160, .inl f_tape)), (m_ends, .inl (E.2.1 1, 15, .inl f_ends)), (m_letters, .inl (E.2.1 1, 50, .inl f_letters)), (m_actOf, .inl (E.2.1 1, 800, .inl f_actOf)), (m_whom, .inl (E.2.1 1, 800, .inl f_whom)), (m_actMany, .inl (E.2.1 1, 25, .inl f_actMany)), (m_tokens, .inl (E.2.1 1, 9, .inl f_tokens)), (m_afters, .inl (E.2.1 1, 9, .inl f_afters)), (m_afterOf, .inl (E.2.1 1, 18, .inl f_afterOf)), (m_pile, .inl (E.2.1 1, 34, .inl f_pile)), (m_caseMany, .inl (E.2.1 1, 4, .inl f_caseMany)), (m_happen, .inl (E.2.1 1, 4, .inl f_happen)), (m_hasIf, .inl (E.2.1 3, 16, .inl f_hasIf)), (m_becomes, .inl (E.2.1 1, 16, .inl f_becomes)), (m_goneOf, .inl (E.2.1 1, 16, .inl f_goneOf)), (m_heard, .inl (E.2.1 1, 64, .inl f_heard)), (m_pairs, .inl (E.2.1 1, 576, .inl f_pairs)), (m_heaps, .inl (E.2.1 1, 2400, .inl f_heaps)), (m_led, .inl (E.2.1 2, 192, .inr (.inl f_led))), (m_newAt, .inl (E.2.1 1, 24, .inl f_newAt)), (m_knowing, .inl (E.2.1 1, 4, .inl f_knowing)), (m_firsts, .inl (E.2.1 1, 4, .inl f_firsts)), (m_secrets, .inl (E.2.1 1, 4, .inl f_secrets)), (m_tried, .inl (E.2.1 1, 4, .inl f_tried)), (m_lanes, .inl (E.2.1 1, 4, .inl f_lanes)), (m_lengths, .inl (E.2.1 1, 4, .inl f_lengths)), (m_cells, .inl (E.2.1 1, 192, .inl f_cells))]) C (run_V (As := [.int v0]) (rest := rest) C (y_world X.2.1 E [] hm v0 m_manys m_reals m_factsOf m_possible q_undos q_models m_tape q_taped q_fault q_wrong q_wrongAt q_spot q_place (nI q_token) (nI q_value) m_ends m_letters m_actOf m_whom m_actMany m_tokens m_afters m_afterOf q_counted m_pile m_caseMany m_happen m_hasIf m_becomes m_goneOf m_heard m_pairs m_heaps q_rounds q_heapMany m_led m_newAt m_knowing m_firsts q_people m_secrets m_tried m_lanes m_lengths m_cells f_manys f_reals f_factsOf f_possible hb_manys hb_reals hpg (by first | assumption | omega)) mi_X12_world wl_L_17 rfl 0 12 rfl rfl rfl rfl hW dL_law_216) ro0 [0, 1, 2, 3, 4] [5, 6, 7, 8, 9, 10, 11, 12, 13, 14, 15, 16, 17, 18, 19, 20, 21, 22, 23, 24, 25, 26, 27, 28, 29, 30, 31] rfl rfl rfl ⟨by omega, by omega, hk.1, hk.2⟩ (fun rr u hw => ?_)
  refine ex5 hw ?_
  clear hw
  intro uz__1 f_manysz_2 f_realsz_3 f_factsOfz_4 f_possiblez_5 hw
  refine an4 hw ?_
  clear hw
  intro he_u h_6 h_7 h_8 hw
  have h_9 := hw
  clear hw
  subst he_u
  refine ww_subT (w1 := [(hm, .inr (12, [.ref m_manys, .ref m_reals, .ref m_factsOf, .ref m_possible, .int (nI uz__1), .int (nI q_models), .ref m_tape, .int (nI q_taped), .int q_fault, .int q_wrong, .int q_wrongAt, .int q_spot, .int q_place, .int (nI q_token), .int (nI q_value), .ref m_ends, .ref m_letters, .ref m_actOf, .ref m_whom, .ref m_actMany, .ref m_tokens, .ref m_afters, .ref m_afterOf, .int q_counted, .ref m_pile, .ref m_caseMany, .ref m_happen, .ref m_hasIf, .ref m_becomes, .ref m_goneOf, .ref m_heard, .ref m_pairs, .ref m_heaps, .int q_rounds, .int q_heapMany, .ref m_led, .ref m_newAt, .ref m_knowing, .ref m_firsts, .int (nI q_people), .ref m_secrets, .ref m_tried, .ref m_lanes, .ref m_lengths, .ref m_cells])), (m_manys, .inl (E.2.1 1, 18, .inl f_manysz_2)), (m_reals, .inl (E.2.1 1, 18, .inl f_realsz_3)), (m_factsOf, .inl (E.2.1 1, 432, .inl f_factsOfz_4)), (m_possible, .inl (E.2.1 1, 1728, .inl f_possiblez_5)), (m_tape, .inl (E.2.1 1, 160, .inl f_tape)), (m_ends, .inl (E.2.1 1, 15, .inl f_ends)), (m_letters, .inl (E.2.1 1, 50, .inl f_letters)), (m_actOf, .inl (E.2.1 1, 800, .inl f_actOf)), (m_whom, .inl (E.2.1 1, 800, .inl f_whom)), (m_actMany, .inl (E.2.1 1, 25, .inl f_actMany)), (m_tokens, .inl (E.2.1 1, 9, .inl f_tokens)), (m_afters, .inl (E.2.1 1, 9, .inl f_afters)), (m_afterOf, .inl (E.2.1 1, 18, .inl f_afterOf)), (m_pile, .inl (E.2.1 1, 34, .inl f_pile)), (m_caseMany, .inl (E.2.1 1, 4, .inl f_caseMany)), (m_happen, .inl (E.2.1 1, 4, .inl f_happen)), (m_hasIf, .inl (E.2.1 3, 16, .inl f_hasIf)), (m_becomes, .inl (E.2.1 1, 16, .inl f_becomes)), (m_goneOf, .inl (E.2.1 1, 16, .inl f_goneOf)), (m_heard, .inl (E.2.1 1, 64, .inl f_heard)), (m_pairs, .inl (E.2.1 1, 576, .inl f_pairs)), (m_heaps, .inl (E.2.1 1, 2400, .inl f_heaps)), (m_led, .inl (E.2.1 2, 192, .inr (.inl f_led))), (m_newAt, .inl (E.2.1 1, 24, .inl f_newAt)), (m_knowing, .inl (E.2.1 1, 4, .inl f_knowing)), (m_firsts, .inl (E.2.1 1, 4, .inl f_firsts)), (m_secrets, .inl (E.2.1 1, 4, .inl f_secrets)), (m_tried, .inl (E.2.1 1, 4, .inl f_tried)), (m_lanes, .inl (E.2.1 1, 4, .inl f_lanes)), (m_lengths, .inl (E.2.1 1, 4, .inl f_lengths)), (m_cells, .inl (E.2.1 1, 192, .inl f_cells))]) [27, 28, 29, 30, 31, 0, 1, 2, 3, 4, 5, 6, 7, 8, 9, 10, 11, 12, 13, 14, 15, 16, 17, 18, 19, 20, 21, 22, 23, 24, 25, 26] rfl rfl ?_
  exact kont rr  [(hm, .inr (12, [.ref m_manys, .ref m_reals, .ref m_factsOf, .ref m_possible, .int (nI uz__1), .int (nI q_models), .ref m_tape, .int (nI q_taped), .int q_fault, .int q_wrong, .int q_wrongAt, .int q_spot, .int q_place, .int (nI q_token), .int (nI q_value), .ref m_ends, .ref m_letters, .ref m_actOf, .ref m_whom, .ref m_actMany, .ref m_tokens, .ref m_afters, .ref m_afterOf, .int q_counted, .ref m_pile, .ref m_caseMany, .ref m_happen, .ref m_hasIf, .ref m_becomes, .ref m_goneOf, .ref m_heard, .ref m_pairs, .ref m_heaps, .int q_rounds, .int q_heapMany, .ref m_led, .ref m_newAt, .ref m_knowing, .ref m_firsts, .int (nI q_people), .ref m_secrets, .ref m_tried, .ref m_lanes, .ref m_lengths, .ref m_cells])), (m_manys, .inl (E.2.1 1, 18, .inl f_manysz_2)), (m_reals, .inl (E.2.1 1, 18, .inl f_realsz_3)), (m_factsOf, .inl (E.2.1 1, 432, .inl f_factsOfz_4)), (m_possible, .inl (E.2.1 1, 1728, .inl f_possiblez_5)), (m_tape, .inl (E.2.1 1, 160, .inl f_tape)), (m_ends, .inl (E.2.1 1, 15, .inl f_ends)), (m_letters, .inl (E.2.1 1, 50, .inl f_letters)), (m_actOf, .inl (E.2.1 1, 800, .inl f_actOf)), (m_whom, .inl (E.2.1 1, 800, .inl f_whom)), (m_actMany, .inl (E.2.1 1, 25, .inl f_actMany)), (m_tokens, .inl (E.2.1 1, 9, .inl f_tokens)), (m_afters, .inl (E.2.1 1, 9, .inl f_afters)), (m_afterOf, .inl (E.2.1 1, 18, .inl f_afterOf)), (m_pile, .inl (E.2.1 1, 34, .inl f_pile)), (m_caseMany, .inl (E.2.1 1, 4, .inl f_caseMany)), (m_happen, .inl (E.2.1 1, 4, .inl f_happen)), (m_hasIf, .inl (E.2.1 3, 16, .inl f_hasIf)), (m_becomes, .inl (E.2.1 1, 16, .inl f_becomes)), (m_goneOf, .inl (E.2.1 1, 16, .inl f_goneOf)), (m_heard, .inl (E.2.1 1, 64, .inl f_heard)), (m_pairs, .inl (E.2.1 1, 576, .inl f_pairs)), (m_heaps, .inl (E.2.1 1, 2400, .inl f_heaps)), (m_led, .inl (E.2.1 2, 192, .inr (.inl f_led))), (m_newAt, .inl (E.2.1 1, 24, .inl f_newAt)), (m_knowing, .inl (E.2.1 1, 4, .inl f_knowing)), (m_firsts, .inl (E.2.1 1, 4, .inl f_firsts)), (m_secrets, .inl (E.2.1 1, 4, .inl f_secrets)), (m_tried, .inl (E.2.1 1, 4, .inl f_tried)), (m_lanes, .inl (E.2.1 1, 4, .inl f_lanes)), (m_lengths, .inl (E.2.1 1, 4, .inl f_lengths)), (m_cells, .inl (E.2.1 1, 192, .inl f_cells))] ⟨m_manys, m_reals, m_factsOf, m_possible, uz__1, q_models, m_tape, q_fault, q_wrong, q_wrongAt, q_spot, q_place, q_token, q_value, m_ends, m_letters, m_actOf, m_whom, m_actMany, m_tokens, m_afters, m_afterOf, q_counted, m_pile, m_caseMany, m_happen, m_hasIf, m_becomes, m_goneOf, m_heard, m_pairs, m_heaps, q_rounds, q_heapMany, m_led, m_newAt, m_knowing, m_firsts, m_secrets, m_tried, m_lanes, m_lengths, m_cells, f_manysz_2, f_realsz_3, f_factsOfz_4, f_possiblez_5, f_tape, f_ends, f_letters, f_actOf, f_whom, f_actMany, f_afterOf, f_pile, f_hasIf, f_becomes, f_goneOf, f_pairs, f_heaps, f_led, f_newAt, f_knowing, f_firsts, f_tried, rfl, h_7, h_8, hb_tape, hb_ends, hb_letters, hb_actMany, hb_afters, hb_afterOf, hb_caseMany, hb_happen, hb_lengths, h_9, hhp, hsv, (by first | assumption | omega), (by first | assumption | omega), (by first | assumption | omega), (by first | assumption | omega), (by first | assumption | omega), (by first | assumption | omega), rfl⟩ (trivial)
theorem wc_X12_sees : Cond.code yX12_sees cX12_sees 7 (some .int) ∈ TB := tbm (tq5 (List.mem_of_getElem? (i := 238) (rfl))) (by decide +kernel)
theorem wi_X12_sees : Cond.instanceMethod yX12_sees ∈ TB := tbm (tq5 (List.mem_of_getElem? (i := 236) (by decide +kernel))) (by decide +kernel)
theorem ws_X12_sees : Cond.selects RX12 yX12_sees yX12_sees ∈ TB := tbm (tq5 (List.mem_of_getElem? (i := 237) (by decide +kernel))) (by decide +kernel)
theorem mi_X12_sees : MI yX12_sees cX12_sees 7 (some .int) 5 := ⟨wc_X12_sees, wn_X12, ⟨by decide +kernel, by decide +kernel, by decide +kernel⟩, wi_X12_sees, ws_X12_sees⟩
theorem wl_L_22 : Cond.methodLink RL 22 yX12_sees ∈ TB := tbm (tq5 (List.mem_of_getElem? (i := 235) (by decide +kernel))) (by decide +kernel)
theorem dL_law_311 : decode cL_law 311 = .ok (.invokevirtual 22, 3) := by decide +kernel
set_option maxRecDepth 100000 in
set_option maxHeartbeats 4000000 in
theorem lm_sees {X : XT} {E : EV} {wT wm : va_W} {lv : List (Nat × Value)} {rest : List Value} {kC nC : Nat} {hm : Nat} {q_taped : Nat} {cr : Nat → Int} {q_people : Nat} {f_secrets : Nat → Int32} {f_lanes : Nat → Int32} {f_lengths : Nat → Int32} {f_cells : Nat → Int32} {f_tokens : Nat → Int32} {f_afters : Nat → Int32} {f_caseMany : Nat → Int32} {f_happen : Nat → Int32} {f_heard : Nat → Int32} {v0 : Int32} {v1 : Int32} {v2 : Int32} {v3 : Int32} {v4 : Int32} (C : CX X room_1 cL_law 4 RL ret E) (hW : Nat.ble (rest.map fun v => v.category).sum 8 = true) (hk : kC ≤ 600000 ∧ nC ≤ 7302250) (H_ref : ok_ref E [] hm q_taped cr q_people f_secrets f_lanes f_lengths f_cells f_tokens f_afters f_caseMany f_happen f_heard wm) (kont : ∀ (rr : Int32) (wmZ : va_W), ok_ref E [] hm q_taped cr q_people f_secrets f_lanes f_lengths f_cells f_tokens f_afters f_caseMany f_happen f_heard wmZ → (True) → WW X 4 E 314 lv (.int rr :: rest) (wmZ ++ wT) kC nC) : WW X 4 E 311 lv (.int v4 :: .int v3 :: .int v2 :: .int v1 :: .int v0 :: .ref hm :: rest) (wm ++ wT) kC nC := by
  unfold ok_ref at H_ref
  refine ex8 H_ref ?_
  clear H_ref
  intro m_manys m_reals m_factsOf m_possible q_undos q_models m_tape q_fault H_ref
  refine ex8 H_ref ?_
  clear H_ref
  intro q_wrong q_wrongAt q_spot q_place q_token q_value m_ends m_letters H_ref
  refine ex8 H_ref ?_
  clear H_ref
  intro m_actOf m_whom m_actMany m_tokens m_afters m_afterOf q_counted m_pile H_ref
  refine ex8 H_ref ?_
  clear H_ref
  intro m_caseMany m_happen m_hasIf m_becomes m_goneOf m_heard m_pairs m_heaps H_ref
  refine ex8 H_ref ?_
  clear H_ref
  intro q_rounds q_heapMany m_led m_newAt m_knowing m_firsts m_secrets m_tried H_ref
  refine ex8 H_ref ?_
  clear H_ref
  intro m_lanes m_lengths m_cells f_manys f_reals f_factsOf f_possible f_tape H_ref
  refine ex8 H_ref ?_
  clear H_ref
  intro f_ends f_letters f_actOf f_whom f_actMany f_afterOf f_pile f_hasIf H_ref
  refine ex8 H_ref ?_
  clear H_ref
  intro f_becomes f_goneOf f_pairs f_heaps f_led f_newAt f_knowing f_firsts H_ref
  refine ex1 H_ref ?_
  clear H_ref
  intro f_tried H_ref
  refine an8 H_ref ?_
  clear H_ref
  intro we_ref hb_manys hb_reals hb_tape hb_ends hb_letters hb_actMany hb_afters H_ref
  refine an8 H_ref ?_
  clear H_ref
  intro hb_afterOf hb_caseMany hb_happen hb_lengths hpg hhp hsv hq_undos H_ref
  refine an5 H_ref ?_
  clear H_ref
  intro hq_models hq_taped hq_people hq_token hq_value H_ref
  have hcr := H_ref
  clear H_ref
  subst we_ref
  subst hcr
  refine ww_ciT (k' := kC) (n' := nC) (wr := [(m_tape, .inl (E.2.1 1, 160, .inl f_tape)), (m_ends, .inl (E.2.1 1, 15, .inl f_ends)), (m_letters, .inl (E.2.1 1, 50, .inl f_letters)), (m_actOf, .inl (E.2.1 1, 800, .inl f_actOf)), (m_whom, .inl (E.2.1 1, 800, .inl f_whom)), (m_actMany, .inl (E.2.1 1, 25, .inl f_actMany)), (m_tokens, .inl (E.2.1 1, 9, .inl f_tokens)), (m_afters, .inl (E.2.1 1, 9, .inl f_afters)), (m_afterOf, .inl (E.2.1 1, 18, .inl f_afterOf)), (m_pile, .inl (E.2.1 1, 34, .inl f_pile)), (m_caseMany, .inl (E.2.1 1, 4, .inl f_caseMany)), (m_happen, .inl (E.2.1 1, 4, .inl f_happen)), (m_hasIf, .inl (E.2.1 3, 16, .inl f_hasIf)), (m_becomes, .inl (E.2.1 1, 16, .inl f_becomes)), (m_goneOf, .inl (E.2.1 1, 16, .inl f_goneOf)), (m_heard, .inl (E.2.1 1, 64, .inl f_heard)), (m_pairs, .inl (E.2.1 1, 576, .inl f_pairs)), (m_heaps, .inl (E.2.1 1, 2400, .inl f_heaps)), (m_led, .inl (E.2.1 2, 192, .inr (.inl f_led))), (m_newAt, .inl (E.2.1 1, 24, .inl f_newAt)), (m_knowing, .inl (E.2.1 1, 4, .inl f_knowing)), (m_firsts, .inl (E.2.1 1, 4, .inl f_firsts)), (m_secrets, .inl (E.2.1 1, 4, .inl f_secrets)), (m_tried, .inl (E.2.1 1, 4, .inl f_tried)), (m_lanes, .inl (E.2.1 1, 4, .inl f_lanes)), (m_lengths, .inl (E.2.1 1, 4, .inl f_lengths)), (m_cells, .inl (E.2.1 1, 192, .inl f_cells))]) C (run_V (As := [.int v0, .int v1, .int v2, .int v3, .int v4]) (rest := rest) C (y_sees X.2.1 E [] hm v0 v1 v2 v3 v4 m_manys m_reals m_factsOf m_possible q_undos q_models m_tape q_taped q_fault q_wrong q_wrongAt q_spot q_place (nI q_token) (nI q_value) m_ends m_letters m_actOf m_whom m_actMany m_tokens m_afters m_afterOf q_counted m_pile m_caseMany m_happen m_hasIf m_becomes m_goneOf m_heard m_pairs m_heaps q_rounds q_heapMany m_led m_newAt m_knowing m_firsts q_people m_secrets m_tried m_lanes m_lengths m_cells f_manys f_reals f_factsOf f_possible hb_manys hb_reals hpg (by first | assumption | omega)) mi_X12_sees wl_L_22 rfl 0 12 rfl rfl rfl rfl hW dL_law_311) ro0 [0, 1, 2, 3, 4] [5, 6, 7, 8, 9, 10, 11, 12, 13, 14, 15, 16, 17, 18, 19, 20, 21, 22, 23, 24, 25, 26, 27, 28, 29, 30, 31] rfl rfl rfl ⟨by omega, by omega, hk.1, hk.2⟩ (fun rr u hw => ?_)
  refine ex5 hw ?_
  clear hw
  intro uz__1 f_manysz_2 f_realsz_3 f_factsOfz_4 f_possiblez_5 hw
  refine an4 hw ?_
  clear hw
  intro he_u h_6 h_7 h_8 hw
  have h_9 := hw
  clear hw
  subst he_u
  refine ww_subT (w1 := [(hm, .inr (12, [.ref m_manys, .ref m_reals, .ref m_factsOf, .ref m_possible, .int (nI uz__1), .int (nI q_models), .ref m_tape, .int (nI q_taped), .int q_fault, .int q_wrong, .int q_wrongAt, .int q_spot, .int q_place, .int (nI q_token), .int (nI q_value), .ref m_ends, .ref m_letters, .ref m_actOf, .ref m_whom, .ref m_actMany, .ref m_tokens, .ref m_afters, .ref m_afterOf, .int q_counted, .ref m_pile, .ref m_caseMany, .ref m_happen, .ref m_hasIf, .ref m_becomes, .ref m_goneOf, .ref m_heard, .ref m_pairs, .ref m_heaps, .int q_rounds, .int q_heapMany, .ref m_led, .ref m_newAt, .ref m_knowing, .ref m_firsts, .int (nI q_people), .ref m_secrets, .ref m_tried, .ref m_lanes, .ref m_lengths, .ref m_cells])), (m_manys, .inl (E.2.1 1, 18, .inl f_manysz_2)), (m_reals, .inl (E.2.1 1, 18, .inl f_realsz_3)), (m_factsOf, .inl (E.2.1 1, 432, .inl f_factsOfz_4)), (m_possible, .inl (E.2.1 1, 1728, .inl f_possiblez_5)), (m_tape, .inl (E.2.1 1, 160, .inl f_tape)), (m_ends, .inl (E.2.1 1, 15, .inl f_ends)), (m_letters, .inl (E.2.1 1, 50, .inl f_letters)), (m_actOf, .inl (E.2.1 1, 800, .inl f_actOf)), (m_whom, .inl (E.2.1 1, 800, .inl f_whom)), (m_actMany, .inl (E.2.1 1, 25, .inl f_actMany)), (m_tokens, .inl (E.2.1 1, 9, .inl f_tokens)), (m_afters, .inl (E.2.1 1, 9, .inl f_afters)), (m_afterOf, .inl (E.2.1 1, 18, .inl f_afterOf)), (m_pile, .inl (E.2.1 1, 34, .inl f_pile)), (m_caseMany, .inl (E.2.1 1, 4, .inl f_caseMany)), (m_happen, .inl (E.2.1 1, 4, .inl f_happen)), (m_hasIf, .inl (E.2.1 3, 16, .inl f_hasIf)), (m_becomes, .inl (E.2.1 1, 16, .inl f_becomes)), (m_goneOf, .inl (E.2.1 1, 16, .inl f_goneOf)), (m_heard, .inl (E.2.1 1, 64, .inl f_heard)), (m_pairs, .inl (E.2.1 1, 576, .inl f_pairs)), (m_heaps, .inl (E.2.1 1, 2400, .inl f_heaps)), (m_led, .inl (E.2.1 2, 192, .inr (.inl f_led))), (m_newAt, .inl (E.2.1 1, 24, .inl f_newAt)), (m_knowing, .inl (E.2.1 1, 4, .inl f_knowing)), (m_firsts, .inl (E.2.1 1, 4, .inl f_firsts)), (m_secrets, .inl (E.2.1 1, 4, .inl f_secrets)), (m_tried, .inl (E.2.1 1, 4, .inl f_tried)), (m_lanes, .inl (E.2.1 1, 4, .inl f_lanes)), (m_lengths, .inl (E.2.1 1, 4, .inl f_lengths)), (m_cells, .inl (E.2.1 1, 192, .inl f_cells))]) [27, 28, 29, 30, 31, 0, 1, 2, 3, 4, 5, 6, 7, 8, 9, 10, 11, 12, 13, 14, 15, 16, 17, 18, 19, 20, 21, 22, 23, 24, 25, 26] rfl rfl ?_
  exact kont rr  [(hm, .inr (12, [.ref m_manys, .ref m_reals, .ref m_factsOf, .ref m_possible, .int (nI uz__1), .int (nI q_models), .ref m_tape, .int (nI q_taped), .int q_fault, .int q_wrong, .int q_wrongAt, .int q_spot, .int q_place, .int (nI q_token), .int (nI q_value), .ref m_ends, .ref m_letters, .ref m_actOf, .ref m_whom, .ref m_actMany, .ref m_tokens, .ref m_afters, .ref m_afterOf, .int q_counted, .ref m_pile, .ref m_caseMany, .ref m_happen, .ref m_hasIf, .ref m_becomes, .ref m_goneOf, .ref m_heard, .ref m_pairs, .ref m_heaps, .int q_rounds, .int q_heapMany, .ref m_led, .ref m_newAt, .ref m_knowing, .ref m_firsts, .int (nI q_people), .ref m_secrets, .ref m_tried, .ref m_lanes, .ref m_lengths, .ref m_cells])), (m_manys, .inl (E.2.1 1, 18, .inl f_manysz_2)), (m_reals, .inl (E.2.1 1, 18, .inl f_realsz_3)), (m_factsOf, .inl (E.2.1 1, 432, .inl f_factsOfz_4)), (m_possible, .inl (E.2.1 1, 1728, .inl f_possiblez_5)), (m_tape, .inl (E.2.1 1, 160, .inl f_tape)), (m_ends, .inl (E.2.1 1, 15, .inl f_ends)), (m_letters, .inl (E.2.1 1, 50, .inl f_letters)), (m_actOf, .inl (E.2.1 1, 800, .inl f_actOf)), (m_whom, .inl (E.2.1 1, 800, .inl f_whom)), (m_actMany, .inl (E.2.1 1, 25, .inl f_actMany)), (m_tokens, .inl (E.2.1 1, 9, .inl f_tokens)), (m_afters, .inl (E.2.1 1, 9, .inl f_afters)), (m_afterOf, .inl (E.2.1 1, 18, .inl f_afterOf)), (m_pile, .inl (E.2.1 1, 34, .inl f_pile)), (m_caseMany, .inl (E.2.1 1, 4, .inl f_caseMany)), (m_happen, .inl (E.2.1 1, 4, .inl f_happen)), (m_hasIf, .inl (E.2.1 3, 16, .inl f_hasIf)), (m_becomes, .inl (E.2.1 1, 16, .inl f_becomes)), (m_goneOf, .inl (E.2.1 1, 16, .inl f_goneOf)), (m_heard, .inl (E.2.1 1, 64, .inl f_heard)), (m_pairs, .inl (E.2.1 1, 576, .inl f_pairs)), (m_heaps, .inl (E.2.1 1, 2400, .inl f_heaps)), (m_led, .inl (E.2.1 2, 192, .inr (.inl f_led))), (m_newAt, .inl (E.2.1 1, 24, .inl f_newAt)), (m_knowing, .inl (E.2.1 1, 4, .inl f_knowing)), (m_firsts, .inl (E.2.1 1, 4, .inl f_firsts)), (m_secrets, .inl (E.2.1 1, 4, .inl f_secrets)), (m_tried, .inl (E.2.1 1, 4, .inl f_tried)), (m_lanes, .inl (E.2.1 1, 4, .inl f_lanes)), (m_lengths, .inl (E.2.1 1, 4, .inl f_lengths)), (m_cells, .inl (E.2.1 1, 192, .inl f_cells))] ⟨m_manys, m_reals, m_factsOf, m_possible, uz__1, q_models, m_tape, q_fault, q_wrong, q_wrongAt, q_spot, q_place, q_token, q_value, m_ends, m_letters, m_actOf, m_whom, m_actMany, m_tokens, m_afters, m_afterOf, q_counted, m_pile, m_caseMany, m_happen, m_hasIf, m_becomes, m_goneOf, m_heard, m_pairs, m_heaps, q_rounds, q_heapMany, m_led, m_newAt, m_knowing, m_firsts, m_secrets, m_tried, m_lanes, m_lengths, m_cells, f_manysz_2, f_realsz_3, f_factsOfz_4, f_possiblez_5, f_tape, f_ends, f_letters, f_actOf, f_whom, f_actMany, f_afterOf, f_pile, f_hasIf, f_becomes, f_goneOf, f_pairs, f_heaps, f_led, f_newAt, f_knowing, f_firsts, f_tried, rfl, h_7, h_8, hb_tape, hb_ends, hb_letters, hb_actMany, hb_afters, hb_afterOf, hb_caseMany, hb_happen, hb_lengths, h_9, hhp, hsv, (by first | assumption | omega), (by first | assumption | omega), (by first | assumption | omega), (by first | assumption | omega), (by first | assumption | omega), (by first | assumption | omega), rfl⟩ (trivial)
theorem wc_X12_blind : Cond.code yX12_blind cX12_blind 7 (some .int) ∈ TB := tbm (tq6 (List.mem_of_getElem? (i := 18) (rfl))) (by decide +kernel)
theorem wi_X12_blind : Cond.instanceMethod yX12_blind ∈ TB := tbm (tq6 (List.mem_of_getElem? (i := 16) (by decide +kernel))) (by decide +kernel)
theorem ws_X12_blind : Cond.selects RX12 yX12_blind yX12_blind ∈ TB := tbm (tq6 (List.mem_of_getElem? (i := 17) (by decide +kernel))) (by decide +kernel)
theorem mi_X12_blind : MI yX12_blind cX12_blind 7 (some .int) 1 := ⟨wc_X12_blind, wn_X12, ⟨by decide +kernel, by decide +kernel, by decide +kernel⟩, wi_X12_blind, ws_X12_blind⟩
theorem wl_L_26 : Cond.methodLink RL 26 yX12_blind ∈ TB := tbm (tq6 (List.mem_of_getElem? (i := 15) (by decide +kernel))) (by decide +kernel)
theorem dL_law_334 : decode cL_law 334 = .ok (.invokevirtual 26, 3) := by decide +kernel
set_option maxRecDepth 100000 in
set_option maxHeartbeats 4000000 in
theorem lm_blind {X : XT} {E : EV} {wT wm : va_W} {lv : List (Nat × Value)} {rest : List Value} {kC nC : Nat} {hm : Nat} {q_taped : Nat} {cr : Nat → Int} {q_people : Nat} {f_secrets : Nat → Int32} {f_lanes : Nat → Int32} {f_lengths : Nat → Int32} {f_cells : Nat → Int32} {f_tokens : Nat → Int32} {f_afters : Nat → Int32} {f_caseMany : Nat → Int32} {f_happen : Nat → Int32} {f_heard : Nat → Int32} {v0 : Int32} (C : CX X room_1 cL_law 4 RL ret E) (hW : Nat.ble (rest.map fun v => v.category).sum 8 = true) (hk : kC ≤ 600000 ∧ nC ≤ 7302250) (H_ref : ok_ref E [] hm q_taped cr q_people f_secrets f_lanes f_lengths f_cells f_tokens f_afters f_caseMany f_happen f_heard wm) (kont : ∀ (rr : Int32) (wmZ : va_W), ok_ref E [] hm q_taped cr q_people f_secrets f_lanes f_lengths f_cells f_tokens f_afters f_caseMany f_happen f_heard wmZ → (True) → WW X 4 E 337 lv (.int rr :: rest) (wmZ ++ wT) kC nC) : WW X 4 E 334 lv (.int v0 :: .ref hm :: rest) (wm ++ wT) kC nC := by
  unfold ok_ref at H_ref
  refine ex8 H_ref ?_
  clear H_ref
  intro m_manys m_reals m_factsOf m_possible q_undos q_models m_tape q_fault H_ref
  refine ex8 H_ref ?_
  clear H_ref
  intro q_wrong q_wrongAt q_spot q_place q_token q_value m_ends m_letters H_ref
  refine ex8 H_ref ?_
  clear H_ref
  intro m_actOf m_whom m_actMany m_tokens m_afters m_afterOf q_counted m_pile H_ref
  refine ex8 H_ref ?_
  clear H_ref
  intro m_caseMany m_happen m_hasIf m_becomes m_goneOf m_heard m_pairs m_heaps H_ref
  refine ex8 H_ref ?_
  clear H_ref
  intro q_rounds q_heapMany m_led m_newAt m_knowing m_firsts m_secrets m_tried H_ref
  refine ex8 H_ref ?_
  clear H_ref
  intro m_lanes m_lengths m_cells f_manys f_reals f_factsOf f_possible f_tape H_ref
  refine ex8 H_ref ?_
  clear H_ref
  intro f_ends f_letters f_actOf f_whom f_actMany f_afterOf f_pile f_hasIf H_ref
  refine ex8 H_ref ?_
  clear H_ref
  intro f_becomes f_goneOf f_pairs f_heaps f_led f_newAt f_knowing f_firsts H_ref
  refine ex1 H_ref ?_
  clear H_ref
  intro f_tried H_ref
  refine an8 H_ref ?_
  clear H_ref
  intro we_ref hb_manys hb_reals hb_tape hb_ends hb_letters hb_actMany hb_afters H_ref
  refine an8 H_ref ?_
  clear H_ref
  intro hb_afterOf hb_caseMany hb_happen hb_lengths hpg hhp hsv hq_undos H_ref
  refine an5 H_ref ?_
  clear H_ref
  intro hq_models hq_taped hq_people hq_token hq_value H_ref
  have hcr := H_ref
  clear H_ref
  subst we_ref
  subst hcr
  refine ww_ciT (k' := kC) (n' := nC) (wr := [(m_tape, .inl (E.2.1 1, 160, .inl f_tape)), (m_ends, .inl (E.2.1 1, 15, .inl f_ends)), (m_letters, .inl (E.2.1 1, 50, .inl f_letters)), (m_actOf, .inl (E.2.1 1, 800, .inl f_actOf)), (m_whom, .inl (E.2.1 1, 800, .inl f_whom)), (m_actMany, .inl (E.2.1 1, 25, .inl f_actMany)), (m_tokens, .inl (E.2.1 1, 9, .inl f_tokens)), (m_afters, .inl (E.2.1 1, 9, .inl f_afters)), (m_afterOf, .inl (E.2.1 1, 18, .inl f_afterOf)), (m_pile, .inl (E.2.1 1, 34, .inl f_pile)), (m_caseMany, .inl (E.2.1 1, 4, .inl f_caseMany)), (m_happen, .inl (E.2.1 1, 4, .inl f_happen)), (m_hasIf, .inl (E.2.1 3, 16, .inl f_hasIf)), (m_becomes, .inl (E.2.1 1, 16, .inl f_becomes)), (m_goneOf, .inl (E.2.1 1, 16, .inl f_goneOf)), (m_heard, .inl (E.2.1 1, 64, .inl f_heard)), (m_pairs, .inl (E.2.1 1, 576, .inl f_pairs)), (m_heaps, .inl (E.2.1 1, 2400, .inl f_heaps)), (m_led, .inl (E.2.1 2, 192, .inr (.inl f_led))), (m_newAt, .inl (E.2.1 1, 24, .inl f_newAt)), (m_knowing, .inl (E.2.1 1, 4, .inl f_knowing)), (m_firsts, .inl (E.2.1 1, 4, .inl f_firsts)), (m_secrets, .inl (E.2.1 1, 4, .inl f_secrets)), (m_tried, .inl (E.2.1 1, 4, .inl f_tried)), (m_lanes, .inl (E.2.1 1, 4, .inl f_lanes)), (m_lengths, .inl (E.2.1 1, 4, .inl f_lengths)), (m_cells, .inl (E.2.1 1, 192, .inl f_cells))]) C (run_V (As := [.int v0]) (rest := rest) C (y_blind X.2.1 E [] hm v0 m_manys m_reals m_factsOf m_possible q_undos q_models m_tape q_taped q_fault q_wrong q_wrongAt q_spot q_place (nI q_token) (nI q_value) m_ends m_letters m_actOf m_whom m_actMany m_tokens m_afters m_afterOf q_counted m_pile m_caseMany m_happen m_hasIf m_becomes m_goneOf m_heard m_pairs m_heaps q_rounds q_heapMany m_led m_newAt m_knowing m_firsts q_people m_secrets m_tried m_lanes m_lengths m_cells f_manys f_reals f_factsOf f_possible hb_manys hb_reals hpg (by first | assumption | omega)) mi_X12_blind wl_L_26 rfl 0 12 rfl rfl rfl rfl hW dL_law_334) ro0 [0, 1, 2, 3, 4] [5, 6, 7, 8, 9, 10, 11, 12, 13, 14, 15, 16, 17, 18, 19, 20, 21, 22, 23, 24, 25, 26, 27, 28, 29, 30, 31] rfl rfl rfl ⟨by omega, by omega, hk.1, hk.2⟩ (fun rr u hw => ?_)
  refine ex5 hw ?_
  clear hw
  intro uz__1 f_manysz_2 f_realsz_3 f_factsOfz_4 f_possiblez_5 hw
  refine an4 hw ?_
  clear hw
  intro he_u h_6 h_7 h_8 hw
  have h_9 := hw
  clear hw
  subst he_u
  refine ww_subT (w1 := [(hm, .inr (12, [.ref m_manys, .ref m_reals, .ref m_factsOf, .ref m_possible, .int (nI uz__1), .int (nI q_models), .ref m_tape, .int (nI q_taped), .int q_fault, .int q_wrong, .int q_wrongAt, .int q_spot, .int q_place, .int (nI q_token), .int (nI q_value), .ref m_ends, .ref m_letters, .ref m_actOf, .ref m_whom, .ref m_actMany, .ref m_tokens, .ref m_afters, .ref m_afterOf, .int q_counted, .ref m_pile, .ref m_caseMany, .ref m_happen, .ref m_hasIf, .ref m_becomes, .ref m_goneOf, .ref m_heard, .ref m_pairs, .ref m_heaps, .int q_rounds, .int q_heapMany, .ref m_led, .ref m_newAt, .ref m_knowing, .ref m_firsts, .int (nI q_people), .ref m_secrets, .ref m_tried, .ref m_lanes, .ref m_lengths, .ref m_cells])), (m_manys, .inl (E.2.1 1, 18, .inl f_manysz_2)), (m_reals, .inl (E.2.1 1, 18, .inl f_realsz_3)), (m_factsOf, .inl (E.2.1 1, 432, .inl f_factsOfz_4)), (m_possible, .inl (E.2.1 1, 1728, .inl f_possiblez_5)), (m_tape, .inl (E.2.1 1, 160, .inl f_tape)), (m_ends, .inl (E.2.1 1, 15, .inl f_ends)), (m_letters, .inl (E.2.1 1, 50, .inl f_letters)), (m_actOf, .inl (E.2.1 1, 800, .inl f_actOf)), (m_whom, .inl (E.2.1 1, 800, .inl f_whom)), (m_actMany, .inl (E.2.1 1, 25, .inl f_actMany)), (m_tokens, .inl (E.2.1 1, 9, .inl f_tokens)), (m_afters, .inl (E.2.1 1, 9, .inl f_afters)), (m_afterOf, .inl (E.2.1 1, 18, .inl f_afterOf)), (m_pile, .inl (E.2.1 1, 34, .inl f_pile)), (m_caseMany, .inl (E.2.1 1, 4, .inl f_caseMany)), (m_happen, .inl (E.2.1 1, 4, .inl f_happen)), (m_hasIf, .inl (E.2.1 3, 16, .inl f_hasIf)), (m_becomes, .inl (E.2.1 1, 16, .inl f_becomes)), (m_goneOf, .inl (E.2.1 1, 16, .inl f_goneOf)), (m_heard, .inl (E.2.1 1, 64, .inl f_heard)), (m_pairs, .inl (E.2.1 1, 576, .inl f_pairs)), (m_heaps, .inl (E.2.1 1, 2400, .inl f_heaps)), (m_led, .inl (E.2.1 2, 192, .inr (.inl f_led))), (m_newAt, .inl (E.2.1 1, 24, .inl f_newAt)), (m_knowing, .inl (E.2.1 1, 4, .inl f_knowing)), (m_firsts, .inl (E.2.1 1, 4, .inl f_firsts)), (m_secrets, .inl (E.2.1 1, 4, .inl f_secrets)), (m_tried, .inl (E.2.1 1, 4, .inl f_tried)), (m_lanes, .inl (E.2.1 1, 4, .inl f_lanes)), (m_lengths, .inl (E.2.1 1, 4, .inl f_lengths)), (m_cells, .inl (E.2.1 1, 192, .inl f_cells))]) [27, 28, 29, 30, 31, 0, 1, 2, 3, 4, 5, 6, 7, 8, 9, 10, 11, 12, 13, 14, 15, 16, 17, 18, 19, 20, 21, 22, 23, 24, 25, 26] rfl rfl ?_
  exact kont rr  [(hm, .inr (12, [.ref m_manys, .ref m_reals, .ref m_factsOf, .ref m_possible, .int (nI uz__1), .int (nI q_models), .ref m_tape, .int (nI q_taped), .int q_fault, .int q_wrong, .int q_wrongAt, .int q_spot, .int q_place, .int (nI q_token), .int (nI q_value), .ref m_ends, .ref m_letters, .ref m_actOf, .ref m_whom, .ref m_actMany, .ref m_tokens, .ref m_afters, .ref m_afterOf, .int q_counted, .ref m_pile, .ref m_caseMany, .ref m_happen, .ref m_hasIf, .ref m_becomes, .ref m_goneOf, .ref m_heard, .ref m_pairs, .ref m_heaps, .int q_rounds, .int q_heapMany, .ref m_led, .ref m_newAt, .ref m_knowing, .ref m_firsts, .int (nI q_people), .ref m_secrets, .ref m_tried, .ref m_lanes, .ref m_lengths, .ref m_cells])), (m_manys, .inl (E.2.1 1, 18, .inl f_manysz_2)), (m_reals, .inl (E.2.1 1, 18, .inl f_realsz_3)), (m_factsOf, .inl (E.2.1 1, 432, .inl f_factsOfz_4)), (m_possible, .inl (E.2.1 1, 1728, .inl f_possiblez_5)), (m_tape, .inl (E.2.1 1, 160, .inl f_tape)), (m_ends, .inl (E.2.1 1, 15, .inl f_ends)), (m_letters, .inl (E.2.1 1, 50, .inl f_letters)), (m_actOf, .inl (E.2.1 1, 800, .inl f_actOf)), (m_whom, .inl (E.2.1 1, 800, .inl f_whom)), (m_actMany, .inl (E.2.1 1, 25, .inl f_actMany)), (m_tokens, .inl (E.2.1 1, 9, .inl f_tokens)), (m_afters, .inl (E.2.1 1, 9, .inl f_afters)), (m_afterOf, .inl (E.2.1 1, 18, .inl f_afterOf)), (m_pile, .inl (E.2.1 1, 34, .inl f_pile)), (m_caseMany, .inl (E.2.1 1, 4, .inl f_caseMany)), (m_happen, .inl (E.2.1 1, 4, .inl f_happen)), (m_hasIf, .inl (E.2.1 3, 16, .inl f_hasIf)), (m_becomes, .inl (E.2.1 1, 16, .inl f_becomes)), (m_goneOf, .inl (E.2.1 1, 16, .inl f_goneOf)), (m_heard, .inl (E.2.1 1, 64, .inl f_heard)), (m_pairs, .inl (E.2.1 1, 576, .inl f_pairs)), (m_heaps, .inl (E.2.1 1, 2400, .inl f_heaps)), (m_led, .inl (E.2.1 2, 192, .inr (.inl f_led))), (m_newAt, .inl (E.2.1 1, 24, .inl f_newAt)), (m_knowing, .inl (E.2.1 1, 4, .inl f_knowing)), (m_firsts, .inl (E.2.1 1, 4, .inl f_firsts)), (m_secrets, .inl (E.2.1 1, 4, .inl f_secrets)), (m_tried, .inl (E.2.1 1, 4, .inl f_tried)), (m_lanes, .inl (E.2.1 1, 4, .inl f_lanes)), (m_lengths, .inl (E.2.1 1, 4, .inl f_lengths)), (m_cells, .inl (E.2.1 1, 192, .inl f_cells))] ⟨m_manys, m_reals, m_factsOf, m_possible, uz__1, q_models, m_tape, q_fault, q_wrong, q_wrongAt, q_spot, q_place, q_token, q_value, m_ends, m_letters, m_actOf, m_whom, m_actMany, m_tokens, m_afters, m_afterOf, q_counted, m_pile, m_caseMany, m_happen, m_hasIf, m_becomes, m_goneOf, m_heard, m_pairs, m_heaps, q_rounds, q_heapMany, m_led, m_newAt, m_knowing, m_firsts, m_secrets, m_tried, m_lanes, m_lengths, m_cells, f_manysz_2, f_realsz_3, f_factsOfz_4, f_possiblez_5, f_tape, f_ends, f_letters, f_actOf, f_whom, f_actMany, f_afterOf, f_pile, f_hasIf, f_becomes, f_goneOf, f_pairs, f_heaps, f_led, f_newAt, f_knowing, f_firsts, f_tried, rfl, h_7, h_8, hb_tape, hb_ends, hb_letters, hb_actMany, hb_afters, hb_afterOf, hb_caseMany, hb_happen, hb_lengths, h_9, hhp, hsv, (by first | assumption | omega), (by first | assumption | omega), (by first | assumption | omega), (by first | assumption | omega), (by first | assumption | omega), (by first | assumption | omega), rfl⟩ (trivial)
theorem wc_X12_real : Cond.code yX12_real cX12_real 3 (some .int) ∈ TB := tbm (tq6 (List.mem_of_getElem? (i := 26) (rfl))) (by decide +kernel)
theorem wi_X12_real : Cond.instanceMethod yX12_real ∈ TB := tbm (tq6 (List.mem_of_getElem? (i := 24) (by decide +kernel))) (by decide +kernel)
theorem ws_X12_real : Cond.selects RX12 yX12_real yX12_real ∈ TB := tbm (tq6 (List.mem_of_getElem? (i := 25) (by decide +kernel))) (by decide +kernel)
theorem mi_X12_real : MI yX12_real cX12_real 3 (some .int) 1 := ⟨wc_X12_real, wn_X12, ⟨by decide +kernel, by decide +kernel, by decide +kernel⟩, wi_X12_real, ws_X12_real⟩
theorem wl_L_30 : Cond.methodLink RL 30 yX12_real ∈ TB := tbm (tq6 (List.mem_of_getElem? (i := 23) (by decide +kernel))) (by decide +kernel)
theorem dL_law_357 : decode cL_law 357 = .ok (.invokevirtual 30, 3) := by decide +kernel
set_option maxRecDepth 100000 in
set_option maxHeartbeats 4000000 in
theorem lm_real {X : XT} {E : EV} {wT wm : va_W} {lv : List (Nat × Value)} {rest : List Value} {kC nC : Nat} {hm : Nat} {q_taped : Nat} {cr : Nat → Int} {q_people : Nat} {f_secrets : Nat → Int32} {f_lanes : Nat → Int32} {f_lengths : Nat → Int32} {f_cells : Nat → Int32} {f_tokens : Nat → Int32} {f_afters : Nat → Int32} {f_caseMany : Nat → Int32} {f_happen : Nat → Int32} {f_heard : Nat → Int32} {v0 : Int32} (C : CX X room_1 cL_law 4 RL ret E) (hW : Nat.ble (rest.map fun v => v.category).sum 8 = true) (hk : kC ≤ 600000 ∧ nC ≤ 7302250) (H_ref : ok_ref E [] hm q_taped cr q_people f_secrets f_lanes f_lengths f_cells f_tokens f_afters f_caseMany f_happen f_heard wm) (kont : ∀ (rr : Int32) (wmZ : va_W), ok_ref E [] hm q_taped cr q_people f_secrets f_lanes f_lengths f_cells f_tokens f_afters f_caseMany f_happen f_heard wmZ → (True) → WW X 4 E 360 lv (.int rr :: rest) (wmZ ++ wT) kC nC) : WW X 4 E 357 lv (.int v0 :: .ref hm :: rest) (wm ++ wT) kC nC := by
  unfold ok_ref at H_ref
  refine ex8 H_ref ?_
  clear H_ref
  intro m_manys m_reals m_factsOf m_possible q_undos q_models m_tape q_fault H_ref
  refine ex8 H_ref ?_
  clear H_ref
  intro q_wrong q_wrongAt q_spot q_place q_token q_value m_ends m_letters H_ref
  refine ex8 H_ref ?_
  clear H_ref
  intro m_actOf m_whom m_actMany m_tokens m_afters m_afterOf q_counted m_pile H_ref
  refine ex8 H_ref ?_
  clear H_ref
  intro m_caseMany m_happen m_hasIf m_becomes m_goneOf m_heard m_pairs m_heaps H_ref
  refine ex8 H_ref ?_
  clear H_ref
  intro q_rounds q_heapMany m_led m_newAt m_knowing m_firsts m_secrets m_tried H_ref
  refine ex8 H_ref ?_
  clear H_ref
  intro m_lanes m_lengths m_cells f_manys f_reals f_factsOf f_possible f_tape H_ref
  refine ex8 H_ref ?_
  clear H_ref
  intro f_ends f_letters f_actOf f_whom f_actMany f_afterOf f_pile f_hasIf H_ref
  refine ex8 H_ref ?_
  clear H_ref
  intro f_becomes f_goneOf f_pairs f_heaps f_led f_newAt f_knowing f_firsts H_ref
  refine ex1 H_ref ?_
  clear H_ref
  intro f_tried H_ref
  refine an8 H_ref ?_
  clear H_ref
  intro we_ref hb_manys hb_reals hb_tape hb_ends hb_letters hb_actMany hb_afters H_ref
  refine an8 H_ref ?_
  clear H_ref
  intro hb_afterOf hb_caseMany hb_happen hb_lengths hpg hhp hsv hq_undos H_ref
  refine an5 H_ref ?_
  clear H_ref
  intro hq_models hq_taped hq_people hq_token hq_value H_ref
  have hcr := H_ref
  clear H_ref
  subst we_ref
  subst hcr
  refine ww_ciT (k' := kC) (n' := nC) (wr := [(m_tape, .inl (E.2.1 1, 160, .inl f_tape)), (m_ends, .inl (E.2.1 1, 15, .inl f_ends)), (m_letters, .inl (E.2.1 1, 50, .inl f_letters)), (m_actOf, .inl (E.2.1 1, 800, .inl f_actOf)), (m_whom, .inl (E.2.1 1, 800, .inl f_whom)), (m_actMany, .inl (E.2.1 1, 25, .inl f_actMany)), (m_tokens, .inl (E.2.1 1, 9, .inl f_tokens)), (m_afters, .inl (E.2.1 1, 9, .inl f_afters)), (m_afterOf, .inl (E.2.1 1, 18, .inl f_afterOf)), (m_pile, .inl (E.2.1 1, 34, .inl f_pile)), (m_caseMany, .inl (E.2.1 1, 4, .inl f_caseMany)), (m_happen, .inl (E.2.1 1, 4, .inl f_happen)), (m_hasIf, .inl (E.2.1 3, 16, .inl f_hasIf)), (m_becomes, .inl (E.2.1 1, 16, .inl f_becomes)), (m_goneOf, .inl (E.2.1 1, 16, .inl f_goneOf)), (m_heard, .inl (E.2.1 1, 64, .inl f_heard)), (m_pairs, .inl (E.2.1 1, 576, .inl f_pairs)), (m_heaps, .inl (E.2.1 1, 2400, .inl f_heaps)), (m_led, .inl (E.2.1 2, 192, .inr (.inl f_led))), (m_newAt, .inl (E.2.1 1, 24, .inl f_newAt)), (m_knowing, .inl (E.2.1 1, 4, .inl f_knowing)), (m_firsts, .inl (E.2.1 1, 4, .inl f_firsts)), (m_secrets, .inl (E.2.1 1, 4, .inl f_secrets)), (m_tried, .inl (E.2.1 1, 4, .inl f_tried)), (m_lanes, .inl (E.2.1 1, 4, .inl f_lanes)), (m_lengths, .inl (E.2.1 1, 4, .inl f_lengths)), (m_cells, .inl (E.2.1 1, 192, .inl f_cells))]) C (run_V (As := [.int v0]) (rest := rest) C (y_real X.2.1 E [] hm v0 m_manys m_reals m_factsOf m_possible q_undos q_models m_tape q_taped q_fault q_wrong q_wrongAt q_spot q_place (nI q_token) (nI q_value) m_ends m_letters m_actOf m_whom m_actMany m_tokens m_afters m_afterOf q_counted m_pile m_caseMany m_happen m_hasIf m_becomes m_goneOf m_heard m_pairs m_heaps q_rounds q_heapMany m_led m_newAt m_knowing m_firsts q_people m_secrets m_tried m_lanes m_lengths m_cells f_manys f_reals f_factsOf f_possible hb_manys hb_reals hpg (by first | assumption | omega)) mi_X12_real wl_L_30 rfl 0 12 rfl rfl rfl rfl hW dL_law_357) ro0 [0, 1, 2, 3, 4] [5, 6, 7, 8, 9, 10, 11, 12, 13, 14, 15, 16, 17, 18, 19, 20, 21, 22, 23, 24, 25, 26, 27, 28, 29, 30, 31] rfl rfl rfl ⟨by omega, by omega, hk.1, hk.2⟩ (fun rr u hw => ?_)
  refine ex5 hw ?_
  clear hw
  intro uz__1 f_manysz_2 f_realsz_3 f_factsOfz_4 f_possiblez_5 hw
  refine an4 hw ?_
  clear hw
  intro he_u h_6 h_7 h_8 hw
  have h_9 := hw
  clear hw
  subst he_u
  refine ww_subT (w1 := [(hm, .inr (12, [.ref m_manys, .ref m_reals, .ref m_factsOf, .ref m_possible, .int (nI uz__1), .int (nI q_models), .ref m_tape, .int (nI q_taped), .int q_fault, .int q_wrong, .int q_wrongAt, .int q_spot, .int q_place, .int (nI q_token), .int (nI q_value), .ref m_ends, .ref m_letters, .ref m_actOf, .ref m_whom, .ref m_actMany, .ref m_tokens, .ref m_afters, .ref m_afterOf, .int q_counted, .ref m_pile, .ref m_caseMany, .ref m_happen, .ref m_hasIf, .ref m_becomes, .ref m_goneOf, .ref m_heard, .ref m_pairs, .ref m_heaps, .int q_rounds, .int q_heapMany, .ref m_led, .ref m_newAt, .ref m_knowing, .ref m_firsts, .int (nI q_people), .ref m_secrets, .ref m_tried, .ref m_lanes, .ref m_lengths, .ref m_cells])), (m_manys, .inl (E.2.1 1, 18, .inl f_manysz_2)), (m_reals, .inl (E.2.1 1, 18, .inl f_realsz_3)), (m_factsOf, .inl (E.2.1 1, 432, .inl f_factsOfz_4)), (m_possible, .inl (E.2.1 1, 1728, .inl f_possiblez_5)), (m_tape, .inl (E.2.1 1, 160, .inl f_tape)), (m_ends, .inl (E.2.1 1, 15, .inl f_ends)), (m_letters, .inl (E.2.1 1, 50, .inl f_letters)), (m_actOf, .inl (E.2.1 1, 800, .inl f_actOf)), (m_whom, .inl (E.2.1 1, 800, .inl f_whom)), (m_actMany, .inl (E.2.1 1, 25, .inl f_actMany)), (m_tokens, .inl (E.2.1 1, 9, .inl f_tokens)), (m_afters, .inl (E.2.1 1, 9, .inl f_afters)), (m_afterOf, .inl (E.2.1 1, 18, .inl f_afterOf)), (m_pile, .inl (E.2.1 1, 34, .inl f_pile)), (m_caseMany, .inl (E.2.1 1, 4, .inl f_caseMany)), (m_happen, .inl (E.2.1 1, 4, .inl f_happen)), (m_hasIf, .inl (E.2.1 3, 16, .inl f_hasIf)), (m_becomes, .inl (E.2.1 1, 16, .inl f_becomes)), (m_goneOf, .inl (E.2.1 1, 16, .inl f_goneOf)), (m_heard, .inl (E.2.1 1, 64, .inl f_heard)), (m_pairs, .inl (E.2.1 1, 576, .inl f_pairs)), (m_heaps, .inl (E.2.1 1, 2400, .inl f_heaps)), (m_led, .inl (E.2.1 2, 192, .inr (.inl f_led))), (m_newAt, .inl (E.2.1 1, 24, .inl f_newAt)), (m_knowing, .inl (E.2.1 1, 4, .inl f_knowing)), (m_firsts, .inl (E.2.1 1, 4, .inl f_firsts)), (m_secrets, .inl (E.2.1 1, 4, .inl f_secrets)), (m_tried, .inl (E.2.1 1, 4, .inl f_tried)), (m_lanes, .inl (E.2.1 1, 4, .inl f_lanes)), (m_lengths, .inl (E.2.1 1, 4, .inl f_lengths)), (m_cells, .inl (E.2.1 1, 192, .inl f_cells))]) [27, 28, 29, 30, 31, 0, 1, 2, 3, 4, 5, 6, 7, 8, 9, 10, 11, 12, 13, 14, 15, 16, 17, 18, 19, 20, 21, 22, 23, 24, 25, 26] rfl rfl ?_
  exact kont rr  [(hm, .inr (12, [.ref m_manys, .ref m_reals, .ref m_factsOf, .ref m_possible, .int (nI uz__1), .int (nI q_models), .ref m_tape, .int (nI q_taped), .int q_fault, .int q_wrong, .int q_wrongAt, .int q_spot, .int q_place, .int (nI q_token), .int (nI q_value), .ref m_ends, .ref m_letters, .ref m_actOf, .ref m_whom, .ref m_actMany, .ref m_tokens, .ref m_afters, .ref m_afterOf, .int q_counted, .ref m_pile, .ref m_caseMany, .ref m_happen, .ref m_hasIf, .ref m_becomes, .ref m_goneOf, .ref m_heard, .ref m_pairs, .ref m_heaps, .int q_rounds, .int q_heapMany, .ref m_led, .ref m_newAt, .ref m_knowing, .ref m_firsts, .int (nI q_people), .ref m_secrets, .ref m_tried, .ref m_lanes, .ref m_lengths, .ref m_cells])), (m_manys, .inl (E.2.1 1, 18, .inl f_manysz_2)), (m_reals, .inl (E.2.1 1, 18, .inl f_realsz_3)), (m_factsOf, .inl (E.2.1 1, 432, .inl f_factsOfz_4)), (m_possible, .inl (E.2.1 1, 1728, .inl f_possiblez_5)), (m_tape, .inl (E.2.1 1, 160, .inl f_tape)), (m_ends, .inl (E.2.1 1, 15, .inl f_ends)), (m_letters, .inl (E.2.1 1, 50, .inl f_letters)), (m_actOf, .inl (E.2.1 1, 800, .inl f_actOf)), (m_whom, .inl (E.2.1 1, 800, .inl f_whom)), (m_actMany, .inl (E.2.1 1, 25, .inl f_actMany)), (m_tokens, .inl (E.2.1 1, 9, .inl f_tokens)), (m_afters, .inl (E.2.1 1, 9, .inl f_afters)), (m_afterOf, .inl (E.2.1 1, 18, .inl f_afterOf)), (m_pile, .inl (E.2.1 1, 34, .inl f_pile)), (m_caseMany, .inl (E.2.1 1, 4, .inl f_caseMany)), (m_happen, .inl (E.2.1 1, 4, .inl f_happen)), (m_hasIf, .inl (E.2.1 3, 16, .inl f_hasIf)), (m_becomes, .inl (E.2.1 1, 16, .inl f_becomes)), (m_goneOf, .inl (E.2.1 1, 16, .inl f_goneOf)), (m_heard, .inl (E.2.1 1, 64, .inl f_heard)), (m_pairs, .inl (E.2.1 1, 576, .inl f_pairs)), (m_heaps, .inl (E.2.1 1, 2400, .inl f_heaps)), (m_led, .inl (E.2.1 2, 192, .inr (.inl f_led))), (m_newAt, .inl (E.2.1 1, 24, .inl f_newAt)), (m_knowing, .inl (E.2.1 1, 4, .inl f_knowing)), (m_firsts, .inl (E.2.1 1, 4, .inl f_firsts)), (m_secrets, .inl (E.2.1 1, 4, .inl f_secrets)), (m_tried, .inl (E.2.1 1, 4, .inl f_tried)), (m_lanes, .inl (E.2.1 1, 4, .inl f_lanes)), (m_lengths, .inl (E.2.1 1, 4, .inl f_lengths)), (m_cells, .inl (E.2.1 1, 192, .inl f_cells))] ⟨m_manys, m_reals, m_factsOf, m_possible, uz__1, q_models, m_tape, q_fault, q_wrong, q_wrongAt, q_spot, q_place, q_token, q_value, m_ends, m_letters, m_actOf, m_whom, m_actMany, m_tokens, m_afters, m_afterOf, q_counted, m_pile, m_caseMany, m_happen, m_hasIf, m_becomes, m_goneOf, m_heard, m_pairs, m_heaps, q_rounds, q_heapMany, m_led, m_newAt, m_knowing, m_firsts, m_secrets, m_tried, m_lanes, m_lengths, m_cells, f_manysz_2, f_realsz_3, f_factsOfz_4, f_possiblez_5, f_tape, f_ends, f_letters, f_actOf, f_whom, f_actMany, f_afterOf, f_pile, f_hasIf, f_becomes, f_goneOf, f_pairs, f_heaps, f_led, f_newAt, f_knowing, f_firsts, f_tried, rfl, h_7, h_8, hb_tape, hb_ends, hb_letters, hb_actMany, hb_afters, hb_afterOf, hb_caseMany, hb_happen, hb_lengths, h_9, hhp, hsv, (by first | assumption | omega), (by first | assumption | omega), (by first | assumption | omega), (by first | assumption | omega), (by first | assumption | omega), (by first | assumption | omega), rfl⟩ (trivial)
theorem wc_X12_of : Cond.code yX12_of cX12_of 5 (some .int) ∈ TB := tbm (tq6 (List.mem_of_getElem? (i := 30) (rfl))) (by decide +kernel)
theorem wi_X12_of : Cond.instanceMethod yX12_of ∈ TB := tbm (tq6 (List.mem_of_getElem? (i := 28) (by decide +kernel))) (by decide +kernel)
theorem ws_X12_of : Cond.selects RX12 yX12_of yX12_of ∈ TB := tbm (tq6 (List.mem_of_getElem? (i := 29) (by decide +kernel))) (by decide +kernel)
theorem mi_X12_of : MI yX12_of cX12_of 5 (some .int) 2 := ⟨wc_X12_of, wn_X12, ⟨by decide +kernel, by decide +kernel, by decide +kernel⟩, wi_X12_of, ws_X12_of⟩
theorem wl_L_35 : Cond.methodLink RL 35 yX12_of ∈ TB := tbm (tq6 (List.mem_of_getElem? (i := 27) (by decide +kernel))) (by decide +kernel)
theorem dL_law_390 : decode cL_law 390 = .ok (.invokevirtual 35, 3) := by decide +kernel
set_option maxRecDepth 100000 in
set_option maxHeartbeats 4000000 in
theorem lm_of {X : XT} {E : EV} {wT wm : va_W} {lv : List (Nat × Value)} {rest : List Value} {kC nC : Nat} {hm : Nat} {q_taped : Nat} {cr : Nat → Int} {q_people : Nat} {f_secrets : Nat → Int32} {f_lanes : Nat → Int32} {f_lengths : Nat → Int32} {f_cells : Nat → Int32} {f_tokens : Nat → Int32} {f_afters : Nat → Int32} {f_caseMany : Nat → Int32} {f_happen : Nat → Int32} {f_heard : Nat → Int32} {v0 : Int32} {v1 : Int32} (C : CX X room_1 cL_law 4 RL ret E) (hW : Nat.ble (rest.map fun v => v.category).sum 8 = true) (hk : kC ≤ 600000 ∧ nC ≤ 7302250) (H_ref : ok_ref E [] hm q_taped cr q_people f_secrets f_lanes f_lengths f_cells f_tokens f_afters f_caseMany f_happen f_heard wm) (kont : ∀ (rr : Int32) (wmZ : va_W), ok_ref E [] hm q_taped cr q_people f_secrets f_lanes f_lengths f_cells f_tokens f_afters f_caseMany f_happen f_heard wmZ → (True) → WW X 4 E 393 lv (.int rr :: rest) (wmZ ++ wT) kC nC) : WW X 4 E 390 lv (.int v1 :: .int v0 :: .ref hm :: rest) (wm ++ wT) kC nC := by
  unfold ok_ref at H_ref
  refine ex8 H_ref ?_
  clear H_ref
  intro m_manys m_reals m_factsOf m_possible q_undos q_models m_tape q_fault H_ref
  refine ex8 H_ref ?_
  clear H_ref
  intro q_wrong q_wrongAt q_spot q_place q_token q_value m_ends m_letters H_ref
  refine ex8 H_ref ?_
  clear H_ref
  intro m_actOf m_whom m_actMany m_tokens m_afters m_afterOf q_counted m_pile H_ref
  refine ex8 H_ref ?_
  clear H_ref
  intro m_caseMany m_happen m_hasIf m_becomes m_goneOf m_heard m_pairs m_heaps H_ref
  refine ex8 H_ref ?_
  clear H_ref
  intro q_rounds q_heapMany m_led m_newAt m_knowing m_firsts m_secrets m_tried H_ref
  refine ex8 H_ref ?_
  clear H_ref
  intro m_lanes m_lengths m_cells f_manys f_reals f_factsOf f_possible f_tape H_ref
  refine ex8 H_ref ?_
  clear H_ref
  intro f_ends f_letters f_actOf f_whom f_actMany f_afterOf f_pile f_hasIf H_ref
  refine ex8 H_ref ?_
  clear H_ref
  intro f_becomes f_goneOf f_pairs f_heaps f_led f_newAt f_knowing f_firsts H_ref
  refine ex1 H_ref ?_
  clear H_ref
  intro f_tried H_ref
  refine an8 H_ref ?_
  clear H_ref
  intro we_ref hb_manys hb_reals hb_tape hb_ends hb_letters hb_actMany hb_afters H_ref
  refine an8 H_ref ?_
  clear H_ref
  intro hb_afterOf hb_caseMany hb_happen hb_lengths hpg hhp hsv hq_undos H_ref
  refine an5 H_ref ?_
  clear H_ref
  intro hq_models hq_taped hq_people hq_token hq_value H_ref
  have hcr := H_ref
  clear H_ref
  subst we_ref
  subst hcr
  refine ww_ciT (k' := kC) (n' := nC) (wr := [(m_tape, .inl (E.2.1 1, 160, .inl f_tape)), (m_ends, .inl (E.2.1 1, 15, .inl f_ends)), (m_letters, .inl (E.2.1 1, 50, .inl f_letters)), (m_actOf, .inl (E.2.1 1, 800, .inl f_actOf)), (m_whom, .inl (E.2.1 1, 800, .inl f_whom)), (m_actMany, .inl (E.2.1 1, 25, .inl f_actMany)), (m_tokens, .inl (E.2.1 1, 9, .inl f_tokens)), (m_afters, .inl (E.2.1 1, 9, .inl f_afters)), (m_afterOf, .inl (E.2.1 1, 18, .inl f_afterOf)), (m_pile, .inl (E.2.1 1, 34, .inl f_pile)), (m_caseMany, .inl (E.2.1 1, 4, .inl f_caseMany)), (m_happen, .inl (E.2.1 1, 4, .inl f_happen)), (m_hasIf, .inl (E.2.1 3, 16, .inl f_hasIf)), (m_becomes, .inl (E.2.1 1, 16, .inl f_becomes)), (m_goneOf, .inl (E.2.1 1, 16, .inl f_goneOf)), (m_heard, .inl (E.2.1 1, 64, .inl f_heard)), (m_pairs, .inl (E.2.1 1, 576, .inl f_pairs)), (m_heaps, .inl (E.2.1 1, 2400, .inl f_heaps)), (m_led, .inl (E.2.1 2, 192, .inr (.inl f_led))), (m_newAt, .inl (E.2.1 1, 24, .inl f_newAt)), (m_knowing, .inl (E.2.1 1, 4, .inl f_knowing)), (m_firsts, .inl (E.2.1 1, 4, .inl f_firsts)), (m_secrets, .inl (E.2.1 1, 4, .inl f_secrets)), (m_tried, .inl (E.2.1 1, 4, .inl f_tried)), (m_lanes, .inl (E.2.1 1, 4, .inl f_lanes)), (m_lengths, .inl (E.2.1 1, 4, .inl f_lengths)), (m_cells, .inl (E.2.1 1, 192, .inl f_cells))]) C (run_V (As := [.int v0, .int v1]) (rest := rest) C (y_of X.2.1 E [] hm v0 v1 m_manys m_reals m_factsOf m_possible q_undos q_models m_tape q_taped q_fault q_wrong q_wrongAt q_spot q_place (nI q_token) (nI q_value) m_ends m_letters m_actOf m_whom m_actMany m_tokens m_afters m_afterOf q_counted m_pile m_caseMany m_happen m_hasIf m_becomes m_goneOf m_heard m_pairs m_heaps q_rounds q_heapMany m_led m_newAt m_knowing m_firsts q_people m_secrets m_tried m_lanes m_lengths m_cells f_manys f_reals f_factsOf f_possible hb_manys hb_reals hpg) mi_X12_of wl_L_35 rfl 0 12 rfl rfl rfl rfl hW dL_law_390) ro0 [0, 1, 2, 3, 4] [5, 6, 7, 8, 9, 10, 11, 12, 13, 14, 15, 16, 17, 18, 19, 20, 21, 22, 23, 24, 25, 26, 27, 28, 29, 30, 31] rfl rfl rfl ⟨by omega, by omega, hk.1, hk.2⟩ (fun rr u hw => ?_)
  have he_u := hw
  clear hw
  subst he_u
  refine ww_subT (w1 := [(hm, .inr (12, [.ref m_manys, .ref m_reals, .ref m_factsOf, .ref m_possible, .int (nI q_undos), .int (nI q_models), .ref m_tape, .int (nI q_taped), .int q_fault, .int q_wrong, .int q_wrongAt, .int q_spot, .int q_place, .int (nI q_token), .int (nI q_value), .ref m_ends, .ref m_letters, .ref m_actOf, .ref m_whom, .ref m_actMany, .ref m_tokens, .ref m_afters, .ref m_afterOf, .int q_counted, .ref m_pile, .ref m_caseMany, .ref m_happen, .ref m_hasIf, .ref m_becomes, .ref m_goneOf, .ref m_heard, .ref m_pairs, .ref m_heaps, .int q_rounds, .int q_heapMany, .ref m_led, .ref m_newAt, .ref m_knowing, .ref m_firsts, .int (nI q_people), .ref m_secrets, .ref m_tried, .ref m_lanes, .ref m_lengths, .ref m_cells])), (m_manys, .inl (E.2.1 1, 18, .inl f_manys)), (m_reals, .inl (E.2.1 1, 18, .inl f_reals)), (m_factsOf, .inl (E.2.1 1, 432, .inl f_factsOf)), (m_possible, .inl (E.2.1 1, 1728, .inl f_possible)), (m_tape, .inl (E.2.1 1, 160, .inl f_tape)), (m_ends, .inl (E.2.1 1, 15, .inl f_ends)), (m_letters, .inl (E.2.1 1, 50, .inl f_letters)), (m_actOf, .inl (E.2.1 1, 800, .inl f_actOf)), (m_whom, .inl (E.2.1 1, 800, .inl f_whom)), (m_actMany, .inl (E.2.1 1, 25, .inl f_actMany)), (m_tokens, .inl (E.2.1 1, 9, .inl f_tokens)), (m_afters, .inl (E.2.1 1, 9, .inl f_afters)), (m_afterOf, .inl (E.2.1 1, 18, .inl f_afterOf)), (m_pile, .inl (E.2.1 1, 34, .inl f_pile)), (m_caseMany, .inl (E.2.1 1, 4, .inl f_caseMany)), (m_happen, .inl (E.2.1 1, 4, .inl f_happen)), (m_hasIf, .inl (E.2.1 3, 16, .inl f_hasIf)), (m_becomes, .inl (E.2.1 1, 16, .inl f_becomes)), (m_goneOf, .inl (E.2.1 1, 16, .inl f_goneOf)), (m_heard, .inl (E.2.1 1, 64, .inl f_heard)), (m_pairs, .inl (E.2.1 1, 576, .inl f_pairs)), (m_heaps, .inl (E.2.1 1, 2400, .inl f_heaps)), (m_led, .inl (E.2.1 2, 192, .inr (.inl f_led))), (m_newAt, .inl (E.2.1 1, 24, .inl f_newAt)), (m_knowing, .inl (E.2.1 1, 4, .inl f_knowing)), (m_firsts, .inl (E.2.1 1, 4, .inl f_firsts)), (m_secrets, .inl (E.2.1 1, 4, .inl f_secrets)), (m_tried, .inl (E.2.1 1, 4, .inl f_tried)), (m_lanes, .inl (E.2.1 1, 4, .inl f_lanes)), (m_lengths, .inl (E.2.1 1, 4, .inl f_lengths)), (m_cells, .inl (E.2.1 1, 192, .inl f_cells))]) [27, 28, 29, 30, 31, 0, 1, 2, 3, 4, 5, 6, 7, 8, 9, 10, 11, 12, 13, 14, 15, 16, 17, 18, 19, 20, 21, 22, 23, 24, 25, 26] rfl rfl ?_
  exact kont rr  [(hm, .inr (12, [.ref m_manys, .ref m_reals, .ref m_factsOf, .ref m_possible, .int (nI q_undos), .int (nI q_models), .ref m_tape, .int (nI q_taped), .int q_fault, .int q_wrong, .int q_wrongAt, .int q_spot, .int q_place, .int (nI q_token), .int (nI q_value), .ref m_ends, .ref m_letters, .ref m_actOf, .ref m_whom, .ref m_actMany, .ref m_tokens, .ref m_afters, .ref m_afterOf, .int q_counted, .ref m_pile, .ref m_caseMany, .ref m_happen, .ref m_hasIf, .ref m_becomes, .ref m_goneOf, .ref m_heard, .ref m_pairs, .ref m_heaps, .int q_rounds, .int q_heapMany, .ref m_led, .ref m_newAt, .ref m_knowing, .ref m_firsts, .int (nI q_people), .ref m_secrets, .ref m_tried, .ref m_lanes, .ref m_lengths, .ref m_cells])), (m_manys, .inl (E.2.1 1, 18, .inl f_manys)), (m_reals, .inl (E.2.1 1, 18, .inl f_reals)), (m_factsOf, .inl (E.2.1 1, 432, .inl f_factsOf)), (m_possible, .inl (E.2.1 1, 1728, .inl f_possible)), (m_tape, .inl (E.2.1 1, 160, .inl f_tape)), (m_ends, .inl (E.2.1 1, 15, .inl f_ends)), (m_letters, .inl (E.2.1 1, 50, .inl f_letters)), (m_actOf, .inl (E.2.1 1, 800, .inl f_actOf)), (m_whom, .inl (E.2.1 1, 800, .inl f_whom)), (m_actMany, .inl (E.2.1 1, 25, .inl f_actMany)), (m_tokens, .inl (E.2.1 1, 9, .inl f_tokens)), (m_afters, .inl (E.2.1 1, 9, .inl f_afters)), (m_afterOf, .inl (E.2.1 1, 18, .inl f_afterOf)), (m_pile, .inl (E.2.1 1, 34, .inl f_pile)), (m_caseMany, .inl (E.2.1 1, 4, .inl f_caseMany)), (m_happen, .inl (E.2.1 1, 4, .inl f_happen)), (m_hasIf, .inl (E.2.1 3, 16, .inl f_hasIf)), (m_becomes, .inl (E.2.1 1, 16, .inl f_becomes)), (m_goneOf, .inl (E.2.1 1, 16, .inl f_goneOf)), (m_heard, .inl (E.2.1 1, 64, .inl f_heard)), (m_pairs, .inl (E.2.1 1, 576, .inl f_pairs)), (m_heaps, .inl (E.2.1 1, 2400, .inl f_heaps)), (m_led, .inl (E.2.1 2, 192, .inr (.inl f_led))), (m_newAt, .inl (E.2.1 1, 24, .inl f_newAt)), (m_knowing, .inl (E.2.1 1, 4, .inl f_knowing)), (m_firsts, .inl (E.2.1 1, 4, .inl f_firsts)), (m_secrets, .inl (E.2.1 1, 4, .inl f_secrets)), (m_tried, .inl (E.2.1 1, 4, .inl f_tried)), (m_lanes, .inl (E.2.1 1, 4, .inl f_lanes)), (m_lengths, .inl (E.2.1 1, 4, .inl f_lengths)), (m_cells, .inl (E.2.1 1, 192, .inl f_cells))] ⟨m_manys, m_reals, m_factsOf, m_possible, q_undos, q_models, m_tape, q_fault, q_wrong, q_wrongAt, q_spot, q_place, q_token, q_value, m_ends, m_letters, m_actOf, m_whom, m_actMany, m_tokens, m_afters, m_afterOf, q_counted, m_pile, m_caseMany, m_happen, m_hasIf, m_becomes, m_goneOf, m_heard, m_pairs, m_heaps, q_rounds, q_heapMany, m_led, m_newAt, m_knowing, m_firsts, m_secrets, m_tried, m_lanes, m_lengths, m_cells, f_manys, f_reals, f_factsOf, f_possible, f_tape, f_ends, f_letters, f_actOf, f_whom, f_actMany, f_afterOf, f_pile, f_hasIf, f_becomes, f_goneOf, f_pairs, f_heaps, f_led, f_newAt, f_knowing, f_firsts, f_tried, rfl, hb_manys, hb_reals, hb_tape, hb_ends, hb_letters, hb_actMany, hb_afters, hb_afterOf, hb_caseMany, hb_happen, hb_lengths, hpg, hhp, hsv, (by first | assumption | omega), (by first | assumption | omega), (by first | assumption | omega), (by first | assumption | omega), (by first | assumption | omega), (by first | assumption | omega), rfl⟩ (trivial)
theorem wc_X12_reach : Cond.code yX12_reach cX12_reach 3 (some .int) ∈ TB := tbm (tq6 (List.mem_of_getElem? (i := 35) (rfl))) (by decide +kernel)
theorem wi_X12_reach : Cond.instanceMethod yX12_reach ∈ TB := tbm (tq6 (List.mem_of_getElem? (i := 33) (by decide +kernel))) (by decide +kernel)
theorem ws_X12_reach : Cond.selects RX12 yX12_reach yX12_reach ∈ TB := tbm (tq6 (List.mem_of_getElem? (i := 34) (by decide +kernel))) (by decide +kernel)
theorem mi_X12_reach : MI yX12_reach cX12_reach 3 (some .int) 2 := ⟨wc_X12_reach, wn_X12, ⟨by decide +kernel, by decide +kernel, by decide +kernel⟩, wi_X12_reach, ws_X12_reach⟩
theorem wl_L_39 : Cond.methodLink RL 39 yX12_reach ∈ TB := tbm (tq6 (List.mem_of_getElem? (i := 32) (by decide +kernel))) (by decide +kernel)
theorem dL_law_423 : decode cL_law 423 = .ok (.invokevirtual 39, 3) := by decide +kernel
set_option maxRecDepth 100000 in
set_option maxHeartbeats 4000000 in
theorem lm_reach {X : XT} {E : EV} {wT wm : va_W} {lv : List (Nat × Value)} {rest : List Value} {kC nC : Nat} {hm : Nat} {q_taped : Nat} {cr : Nat → Int} {q_people : Nat} {f_secrets : Nat → Int32} {f_lanes : Nat → Int32} {f_lengths : Nat → Int32} {f_cells : Nat → Int32} {f_tokens : Nat → Int32} {f_afters : Nat → Int32} {f_caseMany : Nat → Int32} {f_happen : Nat → Int32} {f_heard : Nat → Int32} {v0 : Int32} {v1 : Int32} (C : CX X room_1 cL_law 4 RL ret E) (hW : Nat.ble (rest.map fun v => v.category).sum 8 = true) (hk : kC ≤ 600000 ∧ nC ≤ 7302250) (H_ref : ok_ref E [] hm q_taped cr q_people f_secrets f_lanes f_lengths f_cells f_tokens f_afters f_caseMany f_happen f_heard wm) (kont : ∀ (rr : Int32) (wmZ : va_W), ok_ref E [] hm q_taped cr q_people f_secrets f_lanes f_lengths f_cells f_tokens f_afters f_caseMany f_happen f_heard wmZ → (True) → WW X 4 E 426 lv (.int rr :: rest) (wmZ ++ wT) kC nC) : WW X 4 E 423 lv (.int v1 :: .int v0 :: .ref hm :: rest) (wm ++ wT) kC nC := by
  unfold ok_ref at H_ref
  refine ex8 H_ref ?_
  clear H_ref
  intro m_manys m_reals m_factsOf m_possible q_undos q_models m_tape q_fault H_ref
  refine ex8 H_ref ?_
  clear H_ref
  intro q_wrong q_wrongAt q_spot q_place q_token q_value m_ends m_letters H_ref
  refine ex8 H_ref ?_
  clear H_ref
  intro m_actOf m_whom m_actMany m_tokens m_afters m_afterOf q_counted m_pile H_ref
  refine ex8 H_ref ?_
  clear H_ref
  intro m_caseMany m_happen m_hasIf m_becomes m_goneOf m_heard m_pairs m_heaps H_ref
  refine ex8 H_ref ?_
  clear H_ref
  intro q_rounds q_heapMany m_led m_newAt m_knowing m_firsts m_secrets m_tried H_ref
  refine ex8 H_ref ?_
  clear H_ref
  intro m_lanes m_lengths m_cells f_manys f_reals f_factsOf f_possible f_tape H_ref
  refine ex8 H_ref ?_
  clear H_ref
  intro f_ends f_letters f_actOf f_whom f_actMany f_afterOf f_pile f_hasIf H_ref
  refine ex8 H_ref ?_
  clear H_ref
  intro f_becomes f_goneOf f_pairs f_heaps f_led f_newAt f_knowing f_firsts H_ref
  refine ex1 H_ref ?_
  clear H_ref
  intro f_tried H_ref
  refine an8 H_ref ?_
  clear H_ref
  intro we_ref hb_manys hb_reals hb_tape hb_ends hb_letters hb_actMany hb_afters H_ref
  refine an8 H_ref ?_
  clear H_ref
  intro hb_afterOf hb_caseMany hb_happen hb_lengths hpg hhp hsv hq_undos H_ref
  refine an5 H_ref ?_
  clear H_ref
  intro hq_models hq_taped hq_people hq_token hq_value H_ref
  have hcr := H_ref
  clear H_ref
  subst we_ref
  subst hcr
  refine ww_ciT (k' := kC) (n' := nC) (wr := [(m_reals, .inl (E.2.1 1, 18, .inl f_reals)), (m_factsOf, .inl (E.2.1 1, 432, .inl f_factsOf)), (m_tape, .inl (E.2.1 1, 160, .inl f_tape)), (m_ends, .inl (E.2.1 1, 15, .inl f_ends)), (m_letters, .inl (E.2.1 1, 50, .inl f_letters)), (m_actOf, .inl (E.2.1 1, 800, .inl f_actOf)), (m_whom, .inl (E.2.1 1, 800, .inl f_whom)), (m_actMany, .inl (E.2.1 1, 25, .inl f_actMany)), (m_tokens, .inl (E.2.1 1, 9, .inl f_tokens)), (m_afters, .inl (E.2.1 1, 9, .inl f_afters)), (m_afterOf, .inl (E.2.1 1, 18, .inl f_afterOf)), (m_pile, .inl (E.2.1 1, 34, .inl f_pile)), (m_caseMany, .inl (E.2.1 1, 4, .inl f_caseMany)), (m_happen, .inl (E.2.1 1, 4, .inl f_happen)), (m_hasIf, .inl (E.2.1 3, 16, .inl f_hasIf)), (m_becomes, .inl (E.2.1 1, 16, .inl f_becomes)), (m_goneOf, .inl (E.2.1 1, 16, .inl f_goneOf)), (m_heard, .inl (E.2.1 1, 64, .inl f_heard)), (m_pairs, .inl (E.2.1 1, 576, .inl f_pairs)), (m_heaps, .inl (E.2.1 1, 2400, .inl f_heaps)), (m_led, .inl (E.2.1 2, 192, .inr (.inl f_led))), (m_newAt, .inl (E.2.1 1, 24, .inl f_newAt)), (m_knowing, .inl (E.2.1 1, 4, .inl f_knowing)), (m_firsts, .inl (E.2.1 1, 4, .inl f_firsts)), (m_secrets, .inl (E.2.1 1, 4, .inl f_secrets)), (m_tried, .inl (E.2.1 1, 4, .inl f_tried)), (m_lanes, .inl (E.2.1 1, 4, .inl f_lanes)), (m_lengths, .inl (E.2.1 1, 4, .inl f_lengths)), (m_cells, .inl (E.2.1 1, 192, .inl f_cells))]) C (run_V (As := [.int v0, .int v1]) (rest := rest) C (y_reach X.2.1 E [] hm v0 v1 m_manys m_reals m_factsOf m_possible q_undos q_models m_tape q_taped q_fault q_wrong q_wrongAt q_spot q_place (nI q_token) (nI q_value) m_ends m_letters m_actOf m_whom m_actMany m_tokens m_afters m_afterOf q_counted m_pile m_caseMany m_happen m_hasIf m_becomes m_goneOf m_heard m_pairs m_heaps q_rounds q_heapMany m_led m_newAt m_knowing m_firsts q_people m_secrets m_tried m_lanes m_lengths m_cells f_manys f_possible hb_manys) mi_X12_reach wl_L_39 rfl 0 12 rfl rfl rfl rfl hW dL_law_423) ro0 [0, 1, 4] [2, 3, 5, 6, 7, 8, 9, 10, 11, 12, 13, 14, 15, 16, 17, 18, 19, 20, 21, 22, 23, 24, 25, 26, 27, 28, 29, 30, 31] rfl rfl rfl ⟨by omega, by omega, hk.1, hk.2⟩ (fun rr u hw => ?_)
  have he_u := hw
  clear hw
  subst he_u
  refine ww_subT (w1 := [(hm, .inr (12, [.ref m_manys, .ref m_reals, .ref m_factsOf, .ref m_possible, .int (nI q_undos), .int (nI q_models), .ref m_tape, .int (nI q_taped), .int q_fault, .int q_wrong, .int q_wrongAt, .int q_spot, .int q_place, .int (nI q_token), .int (nI q_value), .ref m_ends, .ref m_letters, .ref m_actOf, .ref m_whom, .ref m_actMany, .ref m_tokens, .ref m_afters, .ref m_afterOf, .int q_counted, .ref m_pile, .ref m_caseMany, .ref m_happen, .ref m_hasIf, .ref m_becomes, .ref m_goneOf, .ref m_heard, .ref m_pairs, .ref m_heaps, .int q_rounds, .int q_heapMany, .ref m_led, .ref m_newAt, .ref m_knowing, .ref m_firsts, .int (nI q_people), .ref m_secrets, .ref m_tried, .ref m_lanes, .ref m_lengths, .ref m_cells])), (m_manys, .inl (E.2.1 1, 18, .inl f_manys)), (m_reals, .inl (E.2.1 1, 18, .inl f_reals)), (m_factsOf, .inl (E.2.1 1, 432, .inl f_factsOf)), (m_possible, .inl (E.2.1 1, 1728, .inl f_possible)), (m_tape, .inl (E.2.1 1, 160, .inl f_tape)), (m_ends, .inl (E.2.1 1, 15, .inl f_ends)), (m_letters, .inl (E.2.1 1, 50, .inl f_letters)), (m_actOf, .inl (E.2.1 1, 800, .inl f_actOf)), (m_whom, .inl (E.2.1 1, 800, .inl f_whom)), (m_actMany, .inl (E.2.1 1, 25, .inl f_actMany)), (m_tokens, .inl (E.2.1 1, 9, .inl f_tokens)), (m_afters, .inl (E.2.1 1, 9, .inl f_afters)), (m_afterOf, .inl (E.2.1 1, 18, .inl f_afterOf)), (m_pile, .inl (E.2.1 1, 34, .inl f_pile)), (m_caseMany, .inl (E.2.1 1, 4, .inl f_caseMany)), (m_happen, .inl (E.2.1 1, 4, .inl f_happen)), (m_hasIf, .inl (E.2.1 3, 16, .inl f_hasIf)), (m_becomes, .inl (E.2.1 1, 16, .inl f_becomes)), (m_goneOf, .inl (E.2.1 1, 16, .inl f_goneOf)), (m_heard, .inl (E.2.1 1, 64, .inl f_heard)), (m_pairs, .inl (E.2.1 1, 576, .inl f_pairs)), (m_heaps, .inl (E.2.1 1, 2400, .inl f_heaps)), (m_led, .inl (E.2.1 2, 192, .inr (.inl f_led))), (m_newAt, .inl (E.2.1 1, 24, .inl f_newAt)), (m_knowing, .inl (E.2.1 1, 4, .inl f_knowing)), (m_firsts, .inl (E.2.1 1, 4, .inl f_firsts)), (m_secrets, .inl (E.2.1 1, 4, .inl f_secrets)), (m_tried, .inl (E.2.1 1, 4, .inl f_tried)), (m_lanes, .inl (E.2.1 1, 4, .inl f_lanes)), (m_lengths, .inl (E.2.1 1, 4, .inl f_lengths)), (m_cells, .inl (E.2.1 1, 192, .inl f_cells))]) [29, 30, 0, 1, 31, 2, 3, 4, 5, 6, 7, 8, 9, 10, 11, 12, 13, 14, 15, 16, 17, 18, 19, 20, 21, 22, 23, 24, 25, 26, 27, 28] rfl rfl ?_
  exact kont rr  [(hm, .inr (12, [.ref m_manys, .ref m_reals, .ref m_factsOf, .ref m_possible, .int (nI q_undos), .int (nI q_models), .ref m_tape, .int (nI q_taped), .int q_fault, .int q_wrong, .int q_wrongAt, .int q_spot, .int q_place, .int (nI q_token), .int (nI q_value), .ref m_ends, .ref m_letters, .ref m_actOf, .ref m_whom, .ref m_actMany, .ref m_tokens, .ref m_afters, .ref m_afterOf, .int q_counted, .ref m_pile, .ref m_caseMany, .ref m_happen, .ref m_hasIf, .ref m_becomes, .ref m_goneOf, .ref m_heard, .ref m_pairs, .ref m_heaps, .int q_rounds, .int q_heapMany, .ref m_led, .ref m_newAt, .ref m_knowing, .ref m_firsts, .int (nI q_people), .ref m_secrets, .ref m_tried, .ref m_lanes, .ref m_lengths, .ref m_cells])), (m_manys, .inl (E.2.1 1, 18, .inl f_manys)), (m_reals, .inl (E.2.1 1, 18, .inl f_reals)), (m_factsOf, .inl (E.2.1 1, 432, .inl f_factsOf)), (m_possible, .inl (E.2.1 1, 1728, .inl f_possible)), (m_tape, .inl (E.2.1 1, 160, .inl f_tape)), (m_ends, .inl (E.2.1 1, 15, .inl f_ends)), (m_letters, .inl (E.2.1 1, 50, .inl f_letters)), (m_actOf, .inl (E.2.1 1, 800, .inl f_actOf)), (m_whom, .inl (E.2.1 1, 800, .inl f_whom)), (m_actMany, .inl (E.2.1 1, 25, .inl f_actMany)), (m_tokens, .inl (E.2.1 1, 9, .inl f_tokens)), (m_afters, .inl (E.2.1 1, 9, .inl f_afters)), (m_afterOf, .inl (E.2.1 1, 18, .inl f_afterOf)), (m_pile, .inl (E.2.1 1, 34, .inl f_pile)), (m_caseMany, .inl (E.2.1 1, 4, .inl f_caseMany)), (m_happen, .inl (E.2.1 1, 4, .inl f_happen)), (m_hasIf, .inl (E.2.1 3, 16, .inl f_hasIf)), (m_becomes, .inl (E.2.1 1, 16, .inl f_becomes)), (m_goneOf, .inl (E.2.1 1, 16, .inl f_goneOf)), (m_heard, .inl (E.2.1 1, 64, .inl f_heard)), (m_pairs, .inl (E.2.1 1, 576, .inl f_pairs)), (m_heaps, .inl (E.2.1 1, 2400, .inl f_heaps)), (m_led, .inl (E.2.1 2, 192, .inr (.inl f_led))), (m_newAt, .inl (E.2.1 1, 24, .inl f_newAt)), (m_knowing, .inl (E.2.1 1, 4, .inl f_knowing)), (m_firsts, .inl (E.2.1 1, 4, .inl f_firsts)), (m_secrets, .inl (E.2.1 1, 4, .inl f_secrets)), (m_tried, .inl (E.2.1 1, 4, .inl f_tried)), (m_lanes, .inl (E.2.1 1, 4, .inl f_lanes)), (m_lengths, .inl (E.2.1 1, 4, .inl f_lengths)), (m_cells, .inl (E.2.1 1, 192, .inl f_cells))] ⟨m_manys, m_reals, m_factsOf, m_possible, q_undos, q_models, m_tape, q_fault, q_wrong, q_wrongAt, q_spot, q_place, q_token, q_value, m_ends, m_letters, m_actOf, m_whom, m_actMany, m_tokens, m_afters, m_afterOf, q_counted, m_pile, m_caseMany, m_happen, m_hasIf, m_becomes, m_goneOf, m_heard, m_pairs, m_heaps, q_rounds, q_heapMany, m_led, m_newAt, m_knowing, m_firsts, m_secrets, m_tried, m_lanes, m_lengths, m_cells, f_manys, f_reals, f_factsOf, f_possible, f_tape, f_ends, f_letters, f_actOf, f_whom, f_actMany, f_afterOf, f_pile, f_hasIf, f_becomes, f_goneOf, f_pairs, f_heaps, f_led, f_newAt, f_knowing, f_firsts, f_tried, rfl, hb_manys, hb_reals, hb_tape, hb_ends, hb_letters, hb_actMany, hb_afters, hb_afterOf, hb_caseMany, hb_happen, hb_lengths, hpg, hhp, hsv, (by first | assumption | omega), (by first | assumption | omega), (by first | assumption | omega), (by first | assumption | omega), (by first | assumption | omega), (by first | assumption | omega), rfl⟩ (trivial)
theorem wc_X12_feed : Cond.code yX12_feed cX12_feed 4 (some .int) ∈ TB := tbm (tq6 (List.mem_of_getElem? (i := 43) (rfl))) (by decide +kernel)
theorem wi_X12_feed : Cond.instanceMethod yX12_feed ∈ TB := tbm (tq6 (List.mem_of_getElem? (i := 41) (by decide +kernel))) (by decide +kernel)
theorem ws_X12_feed : Cond.selects RX12 yX12_feed yX12_feed ∈ TB := tbm (tq6 (List.mem_of_getElem? (i := 42) (by decide +kernel))) (by decide +kernel)
theorem mi_X12_feed : MI yX12_feed cX12_feed 4 (some .int) 1 := ⟨wc_X12_feed, wn_X12, ⟨by decide +kernel, by decide +kernel, by decide +kernel⟩, wi_X12_feed, ws_X12_feed⟩
theorem wl_L_46 : Cond.methodLink RL 46 yX12_feed ∈ TB := tbm (tq6 (List.mem_of_getElem? (i := 40) (by decide +kernel))) (by decide +kernel)
theorem dL_law_476 : decode cL_law 476 = .ok (.invokevirtual 46, 3) := by decide +kernel
set_option maxRecDepth 100000 in
set_option maxHeartbeats 4000000 in
theorem lm_feed {X : XT} {E : EV} {wT wm : va_W} {lv : List (Nat × Value)} {rest : List Value} {kC nC : Nat} {hm : Nat} {q_taped : Nat} {cr : Nat → Int} {q_people : Nat} {f_secrets : Nat → Int32} {f_lanes : Nat → Int32} {f_lengths : Nat → Int32} {f_cells : Nat → Int32} {f_tokens : Nat → Int32} {f_afters : Nat → Int32} {f_caseMany : Nat → Int32} {f_happen : Nat → Int32} {f_heard : Nat → Int32} {v : Int64} (C : CX X room_1 cL_law 4 RL ret E) (hW : Nat.ble (rest.map fun v => v.category).sum 8 = true) (hk : kC ≤ 600000 ∧ nC ≤ 7302250) (H_ref : ok_ref E [] hm q_taped cr q_people f_secrets f_lanes f_lengths f_cells f_tokens f_afters f_caseMany f_happen f_heard wm) (kont : ∀ (rr : Int32) (q_tapedZ : Nat) (crZ : Nat → Int) (wmZ : va_W), ok_ref E [] hm q_tapedZ crZ q_people f_secrets f_lanes f_lengths f_cells f_tokens f_afters f_caseMany f_happen f_heard wmZ → ((q_taped + 8 ≤ 160 ∧ q_tapedZ = q_taped + 8 ∧ crZ = czf cr q_taped v ∧ rr = nI (q_taped + 8)) ∨ (160 < q_taped + 8 ∧ q_tapedZ = q_taped ∧ crZ = cr ∧ rr = -3)) → WW X 4 E 479 lv (.int rr :: rest) (wmZ ++ wT) kC nC) : WW X 4 E 476 lv (.long v :: .ref hm :: rest) (wm ++ wT) kC nC := by
  unfold ok_ref at H_ref
  refine ex8 H_ref ?_
  clear H_ref
  intro m_manys m_reals m_factsOf m_possible q_undos q_models m_tape q_fault H_ref
  refine ex8 H_ref ?_
  clear H_ref
  intro q_wrong q_wrongAt q_spot q_place q_token q_value m_ends m_letters H_ref
  refine ex8 H_ref ?_
  clear H_ref
  intro m_actOf m_whom m_actMany m_tokens m_afters m_afterOf q_counted m_pile H_ref
  refine ex8 H_ref ?_
  clear H_ref
  intro m_caseMany m_happen m_hasIf m_becomes m_goneOf m_heard m_pairs m_heaps H_ref
  refine ex8 H_ref ?_
  clear H_ref
  intro q_rounds q_heapMany m_led m_newAt m_knowing m_firsts m_secrets m_tried H_ref
  refine ex8 H_ref ?_
  clear H_ref
  intro m_lanes m_lengths m_cells f_manys f_reals f_factsOf f_possible f_tape H_ref
  refine ex8 H_ref ?_
  clear H_ref
  intro f_ends f_letters f_actOf f_whom f_actMany f_afterOf f_pile f_hasIf H_ref
  refine ex8 H_ref ?_
  clear H_ref
  intro f_becomes f_goneOf f_pairs f_heaps f_led f_newAt f_knowing f_firsts H_ref
  refine ex1 H_ref ?_
  clear H_ref
  intro f_tried H_ref
  refine an8 H_ref ?_
  clear H_ref
  intro we_ref hb_manys hb_reals hb_tape hb_ends hb_letters hb_actMany hb_afters H_ref
  refine an8 H_ref ?_
  clear H_ref
  intro hb_afterOf hb_caseMany hb_happen hb_lengths hpg hhp hsv hq_undos H_ref
  refine an5 H_ref ?_
  clear H_ref
  intro hq_models hq_taped hq_people hq_token hq_value H_ref
  have hcr := H_ref
  clear H_ref
  subst we_ref
  subst hcr
  refine ww_ciT (k' := kC) (n' := nC) (wr := [(m_manys, .inl (E.2.1 1, 18, .inl f_manys)), (m_reals, .inl (E.2.1 1, 18, .inl f_reals)), (m_factsOf, .inl (E.2.1 1, 432, .inl f_factsOf)), (m_possible, .inl (E.2.1 1, 1728, .inl f_possible)), (m_ends, .inl (E.2.1 1, 15, .inl f_ends)), (m_letters, .inl (E.2.1 1, 50, .inl f_letters)), (m_actOf, .inl (E.2.1 1, 800, .inl f_actOf)), (m_whom, .inl (E.2.1 1, 800, .inl f_whom)), (m_actMany, .inl (E.2.1 1, 25, .inl f_actMany)), (m_tokens, .inl (E.2.1 1, 9, .inl f_tokens)), (m_afters, .inl (E.2.1 1, 9, .inl f_afters)), (m_afterOf, .inl (E.2.1 1, 18, .inl f_afterOf)), (m_pile, .inl (E.2.1 1, 34, .inl f_pile)), (m_caseMany, .inl (E.2.1 1, 4, .inl f_caseMany)), (m_happen, .inl (E.2.1 1, 4, .inl f_happen)), (m_hasIf, .inl (E.2.1 3, 16, .inl f_hasIf)), (m_becomes, .inl (E.2.1 1, 16, .inl f_becomes)), (m_goneOf, .inl (E.2.1 1, 16, .inl f_goneOf)), (m_heard, .inl (E.2.1 1, 64, .inl f_heard)), (m_pairs, .inl (E.2.1 1, 576, .inl f_pairs)), (m_heaps, .inl (E.2.1 1, 2400, .inl f_heaps)), (m_led, .inl (E.2.1 2, 192, .inr (.inl f_led))), (m_newAt, .inl (E.2.1 1, 24, .inl f_newAt)), (m_knowing, .inl (E.2.1 1, 4, .inl f_knowing)), (m_firsts, .inl (E.2.1 1, 4, .inl f_firsts)), (m_secrets, .inl (E.2.1 1, 4, .inl f_secrets)), (m_tried, .inl (E.2.1 1, 4, .inl f_tried)), (m_lanes, .inl (E.2.1 1, 4, .inl f_lanes)), (m_lengths, .inl (E.2.1 1, 4, .inl f_lengths)), (m_cells, .inl (E.2.1 1, 192, .inl f_cells))]) C (run_V (As := [.long v]) (rest := rest) C (y_feed X.2.1 E [] hm v m_manys m_reals m_factsOf m_possible q_undos q_models m_tape q_taped q_fault q_wrong q_wrongAt q_spot q_place (nI q_token) (nI q_value) m_ends m_letters m_actOf m_whom m_actMany m_tokens m_afters m_afterOf q_counted m_pile m_caseMany m_happen m_hasIf m_becomes m_goneOf m_heard m_pairs m_heaps q_rounds q_heapMany m_led m_newAt m_knowing m_firsts q_people m_secrets m_tried m_lanes m_lengths m_cells f_tape hb_tape (by first | assumption | omega)) mi_X12_feed wl_L_46 rfl 0 12 rfl rfl rfl rfl hW dL_law_476) ro0 [0, 5] [1, 2, 3, 4, 6, 7, 8, 9, 10, 11, 12, 13, 14, 15, 16, 17, 18, 19, 20, 21, 22, 23, 24, 25, 26, 27, 28, 29, 30, 31] rfl rfl rfl ⟨by omega, by omega, hk.1, hk.2⟩ (fun rr u hw => ?_)
  rcases hw with hw | hw
  · refine ex2 hw ?_
    clear hw
    intro tz_1 f_tapez_2 hw
    refine an5 hw ?_
    clear hw
    intro he_r he_u h_3 h_4 h_5 hw
    have h_6 := hw
    clear hw
    have he_r := he_r.symm
    subst he_r
    subst he_u
    refine ww_subT (w1 := [(hm, .inr (12, [.ref m_manys, .ref m_reals, .ref m_factsOf, .ref m_possible, .int (nI q_undos), .int (nI q_models), .ref m_tape, .int (nI tz_1), .int q_fault, .int q_wrong, .int q_wrongAt, .int q_spot, .int q_place, .int (nI q_token), .int (nI q_value), .ref m_ends, .ref m_letters, .ref m_actOf, .ref m_whom, .ref m_actMany, .ref m_tokens, .ref m_afters, .ref m_afterOf, .int q_counted, .ref m_pile, .ref m_caseMany, .ref m_happen, .ref m_hasIf, .ref m_becomes, .ref m_goneOf, .ref m_heard, .ref m_pairs, .ref m_heaps, .int q_rounds, .int q_heapMany, .ref m_led, .ref m_newAt, .ref m_knowing, .ref m_firsts, .int (nI q_people), .ref m_secrets, .ref m_tried, .ref m_lanes, .ref m_lengths, .ref m_cells])), (m_manys, .inl (E.2.1 1, 18, .inl f_manys)), (m_reals, .inl (E.2.1 1, 18, .inl f_reals)), (m_factsOf, .inl (E.2.1 1, 432, .inl f_factsOf)), (m_possible, .inl (E.2.1 1, 1728, .inl f_possible)), (m_tape, .inl (E.2.1 1, 160, .inl f_tapez_2)), (m_ends, .inl (E.2.1 1, 15, .inl f_ends)), (m_letters, .inl (E.2.1 1, 50, .inl f_letters)), (m_actOf, .inl (E.2.1 1, 800, .inl f_actOf)), (m_whom, .inl (E.2.1 1, 800, .inl f_whom)), (m_actMany, .inl (E.2.1 1, 25, .inl f_actMany)), (m_tokens, .inl (E.2.1 1, 9, .inl f_tokens)), (m_afters, .inl (E.2.1 1, 9, .inl f_afters)), (m_afterOf, .inl (E.2.1 1, 18, .inl f_afterOf)), (m_pile, .inl (E.2.1 1, 34, .inl f_pile)), (m_caseMany, .inl (E.2.1 1, 4, .inl f_caseMany)), (m_happen, .inl (E.2.1 1, 4, .inl f_happen)), (m_hasIf, .inl (E.2.1 3, 16, .inl f_hasIf)), (m_becomes, .inl (E.2.1 1, 16, .inl f_becomes)), (m_goneOf, .inl (E.2.1 1, 16, .inl f_goneOf)), (m_heard, .inl (E.2.1 1, 64, .inl f_heard)), (m_pairs, .inl (E.2.1 1, 576, .inl f_pairs)), (m_heaps, .inl (E.2.1 1, 2400, .inl f_heaps)), (m_led, .inl (E.2.1 2, 192, .inr (.inl f_led))), (m_newAt, .inl (E.2.1 1, 24, .inl f_newAt)), (m_knowing, .inl (E.2.1 1, 4, .inl f_knowing)), (m_firsts, .inl (E.2.1 1, 4, .inl f_firsts)), (m_secrets, .inl (E.2.1 1, 4, .inl f_secrets)), (m_tried, .inl (E.2.1 1, 4, .inl f_tried)), (m_lanes, .inl (E.2.1 1, 4, .inl f_lanes)), (m_lengths, .inl (E.2.1 1, 4, .inl f_lengths)), (m_cells, .inl (E.2.1 1, 192, .inl f_cells))]) [30, 0, 1, 2, 3, 31, 4, 5, 6, 7, 8, 9, 10, 11, 12, 13, 14, 15, 16, 17, 18, 19, 20, 21, 22, 23, 24, 25, 26, 27, 28, 29] rfl rfl ?_
    exact kont (nI tz_1) tz_1 (cz f_tapez_2 tz_1) [(hm, .inr (12, [.ref m_manys, .ref m_reals, .ref m_factsOf, .ref m_possible, .int (nI q_undos), .int (nI q_models), .ref m_tape, .int (nI tz_1), .int q_fault, .int q_wrong, .int q_wrongAt, .int q_spot, .int q_place, .int (nI q_token), .int (nI q_value), .ref m_ends, .ref m_letters, .ref m_actOf, .ref m_whom, .ref m_actMany, .ref m_tokens, .ref m_afters, .ref m_afterOf, .int q_counted, .ref m_pile, .ref m_caseMany, .ref m_happen, .ref m_hasIf, .ref m_becomes, .ref m_goneOf, .ref m_heard, .ref m_pairs, .ref m_heaps, .int q_rounds, .int q_heapMany, .ref m_led, .ref m_newAt, .ref m_knowing, .ref m_firsts, .int (nI q_people), .ref m_secrets, .ref m_tried, .ref m_lanes, .ref m_lengths, .ref m_cells])), (m_manys, .inl (E.2.1 1, 18, .inl f_manys)), (m_reals, .inl (E.2.1 1, 18, .inl f_reals)), (m_factsOf, .inl (E.2.1 1, 432, .inl f_factsOf)), (m_possible, .inl (E.2.1 1, 1728, .inl f_possible)), (m_tape, .inl (E.2.1 1, 160, .inl f_tapez_2)), (m_ends, .inl (E.2.1 1, 15, .inl f_ends)), (m_letters, .inl (E.2.1 1, 50, .inl f_letters)), (m_actOf, .inl (E.2.1 1, 800, .inl f_actOf)), (m_whom, .inl (E.2.1 1, 800, .inl f_whom)), (m_actMany, .inl (E.2.1 1, 25, .inl f_actMany)), (m_tokens, .inl (E.2.1 1, 9, .inl f_tokens)), (m_afters, .inl (E.2.1 1, 9, .inl f_afters)), (m_afterOf, .inl (E.2.1 1, 18, .inl f_afterOf)), (m_pile, .inl (E.2.1 1, 34, .inl f_pile)), (m_caseMany, .inl (E.2.1 1, 4, .inl f_caseMany)), (m_happen, .inl (E.2.1 1, 4, .inl f_happen)), (m_hasIf, .inl (E.2.1 3, 16, .inl f_hasIf)), (m_becomes, .inl (E.2.1 1, 16, .inl f_becomes)), (m_goneOf, .inl (E.2.1 1, 16, .inl f_goneOf)), (m_heard, .inl (E.2.1 1, 64, .inl f_heard)), (m_pairs, .inl (E.2.1 1, 576, .inl f_pairs)), (m_heaps, .inl (E.2.1 1, 2400, .inl f_heaps)), (m_led, .inl (E.2.1 2, 192, .inr (.inl f_led))), (m_newAt, .inl (E.2.1 1, 24, .inl f_newAt)), (m_knowing, .inl (E.2.1 1, 4, .inl f_knowing)), (m_firsts, .inl (E.2.1 1, 4, .inl f_firsts)), (m_secrets, .inl (E.2.1 1, 4, .inl f_secrets)), (m_tried, .inl (E.2.1 1, 4, .inl f_tried)), (m_lanes, .inl (E.2.1 1, 4, .inl f_lanes)), (m_lengths, .inl (E.2.1 1, 4, .inl f_lengths)), (m_cells, .inl (E.2.1 1, 192, .inl f_cells))] ⟨m_manys, m_reals, m_factsOf, m_possible, q_undos, q_models, m_tape, q_fault, q_wrong, q_wrongAt, q_spot, q_place, q_token, q_value, m_ends, m_letters, m_actOf, m_whom, m_actMany, m_tokens, m_afters, m_afterOf, q_counted, m_pile, m_caseMany, m_happen, m_hasIf, m_becomes, m_goneOf, m_heard, m_pairs, m_heaps, q_rounds, q_heapMany, m_led, m_newAt, m_knowing, m_firsts, m_secrets, m_tried, m_lanes, m_lengths, m_cells, f_manys, f_reals, f_factsOf, f_possible, f_tapez_2, f_ends, f_letters, f_actOf, f_whom, f_actMany, f_afterOf, f_pile, f_hasIf, f_becomes, f_goneOf, f_pairs, f_heaps, f_led, f_newAt, f_knowing, f_firsts, f_tried, rfl, hb_manys, hb_reals, h_3, hb_ends, hb_letters, hb_actMany, hb_afters, hb_afterOf, hb_caseMany, hb_happen, hb_lengths, hpg, hhp, hsv, (by first | assumption | omega), (by first | assumption | omega), (by first | assumption | omega), (by first | assumption | omega), (by first | assumption | omega), (by first | assumption | omega), rfl⟩ (Or.inl ⟨h_4, h_5, (by rw [h_5]; exact cz_ry h_6), by rw [h_5]⟩)
  · refine an2 hw ?_
    clear hw
    intro he_r he_u hw
    have h_7 := hw
    clear hw
    have he_r := he_r.symm
    subst he_r
    subst he_u
    refine ww_subT (w1 := [(hm, .inr (12, [.ref m_manys, .ref m_reals, .ref m_factsOf, .ref m_possible, .int (nI q_undos), .int (nI q_models), .ref m_tape, .int (nI q_taped), .int q_fault, .int q_wrong, .int q_wrongAt, .int q_spot, .int q_place, .int (nI q_token), .int (nI q_value), .ref m_ends, .ref m_letters, .ref m_actOf, .ref m_whom, .ref m_actMany, .ref m_tokens, .ref m_afters, .ref m_afterOf, .int q_counted, .ref m_pile, .ref m_caseMany, .ref m_happen, .ref m_hasIf, .ref m_becomes, .ref m_goneOf, .ref m_heard, .ref m_pairs, .ref m_heaps, .int q_rounds, .int q_heapMany, .ref m_led, .ref m_newAt, .ref m_knowing, .ref m_firsts, .int (nI q_people), .ref m_secrets, .ref m_tried, .ref m_lanes, .ref m_lengths, .ref m_cells])), (m_manys, .inl (E.2.1 1, 18, .inl f_manys)), (m_reals, .inl (E.2.1 1, 18, .inl f_reals)), (m_factsOf, .inl (E.2.1 1, 432, .inl f_factsOf)), (m_possible, .inl (E.2.1 1, 1728, .inl f_possible)), (m_tape, .inl (E.2.1 1, 160, .inl f_tape)), (m_ends, .inl (E.2.1 1, 15, .inl f_ends)), (m_letters, .inl (E.2.1 1, 50, .inl f_letters)), (m_actOf, .inl (E.2.1 1, 800, .inl f_actOf)), (m_whom, .inl (E.2.1 1, 800, .inl f_whom)), (m_actMany, .inl (E.2.1 1, 25, .inl f_actMany)), (m_tokens, .inl (E.2.1 1, 9, .inl f_tokens)), (m_afters, .inl (E.2.1 1, 9, .inl f_afters)), (m_afterOf, .inl (E.2.1 1, 18, .inl f_afterOf)), (m_pile, .inl (E.2.1 1, 34, .inl f_pile)), (m_caseMany, .inl (E.2.1 1, 4, .inl f_caseMany)), (m_happen, .inl (E.2.1 1, 4, .inl f_happen)), (m_hasIf, .inl (E.2.1 3, 16, .inl f_hasIf)), (m_becomes, .inl (E.2.1 1, 16, .inl f_becomes)), (m_goneOf, .inl (E.2.1 1, 16, .inl f_goneOf)), (m_heard, .inl (E.2.1 1, 64, .inl f_heard)), (m_pairs, .inl (E.2.1 1, 576, .inl f_pairs)), (m_heaps, .inl (E.2.1 1, 2400, .inl f_heaps)), (m_led, .inl (E.2.1 2, 192, .inr (.inl f_led))), (m_newAt, .inl (E.2.1 1, 24, .inl f_newAt)), (m_knowing, .inl (E.2.1 1, 4, .inl f_knowing)), (m_firsts, .inl (E.2.1 1, 4, .inl f_firsts)), (m_secrets, .inl (E.2.1 1, 4, .inl f_secrets)), (m_tried, .inl (E.2.1 1, 4, .inl f_tried)), (m_lanes, .inl (E.2.1 1, 4, .inl f_lanes)), (m_lengths, .inl (E.2.1 1, 4, .inl f_lengths)), (m_cells, .inl (E.2.1 1, 192, .inl f_cells))]) [30, 0, 1, 2, 3, 31, 4, 5, 6, 7, 8, 9, 10, 11, 12, 13, 14, 15, 16, 17, 18, 19, 20, 21, 22, 23, 24, 25, 26, 27, 28, 29] rfl rfl ?_
    exact kont (-3) q_taped (cz f_tape q_taped) [(hm, .inr (12, [.ref m_manys, .ref m_reals, .ref m_factsOf, .ref m_possible, .int (nI q_undos), .int (nI q_models), .ref m_tape, .int (nI q_taped), .int q_fault, .int q_wrong, .int q_wrongAt, .int q_spot, .int q_place, .int (nI q_token), .int (nI q_value), .ref m_ends, .ref m_letters, .ref m_actOf, .ref m_whom, .ref m_actMany, .ref m_tokens, .ref m_afters, .ref m_afterOf, .int q_counted, .ref m_pile, .ref m_caseMany, .ref m_happen, .ref m_hasIf, .ref m_becomes, .ref m_goneOf, .ref m_heard, .ref m_pairs, .ref m_heaps, .int q_rounds, .int q_heapMany, .ref m_led, .ref m_newAt, .ref m_knowing, .ref m_firsts, .int (nI q_people), .ref m_secrets, .ref m_tried, .ref m_lanes, .ref m_lengths, .ref m_cells])), (m_manys, .inl (E.2.1 1, 18, .inl f_manys)), (m_reals, .inl (E.2.1 1, 18, .inl f_reals)), (m_factsOf, .inl (E.2.1 1, 432, .inl f_factsOf)), (m_possible, .inl (E.2.1 1, 1728, .inl f_possible)), (m_tape, .inl (E.2.1 1, 160, .inl f_tape)), (m_ends, .inl (E.2.1 1, 15, .inl f_ends)), (m_letters, .inl (E.2.1 1, 50, .inl f_letters)), (m_actOf, .inl (E.2.1 1, 800, .inl f_actOf)), (m_whom, .inl (E.2.1 1, 800, .inl f_whom)), (m_actMany, .inl (E.2.1 1, 25, .inl f_actMany)), (m_tokens, .inl (E.2.1 1, 9, .inl f_tokens)), (m_afters, .inl (E.2.1 1, 9, .inl f_afters)), (m_afterOf, .inl (E.2.1 1, 18, .inl f_afterOf)), (m_pile, .inl (E.2.1 1, 34, .inl f_pile)), (m_caseMany, .inl (E.2.1 1, 4, .inl f_caseMany)), (m_happen, .inl (E.2.1 1, 4, .inl f_happen)), (m_hasIf, .inl (E.2.1 3, 16, .inl f_hasIf)), (m_becomes, .inl (E.2.1 1, 16, .inl f_becomes)), (m_goneOf, .inl (E.2.1 1, 16, .inl f_goneOf)), (m_heard, .inl (E.2.1 1, 64, .inl f_heard)), (m_pairs, .inl (E.2.1 1, 576, .inl f_pairs)), (m_heaps, .inl (E.2.1 1, 2400, .inl f_heaps)), (m_led, .inl (E.2.1 2, 192, .inr (.inl f_led))), (m_newAt, .inl (E.2.1 1, 24, .inl f_newAt)), (m_knowing, .inl (E.2.1 1, 4, .inl f_knowing)), (m_firsts, .inl (E.2.1 1, 4, .inl f_firsts)), (m_secrets, .inl (E.2.1 1, 4, .inl f_secrets)), (m_tried, .inl (E.2.1 1, 4, .inl f_tried)), (m_lanes, .inl (E.2.1 1, 4, .inl f_lanes)), (m_lengths, .inl (E.2.1 1, 4, .inl f_lengths)), (m_cells, .inl (E.2.1 1, 192, .inl f_cells))] ⟨m_manys, m_reals, m_factsOf, m_possible, q_undos, q_models, m_tape, q_fault, q_wrong, q_wrongAt, q_spot, q_place, q_token, q_value, m_ends, m_letters, m_actOf, m_whom, m_actMany, m_tokens, m_afters, m_afterOf, q_counted, m_pile, m_caseMany, m_happen, m_hasIf, m_becomes, m_goneOf, m_heard, m_pairs, m_heaps, q_rounds, q_heapMany, m_led, m_newAt, m_knowing, m_firsts, m_secrets, m_tried, m_lanes, m_lengths, m_cells, f_manys, f_reals, f_factsOf, f_possible, f_tape, f_ends, f_letters, f_actOf, f_whom, f_actMany, f_afterOf, f_pile, f_hasIf, f_becomes, f_goneOf, f_pairs, f_heaps, f_led, f_newAt, f_knowing, f_firsts, f_tried, rfl, hb_manys, hb_reals, hb_tape, hb_ends, hb_letters, hb_actMany, hb_afters, hb_afterOf, hb_caseMany, hb_happen, hb_lengths, hpg, hhp, hsv, (by first | assumption | omega), (by first | assumption | omega), (by first | assumption | omega), (by first | assumption | omega), (by first | assumption | omega), (by first | assumption | omega), rfl⟩ (Or.inr (⟨h_7, rfl, rfl, rfl⟩))
