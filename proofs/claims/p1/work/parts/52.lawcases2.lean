theorem dL_law_621 : decode cL_law 621 = .ok (.aload_n 1, 1) := by decide +kernel
theorem dL_law_622 : decode cL_law 622 = .ok (.aload_n 0, 1) := by decide +kernel
theorem dL_law_623 : decode cL_law 623 = .ok (.iload_n 3, 1) := by decide +kernel
theorem dL_law_624 : decode cL_law 624 = .ok (.iconst 1, 1) := by decide +kernel
theorem dL_law_625 : decode cL_law 625 = .ok (.iadd, 1) := by decide +kernel
theorem dL_law_626 : decode cL_law 626 = .ok (.iaload, 1) := by decide +kernel
theorem dL_law_627 : decode cL_law 627 = .ok (.aload_n 0, 1) := by decide +kernel
theorem dL_law_628 : decode cL_law 628 = .ok (.iload_n 3, 1) := by decide +kernel
theorem dL_law_629 : decode cL_law 629 = .ok (.iconst 2, 1) := by decide +kernel
theorem dL_law_630 : decode cL_law 630 = .ok (.iadd, 1) := by decide +kernel
theorem dL_law_631 : decode cL_law 631 = .ok (.iaload, 1) := by decide +kernel
theorem dL_law_632 : decode cL_law 632 = .ok (.invokevirtual 72, 3) := by decide +kernel
theorem wl_L_72 : Cond.methodLink RL 72 yX11_event ∈ TB := tbm (tq4 (List.mem_of_getElem? (i := 51) (by decide +kernel))) (by decide +kernel)
theorem wc_X11_event : Cond.code yX11_event cX11_event 3 (some .int) ∈ TB := tbm (tq4 (List.mem_of_getElem? (i := 54) (rfl))) (by decide +kernel)
theorem wi_X11_event : Cond.instanceMethod yX11_event ∈ TB := tbm (tq4 (List.mem_of_getElem? (i := 52) (by decide +kernel))) (by decide +kernel)
theorem ws_X11_event : Cond.selects RX11 yX11_event yX11_event ∈ TB := tbm (tq4 (List.mem_of_getElem? (i := 53) (by decide +kernel))) (by decide +kernel)
theorem mi_X11_event : MI yX11_event cX11_event 3 (some .int) 2 := ⟨wc_X11_event, wn_X11, ⟨by decide +kernel, by decide +kernel, by decide +kernel⟩, wi_X11_event, ws_X11_event⟩
theorem dL_law_635 : decode cL_law 635 = .ok (.aload_n 2, 1) := by decide +kernel
theorem dL_law_636 : decode cL_law 636 = .ok (.aload_n 0, 1) := by decide +kernel
theorem dL_law_637 : decode cL_law 637 = .ok (.iload_n 3, 1) := by decide +kernel
theorem dL_law_638 : decode cL_law 638 = .ok (.iconst 1, 1) := by decide +kernel
theorem dL_law_639 : decode cL_law 639 = .ok (.iadd, 1) := by decide +kernel
theorem dL_law_640 : decode cL_law 640 = .ok (.iaload, 1) := by decide +kernel
theorem dL_law_641 : decode cL_law 641 = .ok (.aload_n 0, 1) := by decide +kernel
theorem dL_law_642 : decode cL_law 642 = .ok (.iload_n 3, 1) := by decide +kernel
theorem dL_law_643 : decode cL_law 643 = .ok (.iconst 2, 1) := by decide +kernel
theorem dL_law_644 : decode cL_law 644 = .ok (.iadd, 1) := by decide +kernel
theorem dL_law_645 : decode cL_law 645 = .ok (.iaload, 1) := by decide +kernel
theorem dL_law_646 : decode cL_law 646 = .ok (.invokevirtual 75, 3) := by decide +kernel
theorem wl_L_75 : Cond.methodLink RL 75 yX12_event ∈ TB := tbm (tq6 (List.mem_of_getElem? (i := 113) (by decide +kernel))) (by decide +kernel)
theorem wc_X12_event : Cond.code yX12_event cX12_event 3 (some .int) ∈ TB := tbm (tq6 (List.mem_of_getElem? (i := 116) (rfl))) (by decide +kernel)
theorem wi_X12_event : Cond.instanceMethod yX12_event ∈ TB := tbm (tq6 (List.mem_of_getElem? (i := 114) (by decide +kernel))) (by decide +kernel)
theorem ws_X12_event : Cond.selects RX12 yX12_event yX12_event ∈ TB := tbm (tq6 (List.mem_of_getElem? (i := 115) (by decide +kernel))) (by decide +kernel)
theorem mi_X12_event : MI yX12_event cX12_event 3 (some .int) 2 := ⟨wc_X12_event, wn_X12, ⟨by decide +kernel, by decide +kernel, by decide +kernel⟩, wi_X12_event, ws_X12_event⟩
theorem dL_law_649 : decode cL_law 649 = .ok (.if_icmp .eq 803, 3) := by decide +kernel
set_option maxRecDepth 100000 in
set_option maxHeartbeats 4000000 in
theorem lawc_event {X : XT} {E : EV} {xs : Nat → Int32} (bb : Nat) (hx : Nat) (hm : Nat) (qn : Nat) (qp : Nat) (qs : Nat) (qj : Nat) (ql : Nat) (qh : Nat) (qk : Nat) (qr : Nat) (qg : Nat) (qsh : Nat) (jt : Nat) (je : Nat) (ju : Nat) (ja : Nat) (fe : Nat → Option Nat) (e0 : Nat) (e1 : Nat) (e2 : Nat) (e3 : Nat) (e0a : Nat) (e0b : Nat) (e0c : Nat) (e0d : Nat) (e1a : Nat) (e1b : Nat) (e1c : Nat) (e1d : Nat) (e2a : Nat) (e2b : Nat) (e2c : Nat) (e2d : Nat) (e3a : Nat) (e3b : Nat) (e3c : Nat) (e3d : Nat) (m_manys : Nat) (m_reals : Nat) (m_factsOf : Nat) (m_possible : Nat) (m_tape : Nat) (m_ends : Nat) (m_letters : Nat) (m_actOf : Nat) (m_whom : Nat) (m_actMany : Nat) (m_tokens : Nat) (m_afters : Nat) (m_afterOf : Nat) (m_pile : Nat) (m_caseMany : Nat) (m_happen : Nat) (m_hasIf : Nat) (m_becomes : Nat) (m_goneOf : Nat) (m_heard : Nat) (m_pairs : Nat) (m_heaps : Nat) (m_led : Nat) (m_newAt : Nat) (m_knowing : Nat) (m_firsts : Nat) (m_secrets : Nat) (m_tried : Nat) (m_lanes : Nat) (m_lengths : Nat) (m_cells : Nat) (C : CX X room_1 cL_law 4 RL ret E) (hs : SX X bb 6 xs) (k_fe_0 : fe 0 = some e0) (k_fe_1 : fe 1 = some e1) (k_fe_2 : fe 2 = some e2) (k_fe_3 : fe 3 = some e3) (a0 : Int32) (a1 : Int32) (a2 : Int32) (a3 : Int32) (a4 : Int32) (a5 : Int32) (ea0 : xs 0 = a0) (ea1 : xs 1 = a1) (ea2 : xs 2 = a2) (ea3 : xs 3 = a3) (ea4 : xs 4 = a4) (ea5 : xs 5 = a5) (kk : WW X 4 E 1452 [(3, .int 0), (2, .ref hm), (1, .ref hx), (0, .ref bb)] [] [] 168 11526) : WW X 4 E 621 [(3, .int 0), (2, .ref hm), (1, .ref hx), (0, .ref bb)] [] [(hx, .inr (11, [.ref qn, .ref qp, .int 0, .int 0, .ref qs, .ref qj, .ref ql, .ref qh, .ref qk, .int 0, .ref qr, .ref qg, .int 0, .int 0, .ref qsh])), (qj, .inr (2, [.ref jt, .ref je, .ref ju, .ref ja])), (je, .inl (E.2.1 4, 4, .inr (.inr (.inr (.inr fe))))), (e0, .inr (0, [.int 0, .int 0, .ref e0a, .ref e0b, .ref e0c, .ref e0d])), (e0a, .inl (E.2.1 7, 4, .inr (.inr (.inr (.inr (fun _ => none)))))), (e0b, .inl (E.2.1 1, 4, .inl (fun _ => 0))), (e0c, .inl (E.2.1 1, 4, .inl (fun _ => 0))), (e0d, .inl (E.2.1 1, 16, .inl (fun _ => 0))), (e1, .inr (0, [.int 0, .int 0, .ref e1a, .ref e1b, .ref e1c, .ref e1d])), (e1a, .inl (E.2.1 7, 4, .inr (.inr (.inr (.inr (fun _ => none)))))), (e1b, .inl (E.2.1 1, 4, .inl (fun _ => 0))), (e1c, .inl (E.2.1 1, 4, .inl (fun _ => 0))), (e1d, .inl (E.2.1 1, 16, .inl (fun _ => 0))), (e2, .inr (0, [.int 0, .int 0, .ref e2a, .ref e2b, .ref e2c, .ref e2d])), (e2a, .inl (E.2.1 7, 4, .inr (.inr (.inr (.inr (fun _ => none)))))), (e2b, .inl (E.2.1 1, 4, .inl (fun _ => 0))), (e2c, .inl (E.2.1 1, 4, .inl (fun _ => 0))), (e2d, .inl (E.2.1 1, 16, .inl (fun _ => 0))), (e3, .inr (0, [.int 0, .int 0, .ref e3a, .ref e3b, .ref e3c, .ref e3d])), (e3a, .inl (E.2.1 7, 4, .inr (.inr (.inr (.inr (fun _ => none)))))), (e3b, .inl (E.2.1 1, 4, .inl (fun _ => 0))), (e3c, .inl (E.2.1 1, 4, .inl (fun _ => 0))), (e3d, .inl (E.2.1 1, 16, .inl (fun _ => 0))), (hm, .inr (12, [.ref m_manys, .ref m_reals, .ref m_factsOf, .ref m_possible, .int 0, .int 0, .ref m_tape, .int 0, .int 0, .int 0, .int 0, .int 0, .int 0, .int 0, .int 0, .ref m_ends, .ref m_letters, .ref m_actOf, .ref m_whom, .ref m_actMany, .ref m_tokens, .ref m_afters, .ref m_afterOf, .int 0, .ref m_pile, .ref m_caseMany, .ref m_happen, .ref m_hasIf, .ref m_becomes, .ref m_goneOf, .ref m_heard, .ref m_pairs, .ref m_heaps, .int 0, .int 0, .ref m_led, .ref m_newAt, .ref m_knowing, .ref m_firsts, .int 0, .ref m_secrets, .ref m_tried, .ref m_lanes, .ref m_lengths, .ref m_cells])), (m_caseMany, .inl (E.2.1 1, 4, .inl (fun _ => 0))), (m_happen, .inl (E.2.1 1, 4, .inl (fun _ => 0))), (m_hasIf, .inl (E.2.1 3, 16, .inl (fun _ => 0))), (m_becomes, .inl (E.2.1 1, 16, .inl (fun _ => 0))), (m_goneOf, .inl (E.2.1 1, 16, .inl (fun _ => 0))), (m_heard, .inl (E.2.1 1, 64, .inl (fun _ => 0)))] 168 11526 := by
  refine ww_aload_n C dL_law_621 2 rfl rfl ?_
  refine ww_aload_n C dL_law_622 3 rfl rfl ?_
  refine ww_iload_n C dL_law_623 0 rfl rfl ?_
  refine ww_iconst (v := 1) C dL_law_624 rfl ?_
  refine ww_iadd (v := 1) C dL_law_625 (by decide) ?_
  refine ww_sld (v := a1) C hs (vin rfl) ea1 dL_law_626 ?_
  refine ww_aload_n C dL_law_627 3 rfl rfl ?_
  refine ww_iload_n C dL_law_628 0 rfl rfl ?_
  refine ww_iconst (v := 2) C dL_law_629 rfl ?_
  refine ww_iadd (v := 2) C dL_law_630 (by decide) ?_
  refine ww_sld (v := a2) C hs (vin rfl) ea2 dL_law_631 ?_
  refine ww_ci (wr := [(hm, .inr (12, [.ref m_manys, .ref m_reals, .ref m_factsOf, .ref m_possible, .int 0, .int 0, .ref m_tape, .int 0, .int 0, .int 0, .int 0, .int 0, .int 0, .int 0, .int 0, .ref m_ends, .ref m_letters, .ref m_actOf, .ref m_whom, .ref m_actMany, .ref m_tokens, .ref m_afters, .ref m_afterOf, .int 0, .ref m_pile, .ref m_caseMany, .ref m_happen, .ref m_hasIf, .ref m_becomes, .ref m_goneOf, .ref m_heard, .ref m_pairs, .ref m_heaps, .int 0, .int 0, .ref m_led, .ref m_newAt, .ref m_knowing, .ref m_firsts, .int 0, .ref m_secrets, .ref m_tried, .ref m_lanes, .ref m_lengths, .ref m_cells])), (m_caseMany, .inl (E.2.1 1, 4, .inl (fun _ => 0))), (m_happen, .inl (E.2.1 1, 4, .inl (fun _ => 0))), (m_hasIf, .inl (E.2.1 3, 16, .inl (fun _ => 0))), (m_becomes, .inl (E.2.1 1, 16, .inl (fun _ => 0))), (m_goneOf, .inl (E.2.1 1, 16, .inl (fun _ => 0))), (m_heard, .inl (E.2.1 1, 64, .inl (fun _ => 0)))]) (k' := 168) (n' := 11526) C (run_V (As := [.int a1, .int a2]) (rest := []) C (x_event X.2.1 E hx a1 a2 qn qp qs qj ql qh qk qr qg qsh jt je ju ja fe e0 e1 e2 e3 e0a e0b e0c e0d e1a e1b e1c e1d e2a e2b e2c e2d e3a e3b e3c e3d k_fe_0 k_fe_1 k_fe_2 k_fe_3) mi_X11_event wl_L_72 rfl 0 11 rfl rfl rfl rfl rfl dL_law_632) [0, 1, 2, 3, 4, 5, 6, 7, 8, 9, 10, 11, 12, 13, 14, 15, 16, 17, 18, 19, 20, 21, 22] [23, 24, 25, 26, 27, 28, 29] rfl rfl rfl rfl (fun r u hw => ?_)
  rcases hw with ⟨rfl, rfl, h_1⟩ | ⟨rfl, rfl, h_2, h_3, h_4, h_5⟩
  · refine ww_eq (ws' := [(hm, .inr (12, [.ref m_manys, .ref m_reals, .ref m_factsOf, .ref m_possible, .int 0, .int 0, .ref m_tape, .int 0, .int 0, .int 0, .int 0, .int 0, .int 0, .int 0, .int 0, .ref m_ends, .ref m_letters, .ref m_actOf, .ref m_whom, .ref m_actMany, .ref m_tokens, .ref m_afters, .ref m_afterOf, .int 0, .ref m_pile, .ref m_caseMany, .ref m_happen, .ref m_hasIf, .ref m_becomes, .ref m_goneOf, .ref m_heard, .ref m_pairs, .ref m_heaps, .int 0, .int 0, .ref m_led, .ref m_newAt, .ref m_knowing, .ref m_firsts, .int 0, .ref m_secrets, .ref m_tried, .ref m_lanes, .ref m_lengths, .ref m_cells])), (m_caseMany, .inl (E.2.1 1, 4, .inl (fun _ => 0))), (m_happen, .inl (E.2.1 1, 4, .inl (fun _ => 0))), (m_hasIf, .inl (E.2.1 3, 16, .inl (fun _ => 0))), (m_becomes, .inl (E.2.1 1, 16, .inl (fun _ => 0))), (m_goneOf, .inl (E.2.1 1, 16, .inl (fun _ => 0))), (m_heard, .inl (E.2.1 1, 64, .inl (fun _ => 0)))]) ?_ rfl rfl rfl
    refine ww_aload_n C dL_law_635 1 rfl rfl ?_
    refine ww_aload_n C dL_law_636 3 rfl rfl ?_
    refine ww_iload_n C dL_law_637 0 rfl rfl ?_
    refine ww_iconst (v := 1) C dL_law_638 rfl ?_
    refine ww_iadd (v := 1) C dL_law_639 (by decide) ?_
    refine ww_sld (v := a1) C hs (vin rfl) ea1 dL_law_640 ?_
    refine ww_aload_n C dL_law_641 3 rfl rfl ?_
    refine ww_iload_n C dL_law_642 0 rfl rfl ?_
    refine ww_iconst (v := 2) C dL_law_643 rfl ?_
    refine ww_iadd (v := 2) C dL_law_644 (by decide) ?_
    refine ww_sld (v := a2) C hs (vin rfl) ea2 dL_law_645 ?_
    refine ww_ci (wr := []) (k' := 168) (n' := 11526) C (run_V (As := [.int a1, .int a2]) (rest := [.int (-1)]) C (y_event X.2.1 E hm a1 a2 m_manys m_reals m_factsOf m_possible m_tape m_ends m_letters m_actOf m_whom m_actMany m_tokens m_afters m_afterOf m_pile m_caseMany m_happen m_hasIf m_becomes m_goneOf m_heard m_pairs m_heaps m_led m_newAt m_knowing m_firsts m_secrets m_tried m_lanes m_lengths m_cells) mi_X12_event wl_L_75 rfl 0 12 rfl rfl rfl rfl rfl dL_law_646) [0, 1, 2, 3, 4, 5, 6] [] rfl rfl rfl rfl (fun r u hw => ?_)
    rcases hw with ⟨rfl, rfl, h_6⟩ | ⟨rfl, rfl, h_7, h_8, h_9, h_10⟩
    · refine ww_eq (ws' := []) ?_ rfl rfl rfl
      refine ww_icmp_eq_t (tgt := 1452) C dL_law_649 (by decide) (rfl) ?_
      exact ww_sub [] rfl rfl kk
    · refine ww_eq (ws' := []) ?_ rfl rfl rfl
      omega
  · refine ww_eq (ws' := [(hm, .inr (12, [.ref m_manys, .ref m_reals, .ref m_factsOf, .ref m_possible, .int 0, .int 0, .ref m_tape, .int 0, .int 0, .int 0, .int 0, .int 0, .int 0, .int 0, .int 0, .ref m_ends, .ref m_letters, .ref m_actOf, .ref m_whom, .ref m_actMany, .ref m_tokens, .ref m_afters, .ref m_afterOf, .int 0, .ref m_pile, .ref m_caseMany, .ref m_happen, .ref m_hasIf, .ref m_becomes, .ref m_goneOf, .ref m_heard, .ref m_pairs, .ref m_heaps, .int 0, .int 0, .ref m_led, .ref m_newAt, .ref m_knowing, .ref m_firsts, .int 0, .ref m_secrets, .ref m_tried, .ref m_lanes, .ref m_lengths, .ref m_cells])), (m_caseMany, .inl (E.2.1 1, 4, .inl (fun _ => 0))), (m_happen, .inl (E.2.1 1, 4, .inl (fun _ => 0))), (m_hasIf, .inl (E.2.1 3, 16, .inl (fun _ => 0))), (m_becomes, .inl (E.2.1 1, 16, .inl (fun _ => 0))), (m_goneOf, .inl (E.2.1 1, 16, .inl (fun _ => 0))), (m_heard, .inl (E.2.1 1, 64, .inl (fun _ => 0)))]) ?_ rfl rfl rfl
    refine ww_aload_n C dL_law_635 1 rfl rfl ?_
    refine ww_aload_n C dL_law_636 3 rfl rfl ?_
    refine ww_iload_n C dL_law_637 0 rfl rfl ?_
    refine ww_iconst (v := 1) C dL_law_638 rfl ?_
    refine ww_iadd (v := 1) C dL_law_639 (by decide) ?_
    refine ww_sld (v := a1) C hs (vin rfl) ea1 dL_law_640 ?_
    refine ww_aload_n C dL_law_641 3 rfl rfl ?_
    refine ww_iload_n C dL_law_642 0 rfl rfl ?_
    refine ww_iconst (v := 2) C dL_law_643 rfl ?_
    refine ww_iadd (v := 2) C dL_law_644 (by decide) ?_
    refine ww_sld (v := a2) C hs (vin rfl) ea2 dL_law_645 ?_
    refine ww_ci (wr := []) (k' := 168) (n' := 11526) C (run_V (As := [.int a1, .int a2]) (rest := [.int 1]) C (y_event X.2.1 E hm a1 a2 m_manys m_reals m_factsOf m_possible m_tape m_ends m_letters m_actOf m_whom m_actMany m_tokens m_afters m_afterOf m_pile m_caseMany m_happen m_hasIf m_becomes m_goneOf m_heard m_pairs m_heaps m_led m_newAt m_knowing m_firsts m_secrets m_tried m_lanes m_lengths m_cells) mi_X12_event wl_L_75 rfl 0 12 rfl rfl rfl rfl rfl dL_law_646) [0, 1, 2, 3, 4, 5, 6] [] rfl rfl rfl rfl (fun r u hw => ?_)
    rcases hw with ⟨rfl, rfl, h_11⟩ | ⟨rfl, rfl, h_12, h_13, h_14, h_15⟩
    · refine ww_eq (ws' := []) ?_ rfl rfl rfl
      omega
    · refine ww_eq (ws' := []) ?_ rfl rfl rfl
      refine ww_icmp_eq_t (tgt := 1452) C dL_law_649 (by decide) (rfl) ?_
      exact ww_sub [] rfl rfl kk
theorem dL_law_654 : decode cL_law 654 = .ok (.aload_n 1, 1) := by decide +kernel
theorem dL_law_655 : decode cL_law 655 = .ok (.aload_n 0, 1) := by decide +kernel
theorem dL_law_656 : decode cL_law 656 = .ok (.iload_n 3, 1) := by decide +kernel
theorem dL_law_657 : decode cL_law 657 = .ok (.iconst 1, 1) := by decide +kernel
theorem dL_law_658 : decode cL_law 658 = .ok (.iadd, 1) := by decide +kernel
theorem dL_law_659 : decode cL_law 659 = .ok (.iaload, 1) := by decide +kernel
theorem dL_law_660 : decode cL_law 660 = .ok (.aload_n 0, 1) := by decide +kernel
theorem dL_law_661 : decode cL_law 661 = .ok (.iload_n 3, 1) := by decide +kernel
theorem dL_law_662 : decode cL_law 662 = .ok (.iconst 2, 1) := by decide +kernel
theorem dL_law_663 : decode cL_law 663 = .ok (.iadd, 1) := by decide +kernel
theorem dL_law_664 : decode cL_law 664 = .ok (.iaload, 1) := by decide +kernel
theorem dL_law_665 : decode cL_law 665 = .ok (.aload_n 0, 1) := by decide +kernel
theorem dL_law_666 : decode cL_law 666 = .ok (.iload_n 3, 1) := by decide +kernel
theorem dL_law_667 : decode cL_law 667 = .ok (.iconst 3, 1) := by decide +kernel
theorem dL_law_668 : decode cL_law 668 = .ok (.iadd, 1) := by decide +kernel
theorem dL_law_669 : decode cL_law 669 = .ok (.iaload, 1) := by decide +kernel
theorem dL_law_670 : decode cL_law 670 = .ok (.aload_n 0, 1) := by decide +kernel
theorem dL_law_671 : decode cL_law 671 = .ok (.iload_n 3, 1) := by decide +kernel
theorem dL_law_672 : decode cL_law 672 = .ok (.iconst 4, 1) := by decide +kernel
theorem dL_law_673 : decode cL_law 673 = .ok (.iadd, 1) := by decide +kernel
theorem dL_law_674 : decode cL_law 674 = .ok (.iaload, 1) := by decide +kernel
theorem dL_law_675 : decode cL_law 675 = .ok (.aload_n 0, 1) := by decide +kernel
theorem dL_law_676 : decode cL_law 676 = .ok (.iload_n 3, 1) := by decide +kernel
theorem dL_law_677 : decode cL_law 677 = .ok (.iconst 5, 1) := by decide +kernel
theorem dL_law_678 : decode cL_law 678 = .ok (.iadd, 1) := by decide +kernel
theorem dL_law_679 : decode cL_law 679 = .ok (.iaload, 1) := by decide +kernel
theorem dL_law_680 : decode cL_law 680 = .ok (.invokevirtual 76, 3) := by decide +kernel
theorem wl_L_76 : Cond.methodLink RL 76 yX11_when ∈ TB := tbm (tq4 (List.mem_of_getElem? (i := 59) (by decide +kernel))) (by decide +kernel)
theorem wc_X11_when : Cond.code yX11_when cX11_when 6 (some .int) ∈ TB := tbm (tq4 (List.mem_of_getElem? (i := 62) (rfl))) (by decide +kernel)
theorem wi_X11_when : Cond.instanceMethod yX11_when ∈ TB := tbm (tq4 (List.mem_of_getElem? (i := 60) (by decide +kernel))) (by decide +kernel)
theorem ws_X11_when : Cond.selects RX11 yX11_when yX11_when ∈ TB := tbm (tq4 (List.mem_of_getElem? (i := 61) (by decide +kernel))) (by decide +kernel)
theorem mi_X11_when : MI yX11_when cX11_when 6 (some .int) 5 := ⟨wc_X11_when, wn_X11, ⟨by decide +kernel, by decide +kernel, by decide +kernel⟩, wi_X11_when, ws_X11_when⟩
theorem dL_law_683 : decode cL_law 683 = .ok (.aload_n 2, 1) := by decide +kernel
theorem dL_law_684 : decode cL_law 684 = .ok (.aload_n 0, 1) := by decide +kernel
theorem dL_law_685 : decode cL_law 685 = .ok (.iload_n 3, 1) := by decide +kernel
theorem dL_law_686 : decode cL_law 686 = .ok (.iconst 1, 1) := by decide +kernel
theorem dL_law_687 : decode cL_law 687 = .ok (.iadd, 1) := by decide +kernel
theorem dL_law_688 : decode cL_law 688 = .ok (.iaload, 1) := by decide +kernel
theorem dL_law_689 : decode cL_law 689 = .ok (.aload_n 0, 1) := by decide +kernel
theorem dL_law_690 : decode cL_law 690 = .ok (.iload_n 3, 1) := by decide +kernel
theorem dL_law_691 : decode cL_law 691 = .ok (.iconst 2, 1) := by decide +kernel
theorem dL_law_692 : decode cL_law 692 = .ok (.iadd, 1) := by decide +kernel
theorem dL_law_693 : decode cL_law 693 = .ok (.iaload, 1) := by decide +kernel
theorem dL_law_694 : decode cL_law 694 = .ok (.aload_n 0, 1) := by decide +kernel
theorem dL_law_695 : decode cL_law 695 = .ok (.iload_n 3, 1) := by decide +kernel
theorem dL_law_696 : decode cL_law 696 = .ok (.iconst 3, 1) := by decide +kernel
theorem dL_law_697 : decode cL_law 697 = .ok (.iadd, 1) := by decide +kernel
theorem dL_law_698 : decode cL_law 698 = .ok (.iaload, 1) := by decide +kernel
theorem dL_law_699 : decode cL_law 699 = .ok (.aload_n 0, 1) := by decide +kernel
theorem dL_law_700 : decode cL_law 700 = .ok (.iload_n 3, 1) := by decide +kernel
theorem dL_law_701 : decode cL_law 701 = .ok (.iconst 4, 1) := by decide +kernel
theorem dL_law_702 : decode cL_law 702 = .ok (.iadd, 1) := by decide +kernel
theorem dL_law_703 : decode cL_law 703 = .ok (.iaload, 1) := by decide +kernel
theorem dL_law_704 : decode cL_law 704 = .ok (.aload_n 0, 1) := by decide +kernel
theorem dL_law_705 : decode cL_law 705 = .ok (.iload_n 3, 1) := by decide +kernel
theorem dL_law_706 : decode cL_law 706 = .ok (.iconst 5, 1) := by decide +kernel
theorem dL_law_707 : decode cL_law 707 = .ok (.iadd, 1) := by decide +kernel
theorem dL_law_708 : decode cL_law 708 = .ok (.iaload, 1) := by decide +kernel
theorem dL_law_709 : decode cL_law 709 = .ok (.invokevirtual 80, 3) := by decide +kernel
theorem wl_L_80 : Cond.methodLink RL 80 yX12_when ∈ TB := tbm (tq6 (List.mem_of_getElem? (i := 121) (by decide +kernel))) (by decide +kernel)
theorem wc_X12_when : Cond.code yX12_when cX12_when 6 (some .int) ∈ TB := tbm (tq6 (List.mem_of_getElem? (i := 124) (rfl))) (by decide +kernel)
theorem wi_X12_when : Cond.instanceMethod yX12_when ∈ TB := tbm (tq6 (List.mem_of_getElem? (i := 122) (by decide +kernel))) (by decide +kernel)
theorem ws_X12_when : Cond.selects RX12 yX12_when yX12_when ∈ TB := tbm (tq6 (List.mem_of_getElem? (i := 123) (by decide +kernel))) (by decide +kernel)
theorem mi_X12_when : MI yX12_when cX12_when 6 (some .int) 5 := ⟨wc_X12_when, wn_X12, ⟨by decide +kernel, by decide +kernel, by decide +kernel⟩, wi_X12_when, ws_X12_when⟩
theorem dL_law_712 : decode cL_law 712 = .ok (.if_icmp .eq 740, 3) := by decide +kernel
set_option maxRecDepth 100000 in
set_option maxHeartbeats 4000000 in
theorem lawc_when {X : XT} {E : EV} {xs : Nat → Int32} (bb : Nat) (hx : Nat) (hm : Nat) (qn : Nat) (qp : Nat) (qs : Nat) (qj : Nat) (ql : Nat) (qh : Nat) (qk : Nat) (qr : Nat) (qg : Nat) (qsh : Nat) (jt : Nat) (je : Nat) (ju : Nat) (ja : Nat) (fe : Nat → Option Nat) (e0 : Nat) (e1 : Nat) (e2 : Nat) (e3 : Nat) (e0a : Nat) (e0b : Nat) (e0c : Nat) (e0d : Nat) (e1a : Nat) (e1b : Nat) (e1c : Nat) (e1d : Nat) (e2a : Nat) (e2b : Nat) (e2c : Nat) (e2d : Nat) (e3a : Nat) (e3b : Nat) (e3c : Nat) (e3d : Nat) (m_manys : Nat) (m_reals : Nat) (m_factsOf : Nat) (m_possible : Nat) (m_tape : Nat) (m_ends : Nat) (m_letters : Nat) (m_actOf : Nat) (m_whom : Nat) (m_actMany : Nat) (m_tokens : Nat) (m_afters : Nat) (m_afterOf : Nat) (m_pile : Nat) (m_caseMany : Nat) (m_happen : Nat) (m_hasIf : Nat) (m_becomes : Nat) (m_goneOf : Nat) (m_heard : Nat) (m_pairs : Nat) (m_heaps : Nat) (m_led : Nat) (m_newAt : Nat) (m_knowing : Nat) (m_firsts : Nat) (m_secrets : Nat) (m_tried : Nat) (m_lanes : Nat) (m_lengths : Nat) (m_cells : Nat) (C : CX X room_1 cL_law 4 RL ret E) (hs : SX X bb 6 xs) (k_fe_0 : fe 0 = some e0) (k_fe_1 : fe 1 = some e1) (k_fe_2 : fe 2 = some e2) (k_fe_3 : fe 3 = some e3) (a0 : Int32) (a1 : Int32) (a2 : Int32) (a3 : Int32) (a4 : Int32) (a5 : Int32) (ea0 : xs 0 = a0) (ea1 : xs 1 = a1) (ea2 : xs 2 = a2) (ea3 : xs 3 = a3) (ea4 : xs 4 = a4) (ea5 : xs 5 = a5) (kk : WW X 4 E 1452 [(3, .int 0), (2, .ref hm), (1, .ref hx), (0, .ref bb)] [] [] 168 11526) : WW X 4 E 654 [(3, .int 0), (2, .ref hm), (1, .ref hx), (0, .ref bb)] [] [(hx, .inr (11, [.ref qn, .ref qp, .int 0, .int 0, .ref qs, .ref qj, .ref ql, .ref qh, .ref qk, .int 0, .ref qr, .ref qg, .int 0, .int 0, .ref qsh])), (qj, .inr (2, [.ref jt, .ref je, .ref ju, .ref ja])), (je, .inl (E.2.1 4, 4, .inr (.inr (.inr (.inr fe))))), (e0, .inr (0, [.int 0, .int 0, .ref e0a, .ref e0b, .ref e0c, .ref e0d])), (e1, .inr (0, [.int 0, .int 0, .ref e1a, .ref e1b, .ref e1c, .ref e1d])), (e2, .inr (0, [.int 0, .int 0, .ref e2a, .ref e2b, .ref e2c, .ref e2d])), (e3, .inr (0, [.int 0, .int 0, .ref e3a, .ref e3b, .ref e3c, .ref e3d])), (hm, .inr (12, [.ref m_manys, .ref m_reals, .ref m_factsOf, .ref m_possible, .int 0, .int 0, .ref m_tape, .int 0, .int 0, .int 0, .int 0, .int 0, .int 0, .int 0, .int 0, .ref m_ends, .ref m_letters, .ref m_actOf, .ref m_whom, .ref m_actMany, .ref m_tokens, .ref m_afters, .ref m_afterOf, .int 0, .ref m_pile, .ref m_caseMany, .ref m_happen, .ref m_hasIf, .ref m_becomes, .ref m_goneOf, .ref m_heard, .ref m_pairs, .ref m_heaps, .int 0, .int 0, .ref m_led, .ref m_newAt, .ref m_knowing, .ref m_firsts, .int 0, .ref m_secrets, .ref m_tried, .ref m_lanes, .ref m_lengths, .ref m_cells])), (m_caseMany, .inl (E.2.1 1, 4, .inl (fun _ => 0)))] 168 11526 := by
  refine ww_aload_n C dL_law_654 2 rfl rfl ?_
  refine ww_aload_n C dL_law_655 3 rfl rfl ?_
  refine ww_iload_n C dL_law_656 0 rfl rfl ?_
  refine ww_iconst (v := 1) C dL_law_657 rfl ?_
  refine ww_iadd (v := 1) C dL_law_658 (by decide) ?_
  refine ww_sld (v := a1) C hs (vin rfl) ea1 dL_law_659 ?_
  refine ww_aload_n C dL_law_660 3 rfl rfl ?_
  refine ww_iload_n C dL_law_661 0 rfl rfl ?_
  refine ww_iconst (v := 2) C dL_law_662 rfl ?_
  refine ww_iadd (v := 2) C dL_law_663 (by decide) ?_
  refine ww_sld (v := a2) C hs (vin rfl) ea2 dL_law_664 ?_
  refine ww_aload_n C dL_law_665 3 rfl rfl ?_
  refine ww_iload_n C dL_law_666 0 rfl rfl ?_
  refine ww_iconst (v := 3) C dL_law_667 rfl ?_
  refine ww_iadd (v := 3) C dL_law_668 (by decide) ?_
  refine ww_sld (v := a3) C hs (vin rfl) ea3 dL_law_669 ?_
  refine ww_aload_n C dL_law_670 3 rfl rfl ?_
  refine ww_iload_n C dL_law_671 0 rfl rfl ?_
  refine ww_iconst (v := 4) C dL_law_672 rfl ?_
  refine ww_iadd (v := 4) C dL_law_673 (by decide) ?_
  refine ww_sld (v := a4) C hs (vin rfl) ea4 dL_law_674 ?_
  refine ww_aload_n C dL_law_675 3 rfl rfl ?_
  refine ww_iload_n C dL_law_676 0 rfl rfl ?_
  refine ww_iconst (v := 5) C dL_law_677 rfl ?_
  refine ww_iadd (v := 5) C dL_law_678 (by decide) ?_
  refine ww_sld (v := a5) C hs (vin rfl) ea5 dL_law_679 ?_
  refine ww_ci (wr := [(hm, .inr (12, [.ref m_manys, .ref m_reals, .ref m_factsOf, .ref m_possible, .int 0, .int 0, .ref m_tape, .int 0, .int 0, .int 0, .int 0, .int 0, .int 0, .int 0, .int 0, .ref m_ends, .ref m_letters, .ref m_actOf, .ref m_whom, .ref m_actMany, .ref m_tokens, .ref m_afters, .ref m_afterOf, .int 0, .ref m_pile, .ref m_caseMany, .ref m_happen, .ref m_hasIf, .ref m_becomes, .ref m_goneOf, .ref m_heard, .ref m_pairs, .ref m_heaps, .int 0, .int 0, .ref m_led, .ref m_newAt, .ref m_knowing, .ref m_firsts, .int 0, .ref m_secrets, .ref m_tried, .ref m_lanes, .ref m_lengths, .ref m_cells])), (m_caseMany, .inl (E.2.1 1, 4, .inl (fun _ => 0)))]) (k' := 168) (n' := 11526) C (run_V (As := [.int a1, .int a2, .int a3, .int a4, .int a5]) (rest := []) C (x_when X.2.1 E hx a1 a2 a3 a4 a5 qn qp qs qj ql qh qk qr qg qsh jt je ju ja fe e0 e1 e2 e3 e0a e0b e0c e0d e1a e1b e1c e1d e2a e2b e2c e2d e3a e3b e3c e3d k_fe_0 k_fe_1 k_fe_2 k_fe_3) mi_X11_when wl_L_76 rfl 0 11 rfl rfl rfl rfl rfl dL_law_680) [0, 1, 2, 3, 4, 5, 6] [7, 8] rfl rfl rfl rfl (fun r u hw => ?_)
  obtain ⟨rfl, rfl⟩ := hw
  refine ww_eq (ws' := [(hm, .inr (12, [.ref m_manys, .ref m_reals, .ref m_factsOf, .ref m_possible, .int 0, .int 0, .ref m_tape, .int 0, .int 0, .int 0, .int 0, .int 0, .int 0, .int 0, .int 0, .ref m_ends, .ref m_letters, .ref m_actOf, .ref m_whom, .ref m_actMany, .ref m_tokens, .ref m_afters, .ref m_afterOf, .int 0, .ref m_pile, .ref m_caseMany, .ref m_happen, .ref m_hasIf, .ref m_becomes, .ref m_goneOf, .ref m_heard, .ref m_pairs, .ref m_heaps, .int 0, .int 0, .ref m_led, .ref m_newAt, .ref m_knowing, .ref m_firsts, .int 0, .ref m_secrets, .ref m_tried, .ref m_lanes, .ref m_lengths, .ref m_cells])), (m_caseMany, .inl (E.2.1 1, 4, .inl (fun _ => 0)))]) ?_ rfl rfl rfl
  refine ww_aload_n C dL_law_683 1 rfl rfl ?_
  refine ww_aload_n C dL_law_684 3 rfl rfl ?_
  refine ww_iload_n C dL_law_685 0 rfl rfl ?_
  refine ww_iconst (v := 1) C dL_law_686 rfl ?_
  refine ww_iadd (v := 1) C dL_law_687 (by decide) ?_
  refine ww_sld (v := a1) C hs (vin rfl) ea1 dL_law_688 ?_
  refine ww_aload_n C dL_law_689 3 rfl rfl ?_
  refine ww_iload_n C dL_law_690 0 rfl rfl ?_
  refine ww_iconst (v := 2) C dL_law_691 rfl ?_
  refine ww_iadd (v := 2) C dL_law_692 (by decide) ?_
  refine ww_sld (v := a2) C hs (vin rfl) ea2 dL_law_693 ?_
  refine ww_aload_n C dL_law_694 3 rfl rfl ?_
  refine ww_iload_n C dL_law_695 0 rfl rfl ?_
  refine ww_iconst (v := 3) C dL_law_696 rfl ?_
  refine ww_iadd (v := 3) C dL_law_697 (by decide) ?_
  refine ww_sld (v := a3) C hs (vin rfl) ea3 dL_law_698 ?_
  refine ww_aload_n C dL_law_699 3 rfl rfl ?_
  refine ww_iload_n C dL_law_700 0 rfl rfl ?_
  refine ww_iconst (v := 4) C dL_law_701 rfl ?_
  refine ww_iadd (v := 4) C dL_law_702 (by decide) ?_
  refine ww_sld (v := a4) C hs (vin rfl) ea4 dL_law_703 ?_
  refine ww_aload_n C dL_law_704 3 rfl rfl ?_
  refine ww_iload_n C dL_law_705 0 rfl rfl ?_
  refine ww_iconst (v := 5) C dL_law_706 rfl ?_
  refine ww_iadd (v := 5) C dL_law_707 (by decide) ?_
  refine ww_sld (v := a5) C hs (vin rfl) ea5 dL_law_708 ?_
  refine ww_ci (wr := []) (k' := 168) (n' := 11526) C (run_V (As := [.int a1, .int a2, .int a3, .int a4, .int a5]) (rest := [.int (-1)]) C (y_when X.2.1 E hm a1 a2 a3 a4 a5 m_manys m_reals m_factsOf m_possible m_tape m_ends m_letters m_actOf m_whom m_actMany m_tokens m_afters m_afterOf m_pile m_caseMany m_happen m_hasIf m_becomes m_goneOf m_heard m_pairs m_heaps m_led m_newAt m_knowing m_firsts m_secrets m_tried m_lanes m_lengths m_cells) mi_X12_when wl_L_80 rfl 0 12 rfl rfl rfl rfl rfl dL_law_709) [0, 1] [] rfl rfl rfl rfl (fun r u hw => ?_)
  obtain ⟨rfl, rfl⟩ := hw
  refine ww_eq (ws' := []) ?_ rfl rfl rfl
  refine ww_icmp_eq_t (tgt := 1452) C dL_law_712 (by decide) (rfl) ?_
  exact ww_sub [] rfl rfl kk
theorem dL_law_717 : decode cL_law 717 = .ok (.aload_n 1, 1) := by decide +kernel
theorem dL_law_718 : decode cL_law 718 = .ok (.aload_n 0, 1) := by decide +kernel
theorem dL_law_719 : decode cL_law 719 = .ok (.iload_n 3, 1) := by decide +kernel
theorem dL_law_720 : decode cL_law 720 = .ok (.iconst 1, 1) := by decide +kernel
theorem dL_law_721 : decode cL_law 721 = .ok (.iadd, 1) := by decide +kernel
theorem dL_law_722 : decode cL_law 722 = .ok (.iaload, 1) := by decide +kernel
theorem dL_law_723 : decode cL_law 723 = .ok (.aload_n 0, 1) := by decide +kernel
theorem dL_law_724 : decode cL_law 724 = .ok (.iload_n 3, 1) := by decide +kernel
theorem dL_law_725 : decode cL_law 725 = .ok (.iconst 2, 1) := by decide +kernel
theorem dL_law_726 : decode cL_law 726 = .ok (.iadd, 1) := by decide +kernel
theorem dL_law_727 : decode cL_law 727 = .ok (.iaload, 1) := by decide +kernel
theorem dL_law_728 : decode cL_law 728 = .ok (.aload_n 0, 1) := by decide +kernel
theorem dL_law_729 : decode cL_law 729 = .ok (.iload_n 3, 1) := by decide +kernel
theorem dL_law_730 : decode cL_law 730 = .ok (.iconst 3, 1) := by decide +kernel
theorem dL_law_731 : decode cL_law 731 = .ok (.iadd, 1) := by decide +kernel
theorem dL_law_732 : decode cL_law 732 = .ok (.iaload, 1) := by decide +kernel
theorem dL_law_733 : decode cL_law 733 = .ok (.aload_n 0, 1) := by decide +kernel
theorem dL_law_734 : decode cL_law 734 = .ok (.iload_n 3, 1) := by decide +kernel
theorem dL_law_735 : decode cL_law 735 = .ok (.iconst 4, 1) := by decide +kernel
theorem dL_law_736 : decode cL_law 736 = .ok (.iadd, 1) := by decide +kernel
theorem dL_law_737 : decode cL_law 737 = .ok (.iaload, 1) := by decide +kernel
theorem dL_law_738 : decode cL_law 738 = .ok (.aload_n 0, 1) := by decide +kernel
theorem dL_law_739 : decode cL_law 739 = .ok (.iload_n 3, 1) := by decide +kernel
theorem dL_law_740 : decode cL_law 740 = .ok (.iconst 5, 1) := by decide +kernel
theorem dL_law_741 : decode cL_law 741 = .ok (.iadd, 1) := by decide +kernel
theorem dL_law_742 : decode cL_law 742 = .ok (.iaload, 1) := by decide +kernel
theorem dL_law_743 : decode cL_law 743 = .ok (.ifCond .eq 7, 3) := by decide +kernel
theorem dL_law_750 : decode cL_law 750 = .ok (.iconst 0, 1) := by decide +kernel
theorem dL_law_751 : decode cL_law 751 = .ok (.invokevirtual 81, 3) := by decide +kernel
theorem wl_L_81 : Cond.methodLink RL 81 yX11_hears ∈ TB := tbm (tq4 (List.mem_of_getElem? (i := 75) (by decide +kernel))) (by decide +kernel)
theorem wc_X11_hears : Cond.code yX11_hears cX11_hears 6 (some .int) ∈ TB := tbm (tq4 (List.mem_of_getElem? (i := 78) (rfl))) (by decide +kernel)
theorem wi_X11_hears : Cond.instanceMethod yX11_hears ∈ TB := tbm (tq4 (List.mem_of_getElem? (i := 76) (by decide +kernel))) (by decide +kernel)
theorem ws_X11_hears : Cond.selects RX11 yX11_hears yX11_hears ∈ TB := tbm (tq4 (List.mem_of_getElem? (i := 77) (by decide +kernel))) (by decide +kernel)
theorem mi_X11_hears : MI yX11_hears cX11_hears 6 (some .int) 5 := ⟨wc_X11_hears, wn_X11, ⟨by decide +kernel, by decide +kernel, by decide +kernel⟩, wi_X11_hears, ws_X11_hears⟩
theorem dL_law_754 : decode cL_law 754 = .ok (.aload_n 2, 1) := by decide +kernel
theorem dL_law_755 : decode cL_law 755 = .ok (.aload_n 0, 1) := by decide +kernel
theorem dL_law_756 : decode cL_law 756 = .ok (.iload_n 3, 1) := by decide +kernel
theorem dL_law_757 : decode cL_law 757 = .ok (.iconst 1, 1) := by decide +kernel
theorem dL_law_758 : decode cL_law 758 = .ok (.iadd, 1) := by decide +kernel
theorem dL_law_759 : decode cL_law 759 = .ok (.iaload, 1) := by decide +kernel
theorem dL_law_760 : decode cL_law 760 = .ok (.aload_n 0, 1) := by decide +kernel
theorem dL_law_761 : decode cL_law 761 = .ok (.iload_n 3, 1) := by decide +kernel
theorem dL_law_762 : decode cL_law 762 = .ok (.iconst 2, 1) := by decide +kernel
theorem dL_law_763 : decode cL_law 763 = .ok (.iadd, 1) := by decide +kernel
theorem dL_law_764 : decode cL_law 764 = .ok (.iaload, 1) := by decide +kernel
theorem dL_law_765 : decode cL_law 765 = .ok (.aload_n 0, 1) := by decide +kernel
theorem dL_law_766 : decode cL_law 766 = .ok (.iload_n 3, 1) := by decide +kernel
theorem dL_law_767 : decode cL_law 767 = .ok (.iconst 3, 1) := by decide +kernel
theorem dL_law_768 : decode cL_law 768 = .ok (.iadd, 1) := by decide +kernel
theorem dL_law_769 : decode cL_law 769 = .ok (.iaload, 1) := by decide +kernel
theorem dL_law_770 : decode cL_law 770 = .ok (.aload_n 0, 1) := by decide +kernel
theorem dL_law_771 : decode cL_law 771 = .ok (.iload_n 3, 1) := by decide +kernel
theorem dL_law_772 : decode cL_law 772 = .ok (.iconst 4, 1) := by decide +kernel
theorem dL_law_773 : decode cL_law 773 = .ok (.iadd, 1) := by decide +kernel
theorem dL_law_774 : decode cL_law 774 = .ok (.iaload, 1) := by decide +kernel
theorem dL_law_775 : decode cL_law 775 = .ok (.aload_n 0, 1) := by decide +kernel
theorem dL_law_776 : decode cL_law 776 = .ok (.iload_n 3, 1) := by decide +kernel
theorem dL_law_777 : decode cL_law 777 = .ok (.iconst 5, 1) := by decide +kernel
theorem dL_law_778 : decode cL_law 778 = .ok (.iadd, 1) := by decide +kernel
theorem dL_law_779 : decode cL_law 779 = .ok (.iaload, 1) := by decide +kernel
theorem dL_law_780 : decode cL_law 780 = .ok (.ifCond .eq 7, 3) := by decide +kernel
theorem dL_law_787 : decode cL_law 787 = .ok (.iconst 0, 1) := by decide +kernel
theorem dL_law_788 : decode cL_law 788 = .ok (.invokevirtual 85, 3) := by decide +kernel
theorem wl_L_85 : Cond.methodLink RL 85 yX12_hears ∈ TB := tbm (tq6 (List.mem_of_getElem? (i := 141) (by decide +kernel))) (by decide +kernel)
theorem wc_X12_hears : Cond.code yX12_hears cX12_hears 8 (some .int) ∈ TB := tbm (tq6 (List.mem_of_getElem? (i := 144) (rfl))) (by decide +kernel)
theorem wi_X12_hears : Cond.instanceMethod yX12_hears ∈ TB := tbm (tq6 (List.mem_of_getElem? (i := 142) (by decide +kernel))) (by decide +kernel)
theorem ws_X12_hears : Cond.selects RX12 yX12_hears yX12_hears ∈ TB := tbm (tq6 (List.mem_of_getElem? (i := 143) (by decide +kernel))) (by decide +kernel)
theorem mi_X12_hears : MI yX12_hears cX12_hears 8 (some .int) 5 := ⟨wc_X12_hears, wn_X12, ⟨by decide +kernel, by decide +kernel, by decide +kernel⟩, wi_X12_hears, ws_X12_hears⟩
theorem dL_law_791 : decode cL_law 791 = .ok (.if_icmp .eq 661, 3) := by decide +kernel
theorem dL_law_746 : decode cL_law 746 = .ok (.iconst 1, 1) := by decide +kernel
theorem dL_law_747 : decode cL_law 747 = .ok (.goto 4, 3) := by decide +kernel
theorem dL_law_783 : decode cL_law 783 = .ok (.iconst 1, 1) := by decide +kernel
theorem dL_law_784 : decode cL_law 784 = .ok (.goto 4, 3) := by decide +kernel
set_option maxRecDepth 100000 in
set_option maxHeartbeats 4000000 in
theorem lawc_hears {X : XT} {E : EV} {xs : Nat → Int32} (bb : Nat) (hx : Nat) (hm : Nat) (qn : Nat) (qp : Nat) (qs : Nat) (qj : Nat) (ql : Nat) (qh : Nat) (qk : Nat) (qr : Nat) (qg : Nat) (qsh : Nat) (jt : Nat) (je : Nat) (ju : Nat) (ja : Nat) (fe : Nat → Option Nat) (e0 : Nat) (e1 : Nat) (e2 : Nat) (e3 : Nat) (e0a : Nat) (e0b : Nat) (e0c : Nat) (e0d : Nat) (e1a : Nat) (e1b : Nat) (e1c : Nat) (e1d : Nat) (e2a : Nat) (e2b : Nat) (e2c : Nat) (e2d : Nat) (e3a : Nat) (e3b : Nat) (e3c : Nat) (e3d : Nat) (m_manys : Nat) (m_reals : Nat) (m_factsOf : Nat) (m_possible : Nat) (m_tape : Nat) (m_ends : Nat) (m_letters : Nat) (m_actOf : Nat) (m_whom : Nat) (m_actMany : Nat) (m_tokens : Nat) (m_afters : Nat) (m_afterOf : Nat) (m_pile : Nat) (m_caseMany : Nat) (m_happen : Nat) (m_hasIf : Nat) (m_becomes : Nat) (m_goneOf : Nat) (m_heard : Nat) (m_pairs : Nat) (m_heaps : Nat) (m_led : Nat) (m_newAt : Nat) (m_knowing : Nat) (m_firsts : Nat) (m_secrets : Nat) (m_tried : Nat) (m_lanes : Nat) (m_lengths : Nat) (m_cells : Nat) (C : CX X room_1 cL_law 4 RL ret E) (hs : SX X bb 6 xs) (k_fe_0 : fe 0 = some e0) (k_fe_1 : fe 1 = some e1) (k_fe_2 : fe 2 = some e2) (k_fe_3 : fe 3 = some e3) (a0 : Int32) (a1 : Int32) (a2 : Int32) (a3 : Int32) (a4 : Int32) (a5 : Int32) (ea0 : xs 0 = a0) (ea1 : xs 1 = a1) (ea2 : xs 2 = a2) (ea3 : xs 3 = a3) (ea4 : xs 4 = a4) (ea5 : xs 5 = a5) (kk : WW X 4 E 1452 [(3, .int 0), (2, .ref hm), (1, .ref hx), (0, .ref bb)] [] [] 168 11526) : WW X 4 E 717 [(3, .int 0), (2, .ref hm), (1, .ref hx), (0, .ref bb)] [] [(hx, .inr (11, [.ref qn, .ref qp, .int 0, .int 0, .ref qs, .ref qj, .ref ql, .ref qh, .ref qk, .int 0, .ref qr, .ref qg, .int 0, .int 0, .ref qsh])), (qj, .inr (2, [.ref jt, .ref je, .ref ju, .ref ja])), (je, .inl (E.2.1 4, 4, .inr (.inr (.inr (.inr fe))))), (e0, .inr (0, [.int 0, .int 0, .ref e0a, .ref e0b, .ref e0c, .ref e0d])), (e1, .inr (0, [.int 0, .int 0, .ref e1a, .ref e1b, .ref e1c, .ref e1d])), (e2, .inr (0, [.int 0, .int 0, .ref e2a, .ref e2b, .ref e2c, .ref e2d])), (e3, .inr (0, [.int 0, .int 0, .ref e3a, .ref e3b, .ref e3c, .ref e3d])), (hm, .inr (12, [.ref m_manys, .ref m_reals, .ref m_factsOf, .ref m_possible, .int 0, .int 0, .ref m_tape, .int 0, .int 0, .int 0, .int 0, .int 0, .int 0, .int 0, .int 0, .ref m_ends, .ref m_letters, .ref m_actOf, .ref m_whom, .ref m_actMany, .ref m_tokens, .ref m_afters, .ref m_afterOf, .int 0, .ref m_pile, .ref m_caseMany, .ref m_happen, .ref m_hasIf, .ref m_becomes, .ref m_goneOf, .ref m_heard, .ref m_pairs, .ref m_heaps, .int 0, .int 0, .ref m_led, .ref m_newAt, .ref m_knowing, .ref m_firsts, .int 0, .ref m_secrets, .ref m_tried, .ref m_lanes, .ref m_lengths, .ref m_cells])), (m_caseMany, .inl (E.2.1 1, 4, .inl (fun _ => 0)))] 168 11526 := by
  refine ww_aload_n C dL_law_717 2 rfl rfl ?_
  refine ww_aload_n C dL_law_718 3 rfl rfl ?_
  refine ww_iload_n C dL_law_719 0 rfl rfl ?_
  refine ww_iconst (v := 1) C dL_law_720 rfl ?_
  refine ww_iadd (v := 1) C dL_law_721 (by decide) ?_
  refine ww_sld (v := a1) C hs (vin rfl) ea1 dL_law_722 ?_
  refine ww_aload_n C dL_law_723 3 rfl rfl ?_
  refine ww_iload_n C dL_law_724 0 rfl rfl ?_
  refine ww_iconst (v := 2) C dL_law_725 rfl ?_
  refine ww_iadd (v := 2) C dL_law_726 (by decide) ?_
  refine ww_sld (v := a2) C hs (vin rfl) ea2 dL_law_727 ?_
  refine ww_aload_n C dL_law_728 3 rfl rfl ?_
  refine ww_iload_n C dL_law_729 0 rfl rfl ?_
  refine ww_iconst (v := 3) C dL_law_730 rfl ?_
  refine ww_iadd (v := 3) C dL_law_731 (by decide) ?_
  refine ww_sld (v := a3) C hs (vin rfl) ea3 dL_law_732 ?_
  refine ww_aload_n C dL_law_733 3 rfl rfl ?_
  refine ww_iload_n C dL_law_734 0 rfl rfl ?_
  refine ww_iconst (v := 4) C dL_law_735 rfl ?_
  refine ww_iadd (v := 4) C dL_law_736 (by decide) ?_
  refine ww_sld (v := a4) C hs (vin rfl) ea4 dL_law_737 ?_
  refine ww_aload_n C dL_law_738 3 rfl rfl ?_
  refine ww_iload_n C dL_law_739 0 rfl rfl ?_
  refine ww_iconst (v := 5) C dL_law_740 rfl ?_
  refine ww_iadd (v := 5) C dL_law_741 (by decide) ?_
  refine ww_sld (v := a5) C hs (vin rfl) ea5 dL_law_742 ?_
  refine ww_if_eq (tgt := 750) C dL_law_743 (by decide) (fun c_1 => ?_) (fun c_1 => ?_)
  · have zc_1 : a5.toInt = 0 := i_eq rfl rfl c_1
    refine ww_iconst (v := 0) C dL_law_750 rfl ?_
    refine ww_ci (wr := [(hm, .inr (12, [.ref m_manys, .ref m_reals, .ref m_factsOf, .ref m_possible, .int 0, .int 0, .ref m_tape, .int 0, .int 0, .int 0, .int 0, .int 0, .int 0, .int 0, .int 0, .ref m_ends, .ref m_letters, .ref m_actOf, .ref m_whom, .ref m_actMany, .ref m_tokens, .ref m_afters, .ref m_afterOf, .int 0, .ref m_pile, .ref m_caseMany, .ref m_happen, .ref m_hasIf, .ref m_becomes, .ref m_goneOf, .ref m_heard, .ref m_pairs, .ref m_heaps, .int 0, .int 0, .ref m_led, .ref m_newAt, .ref m_knowing, .ref m_firsts, .int 0, .ref m_secrets, .ref m_tried, .ref m_lanes, .ref m_lengths, .ref m_cells])), (m_caseMany, .inl (E.2.1 1, 4, .inl (fun _ => 0)))]) (k' := 168) (n' := 11526) C (run_V (As := [.int a1, .int a2, .int a3, .int a4, .int 0]) (rest := []) C (x_hears X.2.1 E hx a1 a2 a3 a4 0 qn qp qs qj ql qh qk qr qg qsh jt je ju ja fe e0 e1 e2 e3 e0a e0b e0c e0d e1a e1b e1c e1d e2a e2b e2c e2d e3a e3b e3c e3d k_fe_0 k_fe_1 k_fe_2 k_fe_3) mi_X11_hears wl_L_81 rfl 0 11 rfl rfl rfl rfl rfl dL_law_751) [0, 1, 2, 3, 4, 5, 6] [7, 8] rfl rfl rfl rfl (fun r u hw => ?_)
    obtain ⟨rfl, rfl⟩ := hw
    refine ww_eq (ws' := [(hm, .inr (12, [.ref m_manys, .ref m_reals, .ref m_factsOf, .ref m_possible, .int 0, .int 0, .ref m_tape, .int 0, .int 0, .int 0, .int 0, .int 0, .int 0, .int 0, .int 0, .ref m_ends, .ref m_letters, .ref m_actOf, .ref m_whom, .ref m_actMany, .ref m_tokens, .ref m_afters, .ref m_afterOf, .int 0, .ref m_pile, .ref m_caseMany, .ref m_happen, .ref m_hasIf, .ref m_becomes, .ref m_goneOf, .ref m_heard, .ref m_pairs, .ref m_heaps, .int 0, .int 0, .ref m_led, .ref m_newAt, .ref m_knowing, .ref m_firsts, .int 0, .ref m_secrets, .ref m_tried, .ref m_lanes, .ref m_lengths, .ref m_cells])), (m_caseMany, .inl (E.2.1 1, 4, .inl (fun _ => 0)))]) ?_ rfl rfl rfl
    refine ww_aload_n C dL_law_754 1 rfl rfl ?_
    refine ww_aload_n C dL_law_755 3 rfl rfl ?_
    refine ww_iload_n C dL_law_756 0 rfl rfl ?_
    refine ww_iconst (v := 1) C dL_law_757 rfl ?_
    refine ww_iadd (v := 1) C dL_law_758 (by decide) ?_
    refine ww_sld (v := a1) C hs (vin rfl) ea1 dL_law_759 ?_
    refine ww_aload_n C dL_law_760 3 rfl rfl ?_
    refine ww_iload_n C dL_law_761 0 rfl rfl ?_
    refine ww_iconst (v := 2) C dL_law_762 rfl ?_
    refine ww_iadd (v := 2) C dL_law_763 (by decide) ?_
    refine ww_sld (v := a2) C hs (vin rfl) ea2 dL_law_764 ?_
    refine ww_aload_n C dL_law_765 3 rfl rfl ?_
    refine ww_iload_n C dL_law_766 0 rfl rfl ?_
    refine ww_iconst (v := 3) C dL_law_767 rfl ?_
    refine ww_iadd (v := 3) C dL_law_768 (by decide) ?_
    refine ww_sld (v := a3) C hs (vin rfl) ea3 dL_law_769 ?_
    refine ww_aload_n C dL_law_770 3 rfl rfl ?_
    refine ww_iload_n C dL_law_771 0 rfl rfl ?_
    refine ww_iconst (v := 4) C dL_law_772 rfl ?_
    refine ww_iadd (v := 4) C dL_law_773 (by decide) ?_
    refine ww_sld (v := a4) C hs (vin rfl) ea4 dL_law_774 ?_
    refine ww_aload_n C dL_law_775 3 rfl rfl ?_
    refine ww_iload_n C dL_law_776 0 rfl rfl ?_
    refine ww_iconst (v := 5) C dL_law_777 rfl ?_
    refine ww_iadd (v := 5) C dL_law_778 (by decide) ?_
    refine ww_sld (v := a5) C hs (vin rfl) ea5 dL_law_779 ?_
    refine ww_if_eq (tgt := 787) C dL_law_780 (by decide) (fun c_2 => ?_) (fun c_2 => ?_)
    · have zc_2 : a5.toInt = 0 := i_eq rfl rfl c_2
      refine ww_iconst (v := 0) C dL_law_787 rfl ?_
      refine ww_ci (wr := []) (k' := 168) (n' := 11526) C (run_V (As := [.int a1, .int a2, .int a3, .int a4, .int 0]) (rest := [.int (-1)]) C (y_hears X.2.1 E hm a1 a2 a3 a4 0 m_manys m_reals m_factsOf m_possible m_tape m_ends m_letters m_actOf m_whom m_actMany m_tokens m_afters m_afterOf m_pile m_caseMany m_happen m_hasIf m_becomes m_goneOf m_heard m_pairs m_heaps m_led m_newAt m_knowing m_firsts m_secrets m_tried m_lanes m_lengths m_cells) mi_X12_hears wl_L_85 rfl 0 12 rfl rfl rfl rfl rfl dL_law_788) [0, 1] [] rfl rfl rfl rfl (fun r u hw => ?_)
      obtain ⟨rfl, rfl⟩ := hw
      refine ww_eq (ws' := []) ?_ rfl rfl rfl
      refine ww_icmp_eq_t (tgt := 1452) C dL_law_791 (by decide) (rfl) ?_
      exact ww_sub [] rfl rfl kk
    · have zc_2 : a5.toInt ≠ 0 := i_ne rfl rfl c_2
      omega
  · have zc_1 : a5.toInt ≠ 0 := i_ne rfl rfl c_1
    refine ww_iconst (v := 1) C dL_law_746 rfl ?_
    refine ww_goto (tgt := 751) C dL_law_747 (by decide) ?_
    refine ww_ci (wr := [(hm, .inr (12, [.ref m_manys, .ref m_reals, .ref m_factsOf, .ref m_possible, .int 0, .int 0, .ref m_tape, .int 0, .int 0, .int 0, .int 0, .int 0, .int 0, .int 0, .int 0, .ref m_ends, .ref m_letters, .ref m_actOf, .ref m_whom, .ref m_actMany, .ref m_tokens, .ref m_afters, .ref m_afterOf, .int 0, .ref m_pile, .ref m_caseMany, .ref m_happen, .ref m_hasIf, .ref m_becomes, .ref m_goneOf, .ref m_heard, .ref m_pairs, .ref m_heaps, .int 0, .int 0, .ref m_led, .ref m_newAt, .ref m_knowing, .ref m_firsts, .int 0, .ref m_secrets, .ref m_tried, .ref m_lanes, .ref m_lengths, .ref m_cells])), (m_caseMany, .inl (E.2.1 1, 4, .inl (fun _ => 0)))]) (k' := 168) (n' := 11526) C (run_V (As := [.int a1, .int a2, .int a3, .int a4, .int 1]) (rest := []) C (x_hears X.2.1 E hx a1 a2 a3 a4 1 qn qp qs qj ql qh qk qr qg qsh jt je ju ja fe e0 e1 e2 e3 e0a e0b e0c e0d e1a e1b e1c e1d e2a e2b e2c e2d e3a e3b e3c e3d k_fe_0 k_fe_1 k_fe_2 k_fe_3) mi_X11_hears wl_L_81 rfl 0 11 rfl rfl rfl rfl rfl dL_law_751) [0, 1, 2, 3, 4, 5, 6] [7, 8] rfl rfl rfl rfl (fun r u hw => ?_)
    obtain ⟨rfl, rfl⟩ := hw
    refine ww_eq (ws' := [(hm, .inr (12, [.ref m_manys, .ref m_reals, .ref m_factsOf, .ref m_possible, .int 0, .int 0, .ref m_tape, .int 0, .int 0, .int 0, .int 0, .int 0, .int 0, .int 0, .int 0, .ref m_ends, .ref m_letters, .ref m_actOf, .ref m_whom, .ref m_actMany, .ref m_tokens, .ref m_afters, .ref m_afterOf, .int 0, .ref m_pile, .ref m_caseMany, .ref m_happen, .ref m_hasIf, .ref m_becomes, .ref m_goneOf, .ref m_heard, .ref m_pairs, .ref m_heaps, .int 0, .int 0, .ref m_led, .ref m_newAt, .ref m_knowing, .ref m_firsts, .int 0, .ref m_secrets, .ref m_tried, .ref m_lanes, .ref m_lengths, .ref m_cells])), (m_caseMany, .inl (E.2.1 1, 4, .inl (fun _ => 0)))]) ?_ rfl rfl rfl
    refine ww_aload_n C dL_law_754 1 rfl rfl ?_
    refine ww_aload_n C dL_law_755 3 rfl rfl ?_
    refine ww_iload_n C dL_law_756 0 rfl rfl ?_
    refine ww_iconst (v := 1) C dL_law_757 rfl ?_
    refine ww_iadd (v := 1) C dL_law_758 (by decide) ?_
    refine ww_sld (v := a1) C hs (vin rfl) ea1 dL_law_759 ?_
    refine ww_aload_n C dL_law_760 3 rfl rfl ?_
    refine ww_iload_n C dL_law_761 0 rfl rfl ?_
    refine ww_iconst (v := 2) C dL_law_762 rfl ?_
    refine ww_iadd (v := 2) C dL_law_763 (by decide) ?_
    refine ww_sld (v := a2) C hs (vin rfl) ea2 dL_law_764 ?_
    refine ww_aload_n C dL_law_765 3 rfl rfl ?_
    refine ww_iload_n C dL_law_766 0 rfl rfl ?_
    refine ww_iconst (v := 3) C dL_law_767 rfl ?_
    refine ww_iadd (v := 3) C dL_law_768 (by decide) ?_
    refine ww_sld (v := a3) C hs (vin rfl) ea3 dL_law_769 ?_
    refine ww_aload_n C dL_law_770 3 rfl rfl ?_
    refine ww_iload_n C dL_law_771 0 rfl rfl ?_
    refine ww_iconst (v := 4) C dL_law_772 rfl ?_
    refine ww_iadd (v := 4) C dL_law_773 (by decide) ?_
    refine ww_sld (v := a4) C hs (vin rfl) ea4 dL_law_774 ?_
    refine ww_aload_n C dL_law_775 3 rfl rfl ?_
    refine ww_iload_n C dL_law_776 0 rfl rfl ?_
    refine ww_iconst (v := 5) C dL_law_777 rfl ?_
    refine ww_iadd (v := 5) C dL_law_778 (by decide) ?_
    refine ww_sld (v := a5) C hs (vin rfl) ea5 dL_law_779 ?_
    refine ww_if_eq (tgt := 787) C dL_law_780 (by decide) (fun c_3 => ?_) (fun c_3 => ?_)
    · have zc_3 : a5.toInt = 0 := i_eq rfl rfl c_3
      refine ww_iconst (v := 0) C dL_law_787 rfl ?_
      refine ww_ci (wr := []) (k' := 168) (n' := 11526) C (run_V (As := [.int a1, .int a2, .int a3, .int a4, .int 0]) (rest := [.int (-1)]) C (y_hears X.2.1 E hm a1 a2 a3 a4 0 m_manys m_reals m_factsOf m_possible m_tape m_ends m_letters m_actOf m_whom m_actMany m_tokens m_afters m_afterOf m_pile m_caseMany m_happen m_hasIf m_becomes m_goneOf m_heard m_pairs m_heaps m_led m_newAt m_knowing m_firsts m_secrets m_tried m_lanes m_lengths m_cells) mi_X12_hears wl_L_85 rfl 0 12 rfl rfl rfl rfl rfl dL_law_788) [0, 1] [] rfl rfl rfl rfl (fun r u hw => ?_)
      obtain ⟨rfl, rfl⟩ := hw
      refine ww_eq (ws' := []) ?_ rfl rfl rfl
      refine ww_icmp_eq_t (tgt := 1452) C dL_law_791 (by decide) (rfl) ?_
      exact ww_sub [] rfl rfl kk
    · have zc_3 : a5.toInt ≠ 0 := i_ne rfl rfl c_3
      refine ww_iconst (v := 1) C dL_law_783 rfl ?_
      refine ww_goto (tgt := 788) C dL_law_784 (by decide) ?_
      refine ww_ci (wr := []) (k' := 168) (n' := 11526) C (run_V (As := [.int a1, .int a2, .int a3, .int a4, .int 1]) (rest := [.int (-1)]) C (y_hears X.2.1 E hm a1 a2 a3 a4 1 m_manys m_reals m_factsOf m_possible m_tape m_ends m_letters m_actOf m_whom m_actMany m_tokens m_afters m_afterOf m_pile m_caseMany m_happen m_hasIf m_becomes m_goneOf m_heard m_pairs m_heaps m_led m_newAt m_knowing m_firsts m_secrets m_tried m_lanes m_lengths m_cells) mi_X12_hears wl_L_85 rfl 0 12 rfl rfl rfl rfl rfl dL_law_788) [0, 1] [] rfl rfl rfl rfl (fun r u hw => ?_)
      obtain ⟨rfl, rfl⟩ := hw
      refine ww_eq (ws' := []) ?_ rfl rfl rfl
      refine ww_icmp_eq_t (tgt := 1452) C dL_law_791 (by decide) (rfl) ?_
      exact ww_sub [] rfl rfl kk
theorem dL_law_796 : decode cL_law 796 = .ok (.aload_n 1, 1) := by decide +kernel
theorem dL_law_797 : decode cL_law 797 = .ok (.aload_n 0, 1) := by decide +kernel
theorem dL_law_798 : decode cL_law 798 = .ok (.iload_n 3, 1) := by decide +kernel
theorem dL_law_799 : decode cL_law 799 = .ok (.iconst 1, 1) := by decide +kernel
theorem dL_law_800 : decode cL_law 800 = .ok (.iadd, 1) := by decide +kernel
theorem dL_law_801 : decode cL_law 801 = .ok (.iaload, 1) := by decide +kernel
theorem dL_law_802 : decode cL_law 802 = .ok (.aload_n 0, 1) := by decide +kernel
theorem dL_law_803 : decode cL_law 803 = .ok (.iload_n 3, 1) := by decide +kernel
theorem dL_law_804 : decode cL_law 804 = .ok (.iconst 2, 1) := by decide +kernel
theorem dL_law_805 : decode cL_law 805 = .ok (.iadd, 1) := by decide +kernel
theorem dL_law_806 : decode cL_law 806 = .ok (.iaload, 1) := by decide +kernel
theorem dL_law_807 : decode cL_law 807 = .ok (.invokevirtual 86, 3) := by decide +kernel
theorem wl_L_86 : Cond.methodLink RL 86 yX11_happens ∈ TB := tbm (tq4 (List.mem_of_getElem? (i := 83) (by decide +kernel))) (by decide +kernel)
theorem wc_X11_happens : Cond.code yX11_happens cX11_happens 4 (some .int) ∈ TB := tbm (tq4 (List.mem_of_getElem? (i := 86) (rfl))) (by decide +kernel)
theorem wi_X11_happens : Cond.instanceMethod yX11_happens ∈ TB := tbm (tq4 (List.mem_of_getElem? (i := 84) (by decide +kernel))) (by decide +kernel)
theorem ws_X11_happens : Cond.selects RX11 yX11_happens yX11_happens ∈ TB := tbm (tq4 (List.mem_of_getElem? (i := 85) (by decide +kernel))) (by decide +kernel)
theorem mi_X11_happens : MI yX11_happens cX11_happens 4 (some .int) 2 := ⟨wc_X11_happens, wn_X11, ⟨by decide +kernel, by decide +kernel, by decide +kernel⟩, wi_X11_happens, ws_X11_happens⟩
theorem dL_law_810 : decode cL_law 810 = .ok (.aload_n 2, 1) := by decide +kernel
theorem dL_law_811 : decode cL_law 811 = .ok (.aload_n 0, 1) := by decide +kernel
theorem dL_law_812 : decode cL_law 812 = .ok (.iload_n 3, 1) := by decide +kernel
theorem dL_law_813 : decode cL_law 813 = .ok (.iconst 1, 1) := by decide +kernel
theorem dL_law_814 : decode cL_law 814 = .ok (.iadd, 1) := by decide +kernel
theorem dL_law_815 : decode cL_law 815 = .ok (.iaload, 1) := by decide +kernel
theorem dL_law_816 : decode cL_law 816 = .ok (.aload_n 0, 1) := by decide +kernel
theorem dL_law_817 : decode cL_law 817 = .ok (.iload_n 3, 1) := by decide +kernel
theorem dL_law_818 : decode cL_law 818 = .ok (.iconst 2, 1) := by decide +kernel
theorem dL_law_819 : decode cL_law 819 = .ok (.iadd, 1) := by decide +kernel
theorem dL_law_820 : decode cL_law 820 = .ok (.iaload, 1) := by decide +kernel
theorem dL_law_821 : decode cL_law 821 = .ok (.invokevirtual 89, 3) := by decide +kernel
theorem wl_L_89 : Cond.methodLink RL 89 yX12_happens ∈ TB := tbm (tq6 (List.mem_of_getElem? (i := 145) (by decide +kernel))) (by decide +kernel)
theorem wc_X12_happens : Cond.code yX12_happens cX12_happens 4 (some .int) ∈ TB := tbm (tq6 (List.mem_of_getElem? (i := 148) (rfl))) (by decide +kernel)
theorem wi_X12_happens : Cond.instanceMethod yX12_happens ∈ TB := tbm (tq6 (List.mem_of_getElem? (i := 146) (by decide +kernel))) (by decide +kernel)
theorem ws_X12_happens : Cond.selects RX12 yX12_happens yX12_happens ∈ TB := tbm (tq6 (List.mem_of_getElem? (i := 147) (by decide +kernel))) (by decide +kernel)
theorem mi_X12_happens : MI yX12_happens cX12_happens 4 (some .int) 2 := ⟨wc_X12_happens, wn_X12, ⟨by decide +kernel, by decide +kernel, by decide +kernel⟩, wi_X12_happens, ws_X12_happens⟩
theorem dL_law_824 : decode cL_law 824 = .ok (.if_icmp .eq 628, 3) := by decide +kernel
set_option maxRecDepth 100000 in
set_option maxHeartbeats 4000000 in
theorem lawc_happens {X : XT} {E : EV} {xs : Nat → Int32} (bb : Nat) (hx : Nat) (hm : Nat) (qn : Nat) (qp : Nat) (qs : Nat) (qj : Nat) (ql : Nat) (qh : Nat) (qk : Nat) (qr : Nat) (qg : Nat) (qsh : Nat) (jt : Nat) (je : Nat) (ju : Nat) (ja : Nat) (fe : Nat → Option Nat) (e0 : Nat) (e1 : Nat) (e2 : Nat) (e3 : Nat) (e0a : Nat) (e0b : Nat) (e0c : Nat) (e0d : Nat) (e1a : Nat) (e1b : Nat) (e1c : Nat) (e1d : Nat) (e2a : Nat) (e2b : Nat) (e2c : Nat) (e2d : Nat) (e3a : Nat) (e3b : Nat) (e3c : Nat) (e3d : Nat) (m_manys : Nat) (m_reals : Nat) (m_factsOf : Nat) (m_possible : Nat) (m_tape : Nat) (m_ends : Nat) (m_letters : Nat) (m_actOf : Nat) (m_whom : Nat) (m_actMany : Nat) (m_tokens : Nat) (m_afters : Nat) (m_afterOf : Nat) (m_pile : Nat) (m_caseMany : Nat) (m_happen : Nat) (m_hasIf : Nat) (m_becomes : Nat) (m_goneOf : Nat) (m_heard : Nat) (m_pairs : Nat) (m_heaps : Nat) (m_led : Nat) (m_newAt : Nat) (m_knowing : Nat) (m_firsts : Nat) (m_secrets : Nat) (m_tried : Nat) (m_lanes : Nat) (m_lengths : Nat) (m_cells : Nat) (C : CX X room_1 cL_law 4 RL ret E) (hs : SX X bb 6 xs) (k_fe_0 : fe 0 = some e0) (k_fe_1 : fe 1 = some e1) (k_fe_2 : fe 2 = some e2) (k_fe_3 : fe 3 = some e3) (a0 : Int32) (a1 : Int32) (a2 : Int32) (a3 : Int32) (a4 : Int32) (a5 : Int32) (ea0 : xs 0 = a0) (ea1 : xs 1 = a1) (ea2 : xs 2 = a2) (ea3 : xs 3 = a3) (ea4 : xs 4 = a4) (ea5 : xs 5 = a5) (kk : WW X 4 E 1452 [(3, .int 0), (2, .ref hm), (1, .ref hx), (0, .ref bb)] [] [] 168 11526) : WW X 4 E 796 [(3, .int 0), (2, .ref hm), (1, .ref hx), (0, .ref bb)] [] [(hx, .inr (11, [.ref qn, .ref qp, .int 0, .int 0, .ref qs, .ref qj, .ref ql, .ref qh, .ref qk, .int 0, .ref qr, .ref qg, .int 0, .int 0, .ref qsh])), (qj, .inr (2, [.ref jt, .ref je, .ref ju, .ref ja])), (je, .inl (E.2.1 4, 4, .inr (.inr (.inr (.inr fe))))), (e0, .inr (0, [.int 0, .int 0, .ref e0a, .ref e0b, .ref e0c, .ref e0d])), (e1, .inr (0, [.int 0, .int 0, .ref e1a, .ref e1b, .ref e1c, .ref e1d])), (e2, .inr (0, [.int 0, .int 0, .ref e2a, .ref e2b, .ref e2c, .ref e2d])), (e3, .inr (0, [.int 0, .int 0, .ref e3a, .ref e3b, .ref e3c, .ref e3d])), (hm, .inr (12, [.ref m_manys, .ref m_reals, .ref m_factsOf, .ref m_possible, .int 0, .int 0, .ref m_tape, .int 0, .int 0, .int 0, .int 0, .int 0, .int 0, .int 0, .int 0, .ref m_ends, .ref m_letters, .ref m_actOf, .ref m_whom, .ref m_actMany, .ref m_tokens, .ref m_afters, .ref m_afterOf, .int 0, .ref m_pile, .ref m_caseMany, .ref m_happen, .ref m_hasIf, .ref m_becomes, .ref m_goneOf, .ref m_heard, .ref m_pairs, .ref m_heaps, .int 0, .int 0, .ref m_led, .ref m_newAt, .ref m_knowing, .ref m_firsts, .int 0, .ref m_secrets, .ref m_tried, .ref m_lanes, .ref m_lengths, .ref m_cells])), (m_caseMany, .inl (E.2.1 1, 4, .inl (fun _ => 0)))] 168 11526 := by
  refine ww_aload_n C dL_law_796 2 rfl rfl ?_
  refine ww_aload_n C dL_law_797 3 rfl rfl ?_
  refine ww_iload_n C dL_law_798 0 rfl rfl ?_
  refine ww_iconst (v := 1) C dL_law_799 rfl ?_
  refine ww_iadd (v := 1) C dL_law_800 (by decide) ?_
  refine ww_sld (v := a1) C hs (vin rfl) ea1 dL_law_801 ?_
  refine ww_aload_n C dL_law_802 3 rfl rfl ?_
  refine ww_iload_n C dL_law_803 0 rfl rfl ?_
  refine ww_iconst (v := 2) C dL_law_804 rfl ?_
  refine ww_iadd (v := 2) C dL_law_805 (by decide) ?_
  refine ww_sld (v := a2) C hs (vin rfl) ea2 dL_law_806 ?_
  refine ww_ci (wr := [(hm, .inr (12, [.ref m_manys, .ref m_reals, .ref m_factsOf, .ref m_possible, .int 0, .int 0, .ref m_tape, .int 0, .int 0, .int 0, .int 0, .int 0, .int 0, .int 0, .int 0, .ref m_ends, .ref m_letters, .ref m_actOf, .ref m_whom, .ref m_actMany, .ref m_tokens, .ref m_afters, .ref m_afterOf, .int 0, .ref m_pile, .ref m_caseMany, .ref m_happen, .ref m_hasIf, .ref m_becomes, .ref m_goneOf, .ref m_heard, .ref m_pairs, .ref m_heaps, .int 0, .int 0, .ref m_led, .ref m_newAt, .ref m_knowing, .ref m_firsts, .int 0, .ref m_secrets, .ref m_tried, .ref m_lanes, .ref m_lengths, .ref m_cells])), (m_caseMany, .inl (E.2.1 1, 4, .inl (fun _ => 0)))]) (k' := 168) (n' := 11526) C (run_V (As := [.int a1, .int a2]) (rest := []) C (x_happens X.2.1 E hx a1 a2 qn qp qs qj ql qh qk qr qg qsh jt je ju ja fe e0 e1 e2 e3 e0a e0b e0c e0d e1a e1b e1c e1d e2a e2b e2c e2d e3a e3b e3c e3d k_fe_0 k_fe_1 k_fe_2 k_fe_3) mi_X11_happens wl_L_86 rfl 0 11 rfl rfl rfl rfl rfl dL_law_807) [0, 1, 2, 3, 4, 5, 6] [7, 8] rfl rfl rfl rfl (fun r u hw => ?_)
  obtain ⟨rfl, rfl⟩ := hw
  refine ww_eq (ws' := [(hm, .inr (12, [.ref m_manys, .ref m_reals, .ref m_factsOf, .ref m_possible, .int 0, .int 0, .ref m_tape, .int 0, .int 0, .int 0, .int 0, .int 0, .int 0, .int 0, .int 0, .ref m_ends, .ref m_letters, .ref m_actOf, .ref m_whom, .ref m_actMany, .ref m_tokens, .ref m_afters, .ref m_afterOf, .int 0, .ref m_pile, .ref m_caseMany, .ref m_happen, .ref m_hasIf, .ref m_becomes, .ref m_goneOf, .ref m_heard, .ref m_pairs, .ref m_heaps, .int 0, .int 0, .ref m_led, .ref m_newAt, .ref m_knowing, .ref m_firsts, .int 0, .ref m_secrets, .ref m_tried, .ref m_lanes, .ref m_lengths, .ref m_cells])), (m_caseMany, .inl (E.2.1 1, 4, .inl (fun _ => 0)))]) ?_ rfl rfl rfl
  refine ww_aload_n C dL_law_810 1 rfl rfl ?_
  refine ww_aload_n C dL_law_811 3 rfl rfl ?_
  refine ww_iload_n C dL_law_812 0 rfl rfl ?_
  refine ww_iconst (v := 1) C dL_law_813 rfl ?_
  refine ww_iadd (v := 1) C dL_law_814 (by decide) ?_
  refine ww_sld (v := a1) C hs (vin rfl) ea1 dL_law_815 ?_
  refine ww_aload_n C dL_law_816 3 rfl rfl ?_
  refine ww_iload_n C dL_law_817 0 rfl rfl ?_
  refine ww_iconst (v := 2) C dL_law_818 rfl ?_
  refine ww_iadd (v := 2) C dL_law_819 (by decide) ?_
  refine ww_sld (v := a2) C hs (vin rfl) ea2 dL_law_820 ?_
  refine ww_ci (wr := []) (k' := 168) (n' := 11526) C (run_V (As := [.int a1, .int a2]) (rest := [.int (-1)]) C (y_happens X.2.1 E hm a1 a2 m_manys m_reals m_factsOf m_possible m_tape m_ends m_letters m_actOf m_whom m_actMany m_tokens m_afters m_afterOf m_pile m_caseMany m_happen m_hasIf m_becomes m_goneOf m_heard m_pairs m_heaps m_led m_newAt m_knowing m_firsts m_secrets m_tried m_lanes m_lengths m_cells) mi_X12_happens wl_L_89 rfl 0 12 rfl rfl rfl rfl rfl dL_law_821) [0, 1] [] rfl rfl rfl rfl (fun r u hw => ?_)
  obtain ⟨rfl, rfl⟩ := hw
  refine ww_eq (ws' := []) ?_ rfl rfl rfl
  refine ww_icmp_eq_t (tgt := 1452) C dL_law_824 (by decide) (rfl) ?_
  exact ww_sub [] rfl rfl kk
theorem dL_law_829 : decode cL_law 829 = .ok (.aload_n 1, 1) := by decide +kernel
theorem dL_law_830 : decode cL_law 830 = .ok (.aload_n 0, 1) := by decide +kernel
theorem dL_law_831 : decode cL_law 831 = .ok (.iload_n 3, 1) := by decide +kernel
theorem dL_law_832 : decode cL_law 832 = .ok (.iconst 1, 1) := by decide +kernel
theorem dL_law_833 : decode cL_law 833 = .ok (.iadd, 1) := by decide +kernel
theorem dL_law_834 : decode cL_law 834 = .ok (.iaload, 1) := by decide +kernel
theorem dL_law_835 : decode cL_law 835 = .ok (.aload_n 0, 1) := by decide +kernel
theorem dL_law_836 : decode cL_law 836 = .ok (.iload_n 3, 1) := by decide +kernel
theorem dL_law_837 : decode cL_law 837 = .ok (.iconst 2, 1) := by decide +kernel
theorem dL_law_838 : decode cL_law 838 = .ok (.iadd, 1) := by decide +kernel
theorem dL_law_839 : decode cL_law 839 = .ok (.iaload, 1) := by decide +kernel
theorem dL_law_840 : decode cL_law 840 = .ok (.aload_n 0, 1) := by decide +kernel
theorem dL_law_841 : decode cL_law 841 = .ok (.iload_n 3, 1) := by decide +kernel
theorem dL_law_842 : decode cL_law 842 = .ok (.iconst 3, 1) := by decide +kernel
theorem dL_law_843 : decode cL_law 843 = .ok (.iadd, 1) := by decide +kernel
theorem dL_law_844 : decode cL_law 844 = .ok (.iaload, 1) := by decide +kernel
theorem dL_law_845 : decode cL_law 845 = .ok (.aload_n 0, 1) := by decide +kernel
theorem dL_law_846 : decode cL_law 846 = .ok (.iload_n 3, 1) := by decide +kernel
theorem dL_law_847 : decode cL_law 847 = .ok (.iconst 4, 1) := by decide +kernel
theorem dL_law_848 : decode cL_law 848 = .ok (.iadd, 1) := by decide +kernel
theorem dL_law_849 : decode cL_law 849 = .ok (.iaload, 1) := by decide +kernel
theorem dL_law_850 : decode cL_law 850 = .ok (.invokevirtual 90, 3) := by decide +kernel
theorem wl_L_90 : Cond.methodLink RL 90 yX11_word ∈ TB := tbm (tq4 (List.mem_of_getElem? (i := 87) (by decide +kernel))) (by decide +kernel)
theorem wc_X11_word : Cond.code yX11_word cX11_word 5 (some .int) ∈ TB := tbm (tq4 (List.mem_of_getElem? (i := 90) (rfl))) (by decide +kernel)
theorem wi_X11_word : Cond.instanceMethod yX11_word ∈ TB := tbm (tq4 (List.mem_of_getElem? (i := 88) (by decide +kernel))) (by decide +kernel)
theorem ws_X11_word : Cond.selects RX11 yX11_word yX11_word ∈ TB := tbm (tq4 (List.mem_of_getElem? (i := 89) (by decide +kernel))) (by decide +kernel)
theorem mi_X11_word : MI yX11_word cX11_word 5 (some .int) 4 := ⟨wc_X11_word, wn_X11, ⟨by decide +kernel, by decide +kernel, by decide +kernel⟩, wi_X11_word, ws_X11_word⟩
theorem dL_law_853 : decode cL_law 853 = .ok (.aload_n 2, 1) := by decide +kernel
theorem dL_law_854 : decode cL_law 854 = .ok (.aload_n 0, 1) := by decide +kernel
theorem dL_law_855 : decode cL_law 855 = .ok (.iload_n 3, 1) := by decide +kernel
theorem dL_law_856 : decode cL_law 856 = .ok (.iconst 1, 1) := by decide +kernel
theorem dL_law_857 : decode cL_law 857 = .ok (.iadd, 1) := by decide +kernel
theorem dL_law_858 : decode cL_law 858 = .ok (.iaload, 1) := by decide +kernel
theorem dL_law_859 : decode cL_law 859 = .ok (.aload_n 0, 1) := by decide +kernel
theorem dL_law_860 : decode cL_law 860 = .ok (.iload_n 3, 1) := by decide +kernel
theorem dL_law_861 : decode cL_law 861 = .ok (.iconst 2, 1) := by decide +kernel
theorem dL_law_862 : decode cL_law 862 = .ok (.iadd, 1) := by decide +kernel
theorem dL_law_863 : decode cL_law 863 = .ok (.iaload, 1) := by decide +kernel
theorem dL_law_864 : decode cL_law 864 = .ok (.aload_n 0, 1) := by decide +kernel
theorem dL_law_865 : decode cL_law 865 = .ok (.iload_n 3, 1) := by decide +kernel
theorem dL_law_866 : decode cL_law 866 = .ok (.iconst 3, 1) := by decide +kernel
theorem dL_law_867 : decode cL_law 867 = .ok (.iadd, 1) := by decide +kernel
theorem dL_law_868 : decode cL_law 868 = .ok (.iaload, 1) := by decide +kernel
theorem dL_law_869 : decode cL_law 869 = .ok (.aload_n 0, 1) := by decide +kernel
theorem dL_law_870 : decode cL_law 870 = .ok (.iload_n 3, 1) := by decide +kernel
theorem dL_law_871 : decode cL_law 871 = .ok (.iconst 4, 1) := by decide +kernel
theorem dL_law_872 : decode cL_law 872 = .ok (.iadd, 1) := by decide +kernel
theorem dL_law_873 : decode cL_law 873 = .ok (.iaload, 1) := by decide +kernel
theorem dL_law_874 : decode cL_law 874 = .ok (.invokevirtual 94, 3) := by decide +kernel
theorem wl_L_94 : Cond.methodLink RL 94 yX12_word ∈ TB := tbm (tq6 (List.mem_of_getElem? (i := 149) (by decide +kernel))) (by decide +kernel)
theorem wc_X12_word : Cond.code yX12_word cX12_word 7 (some .int) ∈ TB := tbm (tq6 (List.mem_of_getElem? (i := 152) (rfl))) (by decide +kernel)
theorem wi_X12_word : Cond.instanceMethod yX12_word ∈ TB := tbm (tq6 (List.mem_of_getElem? (i := 150) (by decide +kernel))) (by decide +kernel)
theorem ws_X12_word : Cond.selects RX12 yX12_word yX12_word ∈ TB := tbm (tq6 (List.mem_of_getElem? (i := 151) (by decide +kernel))) (by decide +kernel)
theorem mi_X12_word : MI yX12_word cX12_word 7 (some .int) 4 := ⟨wc_X12_word, wn_X12, ⟨by decide +kernel, by decide +kernel, by decide +kernel⟩, wi_X12_word, ws_X12_word⟩
theorem dL_law_877 : decode cL_law 877 = .ok (.if_icmp .eq 575, 3) := by decide +kernel
set_option maxRecDepth 100000 in
set_option maxHeartbeats 4000000 in
theorem lawc_word {X : XT} {E : EV} {xs : Nat → Int32} (bb : Nat) (hx : Nat) (hm : Nat) (qn : Nat) (qp : Nat) (qs : Nat) (qj : Nat) (ql : Nat) (qh : Nat) (qk : Nat) (qr : Nat) (qg : Nat) (qsh : Nat) (jt : Nat) (je : Nat) (ju : Nat) (ja : Nat) (m_manys : Nat) (m_reals : Nat) (m_factsOf : Nat) (m_possible : Nat) (m_tape : Nat) (m_ends : Nat) (m_letters : Nat) (m_actOf : Nat) (m_whom : Nat) (m_actMany : Nat) (m_tokens : Nat) (m_afters : Nat) (m_afterOf : Nat) (m_pile : Nat) (m_caseMany : Nat) (m_happen : Nat) (m_hasIf : Nat) (m_becomes : Nat) (m_goneOf : Nat) (m_heard : Nat) (m_pairs : Nat) (m_heaps : Nat) (m_led : Nat) (m_newAt : Nat) (m_knowing : Nat) (m_firsts : Nat) (m_secrets : Nat) (m_tried : Nat) (m_lanes : Nat) (m_lengths : Nat) (m_cells : Nat) (C : CX X room_1 cL_law 4 RL ret E) (hs : SX X bb 6 xs)  (a0 : Int32) (a1 : Int32) (a2 : Int32) (a3 : Int32) (a4 : Int32) (a5 : Int32) (ea0 : xs 0 = a0) (ea1 : xs 1 = a1) (ea2 : xs 2 = a2) (ea3 : xs 3 = a3) (ea4 : xs 4 = a4) (ea5 : xs 5 = a5) (kk : WW X 4 E 1452 [(3, .int 0), (2, .ref hm), (1, .ref hx), (0, .ref bb)] [] [] 168 11526) : WW X 4 E 829 [(3, .int 0), (2, .ref hm), (1, .ref hx), (0, .ref bb)] [] [(hx, .inr (11, [.ref qn, .ref qp, .int 0, .int 0, .ref qs, .ref qj, .ref ql, .ref qh, .ref qk, .int 0, .ref qr, .ref qg, .int 0, .int 0, .ref qsh])), (qj, .inr (2, [.ref jt, .ref je, .ref ju, .ref ja])), (jt, .inl (E.2.1 7, 8, .inr (.inr (.inr (.inr (fun _ => none)))))), (hm, .inr (12, [.ref m_manys, .ref m_reals, .ref m_factsOf, .ref m_possible, .int 0, .int 0, .ref m_tape, .int 0, .int 0, .int 0, .int 0, .int 0, .int 0, .int 0, .int 0, .ref m_ends, .ref m_letters, .ref m_actOf, .ref m_whom, .ref m_actMany, .ref m_tokens, .ref m_afters, .ref m_afterOf, .int 0, .ref m_pile, .ref m_caseMany, .ref m_happen, .ref m_hasIf, .ref m_becomes, .ref m_goneOf, .ref m_heard, .ref m_pairs, .ref m_heaps, .int 0, .int 0, .ref m_led, .ref m_newAt, .ref m_knowing, .ref m_firsts, .int 0, .ref m_secrets, .ref m_tried, .ref m_lanes, .ref m_lengths, .ref m_cells])), (m_tokens, .inl (E.2.1 1, 9, .inl (fun _ => 0)))] 168 11526 := by
  refine ww_aload_n C dL_law_829 2 rfl rfl ?_
  refine ww_aload_n C dL_law_830 3 rfl rfl ?_
  refine ww_iload_n C dL_law_831 0 rfl rfl ?_
  refine ww_iconst (v := 1) C dL_law_832 rfl ?_
  refine ww_iadd (v := 1) C dL_law_833 (by decide) ?_
  refine ww_sld (v := a1) C hs (vin rfl) ea1 dL_law_834 ?_
  refine ww_aload_n C dL_law_835 3 rfl rfl ?_
  refine ww_iload_n C dL_law_836 0 rfl rfl ?_
  refine ww_iconst (v := 2) C dL_law_837 rfl ?_
  refine ww_iadd (v := 2) C dL_law_838 (by decide) ?_
  refine ww_sld (v := a2) C hs (vin rfl) ea2 dL_law_839 ?_
  refine ww_aload_n C dL_law_840 3 rfl rfl ?_
  refine ww_iload_n C dL_law_841 0 rfl rfl ?_
  refine ww_iconst (v := 3) C dL_law_842 rfl ?_
  refine ww_iadd (v := 3) C dL_law_843 (by decide) ?_
  refine ww_sld (v := a3) C hs (vin rfl) ea3 dL_law_844 ?_
  refine ww_aload_n C dL_law_845 3 rfl rfl ?_
  refine ww_iload_n C dL_law_846 0 rfl rfl ?_
  refine ww_iconst (v := 4) C dL_law_847 rfl ?_
  refine ww_iadd (v := 4) C dL_law_848 (by decide) ?_
  refine ww_sld (v := a4) C hs (vin rfl) ea4 dL_law_849 ?_
  refine ww_ci (wr := [(hm, .inr (12, [.ref m_manys, .ref m_reals, .ref m_factsOf, .ref m_possible, .int 0, .int 0, .ref m_tape, .int 0, .int 0, .int 0, .int 0, .int 0, .int 0, .int 0, .int 0, .ref m_ends, .ref m_letters, .ref m_actOf, .ref m_whom, .ref m_actMany, .ref m_tokens, .ref m_afters, .ref m_afterOf, .int 0, .ref m_pile, .ref m_caseMany, .ref m_happen, .ref m_hasIf, .ref m_becomes, .ref m_goneOf, .ref m_heard, .ref m_pairs, .ref m_heaps, .int 0, .int 0, .ref m_led, .ref m_newAt, .ref m_knowing, .ref m_firsts, .int 0, .ref m_secrets, .ref m_tried, .ref m_lanes, .ref m_lengths, .ref m_cells])), (m_tokens, .inl (E.2.1 1, 9, .inl (fun _ => 0)))]) (k' := 168) (n' := 11526) C (run_V (As := [.int a1, .int a2, .int a3, .int a4]) (rest := []) C (x_word X.2.1 E hx a1 a2 a3 a4 qn qp qs qj ql qh qk qr qg qsh jt je ju ja) mi_X11_word wl_L_90 rfl 0 11 rfl rfl rfl rfl rfl dL_law_850) [0, 1, 2] [3, 4] rfl rfl rfl rfl (fun r u hw => ?_)
  obtain ⟨rfl, rfl⟩ := hw
  refine ww_eq (ws' := [(hm, .inr (12, [.ref m_manys, .ref m_reals, .ref m_factsOf, .ref m_possible, .int 0, .int 0, .ref m_tape, .int 0, .int 0, .int 0, .int 0, .int 0, .int 0, .int 0, .int 0, .ref m_ends, .ref m_letters, .ref m_actOf, .ref m_whom, .ref m_actMany, .ref m_tokens, .ref m_afters, .ref m_afterOf, .int 0, .ref m_pile, .ref m_caseMany, .ref m_happen, .ref m_hasIf, .ref m_becomes, .ref m_goneOf, .ref m_heard, .ref m_pairs, .ref m_heaps, .int 0, .int 0, .ref m_led, .ref m_newAt, .ref m_knowing, .ref m_firsts, .int 0, .ref m_secrets, .ref m_tried, .ref m_lanes, .ref m_lengths, .ref m_cells])), (m_tokens, .inl (E.2.1 1, 9, .inl (fun _ => 0)))]) ?_ rfl rfl rfl
  refine ww_aload_n C dL_law_853 1 rfl rfl ?_
  refine ww_aload_n C dL_law_854 3 rfl rfl ?_
  refine ww_iload_n C dL_law_855 0 rfl rfl ?_
  refine ww_iconst (v := 1) C dL_law_856 rfl ?_
  refine ww_iadd (v := 1) C dL_law_857 (by decide) ?_
  refine ww_sld (v := a1) C hs (vin rfl) ea1 dL_law_858 ?_
  refine ww_aload_n C dL_law_859 3 rfl rfl ?_
  refine ww_iload_n C dL_law_860 0 rfl rfl ?_
  refine ww_iconst (v := 2) C dL_law_861 rfl ?_
  refine ww_iadd (v := 2) C dL_law_862 (by decide) ?_
  refine ww_sld (v := a2) C hs (vin rfl) ea2 dL_law_863 ?_
  refine ww_aload_n C dL_law_864 3 rfl rfl ?_
  refine ww_iload_n C dL_law_865 0 rfl rfl ?_
  refine ww_iconst (v := 3) C dL_law_866 rfl ?_
  refine ww_iadd (v := 3) C dL_law_867 (by decide) ?_
  refine ww_sld (v := a3) C hs (vin rfl) ea3 dL_law_868 ?_
  refine ww_aload_n C dL_law_869 3 rfl rfl ?_
  refine ww_iload_n C dL_law_870 0 rfl rfl ?_
  refine ww_iconst (v := 4) C dL_law_871 rfl ?_
  refine ww_iadd (v := 4) C dL_law_872 (by decide) ?_
  refine ww_sld (v := a4) C hs (vin rfl) ea4 dL_law_873 ?_
  refine ww_ci (wr := []) (k' := 168) (n' := 11526) C (run_V (As := [.int a1, .int a2, .int a3, .int a4]) (rest := [.int (-1)]) C (y_word X.2.1 E hm a1 a2 a3 a4 m_manys m_reals m_factsOf m_possible m_tape m_ends m_letters m_actOf m_whom m_actMany m_tokens m_afters m_afterOf m_pile m_caseMany m_happen m_hasIf m_becomes m_goneOf m_heard m_pairs m_heaps m_led m_newAt m_knowing m_firsts m_secrets m_tried m_lanes m_lengths m_cells) mi_X12_word wl_L_94 rfl 0 12 rfl rfl rfl rfl rfl dL_law_874) [0, 1] [] rfl rfl rfl rfl (fun r u hw => ?_)
  obtain ⟨rfl, rfl⟩ := hw
  refine ww_eq (ws' := []) ?_ rfl rfl rfl
  refine ww_icmp_eq_t (tgt := 1452) C dL_law_877 (by decide) (rfl) ?_
  exact ww_sub [] rfl rfl kk
theorem dL_law_882 : decode cL_law 882 = .ok (.aload_n 1, 1) := by decide +kernel
theorem dL_law_883 : decode cL_law 883 = .ok (.aload_n 0, 1) := by decide +kernel
theorem dL_law_884 : decode cL_law 884 = .ok (.iload_n 3, 1) := by decide +kernel
theorem dL_law_885 : decode cL_law 885 = .ok (.iconst 1, 1) := by decide +kernel
theorem dL_law_886 : decode cL_law 886 = .ok (.iadd, 1) := by decide +kernel
theorem dL_law_887 : decode cL_law 887 = .ok (.iaload, 1) := by decide +kernel
theorem dL_law_888 : decode cL_law 888 = .ok (.invokevirtual 95, 3) := by decide +kernel
theorem wl_L_95 : Cond.methodLink RL 95 yX11_lay ∈ TB := tbm (tq4 (List.mem_of_getElem? (i := 102) (by decide +kernel))) (by decide +kernel)
theorem wc_X11_lay : Cond.code yX11_lay cX11_lay 2 (some .int) ∈ TB := tbm (tq4 (List.mem_of_getElem? (i := 105) (rfl))) (by decide +kernel)
theorem wi_X11_lay : Cond.instanceMethod yX11_lay ∈ TB := tbm (tq4 (List.mem_of_getElem? (i := 103) (by decide +kernel))) (by decide +kernel)
theorem ws_X11_lay : Cond.selects RX11 yX11_lay yX11_lay ∈ TB := tbm (tq4 (List.mem_of_getElem? (i := 104) (by decide +kernel))) (by decide +kernel)
theorem mi_X11_lay : MI yX11_lay cX11_lay 2 (some .int) 1 := ⟨wc_X11_lay, wn_X11, ⟨by decide +kernel, by decide +kernel, by decide +kernel⟩, wi_X11_lay, ws_X11_lay⟩
theorem dL_law_891 : decode cL_law 891 = .ok (.aload_n 2, 1) := by decide +kernel
theorem dL_law_892 : decode cL_law 892 = .ok (.aload_n 0, 1) := by decide +kernel
theorem dL_law_893 : decode cL_law 893 = .ok (.iload_n 3, 1) := by decide +kernel
theorem dL_law_894 : decode cL_law 894 = .ok (.iconst 1, 1) := by decide +kernel
theorem dL_law_895 : decode cL_law 895 = .ok (.iadd, 1) := by decide +kernel
theorem dL_law_896 : decode cL_law 896 = .ok (.iaload, 1) := by decide +kernel
theorem dL_law_897 : decode cL_law 897 = .ok (.invokevirtual 98, 3) := by decide +kernel
theorem wl_L_98 : Cond.methodLink RL 98 yX12_lay ∈ TB := tbm (tq6 (List.mem_of_getElem? (i := 197) (by decide +kernel))) (by decide +kernel)
theorem wc_X12_lay : Cond.code yX12_lay cX12_lay 2 (some .int) ∈ TB := tbm (tq6 (List.mem_of_getElem? (i := 200) (rfl))) (by decide +kernel)
theorem wi_X12_lay : Cond.instanceMethod yX12_lay ∈ TB := tbm (tq6 (List.mem_of_getElem? (i := 198) (by decide +kernel))) (by decide +kernel)
theorem ws_X12_lay : Cond.selects RX12 yX12_lay yX12_lay ∈ TB := tbm (tq6 (List.mem_of_getElem? (i := 199) (by decide +kernel))) (by decide +kernel)
theorem mi_X12_lay : MI yX12_lay cX12_lay 2 (some .int) 1 := ⟨wc_X12_lay, wn_X12, ⟨by decide +kernel, by decide +kernel, by decide +kernel⟩, wi_X12_lay, ws_X12_lay⟩
theorem dL_law_900 : decode cL_law 900 = .ok (.if_icmp .eq 552, 3) := by decide +kernel
set_option maxRecDepth 100000 in
set_option maxHeartbeats 4000000 in
theorem lawc_lay {X : XT} {E : EV} {xs : Nat → Int32} (bb : Nat) (hx : Nat) (hm : Nat) (qn : Nat) (qp : Nat) (qs : Nat) (qj : Nat) (ql : Nat) (qh : Nat) (qk : Nat) (qr : Nat) (qg : Nat) (qsh : Nat) (jt : Nat) (je : Nat) (ju : Nat) (ja : Nat) (fe : Nat → Option Nat) (e0 : Nat) (e1 : Nat) (e2 : Nat) (e3 : Nat) (e0a : Nat) (e0b : Nat) (e0c : Nat) (e0d : Nat) (e1a : Nat) (e1b : Nat) (e1c : Nat) (e1d : Nat) (e2a : Nat) (e2b : Nat) (e2c : Nat) (e2d : Nat) (e3a : Nat) (e3b : Nat) (e3c : Nat) (e3d : Nat) (m_manys : Nat) (m_reals : Nat) (m_factsOf : Nat) (m_possible : Nat) (m_tape : Nat) (m_ends : Nat) (m_letters : Nat) (m_actOf : Nat) (m_whom : Nat) (m_actMany : Nat) (m_tokens : Nat) (m_afters : Nat) (m_afterOf : Nat) (m_pile : Nat) (m_caseMany : Nat) (m_happen : Nat) (m_hasIf : Nat) (m_becomes : Nat) (m_goneOf : Nat) (m_heard : Nat) (m_pairs : Nat) (m_heaps : Nat) (m_led : Nat) (m_newAt : Nat) (m_knowing : Nat) (m_firsts : Nat) (m_secrets : Nat) (m_tried : Nat) (m_lanes : Nat) (m_lengths : Nat) (m_cells : Nat) (C : CX X room_1 cL_law 4 RL ret E) (hs : SX X bb 6 xs) (k_fe_0 : fe 0 = some e0) (k_fe_1 : fe 1 = some e1) (k_fe_2 : fe 2 = some e2) (k_fe_3 : fe 3 = some e3) (a0 : Int32) (a1 : Int32) (a2 : Int32) (a3 : Int32) (a4 : Int32) (a5 : Int32) (ea0 : xs 0 = a0) (ea1 : xs 1 = a1) (ea2 : xs 2 = a2) (ea3 : xs 3 = a3) (ea4 : xs 4 = a4) (ea5 : xs 5 = a5) (kk : WW X 4 E 1452 [(3, .int 0), (2, .ref hm), (1, .ref hx), (0, .ref bb)] [] [] 168 11526) : WW X 4 E 882 [(3, .int 0), (2, .ref hm), (1, .ref hx), (0, .ref bb)] [] [(hx, .inr (11, [.ref qn, .ref qp, .int 0, .int 0, .ref qs, .ref qj, .ref ql, .ref qh, .ref qk, .int 0, .ref qr, .ref qg, .int 0, .int 0, .ref qsh])), (qj, .inr (2, [.ref jt, .ref je, .ref ju, .ref ja])), (je, .inl (E.2.1 4, 4, .inr (.inr (.inr (.inr fe))))), (e0, .inr (0, [.int 0, .int 0, .ref e0a, .ref e0b, .ref e0c, .ref e0d])), (e1, .inr (0, [.int 0, .int 0, .ref e1a, .ref e1b, .ref e1c, .ref e1d])), (e2, .inr (0, [.int 0, .int 0, .ref e2a, .ref e2b, .ref e2c, .ref e2d])), (e3, .inr (0, [.int 0, .int 0, .ref e3a, .ref e3b, .ref e3c, .ref e3d])), (hm, .inr (12, [.ref m_manys, .ref m_reals, .ref m_factsOf, .ref m_possible, .int 0, .int 0, .ref m_tape, .int 0, .int 0, .int 0, .int 0, .int 0, .int 0, .int 0, .int 0, .ref m_ends, .ref m_letters, .ref m_actOf, .ref m_whom, .ref m_actMany, .ref m_tokens, .ref m_afters, .ref m_afterOf, .int 0, .ref m_pile, .ref m_caseMany, .ref m_happen, .ref m_hasIf, .ref m_becomes, .ref m_goneOf, .ref m_heard, .ref m_pairs, .ref m_heaps, .int 0, .int 0, .ref m_led, .ref m_newAt, .ref m_knowing, .ref m_firsts, .int 0, .ref m_secrets, .ref m_tried, .ref m_lanes, .ref m_lengths, .ref m_cells])), (m_caseMany, .inl (E.2.1 1, 4, .inl (fun _ => 0)))] 168 11526 := by
  refine ww_aload_n C dL_law_882 2 rfl rfl ?_
  refine ww_aload_n C dL_law_883 3 rfl rfl ?_
  refine ww_iload_n C dL_law_884 0 rfl rfl ?_
  refine ww_iconst (v := 1) C dL_law_885 rfl ?_
  refine ww_iadd (v := 1) C dL_law_886 (by decide) ?_
  refine ww_sld (v := a1) C hs (vin rfl) ea1 dL_law_887 ?_
  refine ww_ci (wr := [(hm, .inr (12, [.ref m_manys, .ref m_reals, .ref m_factsOf, .ref m_possible, .int 0, .int 0, .ref m_tape, .int 0, .int 0, .int 0, .int 0, .int 0, .int 0, .int 0, .int 0, .ref m_ends, .ref m_letters, .ref m_actOf, .ref m_whom, .ref m_actMany, .ref m_tokens, .ref m_afters, .ref m_afterOf, .int 0, .ref m_pile, .ref m_caseMany, .ref m_happen, .ref m_hasIf, .ref m_becomes, .ref m_goneOf, .ref m_heard, .ref m_pairs, .ref m_heaps, .int 0, .int 0, .ref m_led, .ref m_newAt, .ref m_knowing, .ref m_firsts, .int 0, .ref m_secrets, .ref m_tried, .ref m_lanes, .ref m_lengths, .ref m_cells])), (m_caseMany, .inl (E.2.1 1, 4, .inl (fun _ => 0)))]) (k' := 168) (n' := 11526) C (run_V (As := [.int a1]) (rest := []) C (x_lay X.2.1 E hx a1 qn qp qs qj ql qh qk qr qg qsh jt je ju ja fe e0 e1 e2 e3 e0a e0b e0c e0d e1a e1b e1c e1d e2a e2b e2c e2d e3a e3b e3c e3d k_fe_0 k_fe_1 k_fe_2 k_fe_3) mi_X11_lay wl_L_95 rfl 0 11 rfl rfl rfl rfl rfl dL_law_888) [0, 1, 2, 3, 4, 5, 6] [7, 8] rfl rfl rfl rfl (fun r u hw => ?_)
  obtain ⟨rfl, rfl⟩ := hw
  refine ww_eq (ws' := [(hm, .inr (12, [.ref m_manys, .ref m_reals, .ref m_factsOf, .ref m_possible, .int 0, .int 0, .ref m_tape, .int 0, .int 0, .int 0, .int 0, .int 0, .int 0, .int 0, .int 0, .ref m_ends, .ref m_letters, .ref m_actOf, .ref m_whom, .ref m_actMany, .ref m_tokens, .ref m_afters, .ref m_afterOf, .int 0, .ref m_pile, .ref m_caseMany, .ref m_happen, .ref m_hasIf, .ref m_becomes, .ref m_goneOf, .ref m_heard, .ref m_pairs, .ref m_heaps, .int 0, .int 0, .ref m_led, .ref m_newAt, .ref m_knowing, .ref m_firsts, .int 0, .ref m_secrets, .ref m_tried, .ref m_lanes, .ref m_lengths, .ref m_cells])), (m_caseMany, .inl (E.2.1 1, 4, .inl (fun _ => 0)))]) ?_ rfl rfl rfl
  refine ww_aload_n C dL_law_891 1 rfl rfl ?_
  refine ww_aload_n C dL_law_892 3 rfl rfl ?_
  refine ww_iload_n C dL_law_893 0 rfl rfl ?_
  refine ww_iconst (v := 1) C dL_law_894 rfl ?_
  refine ww_iadd (v := 1) C dL_law_895 (by decide) ?_
  refine ww_sld (v := a1) C hs (vin rfl) ea1 dL_law_896 ?_
  refine ww_ci (wr := []) (k' := 168) (n' := 11526) C (run_V (As := [.int a1]) (rest := [.int (-1)]) C (y_lay X.2.1 E hm a1 m_manys m_reals m_factsOf m_possible m_tape m_ends m_letters m_actOf m_whom m_actMany m_tokens m_afters m_afterOf m_pile m_caseMany m_happen m_hasIf m_becomes m_goneOf m_heard m_pairs m_heaps m_led m_newAt m_knowing m_firsts m_secrets m_tried m_lanes m_lengths m_cells) mi_X12_lay wl_L_98 rfl 0 12 rfl rfl rfl rfl rfl dL_law_897) [0, 1] [] rfl rfl rfl rfl (fun r u hw => ?_)
  obtain ⟨rfl, rfl⟩ := hw
  refine ww_eq (ws' := []) ?_ rfl rfl rfl
  refine ww_icmp_eq_t (tgt := 1452) C dL_law_900 (by decide) (rfl) ?_
  exact ww_sub [] rfl rfl kk
theorem dL_law_905 : decode cL_law 905 = .ok (.aload_n 1, 1) := by decide +kernel
theorem dL_law_906 : decode cL_law 906 = .ok (.invokevirtual 99, 3) := by decide +kernel
theorem wl_L_99 : Cond.methodLink RL 99 yX11_classes ∈ TB := tbm (tq4 (List.mem_of_getElem? (i := 109) (by decide +kernel))) (by decide +kernel)
theorem wc_X11_classes : Cond.code yX11_classes cX11_classes 1 (some .int) ∈ TB := tbm (tq4 (List.mem_of_getElem? (i := 112) (rfl))) (by decide +kernel)
theorem wi_X11_classes : Cond.instanceMethod yX11_classes ∈ TB := tbm (tq4 (List.mem_of_getElem? (i := 110) (by decide +kernel))) (by decide +kernel)
theorem ws_X11_classes : Cond.selects RX11 yX11_classes yX11_classes ∈ TB := tbm (tq4 (List.mem_of_getElem? (i := 111) (by decide +kernel))) (by decide +kernel)
theorem mi_X11_classes : MI yX11_classes cX11_classes 1 (some .int) 0 := ⟨wc_X11_classes, wn_X11, ⟨by decide +kernel, by decide +kernel, by decide +kernel⟩, wi_X11_classes, ws_X11_classes⟩
theorem dL_law_909 : decode cL_law 909 = .ok (.aload_n 2, 1) := by decide +kernel
theorem dL_law_910 : decode cL_law 910 = .ok (.invokevirtual 102, 3) := by decide +kernel
theorem wl_L_102 : Cond.methodLink RL 102 yX12_classes ∈ TB := tbm (tq6 (List.mem_of_getElem? (i := 205) (by decide +kernel))) (by decide +kernel)
theorem wc_X12_classes : Cond.code yX12_classes cX12_classes 3 (some .int) ∈ TB := tbm (tq6 (List.mem_of_getElem? (i := 208) (rfl))) (by decide +kernel)
theorem wi_X12_classes : Cond.instanceMethod yX12_classes ∈ TB := tbm (tq6 (List.mem_of_getElem? (i := 206) (by decide +kernel))) (by decide +kernel)
theorem ws_X12_classes : Cond.selects RX12 yX12_classes yX12_classes ∈ TB := tbm (tq6 (List.mem_of_getElem? (i := 207) (by decide +kernel))) (by decide +kernel)
theorem mi_X12_classes : MI yX12_classes cX12_classes 3 (some .int) 0 := ⟨wc_X12_classes, wn_X12, ⟨by decide +kernel, by decide +kernel, by decide +kernel⟩, wi_X12_classes, ws_X12_classes⟩
theorem dL_law_913 : decode cL_law 913 = .ok (.if_icmp .eq 539, 3) := by decide +kernel
set_option maxRecDepth 100000 in
set_option maxHeartbeats 4000000 in
theorem lawc_classes {X : XT} {E : EV} {xs : Nat → Int32} (bb : Nat) (hx : Nat) (hm : Nat) (qn : Nat) (qp : Nat) (qs : Nat) (qj : Nat) (ql : Nat) (qh : Nat) (qk : Nat) (qr : Nat) (qg : Nat) (qsh : Nat) (nf : Nat) (np : Nat) (ha : Nat) (hb : Nat) (hc : Nat) (m_manys : Nat) (m_reals : Nat) (m_factsOf : Nat) (m_possible : Nat) (m_tape : Nat) (m_ends : Nat) (m_letters : Nat) (m_actOf : Nat) (m_whom : Nat) (m_actMany : Nat) (m_tokens : Nat) (m_afters : Nat) (m_afterOf : Nat) (m_pile : Nat) (m_caseMany : Nat) (m_happen : Nat) (m_hasIf : Nat) (m_becomes : Nat) (m_goneOf : Nat) (m_heard : Nat) (m_pairs : Nat) (m_heaps : Nat) (m_led : Nat) (m_newAt : Nat) (m_knowing : Nat) (m_firsts : Nat) (m_secrets : Nat) (m_tried : Nat) (m_lanes : Nat) (m_lengths : Nat) (m_cells : Nat) (C : CX X room_1 cL_law 4 RL ret E) (hs : SX X bb 6 xs)  (a0 : Int32) (a1 : Int32) (a2 : Int32) (a3 : Int32) (a4 : Int32) (a5 : Int32) (ea0 : xs 0 = a0) (ea1 : xs 1 = a1) (ea2 : xs 2 = a2) (ea3 : xs 3 = a3) (ea4 : xs 4 = a4) (ea5 : xs 5 = a5) (kk : WW X 4 E 1452 [(3, .int 0), (2, .ref hm), (1, .ref hx), (0, .ref bb)] [] [] 168 11526) : WW X 4 E 905 [(3, .int 0), (2, .ref hm), (1, .ref hx), (0, .ref bb)] [] [(hx, .inr (11, [.ref qn, .ref qp, .int 0, .int 0, .ref qs, .ref qj, .ref ql, .ref qh, .ref qk, .int 0, .ref qr, .ref qg, .int 0, .int 0, .ref qsh])), (qn, .inr (4, [.int 0, .int 0, .ref nf, .ref np])), (nf, .inl (E.2.1 1, 24, .inl (fun _ => 0))), (np, .inl (E.2.1 1, 96, .inl (fun _ => 0))), (qh, .inr (1, [.null, .null, .int 0, .ref ha, .ref hb, .ref hc])), (hm, .inr (12, [.ref m_manys, .ref m_reals, .ref m_factsOf, .ref m_possible, .int 0, .int 0, .ref m_tape, .int 0, .int 0, .int 0, .int 0, .int 0, .int 0, .int 0, .int 0, .ref m_ends, .ref m_letters, .ref m_actOf, .ref m_whom, .ref m_actMany, .ref m_tokens, .ref m_afters, .ref m_afterOf, .int 0, .ref m_pile, .ref m_caseMany, .ref m_happen, .ref m_hasIf, .ref m_becomes, .ref m_goneOf, .ref m_heard, .ref m_pairs, .ref m_heaps, .int 0, .int 0, .ref m_led, .ref m_newAt, .ref m_knowing, .ref m_firsts, .int 0, .ref m_secrets, .ref m_tried, .ref m_lanes, .ref m_lengths, .ref m_cells])), (m_manys, .inl (E.2.1 1, 18, .inl (fun _ => 0)))] 168 11526 := by
  refine ww_aload_n C dL_law_905 2 rfl rfl ?_
  refine ww_ci (wr := [(hm, .inr (12, [.ref m_manys, .ref m_reals, .ref m_factsOf, .ref m_possible, .int 0, .int 0, .ref m_tape, .int 0, .int 0, .int 0, .int 0, .int 0, .int 0, .int 0, .int 0, .ref m_ends, .ref m_letters, .ref m_actOf, .ref m_whom, .ref m_actMany, .ref m_tokens, .ref m_afters, .ref m_afterOf, .int 0, .ref m_pile, .ref m_caseMany, .ref m_happen, .ref m_hasIf, .ref m_becomes, .ref m_goneOf, .ref m_heard, .ref m_pairs, .ref m_heaps, .int 0, .int 0, .ref m_led, .ref m_newAt, .ref m_knowing, .ref m_firsts, .int 0, .ref m_secrets, .ref m_tried, .ref m_lanes, .ref m_lengths, .ref m_cells])), (m_manys, .inl (E.2.1 1, 18, .inl (fun _ => 0)))]) (k' := 168) (n' := 11526) C (run_V (As := []) (rest := []) C (x_classes X.2.1 E hx qn qp qs qj ql qh qk qr qg qsh nf np ha hb hc) mi_X11_classes wl_L_99 rfl 0 11 rfl rfl rfl rfl rfl dL_law_906) [0, 1, 2, 3, 4] [5, 6] rfl rfl rfl rfl (fun r u hw => ?_)
  obtain ⟨rfl, rfl⟩ := hw
  refine ww_eq (ws' := [(hm, .inr (12, [.ref m_manys, .ref m_reals, .ref m_factsOf, .ref m_possible, .int 0, .int 0, .ref m_tape, .int 0, .int 0, .int 0, .int 0, .int 0, .int 0, .int 0, .int 0, .ref m_ends, .ref m_letters, .ref m_actOf, .ref m_whom, .ref m_actMany, .ref m_tokens, .ref m_afters, .ref m_afterOf, .int 0, .ref m_pile, .ref m_caseMany, .ref m_happen, .ref m_hasIf, .ref m_becomes, .ref m_goneOf, .ref m_heard, .ref m_pairs, .ref m_heaps, .int 0, .int 0, .ref m_led, .ref m_newAt, .ref m_knowing, .ref m_firsts, .int 0, .ref m_secrets, .ref m_tried, .ref m_lanes, .ref m_lengths, .ref m_cells])), (m_manys, .inl (E.2.1 1, 18, .inl (fun _ => 0)))]) ?_ rfl rfl rfl
  refine ww_aload_n C dL_law_909 1 rfl rfl ?_
  refine ww_ci (wr := []) (k' := 168) (n' := 11526) C (run_V (As := []) (rest := [.int 0]) C (y_classes X.2.1 E hm m_manys m_reals m_factsOf m_possible m_tape m_ends m_letters m_actOf m_whom m_actMany m_tokens m_afters m_afterOf m_pile m_caseMany m_happen m_hasIf m_becomes m_goneOf m_heard m_pairs m_heaps m_led m_newAt m_knowing m_firsts m_secrets m_tried m_lanes m_lengths m_cells) mi_X12_classes wl_L_102 rfl 0 12 rfl rfl rfl rfl rfl dL_law_910) [0, 1] [] rfl rfl rfl rfl (fun r u hw => ?_)
  obtain ⟨rfl, rfl⟩ := hw
  refine ww_eq (ws' := []) ?_ rfl rfl rfl
  refine ww_icmp_eq_t (tgt := 1452) C dL_law_913 (by decide) (rfl) ?_
  exact ww_sub [] rfl rfl kk
theorem dL_law_918 : decode cL_law 918 = .ok (.aload_n 1, 1) := by decide +kernel
theorem dL_law_919 : decode cL_law 919 = .ok (.aload_n 0, 1) := by decide +kernel
theorem dL_law_920 : decode cL_law 920 = .ok (.iload_n 3, 1) := by decide +kernel
theorem dL_law_921 : decode cL_law 921 = .ok (.iconst 1, 1) := by decide +kernel
theorem dL_law_922 : decode cL_law 922 = .ok (.iadd, 1) := by decide +kernel
theorem dL_law_923 : decode cL_law 923 = .ok (.iaload, 1) := by decide +kernel
theorem dL_law_924 : decode cL_law 924 = .ok (.invokevirtual 103, 3) := by decide +kernel
theorem wl_L_103 : Cond.methodLink RL 103 yX11_classOf ∈ TB := tbm (tq4 (List.mem_of_getElem? (i := 147) (by decide +kernel))) (by decide +kernel)
theorem wc_X11_classOf : Cond.code yX11_classOf cX11_classOf 2 (some .int) ∈ TB := tbm (tq4 (List.mem_of_getElem? (i := 150) (rfl))) (by decide +kernel)
theorem wi_X11_classOf : Cond.instanceMethod yX11_classOf ∈ TB := tbm (tq4 (List.mem_of_getElem? (i := 148) (by decide +kernel))) (by decide +kernel)
theorem ws_X11_classOf : Cond.selects RX11 yX11_classOf yX11_classOf ∈ TB := tbm (tq4 (List.mem_of_getElem? (i := 149) (by decide +kernel))) (by decide +kernel)
theorem mi_X11_classOf : MI yX11_classOf cX11_classOf 2 (some .int) 1 := ⟨wc_X11_classOf, wn_X11, ⟨by decide +kernel, by decide +kernel, by decide +kernel⟩, wi_X11_classOf, ws_X11_classOf⟩
theorem dL_law_927 : decode cL_law 927 = .ok (.aload_n 2, 1) := by decide +kernel
theorem dL_law_928 : decode cL_law 928 = .ok (.aload_n 0, 1) := by decide +kernel
theorem dL_law_929 : decode cL_law 929 = .ok (.iload_n 3, 1) := by decide +kernel
theorem dL_law_930 : decode cL_law 930 = .ok (.iconst 1, 1) := by decide +kernel
theorem dL_law_931 : decode cL_law 931 = .ok (.iadd, 1) := by decide +kernel
theorem dL_law_932 : decode cL_law 932 = .ok (.iaload, 1) := by decide +kernel
theorem dL_law_933 : decode cL_law 933 = .ok (.invokevirtual 106, 3) := by decide +kernel
theorem wl_L_106 : Cond.methodLink RL 106 yX12_classOf ∈ TB := tbm (tq6 (List.mem_of_getElem? (i := 229) (by decide +kernel))) (by decide +kernel)
theorem wc_X12_classOf : Cond.code yX12_classOf cX12_classOf 2 (some .int) ∈ TB := tbm (tq6 (List.mem_of_getElem? (i := 232) (rfl))) (by decide +kernel)
theorem wi_X12_classOf : Cond.instanceMethod yX12_classOf ∈ TB := tbm (tq6 (List.mem_of_getElem? (i := 230) (by decide +kernel))) (by decide +kernel)
theorem ws_X12_classOf : Cond.selects RX12 yX12_classOf yX12_classOf ∈ TB := tbm (tq6 (List.mem_of_getElem? (i := 231) (by decide +kernel))) (by decide +kernel)
theorem mi_X12_classOf : MI yX12_classOf cX12_classOf 2 (some .int) 1 := ⟨wc_X12_classOf, wn_X12, ⟨by decide +kernel, by decide +kernel, by decide +kernel⟩, wi_X12_classOf, ws_X12_classOf⟩
theorem dL_law_936 : decode cL_law 936 = .ok (.if_icmp .eq 516, 3) := by decide +kernel
set_option maxRecDepth 100000 in
set_option maxHeartbeats 4000000 in
theorem lawc_classOf {X : XT} {E : EV} {xs : Nat → Int32} (bb : Nat) (hx : Nat) (hm : Nat) (qn : Nat) (qp : Nat) (qs : Nat) (qj : Nat) (ql : Nat) (qh : Nat) (qk : Nat) (qr : Nat) (qg : Nat) (qsh : Nat) (nf : Nat) (np : Nat) (m_manys : Nat) (m_reals : Nat) (m_factsOf : Nat) (m_possible : Nat) (m_tape : Nat) (m_ends : Nat) (m_letters : Nat) (m_actOf : Nat) (m_whom : Nat) (m_actMany : Nat) (m_tokens : Nat) (m_afters : Nat) (m_afterOf : Nat) (m_pile : Nat) (m_caseMany : Nat) (m_happen : Nat) (m_hasIf : Nat) (m_becomes : Nat) (m_goneOf : Nat) (m_heard : Nat) (m_pairs : Nat) (m_heaps : Nat) (m_led : Nat) (m_newAt : Nat) (m_knowing : Nat) (m_firsts : Nat) (m_secrets : Nat) (m_tried : Nat) (m_lanes : Nat) (m_lengths : Nat) (m_cells : Nat) (C : CX X room_1 cL_law 4 RL ret E) (hs : SX X bb 6 xs)  (a0 : Int32) (a1 : Int32) (a2 : Int32) (a3 : Int32) (a4 : Int32) (a5 : Int32) (ea0 : xs 0 = a0) (ea1 : xs 1 = a1) (ea2 : xs 2 = a2) (ea3 : xs 3 = a3) (ea4 : xs 4 = a4) (ea5 : xs 5 = a5) (kk : WW X 4 E 1452 [(3, .int 0), (2, .ref hm), (1, .ref hx), (0, .ref bb)] [] [] 168 11526) : WW X 4 E 918 [(3, .int 0), (2, .ref hm), (1, .ref hx), (0, .ref bb)] [] [(hx, .inr (11, [.ref qn, .ref qp, .int 0, .int 0, .ref qs, .ref qj, .ref ql, .ref qh, .ref qk, .int 0, .ref qr, .ref qg, .int 0, .int 0, .ref qsh])), (qn, .inr (4, [.int 0, .int 0, .ref nf, .ref np])), (nf, .inl (E.2.1 1, 24, .inl (fun _ => 0))), (np, .inl (E.2.1 1, 96, .inl (fun _ => 0))), (hm, .inr (12, [.ref m_manys, .ref m_reals, .ref m_factsOf, .ref m_possible, .int 0, .int 0, .ref m_tape, .int 0, .int 0, .int 0, .int 0, .int 0, .int 0, .int 0, .int 0, .ref m_ends, .ref m_letters, .ref m_actOf, .ref m_whom, .ref m_actMany, .ref m_tokens, .ref m_afters, .ref m_afterOf, .int 0, .ref m_pile, .ref m_caseMany, .ref m_happen, .ref m_hasIf, .ref m_becomes, .ref m_goneOf, .ref m_heard, .ref m_pairs, .ref m_heaps, .int 0, .int 0, .ref m_led, .ref m_newAt, .ref m_knowing, .ref m_firsts, .int 0, .ref m_secrets, .ref m_tried, .ref m_lanes, .ref m_lengths, .ref m_cells])), (m_manys, .inl (E.2.1 1, 18, .inl (fun _ => 0)))] 168 11526 := by
  refine ww_aload_n C dL_law_918 2 rfl rfl ?_
  refine ww_aload_n C dL_law_919 3 rfl rfl ?_
  refine ww_iload_n C dL_law_920 0 rfl rfl ?_
  refine ww_iconst (v := 1) C dL_law_921 rfl ?_
  refine ww_iadd (v := 1) C dL_law_922 (by decide) ?_
  refine ww_sld (v := a1) C hs (vin rfl) ea1 dL_law_923 ?_
  refine ww_ci (wr := [(hm, .inr (12, [.ref m_manys, .ref m_reals, .ref m_factsOf, .ref m_possible, .int 0, .int 0, .ref m_tape, .int 0, .int 0, .int 0, .int 0, .int 0, .int 0, .int 0, .int 0, .ref m_ends, .ref m_letters, .ref m_actOf, .ref m_whom, .ref m_actMany, .ref m_tokens, .ref m_afters, .ref m_afterOf, .int 0, .ref m_pile, .ref m_caseMany, .ref m_happen, .ref m_hasIf, .ref m_becomes, .ref m_goneOf, .ref m_heard, .ref m_pairs, .ref m_heaps, .int 0, .int 0, .ref m_led, .ref m_newAt, .ref m_knowing, .ref m_firsts, .int 0, .ref m_secrets, .ref m_tried, .ref m_lanes, .ref m_lengths, .ref m_cells])), (m_manys, .inl (E.2.1 1, 18, .inl (fun _ => 0)))]) (k' := 168) (n' := 11526) C (run_V (As := [.int a1]) (rest := []) C (x_classOf X.2.1 E hx a1 qn qp qs qj ql qh qk qr qg qsh nf np) mi_X11_classOf wl_L_103 rfl 0 11 rfl rfl rfl rfl rfl dL_law_924) [0, 1, 2, 3] [4, 5] rfl rfl rfl rfl (fun r u hw => ?_)
  obtain ⟨rfl, rfl⟩ := hw
  refine ww_eq (ws' := [(hm, .inr (12, [.ref m_manys, .ref m_reals, .ref m_factsOf, .ref m_possible, .int 0, .int 0, .ref m_tape, .int 0, .int 0, .int 0, .int 0, .int 0, .int 0, .int 0, .int 0, .ref m_ends, .ref m_letters, .ref m_actOf, .ref m_whom, .ref m_actMany, .ref m_tokens, .ref m_afters, .ref m_afterOf, .int 0, .ref m_pile, .ref m_caseMany, .ref m_happen, .ref m_hasIf, .ref m_becomes, .ref m_goneOf, .ref m_heard, .ref m_pairs, .ref m_heaps, .int 0, .int 0, .ref m_led, .ref m_newAt, .ref m_knowing, .ref m_firsts, .int 0, .ref m_secrets, .ref m_tried, .ref m_lanes, .ref m_lengths, .ref m_cells])), (m_manys, .inl (E.2.1 1, 18, .inl (fun _ => 0)))]) ?_ rfl rfl rfl
  refine ww_aload_n C dL_law_927 1 rfl rfl ?_
  refine ww_aload_n C dL_law_928 3 rfl rfl ?_
  refine ww_iload_n C dL_law_929 0 rfl rfl ?_
  refine ww_iconst (v := 1) C dL_law_930 rfl ?_
  refine ww_iadd (v := 1) C dL_law_931 (by decide) ?_
  refine ww_sld (v := a1) C hs (vin rfl) ea1 dL_law_932 ?_
  refine ww_ci (wr := []) (k' := 168) (n' := 11526) C (run_V (As := [.int a1]) (rest := [.int (-1)]) C (y_classOf X.2.1 E hm a1 m_manys m_reals m_factsOf m_possible m_tape m_ends m_letters m_actOf m_whom m_actMany m_tokens m_afters m_afterOf m_pile m_caseMany m_happen m_hasIf m_becomes m_goneOf m_heard m_pairs m_heaps m_led m_newAt m_knowing m_firsts m_secrets m_tried m_lanes m_lengths m_cells) mi_X12_classOf wl_L_106 rfl 0 12 rfl rfl rfl rfl rfl dL_law_933) [0, 1] [] rfl rfl rfl rfl (fun r u hw => ?_)
  obtain ⟨rfl, rfl⟩ := hw
  refine ww_eq (ws' := []) ?_ rfl rfl rfl
  refine ww_icmp_eq_t (tgt := 1452) C dL_law_936 (by decide) (rfl) ?_
  exact ww_sub [] rfl rfl kk
theorem dL_law_941 : decode cL_law 941 = .ok (.aload_n 1, 1) := by decide +kernel
theorem dL_law_942 : decode cL_law 942 = .ok (.aload_n 0, 1) := by decide +kernel
theorem dL_law_943 : decode cL_law 943 = .ok (.iload_n 3, 1) := by decide +kernel
theorem dL_law_944 : decode cL_law 944 = .ok (.iconst 1, 1) := by decide +kernel
theorem dL_law_945 : decode cL_law 945 = .ok (.iadd, 1) := by decide +kernel
theorem dL_law_946 : decode cL_law 946 = .ok (.iaload, 1) := by decide +kernel
theorem dL_law_947 : decode cL_law 947 = .ok (.aload_n 0, 1) := by decide +kernel
theorem dL_law_948 : decode cL_law 948 = .ok (.iload_n 3, 1) := by decide +kernel
theorem dL_law_949 : decode cL_law 949 = .ok (.iconst 2, 1) := by decide +kernel
theorem dL_law_950 : decode cL_law 950 = .ok (.iadd, 1) := by decide +kernel
theorem dL_law_951 : decode cL_law 951 = .ok (.iaload, 1) := by decide +kernel
theorem dL_law_952 : decode cL_law 952 = .ok (.invokevirtual 107, 3) := by decide +kernel
theorem wl_L_107 : Cond.methodLink RL 107 yX11_depth ∈ TB := tbm (tq4 (List.mem_of_getElem? (i := 151) (by decide +kernel))) (by decide +kernel)
theorem wc_X11_depth : Cond.code yX11_depth cX11_depth 3 (some .int) ∈ TB := tbm (tq4 (List.mem_of_getElem? (i := 154) (rfl))) (by decide +kernel)
theorem wi_X11_depth : Cond.instanceMethod yX11_depth ∈ TB := tbm (tq4 (List.mem_of_getElem? (i := 152) (by decide +kernel))) (by decide +kernel)
theorem ws_X11_depth : Cond.selects RX11 yX11_depth yX11_depth ∈ TB := tbm (tq4 (List.mem_of_getElem? (i := 153) (by decide +kernel))) (by decide +kernel)
theorem mi_X11_depth : MI yX11_depth cX11_depth 3 (some .int) 2 := ⟨wc_X11_depth, wn_X11, ⟨by decide +kernel, by decide +kernel, by decide +kernel⟩, wi_X11_depth, ws_X11_depth⟩
theorem dL_law_955 : decode cL_law 955 = .ok (.aload_n 2, 1) := by decide +kernel
theorem dL_law_956 : decode cL_law 956 = .ok (.aload_n 0, 1) := by decide +kernel
theorem dL_law_957 : decode cL_law 957 = .ok (.iload_n 3, 1) := by decide +kernel
theorem dL_law_958 : decode cL_law 958 = .ok (.iconst 1, 1) := by decide +kernel
theorem dL_law_959 : decode cL_law 959 = .ok (.iadd, 1) := by decide +kernel
theorem dL_law_960 : decode cL_law 960 = .ok (.iaload, 1) := by decide +kernel
theorem dL_law_961 : decode cL_law 961 = .ok (.aload_n 0, 1) := by decide +kernel
theorem dL_law_962 : decode cL_law 962 = .ok (.iload_n 3, 1) := by decide +kernel
theorem dL_law_963 : decode cL_law 963 = .ok (.iconst 2, 1) := by decide +kernel
theorem dL_law_964 : decode cL_law 964 = .ok (.iadd, 1) := by decide +kernel
theorem dL_law_965 : decode cL_law 965 = .ok (.iaload, 1) := by decide +kernel
theorem dL_law_966 : decode cL_law 966 = .ok (.invokevirtual 110, 3) := by decide +kernel
theorem wl_L_110 : Cond.methodLink RL 110 yX12_depth ∈ TB := tbm (tq6 (List.mem_of_getElem? (i := 233) (by decide +kernel))) (by decide +kernel)
theorem wc_X12_depth : Cond.code yX12_depth cX12_depth 4 (some .int) ∈ TB := tbm (tq6 (List.mem_of_getElem? (i := 236) (rfl))) (by decide +kernel)
theorem wi_X12_depth : Cond.instanceMethod yX12_depth ∈ TB := tbm (tq6 (List.mem_of_getElem? (i := 234) (by decide +kernel))) (by decide +kernel)
theorem ws_X12_depth : Cond.selects RX12 yX12_depth yX12_depth ∈ TB := tbm (tq6 (List.mem_of_getElem? (i := 235) (by decide +kernel))) (by decide +kernel)
theorem mi_X12_depth : MI yX12_depth cX12_depth 4 (some .int) 2 := ⟨wc_X12_depth, wn_X12, ⟨by decide +kernel, by decide +kernel, by decide +kernel⟩, wi_X12_depth, ws_X12_depth⟩
theorem dL_law_969 : decode cL_law 969 = .ok (.if_icmp .eq 483, 3) := by decide +kernel
set_option maxRecDepth 100000 in
set_option maxHeartbeats 4000000 in
theorem lawc_depth {X : XT} {E : EV} {xs : Nat → Int32} (bb : Nat) (hx : Nat) (hm : Nat) (qn : Nat) (qp : Nat) (qs : Nat) (qj : Nat) (ql : Nat) (qh : Nat) (qk : Nat) (qr : Nat) (qg : Nat) (qsh : Nat) (nf : Nat) (np : Nat) (m_manys : Nat) (m_reals : Nat) (m_factsOf : Nat) (m_possible : Nat) (m_tape : Nat) (m_ends : Nat) (m_letters : Nat) (m_actOf : Nat) (m_whom : Nat) (m_actMany : Nat) (m_tokens : Nat) (m_afters : Nat) (m_afterOf : Nat) (m_pile : Nat) (m_caseMany : Nat) (m_happen : Nat) (m_hasIf : Nat) (m_becomes : Nat) (m_goneOf : Nat) (m_heard : Nat) (m_pairs : Nat) (m_heaps : Nat) (m_led : Nat) (m_newAt : Nat) (m_knowing : Nat) (m_firsts : Nat) (m_secrets : Nat) (m_tried : Nat) (m_lanes : Nat) (m_lengths : Nat) (m_cells : Nat) (C : CX X room_1 cL_law 4 RL ret E) (hs : SX X bb 6 xs)  (a0 : Int32) (a1 : Int32) (a2 : Int32) (a3 : Int32) (a4 : Int32) (a5 : Int32) (ea0 : xs 0 = a0) (ea1 : xs 1 = a1) (ea2 : xs 2 = a2) (ea3 : xs 3 = a3) (ea4 : xs 4 = a4) (ea5 : xs 5 = a5) (kk : WW X 4 E 1452 [(3, .int 0), (2, .ref hm), (1, .ref hx), (0, .ref bb)] [] [] 168 11526) : WW X 4 E 941 [(3, .int 0), (2, .ref hm), (1, .ref hx), (0, .ref bb)] [] [(hx, .inr (11, [.ref qn, .ref qp, .int 0, .int 0, .ref qs, .ref qj, .ref ql, .ref qh, .ref qk, .int 0, .ref qr, .ref qg, .int 0, .int 0, .ref qsh])), (qn, .inr (4, [.int 0, .int 0, .ref nf, .ref np])), (nf, .inl (E.2.1 1, 24, .inl (fun _ => 0))), (np, .inl (E.2.1 1, 96, .inl (fun _ => 0))), (hm, .inr (12, [.ref m_manys, .ref m_reals, .ref m_factsOf, .ref m_possible, .int 0, .int 0, .ref m_tape, .int 0, .int 0, .int 0, .int 0, .int 0, .int 0, .int 0, .int 0, .ref m_ends, .ref m_letters, .ref m_actOf, .ref m_whom, .ref m_actMany, .ref m_tokens, .ref m_afters, .ref m_afterOf, .int 0, .ref m_pile, .ref m_caseMany, .ref m_happen, .ref m_hasIf, .ref m_becomes, .ref m_goneOf, .ref m_heard, .ref m_pairs, .ref m_heaps, .int 0, .int 0, .ref m_led, .ref m_newAt, .ref m_knowing, .ref m_firsts, .int 0, .ref m_secrets, .ref m_tried, .ref m_lanes, .ref m_lengths, .ref m_cells])), (m_manys, .inl (E.2.1 1, 18, .inl (fun _ => 0)))] 168 11526 := by
  refine ww_aload_n C dL_law_941 2 rfl rfl ?_
  refine ww_aload_n C dL_law_942 3 rfl rfl ?_
  refine ww_iload_n C dL_law_943 0 rfl rfl ?_
  refine ww_iconst (v := 1) C dL_law_944 rfl ?_
  refine ww_iadd (v := 1) C dL_law_945 (by decide) ?_
  refine ww_sld (v := a1) C hs (vin rfl) ea1 dL_law_946 ?_
  refine ww_aload_n C dL_law_947 3 rfl rfl ?_
  refine ww_iload_n C dL_law_948 0 rfl rfl ?_
  refine ww_iconst (v := 2) C dL_law_949 rfl ?_
  refine ww_iadd (v := 2) C dL_law_950 (by decide) ?_
  refine ww_sld (v := a2) C hs (vin rfl) ea2 dL_law_951 ?_
  refine ww_ci (wr := [(hm, .inr (12, [.ref m_manys, .ref m_reals, .ref m_factsOf, .ref m_possible, .int 0, .int 0, .ref m_tape, .int 0, .int 0, .int 0, .int 0, .int 0, .int 0, .int 0, .int 0, .ref m_ends, .ref m_letters, .ref m_actOf, .ref m_whom, .ref m_actMany, .ref m_tokens, .ref m_afters, .ref m_afterOf, .int 0, .ref m_pile, .ref m_caseMany, .ref m_happen, .ref m_hasIf, .ref m_becomes, .ref m_goneOf, .ref m_heard, .ref m_pairs, .ref m_heaps, .int 0, .int 0, .ref m_led, .ref m_newAt, .ref m_knowing, .ref m_firsts, .int 0, .ref m_secrets, .ref m_tried, .ref m_lanes, .ref m_lengths, .ref m_cells])), (m_manys, .inl (E.2.1 1, 18, .inl (fun _ => 0)))]) (k' := 168) (n' := 11526) C (run_V (As := [.int a1, .int a2]) (rest := []) C (x_depth X.2.1 E hx a1 a2 qn qp qs qj ql qh qk qr qg qsh nf np) mi_X11_depth wl_L_107 rfl 0 11 rfl rfl rfl rfl rfl dL_law_952) [0, 1, 2, 3] [4, 5] rfl rfl rfl rfl (fun r u hw => ?_)
  obtain ⟨rfl, rfl⟩ := hw
  refine ww_eq (ws' := [(hm, .inr (12, [.ref m_manys, .ref m_reals, .ref m_factsOf, .ref m_possible, .int 0, .int 0, .ref m_tape, .int 0, .int 0, .int 0, .int 0, .int 0, .int 0, .int 0, .int 0, .ref m_ends, .ref m_letters, .ref m_actOf, .ref m_whom, .ref m_actMany, .ref m_tokens, .ref m_afters, .ref m_afterOf, .int 0, .ref m_pile, .ref m_caseMany, .ref m_happen, .ref m_hasIf, .ref m_becomes, .ref m_goneOf, .ref m_heard, .ref m_pairs, .ref m_heaps, .int 0, .int 0, .ref m_led, .ref m_newAt, .ref m_knowing, .ref m_firsts, .int 0, .ref m_secrets, .ref m_tried, .ref m_lanes, .ref m_lengths, .ref m_cells])), (m_manys, .inl (E.2.1 1, 18, .inl (fun _ => 0)))]) ?_ rfl rfl rfl
  refine ww_aload_n C dL_law_955 1 rfl rfl ?_
  refine ww_aload_n C dL_law_956 3 rfl rfl ?_
  refine ww_iload_n C dL_law_957 0 rfl rfl ?_
  refine ww_iconst (v := 1) C dL_law_958 rfl ?_
  refine ww_iadd (v := 1) C dL_law_959 (by decide) ?_
  refine ww_sld (v := a1) C hs (vin rfl) ea1 dL_law_960 ?_
  refine ww_aload_n C dL_law_961 3 rfl rfl ?_
  refine ww_iload_n C dL_law_962 0 rfl rfl ?_
  refine ww_iconst (v := 2) C dL_law_963 rfl ?_
  refine ww_iadd (v := 2) C dL_law_964 (by decide) ?_
  refine ww_sld (v := a2) C hs (vin rfl) ea2 dL_law_965 ?_
  refine ww_ci (wr := []) (k' := 168) (n' := 11526) C (run_V (As := [.int a1, .int a2]) (rest := [.int (-1)]) C (y_depth X.2.1 E hm a1 a2 m_manys m_reals m_factsOf m_possible m_tape m_ends m_letters m_actOf m_whom m_actMany m_tokens m_afters m_afterOf m_pile m_caseMany m_happen m_hasIf m_becomes m_goneOf m_heard m_pairs m_heaps m_led m_newAt m_knowing m_firsts m_secrets m_tried m_lanes m_lengths m_cells) mi_X12_depth wl_L_110 rfl 0 12 rfl rfl rfl rfl rfl dL_law_966) [0, 1] [] rfl rfl rfl rfl (fun r u hw => ?_)
  obtain ⟨rfl, rfl⟩ := hw
  refine ww_eq (ws' := []) ?_ rfl rfl rfl
  refine ww_icmp_eq_t (tgt := 1452) C dL_law_969 (by decide) (rfl) ?_
  exact ww_sub [] rfl rfl kk
theorem dL_law_974 : decode cL_law 974 = .ok (.aload_n 1, 1) := by decide +kernel
theorem dL_law_975 : decode cL_law 975 = .ok (.invokevirtual 111, 3) := by decide +kernel
theorem wl_L_111 : Cond.methodLink RL 111 yX11_melt ∈ TB := tbm (tq4 (List.mem_of_getElem? (i := 159) (by decide +kernel))) (by decide +kernel)
theorem wc_X11_melt : Cond.code yX11_melt cX11_melt 1 (some .int) ∈ TB := tbm (tq4 (List.mem_of_getElem? (i := 162) (rfl))) (by decide +kernel)
theorem wi_X11_melt : Cond.instanceMethod yX11_melt ∈ TB := tbm (tq4 (List.mem_of_getElem? (i := 160) (by decide +kernel))) (by decide +kernel)
theorem ws_X11_melt : Cond.selects RX11 yX11_melt yX11_melt ∈ TB := tbm (tq4 (List.mem_of_getElem? (i := 161) (by decide +kernel))) (by decide +kernel)
theorem mi_X11_melt : MI yX11_melt cX11_melt 1 (some .int) 0 := ⟨wc_X11_melt, wn_X11, ⟨by decide +kernel, by decide +kernel, by decide +kernel⟩, wi_X11_melt, ws_X11_melt⟩
theorem dL_law_978 : decode cL_law 978 = .ok (.aload_n 2, 1) := by decide +kernel
theorem dL_law_979 : decode cL_law 979 = .ok (.invokevirtual 114, 3) := by decide +kernel
theorem wl_L_114 : Cond.methodLink RL 114 yX12_melt ∈ TB := tbm (tq6 (List.mem_of_getElem? (i := 237) (by decide +kernel))) (by decide +kernel)
theorem wc_X12_melt : Cond.code yX12_melt cX12_melt 6 (some .int) ∈ TB := tbm (tq7 (List.mem_of_getElem? (i := 0) (rfl))) (by decide +kernel)
theorem wi_X12_melt : Cond.instanceMethod yX12_melt ∈ TB := tbm (tq6 (List.mem_of_getElem? (i := 238) (by decide +kernel))) (by decide +kernel)
theorem ws_X12_melt : Cond.selects RX12 yX12_melt yX12_melt ∈ TB := tbm (tq6 (List.mem_of_getElem? (i := 239) (by decide +kernel))) (by decide +kernel)
theorem mi_X12_melt : MI yX12_melt cX12_melt 6 (some .int) 0 := ⟨wc_X12_melt, wn_X12, ⟨by decide +kernel, by decide +kernel, by decide +kernel⟩, wi_X12_melt, ws_X12_melt⟩
theorem dL_law_982 : decode cL_law 982 = .ok (.if_icmp .eq 470, 3) := by decide +kernel
set_option maxRecDepth 100000 in
set_option maxHeartbeats 4000000 in
theorem lawc_melt {X : XT} {E : EV} {xs : Nat → Int32} (bb : Nat) (hx : Nat) (hm : Nat) (qn : Nat) (qp : Nat) (qs : Nat) (qj : Nat) (ql : Nat) (qh : Nat) (qk : Nat) (qr : Nat) (qg : Nat) (qsh : Nat) (nf : Nat) (np : Nat) (m_manys : Nat) (m_reals : Nat) (m_factsOf : Nat) (m_possible : Nat) (m_tape : Nat) (m_ends : Nat) (m_letters : Nat) (m_actOf : Nat) (m_whom : Nat) (m_actMany : Nat) (m_tokens : Nat) (m_afters : Nat) (m_afterOf : Nat) (m_pile : Nat) (m_caseMany : Nat) (m_happen : Nat) (m_hasIf : Nat) (m_becomes : Nat) (m_goneOf : Nat) (m_heard : Nat) (m_pairs : Nat) (m_heaps : Nat) (m_led : Nat) (m_newAt : Nat) (m_knowing : Nat) (m_firsts : Nat) (m_secrets : Nat) (m_tried : Nat) (m_lanes : Nat) (m_lengths : Nat) (m_cells : Nat) (C : CX X room_1 cL_law 4 RL ret E) (hs : SX X bb 6 xs)  (a0 : Int32) (a1 : Int32) (a2 : Int32) (a3 : Int32) (a4 : Int32) (a5 : Int32) (ea0 : xs 0 = a0) (ea1 : xs 1 = a1) (ea2 : xs 2 = a2) (ea3 : xs 3 = a3) (ea4 : xs 4 = a4) (ea5 : xs 5 = a5) (kk : WW X 4 E 1452 [(3, .int 0), (2, .ref hm), (1, .ref hx), (0, .ref bb)] [] [] 168 11526) : WW X 4 E 974 [(3, .int 0), (2, .ref hm), (1, .ref hx), (0, .ref bb)] [] [(hx, .inr (11, [.ref qn, .ref qp, .int 0, .int 0, .ref qs, .ref qj, .ref ql, .ref qh, .ref qk, .int 0, .ref qr, .ref qg, .int 0, .int 0, .ref qsh])), (qn, .inr (4, [.int 0, .int 0, .ref nf, .ref np])), (nf, .inl (E.2.1 1, 24, .inl (fun _ => 0))), (np, .inl (E.2.1 1, 96, .inl (fun _ => 0))), (hm, .inr (12, [.ref m_manys, .ref m_reals, .ref m_factsOf, .ref m_possible, .int 0, .int 0, .ref m_tape, .int 0, .int 0, .int 0, .int 0, .int 0, .int 0, .int 0, .int 0, .ref m_ends, .ref m_letters, .ref m_actOf, .ref m_whom, .ref m_actMany, .ref m_tokens, .ref m_afters, .ref m_afterOf, .int 0, .ref m_pile, .ref m_caseMany, .ref m_happen, .ref m_hasIf, .ref m_becomes, .ref m_goneOf, .ref m_heard, .ref m_pairs, .ref m_heaps, .int 0, .int 0, .ref m_led, .ref m_newAt, .ref m_knowing, .ref m_firsts, .int 0, .ref m_secrets, .ref m_tried, .ref m_lanes, .ref m_lengths, .ref m_cells])), (m_manys, .inl (E.2.1 1, 18, .inl (fun _ => 0)))] 168 11526 := by
  refine ww_aload_n C dL_law_974 2 rfl rfl ?_
  refine ww_ci (wr := [(hm, .inr (12, [.ref m_manys, .ref m_reals, .ref m_factsOf, .ref m_possible, .int 0, .int 0, .ref m_tape, .int 0, .int 0, .int 0, .int 0, .int 0, .int 0, .int 0, .int 0, .ref m_ends, .ref m_letters, .ref m_actOf, .ref m_whom, .ref m_actMany, .ref m_tokens, .ref m_afters, .ref m_afterOf, .int 0, .ref m_pile, .ref m_caseMany, .ref m_happen, .ref m_hasIf, .ref m_becomes, .ref m_goneOf, .ref m_heard, .ref m_pairs, .ref m_heaps, .int 0, .int 0, .ref m_led, .ref m_newAt, .ref m_knowing, .ref m_firsts, .int 0, .ref m_secrets, .ref m_tried, .ref m_lanes, .ref m_lengths, .ref m_cells])), (m_manys, .inl (E.2.1 1, 18, .inl (fun _ => 0)))]) (k' := 168) (n' := 11526) C (run_V (As := []) (rest := []) C (x_melt X.2.1 E hx qn qp qs qj ql qh qk qr qg qsh nf np) mi_X11_melt wl_L_111 rfl 0 11 rfl rfl rfl rfl rfl dL_law_975) [0, 1, 2, 3] [4, 5] rfl rfl rfl rfl (fun r u hw => ?_)
  obtain ⟨rfl, rfl⟩ := hw
  refine ww_eq (ws' := [(hm, .inr (12, [.ref m_manys, .ref m_reals, .ref m_factsOf, .ref m_possible, .int 0, .int 0, .ref m_tape, .int 0, .int 0, .int 0, .int 0, .int 0, .int 0, .int 0, .int 0, .ref m_ends, .ref m_letters, .ref m_actOf, .ref m_whom, .ref m_actMany, .ref m_tokens, .ref m_afters, .ref m_afterOf, .int 0, .ref m_pile, .ref m_caseMany, .ref m_happen, .ref m_hasIf, .ref m_becomes, .ref m_goneOf, .ref m_heard, .ref m_pairs, .ref m_heaps, .int 0, .int 0, .ref m_led, .ref m_newAt, .ref m_knowing, .ref m_firsts, .int 0, .ref m_secrets, .ref m_tried, .ref m_lanes, .ref m_lengths, .ref m_cells])), (m_manys, .inl (E.2.1 1, 18, .inl (fun _ => 0)))]) ?_ rfl rfl rfl
  refine ww_aload_n C dL_law_978 1 rfl rfl ?_
  refine ww_ci (wr := []) (k' := 168) (n' := 11526) C (run_V (As := []) (rest := [.int (-2)]) C (y_melt X.2.1 E hm m_manys m_reals m_factsOf m_possible m_tape m_ends m_letters m_actOf m_whom m_actMany m_tokens m_afters m_afterOf m_pile m_caseMany m_happen m_hasIf m_becomes m_goneOf m_heard m_pairs m_heaps m_led m_newAt m_knowing m_firsts m_secrets m_tried m_lanes m_lengths m_cells) mi_X12_melt wl_L_114 rfl 0 12 rfl rfl rfl rfl rfl dL_law_979) [0, 1] [] rfl rfl rfl rfl (fun r u hw => ?_)
  obtain ⟨rfl, rfl⟩ := hw
  refine ww_eq (ws' := []) ?_ rfl rfl rfl
  refine ww_icmp_eq_t (tgt := 1452) C dL_law_982 (by decide) (rfl) ?_
  exact ww_sub [] rfl rfl kk
theorem dL_law_987 : decode cL_law 987 = .ok (.aload_n 1, 1) := by decide +kernel
theorem dL_law_988 : decode cL_law 988 = .ok (.invokevirtual 115, 3) := by decide +kernel
theorem wl_L_115 : Cond.methodLink RL 115 yX11_keep ∈ TB := tbm (tq4 (List.mem_of_getElem? (i := 171) (by decide +kernel))) (by decide +kernel)
theorem wc_X11_keep : Cond.code yX11_keep cX11_keep 1 (some .int) ∈ TB := tbm (tq4 (List.mem_of_getElem? (i := 174) (rfl))) (by decide +kernel)
theorem wi_X11_keep : Cond.instanceMethod yX11_keep ∈ TB := tbm (tq4 (List.mem_of_getElem? (i := 172) (by decide +kernel))) (by decide +kernel)
theorem ws_X11_keep : Cond.selects RX11 yX11_keep yX11_keep ∈ TB := tbm (tq4 (List.mem_of_getElem? (i := 173) (by decide +kernel))) (by decide +kernel)
theorem mi_X11_keep : MI yX11_keep cX11_keep 1 (some .int) 0 := ⟨wc_X11_keep, wn_X11, ⟨by decide +kernel, by decide +kernel, by decide +kernel⟩, wi_X11_keep, ws_X11_keep⟩
theorem dL_law_991 : decode cL_law 991 = .ok (.aload_n 2, 1) := by decide +kernel
theorem dL_law_992 : decode cL_law 992 = .ok (.invokevirtual 118, 3) := by decide +kernel
theorem wl_L_118 : Cond.methodLink RL 118 yX12_keep ∈ TB := tbm (tq7 (List.mem_of_getElem? (i := 1) (by decide +kernel))) (by decide +kernel)
theorem wc_X12_keep : Cond.code yX12_keep cX12_keep 1 (some .int) ∈ TB := tbm (tq7 (List.mem_of_getElem? (i := 4) (rfl))) (by decide +kernel)
theorem wi_X12_keep : Cond.instanceMethod yX12_keep ∈ TB := tbm (tq7 (List.mem_of_getElem? (i := 2) (by decide +kernel))) (by decide +kernel)
theorem ws_X12_keep : Cond.selects RX12 yX12_keep yX12_keep ∈ TB := tbm (tq7 (List.mem_of_getElem? (i := 3) (by decide +kernel))) (by decide +kernel)
theorem mi_X12_keep : MI yX12_keep cX12_keep 1 (some .int) 0 := ⟨wc_X12_keep, wn_X12, ⟨by decide +kernel, by decide +kernel, by decide +kernel⟩, wi_X12_keep, ws_X12_keep⟩
theorem dL_law_995 : decode cL_law 995 = .ok (.if_icmp .eq 457, 3) := by decide +kernel
set_option maxRecDepth 100000 in
set_option maxHeartbeats 4000000 in
theorem lawc_keep {X : XT} {E : EV} {xs : Nat → Int32} (bb : Nat) (hx : Nat) (hm : Nat) (qn : Nat) (qp : Nat) (qs : Nat) (qj : Nat) (ql : Nat) (qh : Nat) (qk : Nat) (qr : Nat) (qg : Nat) (qsh : Nat) (nf : Nat) (np : Nat) (m_manys : Nat) (m_reals : Nat) (m_factsOf : Nat) (m_possible : Nat) (m_tape : Nat) (m_ends : Nat) (m_letters : Nat) (m_actOf : Nat) (m_whom : Nat) (m_actMany : Nat) (m_tokens : Nat) (m_afters : Nat) (m_afterOf : Nat) (m_pile : Nat) (m_caseMany : Nat) (m_happen : Nat) (m_hasIf : Nat) (m_becomes : Nat) (m_goneOf : Nat) (m_heard : Nat) (m_pairs : Nat) (m_heaps : Nat) (m_led : Nat) (m_newAt : Nat) (m_knowing : Nat) (m_firsts : Nat) (m_secrets : Nat) (m_tried : Nat) (m_lanes : Nat) (m_lengths : Nat) (m_cells : Nat) (C : CX X room_1 cL_law 4 RL ret E) (hs : SX X bb 6 xs)  (a0 : Int32) (a1 : Int32) (a2 : Int32) (a3 : Int32) (a4 : Int32) (a5 : Int32) (ea0 : xs 0 = a0) (ea1 : xs 1 = a1) (ea2 : xs 2 = a2) (ea3 : xs 3 = a3) (ea4 : xs 4 = a4) (ea5 : xs 5 = a5) (kk : WW X 4 E 1452 [(3, .int 0), (2, .ref hm), (1, .ref hx), (0, .ref bb)] [] [] 168 11526) : WW X 4 E 987 [(3, .int 0), (2, .ref hm), (1, .ref hx), (0, .ref bb)] [] [(hx, .inr (11, [.ref qn, .ref qp, .int 0, .int 0, .ref qs, .ref qj, .ref ql, .ref qh, .ref qk, .int 0, .ref qr, .ref qg, .int 0, .int 0, .ref qsh])), (qn, .inr (4, [.int 0, .int 0, .ref nf, .ref np])), (nf, .inl (E.2.1 1, 24, .inl (fun _ => 0))), (np, .inl (E.2.1 1, 96, .inl (fun _ => 0))), (hm, .inr (12, [.ref m_manys, .ref m_reals, .ref m_factsOf, .ref m_possible, .int 0, .int 0, .ref m_tape, .int 0, .int 0, .int 0, .int 0, .int 0, .int 0, .int 0, .int 0, .ref m_ends, .ref m_letters, .ref m_actOf, .ref m_whom, .ref m_actMany, .ref m_tokens, .ref m_afters, .ref m_afterOf, .int 0, .ref m_pile, .ref m_caseMany, .ref m_happen, .ref m_hasIf, .ref m_becomes, .ref m_goneOf, .ref m_heard, .ref m_pairs, .ref m_heaps, .int 0, .int 0, .ref m_led, .ref m_newAt, .ref m_knowing, .ref m_firsts, .int 0, .ref m_secrets, .ref m_tried, .ref m_lanes, .ref m_lengths, .ref m_cells])), (m_manys, .inl (E.2.1 1, 18, .inl (fun _ => 0)))] 168 11526 := by
  refine ww_aload_n C dL_law_987 2 rfl rfl ?_
  refine ww_ci (wr := [(hm, .inr (12, [.ref m_manys, .ref m_reals, .ref m_factsOf, .ref m_possible, .int 0, .int 0, .ref m_tape, .int 0, .int 0, .int 0, .int 0, .int 0, .int 0, .int 0, .int 0, .ref m_ends, .ref m_letters, .ref m_actOf, .ref m_whom, .ref m_actMany, .ref m_tokens, .ref m_afters, .ref m_afterOf, .int 0, .ref m_pile, .ref m_caseMany, .ref m_happen, .ref m_hasIf, .ref m_becomes, .ref m_goneOf, .ref m_heard, .ref m_pairs, .ref m_heaps, .int 0, .int 0, .ref m_led, .ref m_newAt, .ref m_knowing, .ref m_firsts, .int 0, .ref m_secrets, .ref m_tried, .ref m_lanes, .ref m_lengths, .ref m_cells])), (m_manys, .inl (E.2.1 1, 18, .inl (fun _ => 0)))]) (k' := 168) (n' := 11526) C (run_V (As := []) (rest := []) C (x_keep X.2.1 E hx qn qp qs qj ql qh qk qr qg qsh nf np) mi_X11_keep wl_L_115 rfl 0 11 rfl rfl rfl rfl rfl dL_law_988) [0, 1, 2, 3] [4, 5] rfl rfl rfl rfl (fun r u hw => ?_)
  obtain ⟨rfl, rfl⟩ := hw
  refine ww_eq (ws' := [(hm, .inr (12, [.ref m_manys, .ref m_reals, .ref m_factsOf, .ref m_possible, .int 0, .int 0, .ref m_tape, .int 0, .int 0, .int 0, .int 0, .int 0, .int 0, .int 0, .int 0, .ref m_ends, .ref m_letters, .ref m_actOf, .ref m_whom, .ref m_actMany, .ref m_tokens, .ref m_afters, .ref m_afterOf, .int 0, .ref m_pile, .ref m_caseMany, .ref m_happen, .ref m_hasIf, .ref m_becomes, .ref m_goneOf, .ref m_heard, .ref m_pairs, .ref m_heaps, .int 0, .int 0, .ref m_led, .ref m_newAt, .ref m_knowing, .ref m_firsts, .int 0, .ref m_secrets, .ref m_tried, .ref m_lanes, .ref m_lengths, .ref m_cells])), (m_manys, .inl (E.2.1 1, 18, .inl (fun _ => 0)))]) ?_ rfl rfl rfl
  refine ww_aload_n C dL_law_991 1 rfl rfl ?_
  refine ww_ci (wr := []) (k' := 168) (n' := 11526) C (run_V (As := []) (rest := [.int (-2)]) C (y_keep X.2.1 E hm m_manys m_reals m_factsOf m_possible m_tape m_ends m_letters m_actOf m_whom m_actMany m_tokens m_afters m_afterOf m_pile m_caseMany m_happen m_hasIf m_becomes m_goneOf m_heard m_pairs m_heaps m_led m_newAt m_knowing m_firsts m_secrets m_tried m_lanes m_lengths m_cells) mi_X12_keep wl_L_118 rfl 0 12 rfl rfl rfl rfl rfl dL_law_992) [0, 1] [] rfl rfl rfl rfl (fun r u hw => ?_)
  obtain ⟨rfl, rfl⟩ := hw
  refine ww_eq (ws' := []) ?_ rfl rfl rfl
  refine ww_icmp_eq_t (tgt := 1452) C dL_law_995 (by decide) (rfl) ?_
  exact ww_sub [] rfl rfl kk
theorem dL_law_1000 : decode cL_law 1000 = .ok (.aload_n 1, 1) := by decide +kernel
theorem dL_law_1001 : decode cL_law 1001 = .ok (.aload_n 0, 1) := by decide +kernel
theorem dL_law_1002 : decode cL_law 1002 = .ok (.iload_n 3, 1) := by decide +kernel
theorem dL_law_1003 : decode cL_law 1003 = .ok (.iconst 1, 1) := by decide +kernel
theorem dL_law_1004 : decode cL_law 1004 = .ok (.iadd, 1) := by decide +kernel
theorem dL_law_1005 : decode cL_law 1005 = .ok (.iaload, 1) := by decide +kernel
theorem dL_law_1006 : decode cL_law 1006 = .ok (.invokevirtual 119, 3) := by decide +kernel
theorem wl_L_119 : Cond.methodLink RL 119 yX11_stand ∈ TB := tbm (tq4 (List.mem_of_getElem? (i := 175) (by decide +kernel))) (by decide +kernel)
theorem wc_X11_stand : Cond.code yX11_stand cX11_stand 2 (some .int) ∈ TB := tbm (tq4 (List.mem_of_getElem? (i := 178) (rfl))) (by decide +kernel)
theorem wi_X11_stand : Cond.instanceMethod yX11_stand ∈ TB := tbm (tq4 (List.mem_of_getElem? (i := 176) (by decide +kernel))) (by decide +kernel)
theorem ws_X11_stand : Cond.selects RX11 yX11_stand yX11_stand ∈ TB := tbm (tq4 (List.mem_of_getElem? (i := 177) (by decide +kernel))) (by decide +kernel)
theorem mi_X11_stand : MI yX11_stand cX11_stand 2 (some .int) 1 := ⟨wc_X11_stand, wn_X11, ⟨by decide +kernel, by decide +kernel, by decide +kernel⟩, wi_X11_stand, ws_X11_stand⟩
theorem dL_law_1009 : decode cL_law 1009 = .ok (.aload_n 2, 1) := by decide +kernel
theorem dL_law_1010 : decode cL_law 1010 = .ok (.aload_n 0, 1) := by decide +kernel
theorem dL_law_1011 : decode cL_law 1011 = .ok (.iload_n 3, 1) := by decide +kernel
theorem dL_law_1012 : decode cL_law 1012 = .ok (.iconst 1, 1) := by decide +kernel
theorem dL_law_1013 : decode cL_law 1013 = .ok (.iadd, 1) := by decide +kernel
theorem dL_law_1014 : decode cL_law 1014 = .ok (.iaload, 1) := by decide +kernel
theorem dL_law_1015 : decode cL_law 1015 = .ok (.invokevirtual 122, 3) := by decide +kernel
theorem wl_L_122 : Cond.methodLink RL 122 yX12_stand ∈ TB := tbm (tq7 (List.mem_of_getElem? (i := 5) (by decide +kernel))) (by decide +kernel)
theorem wc_X12_stand : Cond.code yX12_stand cX12_stand 2 (some .int) ∈ TB := tbm (tq7 (List.mem_of_getElem? (i := 8) (rfl))) (by decide +kernel)
theorem wi_X12_stand : Cond.instanceMethod yX12_stand ∈ TB := tbm (tq7 (List.mem_of_getElem? (i := 6) (by decide +kernel))) (by decide +kernel)
theorem ws_X12_stand : Cond.selects RX12 yX12_stand yX12_stand ∈ TB := tbm (tq7 (List.mem_of_getElem? (i := 7) (by decide +kernel))) (by decide +kernel)
theorem mi_X12_stand : MI yX12_stand cX12_stand 2 (some .int) 1 := ⟨wc_X12_stand, wn_X12, ⟨by decide +kernel, by decide +kernel, by decide +kernel⟩, wi_X12_stand, ws_X12_stand⟩
theorem dL_law_1018 : decode cL_law 1018 = .ok (.if_icmp .eq 434, 3) := by decide +kernel
set_option maxRecDepth 100000 in
set_option maxHeartbeats 4000000 in
theorem lawc_stand {X : XT} {E : EV} {xs : Nat → Int32} (bb : Nat) (hx : Nat) (hm : Nat) (qn : Nat) (qp : Nat) (qs : Nat) (qj : Nat) (ql : Nat) (qh : Nat) (qk : Nat) (qr : Nat) (qg : Nat) (qsh : Nat) (m_manys : Nat) (m_reals : Nat) (m_factsOf : Nat) (m_possible : Nat) (m_tape : Nat) (m_ends : Nat) (m_letters : Nat) (m_actOf : Nat) (m_whom : Nat) (m_actMany : Nat) (m_tokens : Nat) (m_afters : Nat) (m_afterOf : Nat) (m_pile : Nat) (m_caseMany : Nat) (m_happen : Nat) (m_hasIf : Nat) (m_becomes : Nat) (m_goneOf : Nat) (m_heard : Nat) (m_pairs : Nat) (m_heaps : Nat) (m_led : Nat) (m_newAt : Nat) (m_knowing : Nat) (m_firsts : Nat) (m_secrets : Nat) (m_tried : Nat) (m_lanes : Nat) (m_lengths : Nat) (m_cells : Nat) (C : CX X room_1 cL_law 4 RL ret E) (hs : SX X bb 6 xs)  (a0 : Int32) (a1 : Int32) (a2 : Int32) (a3 : Int32) (a4 : Int32) (a5 : Int32) (ea0 : xs 0 = a0) (ea1 : xs 1 = a1) (ea2 : xs 2 = a2) (ea3 : xs 3 = a3) (ea4 : xs 4 = a4) (ea5 : xs 5 = a5) (kk : WW X 4 E 1452 [(3, .int 0), (2, .ref hm), (1, .ref hx), (0, .ref bb)] [] [] 168 11526) : WW X 4 E 1000 [(3, .int 0), (2, .ref hm), (1, .ref hx), (0, .ref bb)] [] [(hx, .inr (11, [.ref qn, .ref qp, .int 0, .int 0, .ref qs, .ref qj, .ref ql, .ref qh, .ref qk, .int 0, .ref qr, .ref qg, .int 0, .int 0, .ref qsh])), (hm, .inr (12, [.ref m_manys, .ref m_reals, .ref m_factsOf, .ref m_possible, .int 0, .int 0, .ref m_tape, .int 0, .int 0, .int 0, .int 0, .int 0, .int 0, .int 0, .int 0, .ref m_ends, .ref m_letters, .ref m_actOf, .ref m_whom, .ref m_actMany, .ref m_tokens, .ref m_afters, .ref m_afterOf, .int 0, .ref m_pile, .ref m_caseMany, .ref m_happen, .ref m_hasIf, .ref m_becomes, .ref m_goneOf, .ref m_heard, .ref m_pairs, .ref m_heaps, .int 0, .int 0, .ref m_led, .ref m_newAt, .ref m_knowing, .ref m_firsts, .int 0, .ref m_secrets, .ref m_tried, .ref m_lanes, .ref m_lengths, .ref m_cells]))] 168 11526 := by
  refine ww_aload_n C dL_law_1000 2 rfl rfl ?_
  refine ww_aload_n C dL_law_1001 3 rfl rfl ?_
  refine ww_iload_n C dL_law_1002 0 rfl rfl ?_
  refine ww_iconst (v := 1) C dL_law_1003 rfl ?_
  refine ww_iadd (v := 1) C dL_law_1004 (by decide) ?_
  refine ww_sld (v := a1) C hs (vin rfl) ea1 dL_law_1005 ?_
  refine ww_ci (wr := [(hm, .inr (12, [.ref m_manys, .ref m_reals, .ref m_factsOf, .ref m_possible, .int 0, .int 0, .ref m_tape, .int 0, .int 0, .int 0, .int 0, .int 0, .int 0, .int 0, .int 0, .ref m_ends, .ref m_letters, .ref m_actOf, .ref m_whom, .ref m_actMany, .ref m_tokens, .ref m_afters, .ref m_afterOf, .int 0, .ref m_pile, .ref m_caseMany, .ref m_happen, .ref m_hasIf, .ref m_becomes, .ref m_goneOf, .ref m_heard, .ref m_pairs, .ref m_heaps, .int 0, .int 0, .ref m_led, .ref m_newAt, .ref m_knowing, .ref m_firsts, .int 0, .ref m_secrets, .ref m_tried, .ref m_lanes, .ref m_lengths, .ref m_cells]))]) (k' := 168) (n' := 11526) C (run_V (As := [.int a1]) (rest := []) C (x_stand X.2.1 E hx a1 qn qp qs qj ql qh qk qr qg qsh) mi_X11_stand wl_L_119 rfl 0 11 rfl rfl rfl rfl rfl dL_law_1006) [0] [1] rfl rfl rfl rfl (fun r u hw => ?_)
  obtain ⟨rfl, rfl⟩ := hw
  refine ww_eq (ws' := [(hm, .inr (12, [.ref m_manys, .ref m_reals, .ref m_factsOf, .ref m_possible, .int 0, .int 0, .ref m_tape, .int 0, .int 0, .int 0, .int 0, .int 0, .int 0, .int 0, .int 0, .ref m_ends, .ref m_letters, .ref m_actOf, .ref m_whom, .ref m_actMany, .ref m_tokens, .ref m_afters, .ref m_afterOf, .int 0, .ref m_pile, .ref m_caseMany, .ref m_happen, .ref m_hasIf, .ref m_becomes, .ref m_goneOf, .ref m_heard, .ref m_pairs, .ref m_heaps, .int 0, .int 0, .ref m_led, .ref m_newAt, .ref m_knowing, .ref m_firsts, .int 0, .ref m_secrets, .ref m_tried, .ref m_lanes, .ref m_lengths, .ref m_cells]))]) ?_ rfl rfl rfl
  refine ww_aload_n C dL_law_1009 1 rfl rfl ?_
  refine ww_aload_n C dL_law_1010 3 rfl rfl ?_
  refine ww_iload_n C dL_law_1011 0 rfl rfl ?_
  refine ww_iconst (v := 1) C dL_law_1012 rfl ?_
  refine ww_iadd (v := 1) C dL_law_1013 (by decide) ?_
  refine ww_sld (v := a1) C hs (vin rfl) ea1 dL_law_1014 ?_
  refine ww_ci (wr := []) (k' := 168) (n' := 11526) C (run_V (As := [.int a1]) (rest := [.int (-1)]) C (y_stand X.2.1 E hm a1 m_manys m_reals m_factsOf m_possible m_tape m_ends m_letters m_actOf m_whom m_actMany m_tokens m_afters m_afterOf m_pile m_caseMany m_happen m_hasIf m_becomes m_goneOf m_heard m_pairs m_heaps m_led m_newAt m_knowing m_firsts m_secrets m_tried m_lanes m_lengths m_cells) mi_X12_stand wl_L_122 rfl 0 12 rfl rfl rfl rfl rfl dL_law_1015) [0] [] rfl rfl rfl rfl (fun r u hw => ?_)
  obtain ⟨rfl, rfl⟩ := hw
  refine ww_eq (ws' := []) ?_ rfl rfl rfl
  refine ww_icmp_eq_t (tgt := 1452) C dL_law_1018 (by decide) (rfl) ?_
  exact ww_sub [] rfl rfl kk
theorem dL_law_1023 : decode cL_law 1023 = .ok (.aload_n 1, 1) := by decide +kernel
theorem dL_law_1024 : decode cL_law 1024 = .ok (.aload_n 0, 1) := by decide +kernel
theorem dL_law_1025 : decode cL_law 1025 = .ok (.iload_n 3, 1) := by decide +kernel
theorem dL_law_1026 : decode cL_law 1026 = .ok (.iconst 1, 1) := by decide +kernel
theorem dL_law_1027 : decode cL_law 1027 = .ok (.iadd, 1) := by decide +kernel
theorem dL_law_1028 : decode cL_law 1028 = .ok (.iaload, 1) := by decide +kernel
theorem dL_law_1029 : decode cL_law 1029 = .ok (.invokevirtual 123, 3) := by decide +kernel
theorem wl_L_123 : Cond.methodLink RL 123 yX11_same ∈ TB := tbm (tq4 (List.mem_of_getElem? (i := 179) (by decide +kernel))) (by decide +kernel)
theorem wc_X11_same : Cond.code yX11_same cX11_same 3 (some .int) ∈ TB := tbm (tq4 (List.mem_of_getElem? (i := 182) (rfl))) (by decide +kernel)
theorem wi_X11_same : Cond.instanceMethod yX11_same ∈ TB := tbm (tq4 (List.mem_of_getElem? (i := 180) (by decide +kernel))) (by decide +kernel)
theorem ws_X11_same : Cond.selects RX11 yX11_same yX11_same ∈ TB := tbm (tq4 (List.mem_of_getElem? (i := 181) (by decide +kernel))) (by decide +kernel)
theorem mi_X11_same : MI yX11_same cX11_same 3 (some .int) 1 := ⟨wc_X11_same, wn_X11, ⟨by decide +kernel, by decide +kernel, by decide +kernel⟩, wi_X11_same, ws_X11_same⟩
theorem dL_law_1032 : decode cL_law 1032 = .ok (.aload_n 2, 1) := by decide +kernel
theorem dL_law_1033 : decode cL_law 1033 = .ok (.aload_n 0, 1) := by decide +kernel
theorem dL_law_1034 : decode cL_law 1034 = .ok (.iload_n 3, 1) := by decide +kernel
theorem dL_law_1035 : decode cL_law 1035 = .ok (.iconst 1, 1) := by decide +kernel
theorem dL_law_1036 : decode cL_law 1036 = .ok (.iadd, 1) := by decide +kernel
theorem dL_law_1037 : decode cL_law 1037 = .ok (.iaload, 1) := by decide +kernel
theorem dL_law_1038 : decode cL_law 1038 = .ok (.invokevirtual 126, 3) := by decide +kernel
theorem wl_L_126 : Cond.methodLink RL 126 yX12_same ∈ TB := tbm (tq7 (List.mem_of_getElem? (i := 13) (by decide +kernel))) (by decide +kernel)
theorem wc_X12_same : Cond.code yX12_same cX12_same 2 (some .int) ∈ TB := tbm (tq7 (List.mem_of_getElem? (i := 16) (rfl))) (by decide +kernel)
theorem wi_X12_same : Cond.instanceMethod yX12_same ∈ TB := tbm (tq7 (List.mem_of_getElem? (i := 14) (by decide +kernel))) (by decide +kernel)
theorem ws_X12_same : Cond.selects RX12 yX12_same yX12_same ∈ TB := tbm (tq7 (List.mem_of_getElem? (i := 15) (by decide +kernel))) (by decide +kernel)
theorem mi_X12_same : MI yX12_same cX12_same 2 (some .int) 1 := ⟨wc_X12_same, wn_X12, ⟨by decide +kernel, by decide +kernel, by decide +kernel⟩, wi_X12_same, ws_X12_same⟩
theorem dL_law_1041 : decode cL_law 1041 = .ok (.if_icmp .eq 411, 3) := by decide +kernel
set_option maxRecDepth 100000 in
set_option maxHeartbeats 4000000 in
theorem lawc_same {X : XT} {E : EV} {xs : Nat → Int32} (bb : Nat) (hx : Nat) (hm : Nat) (qn : Nat) (qp : Nat) (qs : Nat) (qj : Nat) (ql : Nat) (qh : Nat) (qk : Nat) (qr : Nat) (qg : Nat) (qsh : Nat) (m_manys : Nat) (m_reals : Nat) (m_factsOf : Nat) (m_possible : Nat) (m_tape : Nat) (m_ends : Nat) (m_letters : Nat) (m_actOf : Nat) (m_whom : Nat) (m_actMany : Nat) (m_tokens : Nat) (m_afters : Nat) (m_afterOf : Nat) (m_pile : Nat) (m_caseMany : Nat) (m_happen : Nat) (m_hasIf : Nat) (m_becomes : Nat) (m_goneOf : Nat) (m_heard : Nat) (m_pairs : Nat) (m_heaps : Nat) (m_led : Nat) (m_newAt : Nat) (m_knowing : Nat) (m_firsts : Nat) (m_secrets : Nat) (m_tried : Nat) (m_lanes : Nat) (m_lengths : Nat) (m_cells : Nat) (C : CX X room_1 cL_law 4 RL ret E) (hs : SX X bb 6 xs)  (a0 : Int32) (a1 : Int32) (a2 : Int32) (a3 : Int32) (a4 : Int32) (a5 : Int32) (ea0 : xs 0 = a0) (ea1 : xs 1 = a1) (ea2 : xs 2 = a2) (ea3 : xs 3 = a3) (ea4 : xs 4 = a4) (ea5 : xs 5 = a5) (kk : WW X 4 E 1452 [(3, .int 0), (2, .ref hm), (1, .ref hx), (0, .ref bb)] [] [] 168 11526) : WW X 4 E 1023 [(3, .int 0), (2, .ref hm), (1, .ref hx), (0, .ref bb)] [] [(hx, .inr (11, [.ref qn, .ref qp, .int 0, .int 0, .ref qs, .ref qj, .ref ql, .ref qh, .ref qk, .int 0, .ref qr, .ref qg, .int 0, .int 0, .ref qsh])), (hm, .inr (12, [.ref m_manys, .ref m_reals, .ref m_factsOf, .ref m_possible, .int 0, .int 0, .ref m_tape, .int 0, .int 0, .int 0, .int 0, .int 0, .int 0, .int 0, .int 0, .ref m_ends, .ref m_letters, .ref m_actOf, .ref m_whom, .ref m_actMany, .ref m_tokens, .ref m_afters, .ref m_afterOf, .int 0, .ref m_pile, .ref m_caseMany, .ref m_happen, .ref m_hasIf, .ref m_becomes, .ref m_goneOf, .ref m_heard, .ref m_pairs, .ref m_heaps, .int 0, .int 0, .ref m_led, .ref m_newAt, .ref m_knowing, .ref m_firsts, .int 0, .ref m_secrets, .ref m_tried, .ref m_lanes, .ref m_lengths, .ref m_cells]))] 168 11526 := by
  refine ww_aload_n C dL_law_1023 2 rfl rfl ?_
  refine ww_aload_n C dL_law_1024 3 rfl rfl ?_
  refine ww_iload_n C dL_law_1025 0 rfl rfl ?_
  refine ww_iconst (v := 1) C dL_law_1026 rfl ?_
  refine ww_iadd (v := 1) C dL_law_1027 (by decide) ?_
  refine ww_sld (v := a1) C hs (vin rfl) ea1 dL_law_1028 ?_
  refine ww_ci (wr := [(hm, .inr (12, [.ref m_manys, .ref m_reals, .ref m_factsOf, .ref m_possible, .int 0, .int 0, .ref m_tape, .int 0, .int 0, .int 0, .int 0, .int 0, .int 0, .int 0, .int 0, .ref m_ends, .ref m_letters, .ref m_actOf, .ref m_whom, .ref m_actMany, .ref m_tokens, .ref m_afters, .ref m_afterOf, .int 0, .ref m_pile, .ref m_caseMany, .ref m_happen, .ref m_hasIf, .ref m_becomes, .ref m_goneOf, .ref m_heard, .ref m_pairs, .ref m_heaps, .int 0, .int 0, .ref m_led, .ref m_newAt, .ref m_knowing, .ref m_firsts, .int 0, .ref m_secrets, .ref m_tried, .ref m_lanes, .ref m_lengths, .ref m_cells]))]) (k' := 168) (n' := 11526) C (run_V (As := [.int a1]) (rest := []) C (x_same X.2.1 E hx a1 qn qp qs qj ql qh qk qr qg qsh) mi_X11_same wl_L_123 rfl 0 11 rfl rfl rfl rfl rfl dL_law_1029) [0] [1] rfl rfl rfl rfl (fun r u hw => ?_)
  obtain ⟨rfl, rfl⟩ := hw
  refine ww_eq (ws' := [(hm, .inr (12, [.ref m_manys, .ref m_reals, .ref m_factsOf, .ref m_possible, .int 0, .int 0, .ref m_tape, .int 0, .int 0, .int 0, .int 0, .int 0, .int 0, .int 0, .int 0, .ref m_ends, .ref m_letters, .ref m_actOf, .ref m_whom, .ref m_actMany, .ref m_tokens, .ref m_afters, .ref m_afterOf, .int 0, .ref m_pile, .ref m_caseMany, .ref m_happen, .ref m_hasIf, .ref m_becomes, .ref m_goneOf, .ref m_heard, .ref m_pairs, .ref m_heaps, .int 0, .int 0, .ref m_led, .ref m_newAt, .ref m_knowing, .ref m_firsts, .int 0, .ref m_secrets, .ref m_tried, .ref m_lanes, .ref m_lengths, .ref m_cells]))]) ?_ rfl rfl rfl
  refine ww_aload_n C dL_law_1032 1 rfl rfl ?_
  refine ww_aload_n C dL_law_1033 3 rfl rfl ?_
  refine ww_iload_n C dL_law_1034 0 rfl rfl ?_
  refine ww_iconst (v := 1) C dL_law_1035 rfl ?_
  refine ww_iadd (v := 1) C dL_law_1036 (by decide) ?_
  refine ww_sld (v := a1) C hs (vin rfl) ea1 dL_law_1037 ?_
  refine ww_ci (wr := []) (k' := 168) (n' := 11526) C (run_V (As := [.int a1]) (rest := [.int (-1)]) C (y_same X.2.1 E hm a1 m_manys m_reals m_factsOf m_possible m_tape m_ends m_letters m_actOf m_whom m_actMany m_tokens m_afters m_afterOf m_pile m_caseMany m_happen m_hasIf m_becomes m_goneOf m_heard m_pairs m_heaps m_led m_newAt m_knowing m_firsts m_secrets m_tried m_lanes m_lengths m_cells) mi_X12_same wl_L_126 rfl 0 12 rfl rfl rfl rfl rfl dL_law_1038) [0] [] rfl rfl rfl rfl (fun r u hw => ?_)
  obtain ⟨rfl, rfl⟩ := hw
  refine ww_eq (ws' := []) ?_ rfl rfl rfl
  refine ww_icmp_eq_t (tgt := 1452) C dL_law_1041 (by decide) (rfl) ?_
  exact ww_sub [] rfl rfl kk
