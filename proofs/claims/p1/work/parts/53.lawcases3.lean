theorem dL_law_1046 : decode cL_law 1046 = .ok (.aload_n 1, 1) := by decide +kernel
theorem dL_law_1047 : decode cL_law 1047 = .ok (.aload_n 0, 1) := by decide +kernel
theorem dL_law_1048 : decode cL_law 1048 = .ok (.iload_n 3, 1) := by decide +kernel
theorem dL_law_1049 : decode cL_law 1049 = .ok (.iconst 1, 1) := by decide +kernel
theorem dL_law_1050 : decode cL_law 1050 = .ok (.iadd, 1) := by decide +kernel
theorem dL_law_1051 : decode cL_law 1051 = .ok (.iaload, 1) := by decide +kernel
theorem dL_law_1052 : decode cL_law 1052 = .ok (.aload_n 0, 1) := by decide +kernel
theorem dL_law_1053 : decode cL_law 1053 = .ok (.iload_n 3, 1) := by decide +kernel
theorem dL_law_1054 : decode cL_law 1054 = .ok (.iconst 2, 1) := by decide +kernel
theorem dL_law_1055 : decode cL_law 1055 = .ok (.iadd, 1) := by decide +kernel
theorem dL_law_1056 : decode cL_law 1056 = .ok (.iaload, 1) := by decide +kernel
theorem dL_law_1057 : decode cL_law 1057 = .ok (.invokevirtual 127, 3) := by decide +kernel
theorem wl_L_127 : Cond.methodLink RL 127 yX11_turn ∈ TB := tbm (tq4 (List.mem_of_getElem? (i := 183) (by decide +kernel))) (by decide +kernel)
theorem wc_X11_turn : Cond.code yX11_turn cX11_turn 3 (some .int) ∈ TB := tbm (tq4 (List.mem_of_getElem? (i := 186) (rfl))) (by decide +kernel)
theorem wi_X11_turn : Cond.instanceMethod yX11_turn ∈ TB := tbm (tq4 (List.mem_of_getElem? (i := 184) (by decide +kernel))) (by decide +kernel)
theorem ws_X11_turn : Cond.selects RX11 yX11_turn yX11_turn ∈ TB := tbm (tq4 (List.mem_of_getElem? (i := 185) (by decide +kernel))) (by decide +kernel)
theorem mi_X11_turn : MI yX11_turn cX11_turn 3 (some .int) 2 := ⟨wc_X11_turn, wn_X11, ⟨by decide +kernel, by decide +kernel, by decide +kernel⟩, wi_X11_turn, ws_X11_turn⟩
theorem dL_law_1060 : decode cL_law 1060 = .ok (.aload_n 2, 1) := by decide +kernel
theorem dL_law_1061 : decode cL_law 1061 = .ok (.aload_n 0, 1) := by decide +kernel
theorem dL_law_1062 : decode cL_law 1062 = .ok (.iload_n 3, 1) := by decide +kernel
theorem dL_law_1063 : decode cL_law 1063 = .ok (.iconst 1, 1) := by decide +kernel
theorem dL_law_1064 : decode cL_law 1064 = .ok (.iadd, 1) := by decide +kernel
theorem dL_law_1065 : decode cL_law 1065 = .ok (.iaload, 1) := by decide +kernel
theorem dL_law_1066 : decode cL_law 1066 = .ok (.aload_n 0, 1) := by decide +kernel
theorem dL_law_1067 : decode cL_law 1067 = .ok (.iload_n 3, 1) := by decide +kernel
theorem dL_law_1068 : decode cL_law 1068 = .ok (.iconst 2, 1) := by decide +kernel
theorem dL_law_1069 : decode cL_law 1069 = .ok (.iadd, 1) := by decide +kernel
theorem dL_law_1070 : decode cL_law 1070 = .ok (.iaload, 1) := by decide +kernel
theorem dL_law_1071 : decode cL_law 1071 = .ok (.invokevirtual 130, 3) := by decide +kernel
theorem wl_L_130 : Cond.methodLink RL 130 yX12_turn ∈ TB := tbm (tq7 (List.mem_of_getElem? (i := 17) (by decide +kernel))) (by decide +kernel)
theorem wc_X12_turn : Cond.code yX12_turn cX12_turn 4 (some .int) ∈ TB := tbm (tq7 (List.mem_of_getElem? (i := 20) (rfl))) (by decide +kernel)
theorem wi_X12_turn : Cond.instanceMethod yX12_turn ∈ TB := tbm (tq7 (List.mem_of_getElem? (i := 18) (by decide +kernel))) (by decide +kernel)
theorem ws_X12_turn : Cond.selects RX12 yX12_turn yX12_turn ∈ TB := tbm (tq7 (List.mem_of_getElem? (i := 19) (by decide +kernel))) (by decide +kernel)
theorem mi_X12_turn : MI yX12_turn cX12_turn 4 (some .int) 2 := ⟨wc_X12_turn, wn_X12, ⟨by decide +kernel, by decide +kernel, by decide +kernel⟩, wi_X12_turn, ws_X12_turn⟩
theorem dL_law_1074 : decode cL_law 1074 = .ok (.if_icmp .eq 378, 3) := by decide +kernel
set_option maxRecDepth 100000 in
set_option maxHeartbeats 4000000 in
theorem lawc_turn {X : XT} {E : EV} {xs : Nat → Int32} (bb : Nat) (hx : Nat) (hm : Nat) (qn : Nat) (qp : Nat) (qs : Nat) (qj : Nat) (ql : Nat) (qh : Nat) (qk : Nat) (qr : Nat) (qg : Nat) (qsh : Nat) (jt : Nat) (je : Nat) (ju : Nat) (ja : Nat) (m_manys : Nat) (m_reals : Nat) (m_factsOf : Nat) (m_possible : Nat) (m_tape : Nat) (m_ends : Nat) (m_letters : Nat) (m_actOf : Nat) (m_whom : Nat) (m_actMany : Nat) (m_tokens : Nat) (m_afters : Nat) (m_afterOf : Nat) (m_pile : Nat) (m_caseMany : Nat) (m_happen : Nat) (m_hasIf : Nat) (m_becomes : Nat) (m_goneOf : Nat) (m_heard : Nat) (m_pairs : Nat) (m_heaps : Nat) (m_led : Nat) (m_newAt : Nat) (m_knowing : Nat) (m_firsts : Nat) (m_secrets : Nat) (m_tried : Nat) (m_lanes : Nat) (m_lengths : Nat) (m_cells : Nat) (C : CX X room_1 cL_law 4 RL ret E) (hs : SX X bb 6 xs)  (a0 : Int32) (a1 : Int32) (a2 : Int32) (a3 : Int32) (a4 : Int32) (a5 : Int32) (ea0 : xs 0 = a0) (ea1 : xs 1 = a1) (ea2 : xs 2 = a2) (ea3 : xs 3 = a3) (ea4 : xs 4 = a4) (ea5 : xs 5 = a5) (kk : WW X 4 E 1452 [(3, .int 0), (2, .ref hm), (1, .ref hx), (0, .ref bb)] [] [] 168 11526) : WW X 4 E 1046 [(3, .int 0), (2, .ref hm), (1, .ref hx), (0, .ref bb)] [] [(hx, .inr (11, [.ref qn, .ref qp, .int 0, .int 0, .ref qs, .ref qj, .ref ql, .ref qh, .ref qk, .int 0, .ref qr, .ref qg, .int 0, .int 0, .ref qsh])), (qj, .inr (2, [.ref jt, .ref je, .ref ju, .ref ja])), (jt, .inl (E.2.1 7, 8, .inr (.inr (.inr (.inr (fun _ => none)))))), (hm, .inr (12, [.ref m_manys, .ref m_reals, .ref m_factsOf, .ref m_possible, .int 0, .int 0, .ref m_tape, .int 0, .int 0, .int 0, .int 0, .int 0, .int 0, .int 0, .int 0, .ref m_ends, .ref m_letters, .ref m_actOf, .ref m_whom, .ref m_actMany, .ref m_tokens, .ref m_afters, .ref m_afterOf, .int 0, .ref m_pile, .ref m_caseMany, .ref m_happen, .ref m_hasIf, .ref m_becomes, .ref m_goneOf, .ref m_heard, .ref m_pairs, .ref m_heaps, .int 0, .int 0, .ref m_led, .ref m_newAt, .ref m_knowing, .ref m_firsts, .int 0, .ref m_secrets, .ref m_tried, .ref m_lanes, .ref m_lengths, .ref m_cells])), (m_tokens, .inl (E.2.1 1, 9, .inl (fun _ => 0)))] 168 11526 := by
  refine ww_aload_n C dL_law_1046 2 rfl rfl ?_
  refine ww_aload_n C dL_law_1047 3 rfl rfl ?_
  refine ww_iload_n C dL_law_1048 0 rfl rfl ?_
  refine ww_iconst (v := 1) C dL_law_1049 rfl ?_
  refine ww_iadd (v := 1) C dL_law_1050 (by decide) ?_
  refine ww_sld (v := a1) C hs (vin rfl) ea1 dL_law_1051 ?_
  refine ww_aload_n C dL_law_1052 3 rfl rfl ?_
  refine ww_iload_n C dL_law_1053 0 rfl rfl ?_
  refine ww_iconst (v := 2) C dL_law_1054 rfl ?_
  refine ww_iadd (v := 2) C dL_law_1055 (by decide) ?_
  refine ww_sld (v := a2) C hs (vin rfl) ea2 dL_law_1056 ?_
  refine ww_ci (wr := [(hm, .inr (12, [.ref m_manys, .ref m_reals, .ref m_factsOf, .ref m_possible, .int 0, .int 0, .ref m_tape, .int 0, .int 0, .int 0, .int 0, .int 0, .int 0, .int 0, .int 0, .ref m_ends, .ref m_letters, .ref m_actOf, .ref m_whom, .ref m_actMany, .ref m_tokens, .ref m_afters, .ref m_afterOf, .int 0, .ref m_pile, .ref m_caseMany, .ref m_happen, .ref m_hasIf, .ref m_becomes, .ref m_goneOf, .ref m_heard, .ref m_pairs, .ref m_heaps, .int 0, .int 0, .ref m_led, .ref m_newAt, .ref m_knowing, .ref m_firsts, .int 0, .ref m_secrets, .ref m_tried, .ref m_lanes, .ref m_lengths, .ref m_cells])), (m_tokens, .inl (E.2.1 1, 9, .inl (fun _ => 0)))]) (k' := 168) (n' := 11526) C (run_V (As := [.int a1, .int a2]) (rest := []) C (x_turn X.2.1 E hx a1 a2 qn qp qs qj ql qh qk qr qg qsh jt je ju ja) mi_X11_turn wl_L_127 rfl 0 11 rfl rfl rfl rfl rfl dL_law_1057) [0, 1, 2] [3, 4] rfl rfl rfl rfl (fun r u hw => ?_)
  obtain ⟨rfl, rfl⟩ := hw
  refine ww_eq (ws' := [(hm, .inr (12, [.ref m_manys, .ref m_reals, .ref m_factsOf, .ref m_possible, .int 0, .int 0, .ref m_tape, .int 0, .int 0, .int 0, .int 0, .int 0, .int 0, .int 0, .int 0, .ref m_ends, .ref m_letters, .ref m_actOf, .ref m_whom, .ref m_actMany, .ref m_tokens, .ref m_afters, .ref m_afterOf, .int 0, .ref m_pile, .ref m_caseMany, .ref m_happen, .ref m_hasIf, .ref m_becomes, .ref m_goneOf, .ref m_heard, .ref m_pairs, .ref m_heaps, .int 0, .int 0, .ref m_led, .ref m_newAt, .ref m_knowing, .ref m_firsts, .int 0, .ref m_secrets, .ref m_tried, .ref m_lanes, .ref m_lengths, .ref m_cells])), (m_tokens, .inl (E.2.1 1, 9, .inl (fun _ => 0)))]) ?_ rfl rfl rfl
  refine ww_aload_n C dL_law_1060 1 rfl rfl ?_
  refine ww_aload_n C dL_law_1061 3 rfl rfl ?_
  refine ww_iload_n C dL_law_1062 0 rfl rfl ?_
  refine ww_iconst (v := 1) C dL_law_1063 rfl ?_
  refine ww_iadd (v := 1) C dL_law_1064 (by decide) ?_
  refine ww_sld (v := a1) C hs (vin rfl) ea1 dL_law_1065 ?_
  refine ww_aload_n C dL_law_1066 3 rfl rfl ?_
  refine ww_iload_n C dL_law_1067 0 rfl rfl ?_
  refine ww_iconst (v := 2) C dL_law_1068 rfl ?_
  refine ww_iadd (v := 2) C dL_law_1069 (by decide) ?_
  refine ww_sld (v := a2) C hs (vin rfl) ea2 dL_law_1070 ?_
  refine ww_ci (wr := []) (k' := 168) (n' := 11526) C (run_V (As := [.int a1, .int a2]) (rest := [.int (-1)]) C (y_turn X.2.1 E hm a1 a2 m_manys m_reals m_factsOf m_possible m_tape m_ends m_letters m_actOf m_whom m_actMany m_tokens m_afters m_afterOf m_pile m_caseMany m_happen m_hasIf m_becomes m_goneOf m_heard m_pairs m_heaps m_led m_newAt m_knowing m_firsts m_secrets m_tried m_lanes m_lengths m_cells) mi_X12_turn wl_L_130 rfl 0 12 rfl rfl rfl rfl rfl dL_law_1071) [0, 1] [] rfl rfl rfl rfl (fun r u hw => ?_)
  obtain ⟨rfl, rfl⟩ := hw
  refine ww_eq (ws' := []) ?_ rfl rfl rfl
  refine ww_icmp_eq_t (tgt := 1452) C dL_law_1074 (by decide) (rfl) ?_
  exact ww_sub [] rfl rfl kk
theorem dL_law_1079 : decode cL_law 1079 = .ok (.aload_n 1, 1) := by decide +kernel
theorem dL_law_1080 : decode cL_law 1080 = .ok (.aload_n 0, 1) := by decide +kernel
theorem dL_law_1081 : decode cL_law 1081 = .ok (.iload_n 3, 1) := by decide +kernel
theorem dL_law_1082 : decode cL_law 1082 = .ok (.iconst 1, 1) := by decide +kernel
theorem dL_law_1083 : decode cL_law 1083 = .ok (.iadd, 1) := by decide +kernel
theorem dL_law_1084 : decode cL_law 1084 = .ok (.iaload, 1) := by decide +kernel
theorem dL_law_1085 : decode cL_law 1085 = .ok (.aload_n 0, 1) := by decide +kernel
theorem dL_law_1086 : decode cL_law 1086 = .ok (.iload_n 3, 1) := by decide +kernel
theorem dL_law_1087 : decode cL_law 1087 = .ok (.iconst 2, 1) := by decide +kernel
theorem dL_law_1088 : decode cL_law 1088 = .ok (.iadd, 1) := by decide +kernel
theorem dL_law_1089 : decode cL_law 1089 = .ok (.iaload, 1) := by decide +kernel
theorem dL_law_1090 : decode cL_law 1090 = .ok (.aload_n 0, 1) := by decide +kernel
theorem dL_law_1091 : decode cL_law 1091 = .ok (.iload_n 3, 1) := by decide +kernel
theorem dL_law_1092 : decode cL_law 1092 = .ok (.iconst 3, 1) := by decide +kernel
theorem dL_law_1093 : decode cL_law 1093 = .ok (.iadd, 1) := by decide +kernel
theorem dL_law_1094 : decode cL_law 1094 = .ok (.iaload, 1) := by decide +kernel
theorem dL_law_1095 : decode cL_law 1095 = .ok (.invokevirtual 131, 3) := by decide +kernel
theorem wl_L_131 : Cond.methodLink RL 131 yX11_turns ∈ TB := tbm (tq4 (List.mem_of_getElem? (i := 207) (by decide +kernel))) (by decide +kernel)
theorem wc_X11_turns : Cond.code yX11_turns cX11_turns 4 (some .int) ∈ TB := tbm (tq4 (List.mem_of_getElem? (i := 210) (rfl))) (by decide +kernel)
theorem wi_X11_turns : Cond.instanceMethod yX11_turns ∈ TB := tbm (tq4 (List.mem_of_getElem? (i := 208) (by decide +kernel))) (by decide +kernel)
theorem ws_X11_turns : Cond.selects RX11 yX11_turns yX11_turns ∈ TB := tbm (tq4 (List.mem_of_getElem? (i := 209) (by decide +kernel))) (by decide +kernel)
theorem mi_X11_turns : MI yX11_turns cX11_turns 4 (some .int) 3 := ⟨wc_X11_turns, wn_X11, ⟨by decide +kernel, by decide +kernel, by decide +kernel⟩, wi_X11_turns, ws_X11_turns⟩
theorem dL_law_1098 : decode cL_law 1098 = .ok (.aload_n 2, 1) := by decide +kernel
theorem dL_law_1099 : decode cL_law 1099 = .ok (.aload_n 0, 1) := by decide +kernel
theorem dL_law_1100 : decode cL_law 1100 = .ok (.iload_n 3, 1) := by decide +kernel
theorem dL_law_1101 : decode cL_law 1101 = .ok (.iconst 1, 1) := by decide +kernel
theorem dL_law_1102 : decode cL_law 1102 = .ok (.iadd, 1) := by decide +kernel
theorem dL_law_1103 : decode cL_law 1103 = .ok (.iaload, 1) := by decide +kernel
theorem dL_law_1104 : decode cL_law 1104 = .ok (.aload_n 0, 1) := by decide +kernel
theorem dL_law_1105 : decode cL_law 1105 = .ok (.iload_n 3, 1) := by decide +kernel
theorem dL_law_1106 : decode cL_law 1106 = .ok (.iconst 2, 1) := by decide +kernel
theorem dL_law_1107 : decode cL_law 1107 = .ok (.iadd, 1) := by decide +kernel
theorem dL_law_1108 : decode cL_law 1108 = .ok (.iaload, 1) := by decide +kernel
theorem dL_law_1109 : decode cL_law 1109 = .ok (.aload_n 0, 1) := by decide +kernel
theorem dL_law_1110 : decode cL_law 1110 = .ok (.iload_n 3, 1) := by decide +kernel
theorem dL_law_1111 : decode cL_law 1111 = .ok (.iconst 3, 1) := by decide +kernel
theorem dL_law_1112 : decode cL_law 1112 = .ok (.iadd, 1) := by decide +kernel
theorem dL_law_1113 : decode cL_law 1113 = .ok (.iaload, 1) := by decide +kernel
theorem dL_law_1114 : decode cL_law 1114 = .ok (.invokevirtual 135, 3) := by decide +kernel
theorem wl_L_135 : Cond.methodLink RL 135 yX12_turns ∈ TB := tbm (tq7 (List.mem_of_getElem? (i := 38) (by decide +kernel))) (by decide +kernel)
theorem wc_X12_turns : Cond.code yX12_turns cX12_turns 8 (some .int) ∈ TB := tbm (tq7 (List.mem_of_getElem? (i := 41) (rfl))) (by decide +kernel)
theorem wi_X12_turns : Cond.instanceMethod yX12_turns ∈ TB := tbm (tq7 (List.mem_of_getElem? (i := 39) (by decide +kernel))) (by decide +kernel)
theorem ws_X12_turns : Cond.selects RX12 yX12_turns yX12_turns ∈ TB := tbm (tq7 (List.mem_of_getElem? (i := 40) (by decide +kernel))) (by decide +kernel)
theorem mi_X12_turns : MI yX12_turns cX12_turns 8 (some .int) 3 := ⟨wc_X12_turns, wn_X12, ⟨by decide +kernel, by decide +kernel, by decide +kernel⟩, wi_X12_turns, ws_X12_turns⟩
theorem dL_law_1117 : decode cL_law 1117 = .ok (.if_icmp .eq 335, 3) := by decide +kernel
set_option maxRecDepth 100000 in
set_option maxHeartbeats 4000000 in
theorem lawc_turns {X : XT} {E : EV} {xs : Nat → Int32} (bb : Nat) (hx : Nat) (hm : Nat) (qn : Nat) (qp : Nat) (qs : Nat) (qj : Nat) (ql : Nat) (qh : Nat) (qk : Nat) (qr : Nat) (qg : Nat) (qsh : Nat) (jt : Nat) (je : Nat) (ju : Nat) (ja : Nat) (m_manys : Nat) (m_reals : Nat) (m_factsOf : Nat) (m_possible : Nat) (m_tape : Nat) (m_ends : Nat) (m_letters : Nat) (m_actOf : Nat) (m_whom : Nat) (m_actMany : Nat) (m_tokens : Nat) (m_afters : Nat) (m_afterOf : Nat) (m_pile : Nat) (m_caseMany : Nat) (m_happen : Nat) (m_hasIf : Nat) (m_becomes : Nat) (m_goneOf : Nat) (m_heard : Nat) (m_pairs : Nat) (m_heaps : Nat) (m_led : Nat) (m_newAt : Nat) (m_knowing : Nat) (m_firsts : Nat) (m_secrets : Nat) (m_tried : Nat) (m_lanes : Nat) (m_lengths : Nat) (m_cells : Nat) (C : CX X room_1 cL_law 4 RL ret E) (hs : SX X bb 6 xs)  (a0 : Int32) (a1 : Int32) (a2 : Int32) (a3 : Int32) (a4 : Int32) (a5 : Int32) (ea0 : xs 0 = a0) (ea1 : xs 1 = a1) (ea2 : xs 2 = a2) (ea3 : xs 3 = a3) (ea4 : xs 4 = a4) (ea5 : xs 5 = a5) (kk : WW X 4 E 1452 [(3, .int 0), (2, .ref hm), (1, .ref hx), (0, .ref bb)] [] [] 168 11526) : WW X 4 E 1079 [(3, .int 0), (2, .ref hm), (1, .ref hx), (0, .ref bb)] [] [(hx, .inr (11, [.ref qn, .ref qp, .int 0, .int 0, .ref qs, .ref qj, .ref ql, .ref qh, .ref qk, .int 0, .ref qr, .ref qg, .int 0, .int 0, .ref qsh])), (qj, .inr (2, [.ref jt, .ref je, .ref ju, .ref ja])), (jt, .inl (E.2.1 7, 8, .inr (.inr (.inr (.inr (fun _ => none)))))), (hm, .inr (12, [.ref m_manys, .ref m_reals, .ref m_factsOf, .ref m_possible, .int 0, .int 0, .ref m_tape, .int 0, .int 0, .int 0, .int 0, .int 0, .int 0, .int 0, .int 0, .ref m_ends, .ref m_letters, .ref m_actOf, .ref m_whom, .ref m_actMany, .ref m_tokens, .ref m_afters, .ref m_afterOf, .int 0, .ref m_pile, .ref m_caseMany, .ref m_happen, .ref m_hasIf, .ref m_becomes, .ref m_goneOf, .ref m_heard, .ref m_pairs, .ref m_heaps, .int 0, .int 0, .ref m_led, .ref m_newAt, .ref m_knowing, .ref m_firsts, .int 0, .ref m_secrets, .ref m_tried, .ref m_lanes, .ref m_lengths, .ref m_cells])), (m_tokens, .inl (E.2.1 1, 9, .inl (fun _ => 0)))] 168 11526 := by
  refine ww_aload_n C dL_law_1079 2 rfl rfl ?_
  refine ww_aload_n C dL_law_1080 3 rfl rfl ?_
  refine ww_iload_n C dL_law_1081 0 rfl rfl ?_
  refine ww_iconst (v := 1) C dL_law_1082 rfl ?_
  refine ww_iadd (v := 1) C dL_law_1083 (by decide) ?_
  refine ww_sld (v := a1) C hs (vin rfl) ea1 dL_law_1084 ?_
  refine ww_aload_n C dL_law_1085 3 rfl rfl ?_
  refine ww_iload_n C dL_law_1086 0 rfl rfl ?_
  refine ww_iconst (v := 2) C dL_law_1087 rfl ?_
  refine ww_iadd (v := 2) C dL_law_1088 (by decide) ?_
  refine ww_sld (v := a2) C hs (vin rfl) ea2 dL_law_1089 ?_
  refine ww_aload_n C dL_law_1090 3 rfl rfl ?_
  refine ww_iload_n C dL_law_1091 0 rfl rfl ?_
  refine ww_iconst (v := 3) C dL_law_1092 rfl ?_
  refine ww_iadd (v := 3) C dL_law_1093 (by decide) ?_
  refine ww_sld (v := a3) C hs (vin rfl) ea3 dL_law_1094 ?_
  refine ww_ci (wr := [(hm, .inr (12, [.ref m_manys, .ref m_reals, .ref m_factsOf, .ref m_possible, .int 0, .int 0, .ref m_tape, .int 0, .int 0, .int 0, .int 0, .int 0, .int 0, .int 0, .int 0, .ref m_ends, .ref m_letters, .ref m_actOf, .ref m_whom, .ref m_actMany, .ref m_tokens, .ref m_afters, .ref m_afterOf, .int 0, .ref m_pile, .ref m_caseMany, .ref m_happen, .ref m_hasIf, .ref m_becomes, .ref m_goneOf, .ref m_heard, .ref m_pairs, .ref m_heaps, .int 0, .int 0, .ref m_led, .ref m_newAt, .ref m_knowing, .ref m_firsts, .int 0, .ref m_secrets, .ref m_tried, .ref m_lanes, .ref m_lengths, .ref m_cells])), (m_tokens, .inl (E.2.1 1, 9, .inl (fun _ => 0)))]) (k' := 168) (n' := 11526) C (run_V (As := [.int a1, .int a2, .int a3]) (rest := []) C (x_turns X.2.1 E hx a1 a2 a3 qn qp qs qj ql qh qk qr qg qsh jt je ju ja) mi_X11_turns wl_L_131 rfl 0 11 rfl rfl rfl rfl rfl dL_law_1095) [0, 1, 2] [3, 4] rfl rfl rfl rfl (fun r u hw => ?_)
  obtain ⟨rfl, rfl⟩ := hw
  refine ww_eq (ws' := [(hm, .inr (12, [.ref m_manys, .ref m_reals, .ref m_factsOf, .ref m_possible, .int 0, .int 0, .ref m_tape, .int 0, .int 0, .int 0, .int 0, .int 0, .int 0, .int 0, .int 0, .ref m_ends, .ref m_letters, .ref m_actOf, .ref m_whom, .ref m_actMany, .ref m_tokens, .ref m_afters, .ref m_afterOf, .int 0, .ref m_pile, .ref m_caseMany, .ref m_happen, .ref m_hasIf, .ref m_becomes, .ref m_goneOf, .ref m_heard, .ref m_pairs, .ref m_heaps, .int 0, .int 0, .ref m_led, .ref m_newAt, .ref m_knowing, .ref m_firsts, .int 0, .ref m_secrets, .ref m_tried, .ref m_lanes, .ref m_lengths, .ref m_cells])), (m_tokens, .inl (E.2.1 1, 9, .inl (fun _ => 0)))]) ?_ rfl rfl rfl
  refine ww_aload_n C dL_law_1098 1 rfl rfl ?_
  refine ww_aload_n C dL_law_1099 3 rfl rfl ?_
  refine ww_iload_n C dL_law_1100 0 rfl rfl ?_
  refine ww_iconst (v := 1) C dL_law_1101 rfl ?_
  refine ww_iadd (v := 1) C dL_law_1102 (by decide) ?_
  refine ww_sld (v := a1) C hs (vin rfl) ea1 dL_law_1103 ?_
  refine ww_aload_n C dL_law_1104 3 rfl rfl ?_
  refine ww_iload_n C dL_law_1105 0 rfl rfl ?_
  refine ww_iconst (v := 2) C dL_law_1106 rfl ?_
  refine ww_iadd (v := 2) C dL_law_1107 (by decide) ?_
  refine ww_sld (v := a2) C hs (vin rfl) ea2 dL_law_1108 ?_
  refine ww_aload_n C dL_law_1109 3 rfl rfl ?_
  refine ww_iload_n C dL_law_1110 0 rfl rfl ?_
  refine ww_iconst (v := 3) C dL_law_1111 rfl ?_
  refine ww_iadd (v := 3) C dL_law_1112 (by decide) ?_
  refine ww_sld (v := a3) C hs (vin rfl) ea3 dL_law_1113 ?_
  refine ww_ci (wr := []) (k' := 168) (n' := 11526) C (run_V (As := [.int a1, .int a2, .int a3]) (rest := [.int (-1)]) C (y_turns X.2.1 E hm a1 a2 a3 m_manys m_reals m_factsOf m_possible m_tape m_ends m_letters m_actOf m_whom m_actMany m_tokens m_afters m_afterOf m_pile m_caseMany m_happen m_hasIf m_becomes m_goneOf m_heard m_pairs m_heaps m_led m_newAt m_knowing m_firsts m_secrets m_tried m_lanes m_lengths m_cells) mi_X12_turns wl_L_135 rfl 0 12 rfl rfl rfl rfl rfl dL_law_1114) [0, 1] [] rfl rfl rfl rfl (fun r u hw => ?_)
  obtain ⟨rfl, rfl⟩ := hw
  refine ww_eq (ws' := []) ?_ rfl rfl rfl
  refine ww_icmp_eq_t (tgt := 1452) C dL_law_1117 (by decide) (rfl) ?_
  exact ww_sub [] rfl rfl kk
theorem dL_law_1122 : decode cL_law 1122 = .ok (.aload_n 1, 1) := by decide +kernel
theorem dL_law_1123 : decode cL_law 1123 = .ok (.aload_n 0, 1) := by decide +kernel
theorem dL_law_1124 : decode cL_law 1124 = .ok (.iload_n 3, 1) := by decide +kernel
theorem dL_law_1125 : decode cL_law 1125 = .ok (.iconst 1, 1) := by decide +kernel
theorem dL_law_1126 : decode cL_law 1126 = .ok (.iadd, 1) := by decide +kernel
theorem dL_law_1127 : decode cL_law 1127 = .ok (.iaload, 1) := by decide +kernel
theorem dL_law_1128 : decode cL_law 1128 = .ok (.aload_n 0, 1) := by decide +kernel
theorem dL_law_1129 : decode cL_law 1129 = .ok (.iload_n 3, 1) := by decide +kernel
theorem dL_law_1130 : decode cL_law 1130 = .ok (.iconst 2, 1) := by decide +kernel
theorem dL_law_1131 : decode cL_law 1131 = .ok (.iadd, 1) := by decide +kernel
theorem dL_law_1132 : decode cL_law 1132 = .ok (.iaload, 1) := by decide +kernel
theorem dL_law_1133 : decode cL_law 1133 = .ok (.aload_n 0, 1) := by decide +kernel
theorem dL_law_1134 : decode cL_law 1134 = .ok (.iload_n 3, 1) := by decide +kernel
theorem dL_law_1135 : decode cL_law 1135 = .ok (.iconst 3, 1) := by decide +kernel
theorem dL_law_1136 : decode cL_law 1136 = .ok (.iadd, 1) := by decide +kernel
theorem dL_law_1137 : decode cL_law 1137 = .ok (.iaload, 1) := by decide +kernel
theorem dL_law_1138 : decode cL_law 1138 = .ok (.aload_n 0, 1) := by decide +kernel
theorem dL_law_1139 : decode cL_law 1139 = .ok (.iload_n 3, 1) := by decide +kernel
theorem dL_law_1140 : decode cL_law 1140 = .ok (.iconst 4, 1) := by decide +kernel
theorem dL_law_1141 : decode cL_law 1141 = .ok (.iadd, 1) := by decide +kernel
theorem dL_law_1142 : decode cL_law 1142 = .ok (.iaload, 1) := by decide +kernel
theorem dL_law_1143 : decode cL_law 1143 = .ok (.invokevirtual 136, 3) := by decide +kernel
theorem wl_L_136 : Cond.methodLink RL 136 yX11_plan ∈ TB := tbm (tq4 (List.mem_of_getElem? (i := 218) (by decide +kernel))) (by decide +kernel)
theorem wc_X11_plan : Cond.code yX11_plan cX11_plan 6 (some .int) ∈ TB := tbm (tq4 (List.mem_of_getElem? (i := 221) (rfl))) (by decide +kernel)
theorem wi_X11_plan : Cond.instanceMethod yX11_plan ∈ TB := tbm (tq4 (List.mem_of_getElem? (i := 219) (by decide +kernel))) (by decide +kernel)
theorem ws_X11_plan : Cond.selects RX11 yX11_plan yX11_plan ∈ TB := tbm (tq4 (List.mem_of_getElem? (i := 220) (by decide +kernel))) (by decide +kernel)
theorem mi_X11_plan : MI yX11_plan cX11_plan 6 (some .int) 4 := ⟨wc_X11_plan, wn_X11, ⟨by decide +kernel, by decide +kernel, by decide +kernel⟩, wi_X11_plan, ws_X11_plan⟩
theorem dL_law_1146 : decode cL_law 1146 = .ok (.aload_n 2, 1) := by decide +kernel
theorem dL_law_1147 : decode cL_law 1147 = .ok (.aload_n 0, 1) := by decide +kernel
theorem dL_law_1148 : decode cL_law 1148 = .ok (.iload_n 3, 1) := by decide +kernel
theorem dL_law_1149 : decode cL_law 1149 = .ok (.iconst 1, 1) := by decide +kernel
theorem dL_law_1150 : decode cL_law 1150 = .ok (.iadd, 1) := by decide +kernel
theorem dL_law_1151 : decode cL_law 1151 = .ok (.iaload, 1) := by decide +kernel
theorem dL_law_1152 : decode cL_law 1152 = .ok (.aload_n 0, 1) := by decide +kernel
theorem dL_law_1153 : decode cL_law 1153 = .ok (.iload_n 3, 1) := by decide +kernel
theorem dL_law_1154 : decode cL_law 1154 = .ok (.iconst 2, 1) := by decide +kernel
theorem dL_law_1155 : decode cL_law 1155 = .ok (.iadd, 1) := by decide +kernel
theorem dL_law_1156 : decode cL_law 1156 = .ok (.iaload, 1) := by decide +kernel
theorem dL_law_1157 : decode cL_law 1157 = .ok (.aload_n 0, 1) := by decide +kernel
theorem dL_law_1158 : decode cL_law 1158 = .ok (.iload_n 3, 1) := by decide +kernel
theorem dL_law_1159 : decode cL_law 1159 = .ok (.iconst 3, 1) := by decide +kernel
theorem dL_law_1160 : decode cL_law 1160 = .ok (.iadd, 1) := by decide +kernel
theorem dL_law_1161 : decode cL_law 1161 = .ok (.iaload, 1) := by decide +kernel
theorem dL_law_1162 : decode cL_law 1162 = .ok (.aload_n 0, 1) := by decide +kernel
theorem dL_law_1163 : decode cL_law 1163 = .ok (.iload_n 3, 1) := by decide +kernel
theorem dL_law_1164 : decode cL_law 1164 = .ok (.iconst 4, 1) := by decide +kernel
theorem dL_law_1165 : decode cL_law 1165 = .ok (.iadd, 1) := by decide +kernel
theorem dL_law_1166 : decode cL_law 1166 = .ok (.iaload, 1) := by decide +kernel
theorem dL_law_1167 : decode cL_law 1167 = .ok (.invokevirtual 139, 3) := by decide +kernel
theorem wl_L_139 : Cond.methodLink RL 139 yX12_plan ∈ TB := tbm (tq7 (List.mem_of_getElem? (i := 44) (by decide +kernel))) (by decide +kernel)
theorem wc_X12_plan : Cond.code yX12_plan cX12_plan 9 (some .int) ∈ TB := tbm (tq7 (List.mem_of_getElem? (i := 47) (rfl))) (by decide +kernel)
theorem wi_X12_plan : Cond.instanceMethod yX12_plan ∈ TB := tbm (tq7 (List.mem_of_getElem? (i := 45) (by decide +kernel))) (by decide +kernel)
theorem ws_X12_plan : Cond.selects RX12 yX12_plan yX12_plan ∈ TB := tbm (tq7 (List.mem_of_getElem? (i := 46) (by decide +kernel))) (by decide +kernel)
theorem mi_X12_plan : MI yX12_plan cX12_plan 9 (some .int) 4 := ⟨wc_X12_plan, wn_X12, ⟨by decide +kernel, by decide +kernel, by decide +kernel⟩, wi_X12_plan, ws_X12_plan⟩
theorem dL_law_1170 : decode cL_law 1170 = .ok (.if_icmp .eq 282, 3) := by decide +kernel
set_option maxRecDepth 100000 in
set_option maxHeartbeats 4000000 in
theorem lawc_plan {X : XT} {E : EV} {xs : Nat → Int32} (bb : Nat) (hx : Nat) (hm : Nat) (qn : Nat) (qp : Nat) (qs : Nat) (qj : Nat) (ql : Nat) (qh : Nat) (qk : Nat) (qr : Nat) (qg : Nat) (qsh : Nat) (jt : Nat) (je : Nat) (ju : Nat) (ja : Nat) (m_manys : Nat) (m_reals : Nat) (m_factsOf : Nat) (m_possible : Nat) (m_tape : Nat) (m_ends : Nat) (m_letters : Nat) (m_actOf : Nat) (m_whom : Nat) (m_actMany : Nat) (m_tokens : Nat) (m_afters : Nat) (m_afterOf : Nat) (m_pile : Nat) (m_caseMany : Nat) (m_happen : Nat) (m_hasIf : Nat) (m_becomes : Nat) (m_goneOf : Nat) (m_heard : Nat) (m_pairs : Nat) (m_heaps : Nat) (m_led : Nat) (m_newAt : Nat) (m_knowing : Nat) (m_firsts : Nat) (m_secrets : Nat) (m_tried : Nat) (m_lanes : Nat) (m_lengths : Nat) (m_cells : Nat) (C : CX X room_1 cL_law 4 RL ret E) (hs : SX X bb 6 xs)  (a0 : Int32) (a1 : Int32) (a2 : Int32) (a3 : Int32) (a4 : Int32) (a5 : Int32) (ea0 : xs 0 = a0) (ea1 : xs 1 = a1) (ea2 : xs 2 = a2) (ea3 : xs 3 = a3) (ea4 : xs 4 = a4) (ea5 : xs 5 = a5) (kk : WW X 4 E 1452 [(3, .int 0), (2, .ref hm), (1, .ref hx), (0, .ref bb)] [] [] 168 11526) : WW X 4 E 1122 [(3, .int 0), (2, .ref hm), (1, .ref hx), (0, .ref bb)] [] [(hx, .inr (11, [.ref qn, .ref qp, .int 0, .int 0, .ref qs, .ref qj, .ref ql, .ref qh, .ref qk, .int 0, .ref qr, .ref qg, .int 0, .int 0, .ref qsh])), (qj, .inr (2, [.ref jt, .ref je, .ref ju, .ref ja])), (jt, .inl (E.2.1 7, 8, .inr (.inr (.inr (.inr (fun _ => none)))))), (hm, .inr (12, [.ref m_manys, .ref m_reals, .ref m_factsOf, .ref m_possible, .int 0, .int 0, .ref m_tape, .int 0, .int 0, .int 0, .int 0, .int 0, .int 0, .int 0, .int 0, .ref m_ends, .ref m_letters, .ref m_actOf, .ref m_whom, .ref m_actMany, .ref m_tokens, .ref m_afters, .ref m_afterOf, .int 0, .ref m_pile, .ref m_caseMany, .ref m_happen, .ref m_hasIf, .ref m_becomes, .ref m_goneOf, .ref m_heard, .ref m_pairs, .ref m_heaps, .int 0, .int 0, .ref m_led, .ref m_newAt, .ref m_knowing, .ref m_firsts, .int 0, .ref m_secrets, .ref m_tried, .ref m_lanes, .ref m_lengths, .ref m_cells])), (m_tokens, .inl (E.2.1 1, 9, .inl (fun _ => 0)))] 168 11526 := by
  refine ww_aload_n C dL_law_1122 2 rfl rfl ?_
  refine ww_aload_n C dL_law_1123 3 rfl rfl ?_
  refine ww_iload_n C dL_law_1124 0 rfl rfl ?_
  refine ww_iconst (v := 1) C dL_law_1125 rfl ?_
  refine ww_iadd (v := 1) C dL_law_1126 (by decide) ?_
  refine ww_sld (v := a1) C hs (vin rfl) ea1 dL_law_1127 ?_
  refine ww_aload_n C dL_law_1128 3 rfl rfl ?_
  refine ww_iload_n C dL_law_1129 0 rfl rfl ?_
  refine ww_iconst (v := 2) C dL_law_1130 rfl ?_
  refine ww_iadd (v := 2) C dL_law_1131 (by decide) ?_
  refine ww_sld (v := a2) C hs (vin rfl) ea2 dL_law_1132 ?_
  refine ww_aload_n C dL_law_1133 3 rfl rfl ?_
  refine ww_iload_n C dL_law_1134 0 rfl rfl ?_
  refine ww_iconst (v := 3) C dL_law_1135 rfl ?_
  refine ww_iadd (v := 3) C dL_law_1136 (by decide) ?_
  refine ww_sld (v := a3) C hs (vin rfl) ea3 dL_law_1137 ?_
  refine ww_aload_n C dL_law_1138 3 rfl rfl ?_
  refine ww_iload_n C dL_law_1139 0 rfl rfl ?_
  refine ww_iconst (v := 4) C dL_law_1140 rfl ?_
  refine ww_iadd (v := 4) C dL_law_1141 (by decide) ?_
  refine ww_sld (v := a4) C hs (vin rfl) ea4 dL_law_1142 ?_
  refine ww_ci (wr := [(hm, .inr (12, [.ref m_manys, .ref m_reals, .ref m_factsOf, .ref m_possible, .int 0, .int 0, .ref m_tape, .int 0, .int 0, .int 0, .int 0, .int 0, .int 0, .int 0, .int 0, .ref m_ends, .ref m_letters, .ref m_actOf, .ref m_whom, .ref m_actMany, .ref m_tokens, .ref m_afters, .ref m_afterOf, .int 0, .ref m_pile, .ref m_caseMany, .ref m_happen, .ref m_hasIf, .ref m_becomes, .ref m_goneOf, .ref m_heard, .ref m_pairs, .ref m_heaps, .int 0, .int 0, .ref m_led, .ref m_newAt, .ref m_knowing, .ref m_firsts, .int 0, .ref m_secrets, .ref m_tried, .ref m_lanes, .ref m_lengths, .ref m_cells])), (m_tokens, .inl (E.2.1 1, 9, .inl (fun _ => 0)))]) (k' := 168) (n' := 11526) C (run_V (As := [.int a1, .int a2, .int a3, .int a4]) (rest := []) C (x_plan X.2.1 E hx a1 a2 a3 a4 qn qp qs qj ql qh qk qr qg qsh jt je ju ja) mi_X11_plan wl_L_136 rfl 0 11 rfl rfl rfl rfl rfl dL_law_1143) [0, 1, 2] [3, 4] rfl rfl rfl rfl (fun r u hw => ?_)
  obtain ⟨rfl, rfl⟩ := hw
  refine ww_eq (ws' := [(hm, .inr (12, [.ref m_manys, .ref m_reals, .ref m_factsOf, .ref m_possible, .int 0, .int 0, .ref m_tape, .int 0, .int 0, .int 0, .int 0, .int 0, .int 0, .int 0, .int 0, .ref m_ends, .ref m_letters, .ref m_actOf, .ref m_whom, .ref m_actMany, .ref m_tokens, .ref m_afters, .ref m_afterOf, .int 0, .ref m_pile, .ref m_caseMany, .ref m_happen, .ref m_hasIf, .ref m_becomes, .ref m_goneOf, .ref m_heard, .ref m_pairs, .ref m_heaps, .int 0, .int 0, .ref m_led, .ref m_newAt, .ref m_knowing, .ref m_firsts, .int 0, .ref m_secrets, .ref m_tried, .ref m_lanes, .ref m_lengths, .ref m_cells])), (m_tokens, .inl (E.2.1 1, 9, .inl (fun _ => 0)))]) ?_ rfl rfl rfl
  refine ww_aload_n C dL_law_1146 1 rfl rfl ?_
  refine ww_aload_n C dL_law_1147 3 rfl rfl ?_
  refine ww_iload_n C dL_law_1148 0 rfl rfl ?_
  refine ww_iconst (v := 1) C dL_law_1149 rfl ?_
  refine ww_iadd (v := 1) C dL_law_1150 (by decide) ?_
  refine ww_sld (v := a1) C hs (vin rfl) ea1 dL_law_1151 ?_
  refine ww_aload_n C dL_law_1152 3 rfl rfl ?_
  refine ww_iload_n C dL_law_1153 0 rfl rfl ?_
  refine ww_iconst (v := 2) C dL_law_1154 rfl ?_
  refine ww_iadd (v := 2) C dL_law_1155 (by decide) ?_
  refine ww_sld (v := a2) C hs (vin rfl) ea2 dL_law_1156 ?_
  refine ww_aload_n C dL_law_1157 3 rfl rfl ?_
  refine ww_iload_n C dL_law_1158 0 rfl rfl ?_
  refine ww_iconst (v := 3) C dL_law_1159 rfl ?_
  refine ww_iadd (v := 3) C dL_law_1160 (by decide) ?_
  refine ww_sld (v := a3) C hs (vin rfl) ea3 dL_law_1161 ?_
  refine ww_aload_n C dL_law_1162 3 rfl rfl ?_
  refine ww_iload_n C dL_law_1163 0 rfl rfl ?_
  refine ww_iconst (v := 4) C dL_law_1164 rfl ?_
  refine ww_iadd (v := 4) C dL_law_1165 (by decide) ?_
  refine ww_sld (v := a4) C hs (vin rfl) ea4 dL_law_1166 ?_
  refine ww_ci (wr := []) (k' := 168) (n' := 11526) C (run_V (As := [.int a1, .int a2, .int a3, .int a4]) (rest := [.int (-1)]) C (y_plan X.2.1 E hm a1 a2 a3 a4 m_manys m_reals m_factsOf m_possible m_tape m_ends m_letters m_actOf m_whom m_actMany m_tokens m_afters m_afterOf m_pile m_caseMany m_happen m_hasIf m_becomes m_goneOf m_heard m_pairs m_heaps m_led m_newAt m_knowing m_firsts m_secrets m_tried m_lanes m_lengths m_cells) mi_X12_plan wl_L_139 rfl 0 12 rfl rfl rfl rfl rfl dL_law_1167) [0, 1] [] rfl rfl rfl rfl (fun r u hw => ?_)
  obtain ⟨rfl, rfl⟩ := hw
  refine ww_eq (ws' := []) ?_ rfl rfl rfl
  refine ww_icmp_eq_t (tgt := 1452) C dL_law_1170 (by decide) (rfl) ?_
  exact ww_sub [] rfl rfl kk
theorem dL_law_1175 : decode cL_law 1175 = .ok (.aload_n 1, 1) := by decide +kernel
theorem dL_law_1176 : decode cL_law 1176 = .ok (.aload_n 0, 1) := by decide +kernel
theorem dL_law_1177 : decode cL_law 1177 = .ok (.iload_n 3, 1) := by decide +kernel
theorem dL_law_1178 : decode cL_law 1178 = .ok (.iconst 1, 1) := by decide +kernel
theorem dL_law_1179 : decode cL_law 1179 = .ok (.iadd, 1) := by decide +kernel
theorem dL_law_1180 : decode cL_law 1180 = .ok (.iaload, 1) := by decide +kernel
theorem dL_law_1181 : decode cL_law 1181 = .ok (.invokevirtual 140, 3) := by decide +kernel
theorem wl_L_140 : Cond.methodLink RL 140 yX11_people ∈ TB := tbm (tq4 (List.mem_of_getElem? (i := 234) (by decide +kernel))) (by decide +kernel)
theorem wc_X11_people : Cond.code yX11_people cX11_people 3 (some .int) ∈ TB := tbm (tq4 (List.mem_of_getElem? (i := 237) (rfl))) (by decide +kernel)
theorem wi_X11_people : Cond.instanceMethod yX11_people ∈ TB := tbm (tq4 (List.mem_of_getElem? (i := 235) (by decide +kernel))) (by decide +kernel)
theorem ws_X11_people : Cond.selects RX11 yX11_people yX11_people ∈ TB := tbm (tq4 (List.mem_of_getElem? (i := 236) (by decide +kernel))) (by decide +kernel)
theorem mi_X11_people : MI yX11_people cX11_people 3 (some .int) 1 := ⟨wc_X11_people, wn_X11, ⟨by decide +kernel, by decide +kernel, by decide +kernel⟩, wi_X11_people, ws_X11_people⟩
theorem dL_law_1184 : decode cL_law 1184 = .ok (.aload_n 2, 1) := by decide +kernel
theorem dL_law_1185 : decode cL_law 1185 = .ok (.aload_n 0, 1) := by decide +kernel
theorem dL_law_1186 : decode cL_law 1186 = .ok (.iload_n 3, 1) := by decide +kernel
theorem dL_law_1187 : decode cL_law 1187 = .ok (.iconst 1, 1) := by decide +kernel
theorem dL_law_1188 : decode cL_law 1188 = .ok (.iadd, 1) := by decide +kernel
theorem dL_law_1189 : decode cL_law 1189 = .ok (.iaload, 1) := by decide +kernel
theorem dL_law_1190 : decode cL_law 1190 = .ok (.invokevirtual 143, 3) := by decide +kernel
theorem wl_L_143 : Cond.methodLink RL 143 yX12_people ∈ TB := tbm (tq7 (List.mem_of_getElem? (i := 52) (by decide +kernel))) (by decide +kernel)
theorem wc_X12_people : Cond.code yX12_people cX12_people 3 (some .int) ∈ TB := tbm (tq7 (List.mem_of_getElem? (i := 55) (rfl))) (by decide +kernel)
theorem wi_X12_people : Cond.instanceMethod yX12_people ∈ TB := tbm (tq7 (List.mem_of_getElem? (i := 53) (by decide +kernel))) (by decide +kernel)
theorem ws_X12_people : Cond.selects RX12 yX12_people yX12_people ∈ TB := tbm (tq7 (List.mem_of_getElem? (i := 54) (by decide +kernel))) (by decide +kernel)
theorem mi_X12_people : MI yX12_people cX12_people 3 (some .int) 1 := ⟨wc_X12_people, wn_X12, ⟨by decide +kernel, by decide +kernel, by decide +kernel⟩, wi_X12_people, ws_X12_people⟩
theorem dL_law_1193 : decode cL_law 1193 = .ok (.if_icmp .eq 259, 3) := by decide +kernel
set_option maxRecDepth 100000 in
set_option maxHeartbeats 4000000 in
theorem lawc_people {X : XT} {E : EV} {xs : Nat → Int32} (bb : Nat) (hx : Nat) (hm : Nat) (qn : Nat) (qp : Nat) (qs : Nat) (qj : Nat) (ql : Nat) (qh : Nat) (qk : Nat) (qr : Nat) (qg : Nat) (qsh : Nat) (m_manys : Nat) (m_reals : Nat) (m_factsOf : Nat) (m_possible : Nat) (m_tape : Nat) (m_ends : Nat) (m_letters : Nat) (m_actOf : Nat) (m_whom : Nat) (m_actMany : Nat) (m_tokens : Nat) (m_afters : Nat) (m_afterOf : Nat) (m_pile : Nat) (m_caseMany : Nat) (m_happen : Nat) (m_hasIf : Nat) (m_becomes : Nat) (m_goneOf : Nat) (m_heard : Nat) (m_pairs : Nat) (m_heaps : Nat) (m_led : Nat) (m_newAt : Nat) (m_knowing : Nat) (m_firsts : Nat) (m_secrets : Nat) (m_tried : Nat) (m_lanes : Nat) (m_lengths : Nat) (m_cells : Nat) (C : CX X room_1 cL_law 4 RL ret E) (hs : SX X bb 6 xs)  (a0 : Int32) (a1 : Int32) (a2 : Int32) (a3 : Int32) (a4 : Int32) (a5 : Int32) (ea0 : xs 0 = a0) (ea1 : xs 1 = a1) (ea2 : xs 2 = a2) (ea3 : xs 3 = a3) (ea4 : xs 4 = a4) (ea5 : xs 5 = a5) (kk : WW X 4 E 1452 [(3, .int 0), (2, .ref hm), (1, .ref hx), (0, .ref bb)] [] [] 168 11526) : WW X 4 E 1175 [(3, .int 0), (2, .ref hm), (1, .ref hx), (0, .ref bb)] [] [(hx, .inr (11, [.ref qn, .ref qp, .int 0, .int 0, .ref qs, .ref qj, .ref ql, .ref qh, .ref qk, .int 0, .ref qr, .ref qg, .int 0, .int 0, .ref qsh])), (hm, .inr (12, [.ref m_manys, .ref m_reals, .ref m_factsOf, .ref m_possible, .int 0, .int 0, .ref m_tape, .int 0, .int 0, .int 0, .int 0, .int 0, .int 0, .int 0, .int 0, .ref m_ends, .ref m_letters, .ref m_actOf, .ref m_whom, .ref m_actMany, .ref m_tokens, .ref m_afters, .ref m_afterOf, .int 0, .ref m_pile, .ref m_caseMany, .ref m_happen, .ref m_hasIf, .ref m_becomes, .ref m_goneOf, .ref m_heard, .ref m_pairs, .ref m_heaps, .int 0, .int 0, .ref m_led, .ref m_newAt, .ref m_knowing, .ref m_firsts, .int 0, .ref m_secrets, .ref m_tried, .ref m_lanes, .ref m_lengths, .ref m_cells])), (m_secrets, .inl (E.2.1 1, 4, .inl (fun _ => 0)))] 168 11526 := by
  refine ww_aload_n C dL_law_1175 2 rfl rfl ?_
  refine ww_aload_n C dL_law_1176 3 rfl rfl ?_
  refine ww_iload_n C dL_law_1177 0 rfl rfl ?_
  refine ww_iconst (v := 1) C dL_law_1178 rfl ?_
  refine ww_iadd (v := 1) C dL_law_1179 (by decide) ?_
  refine ww_sld (v := a1) C hs (vin rfl) ea1 dL_law_1180 ?_
  refine ww_ci (wr := [(hm, .inr (12, [.ref m_manys, .ref m_reals, .ref m_factsOf, .ref m_possible, .int 0, .int 0, .ref m_tape, .int 0, .int 0, .int 0, .int 0, .int 0, .int 0, .int 0, .int 0, .ref m_ends, .ref m_letters, .ref m_actOf, .ref m_whom, .ref m_actMany, .ref m_tokens, .ref m_afters, .ref m_afterOf, .int 0, .ref m_pile, .ref m_caseMany, .ref m_happen, .ref m_hasIf, .ref m_becomes, .ref m_goneOf, .ref m_heard, .ref m_pairs, .ref m_heaps, .int 0, .int 0, .ref m_led, .ref m_newAt, .ref m_knowing, .ref m_firsts, .int 0, .ref m_secrets, .ref m_tried, .ref m_lanes, .ref m_lengths, .ref m_cells])), (m_secrets, .inl (E.2.1 1, 4, .inl (fun _ => 0)))]) (k' := 168) (n' := 11526) C (run_V (As := [.int a1]) (rest := []) C (x_people X.2.1 E hx a1 qn qp qs qj ql qh qk qr qg qsh) mi_X11_people wl_L_140 rfl 0 11 rfl rfl rfl rfl rfl dL_law_1181) [0] [1, 2] rfl rfl rfl rfl (fun r u hw => ?_)
  rcases hw with ⟨rfl, rfl, h_1⟩ | ⟨rfl, rfl, h_2⟩ | ⟨rfl, rfl, h_3⟩ | ⟨rfl, rfl, h_4⟩
  · refine ww_eq (ws' := [(hm, .inr (12, [.ref m_manys, .ref m_reals, .ref m_factsOf, .ref m_possible, .int 0, .int 0, .ref m_tape, .int 0, .int 0, .int 0, .int 0, .int 0, .int 0, .int 0, .int 0, .ref m_ends, .ref m_letters, .ref m_actOf, .ref m_whom, .ref m_actMany, .ref m_tokens, .ref m_afters, .ref m_afterOf, .int 0, .ref m_pile, .ref m_caseMany, .ref m_happen, .ref m_hasIf, .ref m_becomes, .ref m_goneOf, .ref m_heard, .ref m_pairs, .ref m_heaps, .int 0, .int 0, .ref m_led, .ref m_newAt, .ref m_knowing, .ref m_firsts, .int 0, .ref m_secrets, .ref m_tried, .ref m_lanes, .ref m_lengths, .ref m_cells])), (m_secrets, .inl (E.2.1 1, 4, .inl (fun _ => 0)))]) ?_ rfl rfl rfl
    refine ww_aload_n C dL_law_1184 1 rfl rfl ?_
    refine ww_aload_n C dL_law_1185 3 rfl rfl ?_
    refine ww_iload_n C dL_law_1186 0 rfl rfl ?_
    refine ww_iconst (v := 1) C dL_law_1187 rfl ?_
    refine ww_iadd (v := 1) C dL_law_1188 (by decide) ?_
    refine ww_sld (v := a1) C hs (vin rfl) ea1 dL_law_1189 ?_
    refine ww_ci (wr := []) (k' := 168) (n' := 11526) C (run_V (As := [.int a1]) (rest := [.int (-1)]) C (y_people X.2.1 E hm a1 m_manys m_reals m_factsOf m_possible m_tape m_ends m_letters m_actOf m_whom m_actMany m_tokens m_afters m_afterOf m_pile m_caseMany m_happen m_hasIf m_becomes m_goneOf m_heard m_pairs m_heaps m_led m_newAt m_knowing m_firsts m_secrets m_tried m_lanes m_lengths m_cells) mi_X12_people wl_L_143 rfl 0 12 rfl rfl rfl rfl rfl dL_law_1190) [0, 1] [] rfl rfl rfl rfl (fun r u hw => ?_)
    rcases hw with ⟨rfl, rfl, h_5⟩ | ⟨rfl, rfl, h_6⟩ | ⟨rfl, rfl, h_7⟩ | ⟨rfl, rfl, h_8⟩
    · refine ww_eq (ws' := []) ?_ rfl rfl rfl
      refine ww_icmp_eq_t (tgt := 1452) C dL_law_1193 (by decide) (rfl) ?_
      exact ww_sub [] rfl rfl kk
    · refine ww_eq (ws' := []) ?_ rfl rfl rfl
      omega
    · refine ww_eq (ws' := []) ?_ rfl rfl rfl
      omega
    · refine ww_eq (ws' := []) ?_ rfl rfl rfl
      omega
  · refine ww_eq (ws' := [(hm, .inr (12, [.ref m_manys, .ref m_reals, .ref m_factsOf, .ref m_possible, .int 0, .int 0, .ref m_tape, .int 0, .int 0, .int 0, .int 0, .int 0, .int 0, .int 0, .int 0, .ref m_ends, .ref m_letters, .ref m_actOf, .ref m_whom, .ref m_actMany, .ref m_tokens, .ref m_afters, .ref m_afterOf, .int 0, .ref m_pile, .ref m_caseMany, .ref m_happen, .ref m_hasIf, .ref m_becomes, .ref m_goneOf, .ref m_heard, .ref m_pairs, .ref m_heaps, .int 0, .int 0, .ref m_led, .ref m_newAt, .ref m_knowing, .ref m_firsts, .int 0, .ref m_secrets, .ref m_tried, .ref m_lanes, .ref m_lengths, .ref m_cells])), (m_secrets, .inl (E.2.1 1, 4, .inl (fun _ => 0)))]) ?_ rfl rfl rfl
    refine ww_aload_n C dL_law_1184 1 rfl rfl ?_
    refine ww_aload_n C dL_law_1185 3 rfl rfl ?_
    refine ww_iload_n C dL_law_1186 0 rfl rfl ?_
    refine ww_iconst (v := 1) C dL_law_1187 rfl ?_
    refine ww_iadd (v := 1) C dL_law_1188 (by decide) ?_
    refine ww_sld (v := a1) C hs (vin rfl) ea1 dL_law_1189 ?_
    refine ww_ci (wr := []) (k' := 168) (n' := 11526) C (run_V (As := [.int a1]) (rest := [.int 2]) C (y_people X.2.1 E hm a1 m_manys m_reals m_factsOf m_possible m_tape m_ends m_letters m_actOf m_whom m_actMany m_tokens m_afters m_afterOf m_pile m_caseMany m_happen m_hasIf m_becomes m_goneOf m_heard m_pairs m_heaps m_led m_newAt m_knowing m_firsts m_secrets m_tried m_lanes m_lengths m_cells) mi_X12_people wl_L_143 rfl 0 12 rfl rfl rfl rfl rfl dL_law_1190) [0, 1] [] rfl rfl rfl rfl (fun r u hw => ?_)
    rcases hw with ⟨rfl, rfl, h_9⟩ | ⟨rfl, rfl, h_10⟩ | ⟨rfl, rfl, h_11⟩ | ⟨rfl, rfl, h_12⟩
    · refine ww_eq (ws' := []) ?_ rfl rfl rfl
      omega
    · refine ww_eq (ws' := []) ?_ rfl rfl rfl
      refine ww_icmp_eq_t (tgt := 1452) C dL_law_1193 (by decide) (rfl) ?_
      exact ww_sub [] rfl rfl kk
    · refine ww_eq (ws' := []) ?_ rfl rfl rfl
      omega
    · refine ww_eq (ws' := []) ?_ rfl rfl rfl
      omega
  · refine ww_eq (ws' := [(hm, .inr (12, [.ref m_manys, .ref m_reals, .ref m_factsOf, .ref m_possible, .int 0, .int 0, .ref m_tape, .int 0, .int 0, .int 0, .int 0, .int 0, .int 0, .int 0, .int 0, .ref m_ends, .ref m_letters, .ref m_actOf, .ref m_whom, .ref m_actMany, .ref m_tokens, .ref m_afters, .ref m_afterOf, .int 0, .ref m_pile, .ref m_caseMany, .ref m_happen, .ref m_hasIf, .ref m_becomes, .ref m_goneOf, .ref m_heard, .ref m_pairs, .ref m_heaps, .int 0, .int 0, .ref m_led, .ref m_newAt, .ref m_knowing, .ref m_firsts, .int 0, .ref m_secrets, .ref m_tried, .ref m_lanes, .ref m_lengths, .ref m_cells])), (m_secrets, .inl (E.2.1 1, 4, .inl (fun _ => 0)))]) ?_ rfl rfl rfl
    refine ww_aload_n C dL_law_1184 1 rfl rfl ?_
    refine ww_aload_n C dL_law_1185 3 rfl rfl ?_
    refine ww_iload_n C dL_law_1186 0 rfl rfl ?_
    refine ww_iconst (v := 1) C dL_law_1187 rfl ?_
    refine ww_iadd (v := 1) C dL_law_1188 (by decide) ?_
    refine ww_sld (v := a1) C hs (vin rfl) ea1 dL_law_1189 ?_
    refine ww_ci (wr := []) (k' := 168) (n' := 11526) C (run_V (As := [.int a1]) (rest := [.int 3]) C (y_people X.2.1 E hm a1 m_manys m_reals m_factsOf m_possible m_tape m_ends m_letters m_actOf m_whom m_actMany m_tokens m_afters m_afterOf m_pile m_caseMany m_happen m_hasIf m_becomes m_goneOf m_heard m_pairs m_heaps m_led m_newAt m_knowing m_firsts m_secrets m_tried m_lanes m_lengths m_cells) mi_X12_people wl_L_143 rfl 0 12 rfl rfl rfl rfl rfl dL_law_1190) [0, 1] [] rfl rfl rfl rfl (fun r u hw => ?_)
    rcases hw with ⟨rfl, rfl, h_13⟩ | ⟨rfl, rfl, h_14⟩ | ⟨rfl, rfl, h_15⟩ | ⟨rfl, rfl, h_16⟩
    · refine ww_eq (ws' := []) ?_ rfl rfl rfl
      omega
    · refine ww_eq (ws' := []) ?_ rfl rfl rfl
      omega
    · refine ww_eq (ws' := []) ?_ rfl rfl rfl
      refine ww_icmp_eq_t (tgt := 1452) C dL_law_1193 (by decide) (rfl) ?_
      exact ww_sub [] rfl rfl kk
    · refine ww_eq (ws' := []) ?_ rfl rfl rfl
      omega
  · refine ww_eq (ws' := [(hm, .inr (12, [.ref m_manys, .ref m_reals, .ref m_factsOf, .ref m_possible, .int 0, .int 0, .ref m_tape, .int 0, .int 0, .int 0, .int 0, .int 0, .int 0, .int 0, .int 0, .ref m_ends, .ref m_letters, .ref m_actOf, .ref m_whom, .ref m_actMany, .ref m_tokens, .ref m_afters, .ref m_afterOf, .int 0, .ref m_pile, .ref m_caseMany, .ref m_happen, .ref m_hasIf, .ref m_becomes, .ref m_goneOf, .ref m_heard, .ref m_pairs, .ref m_heaps, .int 0, .int 0, .ref m_led, .ref m_newAt, .ref m_knowing, .ref m_firsts, .int 0, .ref m_secrets, .ref m_tried, .ref m_lanes, .ref m_lengths, .ref m_cells])), (m_secrets, .inl (E.2.1 1, 4, .inl (fun _ => 0)))]) ?_ rfl rfl rfl
    refine ww_aload_n C dL_law_1184 1 rfl rfl ?_
    refine ww_aload_n C dL_law_1185 3 rfl rfl ?_
    refine ww_iload_n C dL_law_1186 0 rfl rfl ?_
    refine ww_iconst (v := 1) C dL_law_1187 rfl ?_
    refine ww_iadd (v := 1) C dL_law_1188 (by decide) ?_
    refine ww_sld (v := a1) C hs (vin rfl) ea1 dL_law_1189 ?_
    refine ww_ci (wr := []) (k' := 168) (n' := 11526) C (run_V (As := [.int a1]) (rest := [.int 4]) C (y_people X.2.1 E hm a1 m_manys m_reals m_factsOf m_possible m_tape m_ends m_letters m_actOf m_whom m_actMany m_tokens m_afters m_afterOf m_pile m_caseMany m_happen m_hasIf m_becomes m_goneOf m_heard m_pairs m_heaps m_led m_newAt m_knowing m_firsts m_secrets m_tried m_lanes m_lengths m_cells) mi_X12_people wl_L_143 rfl 0 12 rfl rfl rfl rfl rfl dL_law_1190) [0, 1] [] rfl rfl rfl rfl (fun r u hw => ?_)
    rcases hw with ⟨rfl, rfl, h_17⟩ | ⟨rfl, rfl, h_18⟩ | ⟨rfl, rfl, h_19⟩ | ⟨rfl, rfl, h_20⟩
    · refine ww_eq (ws' := []) ?_ rfl rfl rfl
      omega
    · refine ww_eq (ws' := []) ?_ rfl rfl rfl
      omega
    · refine ww_eq (ws' := []) ?_ rfl rfl rfl
      omega
    · refine ww_eq (ws' := []) ?_ rfl rfl rfl
      refine ww_icmp_eq_t (tgt := 1452) C dL_law_1193 (by decide) (rfl) ?_
      exact ww_sub [] rfl rfl kk
theorem dL_law_1198 : decode cL_law 1198 = .ok (.aload_n 1, 1) := by decide +kernel
theorem dL_law_1199 : decode cL_law 1199 = .ok (.aload_n 0, 1) := by decide +kernel
theorem dL_law_1200 : decode cL_law 1200 = .ok (.iload_n 3, 1) := by decide +kernel
theorem dL_law_1201 : decode cL_law 1201 = .ok (.iconst 1, 1) := by decide +kernel
theorem dL_law_1202 : decode cL_law 1202 = .ok (.iadd, 1) := by decide +kernel
theorem dL_law_1203 : decode cL_law 1203 = .ok (.iaload, 1) := by decide +kernel
theorem dL_law_1204 : decode cL_law 1204 = .ok (.aload_n 0, 1) := by decide +kernel
theorem dL_law_1205 : decode cL_law 1205 = .ok (.iload_n 3, 1) := by decide +kernel
theorem dL_law_1206 : decode cL_law 1206 = .ok (.iconst 2, 1) := by decide +kernel
theorem dL_law_1207 : decode cL_law 1207 = .ok (.iadd, 1) := by decide +kernel
theorem dL_law_1208 : decode cL_law 1208 = .ok (.iaload, 1) := by decide +kernel
theorem dL_law_1209 : decode cL_law 1209 = .ok (.invokevirtual 144, 3) := by decide +kernel
theorem wl_L_144 : Cond.methodLink RL 144 yX11_call ∈ TB := tbm (tq4 (List.mem_of_getElem? (i := 238) (by decide +kernel))) (by decide +kernel)
theorem wc_X11_call : Cond.code yX11_call cX11_call 3 (some .int) ∈ TB := tbm (tq5 (List.mem_of_getElem? (i := 1) (rfl))) (by decide +kernel)
theorem wi_X11_call : Cond.instanceMethod yX11_call ∈ TB := tbm (tq4 (List.mem_of_getElem? (i := 239) (by decide +kernel))) (by decide +kernel)
theorem ws_X11_call : Cond.selects RX11 yX11_call yX11_call ∈ TB := tbm (tq5 (List.mem_of_getElem? (i := 0) (by decide +kernel))) (by decide +kernel)
theorem mi_X11_call : MI yX11_call cX11_call 3 (some .int) 2 := ⟨wc_X11_call, wn_X11, ⟨by decide +kernel, by decide +kernel, by decide +kernel⟩, wi_X11_call, ws_X11_call⟩
theorem dL_law_1212 : decode cL_law 1212 = .ok (.aload_n 2, 1) := by decide +kernel
theorem dL_law_1213 : decode cL_law 1213 = .ok (.aload_n 0, 1) := by decide +kernel
theorem dL_law_1214 : decode cL_law 1214 = .ok (.iload_n 3, 1) := by decide +kernel
theorem dL_law_1215 : decode cL_law 1215 = .ok (.iconst 1, 1) := by decide +kernel
theorem dL_law_1216 : decode cL_law 1216 = .ok (.iadd, 1) := by decide +kernel
theorem dL_law_1217 : decode cL_law 1217 = .ok (.iaload, 1) := by decide +kernel
theorem dL_law_1218 : decode cL_law 1218 = .ok (.aload_n 0, 1) := by decide +kernel
theorem dL_law_1219 : decode cL_law 1219 = .ok (.iload_n 3, 1) := by decide +kernel
theorem dL_law_1220 : decode cL_law 1220 = .ok (.iconst 2, 1) := by decide +kernel
theorem dL_law_1221 : decode cL_law 1221 = .ok (.iadd, 1) := by decide +kernel
theorem dL_law_1222 : decode cL_law 1222 = .ok (.iaload, 1) := by decide +kernel
theorem dL_law_1223 : decode cL_law 1223 = .ok (.invokevirtual 147, 3) := by decide +kernel
theorem wl_L_147 : Cond.methodLink RL 147 yX12_call ∈ TB := tbm (tq7 (List.mem_of_getElem? (i := 56) (by decide +kernel))) (by decide +kernel)
theorem wc_X12_call : Cond.code yX12_call cX12_call 3 (some .int) ∈ TB := tbm (tq7 (List.mem_of_getElem? (i := 59) (rfl))) (by decide +kernel)
theorem wi_X12_call : Cond.instanceMethod yX12_call ∈ TB := tbm (tq7 (List.mem_of_getElem? (i := 57) (by decide +kernel))) (by decide +kernel)
theorem ws_X12_call : Cond.selects RX12 yX12_call yX12_call ∈ TB := tbm (tq7 (List.mem_of_getElem? (i := 58) (by decide +kernel))) (by decide +kernel)
theorem mi_X12_call : MI yX12_call cX12_call 3 (some .int) 2 := ⟨wc_X12_call, wn_X12, ⟨by decide +kernel, by decide +kernel, by decide +kernel⟩, wi_X12_call, ws_X12_call⟩
theorem dL_law_1226 : decode cL_law 1226 = .ok (.if_icmp .eq 226, 3) := by decide +kernel
set_option maxRecDepth 100000 in
set_option maxHeartbeats 4000000 in
theorem lawc_call {X : XT} {E : EV} {xs : Nat → Int32} (bb : Nat) (hx : Nat) (hm : Nat) (qn : Nat) (qp : Nat) (qs : Nat) (qj : Nat) (ql : Nat) (qh : Nat) (qk : Nat) (qr : Nat) (qg : Nat) (qsh : Nat) (m_manys : Nat) (m_reals : Nat) (m_factsOf : Nat) (m_possible : Nat) (m_tape : Nat) (m_ends : Nat) (m_letters : Nat) (m_actOf : Nat) (m_whom : Nat) (m_actMany : Nat) (m_tokens : Nat) (m_afters : Nat) (m_afterOf : Nat) (m_pile : Nat) (m_caseMany : Nat) (m_happen : Nat) (m_hasIf : Nat) (m_becomes : Nat) (m_goneOf : Nat) (m_heard : Nat) (m_pairs : Nat) (m_heaps : Nat) (m_led : Nat) (m_newAt : Nat) (m_knowing : Nat) (m_firsts : Nat) (m_secrets : Nat) (m_tried : Nat) (m_lanes : Nat) (m_lengths : Nat) (m_cells : Nat) (C : CX X room_1 cL_law 4 RL ret E) (hs : SX X bb 6 xs)  (a0 : Int32) (a1 : Int32) (a2 : Int32) (a3 : Int32) (a4 : Int32) (a5 : Int32) (ea0 : xs 0 = a0) (ea1 : xs 1 = a1) (ea2 : xs 2 = a2) (ea3 : xs 3 = a3) (ea4 : xs 4 = a4) (ea5 : xs 5 = a5) (kk : WW X 4 E 1452 [(3, .int 0), (2, .ref hm), (1, .ref hx), (0, .ref bb)] [] [] 168 11526) : WW X 4 E 1198 [(3, .int 0), (2, .ref hm), (1, .ref hx), (0, .ref bb)] [] [(hx, .inr (11, [.ref qn, .ref qp, .int 0, .int 0, .ref qs, .ref qj, .ref ql, .ref qh, .ref qk, .int 0, .ref qr, .ref qg, .int 0, .int 0, .ref qsh])), (hm, .inr (12, [.ref m_manys, .ref m_reals, .ref m_factsOf, .ref m_possible, .int 0, .int 0, .ref m_tape, .int 0, .int 0, .int 0, .int 0, .int 0, .int 0, .int 0, .int 0, .ref m_ends, .ref m_letters, .ref m_actOf, .ref m_whom, .ref m_actMany, .ref m_tokens, .ref m_afters, .ref m_afterOf, .int 0, .ref m_pile, .ref m_caseMany, .ref m_happen, .ref m_hasIf, .ref m_becomes, .ref m_goneOf, .ref m_heard, .ref m_pairs, .ref m_heaps, .int 0, .int 0, .ref m_led, .ref m_newAt, .ref m_knowing, .ref m_firsts, .int 0, .ref m_secrets, .ref m_tried, .ref m_lanes, .ref m_lengths, .ref m_cells]))] 168 11526 := by
  refine ww_aload_n C dL_law_1198 2 rfl rfl ?_
  refine ww_aload_n C dL_law_1199 3 rfl rfl ?_
  refine ww_iload_n C dL_law_1200 0 rfl rfl ?_
  refine ww_iconst (v := 1) C dL_law_1201 rfl ?_
  refine ww_iadd (v := 1) C dL_law_1202 (by decide) ?_
  refine ww_sld (v := a1) C hs (vin rfl) ea1 dL_law_1203 ?_
  refine ww_aload_n C dL_law_1204 3 rfl rfl ?_
  refine ww_iload_n C dL_law_1205 0 rfl rfl ?_
  refine ww_iconst (v := 2) C dL_law_1206 rfl ?_
  refine ww_iadd (v := 2) C dL_law_1207 (by decide) ?_
  refine ww_sld (v := a2) C hs (vin rfl) ea2 dL_law_1208 ?_
  refine ww_ci (wr := [(hm, .inr (12, [.ref m_manys, .ref m_reals, .ref m_factsOf, .ref m_possible, .int 0, .int 0, .ref m_tape, .int 0, .int 0, .int 0, .int 0, .int 0, .int 0, .int 0, .int 0, .ref m_ends, .ref m_letters, .ref m_actOf, .ref m_whom, .ref m_actMany, .ref m_tokens, .ref m_afters, .ref m_afterOf, .int 0, .ref m_pile, .ref m_caseMany, .ref m_happen, .ref m_hasIf, .ref m_becomes, .ref m_goneOf, .ref m_heard, .ref m_pairs, .ref m_heaps, .int 0, .int 0, .ref m_led, .ref m_newAt, .ref m_knowing, .ref m_firsts, .int 0, .ref m_secrets, .ref m_tried, .ref m_lanes, .ref m_lengths, .ref m_cells]))]) (k' := 168) (n' := 11526) C (run_V (As := [.int a1, .int a2]) (rest := []) C (x_call X.2.1 E hx a1 a2 qn qp qs qj ql qh qk qr qg qsh) mi_X11_call wl_L_144 rfl 0 11 rfl rfl rfl rfl rfl dL_law_1209) [0] [1] rfl rfl rfl rfl (fun r u hw => ?_)
  obtain ⟨rfl, rfl⟩ := hw
  refine ww_eq (ws' := [(hm, .inr (12, [.ref m_manys, .ref m_reals, .ref m_factsOf, .ref m_possible, .int 0, .int 0, .ref m_tape, .int 0, .int 0, .int 0, .int 0, .int 0, .int 0, .int 0, .int 0, .ref m_ends, .ref m_letters, .ref m_actOf, .ref m_whom, .ref m_actMany, .ref m_tokens, .ref m_afters, .ref m_afterOf, .int 0, .ref m_pile, .ref m_caseMany, .ref m_happen, .ref m_hasIf, .ref m_becomes, .ref m_goneOf, .ref m_heard, .ref m_pairs, .ref m_heaps, .int 0, .int 0, .ref m_led, .ref m_newAt, .ref m_knowing, .ref m_firsts, .int 0, .ref m_secrets, .ref m_tried, .ref m_lanes, .ref m_lengths, .ref m_cells]))]) ?_ rfl rfl rfl
  refine ww_aload_n C dL_law_1212 1 rfl rfl ?_
  refine ww_aload_n C dL_law_1213 3 rfl rfl ?_
  refine ww_iload_n C dL_law_1214 0 rfl rfl ?_
  refine ww_iconst (v := 1) C dL_law_1215 rfl ?_
  refine ww_iadd (v := 1) C dL_law_1216 (by decide) ?_
  refine ww_sld (v := a1) C hs (vin rfl) ea1 dL_law_1217 ?_
  refine ww_aload_n C dL_law_1218 3 rfl rfl ?_
  refine ww_iload_n C dL_law_1219 0 rfl rfl ?_
  refine ww_iconst (v := 2) C dL_law_1220 rfl ?_
  refine ww_iadd (v := 2) C dL_law_1221 (by decide) ?_
  refine ww_sld (v := a2) C hs (vin rfl) ea2 dL_law_1222 ?_
  refine ww_ci (wr := []) (k' := 168) (n' := 11526) C (run_V (As := [.int a1, .int a2]) (rest := [.int (-1)]) C (y_call X.2.1 E hm a1 a2 m_manys m_reals m_factsOf m_possible m_tape m_ends m_letters m_actOf m_whom m_actMany m_tokens m_afters m_afterOf m_pile m_caseMany m_happen m_hasIf m_becomes m_goneOf m_heard m_pairs m_heaps m_led m_newAt m_knowing m_firsts m_secrets m_tried m_lanes m_lengths m_cells) mi_X12_call wl_L_147 rfl 0 12 rfl rfl rfl rfl rfl dL_law_1223) [0] [] rfl rfl rfl rfl (fun r u hw => ?_)
  obtain ⟨rfl, rfl⟩ := hw
  refine ww_eq (ws' := []) ?_ rfl rfl rfl
  refine ww_icmp_eq_t (tgt := 1452) C dL_law_1226 (by decide) (rfl) ?_
  exact ww_sub [] rfl rfl kk
theorem dL_law_1231 : decode cL_law 1231 = .ok (.aload_n 1, 1) := by decide +kernel
theorem dL_law_1232 : decode cL_law 1232 = .ok (.aload_n 0, 1) := by decide +kernel
theorem dL_law_1233 : decode cL_law 1233 = .ok (.iload_n 3, 1) := by decide +kernel
theorem dL_law_1234 : decode cL_law 1234 = .ok (.iconst 1, 1) := by decide +kernel
theorem dL_law_1235 : decode cL_law 1235 = .ok (.iadd, 1) := by decide +kernel
theorem dL_law_1236 : decode cL_law 1236 = .ok (.iaload, 1) := by decide +kernel
theorem dL_law_1237 : decode cL_law 1237 = .ok (.invokevirtual 148, 3) := by decide +kernel
theorem wl_L_148 : Cond.methodLink RL 148 yX11_secrets ∈ TB := tbm (tq5 (List.mem_of_getElem? (i := 13) (by decide +kernel))) (by decide +kernel)
theorem wc_X11_secrets : Cond.code yX11_secrets cX11_secrets 2 (some .int) ∈ TB := tbm (tq5 (List.mem_of_getElem? (i := 16) (rfl))) (by decide +kernel)
theorem wi_X11_secrets : Cond.instanceMethod yX11_secrets ∈ TB := tbm (tq5 (List.mem_of_getElem? (i := 14) (by decide +kernel))) (by decide +kernel)
theorem ws_X11_secrets : Cond.selects RX11 yX11_secrets yX11_secrets ∈ TB := tbm (tq5 (List.mem_of_getElem? (i := 15) (by decide +kernel))) (by decide +kernel)
theorem mi_X11_secrets : MI yX11_secrets cX11_secrets 2 (some .int) 1 := ⟨wc_X11_secrets, wn_X11, ⟨by decide +kernel, by decide +kernel, by decide +kernel⟩, wi_X11_secrets, ws_X11_secrets⟩
theorem dL_law_1240 : decode cL_law 1240 = .ok (.aload_n 2, 1) := by decide +kernel
theorem dL_law_1241 : decode cL_law 1241 = .ok (.aload_n 0, 1) := by decide +kernel
theorem dL_law_1242 : decode cL_law 1242 = .ok (.iload_n 3, 1) := by decide +kernel
theorem dL_law_1243 : decode cL_law 1243 = .ok (.iconst 1, 1) := by decide +kernel
theorem dL_law_1244 : decode cL_law 1244 = .ok (.iadd, 1) := by decide +kernel
theorem dL_law_1245 : decode cL_law 1245 = .ok (.iaload, 1) := by decide +kernel
theorem dL_law_1246 : decode cL_law 1246 = .ok (.invokevirtual 151, 3) := by decide +kernel
theorem wl_L_151 : Cond.methodLink RL 151 yX12_secrets ∈ TB := tbm (tq7 (List.mem_of_getElem? (i := 64) (by decide +kernel))) (by decide +kernel)
theorem wc_X12_secrets : Cond.code yX12_secrets cX12_secrets 2 (some .int) ∈ TB := tbm (tq7 (List.mem_of_getElem? (i := 67) (rfl))) (by decide +kernel)
theorem wi_X12_secrets : Cond.instanceMethod yX12_secrets ∈ TB := tbm (tq7 (List.mem_of_getElem? (i := 65) (by decide +kernel))) (by decide +kernel)
theorem ws_X12_secrets : Cond.selects RX12 yX12_secrets yX12_secrets ∈ TB := tbm (tq7 (List.mem_of_getElem? (i := 66) (by decide +kernel))) (by decide +kernel)
theorem mi_X12_secrets : MI yX12_secrets cX12_secrets 2 (some .int) 1 := ⟨wc_X12_secrets, wn_X12, ⟨by decide +kernel, by decide +kernel, by decide +kernel⟩, wi_X12_secrets, ws_X12_secrets⟩
theorem dL_law_1249 : decode cL_law 1249 = .ok (.if_icmp .eq 203, 3) := by decide +kernel
set_option maxRecDepth 100000 in
set_option maxHeartbeats 4000000 in
theorem lawc_secrets {X : XT} {E : EV} {xs : Nat → Int32} (bb : Nat) (hx : Nat) (hm : Nat) (qn : Nat) (qp : Nat) (qs : Nat) (qj : Nat) (ql : Nat) (qh : Nat) (qk : Nat) (qr : Nat) (qg : Nat) (qsh : Nat) (m_manys : Nat) (m_reals : Nat) (m_factsOf : Nat) (m_possible : Nat) (m_tape : Nat) (m_ends : Nat) (m_letters : Nat) (m_actOf : Nat) (m_whom : Nat) (m_actMany : Nat) (m_tokens : Nat) (m_afters : Nat) (m_afterOf : Nat) (m_pile : Nat) (m_caseMany : Nat) (m_happen : Nat) (m_hasIf : Nat) (m_becomes : Nat) (m_goneOf : Nat) (m_heard : Nat) (m_pairs : Nat) (m_heaps : Nat) (m_led : Nat) (m_newAt : Nat) (m_knowing : Nat) (m_firsts : Nat) (m_secrets : Nat) (m_tried : Nat) (m_lanes : Nat) (m_lengths : Nat) (m_cells : Nat) (C : CX X room_1 cL_law 4 RL ret E) (hs : SX X bb 6 xs)  (a0 : Int32) (a1 : Int32) (a2 : Int32) (a3 : Int32) (a4 : Int32) (a5 : Int32) (ea0 : xs 0 = a0) (ea1 : xs 1 = a1) (ea2 : xs 2 = a2) (ea3 : xs 3 = a3) (ea4 : xs 4 = a4) (ea5 : xs 5 = a5) (kk : WW X 4 E 1452 [(3, .int 0), (2, .ref hm), (1, .ref hx), (0, .ref bb)] [] [] 168 11526) : WW X 4 E 1231 [(3, .int 0), (2, .ref hm), (1, .ref hx), (0, .ref bb)] [] [(hx, .inr (11, [.ref qn, .ref qp, .int 0, .int 0, .ref qs, .ref qj, .ref ql, .ref qh, .ref qk, .int 0, .ref qr, .ref qg, .int 0, .int 0, .ref qsh])), (hm, .inr (12, [.ref m_manys, .ref m_reals, .ref m_factsOf, .ref m_possible, .int 0, .int 0, .ref m_tape, .int 0, .int 0, .int 0, .int 0, .int 0, .int 0, .int 0, .int 0, .ref m_ends, .ref m_letters, .ref m_actOf, .ref m_whom, .ref m_actMany, .ref m_tokens, .ref m_afters, .ref m_afterOf, .int 0, .ref m_pile, .ref m_caseMany, .ref m_happen, .ref m_hasIf, .ref m_becomes, .ref m_goneOf, .ref m_heard, .ref m_pairs, .ref m_heaps, .int 0, .int 0, .ref m_led, .ref m_newAt, .ref m_knowing, .ref m_firsts, .int 0, .ref m_secrets, .ref m_tried, .ref m_lanes, .ref m_lengths, .ref m_cells]))] 168 11526 := by
  refine ww_aload_n C dL_law_1231 2 rfl rfl ?_
  refine ww_aload_n C dL_law_1232 3 rfl rfl ?_
  refine ww_iload_n C dL_law_1233 0 rfl rfl ?_
  refine ww_iconst (v := 1) C dL_law_1234 rfl ?_
  refine ww_iadd (v := 1) C dL_law_1235 (by decide) ?_
  refine ww_sld (v := a1) C hs (vin rfl) ea1 dL_law_1236 ?_
  refine ww_ci (wr := [(hm, .inr (12, [.ref m_manys, .ref m_reals, .ref m_factsOf, .ref m_possible, .int 0, .int 0, .ref m_tape, .int 0, .int 0, .int 0, .int 0, .int 0, .int 0, .int 0, .int 0, .ref m_ends, .ref m_letters, .ref m_actOf, .ref m_whom, .ref m_actMany, .ref m_tokens, .ref m_afters, .ref m_afterOf, .int 0, .ref m_pile, .ref m_caseMany, .ref m_happen, .ref m_hasIf, .ref m_becomes, .ref m_goneOf, .ref m_heard, .ref m_pairs, .ref m_heaps, .int 0, .int 0, .ref m_led, .ref m_newAt, .ref m_knowing, .ref m_firsts, .int 0, .ref m_secrets, .ref m_tried, .ref m_lanes, .ref m_lengths, .ref m_cells]))]) (k' := 168) (n' := 11526) C (run_V (As := [.int a1]) (rest := []) C (x_secrets X.2.1 E hx a1 qn qp qs qj ql qh qk qr qg qsh) mi_X11_secrets wl_L_148 rfl 0 11 rfl rfl rfl rfl rfl dL_law_1237) [0] [1] rfl rfl rfl rfl (fun r u hw => ?_)
  obtain ⟨rfl, rfl⟩ := hw
  refine ww_eq (ws' := [(hm, .inr (12, [.ref m_manys, .ref m_reals, .ref m_factsOf, .ref m_possible, .int 0, .int 0, .ref m_tape, .int 0, .int 0, .int 0, .int 0, .int 0, .int 0, .int 0, .int 0, .ref m_ends, .ref m_letters, .ref m_actOf, .ref m_whom, .ref m_actMany, .ref m_tokens, .ref m_afters, .ref m_afterOf, .int 0, .ref m_pile, .ref m_caseMany, .ref m_happen, .ref m_hasIf, .ref m_becomes, .ref m_goneOf, .ref m_heard, .ref m_pairs, .ref m_heaps, .int 0, .int 0, .ref m_led, .ref m_newAt, .ref m_knowing, .ref m_firsts, .int 0, .ref m_secrets, .ref m_tried, .ref m_lanes, .ref m_lengths, .ref m_cells]))]) ?_ rfl rfl rfl
  refine ww_aload_n C dL_law_1240 1 rfl rfl ?_
  refine ww_aload_n C dL_law_1241 3 rfl rfl ?_
  refine ww_iload_n C dL_law_1242 0 rfl rfl ?_
  refine ww_iconst (v := 1) C dL_law_1243 rfl ?_
  refine ww_iadd (v := 1) C dL_law_1244 (by decide) ?_
  refine ww_sld (v := a1) C hs (vin rfl) ea1 dL_law_1245 ?_
  refine ww_ci (wr := []) (k' := 168) (n' := 11526) C (run_V (As := [.int a1]) (rest := [.int (-1)]) C (y_secrets X.2.1 E hm a1 m_manys m_reals m_factsOf m_possible m_tape m_ends m_letters m_actOf m_whom m_actMany m_tokens m_afters m_afterOf m_pile m_caseMany m_happen m_hasIf m_becomes m_goneOf m_heard m_pairs m_heaps m_led m_newAt m_knowing m_firsts m_secrets m_tried m_lanes m_lengths m_cells) mi_X12_secrets wl_L_151 rfl 0 12 rfl rfl rfl rfl rfl dL_law_1246) [0] [] rfl rfl rfl rfl (fun r u hw => ?_)
  obtain ⟨rfl, rfl⟩ := hw
  refine ww_eq (ws' := []) ?_ rfl rfl rfl
  refine ww_icmp_eq_t (tgt := 1452) C dL_law_1249 (by decide) (rfl) ?_
  exact ww_sub [] rfl rfl kk
theorem dL_law_1254 : decode cL_law 1254 = .ok (.aload_n 1, 1) := by decide +kernel
theorem dL_law_1255 : decode cL_law 1255 = .ok (.aload_n 0, 1) := by decide +kernel
theorem dL_law_1256 : decode cL_law 1256 = .ok (.iload_n 3, 1) := by decide +kernel
theorem dL_law_1257 : decode cL_law 1257 = .ok (.iconst 1, 1) := by decide +kernel
theorem dL_law_1258 : decode cL_law 1258 = .ok (.iadd, 1) := by decide +kernel
theorem dL_law_1259 : decode cL_law 1259 = .ok (.iaload, 1) := by decide +kernel
theorem dL_law_1260 : decode cL_law 1260 = .ok (.invokevirtual 152, 3) := by decide +kernel
theorem wl_L_152 : Cond.methodLink RL 152 yX11_fewest ∈ TB := tbm (tq5 (List.mem_of_getElem? (i := 17) (by decide +kernel))) (by decide +kernel)
theorem wc_X11_fewest : Cond.code yX11_fewest cX11_fewest 3 (some .int) ∈ TB := tbm (tq5 (List.mem_of_getElem? (i := 20) (rfl))) (by decide +kernel)
theorem wi_X11_fewest : Cond.instanceMethod yX11_fewest ∈ TB := tbm (tq5 (List.mem_of_getElem? (i := 18) (by decide +kernel))) (by decide +kernel)
theorem ws_X11_fewest : Cond.selects RX11 yX11_fewest yX11_fewest ∈ TB := tbm (tq5 (List.mem_of_getElem? (i := 19) (by decide +kernel))) (by decide +kernel)
theorem mi_X11_fewest : MI yX11_fewest cX11_fewest 3 (some .int) 1 := ⟨wc_X11_fewest, wn_X11, ⟨by decide +kernel, by decide +kernel, by decide +kernel⟩, wi_X11_fewest, ws_X11_fewest⟩
theorem dL_law_1263 : decode cL_law 1263 = .ok (.aload_n 2, 1) := by decide +kernel
theorem dL_law_1264 : decode cL_law 1264 = .ok (.aload_n 0, 1) := by decide +kernel
theorem dL_law_1265 : decode cL_law 1265 = .ok (.iload_n 3, 1) := by decide +kernel
theorem dL_law_1266 : decode cL_law 1266 = .ok (.iconst 1, 1) := by decide +kernel
theorem dL_law_1267 : decode cL_law 1267 = .ok (.iadd, 1) := by decide +kernel
theorem dL_law_1268 : decode cL_law 1268 = .ok (.iaload, 1) := by decide +kernel
theorem dL_law_1269 : decode cL_law 1269 = .ok (.invokevirtual 155, 3) := by decide +kernel
theorem wl_L_155 : Cond.methodLink RL 155 yX12_fewest ∈ TB := tbm (tq7 (List.mem_of_getElem? (i := 68) (by decide +kernel))) (by decide +kernel)
theorem wc_X12_fewest : Cond.code yX12_fewest cX12_fewest 6 (some .int) ∈ TB := tbm (tq7 (List.mem_of_getElem? (i := 71) (rfl))) (by decide +kernel)
theorem wi_X12_fewest : Cond.instanceMethod yX12_fewest ∈ TB := tbm (tq7 (List.mem_of_getElem? (i := 69) (by decide +kernel))) (by decide +kernel)
theorem ws_X12_fewest : Cond.selects RX12 yX12_fewest yX12_fewest ∈ TB := tbm (tq7 (List.mem_of_getElem? (i := 70) (by decide +kernel))) (by decide +kernel)
theorem mi_X12_fewest : MI yX12_fewest cX12_fewest 6 (some .int) 1 := ⟨wc_X12_fewest, wn_X12, ⟨by decide +kernel, by decide +kernel, by decide +kernel⟩, wi_X12_fewest, ws_X12_fewest⟩
theorem dL_law_1272 : decode cL_law 1272 = .ok (.if_icmp .eq 180, 3) := by decide +kernel
set_option maxRecDepth 100000 in
set_option maxHeartbeats 4000000 in
theorem lawc_fewest {X : XT} {E : EV} {xs : Nat → Int32} (bb : Nat) (hx : Nat) (hm : Nat) (qn : Nat) (qp : Nat) (qs : Nat) (qj : Nat) (ql : Nat) (qh : Nat) (qk : Nat) (qr : Nat) (qg : Nat) (qsh : Nat) (m_manys : Nat) (m_reals : Nat) (m_factsOf : Nat) (m_possible : Nat) (m_tape : Nat) (m_ends : Nat) (m_letters : Nat) (m_actOf : Nat) (m_whom : Nat) (m_actMany : Nat) (m_tokens : Nat) (m_afters : Nat) (m_afterOf : Nat) (m_pile : Nat) (m_caseMany : Nat) (m_happen : Nat) (m_hasIf : Nat) (m_becomes : Nat) (m_goneOf : Nat) (m_heard : Nat) (m_pairs : Nat) (m_heaps : Nat) (m_led : Nat) (m_newAt : Nat) (m_knowing : Nat) (m_firsts : Nat) (m_secrets : Nat) (m_tried : Nat) (m_lanes : Nat) (m_lengths : Nat) (m_cells : Nat) (C : CX X room_1 cL_law 4 RL ret E) (hs : SX X bb 6 xs)  (a0 : Int32) (a1 : Int32) (a2 : Int32) (a3 : Int32) (a4 : Int32) (a5 : Int32) (ea0 : xs 0 = a0) (ea1 : xs 1 = a1) (ea2 : xs 2 = a2) (ea3 : xs 3 = a3) (ea4 : xs 4 = a4) (ea5 : xs 5 = a5) (kk : WW X 4 E 1452 [(3, .int 0), (2, .ref hm), (1, .ref hx), (0, .ref bb)] [] [] 168 11526) : WW X 4 E 1254 [(3, .int 0), (2, .ref hm), (1, .ref hx), (0, .ref bb)] [] [(hx, .inr (11, [.ref qn, .ref qp, .int 0, .int 0, .ref qs, .ref qj, .ref ql, .ref qh, .ref qk, .int 0, .ref qr, .ref qg, .int 0, .int 0, .ref qsh])), (hm, .inr (12, [.ref m_manys, .ref m_reals, .ref m_factsOf, .ref m_possible, .int 0, .int 0, .ref m_tape, .int 0, .int 0, .int 0, .int 0, .int 0, .int 0, .int 0, .int 0, .ref m_ends, .ref m_letters, .ref m_actOf, .ref m_whom, .ref m_actMany, .ref m_tokens, .ref m_afters, .ref m_afterOf, .int 0, .ref m_pile, .ref m_caseMany, .ref m_happen, .ref m_hasIf, .ref m_becomes, .ref m_goneOf, .ref m_heard, .ref m_pairs, .ref m_heaps, .int 0, .int 0, .ref m_led, .ref m_newAt, .ref m_knowing, .ref m_firsts, .int 0, .ref m_secrets, .ref m_tried, .ref m_lanes, .ref m_lengths, .ref m_cells]))] 168 11526 := by
  refine ww_aload_n C dL_law_1254 2 rfl rfl ?_
  refine ww_aload_n C dL_law_1255 3 rfl rfl ?_
  refine ww_iload_n C dL_law_1256 0 rfl rfl ?_
  refine ww_iconst (v := 1) C dL_law_1257 rfl ?_
  refine ww_iadd (v := 1) C dL_law_1258 (by decide) ?_
  refine ww_sld (v := a1) C hs (vin rfl) ea1 dL_law_1259 ?_
  refine ww_ci (wr := [(hm, .inr (12, [.ref m_manys, .ref m_reals, .ref m_factsOf, .ref m_possible, .int 0, .int 0, .ref m_tape, .int 0, .int 0, .int 0, .int 0, .int 0, .int 0, .int 0, .int 0, .ref m_ends, .ref m_letters, .ref m_actOf, .ref m_whom, .ref m_actMany, .ref m_tokens, .ref m_afters, .ref m_afterOf, .int 0, .ref m_pile, .ref m_caseMany, .ref m_happen, .ref m_hasIf, .ref m_becomes, .ref m_goneOf, .ref m_heard, .ref m_pairs, .ref m_heaps, .int 0, .int 0, .ref m_led, .ref m_newAt, .ref m_knowing, .ref m_firsts, .int 0, .ref m_secrets, .ref m_tried, .ref m_lanes, .ref m_lengths, .ref m_cells]))]) (k' := 168) (n' := 11526) C (run_V (As := [.int a1]) (rest := []) C (x_fewest X.2.1 E hx a1 qn qp qs qj ql qh qk qr qg qsh) mi_X11_fewest wl_L_152 rfl 0 11 rfl rfl rfl rfl rfl dL_law_1260) [0] [1] rfl rfl rfl rfl (fun r u hw => ?_)
  rcases hw with ⟨rfl, rfl, h_1⟩ | ⟨rfl, rfl, h_2, h_3⟩
  · refine ww_eq (ws' := [(hm, .inr (12, [.ref m_manys, .ref m_reals, .ref m_factsOf, .ref m_possible, .int 0, .int 0, .ref m_tape, .int 0, .int 0, .int 0, .int 0, .int 0, .int 0, .int 0, .int 0, .ref m_ends, .ref m_letters, .ref m_actOf, .ref m_whom, .ref m_actMany, .ref m_tokens, .ref m_afters, .ref m_afterOf, .int 0, .ref m_pile, .ref m_caseMany, .ref m_happen, .ref m_hasIf, .ref m_becomes, .ref m_goneOf, .ref m_heard, .ref m_pairs, .ref m_heaps, .int 0, .int 0, .ref m_led, .ref m_newAt, .ref m_knowing, .ref m_firsts, .int 0, .ref m_secrets, .ref m_tried, .ref m_lanes, .ref m_lengths, .ref m_cells]))]) ?_ rfl rfl rfl
    refine ww_aload_n C dL_law_1263 1 rfl rfl ?_
    refine ww_aload_n C dL_law_1264 3 rfl rfl ?_
    refine ww_iload_n C dL_law_1265 0 rfl rfl ?_
    refine ww_iconst (v := 1) C dL_law_1266 rfl ?_
    refine ww_iadd (v := 1) C dL_law_1267 (by decide) ?_
    refine ww_sld (v := a1) C hs (vin rfl) ea1 dL_law_1268 ?_
    refine ww_ci (wr := []) (k' := 168) (n' := 11526) C (run_V (As := [.int a1]) (rest := [.int (-1)]) C (y_fewest X.2.1 E hm a1 m_manys m_reals m_factsOf m_possible m_tape m_ends m_letters m_actOf m_whom m_actMany m_tokens m_afters m_afterOf m_pile m_caseMany m_happen m_hasIf m_becomes m_goneOf m_heard m_pairs m_heaps m_led m_newAt m_knowing m_firsts m_secrets m_tried m_lanes m_lengths m_cells) mi_X12_fewest wl_L_155 rfl 0 12 rfl rfl rfl rfl rfl dL_law_1269) [0] [] rfl rfl rfl rfl (fun r u hw => ?_)
    rcases hw with ⟨rfl, rfl, h_4⟩ | ⟨rfl, rfl, h_5, h_6⟩
    · refine ww_eq (ws' := []) ?_ rfl rfl rfl
      refine ww_icmp_eq_t (tgt := 1452) C dL_law_1272 (by decide) (rfl) ?_
      exact ww_sub [] rfl rfl kk
    · refine ww_eq (ws' := []) ?_ rfl rfl rfl
      omega
  · refine ww_eq (ws' := [(hm, .inr (12, [.ref m_manys, .ref m_reals, .ref m_factsOf, .ref m_possible, .int 0, .int 0, .ref m_tape, .int 0, .int 0, .int 0, .int 0, .int 0, .int 0, .int 0, .int 0, .ref m_ends, .ref m_letters, .ref m_actOf, .ref m_whom, .ref m_actMany, .ref m_tokens, .ref m_afters, .ref m_afterOf, .int 0, .ref m_pile, .ref m_caseMany, .ref m_happen, .ref m_hasIf, .ref m_becomes, .ref m_goneOf, .ref m_heard, .ref m_pairs, .ref m_heaps, .int 0, .int 0, .ref m_led, .ref m_newAt, .ref m_knowing, .ref m_firsts, .int 0, .ref m_secrets, .ref m_tried, .ref m_lanes, .ref m_lengths, .ref m_cells]))]) ?_ rfl rfl rfl
    refine ww_aload_n C dL_law_1263 1 rfl rfl ?_
    refine ww_aload_n C dL_law_1264 3 rfl rfl ?_
    refine ww_iload_n C dL_law_1265 0 rfl rfl ?_
    refine ww_iconst (v := 1) C dL_law_1266 rfl ?_
    refine ww_iadd (v := 1) C dL_law_1267 (by decide) ?_
    refine ww_sld (v := a1) C hs (vin rfl) ea1 dL_law_1268 ?_
    refine ww_ci (wr := []) (k' := 168) (n' := 11526) C (run_V (As := [.int a1]) (rest := [.int (-2)]) C (y_fewest X.2.1 E hm a1 m_manys m_reals m_factsOf m_possible m_tape m_ends m_letters m_actOf m_whom m_actMany m_tokens m_afters m_afterOf m_pile m_caseMany m_happen m_hasIf m_becomes m_goneOf m_heard m_pairs m_heaps m_led m_newAt m_knowing m_firsts m_secrets m_tried m_lanes m_lengths m_cells) mi_X12_fewest wl_L_155 rfl 0 12 rfl rfl rfl rfl rfl dL_law_1269) [0] [] rfl rfl rfl rfl (fun r u hw => ?_)
    rcases hw with ⟨rfl, rfl, h_7⟩ | ⟨rfl, rfl, h_8, h_9⟩
    · refine ww_eq (ws' := []) ?_ rfl rfl rfl
      omega
    · refine ww_eq (ws' := []) ?_ rfl rfl rfl
      refine ww_icmp_eq_t (tgt := 1452) C dL_law_1272 (by decide) (rfl) ?_
      exact ww_sub [] rfl rfl kk
theorem dL_law_1277 : decode cL_law 1277 = .ok (.aload_n 1, 1) := by decide +kernel
theorem dL_law_1278 : decode cL_law 1278 = .ok (.aload_n 0, 1) := by decide +kernel
theorem dL_law_1279 : decode cL_law 1279 = .ok (.iload_n 3, 1) := by decide +kernel
theorem dL_law_1280 : decode cL_law 1280 = .ok (.iconst 1, 1) := by decide +kernel
theorem dL_law_1281 : decode cL_law 1281 = .ok (.iadd, 1) := by decide +kernel
theorem dL_law_1282 : decode cL_law 1282 = .ok (.iaload, 1) := by decide +kernel
theorem dL_law_1283 : decode cL_law 1283 = .ok (.aload_n 0, 1) := by decide +kernel
theorem dL_law_1284 : decode cL_law 1284 = .ok (.iload_n 3, 1) := by decide +kernel
theorem dL_law_1285 : decode cL_law 1285 = .ok (.iconst 2, 1) := by decide +kernel
theorem dL_law_1286 : decode cL_law 1286 = .ok (.iadd, 1) := by decide +kernel
theorem dL_law_1287 : decode cL_law 1287 = .ok (.iaload, 1) := by decide +kernel
theorem dL_law_1288 : decode cL_law 1288 = .ok (.aload_n 0, 1) := by decide +kernel
theorem dL_law_1289 : decode cL_law 1289 = .ok (.iload_n 3, 1) := by decide +kernel
theorem dL_law_1290 : decode cL_law 1290 = .ok (.iconst 3, 1) := by decide +kernel
theorem dL_law_1291 : decode cL_law 1291 = .ok (.iadd, 1) := by decide +kernel
theorem dL_law_1292 : decode cL_law 1292 = .ok (.iaload, 1) := by decide +kernel
theorem dL_law_1293 : decode cL_law 1293 = .ok (.invokevirtual 156, 3) := by decide +kernel
theorem wl_L_156 : Cond.methodLink RL 156 yX11_sheet ∈ TB := tbm (tq5 (List.mem_of_getElem? (i := 30) (by decide +kernel))) (by decide +kernel)
theorem wc_X11_sheet : Cond.code yX11_sheet cX11_sheet 4 (some .int) ∈ TB := tbm (tq5 (List.mem_of_getElem? (i := 33) (rfl))) (by decide +kernel)
theorem wi_X11_sheet : Cond.instanceMethod yX11_sheet ∈ TB := tbm (tq5 (List.mem_of_getElem? (i := 31) (by decide +kernel))) (by decide +kernel)
theorem ws_X11_sheet : Cond.selects RX11 yX11_sheet yX11_sheet ∈ TB := tbm (tq5 (List.mem_of_getElem? (i := 32) (by decide +kernel))) (by decide +kernel)
theorem mi_X11_sheet : MI yX11_sheet cX11_sheet 4 (some .int) 3 := ⟨wc_X11_sheet, wn_X11, ⟨by decide +kernel, by decide +kernel, by decide +kernel⟩, wi_X11_sheet, ws_X11_sheet⟩
theorem dL_law_1296 : decode cL_law 1296 = .ok (.aload_n 2, 1) := by decide +kernel
theorem dL_law_1297 : decode cL_law 1297 = .ok (.aload_n 0, 1) := by decide +kernel
theorem dL_law_1298 : decode cL_law 1298 = .ok (.iload_n 3, 1) := by decide +kernel
theorem dL_law_1299 : decode cL_law 1299 = .ok (.iconst 1, 1) := by decide +kernel
theorem dL_law_1300 : decode cL_law 1300 = .ok (.iadd, 1) := by decide +kernel
theorem dL_law_1301 : decode cL_law 1301 = .ok (.iaload, 1) := by decide +kernel
theorem dL_law_1302 : decode cL_law 1302 = .ok (.aload_n 0, 1) := by decide +kernel
theorem dL_law_1303 : decode cL_law 1303 = .ok (.iload_n 3, 1) := by decide +kernel
theorem dL_law_1304 : decode cL_law 1304 = .ok (.iconst 2, 1) := by decide +kernel
theorem dL_law_1305 : decode cL_law 1305 = .ok (.iadd, 1) := by decide +kernel
theorem dL_law_1306 : decode cL_law 1306 = .ok (.iaload, 1) := by decide +kernel
theorem dL_law_1307 : decode cL_law 1307 = .ok (.aload_n 0, 1) := by decide +kernel
theorem dL_law_1308 : decode cL_law 1308 = .ok (.iload_n 3, 1) := by decide +kernel
theorem dL_law_1309 : decode cL_law 1309 = .ok (.iconst 3, 1) := by decide +kernel
theorem dL_law_1310 : decode cL_law 1310 = .ok (.iadd, 1) := by decide +kernel
theorem dL_law_1311 : decode cL_law 1311 = .ok (.iaload, 1) := by decide +kernel
theorem dL_law_1312 : decode cL_law 1312 = .ok (.invokevirtual 159, 3) := by decide +kernel
theorem wl_L_159 : Cond.methodLink RL 159 yX12_sheet ∈ TB := tbm (tq7 (List.mem_of_getElem? (i := 76) (by decide +kernel))) (by decide +kernel)
theorem wc_X12_sheet : Cond.code yX12_sheet cX12_sheet 5 (some .int) ∈ TB := tbm (tq7 (List.mem_of_getElem? (i := 79) (rfl))) (by decide +kernel)
theorem wi_X12_sheet : Cond.instanceMethod yX12_sheet ∈ TB := tbm (tq7 (List.mem_of_getElem? (i := 77) (by decide +kernel))) (by decide +kernel)
theorem ws_X12_sheet : Cond.selects RX12 yX12_sheet yX12_sheet ∈ TB := tbm (tq7 (List.mem_of_getElem? (i := 78) (by decide +kernel))) (by decide +kernel)
theorem mi_X12_sheet : MI yX12_sheet cX12_sheet 5 (some .int) 3 := ⟨wc_X12_sheet, wn_X12, ⟨by decide +kernel, by decide +kernel, by decide +kernel⟩, wi_X12_sheet, ws_X12_sheet⟩
theorem dL_law_1315 : decode cL_law 1315 = .ok (.if_icmp .eq 137, 3) := by decide +kernel
set_option maxRecDepth 100000 in
set_option maxHeartbeats 4000000 in
theorem lawc_sheet {X : XT} {E : EV} {xs : Nat → Int32} (bb : Nat) (hx : Nat) (hm : Nat) (qn : Nat) (qp : Nat) (qs : Nat) (qj : Nat) (ql : Nat) (qh : Nat) (qk : Nat) (qr : Nat) (qg : Nat) (qsh : Nat) (fs : Nat → Option Nat) (s0 : Nat) (s1 : Nat) (s2 : Nat) (s3 : Nat) (s0c : Nat) (s1c : Nat) (s2c : Nat) (s3c : Nat) (m_manys : Nat) (m_reals : Nat) (m_factsOf : Nat) (m_possible : Nat) (m_tape : Nat) (m_ends : Nat) (m_letters : Nat) (m_actOf : Nat) (m_whom : Nat) (m_actMany : Nat) (m_tokens : Nat) (m_afters : Nat) (m_afterOf : Nat) (m_pile : Nat) (m_caseMany : Nat) (m_happen : Nat) (m_hasIf : Nat) (m_becomes : Nat) (m_goneOf : Nat) (m_heard : Nat) (m_pairs : Nat) (m_heaps : Nat) (m_led : Nat) (m_newAt : Nat) (m_knowing : Nat) (m_firsts : Nat) (m_secrets : Nat) (m_tried : Nat) (m_lanes : Nat) (m_lengths : Nat) (m_cells : Nat) (fl : Nat → Int32) (C : CX X room_1 cL_law 4 RL ret E) (hs : SX X bb 6 xs) (k_fs_0 : fs 0 = some s0) (k_fs_1 : fs 1 = some s1) (k_fs_2 : fs 2 = some s2) (k_fs_3 : fs 3 = some s3) (k_fl_0 : fl 0 = (-4)) (k_fl_1 : fl 1 = (-4)) (k_fl_2 : fl 2 = (-4)) (k_fl_3 : fl 3 = (-4)) (a0 : Int32) (a1 : Int32) (a2 : Int32) (a3 : Int32) (a4 : Int32) (a5 : Int32) (ea0 : xs 0 = a0) (ea1 : xs 1 = a1) (ea2 : xs 2 = a2) (ea3 : xs 3 = a3) (ea4 : xs 4 = a4) (ea5 : xs 5 = a5) (kk : WW X 4 E 1452 [(3, .int 0), (2, .ref hm), (1, .ref hx), (0, .ref bb)] [] [] 168 11526) : WW X 4 E 1277 [(3, .int 0), (2, .ref hm), (1, .ref hx), (0, .ref bb)] [] [(hx, .inr (11, [.ref qn, .ref qp, .int 0, .int 0, .ref qs, .ref qj, .ref ql, .ref qh, .ref qk, .int 0, .ref qr, .ref qg, .int 0, .int 0, .ref qsh])), (qsh, .inl (E.2.1 8, 4, .inr (.inr (.inr (.inr fs))))), (s0, .inr (9, [.int 0, .int 0, .int 0, .ref s0c])), (s0c, .inl (E.2.1 1, 48, .inl (fun _ => 0))), (s1, .inr (9, [.int 0, .int 0, .int 0, .ref s1c])), (s1c, .inl (E.2.1 1, 48, .inl (fun _ => 0))), (s2, .inr (9, [.int 0, .int 0, .int 0, .ref s2c])), (s2c, .inl (E.2.1 1, 48, .inl (fun _ => 0))), (s3, .inr (9, [.int 0, .int 0, .int 0, .ref s3c])), (s3c, .inl (E.2.1 1, 48, .inl (fun _ => 0))), (hm, .inr (12, [.ref m_manys, .ref m_reals, .ref m_factsOf, .ref m_possible, .int 0, .int 0, .ref m_tape, .int 0, .int 0, .int 0, .int 0, .int 0, .int 0, .int 0, .int 0, .ref m_ends, .ref m_letters, .ref m_actOf, .ref m_whom, .ref m_actMany, .ref m_tokens, .ref m_afters, .ref m_afterOf, .int 0, .ref m_pile, .ref m_caseMany, .ref m_happen, .ref m_hasIf, .ref m_becomes, .ref m_goneOf, .ref m_heard, .ref m_pairs, .ref m_heaps, .int 0, .int 0, .ref m_led, .ref m_newAt, .ref m_knowing, .ref m_firsts, .int 0, .ref m_secrets, .ref m_tried, .ref m_lanes, .ref m_lengths, .ref m_cells])), (m_lanes, .inl (E.2.1 1, 4, .inl fl)), (m_lengths, .inl (E.2.1 1, 4, .inl (fun _ => 0))), (m_cells, .inl (E.2.1 1, 192, .inl (fun _ => 0)))] 168 11526 := by
  refine ww_aload_n C dL_law_1277 2 rfl rfl ?_
  refine ww_aload_n C dL_law_1278 3 rfl rfl ?_
  refine ww_iload_n C dL_law_1279 0 rfl rfl ?_
  refine ww_iconst (v := 1) C dL_law_1280 rfl ?_
  refine ww_iadd (v := 1) C dL_law_1281 (by decide) ?_
  refine ww_sld (v := a1) C hs (vin rfl) ea1 dL_law_1282 ?_
  refine ww_aload_n C dL_law_1283 3 rfl rfl ?_
  refine ww_iload_n C dL_law_1284 0 rfl rfl ?_
  refine ww_iconst (v := 2) C dL_law_1285 rfl ?_
  refine ww_iadd (v := 2) C dL_law_1286 (by decide) ?_
  refine ww_sld (v := a2) C hs (vin rfl) ea2 dL_law_1287 ?_
  refine ww_aload_n C dL_law_1288 3 rfl rfl ?_
  refine ww_iload_n C dL_law_1289 0 rfl rfl ?_
  refine ww_iconst (v := 3) C dL_law_1290 rfl ?_
  refine ww_iadd (v := 3) C dL_law_1291 (by decide) ?_
  refine ww_sld (v := a3) C hs (vin rfl) ea3 dL_law_1292 ?_
  refine ww_ci (wr := [(hm, .inr (12, [.ref m_manys, .ref m_reals, .ref m_factsOf, .ref m_possible, .int 0, .int 0, .ref m_tape, .int 0, .int 0, .int 0, .int 0, .int 0, .int 0, .int 0, .int 0, .ref m_ends, .ref m_letters, .ref m_actOf, .ref m_whom, .ref m_actMany, .ref m_tokens, .ref m_afters, .ref m_afterOf, .int 0, .ref m_pile, .ref m_caseMany, .ref m_happen, .ref m_hasIf, .ref m_becomes, .ref m_goneOf, .ref m_heard, .ref m_pairs, .ref m_heaps, .int 0, .int 0, .ref m_led, .ref m_newAt, .ref m_knowing, .ref m_firsts, .int 0, .ref m_secrets, .ref m_tried, .ref m_lanes, .ref m_lengths, .ref m_cells])), (m_lanes, .inl (E.2.1 1, 4, .inl fl)), (m_lengths, .inl (E.2.1 1, 4, .inl (fun _ => 0))), (m_cells, .inl (E.2.1 1, 192, .inl (fun _ => 0)))]) (k' := 168) (n' := 11526) C (run_V (As := [.int a1, .int a2, .int a3]) (rest := []) C (x_sheet X.2.1 E hx a1 a2 a3 qn qp qs qj ql qh qk qr qg qsh fs s0 s1 s2 s3 s0c s1c s2c s3c k_fs_0 k_fs_1 k_fs_2 k_fs_3) mi_X11_sheet wl_L_156 rfl 0 11 rfl rfl rfl rfl rfl dL_law_1293) [0, 1, 2, 3, 4, 5, 6, 7, 8, 9] [10, 11, 12, 13] rfl rfl rfl rfl (fun r u hw => ?_)
  rcases hw with ⟨rfl, rfl, h_1⟩ | ⟨rfl, rfl, h_2, h_3, h_4, h_5, h_6⟩ | ⟨rfl, rfl, h_7, h_8, h_9, h_10, h_11, h_12⟩
  · refine ww_eq (ws' := [(hm, .inr (12, [.ref m_manys, .ref m_reals, .ref m_factsOf, .ref m_possible, .int 0, .int 0, .ref m_tape, .int 0, .int 0, .int 0, .int 0, .int 0, .int 0, .int 0, .int 0, .ref m_ends, .ref m_letters, .ref m_actOf, .ref m_whom, .ref m_actMany, .ref m_tokens, .ref m_afters, .ref m_afterOf, .int 0, .ref m_pile, .ref m_caseMany, .ref m_happen, .ref m_hasIf, .ref m_becomes, .ref m_goneOf, .ref m_heard, .ref m_pairs, .ref m_heaps, .int 0, .int 0, .ref m_led, .ref m_newAt, .ref m_knowing, .ref m_firsts, .int 0, .ref m_secrets, .ref m_tried, .ref m_lanes, .ref m_lengths, .ref m_cells])), (m_lanes, .inl (E.2.1 1, 4, .inl fl)), (m_lengths, .inl (E.2.1 1, 4, .inl (fun _ => 0))), (m_cells, .inl (E.2.1 1, 192, .inl (fun _ => 0)))]) ?_ rfl rfl rfl
    refine ww_aload_n C dL_law_1296 1 rfl rfl ?_
    refine ww_aload_n C dL_law_1297 3 rfl rfl ?_
    refine ww_iload_n C dL_law_1298 0 rfl rfl ?_
    refine ww_iconst (v := 1) C dL_law_1299 rfl ?_
    refine ww_iadd (v := 1) C dL_law_1300 (by decide) ?_
    refine ww_sld (v := a1) C hs (vin rfl) ea1 dL_law_1301 ?_
    refine ww_aload_n C dL_law_1302 3 rfl rfl ?_
    refine ww_iload_n C dL_law_1303 0 rfl rfl ?_
    refine ww_iconst (v := 2) C dL_law_1304 rfl ?_
    refine ww_iadd (v := 2) C dL_law_1305 (by decide) ?_
    refine ww_sld (v := a2) C hs (vin rfl) ea2 dL_law_1306 ?_
    refine ww_aload_n C dL_law_1307 3 rfl rfl ?_
    refine ww_iload_n C dL_law_1308 0 rfl rfl ?_
    refine ww_iconst (v := 3) C dL_law_1309 rfl ?_
    refine ww_iadd (v := 3) C dL_law_1310 (by decide) ?_
    refine ww_sld (v := a3) C hs (vin rfl) ea3 dL_law_1311 ?_
    refine ww_ci (wr := []) (k' := 168) (n' := 11526) C (run_V (As := [.int a1, .int a2, .int a3]) (rest := [.int (-1)]) C (y_sheet X.2.1 E hm a1 a2 a3 m_manys m_reals m_factsOf m_possible m_tape m_ends m_letters m_actOf m_whom m_actMany m_tokens m_afters m_afterOf m_pile m_caseMany m_happen m_hasIf m_becomes m_goneOf m_heard m_pairs m_heaps m_led m_newAt m_knowing m_firsts m_secrets m_tried m_lanes m_lengths m_cells fl k_fl_0 k_fl_1 k_fl_2 k_fl_3) mi_X12_sheet wl_L_159 rfl 0 12 rfl rfl rfl rfl rfl dL_law_1312) [0, 1, 2, 3] [] rfl rfl rfl rfl (fun r u hw => ?_)
    rcases hw with ⟨rfl, rfl, h_13⟩ | ⟨rfl, rfl, h_14, h_15, h_16, h_17, h_18⟩ | ⟨rfl, rfl, h_19, h_20, h_21, h_22, h_23, h_24⟩
    · refine ww_eq (ws' := []) ?_ rfl rfl rfl
      refine ww_icmp_eq_t (tgt := 1452) C dL_law_1315 (by decide) (rfl) ?_
      exact ww_sub [] rfl rfl kk
    · refine ww_eq (ws' := []) ?_ rfl rfl rfl
      omega
    · refine ww_eq (ws' := []) ?_ rfl rfl rfl
      omega
  · refine ww_eq (ws' := [(hm, .inr (12, [.ref m_manys, .ref m_reals, .ref m_factsOf, .ref m_possible, .int 0, .int 0, .ref m_tape, .int 0, .int 0, .int 0, .int 0, .int 0, .int 0, .int 0, .int 0, .ref m_ends, .ref m_letters, .ref m_actOf, .ref m_whom, .ref m_actMany, .ref m_tokens, .ref m_afters, .ref m_afterOf, .int 0, .ref m_pile, .ref m_caseMany, .ref m_happen, .ref m_hasIf, .ref m_becomes, .ref m_goneOf, .ref m_heard, .ref m_pairs, .ref m_heaps, .int 0, .int 0, .ref m_led, .ref m_newAt, .ref m_knowing, .ref m_firsts, .int 0, .ref m_secrets, .ref m_tried, .ref m_lanes, .ref m_lengths, .ref m_cells])), (m_lanes, .inl (E.2.1 1, 4, .inl fl)), (m_lengths, .inl (E.2.1 1, 4, .inl (fun _ => 0))), (m_cells, .inl (E.2.1 1, 192, .inl (fun _ => 0)))]) ?_ rfl rfl rfl
    refine ww_aload_n C dL_law_1296 1 rfl rfl ?_
    refine ww_aload_n C dL_law_1297 3 rfl rfl ?_
    refine ww_iload_n C dL_law_1298 0 rfl rfl ?_
    refine ww_iconst (v := 1) C dL_law_1299 rfl ?_
    refine ww_iadd (v := 1) C dL_law_1300 (by decide) ?_
    refine ww_sld (v := a1) C hs (vin rfl) ea1 dL_law_1301 ?_
    refine ww_aload_n C dL_law_1302 3 rfl rfl ?_
    refine ww_iload_n C dL_law_1303 0 rfl rfl ?_
    refine ww_iconst (v := 2) C dL_law_1304 rfl ?_
    refine ww_iadd (v := 2) C dL_law_1305 (by decide) ?_
    refine ww_sld (v := a2) C hs (vin rfl) ea2 dL_law_1306 ?_
    refine ww_aload_n C dL_law_1307 3 rfl rfl ?_
    refine ww_iload_n C dL_law_1308 0 rfl rfl ?_
    refine ww_iconst (v := 3) C dL_law_1309 rfl ?_
    refine ww_iadd (v := 3) C dL_law_1310 (by decide) ?_
    refine ww_sld (v := a3) C hs (vin rfl) ea3 dL_law_1311 ?_
    refine ww_ci (wr := []) (k' := 168) (n' := 11526) C (run_V (As := [.int a1, .int a2, .int a3]) (rest := [.int (-14)]) C (y_sheet X.2.1 E hm a1 a2 a3 m_manys m_reals m_factsOf m_possible m_tape m_ends m_letters m_actOf m_whom m_actMany m_tokens m_afters m_afterOf m_pile m_caseMany m_happen m_hasIf m_becomes m_goneOf m_heard m_pairs m_heaps m_led m_newAt m_knowing m_firsts m_secrets m_tried m_lanes m_lengths m_cells fl k_fl_0 k_fl_1 k_fl_2 k_fl_3) mi_X12_sheet wl_L_159 rfl 0 12 rfl rfl rfl rfl rfl dL_law_1312) [0, 1, 2, 3] [] rfl rfl rfl rfl (fun r u hw => ?_)
    rcases hw with ⟨rfl, rfl, h_25⟩ | ⟨rfl, rfl, h_26, h_27, h_28, h_29, h_30⟩ | ⟨rfl, rfl, h_31, h_32, h_33, h_34, h_35, h_36⟩
    · refine ww_eq (ws' := []) ?_ rfl rfl rfl
      omega
    · refine ww_eq (ws' := []) ?_ rfl rfl rfl
      refine ww_icmp_eq_t (tgt := 1452) C dL_law_1315 (by decide) (rfl) ?_
      exact ww_sub [] rfl rfl kk
    · refine ww_eq (ws' := []) ?_ rfl rfl rfl
      omega
  · refine ww_eq (ws' := [(hm, .inr (12, [.ref m_manys, .ref m_reals, .ref m_factsOf, .ref m_possible, .int 0, .int 0, .ref m_tape, .int 0, .int 0, .int 0, .int 0, .int 0, .int 0, .int 0, .int 0, .ref m_ends, .ref m_letters, .ref m_actOf, .ref m_whom, .ref m_actMany, .ref m_tokens, .ref m_afters, .ref m_afterOf, .int 0, .ref m_pile, .ref m_caseMany, .ref m_happen, .ref m_hasIf, .ref m_becomes, .ref m_goneOf, .ref m_heard, .ref m_pairs, .ref m_heaps, .int 0, .int 0, .ref m_led, .ref m_newAt, .ref m_knowing, .ref m_firsts, .int 0, .ref m_secrets, .ref m_tried, .ref m_lanes, .ref m_lengths, .ref m_cells])), (m_lanes, .inl (E.2.1 1, 4, .inl fl)), (m_lengths, .inl (E.2.1 1, 4, .inl (fun _ => 0))), (m_cells, .inl (E.2.1 1, 192, .inl (fun _ => 0)))]) ?_ rfl rfl rfl
    refine ww_aload_n C dL_law_1296 1 rfl rfl ?_
    refine ww_aload_n C dL_law_1297 3 rfl rfl ?_
    refine ww_iload_n C dL_law_1298 0 rfl rfl ?_
    refine ww_iconst (v := 1) C dL_law_1299 rfl ?_
    refine ww_iadd (v := 1) C dL_law_1300 (by decide) ?_
    refine ww_sld (v := a1) C hs (vin rfl) ea1 dL_law_1301 ?_
    refine ww_aload_n C dL_law_1302 3 rfl rfl ?_
    refine ww_iload_n C dL_law_1303 0 rfl rfl ?_
    refine ww_iconst (v := 2) C dL_law_1304 rfl ?_
    refine ww_iadd (v := 2) C dL_law_1305 (by decide) ?_
    refine ww_sld (v := a2) C hs (vin rfl) ea2 dL_law_1306 ?_
    refine ww_aload_n C dL_law_1307 3 rfl rfl ?_
    refine ww_iload_n C dL_law_1308 0 rfl rfl ?_
    refine ww_iconst (v := 3) C dL_law_1309 rfl ?_
    refine ww_iadd (v := 3) C dL_law_1310 (by decide) ?_
    refine ww_sld (v := a3) C hs (vin rfl) ea3 dL_law_1311 ?_
    refine ww_ci (wr := []) (k' := 168) (n' := 11526) C (run_V (As := [.int a1, .int a2, .int a3]) (rest := [.int 1]) C (y_sheet X.2.1 E hm a1 a2 a3 m_manys m_reals m_factsOf m_possible m_tape m_ends m_letters m_actOf m_whom m_actMany m_tokens m_afters m_afterOf m_pile m_caseMany m_happen m_hasIf m_becomes m_goneOf m_heard m_pairs m_heaps m_led m_newAt m_knowing m_firsts m_secrets m_tried m_lanes m_lengths m_cells fl k_fl_0 k_fl_1 k_fl_2 k_fl_3) mi_X12_sheet wl_L_159 rfl 0 12 rfl rfl rfl rfl rfl dL_law_1312) [0, 1, 2, 3] [] rfl rfl rfl rfl (fun r u hw => ?_)
    rcases hw with ⟨rfl, rfl, h_37⟩ | ⟨rfl, rfl, h_38, h_39, h_40, h_41, h_42⟩ | ⟨rfl, rfl, h_43, h_44, h_45, h_46, h_47, h_48⟩
    · refine ww_eq (ws' := []) ?_ rfl rfl rfl
      omega
    · refine ww_eq (ws' := []) ?_ rfl rfl rfl
      omega
    · refine ww_eq (ws' := []) ?_ rfl rfl rfl
      refine ww_icmp_eq_t (tgt := 1452) C dL_law_1315 (by decide) (rfl) ?_
      exact ww_sub [] rfl rfl kk
theorem dL_law_1320 : decode cL_law 1320 = .ok (.aload_n 1, 1) := by decide +kernel
theorem dL_law_1321 : decode cL_law 1321 = .ok (.aload_n 0, 1) := by decide +kernel
theorem dL_law_1322 : decode cL_law 1322 = .ok (.iload_n 3, 1) := by decide +kernel
theorem dL_law_1323 : decode cL_law 1323 = .ok (.iconst 1, 1) := by decide +kernel
theorem dL_law_1324 : decode cL_law 1324 = .ok (.iadd, 1) := by decide +kernel
theorem dL_law_1325 : decode cL_law 1325 = .ok (.iaload, 1) := by decide +kernel
theorem dL_law_1326 : decode cL_law 1326 = .ok (.aload_n 0, 1) := by decide +kernel
theorem dL_law_1327 : decode cL_law 1327 = .ok (.iload_n 3, 1) := by decide +kernel
theorem dL_law_1328 : decode cL_law 1328 = .ok (.iconst 2, 1) := by decide +kernel
theorem dL_law_1329 : decode cL_law 1329 = .ok (.iadd, 1) := by decide +kernel
theorem dL_law_1330 : decode cL_law 1330 = .ok (.iaload, 1) := by decide +kernel
theorem dL_law_1331 : decode cL_law 1331 = .ok (.aload_n 0, 1) := by decide +kernel
theorem dL_law_1332 : decode cL_law 1332 = .ok (.iload_n 3, 1) := by decide +kernel
theorem dL_law_1333 : decode cL_law 1333 = .ok (.iconst 3, 1) := by decide +kernel
theorem dL_law_1334 : decode cL_law 1334 = .ok (.iadd, 1) := by decide +kernel
theorem dL_law_1335 : decode cL_law 1335 = .ok (.iaload, 1) := by decide +kernel
theorem dL_law_1336 : decode cL_law 1336 = .ok (.invokevirtual 160, 3) := by decide +kernel
theorem wl_L_160 : Cond.methodLink RL 160 yX11_write ∈ TB := tbm (tq5 (List.mem_of_getElem? (i := 38) (by decide +kernel))) (by decide +kernel)
theorem wc_X11_write : Cond.code yX11_write cX11_write 4 (some .int) ∈ TB := tbm (tq5 (List.mem_of_getElem? (i := 41) (rfl))) (by decide +kernel)
theorem wi_X11_write : Cond.instanceMethod yX11_write ∈ TB := tbm (tq5 (List.mem_of_getElem? (i := 39) (by decide +kernel))) (by decide +kernel)
theorem ws_X11_write : Cond.selects RX11 yX11_write yX11_write ∈ TB := tbm (tq5 (List.mem_of_getElem? (i := 40) (by decide +kernel))) (by decide +kernel)
theorem mi_X11_write : MI yX11_write cX11_write 4 (some .int) 3 := ⟨wc_X11_write, wn_X11, ⟨by decide +kernel, by decide +kernel, by decide +kernel⟩, wi_X11_write, ws_X11_write⟩
theorem dL_law_1339 : decode cL_law 1339 = .ok (.aload_n 2, 1) := by decide +kernel
theorem dL_law_1340 : decode cL_law 1340 = .ok (.aload_n 0, 1) := by decide +kernel
theorem dL_law_1341 : decode cL_law 1341 = .ok (.iload_n 3, 1) := by decide +kernel
theorem dL_law_1342 : decode cL_law 1342 = .ok (.iconst 1, 1) := by decide +kernel
theorem dL_law_1343 : decode cL_law 1343 = .ok (.iadd, 1) := by decide +kernel
theorem dL_law_1344 : decode cL_law 1344 = .ok (.iaload, 1) := by decide +kernel
theorem dL_law_1345 : decode cL_law 1345 = .ok (.aload_n 0, 1) := by decide +kernel
theorem dL_law_1346 : decode cL_law 1346 = .ok (.iload_n 3, 1) := by decide +kernel
theorem dL_law_1347 : decode cL_law 1347 = .ok (.iconst 2, 1) := by decide +kernel
theorem dL_law_1348 : decode cL_law 1348 = .ok (.iadd, 1) := by decide +kernel
theorem dL_law_1349 : decode cL_law 1349 = .ok (.iaload, 1) := by decide +kernel
theorem dL_law_1350 : decode cL_law 1350 = .ok (.aload_n 0, 1) := by decide +kernel
theorem dL_law_1351 : decode cL_law 1351 = .ok (.iload_n 3, 1) := by decide +kernel
theorem dL_law_1352 : decode cL_law 1352 = .ok (.iconst 3, 1) := by decide +kernel
theorem dL_law_1353 : decode cL_law 1353 = .ok (.iadd, 1) := by decide +kernel
theorem dL_law_1354 : decode cL_law 1354 = .ok (.iaload, 1) := by decide +kernel
theorem dL_law_1355 : decode cL_law 1355 = .ok (.invokevirtual 163, 3) := by decide +kernel
theorem wl_L_163 : Cond.methodLink RL 163 yX12_write ∈ TB := tbm (tq7 (List.mem_of_getElem? (i := 80) (by decide +kernel))) (by decide +kernel)
theorem wc_X12_write : Cond.code yX12_write cX12_write 4 (some .int) ∈ TB := tbm (tq7 (List.mem_of_getElem? (i := 83) (rfl))) (by decide +kernel)
theorem wi_X12_write : Cond.instanceMethod yX12_write ∈ TB := tbm (tq7 (List.mem_of_getElem? (i := 81) (by decide +kernel))) (by decide +kernel)
theorem ws_X12_write : Cond.selects RX12 yX12_write yX12_write ∈ TB := tbm (tq7 (List.mem_of_getElem? (i := 82) (by decide +kernel))) (by decide +kernel)
theorem mi_X12_write : MI yX12_write cX12_write 4 (some .int) 3 := ⟨wc_X12_write, wn_X12, ⟨by decide +kernel, by decide +kernel, by decide +kernel⟩, wi_X12_write, ws_X12_write⟩
theorem dL_law_1358 : decode cL_law 1358 = .ok (.if_icmp .eq 94, 3) := by decide +kernel
set_option maxRecDepth 100000 in
set_option maxHeartbeats 4000000 in
theorem lawc_write {X : XT} {E : EV} {xs : Nat → Int32} (bb : Nat) (hx : Nat) (hm : Nat) (qn : Nat) (qp : Nat) (qs : Nat) (qj : Nat) (ql : Nat) (qh : Nat) (qk : Nat) (qr : Nat) (qg : Nat) (qsh : Nat) (fs : Nat → Option Nat) (s0 : Nat) (s1 : Nat) (s2 : Nat) (s3 : Nat) (s0c : Nat) (s1c : Nat) (s2c : Nat) (s3c : Nat) (m_manys : Nat) (m_reals : Nat) (m_factsOf : Nat) (m_possible : Nat) (m_tape : Nat) (m_ends : Nat) (m_letters : Nat) (m_actOf : Nat) (m_whom : Nat) (m_actMany : Nat) (m_tokens : Nat) (m_afters : Nat) (m_afterOf : Nat) (m_pile : Nat) (m_caseMany : Nat) (m_happen : Nat) (m_hasIf : Nat) (m_becomes : Nat) (m_goneOf : Nat) (m_heard : Nat) (m_pairs : Nat) (m_heaps : Nat) (m_led : Nat) (m_newAt : Nat) (m_knowing : Nat) (m_firsts : Nat) (m_secrets : Nat) (m_tried : Nat) (m_lanes : Nat) (m_lengths : Nat) (m_cells : Nat) (fl : Nat → Int32) (C : CX X room_1 cL_law 4 RL ret E) (hs : SX X bb 6 xs) (k_fs_0 : fs 0 = some s0) (k_fs_1 : fs 1 = some s1) (k_fs_2 : fs 2 = some s2) (k_fs_3 : fs 3 = some s3) (k_fl_0 : fl 0 = (-4)) (k_fl_1 : fl 1 = (-4)) (k_fl_2 : fl 2 = (-4)) (k_fl_3 : fl 3 = (-4)) (a0 : Int32) (a1 : Int32) (a2 : Int32) (a3 : Int32) (a4 : Int32) (a5 : Int32) (ea0 : xs 0 = a0) (ea1 : xs 1 = a1) (ea2 : xs 2 = a2) (ea3 : xs 3 = a3) (ea4 : xs 4 = a4) (ea5 : xs 5 = a5) (kk : WW X 4 E 1452 [(3, .int 0), (2, .ref hm), (1, .ref hx), (0, .ref bb)] [] [] 168 11526) : WW X 4 E 1320 [(3, .int 0), (2, .ref hm), (1, .ref hx), (0, .ref bb)] [] [(hx, .inr (11, [.ref qn, .ref qp, .int 0, .int 0, .ref qs, .ref qj, .ref ql, .ref qh, .ref qk, .int 0, .ref qr, .ref qg, .int 0, .int 0, .ref qsh])), (qsh, .inl (E.2.1 8, 4, .inr (.inr (.inr (.inr fs))))), (s0, .inr (9, [.int 0, .int 0, .int 0, .ref s0c])), (s1, .inr (9, [.int 0, .int 0, .int 0, .ref s1c])), (s2, .inr (9, [.int 0, .int 0, .int 0, .ref s2c])), (s3, .inr (9, [.int 0, .int 0, .int 0, .ref s3c])), (hm, .inr (12, [.ref m_manys, .ref m_reals, .ref m_factsOf, .ref m_possible, .int 0, .int 0, .ref m_tape, .int 0, .int 0, .int 0, .int 0, .int 0, .int 0, .int 0, .int 0, .ref m_ends, .ref m_letters, .ref m_actOf, .ref m_whom, .ref m_actMany, .ref m_tokens, .ref m_afters, .ref m_afterOf, .int 0, .ref m_pile, .ref m_caseMany, .ref m_happen, .ref m_hasIf, .ref m_becomes, .ref m_goneOf, .ref m_heard, .ref m_pairs, .ref m_heaps, .int 0, .int 0, .ref m_led, .ref m_newAt, .ref m_knowing, .ref m_firsts, .int 0, .ref m_secrets, .ref m_tried, .ref m_lanes, .ref m_lengths, .ref m_cells])), (m_lanes, .inl (E.2.1 1, 4, .inl fl))] 168 11526 := by
  refine ww_aload_n C dL_law_1320 2 rfl rfl ?_
  refine ww_aload_n C dL_law_1321 3 rfl rfl ?_
  refine ww_iload_n C dL_law_1322 0 rfl rfl ?_
  refine ww_iconst (v := 1) C dL_law_1323 rfl ?_
  refine ww_iadd (v := 1) C dL_law_1324 (by decide) ?_
  refine ww_sld (v := a1) C hs (vin rfl) ea1 dL_law_1325 ?_
  refine ww_aload_n C dL_law_1326 3 rfl rfl ?_
  refine ww_iload_n C dL_law_1327 0 rfl rfl ?_
  refine ww_iconst (v := 2) C dL_law_1328 rfl ?_
  refine ww_iadd (v := 2) C dL_law_1329 (by decide) ?_
  refine ww_sld (v := a2) C hs (vin rfl) ea2 dL_law_1330 ?_
  refine ww_aload_n C dL_law_1331 3 rfl rfl ?_
  refine ww_iload_n C dL_law_1332 0 rfl rfl ?_
  refine ww_iconst (v := 3) C dL_law_1333 rfl ?_
  refine ww_iadd (v := 3) C dL_law_1334 (by decide) ?_
  refine ww_sld (v := a3) C hs (vin rfl) ea3 dL_law_1335 ?_
  refine ww_ci (wr := [(hm, .inr (12, [.ref m_manys, .ref m_reals, .ref m_factsOf, .ref m_possible, .int 0, .int 0, .ref m_tape, .int 0, .int 0, .int 0, .int 0, .int 0, .int 0, .int 0, .int 0, .ref m_ends, .ref m_letters, .ref m_actOf, .ref m_whom, .ref m_actMany, .ref m_tokens, .ref m_afters, .ref m_afterOf, .int 0, .ref m_pile, .ref m_caseMany, .ref m_happen, .ref m_hasIf, .ref m_becomes, .ref m_goneOf, .ref m_heard, .ref m_pairs, .ref m_heaps, .int 0, .int 0, .ref m_led, .ref m_newAt, .ref m_knowing, .ref m_firsts, .int 0, .ref m_secrets, .ref m_tried, .ref m_lanes, .ref m_lengths, .ref m_cells])), (m_lanes, .inl (E.2.1 1, 4, .inl fl))]) (k' := 168) (n' := 11526) C (run_V (As := [.int a1, .int a2, .int a3]) (rest := []) C (x_write X.2.1 E hx a1 a2 a3 qn qp qs qj ql qh qk qr qg qsh fs s0 s1 s2 s3 s0c s1c s2c s3c k_fs_0 k_fs_1 k_fs_2 k_fs_3) mi_X11_write wl_L_160 rfl 0 11 rfl rfl rfl rfl rfl dL_law_1336) [0, 1, 2, 3, 4, 5] [6, 7] rfl rfl rfl rfl (fun r u hw => ?_)
  rcases hw with ⟨rfl, rfl, h_1⟩ | ⟨rfl, rfl, h_2, h_3⟩
  · refine ww_eq (ws' := [(hm, .inr (12, [.ref m_manys, .ref m_reals, .ref m_factsOf, .ref m_possible, .int 0, .int 0, .ref m_tape, .int 0, .int 0, .int 0, .int 0, .int 0, .int 0, .int 0, .int 0, .ref m_ends, .ref m_letters, .ref m_actOf, .ref m_whom, .ref m_actMany, .ref m_tokens, .ref m_afters, .ref m_afterOf, .int 0, .ref m_pile, .ref m_caseMany, .ref m_happen, .ref m_hasIf, .ref m_becomes, .ref m_goneOf, .ref m_heard, .ref m_pairs, .ref m_heaps, .int 0, .int 0, .ref m_led, .ref m_newAt, .ref m_knowing, .ref m_firsts, .int 0, .ref m_secrets, .ref m_tried, .ref m_lanes, .ref m_lengths, .ref m_cells])), (m_lanes, .inl (E.2.1 1, 4, .inl fl))]) ?_ rfl rfl rfl
    refine ww_aload_n C dL_law_1339 1 rfl rfl ?_
    refine ww_aload_n C dL_law_1340 3 rfl rfl ?_
    refine ww_iload_n C dL_law_1341 0 rfl rfl ?_
    refine ww_iconst (v := 1) C dL_law_1342 rfl ?_
    refine ww_iadd (v := 1) C dL_law_1343 (by decide) ?_
    refine ww_sld (v := a1) C hs (vin rfl) ea1 dL_law_1344 ?_
    refine ww_aload_n C dL_law_1345 3 rfl rfl ?_
    refine ww_iload_n C dL_law_1346 0 rfl rfl ?_
    refine ww_iconst (v := 2) C dL_law_1347 rfl ?_
    refine ww_iadd (v := 2) C dL_law_1348 (by decide) ?_
    refine ww_sld (v := a2) C hs (vin rfl) ea2 dL_law_1349 ?_
    refine ww_aload_n C dL_law_1350 3 rfl rfl ?_
    refine ww_iload_n C dL_law_1351 0 rfl rfl ?_
    refine ww_iconst (v := 3) C dL_law_1352 rfl ?_
    refine ww_iadd (v := 3) C dL_law_1353 (by decide) ?_
    refine ww_sld (v := a3) C hs (vin rfl) ea3 dL_law_1354 ?_
    refine ww_ci (wr := []) (k' := 168) (n' := 11526) C (run_V (As := [.int a1, .int a2, .int a3]) (rest := [.int (-1)]) C (y_write X.2.1 E hm a1 a2 a3 m_manys m_reals m_factsOf m_possible m_tape m_ends m_letters m_actOf m_whom m_actMany m_tokens m_afters m_afterOf m_pile m_caseMany m_happen m_hasIf m_becomes m_goneOf m_heard m_pairs m_heaps m_led m_newAt m_knowing m_firsts m_secrets m_tried m_lanes m_lengths m_cells fl k_fl_0 k_fl_1 k_fl_2 k_fl_3) mi_X12_write wl_L_163 rfl 0 12 rfl rfl rfl rfl rfl dL_law_1355) [0, 1] [] rfl rfl rfl rfl (fun r u hw => ?_)
    rcases hw with ⟨rfl, rfl, h_4⟩ | ⟨rfl, rfl, h_5, h_6⟩
    · refine ww_eq (ws' := []) ?_ rfl rfl rfl
      refine ww_icmp_eq_t (tgt := 1452) C dL_law_1358 (by decide) (rfl) ?_
      exact ww_sub [] rfl rfl kk
    · refine ww_eq (ws' := []) ?_ rfl rfl rfl
      omega
  · refine ww_eq (ws' := [(hm, .inr (12, [.ref m_manys, .ref m_reals, .ref m_factsOf, .ref m_possible, .int 0, .int 0, .ref m_tape, .int 0, .int 0, .int 0, .int 0, .int 0, .int 0, .int 0, .int 0, .ref m_ends, .ref m_letters, .ref m_actOf, .ref m_whom, .ref m_actMany, .ref m_tokens, .ref m_afters, .ref m_afterOf, .int 0, .ref m_pile, .ref m_caseMany, .ref m_happen, .ref m_hasIf, .ref m_becomes, .ref m_goneOf, .ref m_heard, .ref m_pairs, .ref m_heaps, .int 0, .int 0, .ref m_led, .ref m_newAt, .ref m_knowing, .ref m_firsts, .int 0, .ref m_secrets, .ref m_tried, .ref m_lanes, .ref m_lengths, .ref m_cells])), (m_lanes, .inl (E.2.1 1, 4, .inl fl))]) ?_ rfl rfl rfl
    refine ww_aload_n C dL_law_1339 1 rfl rfl ?_
    refine ww_aload_n C dL_law_1340 3 rfl rfl ?_
    refine ww_iload_n C dL_law_1341 0 rfl rfl ?_
    refine ww_iconst (v := 1) C dL_law_1342 rfl ?_
    refine ww_iadd (v := 1) C dL_law_1343 (by decide) ?_
    refine ww_sld (v := a1) C hs (vin rfl) ea1 dL_law_1344 ?_
    refine ww_aload_n C dL_law_1345 3 rfl rfl ?_
    refine ww_iload_n C dL_law_1346 0 rfl rfl ?_
    refine ww_iconst (v := 2) C dL_law_1347 rfl ?_
    refine ww_iadd (v := 2) C dL_law_1348 (by decide) ?_
    refine ww_sld (v := a2) C hs (vin rfl) ea2 dL_law_1349 ?_
    refine ww_aload_n C dL_law_1350 3 rfl rfl ?_
    refine ww_iload_n C dL_law_1351 0 rfl rfl ?_
    refine ww_iconst (v := 3) C dL_law_1352 rfl ?_
    refine ww_iadd (v := 3) C dL_law_1353 (by decide) ?_
    refine ww_sld (v := a3) C hs (vin rfl) ea3 dL_law_1354 ?_
    refine ww_ci (wr := []) (k' := 168) (n' := 11526) C (run_V (As := [.int a1, .int a2, .int a3]) (rest := [.int (-11)]) C (y_write X.2.1 E hm a1 a2 a3 m_manys m_reals m_factsOf m_possible m_tape m_ends m_letters m_actOf m_whom m_actMany m_tokens m_afters m_afterOf m_pile m_caseMany m_happen m_hasIf m_becomes m_goneOf m_heard m_pairs m_heaps m_led m_newAt m_knowing m_firsts m_secrets m_tried m_lanes m_lengths m_cells fl k_fl_0 k_fl_1 k_fl_2 k_fl_3) mi_X12_write wl_L_163 rfl 0 12 rfl rfl rfl rfl rfl dL_law_1355) [0, 1] [] rfl rfl rfl rfl (fun r u hw => ?_)
    rcases hw with ⟨rfl, rfl, h_7⟩ | ⟨rfl, rfl, h_8, h_9⟩
    · refine ww_eq (ws' := []) ?_ rfl rfl rfl
      omega
    · refine ww_eq (ws' := []) ?_ rfl rfl rfl
      refine ww_icmp_eq_t (tgt := 1452) C dL_law_1358 (by decide) (rfl) ?_
      exact ww_sub [] rfl rfl kk
theorem dL_law_1363 : decode cL_law 1363 = .ok (.aload_n 1, 1) := by decide +kernel
theorem dL_law_1364 : decode cL_law 1364 = .ok (.aload_n 0, 1) := by decide +kernel
theorem dL_law_1365 : decode cL_law 1365 = .ok (.iload_n 3, 1) := by decide +kernel
theorem dL_law_1366 : decode cL_law 1366 = .ok (.iconst 1, 1) := by decide +kernel
theorem dL_law_1367 : decode cL_law 1367 = .ok (.iadd, 1) := by decide +kernel
theorem dL_law_1368 : decode cL_law 1368 = .ok (.iaload, 1) := by decide +kernel
theorem dL_law_1369 : decode cL_law 1369 = .ok (.aload_n 0, 1) := by decide +kernel
theorem dL_law_1370 : decode cL_law 1370 = .ok (.iload_n 3, 1) := by decide +kernel
theorem dL_law_1371 : decode cL_law 1371 = .ok (.iconst 2, 1) := by decide +kernel
theorem dL_law_1372 : decode cL_law 1372 = .ok (.iadd, 1) := by decide +kernel
theorem dL_law_1373 : decode cL_law 1373 = .ok (.iaload, 1) := by decide +kernel
theorem dL_law_1374 : decode cL_law 1374 = .ok (.aload_n 0, 1) := by decide +kernel
theorem dL_law_1375 : decode cL_law 1375 = .ok (.iload_n 3, 1) := by decide +kernel
theorem dL_law_1376 : decode cL_law 1376 = .ok (.iconst 3, 1) := by decide +kernel
theorem dL_law_1377 : decode cL_law 1377 = .ok (.iadd, 1) := by decide +kernel
theorem dL_law_1378 : decode cL_law 1378 = .ok (.iaload, 1) := by decide +kernel
theorem dL_law_1379 : decode cL_law 1379 = .ok (.aload_n 0, 1) := by decide +kernel
theorem dL_law_1380 : decode cL_law 1380 = .ok (.iload_n 3, 1) := by decide +kernel
theorem dL_law_1381 : decode cL_law 1381 = .ok (.iconst 4, 1) := by decide +kernel
theorem dL_law_1382 : decode cL_law 1382 = .ok (.iadd, 1) := by decide +kernel
theorem dL_law_1383 : decode cL_law 1383 = .ok (.iaload, 1) := by decide +kernel
theorem dL_law_1384 : decode cL_law 1384 = .ok (.invokevirtual 164, 3) := by decide +kernel
theorem wl_L_164 : Cond.methodLink RL 164 yX11_read ∈ TB := tbm (tq5 (List.mem_of_getElem? (i := 46) (by decide +kernel))) (by decide +kernel)
theorem wc_X11_read : Cond.code yX11_read cX11_read 7 (some .int) ∈ TB := tbm (tq5 (List.mem_of_getElem? (i := 49) (rfl))) (by decide +kernel)
theorem wi_X11_read : Cond.instanceMethod yX11_read ∈ TB := tbm (tq5 (List.mem_of_getElem? (i := 47) (by decide +kernel))) (by decide +kernel)
theorem ws_X11_read : Cond.selects RX11 yX11_read yX11_read ∈ TB := tbm (tq5 (List.mem_of_getElem? (i := 48) (by decide +kernel))) (by decide +kernel)
theorem mi_X11_read : MI yX11_read cX11_read 7 (some .int) 4 := ⟨wc_X11_read, wn_X11, ⟨by decide +kernel, by decide +kernel, by decide +kernel⟩, wi_X11_read, ws_X11_read⟩
theorem dL_law_1387 : decode cL_law 1387 = .ok (.aload_n 2, 1) := by decide +kernel
theorem dL_law_1388 : decode cL_law 1388 = .ok (.aload_n 0, 1) := by decide +kernel
theorem dL_law_1389 : decode cL_law 1389 = .ok (.iload_n 3, 1) := by decide +kernel
theorem dL_law_1390 : decode cL_law 1390 = .ok (.iconst 1, 1) := by decide +kernel
theorem dL_law_1391 : decode cL_law 1391 = .ok (.iadd, 1) := by decide +kernel
theorem dL_law_1392 : decode cL_law 1392 = .ok (.iaload, 1) := by decide +kernel
theorem dL_law_1393 : decode cL_law 1393 = .ok (.aload_n 0, 1) := by decide +kernel
theorem dL_law_1394 : decode cL_law 1394 = .ok (.iload_n 3, 1) := by decide +kernel
theorem dL_law_1395 : decode cL_law 1395 = .ok (.iconst 2, 1) := by decide +kernel
theorem dL_law_1396 : decode cL_law 1396 = .ok (.iadd, 1) := by decide +kernel
theorem dL_law_1397 : decode cL_law 1397 = .ok (.iaload, 1) := by decide +kernel
theorem dL_law_1398 : decode cL_law 1398 = .ok (.aload_n 0, 1) := by decide +kernel
theorem dL_law_1399 : decode cL_law 1399 = .ok (.iload_n 3, 1) := by decide +kernel
theorem dL_law_1400 : decode cL_law 1400 = .ok (.iconst 3, 1) := by decide +kernel
theorem dL_law_1401 : decode cL_law 1401 = .ok (.iadd, 1) := by decide +kernel
theorem dL_law_1402 : decode cL_law 1402 = .ok (.iaload, 1) := by decide +kernel
theorem dL_law_1403 : decode cL_law 1403 = .ok (.aload_n 0, 1) := by decide +kernel
theorem dL_law_1404 : decode cL_law 1404 = .ok (.iload_n 3, 1) := by decide +kernel
theorem dL_law_1405 : decode cL_law 1405 = .ok (.iconst 4, 1) := by decide +kernel
theorem dL_law_1406 : decode cL_law 1406 = .ok (.iadd, 1) := by decide +kernel
theorem dL_law_1407 : decode cL_law 1407 = .ok (.iaload, 1) := by decide +kernel
theorem dL_law_1408 : decode cL_law 1408 = .ok (.invokevirtual 167, 3) := by decide +kernel
theorem wl_L_167 : Cond.methodLink RL 167 yX12_read ∈ TB := tbm (tq7 (List.mem_of_getElem? (i := 84) (by decide +kernel))) (by decide +kernel)
theorem wc_X12_read : Cond.code yX12_read cX12_read 6 (some .int) ∈ TB := tbm (tq7 (List.mem_of_getElem? (i := 87) (rfl))) (by decide +kernel)
theorem wi_X12_read : Cond.instanceMethod yX12_read ∈ TB := tbm (tq7 (List.mem_of_getElem? (i := 85) (by decide +kernel))) (by decide +kernel)
theorem ws_X12_read : Cond.selects RX12 yX12_read yX12_read ∈ TB := tbm (tq7 (List.mem_of_getElem? (i := 86) (by decide +kernel))) (by decide +kernel)
theorem mi_X12_read : MI yX12_read cX12_read 6 (some .int) 4 := ⟨wc_X12_read, wn_X12, ⟨by decide +kernel, by decide +kernel, by decide +kernel⟩, wi_X12_read, ws_X12_read⟩
theorem dL_law_1411 : decode cL_law 1411 = .ok (.if_icmp .eq 41, 3) := by decide +kernel
set_option maxRecDepth 100000 in
set_option maxHeartbeats 4000000 in
theorem lawc_read {X : XT} {E : EV} {xs : Nat → Int32} (bb : Nat) (hx : Nat) (hm : Nat) (qn : Nat) (qp : Nat) (qs : Nat) (qj : Nat) (ql : Nat) (qh : Nat) (qk : Nat) (qr : Nat) (qg : Nat) (qsh : Nat) (fs : Nat → Option Nat) (s0 : Nat) (s1 : Nat) (s2 : Nat) (s3 : Nat) (s0c : Nat) (s1c : Nat) (s2c : Nat) (s3c : Nat) (m_manys : Nat) (m_reals : Nat) (m_factsOf : Nat) (m_possible : Nat) (m_tape : Nat) (m_ends : Nat) (m_letters : Nat) (m_actOf : Nat) (m_whom : Nat) (m_actMany : Nat) (m_tokens : Nat) (m_afters : Nat) (m_afterOf : Nat) (m_pile : Nat) (m_caseMany : Nat) (m_happen : Nat) (m_hasIf : Nat) (m_becomes : Nat) (m_goneOf : Nat) (m_heard : Nat) (m_pairs : Nat) (m_heaps : Nat) (m_led : Nat) (m_newAt : Nat) (m_knowing : Nat) (m_firsts : Nat) (m_secrets : Nat) (m_tried : Nat) (m_lanes : Nat) (m_lengths : Nat) (m_cells : Nat) (fl : Nat → Int32) (C : CX X room_1 cL_law 4 RL ret E) (hs : SX X bb 6 xs) (k_fs_0 : fs 0 = some s0) (k_fs_1 : fs 1 = some s1) (k_fs_2 : fs 2 = some s2) (k_fs_3 : fs 3 = some s3) (k_fl_0 : fl 0 = (-4)) (k_fl_1 : fl 1 = (-4)) (k_fl_2 : fl 2 = (-4)) (k_fl_3 : fl 3 = (-4)) (a0 : Int32) (a1 : Int32) (a2 : Int32) (a3 : Int32) (a4 : Int32) (a5 : Int32) (ea0 : xs 0 = a0) (ea1 : xs 1 = a1) (ea2 : xs 2 = a2) (ea3 : xs 3 = a3) (ea4 : xs 4 = a4) (ea5 : xs 5 = a5) (kk : WW X 4 E 1452 [(3, .int 0), (2, .ref hm), (1, .ref hx), (0, .ref bb)] [] [] 168 11526) : WW X 4 E 1363 [(3, .int 0), (2, .ref hm), (1, .ref hx), (0, .ref bb)] [] [(hx, .inr (11, [.ref qn, .ref qp, .int 0, .int 0, .ref qs, .ref qj, .ref ql, .ref qh, .ref qk, .int 0, .ref qr, .ref qg, .int 0, .int 0, .ref qsh])), (qsh, .inl (E.2.1 8, 4, .inr (.inr (.inr (.inr fs))))), (s0, .inr (9, [.int 0, .int 0, .int 0, .ref s0c])), (s1, .inr (9, [.int 0, .int 0, .int 0, .ref s1c])), (s2, .inr (9, [.int 0, .int 0, .int 0, .ref s2c])), (s3, .inr (9, [.int 0, .int 0, .int 0, .ref s3c])), (hm, .inr (12, [.ref m_manys, .ref m_reals, .ref m_factsOf, .ref m_possible, .int 0, .int 0, .ref m_tape, .int 0, .int 0, .int 0, .int 0, .int 0, .int 0, .int 0, .int 0, .ref m_ends, .ref m_letters, .ref m_actOf, .ref m_whom, .ref m_actMany, .ref m_tokens, .ref m_afters, .ref m_afterOf, .int 0, .ref m_pile, .ref m_caseMany, .ref m_happen, .ref m_hasIf, .ref m_becomes, .ref m_goneOf, .ref m_heard, .ref m_pairs, .ref m_heaps, .int 0, .int 0, .ref m_led, .ref m_newAt, .ref m_knowing, .ref m_firsts, .int 0, .ref m_secrets, .ref m_tried, .ref m_lanes, .ref m_lengths, .ref m_cells])), (m_lanes, .inl (E.2.1 1, 4, .inl fl))] 168 11526 := by
  refine ww_aload_n C dL_law_1363 2 rfl rfl ?_
  refine ww_aload_n C dL_law_1364 3 rfl rfl ?_
  refine ww_iload_n C dL_law_1365 0 rfl rfl ?_
  refine ww_iconst (v := 1) C dL_law_1366 rfl ?_
  refine ww_iadd (v := 1) C dL_law_1367 (by decide) ?_
  refine ww_sld (v := a1) C hs (vin rfl) ea1 dL_law_1368 ?_
  refine ww_aload_n C dL_law_1369 3 rfl rfl ?_
  refine ww_iload_n C dL_law_1370 0 rfl rfl ?_
  refine ww_iconst (v := 2) C dL_law_1371 rfl ?_
  refine ww_iadd (v := 2) C dL_law_1372 (by decide) ?_
  refine ww_sld (v := a2) C hs (vin rfl) ea2 dL_law_1373 ?_
  refine ww_aload_n C dL_law_1374 3 rfl rfl ?_
  refine ww_iload_n C dL_law_1375 0 rfl rfl ?_
  refine ww_iconst (v := 3) C dL_law_1376 rfl ?_
  refine ww_iadd (v := 3) C dL_law_1377 (by decide) ?_
  refine ww_sld (v := a3) C hs (vin rfl) ea3 dL_law_1378 ?_
  refine ww_aload_n C dL_law_1379 3 rfl rfl ?_
  refine ww_iload_n C dL_law_1380 0 rfl rfl ?_
  refine ww_iconst (v := 4) C dL_law_1381 rfl ?_
  refine ww_iadd (v := 4) C dL_law_1382 (by decide) ?_
  refine ww_sld (v := a4) C hs (vin rfl) ea4 dL_law_1383 ?_
  refine ww_ci (wr := [(hm, .inr (12, [.ref m_manys, .ref m_reals, .ref m_factsOf, .ref m_possible, .int 0, .int 0, .ref m_tape, .int 0, .int 0, .int 0, .int 0, .int 0, .int 0, .int 0, .int 0, .ref m_ends, .ref m_letters, .ref m_actOf, .ref m_whom, .ref m_actMany, .ref m_tokens, .ref m_afters, .ref m_afterOf, .int 0, .ref m_pile, .ref m_caseMany, .ref m_happen, .ref m_hasIf, .ref m_becomes, .ref m_goneOf, .ref m_heard, .ref m_pairs, .ref m_heaps, .int 0, .int 0, .ref m_led, .ref m_newAt, .ref m_knowing, .ref m_firsts, .int 0, .ref m_secrets, .ref m_tried, .ref m_lanes, .ref m_lengths, .ref m_cells])), (m_lanes, .inl (E.2.1 1, 4, .inl fl))]) (k' := 168) (n' := 11526) C (run_V (As := [.int a1, .int a2, .int a3, .int a4]) (rest := []) C (x_read X.2.1 E hx a1 a2 a3 a4 qn qp qs qj ql qh qk qr qg qsh fs s0 s1 s2 s3 s0c s1c s2c s3c k_fs_0 k_fs_1 k_fs_2 k_fs_3) mi_X11_read wl_L_164 rfl 0 11 rfl rfl rfl rfl rfl dL_law_1384) [0, 1, 2, 3, 4, 5] [6, 7] rfl rfl rfl rfl (fun r u hw => ?_)
  rcases hw with ⟨rfl, rfl, h_1⟩ | ⟨rfl, rfl, h_2, h_3, h_4, h_5, h_6, h_7⟩
  · refine ww_eq (ws' := [(hm, .inr (12, [.ref m_manys, .ref m_reals, .ref m_factsOf, .ref m_possible, .int 0, .int 0, .ref m_tape, .int 0, .int 0, .int 0, .int 0, .int 0, .int 0, .int 0, .int 0, .ref m_ends, .ref m_letters, .ref m_actOf, .ref m_whom, .ref m_actMany, .ref m_tokens, .ref m_afters, .ref m_afterOf, .int 0, .ref m_pile, .ref m_caseMany, .ref m_happen, .ref m_hasIf, .ref m_becomes, .ref m_goneOf, .ref m_heard, .ref m_pairs, .ref m_heaps, .int 0, .int 0, .ref m_led, .ref m_newAt, .ref m_knowing, .ref m_firsts, .int 0, .ref m_secrets, .ref m_tried, .ref m_lanes, .ref m_lengths, .ref m_cells])), (m_lanes, .inl (E.2.1 1, 4, .inl fl))]) ?_ rfl rfl rfl
    refine ww_aload_n C dL_law_1387 1 rfl rfl ?_
    refine ww_aload_n C dL_law_1388 3 rfl rfl ?_
    refine ww_iload_n C dL_law_1389 0 rfl rfl ?_
    refine ww_iconst (v := 1) C dL_law_1390 rfl ?_
    refine ww_iadd (v := 1) C dL_law_1391 (by decide) ?_
    refine ww_sld (v := a1) C hs (vin rfl) ea1 dL_law_1392 ?_
    refine ww_aload_n C dL_law_1393 3 rfl rfl ?_
    refine ww_iload_n C dL_law_1394 0 rfl rfl ?_
    refine ww_iconst (v := 2) C dL_law_1395 rfl ?_
    refine ww_iadd (v := 2) C dL_law_1396 (by decide) ?_
    refine ww_sld (v := a2) C hs (vin rfl) ea2 dL_law_1397 ?_
    refine ww_aload_n C dL_law_1398 3 rfl rfl ?_
    refine ww_iload_n C dL_law_1399 0 rfl rfl ?_
    refine ww_iconst (v := 3) C dL_law_1400 rfl ?_
    refine ww_iadd (v := 3) C dL_law_1401 (by decide) ?_
    refine ww_sld (v := a3) C hs (vin rfl) ea3 dL_law_1402 ?_
    refine ww_aload_n C dL_law_1403 3 rfl rfl ?_
    refine ww_iload_n C dL_law_1404 0 rfl rfl ?_
    refine ww_iconst (v := 4) C dL_law_1405 rfl ?_
    refine ww_iadd (v := 4) C dL_law_1406 (by decide) ?_
    refine ww_sld (v := a4) C hs (vin rfl) ea4 dL_law_1407 ?_
    refine ww_ci (wr := []) (k' := 168) (n' := 11526) C (run_V (As := [.int a1, .int a2, .int a3, .int a4]) (rest := [.int (-1)]) C (y_read X.2.1 E hm a1 a2 a3 a4 m_manys m_reals m_factsOf m_possible m_tape m_ends m_letters m_actOf m_whom m_actMany m_tokens m_afters m_afterOf m_pile m_caseMany m_happen m_hasIf m_becomes m_goneOf m_heard m_pairs m_heaps m_led m_newAt m_knowing m_firsts m_secrets m_tried m_lanes m_lengths m_cells fl k_fl_0 k_fl_1 k_fl_2 k_fl_3) mi_X12_read wl_L_167 rfl 0 12 rfl rfl rfl rfl rfl dL_law_1408) [0, 1] [] rfl rfl rfl rfl (fun r u hw => ?_)
    rcases hw with ⟨rfl, rfl, h_8⟩ | ⟨rfl, rfl, h_9, h_10, h_11, h_12, h_13, h_14⟩
    · refine ww_eq (ws' := []) ?_ rfl rfl rfl
      refine ww_icmp_eq_t (tgt := 1452) C dL_law_1411 (by decide) (rfl) ?_
      exact ww_sub [] rfl rfl kk
    · refine ww_eq (ws' := []) ?_ rfl rfl rfl
      omega
  · refine ww_eq (ws' := [(hm, .inr (12, [.ref m_manys, .ref m_reals, .ref m_factsOf, .ref m_possible, .int 0, .int 0, .ref m_tape, .int 0, .int 0, .int 0, .int 0, .int 0, .int 0, .int 0, .int 0, .ref m_ends, .ref m_letters, .ref m_actOf, .ref m_whom, .ref m_actMany, .ref m_tokens, .ref m_afters, .ref m_afterOf, .int 0, .ref m_pile, .ref m_caseMany, .ref m_happen, .ref m_hasIf, .ref m_becomes, .ref m_goneOf, .ref m_heard, .ref m_pairs, .ref m_heaps, .int 0, .int 0, .ref m_led, .ref m_newAt, .ref m_knowing, .ref m_firsts, .int 0, .ref m_secrets, .ref m_tried, .ref m_lanes, .ref m_lengths, .ref m_cells])), (m_lanes, .inl (E.2.1 1, 4, .inl fl))]) ?_ rfl rfl rfl
    refine ww_aload_n C dL_law_1387 1 rfl rfl ?_
    refine ww_aload_n C dL_law_1388 3 rfl rfl ?_
    refine ww_iload_n C dL_law_1389 0 rfl rfl ?_
    refine ww_iconst (v := 1) C dL_law_1390 rfl ?_
    refine ww_iadd (v := 1) C dL_law_1391 (by decide) ?_
    refine ww_sld (v := a1) C hs (vin rfl) ea1 dL_law_1392 ?_
    refine ww_aload_n C dL_law_1393 3 rfl rfl ?_
    refine ww_iload_n C dL_law_1394 0 rfl rfl ?_
    refine ww_iconst (v := 2) C dL_law_1395 rfl ?_
    refine ww_iadd (v := 2) C dL_law_1396 (by decide) ?_
    refine ww_sld (v := a2) C hs (vin rfl) ea2 dL_law_1397 ?_
    refine ww_aload_n C dL_law_1398 3 rfl rfl ?_
    refine ww_iload_n C dL_law_1399 0 rfl rfl ?_
    refine ww_iconst (v := 3) C dL_law_1400 rfl ?_
    refine ww_iadd (v := 3) C dL_law_1401 (by decide) ?_
    refine ww_sld (v := a3) C hs (vin rfl) ea3 dL_law_1402 ?_
    refine ww_aload_n C dL_law_1403 3 rfl rfl ?_
    refine ww_iload_n C dL_law_1404 0 rfl rfl ?_
    refine ww_iconst (v := 4) C dL_law_1405 rfl ?_
    refine ww_iadd (v := 4) C dL_law_1406 (by decide) ?_
    refine ww_sld (v := a4) C hs (vin rfl) ea4 dL_law_1407 ?_
    refine ww_ci (wr := []) (k' := 168) (n' := 11526) C (run_V (As := [.int a1, .int a2, .int a3, .int a4]) (rest := [.int (-11)]) C (y_read X.2.1 E hm a1 a2 a3 a4 m_manys m_reals m_factsOf m_possible m_tape m_ends m_letters m_actOf m_whom m_actMany m_tokens m_afters m_afterOf m_pile m_caseMany m_happen m_hasIf m_becomes m_goneOf m_heard m_pairs m_heaps m_led m_newAt m_knowing m_firsts m_secrets m_tried m_lanes m_lengths m_cells fl k_fl_0 k_fl_1 k_fl_2 k_fl_3) mi_X12_read wl_L_167 rfl 0 12 rfl rfl rfl rfl rfl dL_law_1408) [0, 1] [] rfl rfl rfl rfl (fun r u hw => ?_)
    rcases hw with ⟨rfl, rfl, h_15⟩ | ⟨rfl, rfl, h_16, h_17, h_18, h_19, h_20, h_21⟩
    · refine ww_eq (ws' := []) ?_ rfl rfl rfl
      omega
    · refine ww_eq (ws' := []) ?_ rfl rfl rfl
      refine ww_icmp_eq_t (tgt := 1452) C dL_law_1411 (by decide) (rfl) ?_
      exact ww_sub [] rfl rfl kk
theorem dL_law_1416 : decode cL_law 1416 = .ok (.aload_n 1, 1) := by decide +kernel
theorem dL_law_1417 : decode cL_law 1417 = .ok (.invokevirtual 168, 3) := by decide +kernel
theorem wl_L_168 : Cond.methodLink RL 168 yX11_undo ∈ TB := tbm (tq5 (List.mem_of_getElem? (i := 56) (by decide +kernel))) (by decide +kernel)
theorem wc_X11_undo : Cond.code yX11_undo cX11_undo 1 (some .int) ∈ TB := tbm (tq5 (List.mem_of_getElem? (i := 59) (rfl))) (by decide +kernel)
theorem wi_X11_undo : Cond.instanceMethod yX11_undo ∈ TB := tbm (tq5 (List.mem_of_getElem? (i := 57) (by decide +kernel))) (by decide +kernel)
theorem ws_X11_undo : Cond.selects RX11 yX11_undo yX11_undo ∈ TB := tbm (tq5 (List.mem_of_getElem? (i := 58) (by decide +kernel))) (by decide +kernel)
theorem mi_X11_undo : MI yX11_undo cX11_undo 1 (some .int) 0 := ⟨wc_X11_undo, wn_X11, ⟨by decide +kernel, by decide +kernel, by decide +kernel⟩, wi_X11_undo, ws_X11_undo⟩
theorem dL_law_1420 : decode cL_law 1420 = .ok (.aload_n 2, 1) := by decide +kernel
theorem dL_law_1421 : decode cL_law 1421 = .ok (.invokevirtual 171, 3) := by decide +kernel
theorem wl_L_171 : Cond.methodLink RL 171 yX12_undo ∈ TB := tbm (tq7 (List.mem_of_getElem? (i := 89) (by decide +kernel))) (by decide +kernel)
theorem wc_X12_undo : Cond.code yX12_undo cX12_undo 1 (some .int) ∈ TB := tbm (tq7 (List.mem_of_getElem? (i := 92) (rfl))) (by decide +kernel)
theorem wi_X12_undo : Cond.instanceMethod yX12_undo ∈ TB := tbm (tq7 (List.mem_of_getElem? (i := 90) (by decide +kernel))) (by decide +kernel)
theorem ws_X12_undo : Cond.selects RX12 yX12_undo yX12_undo ∈ TB := tbm (tq7 (List.mem_of_getElem? (i := 91) (by decide +kernel))) (by decide +kernel)
theorem mi_X12_undo : MI yX12_undo cX12_undo 1 (some .int) 0 := ⟨wc_X12_undo, wn_X12, ⟨by decide +kernel, by decide +kernel, by decide +kernel⟩, wi_X12_undo, ws_X12_undo⟩
theorem dL_law_1424 : decode cL_law 1424 = .ok (.if_icmp .eq 28, 3) := by decide +kernel
set_option maxRecDepth 100000 in
set_option maxHeartbeats 4000000 in
theorem lawc_undo {X : XT} {E : EV} {xs : Nat → Int32} (bb : Nat) (hx : Nat) (hm : Nat) (qn : Nat) (qp : Nat) (qs : Nat) (qj : Nat) (ql : Nat) (qh : Nat) (qk : Nat) (qr : Nat) (qg : Nat) (qsh : Nat) (m_manys : Nat) (m_reals : Nat) (m_factsOf : Nat) (m_possible : Nat) (m_tape : Nat) (m_ends : Nat) (m_letters : Nat) (m_actOf : Nat) (m_whom : Nat) (m_actMany : Nat) (m_tokens : Nat) (m_afters : Nat) (m_afterOf : Nat) (m_pile : Nat) (m_caseMany : Nat) (m_happen : Nat) (m_hasIf : Nat) (m_becomes : Nat) (m_goneOf : Nat) (m_heard : Nat) (m_pairs : Nat) (m_heaps : Nat) (m_led : Nat) (m_newAt : Nat) (m_knowing : Nat) (m_firsts : Nat) (m_secrets : Nat) (m_tried : Nat) (m_lanes : Nat) (m_lengths : Nat) (m_cells : Nat) (C : CX X room_1 cL_law 4 RL ret E) (hs : SX X bb 6 xs)  (a0 : Int32) (a1 : Int32) (a2 : Int32) (a3 : Int32) (a4 : Int32) (a5 : Int32) (ea0 : xs 0 = a0) (ea1 : xs 1 = a1) (ea2 : xs 2 = a2) (ea3 : xs 3 = a3) (ea4 : xs 4 = a4) (ea5 : xs 5 = a5) (kk : WW X 4 E 1452 [(3, .int 0), (2, .ref hm), (1, .ref hx), (0, .ref bb)] [] [] 168 11526) : WW X 4 E 1416 [(3, .int 0), (2, .ref hm), (1, .ref hx), (0, .ref bb)] [] [(hx, .inr (11, [.ref qn, .ref qp, .int 0, .int 0, .ref qs, .ref qj, .ref ql, .ref qh, .ref qk, .int 0, .ref qr, .ref qg, .int 0, .int 0, .ref qsh])), (hm, .inr (12, [.ref m_manys, .ref m_reals, .ref m_factsOf, .ref m_possible, .int 0, .int 0, .ref m_tape, .int 0, .int 0, .int 0, .int 0, .int 0, .int 0, .int 0, .int 0, .ref m_ends, .ref m_letters, .ref m_actOf, .ref m_whom, .ref m_actMany, .ref m_tokens, .ref m_afters, .ref m_afterOf, .int 0, .ref m_pile, .ref m_caseMany, .ref m_happen, .ref m_hasIf, .ref m_becomes, .ref m_goneOf, .ref m_heard, .ref m_pairs, .ref m_heaps, .int 0, .int 0, .ref m_led, .ref m_newAt, .ref m_knowing, .ref m_firsts, .int 0, .ref m_secrets, .ref m_tried, .ref m_lanes, .ref m_lengths, .ref m_cells]))] 168 11526 := by
  refine ww_aload_n C dL_law_1416 2 rfl rfl ?_
  refine ww_ci (wr := [(hm, .inr (12, [.ref m_manys, .ref m_reals, .ref m_factsOf, .ref m_possible, .int 0, .int 0, .ref m_tape, .int 0, .int 0, .int 0, .int 0, .int 0, .int 0, .int 0, .int 0, .ref m_ends, .ref m_letters, .ref m_actOf, .ref m_whom, .ref m_actMany, .ref m_tokens, .ref m_afters, .ref m_afterOf, .int 0, .ref m_pile, .ref m_caseMany, .ref m_happen, .ref m_hasIf, .ref m_becomes, .ref m_goneOf, .ref m_heard, .ref m_pairs, .ref m_heaps, .int 0, .int 0, .ref m_led, .ref m_newAt, .ref m_knowing, .ref m_firsts, .int 0, .ref m_secrets, .ref m_tried, .ref m_lanes, .ref m_lengths, .ref m_cells]))]) (k' := 168) (n' := 11526) C (run_V (As := []) (rest := []) C (x_undo X.2.1 E hx qn qp qs qj ql qh qk qr qg qsh) mi_X11_undo wl_L_168 rfl 0 11 rfl rfl rfl rfl rfl dL_law_1417) [0] [1] rfl rfl rfl rfl (fun r u hw => ?_)
  obtain ⟨rfl, rfl⟩ := hw
  refine ww_eq (ws' := [(hm, .inr (12, [.ref m_manys, .ref m_reals, .ref m_factsOf, .ref m_possible, .int 0, .int 0, .ref m_tape, .int 0, .int 0, .int 0, .int 0, .int 0, .int 0, .int 0, .int 0, .ref m_ends, .ref m_letters, .ref m_actOf, .ref m_whom, .ref m_actMany, .ref m_tokens, .ref m_afters, .ref m_afterOf, .int 0, .ref m_pile, .ref m_caseMany, .ref m_happen, .ref m_hasIf, .ref m_becomes, .ref m_goneOf, .ref m_heard, .ref m_pairs, .ref m_heaps, .int 0, .int 0, .ref m_led, .ref m_newAt, .ref m_knowing, .ref m_firsts, .int 0, .ref m_secrets, .ref m_tried, .ref m_lanes, .ref m_lengths, .ref m_cells]))]) ?_ rfl rfl rfl
  refine ww_aload_n C dL_law_1420 1 rfl rfl ?_
  refine ww_ci (wr := []) (k' := 168) (n' := 11526) C (run_V (As := []) (rest := [.int (-4)]) C (y_undo X.2.1 E hm m_manys m_reals m_factsOf m_possible m_tape m_ends m_letters m_actOf m_whom m_actMany m_tokens m_afters m_afterOf m_pile m_caseMany m_happen m_hasIf m_becomes m_goneOf m_heard m_pairs m_heaps m_led m_newAt m_knowing m_firsts m_secrets m_tried m_lanes m_lengths m_cells) mi_X12_undo wl_L_171 rfl 0 12 rfl rfl rfl rfl rfl dL_law_1421) [0] [] rfl rfl rfl rfl (fun r u hw => ?_)
  obtain ⟨rfl, rfl⟩ := hw
  refine ww_eq (ws' := []) ?_ rfl rfl rfl
  refine ww_icmp_eq_t (tgt := 1452) C dL_law_1424 (by decide) (rfl) ?_
  exact ww_sub [] rfl rfl kk
theorem dL_law_1429 : decode cL_law 1429 = .ok (.aload_n 1, 1) := by decide +kernel
theorem dL_law_1430 : decode cL_law 1430 = .ok (.aload_n 0, 1) := by decide +kernel
theorem dL_law_1431 : decode cL_law 1431 = .ok (.iload_n 3, 1) := by decide +kernel
theorem dL_law_1432 : decode cL_law 1432 = .ok (.iconst 1, 1) := by decide +kernel
theorem dL_law_1433 : decode cL_law 1433 = .ok (.iadd, 1) := by decide +kernel
theorem dL_law_1434 : decode cL_law 1434 = .ok (.iaload, 1) := by decide +kernel
theorem dL_law_1435 : decode cL_law 1435 = .ok (.invokevirtual 172, 3) := by decide +kernel
theorem wl_L_172 : Cond.methodLink RL 172 yX11_count ∈ TB := tbm (tq5 (List.mem_of_getElem? (i := 60) (by decide +kernel))) (by decide +kernel)
theorem wc_X11_count : Cond.code yX11_count cX11_count 2 (some .int) ∈ TB := tbm (tq5 (List.mem_of_getElem? (i := 63) (rfl))) (by decide +kernel)
theorem wi_X11_count : Cond.instanceMethod yX11_count ∈ TB := tbm (tq5 (List.mem_of_getElem? (i := 61) (by decide +kernel))) (by decide +kernel)
theorem ws_X11_count : Cond.selects RX11 yX11_count yX11_count ∈ TB := tbm (tq5 (List.mem_of_getElem? (i := 62) (by decide +kernel))) (by decide +kernel)
theorem mi_X11_count : MI yX11_count cX11_count 2 (some .int) 1 := ⟨wc_X11_count, wn_X11, ⟨by decide +kernel, by decide +kernel, by decide +kernel⟩, wi_X11_count, ws_X11_count⟩
theorem dL_law_1438 : decode cL_law 1438 = .ok (.aload_n 2, 1) := by decide +kernel
theorem dL_law_1439 : decode cL_law 1439 = .ok (.aload_n 0, 1) := by decide +kernel
theorem dL_law_1440 : decode cL_law 1440 = .ok (.iload_n 3, 1) := by decide +kernel
theorem dL_law_1441 : decode cL_law 1441 = .ok (.iconst 1, 1) := by decide +kernel
theorem dL_law_1442 : decode cL_law 1442 = .ok (.iadd, 1) := by decide +kernel
theorem dL_law_1443 : decode cL_law 1443 = .ok (.iaload, 1) := by decide +kernel
theorem dL_law_1444 : decode cL_law 1444 = .ok (.invokevirtual 175, 3) := by decide +kernel
theorem wl_L_175 : Cond.methodLink RL 175 yX12_count ∈ TB := tbm (tq7 (List.mem_of_getElem? (i := 93) (by decide +kernel))) (by decide +kernel)
theorem wc_X12_count : Cond.code yX12_count cX12_count 5 (some .int) ∈ TB := tbm (tq7 (List.mem_of_getElem? (i := 96) (rfl))) (by decide +kernel)
theorem wi_X12_count : Cond.instanceMethod yX12_count ∈ TB := tbm (tq7 (List.mem_of_getElem? (i := 94) (by decide +kernel))) (by decide +kernel)
theorem ws_X12_count : Cond.selects RX12 yX12_count yX12_count ∈ TB := tbm (tq7 (List.mem_of_getElem? (i := 95) (by decide +kernel))) (by decide +kernel)
theorem mi_X12_count : MI yX12_count cX12_count 5 (some .int) 1 := ⟨wc_X12_count, wn_X12, ⟨by decide +kernel, by decide +kernel, by decide +kernel⟩, wi_X12_count, ws_X12_count⟩
theorem dL_law_1447 : decode cL_law 1447 = .ok (.if_icmp .eq 5, 3) := by decide +kernel
set_option maxRecDepth 100000 in
set_option maxHeartbeats 4000000 in
theorem lawc_count {X : XT} {E : EV} {xs : Nat → Int32} (bb : Nat) (hx : Nat) (hm : Nat) (qn : Nat) (qp : Nat) (qs : Nat) (qj : Nat) (ql : Nat) (qh : Nat) (qk : Nat) (qr : Nat) (qg : Nat) (qsh : Nat) (nf : Nat) (np : Nat) (qt : Nat) (sa : Nat) (sb : Nat) (sc : Nat) (sd : Nat) (tb : Nat) (jt : Nat) (je : Nat) (ju : Nat) (ja : Nat) (fe : Nat → Option Nat) (e0 : Nat) (e1 : Nat) (e2 : Nat) (e3 : Nat) (e0a : Nat) (e0b : Nat) (e0c : Nat) (e0d : Nat) (e1a : Nat) (e1b : Nat) (e1c : Nat) (e1d : Nat) (e2a : Nat) (e2b : Nat) (e2c : Nat) (e2d : Nat) (e3a : Nat) (e3b : Nat) (e3c : Nat) (e3d : Nat) (fs : Nat → Option Nat) (s0 : Nat) (s1 : Nat) (s2 : Nat) (s3 : Nat) (s0c : Nat) (m_manys : Nat) (m_reals : Nat) (m_factsOf : Nat) (m_possible : Nat) (m_tape : Nat) (m_ends : Nat) (m_letters : Nat) (m_actOf : Nat) (m_whom : Nat) (m_actMany : Nat) (m_tokens : Nat) (m_afters : Nat) (m_afterOf : Nat) (m_pile : Nat) (m_caseMany : Nat) (m_happen : Nat) (m_hasIf : Nat) (m_becomes : Nat) (m_goneOf : Nat) (m_heard : Nat) (m_pairs : Nat) (m_heaps : Nat) (m_led : Nat) (m_newAt : Nat) (m_knowing : Nat) (m_firsts : Nat) (m_secrets : Nat) (m_tried : Nat) (m_lanes : Nat) (m_lengths : Nat) (m_cells : Nat) (fl : Nat → Int32) (C : CX X room_1 cL_law 4 RL ret E) (hs : SX X bb 6 xs) (k_fe_0 : fe 0 = some e0) (k_fe_1 : fe 1 = some e1) (k_fe_2 : fe 2 = some e2) (k_fe_3 : fe 3 = some e3) (k_fs_0 : fs 0 = some s0) (k_fs_1 : fs 1 = some s1) (k_fs_2 : fs 2 = some s2) (k_fs_3 : fs 3 = some s3) (k_fl_0 : fl 0 = (-4)) (k_fl_1 : fl 1 = (-4)) (k_fl_2 : fl 2 = (-4)) (k_fl_3 : fl 3 = (-4)) (a0 : Int32) (a1 : Int32) (a2 : Int32) (a3 : Int32) (a4 : Int32) (a5 : Int32) (ea0 : xs 0 = a0) (ea1 : xs 1 = a1) (ea2 : xs 2 = a2) (ea3 : xs 3 = a3) (ea4 : xs 4 = a4) (ea5 : xs 5 = a5) (kk : WW X 4 E 1452 [(3, .int 0), (2, .ref hm), (1, .ref hx), (0, .ref bb)] [] [] 168 11526) : WW X 4 E 1429 [(3, .int 0), (2, .ref hm), (1, .ref hx), (0, .ref bb)] [] [(hx, .inr (11, [.ref qn, .ref qp, .int 0, .int 0, .ref qs, .ref qj, .ref ql, .ref qh, .ref qk, .int 0, .ref qr, .ref qg, .int 0, .int 0, .ref qsh])), (qn, .inr (4, [.int 0, .int 0, .ref nf, .ref np])), (nf, .inl (E.2.1 1, 24, .inl (fun _ => 0))), (np, .inl (E.2.1 1, 96, .inl (fun _ => 0))), (qs, .inr (5, [.ref qt, .ref sa, .ref sb, .ref sc, .ref sd, .int 0, .int 0, .int 0, .int 0, .int 0])), (qt, .inr (10, [.ref tb, .int 0, .int 0, .int 0, .int 0])), (tb, .inl (E.2.1 0, 160, .inl (fun _ => 0))), (qj, .inr (2, [.ref jt, .ref je, .ref ju, .ref ja])), (jt, .inl (E.2.1 7, 8, .inr (.inr (.inr (.inr (fun _ => none)))))), (je, .inl (E.2.1 4, 4, .inr (.inr (.inr (.inr fe))))), (e0, .inr (0, [.int 0, .int 0, .ref e0a, .ref e0b, .ref e0c, .ref e0d])), (e1, .inr (0, [.int 0, .int 0, .ref e1a, .ref e1b, .ref e1c, .ref e1d])), (e2, .inr (0, [.int 0, .int 0, .ref e2a, .ref e2b, .ref e2c, .ref e2d])), (e3, .inr (0, [.int 0, .int 0, .ref e3a, .ref e3b, .ref e3c, .ref e3d])), (qsh, .inl (E.2.1 8, 4, .inr (.inr (.inr (.inr fs))))), (s0, .inr (9, [.int 0, .int 0, .int 0, .ref s0c])), (hm, .inr (12, [.ref m_manys, .ref m_reals, .ref m_factsOf, .ref m_possible, .int 0, .int 0, .ref m_tape, .int 0, .int 0, .int 0, .int 0, .int 0, .int 0, .int 0, .int 0, .ref m_ends, .ref m_letters, .ref m_actOf, .ref m_whom, .ref m_actMany, .ref m_tokens, .ref m_afters, .ref m_afterOf, .int 0, .ref m_pile, .ref m_caseMany, .ref m_happen, .ref m_hasIf, .ref m_becomes, .ref m_goneOf, .ref m_heard, .ref m_pairs, .ref m_heaps, .int 0, .int 0, .ref m_led, .ref m_newAt, .ref m_knowing, .ref m_firsts, .int 0, .ref m_secrets, .ref m_tried, .ref m_lanes, .ref m_lengths, .ref m_cells])), (m_manys, .inl (E.2.1 1, 18, .inl (fun _ => 0))), (m_tokens, .inl (E.2.1 1, 9, .inl (fun _ => 0))), (m_caseMany, .inl (E.2.1 1, 4, .inl (fun _ => 0))), (m_lanes, .inl (E.2.1 1, 4, .inl fl))] 168 11526 := by
  refine ww_aload_n C dL_law_1429 2 rfl rfl ?_
  refine ww_aload_n C dL_law_1430 3 rfl rfl ?_
  refine ww_iload_n C dL_law_1431 0 rfl rfl ?_
  refine ww_iconst (v := 1) C dL_law_1432 rfl ?_
  refine ww_iadd (v := 1) C dL_law_1433 (by decide) ?_
  refine ww_sld (v := a1) C hs (vin rfl) ea1 dL_law_1434 ?_
  refine ww_ci (wr := [(hm, .inr (12, [.ref m_manys, .ref m_reals, .ref m_factsOf, .ref m_possible, .int 0, .int 0, .ref m_tape, .int 0, .int 0, .int 0, .int 0, .int 0, .int 0, .int 0, .int 0, .ref m_ends, .ref m_letters, .ref m_actOf, .ref m_whom, .ref m_actMany, .ref m_tokens, .ref m_afters, .ref m_afterOf, .int 0, .ref m_pile, .ref m_caseMany, .ref m_happen, .ref m_hasIf, .ref m_becomes, .ref m_goneOf, .ref m_heard, .ref m_pairs, .ref m_heaps, .int 0, .int 0, .ref m_led, .ref m_newAt, .ref m_knowing, .ref m_firsts, .int 0, .ref m_secrets, .ref m_tried, .ref m_lanes, .ref m_lengths, .ref m_cells])), (m_manys, .inl (E.2.1 1, 18, .inl (fun _ => 0))), (m_tokens, .inl (E.2.1 1, 9, .inl (fun _ => 0))), (m_caseMany, .inl (E.2.1 1, 4, .inl (fun _ => 0))), (m_lanes, .inl (E.2.1 1, 4, .inl fl))]) (k' := 168) (n' := 11526) C (run_V (As := [.int a1]) (rest := []) C (x_count X.2.1 E hx a1 qn qp qs qj ql qh qk qr qg qsh nf np qt sa sb sc sd tb jt je ju ja fe e0 e1 e2 e3 e0a e0b e0c e0d e1a e1b e1c e1d e2a e2b e2c e2d e3a e3b e3c e3d fs s0 s1 s2 s3 s0c k_fe_0 k_fe_1 k_fe_2 k_fe_3 k_fs_0 k_fs_1 k_fs_2 k_fs_3) mi_X11_count wl_L_172 rfl 0 11 rfl rfl rfl rfl rfl dL_law_1435) [0, 1, 2, 3, 4, 5, 6, 7, 8, 9, 10, 11, 12, 13, 14, 15] [16, 17, 18, 19, 20] rfl rfl rfl rfl (fun r u hw => ?_)
  rcases hw with ⟨rfl, rfl, h_1⟩ | ⟨rfl, rfl, h_2, h_3, h_4⟩ | ⟨rfl, rfl, h_5⟩
  · refine ww_eq (ws' := [(hm, .inr (12, [.ref m_manys, .ref m_reals, .ref m_factsOf, .ref m_possible, .int 0, .int 0, .ref m_tape, .int 0, .int 0, .int 0, .int 0, .int 0, .int 0, .int 0, .int 0, .ref m_ends, .ref m_letters, .ref m_actOf, .ref m_whom, .ref m_actMany, .ref m_tokens, .ref m_afters, .ref m_afterOf, .int 0, .ref m_pile, .ref m_caseMany, .ref m_happen, .ref m_hasIf, .ref m_becomes, .ref m_goneOf, .ref m_heard, .ref m_pairs, .ref m_heaps, .int 0, .int 0, .ref m_led, .ref m_newAt, .ref m_knowing, .ref m_firsts, .int 0, .ref m_secrets, .ref m_tried, .ref m_lanes, .ref m_lengths, .ref m_cells])), (m_manys, .inl (E.2.1 1, 18, .inl (fun _ => 0))), (m_tokens, .inl (E.2.1 1, 9, .inl (fun _ => 0))), (m_caseMany, .inl (E.2.1 1, 4, .inl (fun _ => 0))), (m_lanes, .inl (E.2.1 1, 4, .inl fl))]) ?_ rfl rfl rfl
    refine ww_aload_n C dL_law_1438 1 rfl rfl ?_
    refine ww_aload_n C dL_law_1439 3 rfl rfl ?_
    refine ww_iload_n C dL_law_1440 0 rfl rfl ?_
    refine ww_iconst (v := 1) C dL_law_1441 rfl ?_
    refine ww_iadd (v := 1) C dL_law_1442 (by decide) ?_
    refine ww_sld (v := a1) C hs (vin rfl) ea1 dL_law_1443 ?_
    refine ww_ci (wr := []) (k' := 168) (n' := 11526) C (run_V (As := [.int a1]) (rest := [.int (-1)]) C (y_count X.2.1 E hm a1 m_manys m_reals m_factsOf m_possible m_tape m_ends m_letters m_actOf m_whom m_actMany m_tokens m_afters m_afterOf m_pile m_caseMany m_happen m_hasIf m_becomes m_goneOf m_heard m_pairs m_heaps m_led m_newAt m_knowing m_firsts m_secrets m_tried m_lanes m_lengths m_cells fl k_fl_0 k_fl_1 k_fl_2 k_fl_3) mi_X12_count wl_L_175 rfl 0 12 rfl rfl rfl rfl rfl dL_law_1444) [0, 2, 3, 1, 4] [] rfl rfl rfl rfl (fun r u hw => ?_)
    rcases hw with ⟨rfl, rfl, h_6⟩ | ⟨rfl, rfl, h_7, h_8, h_9⟩ | ⟨rfl, rfl, h_10⟩
    · refine ww_eq (ws' := []) ?_ rfl rfl rfl
      refine ww_icmp_eq_t (tgt := 1452) C dL_law_1447 (by decide) (rfl) ?_
      exact ww_sub [] rfl rfl kk
    · refine ww_eq (ws' := []) ?_ rfl rfl rfl
      omega
    · refine ww_eq (ws' := []) ?_ rfl rfl rfl
      omega
  · refine ww_eq (ws' := [(hm, .inr (12, [.ref m_manys, .ref m_reals, .ref m_factsOf, .ref m_possible, .int 0, .int 0, .ref m_tape, .int 0, .int 0, .int 0, .int 0, .int 0, .int 0, .int 0, .int 0, .ref m_ends, .ref m_letters, .ref m_actOf, .ref m_whom, .ref m_actMany, .ref m_tokens, .ref m_afters, .ref m_afterOf, .int 0, .ref m_pile, .ref m_caseMany, .ref m_happen, .ref m_hasIf, .ref m_becomes, .ref m_goneOf, .ref m_heard, .ref m_pairs, .ref m_heaps, .int 0, .int 0, .ref m_led, .ref m_newAt, .ref m_knowing, .ref m_firsts, .int 0, .ref m_secrets, .ref m_tried, .ref m_lanes, .ref m_lengths, .ref m_cells])), (m_manys, .inl (E.2.1 1, 18, .inl (fun _ => 0))), (m_tokens, .inl (E.2.1 1, 9, .inl (fun _ => 0))), (m_caseMany, .inl (E.2.1 1, 4, .inl (fun _ => 0))), (m_lanes, .inl (E.2.1 1, 4, .inl fl))]) ?_ rfl rfl rfl
    refine ww_aload_n C dL_law_1438 1 rfl rfl ?_
    refine ww_aload_n C dL_law_1439 3 rfl rfl ?_
    refine ww_iload_n C dL_law_1440 0 rfl rfl ?_
    refine ww_iconst (v := 1) C dL_law_1441 rfl ?_
    refine ww_iadd (v := 1) C dL_law_1442 (by decide) ?_
    refine ww_sld (v := a1) C hs (vin rfl) ea1 dL_law_1443 ?_
    refine ww_ci (wr := []) (k' := 168) (n' := 11526) C (run_V (As := [.int a1]) (rest := [.int 0]) C (y_count X.2.1 E hm a1 m_manys m_reals m_factsOf m_possible m_tape m_ends m_letters m_actOf m_whom m_actMany m_tokens m_afters m_afterOf m_pile m_caseMany m_happen m_hasIf m_becomes m_goneOf m_heard m_pairs m_heaps m_led m_newAt m_knowing m_firsts m_secrets m_tried m_lanes m_lengths m_cells fl k_fl_0 k_fl_1 k_fl_2 k_fl_3) mi_X12_count wl_L_175 rfl 0 12 rfl rfl rfl rfl rfl dL_law_1444) [0, 2, 3, 1, 4] [] rfl rfl rfl rfl (fun r u hw => ?_)
    rcases hw with ⟨rfl, rfl, h_11⟩ | ⟨rfl, rfl, h_12, h_13, h_14⟩ | ⟨rfl, rfl, h_15⟩
    · refine ww_eq (ws' := []) ?_ rfl rfl rfl
      omega
    · refine ww_eq (ws' := []) ?_ rfl rfl rfl
      refine ww_icmp_eq_t (tgt := 1452) C dL_law_1447 (by decide) (rfl) ?_
      exact ww_sub [] rfl rfl kk
    · refine ww_eq (ws' := []) ?_ rfl rfl rfl
      omega
  · refine ww_eq (ws' := [(hm, .inr (12, [.ref m_manys, .ref m_reals, .ref m_factsOf, .ref m_possible, .int 0, .int 0, .ref m_tape, .int 0, .int 0, .int 0, .int 0, .int 0, .int 0, .int 0, .int 0, .ref m_ends, .ref m_letters, .ref m_actOf, .ref m_whom, .ref m_actMany, .ref m_tokens, .ref m_afters, .ref m_afterOf, .int 0, .ref m_pile, .ref m_caseMany, .ref m_happen, .ref m_hasIf, .ref m_becomes, .ref m_goneOf, .ref m_heard, .ref m_pairs, .ref m_heaps, .int 0, .int 0, .ref m_led, .ref m_newAt, .ref m_knowing, .ref m_firsts, .int 0, .ref m_secrets, .ref m_tried, .ref m_lanes, .ref m_lengths, .ref m_cells])), (m_manys, .inl (E.2.1 1, 18, .inl (fun _ => 0))), (m_tokens, .inl (E.2.1 1, 9, .inl (fun _ => 0))), (m_caseMany, .inl (E.2.1 1, 4, .inl (fun _ => 0))), (m_lanes, .inl (E.2.1 1, 4, .inl fl))]) ?_ rfl rfl rfl
    refine ww_aload_n C dL_law_1438 1 rfl rfl ?_
    refine ww_aload_n C dL_law_1439 3 rfl rfl ?_
    refine ww_iload_n C dL_law_1440 0 rfl rfl ?_
    refine ww_iconst (v := 1) C dL_law_1441 rfl ?_
    refine ww_iadd (v := 1) C dL_law_1442 (by decide) ?_
    refine ww_sld (v := a1) C hs (vin rfl) ea1 dL_law_1443 ?_
    refine ww_ci (wr := []) (k' := 168) (n' := 11526) C (run_V (As := [.int a1]) (rest := [.int (-4)]) C (y_count X.2.1 E hm a1 m_manys m_reals m_factsOf m_possible m_tape m_ends m_letters m_actOf m_whom m_actMany m_tokens m_afters m_afterOf m_pile m_caseMany m_happen m_hasIf m_becomes m_goneOf m_heard m_pairs m_heaps m_led m_newAt m_knowing m_firsts m_secrets m_tried m_lanes m_lengths m_cells fl k_fl_0 k_fl_1 k_fl_2 k_fl_3) mi_X12_count wl_L_175 rfl 0 12 rfl rfl rfl rfl rfl dL_law_1444) [0, 2, 3, 1, 4] [] rfl rfl rfl rfl (fun r u hw => ?_)
    rcases hw with ⟨rfl, rfl, h_16⟩ | ⟨rfl, rfl, h_17, h_18, h_19⟩ | ⟨rfl, rfl, h_20⟩
    · refine ww_eq (ws' := []) ?_ rfl rfl rfl
      omega
    · refine ww_eq (ws' := []) ?_ rfl rfl rfl
      omega
    · refine ww_eq (ws' := []) ?_ rfl rfl rfl
      refine ww_icmp_eq_t (tgt := 1452) C dL_law_1447 (by decide) (rfl) ?_
      exact ww_sub [] rfl rfl kk
