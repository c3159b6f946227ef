theorem wc_X11_world : Cond.code yX11_world cX11_world 2 (some .int) ∈ TB := tbm (tq2 (List.mem_of_getElem? (i := 145) (rfl))) (by decide +kernel)
theorem wi_X11_world : Cond.instanceMethod yX11_world ∈ TB := tbm (tq2 (List.mem_of_getElem? (i := 143) (by decide +kernel))) (by decide +kernel)
theorem ws_X11_world : Cond.selects RX11 yX11_world yX11_world ∈ TB := tbm (tq2 (List.mem_of_getElem? (i := 144) (by decide +kernel))) (by decide +kernel)
theorem mi_X11_world : MI yX11_world cX11_world 2 (some .int) 1 := ⟨wc_X11_world, wn_X11, ⟨by decide +kernel, by decide +kernel, by decide +kernel⟩, wi_X11_world, ws_X11_world⟩
theorem wl_L_13 : Cond.methodLink RL 13 yX11_world ∈ TB := tbm (tq2 (List.mem_of_getElem? (i := 142) (by decide +kernel))) (by decide +kernel)
theorem dL_law_206 : decode cL_law 206 = .ok (.invokevirtual 13, 3) := by decide +kernel
set_option maxRecDepth 100000 in
set_option maxHeartbeats 4000000 in
theorem lx_world {X : XT} {E : EV} {ro wT pre : va_W} {lv : List (Nat × Value)} {rest : List Value} {kC nC : Nat} {hx h qp qs qj ly qh kk rd pg ss : Nat} {ac np kc pe : Nat} {kn : Int32} {mN : AM} {pV : Nat → AM} {w_now : va_W} {w_past : va_W} {v0 : Int32}  (C : CX X room_1 cL_law 4 RL ret E) (hW : Nat.ble (rest.map fun v => v.category).sum 8 = true) (hT : wT = pre ++ ro) (hk : kC + 0 ≤ 600000 ∧ nC + 0 ≤ 7302250) (hac : ac ≤ 8) (hnp : np < 8) (hkc : kc ≤ 4) (hpe : pe ≤ 4) (H_now : ok_now E ro h mN w_now) (H_past : ok_past E ro qp pV w_past) (kont : ∀ (rr : Int32) (acZ : Nat) (npZ : Nat) (mNZ : AM) (pVZ : Nat → AM) (w_nowZ : va_W) (w_pastZ : va_W), acZ ≤ 8 → npZ < 8 → ok_now E ro h mNZ w_nowZ → ok_past E ro qp pVZ w_pastZ → (((asX mNZ acZ npZ pVZ), rr) = opWorld (asX mN ac np pV) v0) → WW X 4 E 209 lv (.int rr :: rest) ([(hx, .inr (11, [.ref h, .ref qp, .int (nI acZ), .int (nI npZ), .ref qs, .ref qj, .ref ly, .ref qh, .ref kk, .int (nI kc), .ref rd, .ref pg, .int (nI pe), .int kn, .ref ss]))] ++ (w_nowZ ++ (w_pastZ ++ wT))) kC nC) : WW X 4 E 206 lv (.int v0 :: .ref hx :: rest) ([(hx, .inr (11, [.ref h, .ref qp, .int (nI ac), .int (nI np), .ref qs, .ref qj, .ref ly, .ref qh, .ref kk, .int (nI kc), .ref rd, .ref pg, .int (nI pe), .int kn, .ref ss]))] ++ (w_now ++ (w_past ++ wT))) kC nC := by
  unfold ok_now at H_now
  refine ex6 H_now ?_
  clear H_now
  intro n r a b f gg H_now
  refine an4 H_now ?_
  clear H_now
  intro we_now hn hr hwfm H_now
  have hmN := H_now
  clear H_now
  subst we_now
  subst hmN
  unfold ok_past at H_past
  refine ex8 H_past ?_
  clear H_past
  intro fqp p0 p1 p2 p3 p4 p5 p6 H_past
  refine ex8 H_past ?_
  clear H_past
  intro p7 p0n p0r p0a p0b p0f p0g p1n H_past
  refine ex8 H_past ?_
  clear H_past
  intro p1r p1a p1b p1f p1g p2n p2r p2a H_past
  refine ex8 H_past ?_
  clear H_past
  intro p2b p2f p2g p3n p3r p3a p3b p3f H_past
  refine ex8 H_past ?_
  clear H_past
  intro p3g p4n p4r p4a p4b p4f p4g p5n H_past
  refine ex8 H_past ?_
  clear H_past
  intro p5r p5a p5b p5f p5g p6n p6r p6a H_past
  refine ex8 H_past ?_
  clear H_past
  intro p6b p6f p6g p7n p7r p7a p7b p7f H_past
  refine ex1 H_past ?_
  clear H_past
  intro p7g H_past
  refine an8 H_past ?_
  clear H_past
  intro we_past k_fqp_0 k_fqp_1 k_fqp_2 k_fqp_3 k_fqp_4 k_fqp_5 k_fqp_6 H_past
  refine an8 H_past ?_
  clear H_past
  intro k_fqp_7 hp0_n hp0_r hp0_w hp1_n hp1_r hp1_w hp2_n H_past
  refine an8 H_past ?_
  clear H_past
  intro hp2_r hp2_w hp3_n hp3_r hp3_w hp4_n hp4_r hp4_w H_past
  refine an8 H_past ?_
  clear H_past
  intro hp5_n hp5_r hp5_w hp6_n hp6_r hp6_w hp7_n hp7_r H_past
  refine an1 H_past ?_
  clear H_past
  intro hp7_w H_past
  have hpV := H_past
  clear H_past
  subst we_past
  subst hpV
  refine ww_eq (ws' := [(hx, .inr (11, [.ref h, .ref qp, .int (nI ac), .int (nI np), .ref qs, .ref qj, .ref ly, .ref qh, .ref kk, .int (nI kc), .ref rd, .ref pg, .int (nI pe), .int kn, .ref ss])), (h, .inr (4, [.int (nI n), .int (nI r), .ref a, .ref b])), (a, .inl (E.2.1 1, 24, .inl f)), (b, .inl (E.2.1 1, 96, .inl gg)), (qp, .inl (E.2.1 6, 8, .inr (.inr (.inr (.inr fqp))))), (p0, .inr (4, [.int (nI p0n), .int (nI p0r), .ref p0a, .ref p0b])), (p0a, .inl (E.2.1 1, 24, .inl p0f)), (p0b, .inl (E.2.1 1, 96, .inl p0g)), (p1, .inr (4, [.int (nI p1n), .int (nI p1r), .ref p1a, .ref p1b])), (p1a, .inl (E.2.1 1, 24, .inl p1f)), (p1b, .inl (E.2.1 1, 96, .inl p1g)), (p2, .inr (4, [.int (nI p2n), .int (nI p2r), .ref p2a, .ref p2b])), (p2a, .inl (E.2.1 1, 24, .inl p2f)), (p2b, .inl (E.2.1 1, 96, .inl p2g)), (p3, .inr (4, [.int (nI p3n), .int (nI p3r), .ref p3a, .ref p3b])), (p3a, .inl (E.2.1 1, 24, .inl p3f)), (p3b, .inl (E.2.1 1, 96, .inl p3g)), (p4, .inr (4, [.int (nI p4n), .int (nI p4r), .ref p4a, .ref p4b])), (p4a, .inl (E.2.1 1, 24, .inl p4f)), (p4b, .inl (E.2.1 1, 96, .inl p4g)), (p5, .inr (4, [.int (nI p5n), .int (nI p5r), .ref p5a, .ref p5b])), (p5a, .inl (E.2.1 1, 24, .inl p5f)), (p5b, .inl (E.2.1 1, 96, .inl p5g)), (p6, .inr (4, [.int (nI p6n), .int (nI p6r), .ref p6a, .ref p6b])), (p6a, .inl (E.2.1 1, 24, .inl p6f)), (p6b, .inl (E.2.1 1, 96, .inl p6g)), (p7, .inr (4, [.int (nI p7n), .int (nI p7r), .ref p7a, .ref p7b])), (p7a, .inl (E.2.1 1, 24, .inl p7f)), (p7b, .inl (E.2.1 1, 96, .inl p7g))] ++ wT) ?_ rfl rfl rfl
  refine ww_ciT (k' := kC) (n' := nC) (wr := []) C (run_V (As := [.int v0]) (rest := rest) C (x_world X.2.1 E ro hx v0 h qp ac np qs qj ly qh kk kc rd pg pe kn ss fqp p0 p1 p2 p3 p4 p5 p6 p7 p0n p0r p0a p0b p0f p0g p1n p1r p1a p1b p1f p1g p2n p2r p2a p2b p2f p2g p3n p3r p3a p3b p3f p3g p4n p4r p4a p4b p4f p4g p5n p5r p5a p5b p5f p5g p6n p6r p6a p6b p6f p6g p7n p7r p7a p7b p7f p7g n r a b f gg k_fqp_0 k_fqp_1 k_fqp_2 k_fqp_3 k_fqp_4 k_fqp_5 k_fqp_6 k_fqp_7 (by first | assumption | omega) (by first | assumption | omega) (by first | assumption | omega) (by first | assumption | omega) (by first | assumption | omega) (by first | assumption | omega) (by first | assumption | omega) (by first | assumption | omega) (by first | assumption | omega) (by first | assumption | omega) (by first | assumption | omega) (by first | assumption | omega) (by first | assumption | omega) (by first | assumption | omega) (by first | assumption | omega) (by first | assumption | omega) (by first | assumption | omega) (by first | assumption | omega) (by first | assumption | omega) (by first | assumption | omega) (by first | assumption | omega) (by first | assumption | omega) (by first | assumption | omega) (by first | assumption | omega) (by first | assumption | omega) (by first | assumption | omega) (by first | assumption | omega) (by first | assumption | omega) (by first | assumption | omega) (by first | assumption | omega) (by first | assumption | omega)) mi_X11_world wl_L_13 rfl 0 11 rfl rfl rfl rfl hW dL_law_206) (roT (pre := pre) [0, 4, 5, 6, 7, 8, 9, 10, 11, 12, 13, 14, 15, 16, 17, 18, 19, 20, 21, 22, 23, 24, 25, 26, 27, 28, 1, 2, 3] rfl hT) [0, 4, 5, 6, 7, 8, 9, 10, 11, 12, 13, 14, 15, 16, 17, 18, 19, 20, 21, 22, 23, 24, 25, 26, 27, 28, 1, 2, 3] [] rfl rfl rfl ⟨by omega, by omega, hk.1, hk.2⟩ (fun rr u hw => ?_)
  refine ex8 hw ?_
  clear hw
  intro acz_1 npz_2 p0nz_3 p0rz__4 p0fz_5 p0gz_6 p1nz_7 p1rz__8 hw
  refine ex8 hw ?_
  clear hw
  intro p1fz_9 p1gz_10 p2nz_11 p2rz__12 p2fz_13 p2gz_14 p3nz_15 p3rz__16 hw
  refine ex8 hw ?_
  clear hw
  intro p3fz_17 p3gz_18 p4nz_19 p4rz__20 p4fz_21 p4gz_22 p5nz_23 p5rz__24 hw
  refine ex8 hw ?_
  clear hw
  intro p5fz_25 p5gz_26 p6nz_27 p6rz__28 p6fz_29 p6gz_30 p7nz_31 p7rz__32 hw
  refine ex6 hw ?_
  clear hw
  intro p7fz_33 p7gz_34 nz_35 rz__36 fz_37 ggz_38 hw
  refine an8 hw ?_
  clear hw
  intro he_u h_39 h_40 h_41 h_42 h_43 h_44 h_45 hw
  refine an8 hw ?_
  clear hw
  intro h_46 h_47 h_48 h_49 h_50 h_51 h_52 h_53 hw
  refine an8 hw ?_
  clear hw
  intro h_54 h_55 h_56 h_57 h_58 h_59 h_60 h_61 hw
  refine an6 hw ?_
  clear hw
  intro h_62 h_63 h_64 h_65 h_66 h_67 hw
  have h_68 := hw
  clear hw
  subst he_u
  refine ww_subT (w1 := [(hx, .inr (11, [.ref h, .ref qp, .int (nI acz_1), .int (nI npz_2), .ref qs, .ref qj, .ref ly, .ref qh, .ref kk, .int (nI kc), .ref rd, .ref pg, .int (nI pe), .int kn, .ref ss])), (h, .inr (4, [.int (nI nz_35), .int (nI rz__36), .ref a, .ref b])), (a, .inl (E.2.1 1, 24, .inl fz_37)), (b, .inl (E.2.1 1, 96, .inl ggz_38)), (qp, .inl (E.2.1 6, 8, .inr (.inr (.inr (.inr fqp))))), (p0, .inr (4, [.int (nI p0nz_3), .int (nI p0rz__4), .ref p0a, .ref p0b])), (p0a, .inl (E.2.1 1, 24, .inl p0fz_5)), (p0b, .inl (E.2.1 1, 96, .inl p0gz_6)), (p1, .inr (4, [.int (nI p1nz_7), .int (nI p1rz__8), .ref p1a, .ref p1b])), (p1a, .inl (E.2.1 1, 24, .inl p1fz_9)), (p1b, .inl (E.2.1 1, 96, .inl p1gz_10)), (p2, .inr (4, [.int (nI p2nz_11), .int (nI p2rz__12), .ref p2a, .ref p2b])), (p2a, .inl (E.2.1 1, 24, .inl p2fz_13)), (p2b, .inl (E.2.1 1, 96, .inl p2gz_14)), (p3, .inr (4, [.int (nI p3nz_15), .int (nI p3rz__16), .ref p3a, .ref p3b])), (p3a, .inl (E.2.1 1, 24, .inl p3fz_17)), (p3b, .inl (E.2.1 1, 96, .inl p3gz_18)), (p4, .inr (4, [.int (nI p4nz_19), .int (nI p4rz__20), .ref p4a, .ref p4b])), (p4a, .inl (E.2.1 1, 24, .inl p4fz_21)), (p4b, .inl (E.2.1 1, 96, .inl p4gz_22)), (p5, .inr (4, [.int (nI p5nz_23), .int (nI p5rz__24), .ref p5a, .ref p5b])), (p5a, .inl (E.2.1 1, 24, .inl p5fz_25)), (p5b, .inl (E.2.1 1, 96, .inl p5gz_26)), (p6, .inr (4, [.int (nI p6nz_27), .int (nI p6rz__28), .ref p6a, .ref p6b])), (p6a, .inl (E.2.1 1, 24, .inl p6fz_29)), (p6b, .inl (E.2.1 1, 96, .inl p6gz_30)), (p7, .inr (4, [.int (nI p7nz_31), .int (nI p7rz__32), .ref p7a, .ref p7b])), (p7a, .inl (E.2.1 1, 24, .inl p7fz_33)), (p7b, .inl (E.2.1 1, 96, .inl p7gz_34))]) [0, 26, 27, 28, 1, 2, 3, 4, 5, 6, 7, 8, 9, 10, 11, 12, 13, 14, 15, 16, 17, 18, 19, 20, 21, 22, 23, 24, 25] rfl rfl ?_
  exact kont rr acz_1 npz_2 (am nz_35 rz__36 fz_37 ggz_38) (pick8 (am p0nz_3 p0rz__4 p0fz_5 p0gz_6) (am p1nz_7 p1rz__8 p1fz_9 p1gz_10) (am p2nz_11 p2rz__12 p2fz_13 p2gz_14) (am p3nz_15 p3rz__16 p3fz_17 p3gz_18) (am p4nz_19 p4rz__20 p4fz_21 p4gz_22) (am p5nz_23 p5rz__24 p5fz_25 p5gz_26) (am p6nz_27 p6rz__28 p6fz_29 p6gz_30) (am p7nz_31 p7rz__32 p7fz_33 p7gz_34)) [(h, .inr (4, [.int (nI nz_35), .int (nI rz__36), .ref a, .ref b])), (a, .inl (E.2.1 1, 24, .inl fz_37)), (b, .inl (E.2.1 1, 96, .inl ggz_38))] [(qp, .inl (E.2.1 6, 8, .inr (.inr (.inr (.inr fqp))))), (p0, .inr (4, [.int (nI p0nz_3), .int (nI p0rz__4), .ref p0a, .ref p0b])), (p0a, .inl (E.2.1 1, 24, .inl p0fz_5)), (p0b, .inl (E.2.1 1, 96, .inl p0gz_6)), (p1, .inr (4, [.int (nI p1nz_7), .int (nI p1rz__8), .ref p1a, .ref p1b])), (p1a, .inl (E.2.1 1, 24, .inl p1fz_9)), (p1b, .inl (E.2.1 1, 96, .inl p1gz_10)), (p2, .inr (4, [.int (nI p2nz_11), .int (nI p2rz__12), .ref p2a, .ref p2b])), (p2a, .inl (E.2.1 1, 24, .inl p2fz_13)), (p2b, .inl (E.2.1 1, 96, .inl p2gz_14)), (p3, .inr (4, [.int (nI p3nz_15), .int (nI p3rz__16), .ref p3a, .ref p3b])), (p3a, .inl (E.2.1 1, 24, .inl p3fz_17)), (p3b, .inl (E.2.1 1, 96, .inl p3gz_18)), (p4, .inr (4, [.int (nI p4nz_19), .int (nI p4rz__20), .ref p4a, .ref p4b])), (p4a, .inl (E.2.1 1, 24, .inl p4fz_21)), (p4b, .inl (E.2.1 1, 96, .inl p4gz_22)), (p5, .inr (4, [.int (nI p5nz_23), .int (nI p5rz__24), .ref p5a, .ref p5b])), (p5a, .inl (E.2.1 1, 24, .inl p5fz_25)), (p5b, .inl (E.2.1 1, 96, .inl p5gz_26)), (p6, .inr (4, [.int (nI p6nz_27), .int (nI p6rz__28), .ref p6a, .ref p6b])), (p6a, .inl (E.2.1 1, 24, .inl p6fz_29)), (p6b, .inl (E.2.1 1, 96, .inl p6gz_30)), (p7, .inr (4, [.int (nI p7nz_31), .int (nI p7rz__32), .ref p7a, .ref p7b])), (p7a, .inl (E.2.1 1, 24, .inl p7fz_33)), (p7b, .inl (E.2.1 1, 96, .inl p7gz_34))] (by first | assumption | omega) (by first | assumption | omega) ⟨nz_35, rz__36, a, b, fz_37, ggz_38, rfl, (by first | assumption | omega), (by first | assumption | omega), (by first | assumption | omega), rfl⟩ ⟨fqp, p0, p1, p2, p3, p4, p5, p6, p7, p0nz_3, p0rz__4, p0a, p0b, p0fz_5, p0gz_6, p1nz_7, p1rz__8, p1a, p1b, p1fz_9, p1gz_10, p2nz_11, p2rz__12, p2a, p2b, p2fz_13, p2gz_14, p3nz_15, p3rz__16, p3a, p3b, p3fz_17, p3gz_18, p4nz_19, p4rz__20, p4a, p4b, p4fz_21, p4gz_22, p5nz_23, p5rz__24, p5a, p5b, p5fz_25, p5gz_26, p6nz_27, p6rz__28, p6a, p6b, p6fz_29, p6gz_30, p7nz_31, p7rz__32, p7a, p7b, p7fz_33, p7gz_34, rfl, k_fqp_0, k_fqp_1, k_fqp_2, k_fqp_3, k_fqp_4, k_fqp_5, k_fqp_6, k_fqp_7, (by first | assumption | omega), (by first | assumption | omega), (by first | assumption | omega), (by first | assumption | omega), (by first | assumption | omega), (by first | assumption | omega), (by first | assumption | omega), (by first | assumption | omega), (by first | assumption | omega), (by first | assumption | omega), (by first | assumption | omega), (by first | assumption | omega), (by first | assumption | omega), (by first | assumption | omega), (by first | assumption | omega), (by first | assumption | omega), (by first | assumption | omega), (by first | assumption | omega), (by first | assumption | omega), (by first | assumption | omega), (by first | assumption | omega), (by first | assumption | omega), (by first | assumption | omega), (by first | assumption | omega), rfl⟩ (h_68)
theorem wc_X11_sees : Cond.code yX11_sees cX11_sees 7 (some .int) ∈ TB := tbm (tq2 (List.mem_of_getElem? (i := 170) (rfl))) (by decide +kernel)
theorem wi_X11_sees : Cond.instanceMethod yX11_sees ∈ TB := tbm (tq2 (List.mem_of_getElem? (i := 168) (by decide +kernel))) (by decide +kernel)
theorem ws_X11_sees : Cond.selects RX11 yX11_sees yX11_sees ∈ TB := tbm (tq2 (List.mem_of_getElem? (i := 169) (by decide +kernel))) (by decide +kernel)
theorem mi_X11_sees : MI yX11_sees cX11_sees 7 (some .int) 5 := ⟨wc_X11_sees, wn_X11, ⟨by decide +kernel, by decide +kernel, by decide +kernel⟩, wi_X11_sees, ws_X11_sees⟩
theorem wl_L_18 : Cond.methodLink RL 18 yX11_sees ∈ TB := tbm (tq2 (List.mem_of_getElem? (i := 167) (by decide +kernel))) (by decide +kernel)
theorem dL_law_265 : decode cL_law 265 = .ok (.invokevirtual 18, 3) := by decide +kernel
set_option maxRecDepth 100000 in
set_option maxHeartbeats 4000000 in
theorem lx_sees {X : XT} {E : EV} {ro wT pre : va_W} {lv : List (Nat × Value)} {rest : List Value} {kC nC : Nat} {hx h qp qs qj ly qh kk rd pg ss : Nat} {ac np kc pe : Nat} {kn : Int32} {mN : AM} {pV : Nat → AM} {w_now : va_W} {w_past : va_W} {v0 : Int32} {v1 : Int32} {v2 : Int32} {v3 : Int32} {v4 : Int32}  (C : CX X room_1 cL_law 4 RL ret E) (hW : Nat.ble (rest.map fun v => v.category).sum 8 = true) (hT : wT = pre ++ ro) (hk : kC + 0 ≤ 600000 ∧ nC + 0 ≤ 7302250) (hac : ac ≤ 8) (hnp : np < 8) (hkc : kc ≤ 4) (hpe : pe ≤ 4) (H_now : ok_now E ro h mN w_now) (H_past : ok_past E ro qp pV w_past) (kont : ∀ (rr : Int32) (acZ : Nat) (npZ : Nat) (mNZ : AM) (pVZ : Nat → AM) (w_nowZ : va_W) (w_pastZ : va_W), acZ ≤ 8 → npZ < 8 → ok_now E ro h mNZ w_nowZ → ok_past E ro qp pVZ w_pastZ → (((asX mNZ acZ npZ pVZ), rr) = opSees (asX mN ac np pV) v0 v1 v2 v3 v4) → WW X 4 E 268 lv (.int rr :: rest) ([(hx, .inr (11, [.ref h, .ref qp, .int (nI acZ), .int (nI npZ), .ref qs, .ref qj, .ref ly, .ref qh, .ref kk, .int (nI kc), .ref rd, .ref pg, .int (nI pe), .int kn, .ref ss]))] ++ (w_nowZ ++ (w_pastZ ++ wT))) kC nC) : WW X 4 E 265 lv (.int v4 :: .int v3 :: .int v2 :: .int v1 :: .int v0 :: .ref hx :: rest) ([(hx, .inr (11, [.ref h, .ref qp, .int (nI ac), .int (nI np), .ref qs, .ref qj, .ref ly, .ref qh, .ref kk, .int (nI kc), .ref rd, .ref pg, .int (nI pe), .int kn, .ref ss]))] ++ (w_now ++ (w_past ++ wT))) kC nC := by
  unfold ok_now at H_now
  refine ex6 H_now ?_
  clear H_now
  intro n r a b f gg H_now
  refine an4 H_now ?_
  clear H_now
  intro we_now hn hr hwfm H_now
  have hmN := H_now
  clear H_now
  subst we_now
  subst hmN
  unfold ok_past at H_past
  refine ex8 H_past ?_
  clear H_past
  intro fqp p0 p1 p2 p3 p4 p5 p6 H_past
  refine ex8 H_past ?_
  clear H_past
  intro p7 p0n p0r p0a p0b p0f p0g p1n H_past
  refine ex8 H_past ?_
  clear H_past
  intro p1r p1a p1b p1f p1g p2n p2r p2a H_past
  refine ex8 H_past ?_
  clear H_past
  intro p2b p2f p2g p3n p3r p3a p3b p3f H_past
  refine ex8 H_past ?_
  clear H_past
  intro p3g p4n p4r p4a p4b p4f p4g p5n H_past
  refine ex8 H_past ?_
  clear H_past
  intro p5r p5a p5b p5f p5g p6n p6r p6a H_past
  refine ex8 H_past ?_
  clear H_past
  intro p6b p6f p6g p7n p7r p7a p7b p7f H_past
  refine ex1 H_past ?_
  clear H_past
  intro p7g H_past
  refine an8 H_past ?_
  clear H_past
  intro we_past k_fqp_0 k_fqp_1 k_fqp_2 k_fqp_3 k_fqp_4 k_fqp_5 k_fqp_6 H_past
  refine an8 H_past ?_
  clear H_past
  intro k_fqp_7 hp0_n hp0_r hp0_w hp1_n hp1_r hp1_w hp2_n H_past
  refine an8 H_past ?_
  clear H_past
  intro hp2_r hp2_w hp3_n hp3_r hp3_w hp4_n hp4_r hp4_w H_past
  refine an8 H_past ?_
  clear H_past
  intro hp5_n hp5_r hp5_w hp6_n hp6_r hp6_w hp7_n hp7_r H_past
  refine an1 H_past ?_
  clear H_past
  intro hp7_w H_past
  have hpV := H_past
  clear H_past
  subst we_past
  subst hpV
  refine ww_eq (ws' := [(hx, .inr (11, [.ref h, .ref qp, .int (nI ac), .int (nI np), .ref qs, .ref qj, .ref ly, .ref qh, .ref kk, .int (nI kc), .ref rd, .ref pg, .int (nI pe), .int kn, .ref ss])), (h, .inr (4, [.int (nI n), .int (nI r), .ref a, .ref b])), (a, .inl (E.2.1 1, 24, .inl f)), (b, .inl (E.2.1 1, 96, .inl gg)), (qp, .inl (E.2.1 6, 8, .inr (.inr (.inr (.inr fqp))))), (p0, .inr (4, [.int (nI p0n), .int (nI p0r), .ref p0a, .ref p0b])), (p0a, .inl (E.2.1 1, 24, .inl p0f)), (p0b, .inl (E.2.1 1, 96, .inl p0g)), (p1, .inr (4, [.int (nI p1n), .int (nI p1r), .ref p1a, .ref p1b])), (p1a, .inl (E.2.1 1, 24, .inl p1f)), (p1b, .inl (E.2.1 1, 96, .inl p1g)), (p2, .inr (4, [.int (nI p2n), .int (nI p2r), .ref p2a, .ref p2b])), (p2a, .inl (E.2.1 1, 24, .inl p2f)), (p2b, .inl (E.2.1 1, 96, .inl p2g)), (p3, .inr (4, [.int (nI p3n), .int (nI p3r), .ref p3a, .ref p3b])), (p3a, .inl (E.2.1 1, 24, .inl p3f)), (p3b, .inl (E.2.1 1, 96, .inl p3g)), (p4, .inr (4, [.int (nI p4n), .int (nI p4r), .ref p4a, .ref p4b])), (p4a, .inl (E.2.1 1, 24, .inl p4f)), (p4b, .inl (E.2.1 1, 96, .inl p4g)), (p5, .inr (4, [.int (nI p5n), .int (nI p5r), .ref p5a, .ref p5b])), (p5a, .inl (E.2.1 1, 24, .inl p5f)), (p5b, .inl (E.2.1 1, 96, .inl p5g)), (p6, .inr (4, [.int (nI p6n), .int (nI p6r), .ref p6a, .ref p6b])), (p6a, .inl (E.2.1 1, 24, .inl p6f)), (p6b, .inl (E.2.1 1, 96, .inl p6g)), (p7, .inr (4, [.int (nI p7n), .int (nI p7r), .ref p7a, .ref p7b])), (p7a, .inl (E.2.1 1, 24, .inl p7f)), (p7b, .inl (E.2.1 1, 96, .inl p7g))] ++ wT) ?_ rfl rfl rfl
  refine ww_ciT (k' := kC) (n' := nC) (wr := []) C (run_V (As := [.int v0, .int v1, .int v2, .int v3, .int v4]) (rest := rest) C (x_sees X.2.1 E ro hx v0 v1 v2 v3 v4 h qp ac np qs qj ly qh kk kc rd pg pe kn ss fqp p0 p1 p2 p3 p4 p5 p6 p7 p0n p0r p0a p0b p0f p0g p1n p1r p1a p1b p1f p1g p2n p2r p2a p2b p2f p2g p3n p3r p3a p3b p3f p3g p4n p4r p4a p4b p4f p4g p5n p5r p5a p5b p5f p5g p6n p6r p6a p6b p6f p6g p7n p7r p7a p7b p7f p7g n r a b f gg k_fqp_0 k_fqp_1 k_fqp_2 k_fqp_3 k_fqp_4 k_fqp_5 k_fqp_6 k_fqp_7 (by first | assumption | omega) (by first | assumption | omega) (by first | assumption | omega) (by first | assumption | omega) (by first | assumption | omega) (by first | assumption | omega) (by first | assumption | omega) (by first | assumption | omega) (by first | assumption | omega) (by first | assumption | omega) (by first | assumption | omega) (by first | assumption | omega) (by first | assumption | omega) (by first | assumption | omega) (by first | assumption | omega) (by first | assumption | omega) (by first | assumption | omega) (by first | assumption | omega) (by first | assumption | omega) (by first | assumption | omega) (by first | assumption | omega) (by first | assumption | omega) (by first | assumption | omega) (by first | assumption | omega) (by first | assumption | omega) (by first | assumption | omega) (by first | assumption | omega) (by first | assumption | omega) (by first | assumption | omega) (by first | assumption | omega) (by first | assumption | omega)) mi_X11_sees wl_L_18 rfl 0 11 rfl rfl rfl rfl hW dL_law_265) (roT (pre := pre) [0, 4, 5, 6, 7, 8, 9, 10, 11, 12, 13, 14, 15, 16, 17, 18, 19, 20, 21, 22, 23, 24, 25, 26, 27, 28, 1, 2, 3] rfl hT) [0, 4, 5, 6, 7, 8, 9, 10, 11, 12, 13, 14, 15, 16, 17, 18, 19, 20, 21, 22, 23, 24, 25, 26, 27, 28, 1, 2, 3] [] rfl rfl rfl ⟨by omega, by omega, hk.1, hk.2⟩ (fun rr u hw => ?_)
  refine ex8 hw ?_
  clear hw
  intro acz_1 npz_2 p0nz_3 p0rz__4 p0fz_5 p0gz_6 p1nz_7 p1rz__8 hw
  refine ex8 hw ?_
  clear hw
  intro p1fz_9 p1gz_10 p2nz_11 p2rz__12 p2fz_13 p2gz_14 p3nz_15 p3rz__16 hw
  refine ex8 hw ?_
  clear hw
  intro p3fz_17 p3gz_18 p4nz_19 p4rz__20 p4fz_21 p4gz_22 p5nz_23 p5rz__24 hw
  refine ex8 hw ?_
  clear hw
  intro p5fz_25 p5gz_26 p6nz_27 p6rz__28 p6fz_29 p6gz_30 p7nz_31 p7rz__32 hw
  refine ex6 hw ?_
  clear hw
  intro p7fz_33 p7gz_34 nz_35 rz__36 fz_37 ggz_38 hw
  refine an8 hw ?_
  clear hw
  intro he_u h_39 h_40 h_41 h_42 h_43 h_44 h_45 hw
  refine an8 hw ?_
  clear hw
  intro h_46 h_47 h_48 h_49 h_50 h_51 h_52 h_53 hw
  refine an8 hw ?_
  clear hw
  intro h_54 h_55 h_56 h_57 h_58 h_59 h_60 h_61 hw
  refine an6 hw ?_
  clear hw
  intro h_62 h_63 h_64 h_65 h_66 h_67 hw
  have h_68 := hw
  clear hw
  subst he_u
  refine ww_subT (w1 := [(hx, .inr (11, [.ref h, .ref qp, .int (nI acz_1), .int (nI npz_2), .ref qs, .ref qj, .ref ly, .ref qh, .ref kk, .int (nI kc), .ref rd, .ref pg, .int (nI pe), .int kn, .ref ss])), (h, .inr (4, [.int (nI nz_35), .int (nI rz__36), .ref a, .ref b])), (a, .inl (E.2.1 1, 24, .inl fz_37)), (b, .inl (E.2.1 1, 96, .inl ggz_38)), (qp, .inl (E.2.1 6, 8, .inr (.inr (.inr (.inr fqp))))), (p0, .inr (4, [.int (nI p0nz_3), .int (nI p0rz__4), .ref p0a, .ref p0b])), (p0a, .inl (E.2.1 1, 24, .inl p0fz_5)), (p0b, .inl (E.2.1 1, 96, .inl p0gz_6)), (p1, .inr (4, [.int (nI p1nz_7), .int (nI p1rz__8), .ref p1a, .ref p1b])), (p1a, .inl (E.2.1 1, 24, .inl p1fz_9)), (p1b, .inl (E.2.1 1, 96, .inl p1gz_10)), (p2, .inr (4, [.int (nI p2nz_11), .int (nI p2rz__12), .ref p2a, .ref p2b])), (p2a, .inl (E.2.1 1, 24, .inl p2fz_13)), (p2b, .inl (E.2.1 1, 96, .inl p2gz_14)), (p3, .inr (4, [.int (nI p3nz_15), .int (nI p3rz__16), .ref p3a, .ref p3b])), (p3a, .inl (E.2.1 1, 24, .inl p3fz_17)), (p3b, .inl (E.2.1 1, 96, .inl p3gz_18)), (p4, .inr (4, [.int (nI p4nz_19), .int (nI p4rz__20), .ref p4a, .ref p4b])), (p4a, .inl (E.2.1 1, 24, .inl p4fz_21)), (p4b, .inl (E.2.1 1, 96, .inl p4gz_22)), (p5, .inr (4, [.int (nI p5nz_23), .int (nI p5rz__24), .ref p5a, .ref p5b])), (p5a, .inl (E.2.1 1, 24, .inl p5fz_25)), (p5b, .inl (E.2.1 1, 96, .inl p5gz_26)), (p6, .inr (4, [.int (nI p6nz_27), .int (nI p6rz__28), .ref p6a, .ref p6b])), (p6a, .inl (E.2.1 1, 24, .inl p6fz_29)), (p6b, .inl (E.2.1 1, 96, .inl p6gz_30)), (p7, .inr (4, [.int (nI p7nz_31), .int (nI p7rz__32), .ref p7a, .ref p7b])), (p7a, .inl (E.2.1 1, 24, .inl p7fz_33)), (p7b, .inl (E.2.1 1, 96, .inl p7gz_34))]) [0, 26, 27, 28, 1, 2, 3, 4, 5, 6, 7, 8, 9, 10, 11, 12, 13, 14, 15, 16, 17, 18, 19, 20, 21, 22, 23, 24, 25] rfl rfl ?_
  exact kont rr acz_1 npz_2 (am nz_35 rz__36 fz_37 ggz_38) (pick8 (am p0nz_3 p0rz__4 p0fz_5 p0gz_6) (am p1nz_7 p1rz__8 p1fz_9 p1gz_10) (am p2nz_11 p2rz__12 p2fz_13 p2gz_14) (am p3nz_15 p3rz__16 p3fz_17 p3gz_18) (am p4nz_19 p4rz__20 p4fz_21 p4gz_22) (am p5nz_23 p5rz__24 p5fz_25 p5gz_26) (am p6nz_27 p6rz__28 p6fz_29 p6gz_30) (am p7nz_31 p7rz__32 p7fz_33 p7gz_34)) [(h, .inr (4, [.int (nI nz_35), .int (nI rz__36), .ref a, .ref b])), (a, .inl (E.2.1 1, 24, .inl fz_37)), (b, .inl (E.2.1 1, 96, .inl ggz_38))] [(qp, .inl (E.2.1 6, 8, .inr (.inr (.inr (.inr fqp))))), (p0, .inr (4, [.int (nI p0nz_3), .int (nI p0rz__4), .ref p0a, .ref p0b])), (p0a, .inl (E.2.1 1, 24, .inl p0fz_5)), (p0b, .inl (E.2.1 1, 96, .inl p0gz_6)), (p1, .inr (4, [.int (nI p1nz_7), .int (nI p1rz__8), .ref p1a, .ref p1b])), (p1a, .inl (E.2.1 1, 24, .inl p1fz_9)), (p1b, .inl (E.2.1 1, 96, .inl p1gz_10)), (p2, .inr (4, [.int (nI p2nz_11), .int (nI p2rz__12), .ref p2a, .ref p2b])), (p2a, .inl (E.2.1 1, 24, .inl p2fz_13)), (p2b, .inl (E.2.1 1, 96, .inl p2gz_14)), (p3, .inr (4, [.int (nI p3nz_15), .int (nI p3rz__16), .ref p3a, .ref p3b])), (p3a, .inl (E.2.1 1, 24, .inl p3fz_17)), (p3b, .inl (E.2.1 1, 96, .inl p3gz_18)), (p4, .inr (4, [.int (nI p4nz_19), .int (nI p4rz__20), .ref p4a, .ref p4b])), (p4a, .inl (E.2.1 1, 24, .inl p4fz_21)), (p4b, .inl (E.2.1 1, 96, .inl p4gz_22)), (p5, .inr (4, [.int (nI p5nz_23), .int (nI p5rz__24), .ref p5a, .ref p5b])), (p5a, .inl (E.2.1 1, 24, .inl p5fz_25)), (p5b, .inl (E.2.1 1, 96, .inl p5gz_26)), (p6, .inr (4, [.int (nI p6nz_27), .int (nI p6rz__28), .ref p6a, .ref p6b])), (p6a, .inl (E.2.1 1, 24, .inl p6fz_29)), (p6b, .inl (E.2.1 1, 96, .inl p6gz_30)), (p7, .inr (4, [.int (nI p7nz_31), .int (nI p7rz__32), .ref p7a, .ref p7b])), (p7a, .inl (E.2.1 1, 24, .inl p7fz_33)), (p7b, .inl (E.2.1 1, 96, .inl p7gz_34))] (by first | assumption | omega) (by first | assumption | omega) ⟨nz_35, rz__36, a, b, fz_37, ggz_38, rfl, (by first | assumption | omega), (by first | assumption | omega), (by first | assumption | omega), rfl⟩ ⟨fqp, p0, p1, p2, p3, p4, p5, p6, p7, p0nz_3, p0rz__4, p0a, p0b, p0fz_5, p0gz_6, p1nz_7, p1rz__8, p1a, p1b, p1fz_9, p1gz_10, p2nz_11, p2rz__12, p2a, p2b, p2fz_13, p2gz_14, p3nz_15, p3rz__16, p3a, p3b, p3fz_17, p3gz_18, p4nz_19, p4rz__20, p4a, p4b, p4fz_21, p4gz_22, p5nz_23, p5rz__24, p5a, p5b, p5fz_25, p5gz_26, p6nz_27, p6rz__28, p6a, p6b, p6fz_29, p6gz_30, p7nz_31, p7rz__32, p7a, p7b, p7fz_33, p7gz_34, rfl, k_fqp_0, k_fqp_1, k_fqp_2, k_fqp_3, k_fqp_4, k_fqp_5, k_fqp_6, k_fqp_7, (by first | assumption | omega), (by first | assumption | omega), (by first | assumption | omega), (by first | assumption | omega), (by first | assumption | omega), (by first | assumption | omega), (by first | assumption | omega), (by first | assumption | omega), (by first | assumption | omega), (by first | assumption | omega), (by first | assumption | omega), (by first | assumption | omega), (by first | assumption | omega), (by first | assumption | omega), (by first | assumption | omega), (by first | assumption | omega), (by first | assumption | omega), (by first | assumption | omega), (by first | assumption | omega), (by first | assumption | omega), (by first | assumption | omega), (by first | assumption | omega), (by first | assumption | omega), (by first | assumption | omega), rfl⟩ (h_68)
theorem wc_X11_blind : Cond.code yX11_blind cX11_blind 2 (some .int) ∈ TB := tbm (tq2 (List.mem_of_getElem? (i := 187) (rfl))) (by decide +kernel)
theorem wi_X11_blind : Cond.instanceMethod yX11_blind ∈ TB := tbm (tq2 (List.mem_of_getElem? (i := 185) (by decide +kernel))) (by decide +kernel)
theorem ws_X11_blind : Cond.selects RX11 yX11_blind yX11_blind ∈ TB := tbm (tq2 (List.mem_of_getElem? (i := 186) (by decide +kernel))) (by decide +kernel)
theorem mi_X11_blind : MI yX11_blind cX11_blind 2 (some .int) 1 := ⟨wc_X11_blind, wn_X11, ⟨by decide +kernel, by decide +kernel, by decide +kernel⟩, wi_X11_blind, ws_X11_blind⟩
theorem wl_L_23 : Cond.methodLink RL 23 yX11_blind ∈ TB := tbm (tq2 (List.mem_of_getElem? (i := 184) (by decide +kernel))) (by decide +kernel)
theorem dL_law_324 : decode cL_law 324 = .ok (.invokevirtual 23, 3) := by decide +kernel
set_option maxRecDepth 100000 in
set_option maxHeartbeats 4000000 in
theorem lx_blind {X : XT} {E : EV} {ro wT pre : va_W} {lv : List (Nat × Value)} {rest : List Value} {kC nC : Nat} {hx h qp qs qj ly qh kk rd pg ss : Nat} {ac np kc pe : Nat} {kn : Int32} {mN : AM} {pV : Nat → AM} {w_now : va_W} {w_past : va_W} {v0 : Int32}  (C : CX X room_1 cL_law 4 RL ret E) (hW : Nat.ble (rest.map fun v => v.category).sum 8 = true) (hT : wT = pre ++ ro) (hk : kC + 0 ≤ 600000 ∧ nC + 0 ≤ 7302250) (hac : ac ≤ 8) (hnp : np < 8) (hkc : kc ≤ 4) (hpe : pe ≤ 4) (H_now : ok_now E ro h mN w_now) (H_past : ok_past E ro qp pV w_past) (kont : ∀ (rr : Int32) (acZ : Nat) (npZ : Nat) (mNZ : AM) (pVZ : Nat → AM) (w_nowZ : va_W) (w_pastZ : va_W), acZ ≤ 8 → npZ < 8 → ok_now E ro h mNZ w_nowZ → ok_past E ro qp pVZ w_pastZ → (((asX mNZ acZ npZ pVZ), rr) = opBlind (asX mN ac np pV) v0) → WW X 4 E 327 lv (.int rr :: rest) ([(hx, .inr (11, [.ref h, .ref qp, .int (nI acZ), .int (nI npZ), .ref qs, .ref qj, .ref ly, .ref qh, .ref kk, .int (nI kc), .ref rd, .ref pg, .int (nI pe), .int kn, .ref ss]))] ++ (w_nowZ ++ (w_pastZ ++ wT))) kC nC) : WW X 4 E 324 lv (.int v0 :: .ref hx :: rest) ([(hx, .inr (11, [.ref h, .ref qp, .int (nI ac), .int (nI np), .ref qs, .ref qj, .ref ly, .ref qh, .ref kk, .int (nI kc), .ref rd, .ref pg, .int (nI pe), .int kn, .ref ss]))] ++ (w_now ++ (w_past ++ wT))) kC nC := by
  unfold ok_now at H_now
  refine ex6 H_now ?_
  clear H_now
  intro n r a b f gg H_now
  refine an4 H_now ?_
  clear H_now
  intro we_now hn hr hwfm H_now
  have hmN := H_now
  clear H_now
  subst we_now
  subst hmN
  unfold ok_past at H_past
  refine ex8 H_past ?_
  clear H_past
  intro fqp p0 p1 p2 p3 p4 p5 p6 H_past
  refine ex8 H_past ?_
  clear H_past
  intro p7 p0n p0r p0a p0b p0f p0g p1n H_past
  refine ex8 H_past ?_
  clear H_past
  intro p1r p1a p1b p1f p1g p2n p2r p2a H_past
  refine ex8 H_past ?_
  clear H_past
  intro p2b p2f p2g p3n p3r p3a p3b p3f H_past
  refine ex8 H_past ?_
  clear H_past
  intro p3g p4n p4r p4a p4b p4f p4g p5n H_past
  refine ex8 H_past ?_
  clear H_past
  intro p5r p5a p5b p5f p5g p6n p6r p6a H_past
  refine ex8 H_past ?_
  clear H_past
  intro p6b p6f p6g p7n p7r p7a p7b p7f H_past
  refine ex1 H_past ?_
  clear H_past
  intro p7g H_past
  refine an8 H_past ?_
  clear H_past
  intro we_past k_fqp_0 k_fqp_1 k_fqp_2 k_fqp_3 k_fqp_4 k_fqp_5 k_fqp_6 H_past
  refine an8 H_past ?_
  clear H_past
  intro k_fqp_7 hp0_n hp0_r hp0_w hp1_n hp1_r hp1_w hp2_n H_past
  refine an8 H_past ?_
  clear H_past
  intro hp2_r hp2_w hp3_n hp3_r hp3_w hp4_n hp4_r hp4_w H_past
  refine an8 H_past ?_
  clear H_past
  intro hp5_n hp5_r hp5_w hp6_n hp6_r hp6_w hp7_n hp7_r H_past
  refine an1 H_past ?_
  clear H_past
  intro hp7_w H_past
  have hpV := H_past
  clear H_past
  subst we_past
  subst hpV
  refine ww_eq (ws' := [(hx, .inr (11, [.ref h, .ref qp, .int (nI ac), .int (nI np), .ref qs, .ref qj, .ref ly, .ref qh, .ref kk, .int (nI kc), .ref rd, .ref pg, .int (nI pe), .int kn, .ref ss])), (h, .inr (4, [.int (nI n), .int (nI r), .ref a, .ref b])), (a, .inl (E.2.1 1, 24, .inl f)), (b, .inl (E.2.1 1, 96, .inl gg)), (qp, .inl (E.2.1 6, 8, .inr (.inr (.inr (.inr fqp))))), (p0, .inr (4, [.int (nI p0n), .int (nI p0r), .ref p0a, .ref p0b])), (p0a, .inl (E.2.1 1, 24, .inl p0f)), (p0b, .inl (E.2.1 1, 96, .inl p0g)), (p1, .inr (4, [.int (nI p1n), .int (nI p1r), .ref p1a, .ref p1b])), (p1a, .inl (E.2.1 1, 24, .inl p1f)), (p1b, .inl (E.2.1 1, 96, .inl p1g)), (p2, .inr (4, [.int (nI p2n), .int (nI p2r), .ref p2a, .ref p2b])), (p2a, .inl (E.2.1 1, 24, .inl p2f)), (p2b, .inl (E.2.1 1, 96, .inl p2g)), (p3, .inr (4, [.int (nI p3n), .int (nI p3r), .ref p3a, .ref p3b])), (p3a, .inl (E.2.1 1, 24, .inl p3f)), (p3b, .inl (E.2.1 1, 96, .inl p3g)), (p4, .inr (4, [.int (nI p4n), .int (nI p4r), .ref p4a, .ref p4b])), (p4a, .inl (E.2.1 1, 24, .inl p4f)), (p4b, .inl (E.2.1 1, 96, .inl p4g)), (p5, .inr (4, [.int (nI p5n), .int (nI p5r), .ref p5a, .ref p5b])), (p5a, .inl (E.2.1 1, 24, .inl p5f)), (p5b, .inl (E.2.1 1, 96, .inl p5g)), (p6, .inr (4, [.int (nI p6n), .int (nI p6r), .ref p6a, .ref p6b])), (p6a, .inl (E.2.1 1, 24, .inl p6f)), (p6b, .inl (E.2.1 1, 96, .inl p6g)), (p7, .inr (4, [.int (nI p7n), .int (nI p7r), .ref p7a, .ref p7b])), (p7a, .inl (E.2.1 1, 24, .inl p7f)), (p7b, .inl (E.2.1 1, 96, .inl p7g))] ++ wT) ?_ rfl rfl rfl
  refine ww_ciT (k' := kC) (n' := nC) (wr := []) C (run_V (As := [.int v0]) (rest := rest) C (x_blind X.2.1 E ro hx v0 h qp ac np qs qj ly qh kk kc rd pg pe kn ss fqp p0 p1 p2 p3 p4 p5 p6 p7 p0n p0r p0a p0b p0f p0g p1n p1r p1a p1b p1f p1g p2n p2r p2a p2b p2f p2g p3n p3r p3a p3b p3f p3g p4n p4r p4a p4b p4f p4g p5n p5r p5a p5b p5f p5g p6n p6r p6a p6b p6f p6g p7n p7r p7a p7b p7f p7g n r a b f gg k_fqp_0 k_fqp_1 k_fqp_2 k_fqp_3 k_fqp_4 k_fqp_5 k_fqp_6 k_fqp_7 (by first | assumption | omega) (by first | assumption | omega) (by first | assumption | omega) (by first | assumption | omega) (by first | assumption | omega) (by first | assumption | omega) (by first | assumption | omega) (by first | assumption | omega) (by first | assumption | omega) (by first | assumption | omega) (by first | assumption | omega) (by first | assumption | omega) (by first | assumption | omega) (by first | assumption | omega) (by first | assumption | omega) (by first | assumption | omega) (by first | assumption | omega) (by first | assumption | omega) (by first | assumption | omega) (by first | assumption | omega) (by first | assumption | omega) (by first | assumption | omega) (by first | assumption | omega) (by first | assumption | omega) (by first | assumption | omega) (by first | assumption | omega) (by first | assumption | omega) (by first | assumption | omega) (by first | assumption | omega) (by first | assumption | omega) (by first | assumption | omega)) mi_X11_blind wl_L_23 rfl 0 11 rfl rfl rfl rfl hW dL_law_324) (roT (pre := pre) [0, 4, 5, 6, 7, 8, 9, 10, 11, 12, 13, 14, 15, 16, 17, 18, 19, 20, 21, 22, 23, 24, 25, 26, 27, 28, 1, 2, 3] rfl hT) [0, 4, 5, 6, 7, 8, 9, 10, 11, 12, 13, 14, 15, 16, 17, 18, 19, 20, 21, 22, 23, 24, 25, 26, 27, 28, 1, 2, 3] [] rfl rfl rfl ⟨by omega, by omega, hk.1, hk.2⟩ (fun rr u hw => ?_)
  refine ex8 hw ?_
  clear hw
  intro acz_1 npz_2 p0nz_3 p0rz__4 p0fz_5 p0gz_6 p1nz_7 p1rz__8 hw
  refine ex8 hw ?_
  clear hw
  intro p1fz_9 p1gz_10 p2nz_11 p2rz__12 p2fz_13 p2gz_14 p3nz_15 p3rz__16 hw
  refine ex8 hw ?_
  clear hw
  intro p3fz_17 p3gz_18 p4nz_19 p4rz__20 p4fz_21 p4gz_22 p5nz_23 p5rz__24 hw
  refine ex8 hw ?_
  clear hw
  intro p5fz_25 p5gz_26 p6nz_27 p6rz__28 p6fz_29 p6gz_30 p7nz_31 p7rz__32 hw
  refine ex6 hw ?_
  clear hw
  intro p7fz_33 p7gz_34 nz_35 rz__36 fz_37 ggz_38 hw
  refine an8 hw ?_
  clear hw
  intro he_u h_39 h_40 h_41 h_42 h_43 h_44 h_45 hw
  refine an8 hw ?_
  clear hw
  intro h_46 h_47 h_48 h_49 h_50 h_51 h_52 h_53 hw
  refine an8 hw ?_
  clear hw
  intro h_54 h_55 h_56 h_57 h_58 h_59 h_60 h_61 hw
  refine an6 hw ?_
  clear hw
  intro h_62 h_63 h_64 h_65 h_66 h_67 hw
  have h_68 := hw
  clear hw
  subst he_u
  refine ww_subT (w1 := [(hx, .inr (11, [.ref h, .ref qp, .int (nI acz_1), .int (nI npz_2), .ref qs, .ref qj, .ref ly, .ref qh, .ref kk, .int (nI kc), .ref rd, .ref pg, .int (nI pe), .int kn, .ref ss])), (h, .inr (4, [.int (nI nz_35), .int (nI rz__36), .ref a, .ref b])), (a, .inl (E.2.1 1, 24, .inl fz_37)), (b, .inl (E.2.1 1, 96, .inl ggz_38)), (qp, .inl (E.2.1 6, 8, .inr (.inr (.inr (.inr fqp))))), (p0, .inr (4, [.int (nI p0nz_3), .int (nI p0rz__4), .ref p0a, .ref p0b])), (p0a, .inl (E.2.1 1, 24, .inl p0fz_5)), (p0b, .inl (E.2.1 1, 96, .inl p0gz_6)), (p1, .inr (4, [.int (nI p1nz_7), .int (nI p1rz__8), .ref p1a, .ref p1b])), (p1a, .inl (E.2.1 1, 24, .inl p1fz_9)), (p1b, .inl (E.2.1 1, 96, .inl p1gz_10)), (p2, .inr (4, [.int (nI p2nz_11), .int (nI p2rz__12), .ref p2a, .ref p2b])), (p2a, .inl (E.2.1 1, 24, .inl p2fz_13)), (p2b, .inl (E.2.1 1, 96, .inl p2gz_14)), (p3, .inr (4, [.int (nI p3nz_15), .int (nI p3rz__16), .ref p3a, .ref p3b])), (p3a, .inl (E.2.1 1, 24, .inl p3fz_17)), (p3b, .inl (E.2.1 1, 96, .inl p3gz_18)), (p4, .inr (4, [.int (nI p4nz_19), .int (nI p4rz__20), .ref p4a, .ref p4b])), (p4a, .inl (E.2.1 1, 24, .inl p4fz_21)), (p4b, .inl (E.2.1 1, 96, .inl p4gz_22)), (p5, .inr (4, [.int (nI p5nz_23), .int (nI p5rz__24), .ref p5a, .ref p5b])), (p5a, .inl (E.2.1 1, 24, .inl p5fz_25)), (p5b, .inl (E.2.1 1, 96, .inl p5gz_26)), (p6, .inr (4, [.int (nI p6nz_27), .int (nI p6rz__28), .ref p6a, .ref p6b])), (p6a, .inl (E.2.1 1, 24, .inl p6fz_29)), (p6b, .inl (E.2.1 1, 96, .inl p6gz_30)), (p7, .inr (4, [.int (nI p7nz_31), .int (nI p7rz__32), .ref p7a, .ref p7b])), (p7a, .inl (E.2.1 1, 24, .inl p7fz_33)), (p7b, .inl (E.2.1 1, 96, .inl p7gz_34))]) [0, 26, 27, 28, 1, 2, 3, 4, 5, 6, 7, 8, 9, 10, 11, 12, 13, 14, 15, 16, 17, 18, 19, 20, 21, 22, 23, 24, 25] rfl rfl ?_
  exact kont rr acz_1 npz_2 (am nz_35 rz__36 fz_37 ggz_38) (pick8 (am p0nz_3 p0rz__4 p0fz_5 p0gz_6) (am p1nz_7 p1rz__8 p1fz_9 p1gz_10) (am p2nz_11 p2rz__12 p2fz_13 p2gz_14) (am p3nz_15 p3rz__16 p3fz_17 p3gz_18) (am p4nz_19 p4rz__20 p4fz_21 p4gz_22) (am p5nz_23 p5rz__24 p5fz_25 p5gz_26) (am p6nz_27 p6rz__28 p6fz_29 p6gz_30) (am p7nz_31 p7rz__32 p7fz_33 p7gz_34)) [(h, .inr (4, [.int (nI nz_35), .int (nI rz__36), .ref a, .ref b])), (a, .inl (E.2.1 1, 24, .inl fz_37)), (b, .inl (E.2.1 1, 96, .inl ggz_38))] [(qp, .inl (E.2.1 6, 8, .inr (.inr (.inr (.inr fqp))))), (p0, .inr (4, [.int (nI p0nz_3), .int (nI p0rz__4), .ref p0a, .ref p0b])), (p0a, .inl (E.2.1 1, 24, .inl p0fz_5)), (p0b, .inl (E.2.1 1, 96, .inl p0gz_6)), (p1, .inr (4, [.int (nI p1nz_7), .int (nI p1rz__8), .ref p1a, .ref p1b])), (p1a, .inl (E.2.1 1, 24, .inl p1fz_9)), (p1b, .inl (E.2.1 1, 96, .inl p1gz_10)), (p2, .inr (4, [.int (nI p2nz_11), .int (nI p2rz__12), .ref p2a, .ref p2b])), (p2a, .inl (E.2.1 1, 24, .inl p2fz_13)), (p2b, .inl (E.2.1 1, 96, .inl p2gz_14)), (p3, .inr (4, [.int (nI p3nz_15), .int (nI p3rz__16), .ref p3a, .ref p3b])), (p3a, .inl (E.2.1 1, 24, .inl p3fz_17)), (p3b, .inl (E.2.1 1, 96, .inl p3gz_18)), (p4, .inr (4, [.int (nI p4nz_19), .int (nI p4rz__20), .ref p4a, .ref p4b])), (p4a, .inl (E.2.1 1, 24, .inl p4fz_21)), (p4b, .inl (E.2.1 1, 96, .inl p4gz_22)), (p5, .inr (4, [.int (nI p5nz_23), .int (nI p5rz__24), .ref p5a, .ref p5b])), (p5a, .inl (E.2.1 1, 24, .inl p5fz_25)), (p5b, .inl (E.2.1 1, 96, .inl p5gz_26)), (p6, .inr (4, [.int (nI p6nz_27), .int (nI p6rz__28), .ref p6a, .ref p6b])), (p6a, .inl (E.2.1 1, 24, .inl p6fz_29)), (p6b, .inl (E.2.1 1, 96, .inl p6gz_30)), (p7, .inr (4, [.int (nI p7nz_31), .int (nI p7rz__32), .ref p7a, .ref p7b])), (p7a, .inl (E.2.1 1, 24, .inl p7fz_33)), (p7b, .inl (E.2.1 1, 96, .inl p7gz_34))] (by first | assumption | omega) (by first | assumption | omega) ⟨nz_35, rz__36, a, b, fz_37, ggz_38, rfl, (by first | assumption | omega), (by first | assumption | omega), (by first | assumption | omega), rfl⟩ ⟨fqp, p0, p1, p2, p3, p4, p5, p6, p7, p0nz_3, p0rz__4, p0a, p0b, p0fz_5, p0gz_6, p1nz_7, p1rz__8, p1a, p1b, p1fz_9, p1gz_10, p2nz_11, p2rz__12, p2a, p2b, p2fz_13, p2gz_14, p3nz_15, p3rz__16, p3a, p3b, p3fz_17, p3gz_18, p4nz_19, p4rz__20, p4a, p4b, p4fz_21, p4gz_22, p5nz_23, p5rz__24, p5a, p5b, p5fz_25, p5gz_26, p6nz_27, p6rz__28, p6a, p6b, p6fz_29, p6gz_30, p7nz_31, p7rz__32, p7a, p7b, p7fz_33, p7gz_34, rfl, k_fqp_0, k_fqp_1, k_fqp_2, k_fqp_3, k_fqp_4, k_fqp_5, k_fqp_6, k_fqp_7, (by first | assumption | omega), (by first | assumption | omega), (by first | assumption | omega), (by first | assumption | omega), (by first | assumption | omega), (by first | assumption | omega), (by first | assumption | omega), (by first | assumption | omega), (by first | assumption | omega), (by first | assumption | omega), (by first | assumption | omega), (by first | assumption | omega), (by first | assumption | omega), (by first | assumption | omega), (by first | assumption | omega), (by first | assumption | omega), (by first | assumption | omega), (by first | assumption | omega), (by first | assumption | omega), (by first | assumption | omega), (by first | assumption | omega), (by first | assumption | omega), (by first | assumption | omega), (by first | assumption | omega), rfl⟩ (h_68)
theorem wc_X11_real : Cond.code yX11_real cX11_real 3 (some .int) ∈ TB := tbm (tq2 (List.mem_of_getElem? (i := 206) (rfl))) (by decide +kernel)
theorem wi_X11_real : Cond.instanceMethod yX11_real ∈ TB := tbm (tq2 (List.mem_of_getElem? (i := 204) (by decide +kernel))) (by decide +kernel)
theorem ws_X11_real : Cond.selects RX11 yX11_real yX11_real ∈ TB := tbm (tq2 (List.mem_of_getElem? (i := 205) (by decide +kernel))) (by decide +kernel)
theorem mi_X11_real : MI yX11_real cX11_real 3 (some .int) 1 := ⟨wc_X11_real, wn_X11, ⟨by decide +kernel, by decide +kernel, by decide +kernel⟩, wi_X11_real, ws_X11_real⟩
theorem wl_L_27 : Cond.methodLink RL 27 yX11_real ∈ TB := tbm (tq2 (List.mem_of_getElem? (i := 203) (by decide +kernel))) (by decide +kernel)
theorem dL_law_347 : decode cL_law 347 = .ok (.invokevirtual 27, 3) := by decide +kernel
set_option maxRecDepth 100000 in
set_option maxHeartbeats 4000000 in
theorem lx_real {X : XT} {E : EV} {ro wT pre : va_W} {lv : List (Nat × Value)} {rest : List Value} {kC nC : Nat} {hx h qp qs qj ly qh kk rd pg ss : Nat} {ac np kc pe : Nat} {kn : Int32} {mN : AM} {pV : Nat → AM} {w_now : va_W} {w_past : va_W} {v0 : Int32}  (C : CX X room_1 cL_law 4 RL ret E) (hW : Nat.ble (rest.map fun v => v.category).sum 8 = true) (hT : wT = pre ++ ro) (hk : kC + 0 ≤ 600000 ∧ nC + 0 ≤ 7302250) (hac : ac ≤ 8) (hnp : np < 8) (hkc : kc ≤ 4) (hpe : pe ≤ 4) (H_now : ok_now E ro h mN w_now) (H_past : ok_past E ro qp pV w_past) (kont : ∀ (rr : Int32) (acZ : Nat) (npZ : Nat) (mNZ : AM) (pVZ : Nat → AM) (w_nowZ : va_W) (w_pastZ : va_W), acZ ≤ 8 → npZ < 8 → ok_now E ro h mNZ w_nowZ → ok_past E ro qp pVZ w_pastZ → (((asX mNZ acZ npZ pVZ), rr) = opReal (asX mN ac np pV) v0) → WW X 4 E 350 lv (.int rr :: rest) ([(hx, .inr (11, [.ref h, .ref qp, .int (nI acZ), .int (nI npZ), .ref qs, .ref qj, .ref ly, .ref qh, .ref kk, .int (nI kc), .ref rd, .ref pg, .int (nI pe), .int kn, .ref ss]))] ++ (w_nowZ ++ (w_pastZ ++ wT))) kC nC) : WW X 4 E 347 lv (.int v0 :: .ref hx :: rest) ([(hx, .inr (11, [.ref h, .ref qp, .int (nI ac), .int (nI np), .ref qs, .ref qj, .ref ly, .ref qh, .ref kk, .int (nI kc), .ref rd, .ref pg, .int (nI pe), .int kn, .ref ss]))] ++ (w_now ++ (w_past ++ wT))) kC nC := by
  unfold ok_now at H_now
  refine ex6 H_now ?_
  clear H_now
  intro n r a b f gg H_now
  refine an4 H_now ?_
  clear H_now
  intro we_now hn hr hwfm H_now
  have hmN := H_now
  clear H_now
  subst we_now
  subst hmN
  unfold ok_past at H_past
  refine ex8 H_past ?_
  clear H_past
  intro fqp p0 p1 p2 p3 p4 p5 p6 H_past
  refine ex8 H_past ?_
  clear H_past
  intro p7 p0n p0r p0a p0b p0f p0g p1n H_past
  refine ex8 H_past ?_
  clear H_past
  intro p1r p1a p1b p1f p1g p2n p2r p2a H_past
  refine ex8 H_past ?_
  clear H_past
  intro p2b p2f p2g p3n p3r p3a p3b p3f H_past
  refine ex8 H_past ?_
  clear H_past
  intro p3g p4n p4r p4a p4b p4f p4g p5n H_past
  refine ex8 H_past ?_
  clear H_past
  intro p5r p5a p5b p5f p5g p6n p6r p6a H_past
  refine ex8 H_past ?_
  clear H_past
  intro p6b p6f p6g p7n p7r p7a p7b p7f H_past
  refine ex1 H_past ?_
  clear H_past
  intro p7g H_past
  refine an8 H_past ?_
  clear H_past
  intro we_past k_fqp_0 k_fqp_1 k_fqp_2 k_fqp_3 k_fqp_4 k_fqp_5 k_fqp_6 H_past
  refine an8 H_past ?_
  clear H_past
  intro k_fqp_7 hp0_n hp0_r hp0_w hp1_n hp1_r hp1_w hp2_n H_past
  refine an8 H_past ?_
  clear H_past
  intro hp2_r hp2_w hp3_n hp3_r hp3_w hp4_n hp4_r hp4_w H_past
  refine an8 H_past ?_
  clear H_past
  intro hp5_n hp5_r hp5_w hp6_n hp6_r hp6_w hp7_n hp7_r H_past
  refine an1 H_past ?_
  clear H_past
  intro hp7_w H_past
  have hpV := H_past
  clear H_past
  subst we_past
  subst hpV
  refine ww_eq (ws' := [(hx, .inr (11, [.ref h, .ref qp, .int (nI ac), .int (nI np), .ref qs, .ref qj, .ref ly, .ref qh, .ref kk, .int (nI kc), .ref rd, .ref pg, .int (nI pe), .int kn, .ref ss])), (h, .inr (4, [.int (nI n), .int (nI r), .ref a, .ref b])), (a, .inl (E.2.1 1, 24, .inl f)), (b, .inl (E.2.1 1, 96, .inl gg)), (qp, .inl (E.2.1 6, 8, .inr (.inr (.inr (.inr fqp))))), (p0, .inr (4, [.int (nI p0n), .int (nI p0r), .ref p0a, .ref p0b])), (p0a, .inl (E.2.1 1, 24, .inl p0f)), (p0b, .inl (E.2.1 1, 96, .inl p0g)), (p1, .inr (4, [.int (nI p1n), .int (nI p1r), .ref p1a, .ref p1b])), (p1a, .inl (E.2.1 1, 24, .inl p1f)), (p1b, .inl (E.2.1 1, 96, .inl p1g)), (p2, .inr (4, [.int (nI p2n), .int (nI p2r), .ref p2a, .ref p2b])), (p2a, .inl (E.2.1 1, 24, .inl p2f)), (p2b, .inl (E.2.1 1, 96, .inl p2g)), (p3, .inr (4, [.int (nI p3n), .int (nI p3r), .ref p3a, .ref p3b])), (p3a, .inl (E.2.1 1, 24, .inl p3f)), (p3b, .inl (E.2.1 1, 96, .inl p3g)), (p4, .inr (4, [.int (nI p4n), .int (nI p4r), .ref p4a, .ref p4b])), (p4a, .inl (E.2.1 1, 24, .inl p4f)), (p4b, .inl (E.2.1 1, 96, .inl p4g)), (p5, .inr (4, [.int (nI p5n), .int (nI p5r), .ref p5a, .ref p5b])), (p5a, .inl (E.2.1 1, 24, .inl p5f)), (p5b, .inl (E.2.1 1, 96, .inl p5g)), (p6, .inr (4, [.int (nI p6n), .int (nI p6r), .ref p6a, .ref p6b])), (p6a, .inl (E.2.1 1, 24, .inl p6f)), (p6b, .inl (E.2.1 1, 96, .inl p6g)), (p7, .inr (4, [.int (nI p7n), .int (nI p7r), .ref p7a, .ref p7b])), (p7a, .inl (E.2.1 1, 24, .inl p7f)), (p7b, .inl (E.2.1 1, 96, .inl p7g))] ++ wT) ?_ rfl rfl rfl
  refine ww_ciT (k' := kC) (n' := nC) (wr := []) C (run_V (As := [.int v0]) (rest := rest) C (x_real X.2.1 E ro hx v0 h qp ac np qs qj ly qh kk kc rd pg pe kn ss fqp p0 p1 p2 p3 p4 p5 p6 p7 p0n p0r p0a p0b p0f p0g p1n p1r p1a p1b p1f p1g p2n p2r p2a p2b p2f p2g p3n p3r p3a p3b p3f p3g p4n p4r p4a p4b p4f p4g p5n p5r p5a p5b p5f p5g p6n p6r p6a p6b p6f p6g p7n p7r p7a p7b p7f p7g n r a b f gg k_fqp_0 k_fqp_1 k_fqp_2 k_fqp_3 k_fqp_4 k_fqp_5 k_fqp_6 k_fqp_7 (by first | assumption | omega) (by first | assumption | omega) (by first | assumption | omega) (by first | assumption | omega) (by first | assumption | omega) (by first | assumption | omega) (by first | assumption | omega) (by first | assumption | omega) (by first | assumption | omega) (by first | assumption | omega) (by first | assumption | omega) (by first | assumption | omega) (by first | assumption | omega) (by first | assumption | omega) (by first | assumption | omega) (by first | assumption | omega) (by first | assumption | omega) (by first | assumption | omega) (by first | assumption | omega) (by first | assumption | omega) (by first | assumption | omega) (by first | assumption | omega) (by first | assumption | omega) (by first | assumption | omega) (by first | assumption | omega) (by first | assumption | omega) (by first | assumption | omega) (by first | assumption | omega) (by first | assumption | omega) (by first | assumption | omega) (by first | assumption | omega)) mi_X11_real wl_L_27 rfl 0 11 rfl rfl rfl rfl hW dL_law_347) (roT (pre := pre) [0, 4, 5, 6, 7, 8, 9, 10, 11, 12, 13, 14, 15, 16, 17, 18, 19, 20, 21, 22, 23, 24, 25, 26, 27, 28, 1, 2, 3] rfl hT) [0, 4, 5, 6, 7, 8, 9, 10, 11, 12, 13, 14, 15, 16, 17, 18, 19, 20, 21, 22, 23, 24, 25, 26, 27, 28, 1, 2, 3] [] rfl rfl rfl ⟨by omega, by omega, hk.1, hk.2⟩ (fun rr u hw => ?_)
  refine ex8 hw ?_
  clear hw
  intro acz_1 npz_2 p0nz_3 p0rz__4 p0fz_5 p0gz_6 p1nz_7 p1rz__8 hw
  refine ex8 hw ?_
  clear hw
  intro p1fz_9 p1gz_10 p2nz_11 p2rz__12 p2fz_13 p2gz_14 p3nz_15 p3rz__16 hw
  refine ex8 hw ?_
  clear hw
  intro p3fz_17 p3gz_18 p4nz_19 p4rz__20 p4fz_21 p4gz_22 p5nz_23 p5rz__24 hw
  refine ex8 hw ?_
  clear hw
  intro p5fz_25 p5gz_26 p6nz_27 p6rz__28 p6fz_29 p6gz_30 p7nz_31 p7rz__32 hw
  refine ex6 hw ?_
  clear hw
  intro p7fz_33 p7gz_34 nz_35 rz__36 fz_37 ggz_38 hw
  refine an8 hw ?_
  clear hw
  intro he_u h_39 h_40 h_41 h_42 h_43 h_44 h_45 hw
  refine an8 hw ?_
  clear hw
  intro h_46 h_47 h_48 h_49 h_50 h_51 h_52 h_53 hw
  refine an8 hw ?_
  clear hw
  intro h_54 h_55 h_56 h_57 h_58 h_59 h_60 h_61 hw
  refine an6 hw ?_
  clear hw
  intro h_62 h_63 h_64 h_65 h_66 h_67 hw
  have h_68 := hw
  clear hw
  subst he_u
  refine ww_subT (w1 := [(hx, .inr (11, [.ref h, .ref qp, .int (nI acz_1), .int (nI npz_2), .ref qs, .ref qj, .ref ly, .ref qh, .ref kk, .int (nI kc), .ref rd, .ref pg, .int (nI pe), .int kn, .ref ss])), (h, .inr (4, [.int (nI nz_35), .int (nI rz__36), .ref a, .ref b])), (a, .inl (E.2.1 1, 24, .inl fz_37)), (b, .inl (E.2.1 1, 96, .inl ggz_38)), (qp, .inl (E.2.1 6, 8, .inr (.inr (.inr (.inr fqp))))), (p0, .inr (4, [.int (nI p0nz_3), .int (nI p0rz__4), .ref p0a, .ref p0b])), (p0a, .inl (E.2.1 1, 24, .inl p0fz_5)), (p0b, .inl (E.2.1 1, 96, .inl p0gz_6)), (p1, .inr (4, [.int (nI p1nz_7), .int (nI p1rz__8), .ref p1a, .ref p1b])), (p1a, .inl (E.2.1 1, 24, .inl p1fz_9)), (p1b, .inl (E.2.1 1, 96, .inl p1gz_10)), (p2, .inr (4, [.int (nI p2nz_11), .int (nI p2rz__12), .ref p2a, .ref p2b])), (p2a, .inl (E.2.1 1, 24, .inl p2fz_13)), (p2b, .inl (E.2.1 1, 96, .inl p2gz_14)), (p3, .inr (4, [.int (nI p3nz_15), .int (nI p3rz__16), .ref p3a, .ref p3b])), (p3a, .inl (E.2.1 1, 24, .inl p3fz_17)), (p3b, .inl (E.2.1 1, 96, .inl p3gz_18)), (p4, .inr (4, [.int (nI p4nz_19), .int (nI p4rz__20), .ref p4a, .ref p4b])), (p4a, .inl (E.2.1 1, 24, .inl p4fz_21)), (p4b, .inl (E.2.1 1, 96, .inl p4gz_22)), (p5, .inr (4, [.int (nI p5nz_23), .int (nI p5rz__24), .ref p5a, .ref p5b])), (p5a, .inl (E.2.1 1, 24, .inl p5fz_25)), (p5b, .inl (E.2.1 1, 96, .inl p5gz_26)), (p6, .inr (4, [.int (nI p6nz_27), .int (nI p6rz__28), .ref p6a, .ref p6b])), (p6a, .inl (E.2.1 1, 24, .inl p6fz_29)), (p6b, .inl (E.2.1 1, 96, .inl p6gz_30)), (p7, .inr (4, [.int (nI p7nz_31), .int (nI p7rz__32), .ref p7a, .ref p7b])), (p7a, .inl (E.2.1 1, 24, .inl p7fz_33)), (p7b, .inl (E.2.1 1, 96, .inl p7gz_34))]) [0, 26, 27, 28, 1, 2, 3, 4, 5, 6, 7, 8, 9, 10, 11, 12, 13, 14, 15, 16, 17, 18, 19, 20, 21, 22, 23, 24, 25] rfl rfl ?_
  exact kont rr acz_1 npz_2 (am nz_35 rz__36 fz_37 ggz_38) (pick8 (am p0nz_3 p0rz__4 p0fz_5 p0gz_6) (am p1nz_7 p1rz__8 p1fz_9 p1gz_10) (am p2nz_11 p2rz__12 p2fz_13 p2gz_14) (am p3nz_15 p3rz__16 p3fz_17 p3gz_18) (am p4nz_19 p4rz__20 p4fz_21 p4gz_22) (am p5nz_23 p5rz__24 p5fz_25 p5gz_26) (am p6nz_27 p6rz__28 p6fz_29 p6gz_30) (am p7nz_31 p7rz__32 p7fz_33 p7gz_34)) [(h, .inr (4, [.int (nI nz_35), .int (nI rz__36), .ref a, .ref b])), (a, .inl (E.2.1 1, 24, .inl fz_37)), (b, .inl (E.2.1 1, 96, .inl ggz_38))] [(qp, .inl (E.2.1 6, 8, .inr (.inr (.inr (.inr fqp))))), (p0, .inr (4, [.int (nI p0nz_3), .int (nI p0rz__4), .ref p0a, .ref p0b])), (p0a, .inl (E.2.1 1, 24, .inl p0fz_5)), (p0b, .inl (E.2.1 1, 96, .inl p0gz_6)), (p1, .inr (4, [.int (nI p1nz_7), .int (nI p1rz__8), .ref p1a, .ref p1b])), (p1a, .inl (E.2.1 1, 24, .inl p1fz_9)), (p1b, .inl (E.2.1 1, 96, .inl p1gz_10)), (p2, .inr (4, [.int (nI p2nz_11), .int (nI p2rz__12), .ref p2a, .ref p2b])), (p2a, .inl (E.2.1 1, 24, .inl p2fz_13)), (p2b, .inl (E.2.1 1, 96, .inl p2gz_14)), (p3, .inr (4, [.int (nI p3nz_15), .int (nI p3rz__16), .ref p3a, .ref p3b])), (p3a, .inl (E.2.1 1, 24, .inl p3fz_17)), (p3b, .inl (E.2.1 1, 96, .inl p3gz_18)), (p4, .inr (4, [.int (nI p4nz_19), .int (nI p4rz__20), .ref p4a, .ref p4b])), (p4a, .inl (E.2.1 1, 24, .inl p4fz_21)), (p4b, .inl (E.2.1 1, 96, .inl p4gz_22)), (p5, .inr (4, [.int (nI p5nz_23), .int (nI p5rz__24), .ref p5a, .ref p5b])), (p5a, .inl (E.2.1 1, 24, .inl p5fz_25)), (p5b, .inl (E.2.1 1, 96, .inl p5gz_26)), (p6, .inr (4, [.int (nI p6nz_27), .int (nI p6rz__28), .ref p6a, .ref p6b])), (p6a, .inl (E.2.1 1, 24, .inl p6fz_29)), (p6b, .inl (E.2.1 1, 96, .inl p6gz_30)), (p7, .inr (4, [.int (nI p7nz_31), .int (nI p7rz__32), .ref p7a, .ref p7b])), (p7a, .inl (E.2.1 1, 24, .inl p7fz_33)), (p7b, .inl (E.2.1 1, 96, .inl p7gz_34))] (by first | assumption | omega) (by first | assumption | omega) ⟨nz_35, rz__36, a, b, fz_37, ggz_38, rfl, (by first | assumption | omega), (by first | assumption | omega), (by first | assumption | omega), rfl⟩ ⟨fqp, p0, p1, p2, p3, p4, p5, p6, p7, p0nz_3, p0rz__4, p0a, p0b, p0fz_5, p0gz_6, p1nz_7, p1rz__8, p1a, p1b, p1fz_9, p1gz_10, p2nz_11, p2rz__12, p2a, p2b, p2fz_13, p2gz_14, p3nz_15, p3rz__16, p3a, p3b, p3fz_17, p3gz_18, p4nz_19, p4rz__20, p4a, p4b, p4fz_21, p4gz_22, p5nz_23, p5rz__24, p5a, p5b, p5fz_25, p5gz_26, p6nz_27, p6rz__28, p6a, p6b, p6fz_29, p6gz_30, p7nz_31, p7rz__32, p7a, p7b, p7fz_33, p7gz_34, rfl, k_fqp_0, k_fqp_1, k_fqp_2, k_fqp_3, k_fqp_4, k_fqp_5, k_fqp_6, k_fqp_7, (by first | assumption | omega), (by first | assumption | omega), (by first | assumption | omega), (by first | assumption | omega), (by first | assumption | omega), (by first | assumption | omega), (by first | assumption | omega), (by first | assumption | omega), (by first | assumption | omega), (by first | assumption | omega), (by first | assumption | omega), (by first | assumption | omega), (by first | assumption | omega), (by first | assumption | omega), (by first | assumption | omega), (by first | assumption | omega), (by first | assumption | omega), (by first | assumption | omega), (by first | assumption | omega), (by first | assumption | omega), (by first | assumption | omega), (by first | assumption | omega), (by first | assumption | omega), (by first | assumption | omega), rfl⟩ (h_68)
theorem wc_X11_of : Cond.code yX11_of cX11_of 3 (some .int) ∈ TB := tbm (tq2 (List.mem_of_getElem? (i := 210) (rfl))) (by decide +kernel)
theorem wi_X11_of : Cond.instanceMethod yX11_of ∈ TB := tbm (tq2 (List.mem_of_getElem? (i := 208) (by decide +kernel))) (by decide +kernel)
theorem ws_X11_of : Cond.selects RX11 yX11_of yX11_of ∈ TB := tbm (tq2 (List.mem_of_getElem? (i := 209) (by decide +kernel))) (by decide +kernel)
theorem mi_X11_of : MI yX11_of cX11_of 3 (some .int) 2 := ⟨wc_X11_of, wn_X11, ⟨by decide +kernel, by decide +kernel, by decide +kernel⟩, wi_X11_of, ws_X11_of⟩
theorem wl_L_31 : Cond.methodLink RL 31 yX11_of ∈ TB := tbm (tq2 (List.mem_of_getElem? (i := 207) (by decide +kernel))) (by decide +kernel)
theorem dL_law_375 : decode cL_law 375 = .ok (.invokevirtual 31, 3) := by decide +kernel
set_option maxRecDepth 100000 in
set_option maxHeartbeats 4000000 in
theorem lx_of {X : XT} {E : EV} {ro wT pre : va_W} {lv : List (Nat × Value)} {rest : List Value} {kC nC : Nat} {hx h qp qs qj ly qh kk rd pg ss : Nat} {ac np kc pe : Nat} {kn : Int32} {mN : AM} {w_now : va_W} {v0 : Int32} {v1 : Int32}  (C : CX X room_1 cL_law 4 RL ret E) (hW : Nat.ble (rest.map fun v => v.category).sum 8 = true) (hT : wT = pre ++ ro) (hk : kC + 0 ≤ 600000 ∧ nC + 0 ≤ 7302250) (hac : ac ≤ 8) (hnp : np < 8) (hkc : kc ≤ 4) (hpe : pe ≤ 4) (H_now : ok_now E ro h mN w_now) (kont : ∀ (rr : Int32) (w_nowZ : va_W), ok_now E ro h mN w_nowZ → (rr = ansOf mN v0 v1) → WW X 4 E 378 lv (.int rr :: rest) ([(hx, .inr (11, [.ref h, .ref qp, .int (nI ac), .int (nI np), .ref qs, .ref qj, .ref ly, .ref qh, .ref kk, .int (nI kc), .ref rd, .ref pg, .int (nI pe), .int kn, .ref ss]))] ++ (w_nowZ ++ wT)) kC nC) : WW X 4 E 375 lv (.int v1 :: .int v0 :: .ref hx :: rest) ([(hx, .inr (11, [.ref h, .ref qp, .int (nI ac), .int (nI np), .ref qs, .ref qj, .ref ly, .ref qh, .ref kk, .int (nI kc), .ref rd, .ref pg, .int (nI pe), .int kn, .ref ss]))] ++ (w_now ++ wT)) kC nC := by
  unfold ok_now at H_now
  refine ex6 H_now ?_
  clear H_now
  intro n r a b f gg H_now
  refine an4 H_now ?_
  clear H_now
  intro we_now hn hr hwfm H_now
  have hmN := H_now
  clear H_now
  subst we_now
  subst hmN
  refine ww_eq (ws' := [(hx, .inr (11, [.ref h, .ref qp, .int (nI ac), .int (nI np), .ref qs, .ref qj, .ref ly, .ref qh, .ref kk, .int (nI kc), .ref rd, .ref pg, .int (nI pe), .int kn, .ref ss])), (h, .inr (4, [.int (nI n), .int (nI r), .ref a, .ref b])), (a, .inl (E.2.1 1, 24, .inl f)), (b, .inl (E.2.1 1, 96, .inl gg))] ++ wT) ?_ rfl rfl rfl
  refine ww_ciT (k' := kC) (n' := nC) (wr := []) C (run_V (As := [.int v0, .int v1]) (rest := rest) C (x_of X.2.1 E ro hx v0 v1 h qp ac np qs qj ly qh kk kc rd pg pe kn ss n r a b f gg (by first | assumption | omega) (by first | assumption | omega) (by first | assumption | omega) (by first | assumption | omega) (by first | assumption | omega) (by first | assumption | omega) (by first | assumption | omega)) mi_X11_of wl_L_31 rfl 0 11 rfl rfl rfl rfl hW dL_law_375) (roT (pre := pre) [0, 1, 2, 3] rfl hT) [0, 1, 2, 3] [] rfl rfl rfl ⟨by omega, by omega, hk.1, hk.2⟩ (fun rr u hw => ?_)
  refine an1 hw ?_
  clear hw
  intro he_u hw
  have h_1 := hw
  clear hw
  subst he_u
  refine ww_subT (w1 := [(hx, .inr (11, [.ref h, .ref qp, .int (nI ac), .int (nI np), .ref qs, .ref qj, .ref ly, .ref qh, .ref kk, .int (nI kc), .ref rd, .ref pg, .int (nI pe), .int kn, .ref ss])), (h, .inr (4, [.int (nI n), .int (nI r), .ref a, .ref b])), (a, .inl (E.2.1 1, 24, .inl f)), (b, .inl (E.2.1 1, 96, .inl gg))]) [0, 1, 2, 3] rfl rfl ?_
  exact kont rr  [(h, .inr (4, [.int (nI n), .int (nI r), .ref a, .ref b])), (a, .inl (E.2.1 1, 24, .inl f)), (b, .inl (E.2.1 1, 96, .inl gg))]  ⟨n, r, a, b, f, gg, rfl, (by first | assumption | omega), (by first | assumption | omega), (by first | assumption | omega), rfl⟩ (h_1)
theorem wc_X11_reach : Cond.code yX11_reach cX11_reach 3 (some .int) ∈ TB := tbm (tq2 (List.mem_of_getElem? (i := 218) (rfl))) (by decide +kernel)
theorem wi_X11_reach : Cond.instanceMethod yX11_reach ∈ TB := tbm (tq2 (List.mem_of_getElem? (i := 216) (by decide +kernel))) (by decide +kernel)
theorem ws_X11_reach : Cond.selects RX11 yX11_reach yX11_reach ∈ TB := tbm (tq2 (List.mem_of_getElem? (i := 217) (by decide +kernel))) (by decide +kernel)
theorem mi_X11_reach : MI yX11_reach cX11_reach 3 (some .int) 2 := ⟨wc_X11_reach, wn_X11, ⟨by decide +kernel, by decide +kernel, by decide +kernel⟩, wi_X11_reach, ws_X11_reach⟩
theorem wl_L_36 : Cond.methodLink RL 36 yX11_reach ∈ TB := tbm (tq2 (List.mem_of_getElem? (i := 215) (by decide +kernel))) (by decide +kernel)
theorem dL_law_408 : decode cL_law 408 = .ok (.invokevirtual 36, 3) := by decide +kernel
set_option maxRecDepth 100000 in
set_option maxHeartbeats 4000000 in
theorem lx_reach {X : XT} {E : EV} {ro wT pre : va_W} {lv : List (Nat × Value)} {rest : List Value} {kC nC : Nat} {hx h qp qs qj ly qh kk rd pg ss : Nat} {ac np kc pe : Nat} {kn : Int32} {mN : AM} {w_now : va_W} {v0 : Int32} {v1 : Int32}  (C : CX X room_1 cL_law 4 RL ret E) (hW : Nat.ble (rest.map fun v => v.category).sum 8 = true) (hT : wT = pre ++ ro) (hk : kC + 0 ≤ 600000 ∧ nC + 0 ≤ 7302250) (hac : ac ≤ 8) (hnp : np < 8) (hkc : kc ≤ 4) (hpe : pe ≤ 4) (H_now : ok_now E ro h mN w_now) (kont : ∀ (rr : Int32) (w_nowZ : va_W), ok_now E ro h mN w_nowZ → (rr = ansReach mN v0 v1) → WW X 4 E 411 lv (.int rr :: rest) ([(hx, .inr (11, [.ref h, .ref qp, .int (nI ac), .int (nI np), .ref qs, .ref qj, .ref ly, .ref qh, .ref kk, .int (nI kc), .ref rd, .ref pg, .int (nI pe), .int kn, .ref ss]))] ++ (w_nowZ ++ wT)) kC nC) : WW X 4 E 408 lv (.int v1 :: .int v0 :: .ref hx :: rest) ([(hx, .inr (11, [.ref h, .ref qp, .int (nI ac), .int (nI np), .ref qs, .ref qj, .ref ly, .ref qh, .ref kk, .int (nI kc), .ref rd, .ref pg, .int (nI pe), .int kn, .ref ss]))] ++ (w_now ++ wT)) kC nC := by
  unfold ok_now at H_now
  refine ex6 H_now ?_
  clear H_now
  intro n r a b f gg H_now
  refine an4 H_now ?_
  clear H_now
  intro we_now hn hr hwfm H_now
  have hmN := H_now
  clear H_now
  subst we_now
  subst hmN
  refine ww_eq (ws' := [(hx, .inr (11, [.ref h, .ref qp, .int (nI ac), .int (nI np), .ref qs, .ref qj, .ref ly, .ref qh, .ref kk, .int (nI kc), .ref rd, .ref pg, .int (nI pe), .int kn, .ref ss])), (h, .inr (4, [.int (nI n), .int (nI r), .ref a, .ref b])), (a, .inl (E.2.1 1, 24, .inl f)), (b, .inl (E.2.1 1, 96, .inl gg))] ++ wT) ?_ rfl rfl rfl
  refine ww_ciT (k' := kC) (n' := nC) (wr := []) C (run_V (As := [.int v0, .int v1]) (rest := rest) C (x_reach X.2.1 E ro hx v0 v1 h qp ac np qs qj ly qh kk kc rd pg pe kn ss n r a b f gg (by first | assumption | omega) (by first | assumption | omega) (by first | assumption | omega) (by first | assumption | omega) (by first | assumption | omega) (by first | assumption | omega) (by first | assumption | omega)) mi_X11_reach wl_L_36 rfl 0 11 rfl rfl rfl rfl hW dL_law_408) (roT (pre := pre) [0, 1, 2, 3] rfl hT) [0, 1, 2, 3] [] rfl rfl rfl ⟨by omega, by omega, hk.1, hk.2⟩ (fun rr u hw => ?_)
  refine an1 hw ?_
  clear hw
  intro he_u hw
  have h_1 := hw
  clear hw
  subst he_u
  refine ww_subT (w1 := [(hx, .inr (11, [.ref h, .ref qp, .int (nI ac), .int (nI np), .ref qs, .ref qj, .ref ly, .ref qh, .ref kk, .int (nI kc), .ref rd, .ref pg, .int (nI pe), .int kn, .ref ss])), (h, .inr (4, [.int (nI n), .int (nI r), .ref a, .ref b])), (a, .inl (E.2.1 1, 24, .inl f)), (b, .inl (E.2.1 1, 96, .inl gg))]) [0, 1, 2, 3] rfl rfl ?_
  exact kont rr  [(h, .inr (4, [.int (nI n), .int (nI r), .ref a, .ref b])), (a, .inl (E.2.1 1, 24, .inl f)), (b, .inl (E.2.1 1, 96, .inl gg))]  ⟨n, r, a, b, f, gg, rfl, (by first | assumption | omega), (by first | assumption | omega), (by first | assumption | omega), rfl⟩ (h_1)
theorem wc_X11_feed : Cond.code yX11_feed cX11_feed 3 (some .int) ∈ TB := tbm (tq2 (List.mem_of_getElem? (i := 233) (rfl))) (by decide +kernel)
theorem wi_X11_feed : Cond.instanceMethod yX11_feed ∈ TB := tbm (tq2 (List.mem_of_getElem? (i := 231) (by decide +kernel))) (by decide +kernel)
theorem ws_X11_feed : Cond.selects RX11 yX11_feed yX11_feed ∈ TB := tbm (tq2 (List.mem_of_getElem? (i := 232) (by decide +kernel))) (by decide +kernel)
theorem mi_X11_feed : MI yX11_feed cX11_feed 3 (some .int) 1 := ⟨wc_X11_feed, wn_X11, ⟨by decide +kernel, by decide +kernel, by decide +kernel⟩, wi_X11_feed, ws_X11_feed⟩
theorem wl_L_42 : Cond.methodLink RL 42 yX11_feed ∈ TB := tbm (tq2 (List.mem_of_getElem? (i := 230) (by decide +kernel))) (by decide +kernel)
theorem dL_law_451 : decode cL_law 451 = .ok (.invokevirtual 42, 3) := by decide +kernel
set_option maxRecDepth 100000 in
set_option maxHeartbeats 4000000 in
theorem lx_feed {X : XT} {E : EV} {ro wT pre : va_W} {lv : List (Nat × Value)} {rest : List Value} {kC nC : Nat} {hx h qp qs qj ly qh kk rd pg ss : Nat} {ac np kc pe : Nat} {kn : Int32} {tl : Nat} {ct : Nat → Int} {w_pars : va_W} {v0 : Int64}  (C : CX X room_1 cL_law 4 RL ret E) (hW : Nat.ble (rest.map fun v => v.category).sum 8 = true) (hT : wT = pre ++ ro) (hk : kC + 0 ≤ 600000 ∧ nC + 0 ≤ 7302250) (hac : ac ≤ 8) (hnp : np < 8) (hkc : kc ≤ 4) (hpe : pe ≤ 4) (H_pars : ok_pars E ro qs tl ct w_pars) (kont : ∀ (rr : Int32) (tlZ : Nat) (ctZ : Nat → Int) (w_parsZ : va_W), ok_pars E ro qs tlZ ctZ w_parsZ → ((tl + 8 ≤ 160 ∧ tlZ = tl + 8 ∧ ctZ = czf ct tl v0 ∧ rr = nI (tl + 8)) ∨ (160 < tl + 8 ∧ tlZ = tl ∧ ctZ = ct ∧ rr = -3)) → WW X 4 E 454 lv (.int rr :: rest) ([(hx, .inr (11, [.ref h, .ref qp, .int (nI ac), .int (nI np), .ref qs, .ref qj, .ref ly, .ref qh, .ref kk, .int (nI kc), .ref rd, .ref pg, .int (nI pe), .int kn, .ref ss]))] ++ (w_parsZ ++ wT)) kC nC) : WW X 4 E 451 lv (.long v0 :: .ref hx :: rest) ([(hx, .inr (11, [.ref h, .ref qp, .int (nI ac), .int (nI np), .ref qs, .ref qj, .ref ly, .ref qh, .ref kk, .int (nI kc), .ref rd, .ref pg, .int (nI pe), .int kn, .ref ss]))] ++ (w_pars ++ wT)) kC nC := by
  unfold ok_pars at H_pars
  refine ex8 H_pars ?_
  clear H_pars
  intro qt po pa pf pd nd tn an H_pars
  refine ex8 H_pars ?_
  clear H_pars
  intro wr pl tb ta tk ts fb fo H_pars
  refine ex3 H_pars ?_
  clear H_pars
  intro pfa af fd H_pars
  refine an2 H_pars ?_
  clear H_pars
  intro we_pars htl H_pars
  have hct := H_pars
  clear H_pars
  subst we_pars
  subst hct
  refine ww_eq (ws' := [(hx, .inr (11, [.ref h, .ref qp, .int (nI ac), .int (nI np), .ref qs, .ref qj, .ref ly, .ref qh, .ref kk, .int (nI kc), .ref rd, .ref pg, .int (nI pe), .int kn, .ref ss])), (qs, .inr (5, [.ref qt, .ref po, .ref pa, .ref pf, .ref pd, .int nd, .int tn, .int an, .int wr, .int pl])), (qt, .inr (10, [.ref tb, .int (nI tl), .int ta, .int tk, .int ts])), (tb, .inl (E.2.1 0, 160, .inl fb)), (po, .inl (E.2.1 1, 32, .inl fo)), (pa, .inl (E.2.1 1, 32, .inl pfa)), (pf, .inl (E.2.1 1, 2, .inl af)), (pd, .inl (E.2.1 1, 32, .inl fd))] ++ wT) ?_ rfl rfl rfl
  refine ww_ciT (k' := kC) (n' := nC) (wr := [(po, .inl (E.2.1 1, 32, .inl fo)), (pa, .inl (E.2.1 1, 32, .inl pfa)), (pf, .inl (E.2.1 1, 2, .inl af)), (pd, .inl (E.2.1 1, 32, .inl fd))]) C (run_V (As := [.long v0]) (rest := rest) C (x_feed X.2.1 E ro hx v0 h qp ac np qs qj ly qh kk kc rd pg pe kn ss qt po pa pf pd nd tn an wr pl tb tl ta tk ts fb (by first | assumption | omega) (by first | assumption | omega) (by first | assumption | omega) (by first | assumption | omega) (by first | assumption | omega)) mi_X11_feed wl_L_42 rfl 0 11 rfl rfl rfl rfl hW dL_law_451) (roT (pre := pre) [0, 1, 2, 3] rfl hT) [0, 1, 2, 3] [4, 5, 6, 7] rfl rfl rfl ⟨by omega, by omega, hk.1, hk.2⟩ (fun rr u hw => ?_)
  rcases hw with hw | hw
  · refine ex1 hw ?_
    clear hw
    intro fb2_1 hw
    refine an3 hw ?_
    clear hw
    intro he_r he_u h_2 hw
    have h_3 := hw
    clear hw
    have he_r := he_r.symm
    subst he_r
    subst he_u
    refine ww_subT (w1 := [(hx, .inr (11, [.ref h, .ref qp, .int (nI ac), .int (nI np), .ref qs, .ref qj, .ref ly, .ref qh, .ref kk, .int (nI kc), .ref rd, .ref pg, .int (nI pe), .int kn, .ref ss])), (qs, .inr (5, [.ref qt, .ref po, .ref pa, .ref pf, .ref pd, .int nd, .int tn, .int an, .int wr, .int pl])), (qt, .inr (10, [.ref tb, .int (nI (tl + 8)), .int ta, .int tk, .int ts])), (tb, .inl (E.2.1 0, 160, .inl fb2_1)), (po, .inl (E.2.1 1, 32, .inl fo)), (pa, .inl (E.2.1 1, 32, .inl pfa)), (pf, .inl (E.2.1 1, 2, .inl af)), (pd, .inl (E.2.1 1, 32, .inl fd))]) [4, 5, 6, 7, 0, 1, 2, 3] rfl rfl ?_
    exact kont (nI (tl + 8)) (tl + 8) (cz fb2_1 (tl + 8)) [(qs, .inr (5, [.ref qt, .ref po, .ref pa, .ref pf, .ref pd, .int nd, .int tn, .int an, .int wr, .int pl])), (qt, .inr (10, [.ref tb, .int (nI (tl + 8)), .int ta, .int tk, .int ts])), (tb, .inl (E.2.1 0, 160, .inl fb2_1)), (po, .inl (E.2.1 1, 32, .inl fo)), (pa, .inl (E.2.1 1, 32, .inl pfa)), (pf, .inl (E.2.1 1, 2, .inl af)), (pd, .inl (E.2.1 1, 32, .inl fd))]  ⟨qt, po, pa, pf, pd, nd, tn, an, wr, pl, tb, ta, tk, ts, fb2_1, fo, pfa, af, fd, rfl, (by first | assumption | omega), rfl⟩ (Or.inl ⟨h_2, rfl, cz_by h_3, rfl⟩)
  · refine an2 hw ?_
    clear hw
    intro he_r he_u hw
    have h_4 := hw
    clear hw
    have he_r := he_r.symm
    subst he_r
    subst he_u
    refine ww_subT (w1 := [(hx, .inr (11, [.ref h, .ref qp, .int (nI ac), .int (nI np), .ref qs, .ref qj, .ref ly, .ref qh, .ref kk, .int (nI kc), .ref rd, .ref pg, .int (nI pe), .int kn, .ref ss])), (qs, .inr (5, [.ref qt, .ref po, .ref pa, .ref pf, .ref pd, .int nd, .int tn, .int an, .int wr, .int pl])), (qt, .inr (10, [.ref tb, .int (nI tl), .int ta, .int tk, .int ts])), (tb, .inl (E.2.1 0, 160, .inl fb)), (po, .inl (E.2.1 1, 32, .inl fo)), (pa, .inl (E.2.1 1, 32, .inl pfa)), (pf, .inl (E.2.1 1, 2, .inl af)), (pd, .inl (E.2.1 1, 32, .inl fd))]) [4, 5, 6, 7, 0, 1, 2, 3] rfl rfl ?_
    exact kont (-3) tl (cz fb tl) [(qs, .inr (5, [.ref qt, .ref po, .ref pa, .ref pf, .ref pd, .int nd, .int tn, .int an, .int wr, .int pl])), (qt, .inr (10, [.ref tb, .int (nI tl), .int ta, .int tk, .int ts])), (tb, .inl (E.2.1 0, 160, .inl fb)), (po, .inl (E.2.1 1, 32, .inl fo)), (pa, .inl (E.2.1 1, 32, .inl pfa)), (pf, .inl (E.2.1 1, 2, .inl af)), (pd, .inl (E.2.1 1, 32, .inl fd))]  ⟨qt, po, pa, pf, pd, nd, tn, an, wr, pl, tb, ta, tk, ts, fb, fo, pfa, af, fd, rfl, (by first | assumption | omega), rfl⟩ (Or.inr (⟨h_4, rfl, rfl, rfl⟩))
