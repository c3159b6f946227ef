theorem wc_X11_keep : Cond.code yX11_keep cX11_keep 1 (some .int) ∈ TB := tbm (tq4 (List.mem_of_getElem? (i := 174) (rfl))) (by decide +kernel)
theorem wi_X11_keep : Cond.instanceMethod yX11_keep ∈ TB := tbm (tq4 (List.mem_of_getElem? (i := 172) (by decide +kernel))) (by decide +kernel)
theorem ws_X11_keep : Cond.selects RX11 yX11_keep yX11_keep ∈ TB := tbm (tq4 (List.mem_of_getElem? (i := 173) (by decide +kernel))) (by decide +kernel)
theorem mi_X11_keep : MI yX11_keep cX11_keep 1 (some .int) 0 := ⟨wc_X11_keep, wn_X11, ⟨by decide +kernel, by decide +kernel, by decide +kernel⟩, wi_X11_keep, ws_X11_keep⟩
theorem wl_L_115 : Cond.methodLink RL 115 yX11_keep ∈ TB := tbm (tq4 (List.mem_of_getElem? (i := 171) (by decide +kernel))) (by decide +kernel)
theorem dL_law_988 : decode cL_law 988 = .ok (.invokevirtual 115, 3) := by decide +kernel
set_option maxRecDepth 100000 in
set_option maxHeartbeats 4000000 in
theorem lx_keep {X : XT} {E : EV} {ro wT pre : va_W} {lv : List (Nat × Value)} {rest : List Value} {kC nC : Nat} {hx h qp qs qj ly qh kk rd pg ss : Nat} {ac np kc pe : Nat} {kn : Int32} {mN : AM} {kV : Nat → AM} {w_now : va_W} {w_kept : va_W}  (C : CX X room_1 cL_law 4 RL ret E) (hW : Nat.ble (rest.map fun v => v.category).sum 8 = true) (hT : wT = pre ++ ro) (hk : kC + 0 ≤ 600000 ∧ nC + 0 ≤ 7302250) (hac : ac ≤ 8) (hnp : np < 8) (hkc : kc ≤ 4) (hpe : pe ≤ 4) (H_now : ok_now E ro h mN w_now) (H_kept : ok_kept E ro kk kc kV w_kept) (kont : ∀ (rr : Int32) (kcZ : Nat) (kVZ : Nat → AM) (w_nowZ : va_W) (w_keptZ : va_W), kcZ ≤ 4 → ok_now E ro h mN w_nowZ → ok_kept E ro kk kcZ kVZ w_keptZ → (KPx mN.1 kc kcZ mN kV kVZ rr) → WW X 4 E 991 lv (.int rr :: rest) ([(hx, .inr (11, [.ref h, .ref qp, .int (nI ac), .int (nI np), .ref qs, .ref qj, .ref ly, .ref qh, .ref kk, .int (nI kcZ), .ref rd, .ref pg, .int (nI pe), .int kn, .ref ss]))] ++ (w_nowZ ++ (w_keptZ ++ wT))) kC nC) : WW X 4 E 988 lv (.ref hx :: rest) ([(hx, .inr (11, [.ref h, .ref qp, .int (nI ac), .int (nI np), .ref qs, .ref qj, .ref ly, .ref qh, .ref kk, .int (nI kc), .ref rd, .ref pg, .int (nI pe), .int kn, .ref ss]))] ++ (w_now ++ (w_kept ++ wT))) kC nC := by
  unfold ok_now at H_now
  refine ex6 H_now ?_
  clear H_now
  intro n r a b f gg H_now
  refine an4 H_now ?_
  clear H_now
  intro we_now hn hr hwfm H_now
  have hmN := H_now
  clear H_now
  subst we_now
  subst hmN
  unfold ok_kept at H_kept
  refine ex8 H_kept ?_
  clear H_kept
  intro fkk k0 k1 k2 k3 k0n k0r k0a H_kept
  refine ex8 H_kept ?_
  clear H_kept
  intro k0b k0f k0g k1n k1r k1a k1b k1f H_kept
  refine ex8 H_kept ?_
  clear H_kept
  intro k1g k2n k2r k2a k2b k2f k2g k3n H_kept
  refine ex5 H_kept ?_
  clear H_kept
  intro k3r k3a k3b k3f k3g H_kept
  refine an8 H_kept ?_
  clear H_kept
  intro we_kept k_fkk_0 k_fkk_1 k_fkk_2 k_fkk_3 hk0_n hk0_r hk0_w H_kept
  refine an8 H_kept ?_
  clear H_kept
  intro hk0_k hk1_n hk1_r hk1_w hk1_k hk2_n hk2_r hk2_w H_kept
  refine an5 H_kept ?_
  clear H_kept
  intro hk2_k hk3_n hk3_r hk3_w hk3_k H_kept
  have hkV := H_kept
  clear H_kept
  subst we_kept
  subst hkV
  refine ww_eq (ws' := [(hx, .inr (11, [.ref h, .ref qp, .int (nI ac), .int (nI np), .ref qs, .ref qj, .ref ly, .ref qh, .ref kk, .int (nI kc), .ref rd, .ref pg, .int (nI pe), .int kn, .ref ss])), (h, .inr (4, [.int (nI n), .int (nI r), .ref a, .ref b])), (a, .inl (E.2.1 1, 24, .inl f)), (b, .inl (E.2.1 1, 96, .inl gg)), (kk, .inl (E.2.1 6, 4, .inr (.inr (.inr (.inr fkk))))), (k0, .inr (4, [.int (nI k0n), .int (nI k0r), .ref k0a, .ref k0b])), (k0a, .inl (E.2.1 1, 24, .inl k0f)), (k0b, .inl (E.2.1 1, 96, .inl k0g)), (k1, .inr (4, [.int (nI k1n), .int (nI k1r), .ref k1a, .ref k1b])), (k1a, .inl (E.2.1 1, 24, .inl k1f)), (k1b, .inl (E.2.1 1, 96, .inl k1g)), (k2, .inr (4, [.int (nI k2n), .int (nI k2r), .ref k2a, .ref k2b])), (k2a, .inl (E.2.1 1, 24, .inl k2f)), (k2b, .inl (E.2.1 1, 96, .inl k2g)), (k3, .inr (4, [.int (nI k3n), .int (nI k3r), .ref k3a, .ref k3b])), (k3a, .inl (E.2.1 1, 24, .inl k3f)), (k3b, .inl (E.2.1 1, 96, .inl k3g))] ++ wT) ?_ rfl rfl rfl
  refine ww_ciT (k' := kC) (n' := nC) (wr := []) C (run_V (As := []) (rest := rest) C (x_keep X.2.1 E ro hx h qp ac np qs qj ly qh kk kc rd pg pe kn ss fkk k0 k1 k2 k3 k0n k0r k0a k0b k0f k0g k1n k1r k1a k1b k1f k1g k2n k2r k2a k2b k2f k2g k3n k3r k3a k3b k3f k3g n r a b f gg k_fkk_0 k_fkk_1 k_fkk_2 k_fkk_3 (by first | assumption | omega) (by first | assumption | omega) (by first | assumption | omega) (by first | assumption | omega) (by first | assumption | omega) (by first | assumption | omega) (by first | assumption | omega) (by first | assumption | omega) (by first | assumption | omega) (by first | assumption | omega) (by first | assumption | omega) (by first | assumption | omega) (by first | assumption | omega) (by first | assumption | omega) (by first | assumption | omega) (by first | assumption | omega) (by first | assumption | omega) (by first | assumption | omega) (by first | assumption | omega) (by first | assumption | omega) (by first | assumption | omega) (by first | assumption | omega) (by first | assumption | omega)) mi_X11_keep wl_L_115 rfl 0 11 rfl rfl rfl rfl hW dL_law_988) (roT (pre := pre) [0, 4, 5, 6, 7, 8, 9, 10, 11, 12, 13, 14, 15, 16, 1, 2, 3] rfl hT) [0, 4, 5, 6, 7, 8, 9, 10, 11, 12, 13, 14, 15, 16, 1, 2, 3] [] rfl rfl rfl ⟨by omega, by omega, hk.1, hk.2⟩ (fun rr u hw => ?_)
  refine ex8 hw ?_
  clear hw
  intro kcz_1 k0nz_2 k0rz__3 k0fz_4 k0gz_5 k1nz_6 k1rz__7 k1fz_8 hw
  refine ex8 hw ?_
  clear hw
  intro k1gz_9 k2nz_10 k2rz__11 k2fz_12 k2gz_13 k3nz_14 k3rz__15 k3fz_16 hw
  refine ex1 hw ?_
  clear hw
  intro k3gz_17 hw
  refine an8 hw ?_
  clear hw
  intro he_u h_18 h_19 h_20 h_21 h_22 h_23 h_24 hw
  refine an8 hw ?_
  clear hw
  intro h_25 h_26 h_27 h_28 h_29 h_30 h_31 h_32 hw
  refine an2 hw ?_
  clear hw
  intro h_33 h_34 hw
  have h_35 := hw
  clear hw
  subst he_u
  refine ww_subT (w1 := [(hx, .inr (11, [.ref h, .ref qp, .int (nI ac), .int (nI np), .ref qs, .ref qj, .ref ly, .ref qh, .ref kk, .int (nI kcz_1), .ref rd, .ref pg, .int (nI pe), .int kn, .ref ss])), (h, .inr (4, [.int (nI n), .int (nI r), .ref a, .ref b])), (a, .inl (E.2.1 1, 24, .inl f)), (b, .inl (E.2.1 1, 96, .inl gg)), (kk, .inl (E.2.1 6, 4, .inr (.inr (.inr (.inr fkk))))), (k0, .inr (4, [.int (nI k0nz_2), .int (nI k0rz__3), .ref k0a, .ref k0b])), (k0a, .inl (E.2.1 1, 24, .inl k0fz_4)), (k0b, .inl (E.2.1 1, 96, .inl k0gz_5)), (k1, .inr (4, [.int (nI k1nz_6), .int (nI k1rz__7), .ref k1a, .ref k1b])), (k1a, .inl (E.2.1 1, 24, .inl k1fz_8)), (k1b, .inl (E.2.1 1, 96, .inl k1gz_9)), (k2, .inr (4, [.int (nI k2nz_10), .int (nI k2rz__11), .ref k2a, .ref k2b])), (k2a, .inl (E.2.1 1, 24, .inl k2fz_12)), (k2b, .inl (E.2.1 1, 96, .inl k2gz_13)), (k3, .inr (4, [.int (nI k3nz_14), .int (nI k3rz__15), .ref k3a, .ref k3b])), (k3a, .inl (E.2.1 1, 24, .inl k3fz_16)), (k3b, .inl (E.2.1 1, 96, .inl k3gz_17))]) [0, 14, 15, 16, 1, 2, 3, 4, 5, 6, 7, 8, 9, 10, 11, 12, 13] rfl rfl ?_
  exact kont rr kcz_1 (pick4 (am k0nz_2 k0rz__3 k0fz_4 k0gz_5) (am k1nz_6 k1rz__7 k1fz_8 k1gz_9) (am k2nz_10 k2rz__11 k2fz_12 k2gz_13) (am k3nz_14 k3rz__15 k3fz_16 k3gz_17)) [(h, .inr (4, [.int (nI n), .int (nI r), .ref a, .ref b])), (a, .inl (E.2.1 1, 24, .inl f)), (b, .inl (E.2.1 1, 96, .inl gg))] [(kk, .inl (E.2.1 6, 4, .inr (.inr (.inr (.inr fkk))))), (k0, .inr (4, [.int (nI k0nz_2), .int (nI k0rz__3), .ref k0a, .ref k0b])), (k0a, .inl (E.2.1 1, 24, .inl k0fz_4)), (k0b, .inl (E.2.1 1, 96, .inl k0gz_5)), (k1, .inr (4, [.int (nI k1nz_6), .int (nI k1rz__7), .ref k1a, .ref k1b])), (k1a, .inl (E.2.1 1, 24, .inl k1fz_8)), (k1b, .inl (E.2.1 1, 96, .inl k1gz_9)), (k2, .inr (4, [.int (nI k2nz_10), .int (nI k2rz__11), .ref k2a, .ref k2b])), (k2a, .inl (E.2.1 1, 24, .inl k2fz_12)), (k2b, .inl (E.2.1 1, 96, .inl k2gz_13)), (k3, .inr (4, [.int (nI k3nz_14), .int (nI k3rz__15), .ref k3a, .ref k3b])), (k3a, .inl (E.2.1 1, 24, .inl k3fz_16)), (k3b, .inl (E.2.1 1, 96, .inl k3gz_17))] (by first | assumption | omega) ⟨n, r, a, b, f, gg, rfl, (by first | assumption | omega), (by first | assumption | omega), (by first | assumption | omega), rfl⟩ ⟨fkk, k0, k1, k2, k3, k0nz_2, k0rz__3, k0a, k0b, k0fz_4, k0gz_5, k1nz_6, k1rz__7, k1a, k1b, k1fz_8, k1gz_9, k2nz_10, k2rz__11, k2a, k2b, k2fz_12, k2gz_13, k3nz_14, k3rz__15, k3a, k3b, k3fz_16, k3gz_17, rfl, k_fkk_0, k_fkk_1, k_fkk_2, k_fkk_3, (by first | assumption | omega), (by first | assumption | omega), (by first | assumption | omega), (by first | assumption | omega), (by first | assumption | omega), (by first | assumption | omega), (by first | assumption | omega), (by first | assumption | omega), (by first | assumption | omega), (by first | assumption | omega), (by first | assumption | omega), (by first | assumption | omega), (by first | assumption | omega), (by first | assumption | omega), (by first | assumption | omega), (by first | assumption | omega), rfl⟩ (h_35)
theorem wc_X11_stand : Cond.code yX11_stand cX11_stand 2 (some .int) ∈ TB := tbm (tq4 (List.mem_of_getElem? (i := 178) (rfl))) (by decide +kernel)
theorem wi_X11_stand : Cond.instanceMethod yX11_stand ∈ TB := tbm (tq4 (List.mem_of_getElem? (i := 176) (by decide +kernel))) (by decide +kernel)
theorem ws_X11_stand : Cond.selects RX11 yX11_stand yX11_stand ∈ TB := tbm (tq4 (List.mem_of_getElem? (i := 177) (by decide +kernel))) (by decide +kernel)
theorem mi_X11_stand : MI yX11_stand cX11_stand 2 (some .int) 1 := ⟨wc_X11_stand, wn_X11, ⟨by decide +kernel, by decide +kernel, by decide +kernel⟩, wi_X11_stand, ws_X11_stand⟩
theorem wl_L_119 : Cond.methodLink RL 119 yX11_stand ∈ TB := tbm (tq4 (List.mem_of_getElem? (i := 175) (by decide +kernel))) (by decide +kernel)
theorem dL_law_1006 : decode cL_law 1006 = .ok (.invokevirtual 119, 3) := by decide +kernel
set_option maxRecDepth 100000 in
set_option maxHeartbeats 4000000 in
theorem lx_stand {X : XT} {E : EV} {ro wT pre : va_W} {lv : List (Nat × Value)} {rest : List Value} {kC nC : Nat} {hx h qp qs qj ly qh kk rd pg ss : Nat} {ac np kc pe : Nat} {kn : Int32} {mN : AM} {pV : Nat → AM} {kV : Nat → AM} {w_now : va_W} {w_past : va_W} {w_kept : va_W} {v0 : Int32}  (C : CX X room_1 cL_law 4 RL ret E) (hW : Nat.ble (rest.map fun v => v.category).sum 8 = true) (hT : wT = pre ++ ro) (hk : kC + 0 ≤ 600000 ∧ nC + 0 ≤ 7302250) (hac : ac ≤ 8) (hnp : np < 8) (hkc : kc ≤ 4) (hpe : pe ≤ 4) (H_now : ok_now E ro h mN w_now) (H_past : ok_past E ro qp pV w_past) (H_kept : ok_kept E ro kk kc kV w_kept) (kont : ∀ (rr : Int32) (acZ : Nat) (npZ : Nat) (mNZ : AM) (pVZ : Nat → AM) (w_nowZ : va_W) (w_pastZ : va_W) (w_keptZ : va_W), acZ ≤ 8 → npZ < 8 → ok_now E ro h mNZ w_nowZ → ok_past E ro qp pVZ w_pastZ → ok_kept E ro kk kc kV w_keptZ → (((asX mNZ acZ npZ pVZ), rr) = opStand (asX mN ac np pV) kc kV v0) → WW X 4 E 1009 lv (.int rr :: rest) ([(hx, .inr (11, [.ref h, .ref qp, .int (nI acZ), .int (nI npZ), .ref qs, .ref qj, .ref ly, .ref qh, .ref kk, .int (nI kc), .ref rd, .ref pg, .int (nI pe), .int kn, .ref ss]))] ++ (w_nowZ ++ (w_pastZ ++ (w_keptZ ++ wT)))) kC nC) : WW X 4 E 1006 lv (.int v0 :: .ref hx :: rest) ([(hx, .inr (11, [.ref h, .ref qp, .int (nI ac), .int (nI np), .ref qs, .ref qj, .ref ly, .ref qh, .ref kk, .int (nI kc), .ref rd, .ref pg, .int (nI pe), .int kn, .ref ss]))] ++ (w_now ++ (w_past ++ (w_kept ++ wT)))) kC nC := by
  unfold ok_now at H_now
  refine ex6 H_now ?_
  clear H_now
  intro n r a b f gg H_now
  refine an4 H_now ?_
  clear H_now
  intro we_now hn hr hwfm H_now
  have hmN := H_now
  clear H_now
  subst we_now
  subst hmN
  unfold ok_past at H_past
  refine ex8 H_past ?_
  clear H_past
  intro fqp p0 p1 p2 p3 p4 p5 p6 H_past
  refine ex8 H_past ?_
  clear H_past
  intro p7 p0n p0r p0a p0b p0f p0g p1n H_past
  refine ex8 H_past ?_
  clear H_past
  intro p1r p1a p1b p1f p1g p2n p2r p2a H_past
  refine ex8 H_past ?_
  clear H_past
  intro p2b p2f p2g p3n p3r p3a p3b p3f H_past
  refine ex8 H_past ?_
  clear H_past
  intro p3g p4n p4r p4a p4b p4f p4g p5n H_past
  refine ex8 H_past ?_
  clear H_past
  intro p5r p5a p5b p5f p5g p6n p6r p6a H_past
  refine ex8 H_past ?_
  clear H_past
  intro p6b p6f p6g p7n p7r p7a p7b p7f H_past
  refine ex1 H_past ?_
  clear H_past
  intro p7g H_past
  refine an8 H_past ?_
  clear H_past
  intro we_past k_fqp_0 k_fqp_1 k_fqp_2 k_fqp_3 k_fqp_4 k_fqp_5 k_fqp_6 H_past
  refine an8 H_past ?_
  clear H_past
  intro k_fqp_7 hp0_n hp0_r hp0_w hp1_n hp1_r hp1_w hp2_n H_past
  refine an8 H_past ?_
  clear H_past
  intro hp2_r hp2_w hp3_n hp3_r hp3_w hp4_n hp4_r hp4_w H_past
  refine an8 H_past ?_
  clear H_past
  intro hp5_n hp5_r hp5_w hp6_n hp6_r hp6_w hp7_n hp7_r H_past
  refine an1 H_past ?_
  clear H_past
  intro hp7_w H_past
  have hpV := H_past
  clear H_past
  subst we_past
  subst hpV
  unfold ok_kept at H_kept
  refine ex8 H_kept ?_
  clear H_kept
  intro fkk k0 k1 k2 k3 k0n k0r k0a H_kept
  refine ex8 H_kept ?_
  clear H_kept
  intro k0b k0f k0g k1n k1r k1a k1b k1f H_kept
  refine ex8 H_kept ?_
  clear H_kept
  intro k1g k2n k2r k2a k2b k2f k2g k3n H_kept
  refine ex5 H_kept ?_
  clear H_kept
  intro k3r k3a k3b k3f k3g H_kept
  refine an8 H_kept ?_
  clear H_kept
  intro we_kept k_fkk_0 k_fkk_1 k_fkk_2 k_fkk_3 hk0_n hk0_r hk0_w H_kept
  refine an8 H_kept ?_
  clear H_kept
  intro hk0_k hk1_n hk1_r hk1_w hk1_k hk2_n hk2_r hk2_w H_kept
  refine an5 H_kept ?_
  clear H_kept
  intro hk2_k hk3_n hk3_r hk3_w hk3_k H_kept
  have hkV := H_kept
  clear H_kept
  subst we_kept
  subst hkV
  refine ww_eq (ws' := [(hx, .inr (11, [.ref h, .ref qp, .int (nI ac), .int (nI np), .ref qs, .ref qj, .ref ly, .ref qh, .ref kk, .int (nI kc), .ref rd, .ref pg, .int (nI pe), .int kn, .ref ss])), (h, .inr (4, [.int (nI n), .int (nI r), .ref a, .ref b])), (a, .inl (E.2.1 1, 24, .inl f)), (b, .inl (E.2.1 1, 96, .inl gg)), (qp, .inl (E.2.1 6, 8, .inr (.inr (.inr (.inr fqp))))), (p0, .inr (4, [.int (nI p0n), .int (nI p0r), .ref p0a, .ref p0b])), (p0a, .inl (E.2.1 1, 24, .inl p0f)), (p0b, .inl (E.2.1 1, 96, .inl p0g)), (p1, .inr (4, [.int (nI p1n), .int (nI p1r), .ref p1a, .ref p1b])), (p1a, .inl (E.2.1 1, 24, .inl p1f)), (p1b, .inl (E.2.1 1, 96, .inl p1g)), (p2, .inr (4, [.int (nI p2n), .int (nI p2r), .ref p2a, .ref p2b])), (p2a, .inl (E.2.1 1, 24, .inl p2f)), (p2b, .inl (E.2.1 1, 96, .inl p2g)), (p3, .inr (4, [.int (nI p3n), .int (nI p3r), .ref p3a, .ref p3b])), (p3a, .inl (E.2.1 1, 24, .inl p3f)), (p3b, .inl (E.2.1 1, 96, .inl p3g)), (p4, .inr (4, [.int (nI p4n), .int (nI p4r), .ref p4a, .ref p4b])), (p4a, .inl (E.2.1 1, 24, .inl p4f)), (p4b, .inl (E.2.1 1, 96, .inl p4g)), (p5, .inr (4, [.int (nI p5n), .int (nI p5r), .ref p5a, .ref p5b])), (p5a, .inl (E.2.1 1, 24, .inl p5f)), (p5b, .inl (E.2.1 1, 96, .inl p5g)), (p6, .inr (4, [.int (nI p6n), .int (nI p6r), .ref p6a, .ref p6b])), (p6a, .inl (E.2.1 1, 24, .inl p6f)), (p6b, .inl (E.2.1 1, 96, .inl p6g)), (p7, .inr (4, [.int (nI p7n), .int (nI p7r), .ref p7a, .ref p7b])), (p7a, .inl (E.2.1 1, 24, .inl p7f)), (p7b, .inl (E.2.1 1, 96, .inl p7g)), (kk, .inl (E.2.1 6, 4, .inr (.inr (.inr (.inr fkk))))), (k0, .inr (4, [.int (nI k0n), .int (nI k0r), .ref k0a, .ref k0b])), (k0a, .inl (E.2.1 1, 24, .inl k0f)), (k0b, .inl (E.2.1 1, 96, .inl k0g)), (k1, .inr (4, [.int (nI k1n), .int (nI k1r), .ref k1a, .ref k1b])), (k1a, .inl (E.2.1 1, 24, .inl k1f)), (k1b, .inl (E.2.1 1, 96, .inl k1g)), (k2, .inr (4, [.int (nI k2n), .int (nI k2r), .ref k2a, .ref k2b])), (k2a, .inl (E.2.1 1, 24, .inl k2f)), (k2b, .inl (E.2.1 1, 96, .inl k2g)), (k3, .inr (4, [.int (nI k3n), .int (nI k3r), .ref k3a, .ref k3b])), (k3a, .inl (E.2.1 1, 24, .inl k3f)), (k3b, .inl (E.2.1 1, 96, .inl k3g))] ++ wT) ?_ rfl rfl rfl
  refine ww_ciT (k' := kC) (n' := nC) (wr := []) C (run_V (As := [.int v0]) (rest := rest) C (x_stand X.2.1 E ro hx v0 h qp ac np qs qj ly qh kk kc rd pg pe kn ss fqp p0 p1 p2 p3 p4 p5 p6 p7 p0n p0r p0a p0b p0f p0g p1n p1r p1a p1b p1f p1g p2n p2r p2a p2b p2f p2g p3n p3r p3a p3b p3f p3g p4n p4r p4a p4b p4f p4g p5n p5r p5a p5b p5f p5g p6n p6r p6a p6b p6f p6g p7n p7r p7a p7b p7f p7g n r a b f gg fkk k0 k1 k2 k3 k0n k0r k0a k0b k0f k0g k1n k1r k1a k1b k1f k1g k2n k2r k2a k2b k2f k2g k3n k3r k3a k3b k3f k3g k_fqp_0 k_fqp_1 k_fqp_2 k_fqp_3 k_fqp_4 k_fqp_5 k_fqp_6 k_fqp_7 k_fkk_0 k_fkk_1 k_fkk_2 k_fkk_3 (by first | assumption | omega) (by first | assumption | omega) (by first | assumption | omega) (by first | assumption | omega) (by first | assumption | omega) (by first | assumption | omega) (by first | assumption | omega) (by first | assumption | omega) (by first | assumption | omega) (by first | assumption | omega) (by first | assumption | omega) (by first | assumption | omega) (by first | assumption | omega) (by first | assumption | omega) (by first | assumption | omega) (by first | assumption | omega) (by first | assumption | omega) (by first | assumption | omega) (by first | assumption | omega) (by first | assumption | omega) (by first | assumption | omega) (by first | assumption | omega) (by first | assumption | omega) (by first | assumption | omega) (by first | assumption | omega) (by first | assumption | omega) (by first | assumption | omega) (by first | assumption | omega) (by first | assumption | omega) (by first | assumption | omega) (by first | assumption | omega) (by first | assumption | omega) (by first | assumption | omega) (by first | assumption | omega) (by first | assumption | omega) (by first | assumption | omega) (by first | assumption | omega) (by first | assumption | omega) (by first | assumption | omega) (by first | assumption | omega) (by first | assumption | omega) (by first | assumption | omega) (by first | assumption | omega) (by first | assumption | omega) (by first | assumption | omega) (by first | assumption | omega) (by first | assumption | omega)) mi_X11_stand wl_L_119 rfl 0 11 rfl rfl rfl rfl hW dL_law_1006) (roT (pre := pre) [0, 4, 5, 6, 7, 8, 9, 10, 11, 12, 13, 14, 15, 16, 17, 18, 19, 20, 21, 22, 23, 24, 25, 26, 27, 28, 1, 2, 3, 29, 30, 31, 32, 33, 34, 35, 36, 37, 38, 39, 40, 41] rfl hT) [0, 4, 5, 6, 7, 8, 9, 10, 11, 12, 13, 14, 15, 16, 17, 18, 19, 20, 21, 22, 23, 24, 25, 26, 27, 28, 1, 2, 3, 29, 30, 31, 32, 33, 34, 35, 36, 37, 38, 39, 40, 41] [] rfl rfl rfl ⟨by omega, by omega, hk.1, hk.2⟩ (fun rr u hw => ?_)
  refine ex8 hw ?_
  clear hw
  intro acz_1 npz_2 p0nz_3 p0rz__4 p0fz_5 p0gz_6 p1nz_7 p1rz__8 hw
  refine ex8 hw ?_
  clear hw
  intro p1fz_9 p1gz_10 p2nz_11 p2rz__12 p2fz_13 p2gz_14 p3nz_15 p3rz__16 hw
  refine ex8 hw ?_
  clear hw
  intro p3fz_17 p3gz_18 p4nz_19 p4rz__20 p4fz_21 p4gz_22 p5nz_23 p5rz__24 hw
  refine ex8 hw ?_
  clear hw
  intro p5fz_25 p5gz_26 p6nz_27 p6rz__28 p6fz_29 p6gz_30 p7nz_31 p7rz__32 hw
  refine ex6 hw ?_
  clear hw
  intro p7fz_33 p7gz_34 nz_35 rz__36 fz_37 ggz_38 hw
  refine an8 hw ?_
  clear hw
  intro he_u h_39 h_40 h_41 h_42 h_43 h_44 h_45 hw
  refine an8 hw ?_
  clear hw
  intro h_46 h_47 h_48 h_49 h_50 h_51 h_52 h_53 hw
  refine an8 hw ?_
  clear hw
  intro h_54 h_55 h_56 h_57 h_58 h_59 h_60 h_61 hw
  refine an6 hw ?_
  clear hw
  intro h_62 h_63 h_64 h_65 h_66 h_67 hw
  have h_68 := hw
  clear hw
  subst he_u
  refine ww_subT (w1 := [(hx, .inr (11, [.ref h, .ref qp, .int (nI acz_1), .int (nI npz_2), .ref qs, .ref qj, .ref ly, .ref qh, .ref kk, .int (nI kc), .ref rd, .ref pg, .int (nI pe), .int kn, .ref ss])), (h, .inr (4, [.int (nI nz_35), .int (nI rz__36), .ref a, .ref b])), (a, .inl (E.2.1 1, 24, .inl fz_37)), (b, .inl (E.2.1 1, 96, .inl ggz_38)), (qp, .inl (E.2.1 6, 8, .inr (.inr (.inr (.inr fqp))))), (p0, .inr (4, [.int (nI p0nz_3), .int (nI p0rz__4), .ref p0a, .ref p0b])), (p0a, .inl (E.2.1 1, 24, .inl p0fz_5)), (p0b, .inl (E.2.1 1, 96, .inl p0gz_6)), (p1, .inr (4, [.int (nI p1nz_7), .int (nI p1rz__8), .ref p1a, .ref p1b])), (p1a, .inl (E.2.1 1, 24, .inl p1fz_9)), (p1b, .inl (E.2.1 1, 96, .inl p1gz_10)), (p2, .inr (4, [.int (nI p2nz_11), .int (nI p2rz__12), .ref p2a, .ref p2b])), (p2a, .inl (E.2.1 1, 24, .inl p2fz_13)), (p2b, .inl (E.2.1 1, 96, .inl p2gz_14)), (p3, .inr (4, [.int (nI p3nz_15), .int (nI p3rz__16), .ref p3a, .ref p3b])), (p3a, .inl (E.2.1 1, 24, .inl p3fz_17)), (p3b, .inl (E.2.1 1, 96, .inl p3gz_18)), (p4, .inr (4, [.int (nI p4nz_19), .int (nI p4rz__20), .ref p4a, .ref p4b])), (p4a, .inl (E.2.1 1, 24, .inl p4fz_21)), (p4b, .inl (E.2.1 1, 96, .inl p4gz_22)), (p5, .inr (4, [.int (nI p5nz_23), .int (nI p5rz__24), .ref p5a, .ref p5b])), (p5a, .inl (E.2.1 1, 24, .inl p5fz_25)), (p5b, .inl (E.2.1 1, 96, .inl p5gz_26)), (p6, .inr (4, [.int (nI p6nz_27), .int (nI p6rz__28), .ref p6a, .ref p6b])), (p6a, .inl (E.2.1 1, 24, .inl p6fz_29)), (p6b, .inl (E.2.1 1, 96, .inl p6gz_30)), (p7, .inr (4, [.int (nI p7nz_31), .int (nI p7rz__32), .ref p7a, .ref p7b])), (p7a, .inl (E.2.1 1, 24, .inl p7fz_33)), (p7b, .inl (E.2.1 1, 96, .inl p7gz_34)), (kk, .inl (E.2.1 6, 4, .inr (.inr (.inr (.inr fkk))))), (k0, .inr (4, [.int (nI k0n), .int (nI k0r), .ref k0a, .ref k0b])), (k0a, .inl (E.2.1 1, 24, .inl k0f)), (k0b, .inl (E.2.1 1, 96, .inl k0g)), (k1, .inr (4, [.int (nI k1n), .int (nI k1r), .ref k1a, .ref k1b])), (k1a, .inl (E.2.1 1, 24, .inl k1f)), (k1b, .inl (E.2.1 1, 96, .inl k1g)), (k2, .inr (4, [.int (nI k2n), .int (nI k2r), .ref k2a, .ref k2b])), (k2a, .inl (E.2.1 1, 24, .inl k2f)), (k2b, .inl (E.2.1 1, 96, .inl k2g)), (k3, .inr (4, [.int (nI k3n), .int (nI k3r), .ref k3a, .ref k3b])), (k3a, .inl (E.2.1 1, 24, .inl k3f)), (k3b, .inl (E.2.1 1, 96, .inl k3g))]) [0, 26, 27, 28, 1, 2, 3, 4, 5, 6, 7, 8, 9, 10, 11, 12, 13, 14, 15, 16, 17, 18, 19, 20, 21, 22, 23, 24, 25, 29, 30, 31, 32, 33, 34, 35, 36, 37, 38, 39, 40, 41] rfl rfl ?_
  exact kont rr acz_1 npz_2 (am nz_35 rz__36 fz_37 ggz_38) (pick8 (am p0nz_3 p0rz__4 p0fz_5 p0gz_6) (am p1nz_7 p1rz__8 p1fz_9 p1gz_10) (am p2nz_11 p2rz__12 p2fz_13 p2gz_14) (am p3nz_15 p3rz__16 p3fz_17 p3gz_18) (am p4nz_19 p4rz__20 p4fz_21 p4gz_22) (am p5nz_23 p5rz__24 p5fz_25 p5gz_26) (am p6nz_27 p6rz__28 p6fz_29 p6gz_30) (am p7nz_31 p7rz__32 p7fz_33 p7gz_34)) [(h, .inr (4, [.int (nI nz_35), .int (nI rz__36), .ref a, .ref b])), (a, .inl (E.2.1 1, 24, .inl fz_37)), (b, .inl (E.2.1 1, 96, .inl ggz_38))] [(qp, .inl (E.2.1 6, 8, .inr (.inr (.inr (.inr fqp))))), (p0, .inr (4, [.int (nI p0nz_3), .int (nI p0rz__4), .ref p0a, .ref p0b])), (p0a, .inl (E.2.1 1, 24, .inl p0fz_5)), (p0b, .inl (E.2.1 1, 96, .inl p0gz_6)), (p1, .inr (4, [.int (nI p1nz_7), .int (nI p1rz__8), .ref p1a, .ref p1b])), (p1a, .inl (E.2.1 1, 24, .inl p1fz_9)), (p1b, .inl (E.2.1 1, 96, .inl p1gz_10)), (p2, .inr (4, [.int (nI p2nz_11), .int (nI p2rz__12), .ref p2a, .ref p2b])), (p2a, .inl (E.2.1 1, 24, .inl p2fz_13)), (p2b, .inl (E.2.1 1, 96, .inl p2gz_14)), (p3, .inr (4, [.int (nI p3nz_15), .int (nI p3rz__16), .ref p3a, .ref p3b])), (p3a, .inl (E.2.1 1, 24, .inl p3fz_17)), (p3b, .inl (E.2.1 1, 96, .inl p3gz_18)), (p4, .inr (4, [.int (nI p4nz_19), .int (nI p4rz__20), .ref p4a, .ref p4b])), (p4a, .inl (E.2.1 1, 24, .inl p4fz_21)), (p4b, .inl (E.2.1 1, 96, .inl p4gz_22)), (p5, .inr (4, [.int (nI p5nz_23), .int (nI p5rz__24), .ref p5a, .ref p5b])), (p5a, .inl (E.2.1 1, 24, .inl p5fz_25)), (p5b, .inl (E.2.1 1, 96, .inl p5gz_26)), (p6, .inr (4, [.int (nI p6nz_27), .int (nI p6rz__28), .ref p6a, .ref p6b])), (p6a, .inl (E.2.1 1, 24, .inl p6fz_29)), (p6b, .inl (E.2.1 1, 96, .inl p6gz_30)), (p7, .inr (4, [.int (nI p7nz_31), .int (nI p7rz__32), .ref p7a, .ref p7b])), (p7a, .inl (E.2.1 1, 24, .inl p7fz_33)), (p7b, .inl (E.2.1 1, 96, .inl p7gz_34))] [(kk, .inl (E.2.1 6, 4, .inr (.inr (.inr (.inr fkk))))), (k0, .inr (4, [.int (nI k0n), .int (nI k0r), .ref k0a, .ref k0b])), (k0a, .inl (E.2.1 1, 24, .inl k0f)), (k0b, .inl (E.2.1 1, 96, .inl k0g)), (k1, .inr (4, [.int (nI k1n), .int (nI k1r), .ref k1a, .ref k1b])), (k1a, .inl (E.2.1 1, 24, .inl k1f)), (k1b, .inl (E.2.1 1, 96, .inl k1g)), (k2, .inr (4, [.int (nI k2n), .int (nI k2r), .ref k2a, .ref k2b])), (k2a, .inl (E.2.1 1, 24, .inl k2f)), (k2b, .inl (E.2.1 1, 96, .inl k2g)), (k3, .inr (4, [.int (nI k3n), .int (nI k3r), .ref k3a, .ref k3b])), (k3a, .inl (E.2.1 1, 24, .inl k3f)), (k3b, .inl (E.2.1 1, 96, .inl k3g))] (by first | assumption | omega) (by first | assumption | omega) ⟨nz_35, rz__36, a, b, fz_37, ggz_38, rfl, (by first | assumption | omega), (by first | assumption | omega), (by first | assumption | omega), rfl⟩ ⟨fqp, p0, p1, p2, p3, p4, p5, p6, p7, p0nz_3, p0rz__4, p0a, p0b, p0fz_5, p0gz_6, p1nz_7, p1rz__8, p1a, p1b, p1fz_9, p1gz_10, p2nz_11, p2rz__12, p2a, p2b, p2fz_13, p2gz_14, p3nz_15, p3rz__16, p3a, p3b, p3fz_17, p3gz_18, p4nz_19, p4rz__20, p4a, p4b, p4fz_21, p4gz_22, p5nz_23, p5rz__24, p5a, p5b, p5fz_25, p5gz_26, p6nz_27, p6rz__28, p6a, p6b, p6fz_29, p6gz_30, p7nz_31, p7rz__32, p7a, p7b, p7fz_33, p7gz_34, rfl, k_fqp_0, k_fqp_1, k_fqp_2, k_fqp_3, k_fqp_4, k_fqp_5, k_fqp_6, k_fqp_7, (by first | assumption | omega), (by first | assumption | omega), (by first | assumption | omega), (by first | assumption | omega), (by first | assumption | omega), (by first | assumption | omega), (by first | assumption | omega), (by first | assumption | omega), (by first | assumption | omega), (by first | assumption | omega), (by first | assumption | omega), (by first | assumption | omega), (by first | assumption | omega), (by first | assumption | omega), (by first | assumption | omega), (by first | assumption | omega), (by first | assumption | omega), (by first | assumption | omega), (by first | assumption | omega), (by first | assumption | omega), (by first | assumption | omega), (by first | assumption | omega), (by first | assumption | omega), (by first | assumption | omega), rfl⟩ ⟨fkk, k0, k1, k2, k3, k0n, k0r, k0a, k0b, k0f, k0g, k1n, k1r, k1a, k1b, k1f, k1g, k2n, k2r, k2a, k2b, k2f, k2g, k3n, k3r, k3a, k3b, k3f, k3g, rfl, k_fkk_0, k_fkk_1, k_fkk_2, k_fkk_3, (by first | assumption | omega), (by first | assumption | omega), (by first | assumption | omega), (by first | assumption | omega), (by first | assumption | omega), (by first | assumption | omega), (by first | assumption | omega), (by first | assumption | omega), (by first | assumption | omega), (by first | assumption | omega), (by first | assumption | omega), (by first | assumption | omega), (by first | assumption | omega), (by first | assumption | omega), (by first | assumption | omega), (by first | assumption | omega), rfl⟩ (h_68)
theorem wc_X11_same : Cond.code yX11_same cX11_same 3 (some .int) ∈ TB := tbm (tq4 (List.mem_of_getElem? (i := 182) (rfl))) (by decide +kernel)
theorem wi_X11_same : Cond.instanceMethod yX11_same ∈ TB := tbm (tq4 (List.mem_of_getElem? (i := 180) (by decide +kernel))) (by decide +kernel)
theorem ws_X11_same : Cond.selects RX11 yX11_same yX11_same ∈ TB := tbm (tq4 (List.mem_of_getElem? (i := 181) (by decide +kernel))) (by decide +kernel)
theorem mi_X11_same : MI yX11_same cX11_same 3 (some .int) 1 := ⟨wc_X11_same, wn_X11, ⟨by decide +kernel, by decide +kernel, by decide +kernel⟩, wi_X11_same, ws_X11_same⟩
theorem wl_L_123 : Cond.methodLink RL 123 yX11_same ∈ TB := tbm (tq4 (List.mem_of_getElem? (i := 179) (by decide +kernel))) (by decide +kernel)
theorem dL_law_1029 : decode cL_law 1029 = .ok (.invokevirtual 123, 3) := by decide +kernel
set_option maxRecDepth 100000 in
set_option maxHeartbeats 4000000 in
theorem lx_same {X : XT} {E : EV} {ro wT pre : va_W} {lv : List (Nat × Value)} {rest : List Value} {kC nC : Nat} {hx h qp qs qj ly qh kk rd pg ss : Nat} {ac np kc pe : Nat} {kn : Int32} {mN : AM} {kV : Nat → AM} {w_now : va_W} {w_heap : va_W} {w_kept : va_W} {v0 : Int32}  (C : CX X room_1 cL_law 4 RL ret E) (hW : Nat.ble (rest.map fun v => v.category).sum 8 = true) (hT : wT = pre ++ ro) (hk : kC + 0 ≤ 600000 ∧ nC + 0 ≤ 7302250) (hac : ac ≤ 8) (hnp : np < 8) (hkc : kc ≤ 4) (hpe : pe ≤ 4) (H_now : ok_now E ro h mN w_now) (H_heap : ok_heap E ro qh  w_heap) (H_kept : ok_kept E ro kk kc kV w_kept) (kont : ∀ (rr : Int32) (w_nowZ : va_W) (w_heapZ : va_W) (w_keptZ : va_W), ok_now E ro h mN w_nowZ → ok_heap E ro qh  w_heapZ → ok_kept E ro kk kc kV w_keptZ → (rr = ansSame mN kc kV v0) → WW X 4 E 1032 lv (.int rr :: rest) ([(hx, .inr (11, [.ref h, .ref qp, .int (nI ac), .int (nI np), .ref qs, .ref qj, .ref ly, .ref qh, .ref kk, .int (nI kc), .ref rd, .ref pg, .int (nI pe), .int kn, .ref ss]))] ++ (w_nowZ ++ (w_heapZ ++ (w_keptZ ++ wT)))) kC nC) : WW X 4 E 1029 lv (.int v0 :: .ref hx :: rest) ([(hx, .inr (11, [.ref h, .ref qp, .int (nI ac), .int (nI np), .ref qs, .ref qj, .ref ly, .ref qh, .ref kk, .int (nI kc), .ref rd, .ref pg, .int (nI pe), .int kn, .ref ss]))] ++ (w_now ++ (w_heap ++ (w_kept ++ wT)))) kC nC := by
  unfold ok_now at H_now
  refine ex6 H_now ?_
  clear H_now
  intro n r a b f gg H_now
  refine an4 H_now ?_
  clear H_now
  intro we_now hn hr hwfm H_now
  have hmN := H_now
  clear H_now
  subst we_now
  subst hmN
  unfold ok_heap at H_heap
  refine ex8 H_heap ?_
  clear H_heap
  intro hl0 hr0 hz0 ha hb hc fl fn H_heap
  refine ex1 H_heap ?_
  clear H_heap
  intro fs H_heap
  refine an1 H_heap ?_
  clear H_heap
  intro we_heap H_heap
  have hrng := H_heap
  clear H_heap
  subst we_heap
  unfold ok_kept at H_kept
  refine ex8 H_kept ?_
  clear H_kept
  intro fkk k0 k1 k2 k3 k0n k0r k0a H_kept
  refine ex8 H_kept ?_
  clear H_kept
  intro k0b k0f k0g k1n k1r k1a k1b k1f H_kept
  refine ex8 H_kept ?_
  clear H_kept
  intro k1g k2n k2r k2a k2b k2f k2g k3n H_kept
  refine ex5 H_kept ?_
  clear H_kept
  intro k3r k3a k3b k3f k3g H_kept
  refine an8 H_kept ?_
  clear H_kept
  intro we_kept k_fkk_0 k_fkk_1 k_fkk_2 k_fkk_3 hk0_n hk0_r hk0_w H_kept
  refine an8 H_kept ?_
  clear H_kept
  intro hk0_k hk1_n hk1_r hk1_w hk1_k hk2_n hk2_r hk2_w H_kept
  refine an5 H_kept ?_
  clear H_kept
  intro hk2_k hk3_n hk3_r hk3_w hk3_k H_kept
  have hkV := H_kept
  clear H_kept
  subst we_kept
  subst hkV
  refine ww_eq (ws' := [(hx, .inr (11, [.ref h, .ref qp, .int (nI ac), .int (nI np), .ref qs, .ref qj, .ref ly, .ref qh, .ref kk, .int (nI kc), .ref rd, .ref pg, .int (nI pe), .int kn, .ref ss])), (h, .inr (4, [.int (nI n), .int (nI r), .ref a, .ref b])), (a, .inl (E.2.1 1, 24, .inl f)), (b, .inl (E.2.1 1, 96, .inl gg)), (qh, .inr (1, [hl0, hr0, .int hz0, .ref ha, .ref hb, .ref hc])), (ha, .inl (E.2.1 1, 48, .inl fl)), (hb, .inl (E.2.1 1, 48, .inl fn)), (hc, .inl (E.2.1 2, 192, .inr (.inl fs))), (kk, .inl (E.2.1 6, 4, .inr (.inr (.inr (.inr fkk))))), (k0, .inr (4, [.int (nI k0n), .int (nI k0r), .ref k0a, .ref k0b])), (k0a, .inl (E.2.1 1, 24, .inl k0f)), (k0b, .inl (E.2.1 1, 96, .inl k0g)), (k1, .inr (4, [.int (nI k1n), .int (nI k1r), .ref k1a, .ref k1b])), (k1a, .inl (E.2.1 1, 24, .inl k1f)), (k1b, .inl (E.2.1 1, 96, .inl k1g)), (k2, .inr (4, [.int (nI k2n), .int (nI k2r), .ref k2a, .ref k2b])), (k2a, .inl (E.2.1 1, 24, .inl k2f)), (k2b, .inl (E.2.1 1, 96, .inl k2g)), (k3, .inr (4, [.int (nI k3n), .int (nI k3r), .ref k3a, .ref k3b])), (k3a, .inl (E.2.1 1, 24, .inl k3f)), (k3b, .inl (E.2.1 1, 96, .inl k3g))] ++ wT) ?_ rfl rfl rfl
  refine ww_ciT (k' := kC) (n' := nC) (wr := []) C (run_V (As := [.int v0]) (rest := rest) C (x_same X.2.1 E ro hx v0 h qp ac np qs qj ly qh kk kc rd pg pe kn ss n r a b f gg fkk k0 k1 k2 k3 k0n k0r k0a k0b k0f k0g k1n k1r k1a k1b k1f k1g k2n k2r k2a k2b k2f k2g k3n k3r k3a k3b k3f k3g hl0 hr0 hz0 ha hb hc fl fn fs k_fkk_0 k_fkk_1 k_fkk_2 k_fkk_3 (by first | assumption | omega) (by first | assumption | omega) (by first | assumption | omega) (by first | assumption | omega) (by first | assumption | omega) (by first | assumption | omega) (by first | assumption | omega) (by first | assumption | omega) (by first | assumption | omega) (by first | assumption | omega) (by first | assumption | omega) (by first | assumption | omega) (by first | assumption | omega) (by first | assumption | omega) (by first | assumption | omega) (by first | assumption | omega) (by first | assumption | omega) (by first | assumption | omega) (by first | assumption | omega) (by first | assumption | omega) (by first | assumption | omega) (by first | assumption | omega) (by first | assumption | omega) hrng) mi_X11_same wl_L_123 rfl 0 11 rfl rfl rfl rfl hW dL_law_1029) (roT (pre := pre) [0, 1, 2, 3, 8, 9, 10, 11, 12, 13, 14, 15, 16, 17, 18, 19, 20, 4, 5, 6, 7] rfl hT) [0, 1, 2, 3, 8, 9, 10, 11, 12, 13, 14, 15, 16, 17, 18, 19, 20, 4, 5, 6, 7] [] rfl rfl rfl ⟨by omega, by omega, hk.1, hk.2⟩ (fun rr u hw => ?_)
  refine ex6 hw ?_
  clear hw
  intro hlz_1 hrz_2 hzz_3 flz_4 fnz_5 fsz_6 hw
  refine an2 hw ?_
  clear hw
  intro he_u h_7 hw
  have h_8 := hw
  clear hw
  subst he_u
  refine ww_subT (w1 := [(hx, .inr (11, [.ref h, .ref qp, .int (nI ac), .int (nI np), .ref qs, .ref qj, .ref ly, .ref qh, .ref kk, .int (nI kc), .ref rd, .ref pg, .int (nI pe), .int kn, .ref ss])), (h, .inr (4, [.int (nI n), .int (nI r), .ref a, .ref b])), (a, .inl (E.2.1 1, 24, .inl f)), (b, .inl (E.2.1 1, 96, .inl gg)), (qh, .inr (1, [hlz_1, hrz_2, .int hzz_3, .ref ha, .ref hb, .ref hc])), (ha, .inl (E.2.1 1, 48, .inl flz_4)), (hb, .inl (E.2.1 1, 48, .inl fnz_5)), (hc, .inl (E.2.1 2, 192, .inr (.inl fsz_6))), (kk, .inl (E.2.1 6, 4, .inr (.inr (.inr (.inr fkk))))), (k0, .inr (4, [.int (nI k0n), .int (nI k0r), .ref k0a, .ref k0b])), (k0a, .inl (E.2.1 1, 24, .inl k0f)), (k0b, .inl (E.2.1 1, 96, .inl k0g)), (k1, .inr (4, [.int (nI k1n), .int (nI k1r), .ref k1a, .ref k1b])), (k1a, .inl (E.2.1 1, 24, .inl k1f)), (k1b, .inl (E.2.1 1, 96, .inl k1g)), (k2, .inr (4, [.int (nI k2n), .int (nI k2r), .ref k2a, .ref k2b])), (k2a, .inl (E.2.1 1, 24, .inl k2f)), (k2b, .inl (E.2.1 1, 96, .inl k2g)), (k3, .inr (4, [.int (nI k3n), .int (nI k3r), .ref k3a, .ref k3b])), (k3a, .inl (E.2.1 1, 24, .inl k3f)), (k3b, .inl (E.2.1 1, 96, .inl k3g))]) [0, 1, 2, 3, 17, 18, 19, 20, 4, 5, 6, 7, 8, 9, 10, 11, 12, 13, 14, 15, 16] rfl rfl ?_
  exact kont rr  [(h, .inr (4, [.int (nI n), .int (nI r), .ref a, .ref b])), (a, .inl (E.2.1 1, 24, .inl f)), (b, .inl (E.2.1 1, 96, .inl gg))] [(qh, .inr (1, [hlz_1, hrz_2, .int hzz_3, .ref ha, .ref hb, .ref hc])), (ha, .inl (E.2.1 1, 48, .inl flz_4)), (hb, .inl (E.2.1 1, 48, .inl fnz_5)), (hc, .inl (E.2.1 2, 192, .inr (.inl fsz_6)))] [(kk, .inl (E.2.1 6, 4, .inr (.inr (.inr (.inr fkk))))), (k0, .inr (4, [.int (nI k0n), .int (nI k0r), .ref k0a, .ref k0b])), (k0a, .inl (E.2.1 1, 24, .inl k0f)), (k0b, .inl (E.2.1 1, 96, .inl k0g)), (k1, .inr (4, [.int (nI k1n), .int (nI k1r), .ref k1a, .ref k1b])), (k1a, .inl (E.2.1 1, 24, .inl k1f)), (k1b, .inl (E.2.1 1, 96, .inl k1g)), (k2, .inr (4, [.int (nI k2n), .int (nI k2r), .ref k2a, .ref k2b])), (k2a, .inl (E.2.1 1, 24, .inl k2f)), (k2b, .inl (E.2.1 1, 96, .inl k2g)), (k3, .inr (4, [.int (nI k3n), .int (nI k3r), .ref k3a, .ref k3b])), (k3a, .inl (E.2.1 1, 24, .inl k3f)), (k3b, .inl (E.2.1 1, 96, .inl k3g))]  ⟨n, r, a, b, f, gg, rfl, (by first | assumption | omega), (by first | assumption | omega), (by first | assumption | omega), rfl⟩ ⟨hlz_1, hrz_2, hzz_3, ha, hb, hc, flz_4, fnz_5, fsz_6, rfl, h_7⟩ ⟨fkk, k0, k1, k2, k3, k0n, k0r, k0a, k0b, k0f, k0g, k1n, k1r, k1a, k1b, k1f, k1g, k2n, k2r, k2a, k2b, k2f, k2g, k3n, k3r, k3a, k3b, k3f, k3g, rfl, k_fkk_0, k_fkk_1, k_fkk_2, k_fkk_3, (by first | assumption | omega), (by first | assumption | omega), (by first | assumption | omega), (by first | assumption | omega), (by first | assumption | omega), (by first | assumption | omega), (by first | assumption | omega), (by first | assumption | omega), (by first | assumption | omega), (by first | assumption | omega), (by first | assumption | omega), (by first | assumption | omega), (by first | assumption | omega), (by first | assumption | omega), (by first | assumption | omega), (by first | assumption | omega), rfl⟩ (h_8)
theorem wc_X11_turn : Cond.code yX11_turn cX11_turn 3 (some .int) ∈ TB := tbm (tq4 (List.mem_of_getElem? (i := 186) (rfl))) (by decide +kernel)
theorem wi_X11_turn : Cond.instanceMethod yX11_turn ∈ TB := tbm (tq4 (List.mem_of_getElem? (i := 184) (by decide +kernel))) (by decide +kernel)
theorem ws_X11_turn : Cond.selects RX11 yX11_turn yX11_turn ∈ TB := tbm (tq4 (List.mem_of_getElem? (i := 185) (by decide +kernel))) (by decide +kernel)
theorem mi_X11_turn : MI yX11_turn cX11_turn 3 (some .int) 2 := ⟨wc_X11_turn, wn_X11, ⟨by decide +kernel, by decide +kernel, by decide +kernel⟩, wi_X11_turn, ws_X11_turn⟩
theorem wl_L_127 : Cond.methodLink RL 127 yX11_turn ∈ TB := tbm (tq4 (List.mem_of_getElem? (i := 183) (by decide +kernel))) (by decide +kernel)
theorem dL_law_1057 : decode cL_law 1057 = .ok (.invokevirtual 127, 3) := by decide +kernel
set_option maxRecDepth 100000 in
set_option maxHeartbeats 4000000 in
theorem lx_turn {X : XT} {E : EV} {ro wT pre : va_W} {lv : List (Nat × Value)} {rest : List Value} {kC nC : Nat} {hx h qp qs qj ly qh kk rd pg ss : Nat} {ac np kc pe : Nat} {kn : Int32} {mN : AM} {pV : Nat → AM} {tT : Nat → Option SVal} {ec : Nat → Nat} {er : Nat → Nat} {ed : Nat → Nat → Int32} {eT : Nat → Nat → Option SVal} {eb : Nat → Nat → Int32} {en : Nat → Nat → Int32} {w_now : va_W} {w_past : va_W} {w_judg : va_W} {w_rnds : va_W} {v0 : Int32} {v1 : Int32}  (C : CX X room_1 cL_law 4 RL ret E) (hW : Nat.ble (rest.map fun v => v.category).sum 8 = true) (hT : wT = pre ++ ro) (hk : kC + 0 ≤ 600000 ∧ nC + 0 ≤ 7302250) (hac : ac ≤ 8) (hnp : np < 8) (hkc : kc ≤ 4) (hpe : pe ≤ 4) (H_now : ok_now E ro h mN w_now) (H_past : ok_past E ro qp pV w_past) (H_judg : ok_judg E ro qj tT ec er ed eT eb en w_judg) (H_rnds : ok_rnds E ro rd  w_rnds) (kont : ∀ (rr : Int32) (acZ : Nat) (npZ : Nat) (mNZ : AM) (pVZ : Nat → AM) (w_nowZ : va_W) (w_pastZ : va_W) (w_judgZ : va_W) (w_rndsZ : va_W), acZ ≤ 8 → npZ < 8 → ok_now E ro h mNZ w_nowZ → ok_past E ro qp pVZ w_pastZ → ok_judg E ro qj tT ec er ed eT eb en w_judgZ → ok_rnds E ro rd  w_rndsZ → (((asX mNZ acZ npZ pVZ), rr) = opTurn (asX mN ac np pV) (ev6 ec er eT eb en ed) tT v0 v1) → WW X 4 E 1060 lv (.int rr :: rest) ([(hx, .inr (11, [.ref h, .ref qp, .int (nI acZ), .int (nI npZ), .ref qs, .ref qj, .ref ly, .ref qh, .ref kk, .int (nI kc), .ref rd, .ref pg, .int (nI pe), .int kn, .ref ss]))] ++ (w_nowZ ++ (w_pastZ ++ (w_judgZ ++ (w_rndsZ ++ wT))))) kC nC) : WW X 4 E 1057 lv (.int v1 :: .int v0 :: .ref hx :: rest) ([(hx, .inr (11, [.ref h, .ref qp, .int (nI ac), .int (nI np), .ref qs, .ref qj, .ref ly, .ref qh, .ref kk, .int (nI kc), .ref rd, .ref pg, .int (nI pe), .int kn, .ref ss]))] ++ (w_now ++ (w_past ++ (w_judg ++ (w_rnds ++ wT))))) kC nC := by
  unfold ok_now at H_now
  refine ex6 H_now ?_
  clear H_now
  intro n r a b f gg H_now
  refine an4 H_now ?_
  clear H_now
  intro we_now hn hr hwfm H_now
  have hmN := H_now
  clear H_now
  subst we_now
  subst hmN
  unfold ok_past at H_past
  refine ex8 H_past ?_
  clear H_past
  intro fqp p0 p1 p2 p3 p4 p5 p6 H_past
  refine ex8 H_past ?_
  clear H_past
  intro p7 p0n p0r p0a p0b p0f p0g p1n H_past
  refine ex8 H_past ?_
  clear H_past
  intro p1r p1a p1b p1f p1g p2n p2r p2a H_past
  refine ex8 H_past ?_
  clear H_past
  intro p2b p2f p2g p3n p3r p3a p3b p3f H_past
  refine ex8 H_past ?_
  clear H_past
  intro p3g p4n p4r p4a p4b p4f p4g p5n H_past
  refine ex8 H_past ?_
  clear H_past
  intro p5r p5a p5b p5f p5g p6n p6r p6a H_past
  refine ex8 H_past ?_
  clear H_past
  intro p6b p6f p6g p7n p7r p7a p7b p7f H_past
  refine ex1 H_past ?_
  clear H_past
  intro p7g H_past
  refine an8 H_past ?_
  clear H_past
  intro we_past k_fqp_0 k_fqp_1 k_fqp_2 k_fqp_3 k_fqp_4 k_fqp_5 k_fqp_6 H_past
  refine an8 H_past ?_
  clear H_past
  intro k_fqp_7 hp0_n hp0_r hp0_w hp1_n hp1_r hp1_w hp2_n H_past
  refine an8 H_past ?_
  clear H_past
  intro hp2_r hp2_w hp3_n hp3_r hp3_w hp4_n hp4_r hp4_w H_past
  refine an8 H_past ?_
  clear H_past
  intro hp5_n hp5_r hp5_w hp6_n hp6_r hp6_w hp7_n hp7_r H_past
  refine an1 H_past ?_
  clear H_past
  intro hp7_w H_past
  have hpV := H_past
  clear H_past
  subst we_past
  subst hpV
  unfold ok_judg at H_judg
  refine ex8 H_judg ?_
  clear H_judg
  intro jt je ju ja ft fe e0 e1 H_judg
  refine ex8 H_judg ?_
  clear H_judg
  intro e2 e3 fa la0 la1 e0cs e0rc e0a H_judg
  refine ex8 H_judg ?_
  clear H_judg
  intro e0b e0c e0d e0fi e0fb e0fc e0fd e1cs H_judg
  refine ex8 H_judg ?_
  clear H_judg
  intro e1rc e1a e1b e1c e1d e1fi e1fb e1fc H_judg
  refine ex8 H_judg ?_
  clear H_judg
  intro e1fd e2cs e2rc e2a e2b e2c e2d e2fi H_judg
  refine ex8 H_judg ?_
  clear H_judg
  intro e2fb e2fc e2fd e3cs e3rc e3a e3b e3c H_judg
  refine ex8 H_judg ?_
  clear H_judg
  intro e3d e3fi e3fb e3fc e3fd la0m la0p la0w H_judg
  refine ex8 H_judg ?_
  clear H_judg
  intro la0c la0f la0q la0fc la0ff la0fq la0n la0r H_judg
  refine ex8 H_judg ?_
  clear H_judg
  intro la0x la0y la0gx la0gy la1m la1p la1w la1c H_judg
  refine ex8 H_judg ?_
  clear H_judg
  intro la1f la1q la1fc la1ff la1fq la1n la1r la1x H_judg
  refine ex8 H_judg ?_
  clear H_judg
  intro la1y la1gx la1gy fto e0T e1T e2T e3T H_judg
  refine an8 H_judg ?_
  clear H_judg
  intro we_judg k_fe_0 k_fe_1 k_fe_2 k_fe_3 k_fa_0 k_fa_1 he0cs H_judg
  refine an8 H_judg ?_
  clear H_judg
  intro he0rc he0fi he1cs he1rc he1fi he2cs he2rc he2fi H_judg
  refine an8 H_judg ?_
  clear H_judg
  intro he3cs he3rc he3fi hla0n hla0r hla1n hla1r hto H_judg
  refine an5 H_judg ?_
  clear H_judg
  intro hec her hed heT heb H_judg
  have hen := H_judg
  clear H_judg
  subst we_judg
  subst hec
  subst her
  subst hed
  subst heT
  subst heb
  subst hen
  unfold ok_rnds at H_rnds
  refine ex8 H_rnds ?_
  clear H_rnds
  intro rt rf go0 sty0 knw0 frf rtn rtr H_rnds
  refine ex4 H_rnds ?_
  clear H_rnds
  intro rx ry rtf rtg H_rnds
  refine an2 H_rnds ?_
  clear H_rnds
  intro we_rnds hrtn H_rnds
  have hrtr := H_rnds
  clear H_rnds
  subst we_rnds
  refine ww_eq (ws' := [(hx, .inr (11, [.ref h, .ref qp, .int (nI ac), .int (nI np), .ref qs, .ref qj, .ref ly, .ref qh, .ref kk, .int (nI kc), .ref rd, .ref pg, .int (nI pe), .int kn, .ref ss])), (h, .inr (4, [.int (nI n), .int (nI r), .ref a, .ref b])), (a, .inl (E.2.1 1, 24, .inl f)), (b, .inl (E.2.1 1, 96, .inl gg)), (qp, .inl (E.2.1 6, 8, .inr (.inr (.inr (.inr fqp))))), (p0, .inr (4, [.int (nI p0n), .int (nI p0r), .ref p0a, .ref p0b])), (p0a, .inl (E.2.1 1, 24, .inl p0f)), (p0b, .inl (E.2.1 1, 96, .inl p0g)), (p1, .inr (4, [.int (nI p1n), .int (nI p1r), .ref p1a, .ref p1b])), (p1a, .inl (E.2.1 1, 24, .inl p1f)), (p1b, .inl (E.2.1 1, 96, .inl p1g)), (p2, .inr (4, [.int (nI p2n), .int (nI p2r), .ref p2a, .ref p2b])), (p2a, .inl (E.2.1 1, 24, .inl p2f)), (p2b, .inl (E.2.1 1, 96, .inl p2g)), (p3, .inr (4, [.int (nI p3n), .int (nI p3r), .ref p3a, .ref p3b])), (p3a, .inl (E.2.1 1, 24, .inl p3f)), (p3b, .inl (E.2.1 1, 96, .inl p3g)), (p4, .inr (4, [.int (nI p4n), .int (nI p4r), .ref p4a, .ref p4b])), (p4a, .inl (E.2.1 1, 24, .inl p4f)), (p4b, .inl (E.2.1 1, 96, .inl p4g)), (p5, .inr (4, [.int (nI p5n), .int (nI p5r), .ref p5a, .ref p5b])), (p5a, .inl (E.2.1 1, 24, .inl p5f)), (p5b, .inl (E.2.1 1, 96, .inl p5g)), (p6, .inr (4, [.int (nI p6n), .int (nI p6r), .ref p6a, .ref p6b])), (p6a, .inl (E.2.1 1, 24, .inl p6f)), (p6b, .inl (E.2.1 1, 96, .inl p6g)), (p7, .inr (4, [.int (nI p7n), .int (nI p7r), .ref p7a, .ref p7b])), (p7a, .inl (E.2.1 1, 24, .inl p7f)), (p7b, .inl (E.2.1 1, 96, .inl p7g)), (qj, .inr (2, [.ref jt, .ref je, .ref ju, .ref ja])), (ju, .inl (E.2.1 1, 32, .inl ft)), (je, .inl (E.2.1 4, 4, .inr (.inr (.inr (.inr fe))))), (ja, .inl (E.2.1 5, 2, .inr (.inr (.inr (.inr fa))))), (e0, .inr (0, [.int (nI e0cs), .int (nI e0rc), .ref e0a, .ref e0b, .ref e0c, .ref e0d])), (e0a, .inl (E.2.1 7, 4, .inr (.inr (.inr (.inr e0fi))))), (e0b, .inl (E.2.1 1, 4, .inl e0fb)), (e0c, .inl (E.2.1 1, 4, .inl e0fc)), (e0d, .inl (E.2.1 1, 16, .inl e0fd)), (e1, .inr (0, [.int (nI e1cs), .int (nI e1rc), .ref e1a, .ref e1b, .ref e1c, .ref e1d])), (e1a, .inl (E.2.1 7, 4, .inr (.inr (.inr (.inr e1fi))))), (e1b, .inl (E.2.1 1, 4, .inl e1fb)), (e1c, .inl (E.2.1 1, 4, .inl e1fc)), (e1d, .inl (E.2.1 1, 16, .inl e1fd)), (e2, .inr (0, [.int (nI e2cs), .int (nI e2rc), .ref e2a, .ref e2b, .ref e2c, .ref e2d])), (e2a, .inl (E.2.1 7, 4, .inr (.inr (.inr (.inr e2fi))))), (e2b, .inl (E.2.1 1, 4, .inl e2fb)), (e2c, .inl (E.2.1 1, 4, .inl e2fc)), (e2d, .inl (E.2.1 1, 16, .inl e2fd)), (e3, .inr (0, [.int (nI e3cs), .int (nI e3rc), .ref e3a, .ref e3b, .ref e3c, .ref e3d])), (e3a, .inl (E.2.1 7, 4, .inr (.inr (.inr (.inr e3fi))))), (e3b, .inl (E.2.1 1, 4, .inl e3fb)), (e3c, .inl (E.2.1 1, 4, .inl e3fc)), (e3d, .inl (E.2.1 1, 16, .inl e3fd)), (la0, .inr (3, [.ref la0m, .int la0p, .int la0w, .ref la0c, .ref la0f, .ref la0q])), (la0c, .inl (E.2.1 1, 24, .inl la0fc)), (la0f, .inl (E.2.1 1, 24, .inl la0ff)), (la0q, .inl (E.2.1 1, 4, .inl la0fq)), (la0m, .inr (4, [.int (nI la0n), .int (nI la0r), .ref la0x, .ref la0y])), (la0x, .inl (E.2.1 1, 24, .inl la0gx)), (la0y, .inl (E.2.1 1, 96, .inl la0gy)), (la1, .inr (3, [.ref la1m, .int la1p, .int la1w, .ref la1c, .ref la1f, .ref la1q])), (la1c, .inl (E.2.1 1, 24, .inl la1fc)), (la1f, .inl (E.2.1 1, 24, .inl la1ff)), (la1q, .inl (E.2.1 1, 4, .inl la1fq)), (la1m, .inr (4, [.int (nI la1n), .int (nI la1r), .ref la1x, .ref la1y])), (la1x, .inl (E.2.1 1, 24, .inl la1gx)), (la1y, .inl (E.2.1 1, 96, .inl la1gy)), (jt, .inl (E.2.1 7, 8, .inr (.inr (.inr (.inr fto))))), (rd, .inr (7, [.ref rt, .ref rf, .int go0, .int sty0, .int knw0])), (rf, .inl (E.2.1 1, 4, .inl frf)), (rt, .inr (4, [.int (nI rtn), .int (nI rtr), .ref rx, .ref ry])), (rx, .inl (E.2.1 1, 24, .inl rtf)), (ry, .inl (E.2.1 1, 96, .inl rtg))] ++ wT) ?_ rfl rfl rfl
  refine ww_ciT (k' := kC) (n' := nC) (wr := []) C (run_V (As := [.int v0, .int v1]) (rest := rest) C (x_turn X.2.1 E ro hx v0 v1 h qp ac np qs qj ly qh kk kc rd pg pe kn ss fqp p0 p1 p2 p3 p4 p5 p6 p7 p0n p0r p0a p0b p0f p0g p1n p1r p1a p1b p1f p1g p2n p2r p2a p2b p2f p2g p3n p3r p3a p3b p3f p3g p4n p4r p4a p4b p4f p4g p5n p5r p5a p5b p5f p5g p6n p6r p6a p6b p6f p6g p7n p7r p7a p7b p7f p7g n r a b f gg jt je ju ja ft fe e0 e1 e2 e3 fa la0 la1 e0cs e0rc e0a e0b e0c e0d e0fi e0fb e0fc e0fd e1cs e1rc e1a e1b e1c e1d e1fi e1fb e1fc e1fd e2cs e2rc e2a e2b e2c e2d e2fi e2fb e2fc e2fd e3cs e3rc e3a e3b e3c e3d e3fi e3fb e3fc e3fd la0m la0p la0w la0c la0f la0q la0fc la0ff la0fq la0n la0r la0x la0y la0gx la0gy la1m la1p la1w la1c la1f la1q la1fc la1ff la1fq la1n la1r la1x la1y la1gx la1gy fto rt rf go0 sty0 knw0 frf rtn rtr rx ry rtf rtg e0T e1T e2T e3T tT k_fqp_0 k_fqp_1 k_fqp_2 k_fqp_3 k_fqp_4 k_fqp_5 k_fqp_6 k_fqp_7 k_fe_0 k_fe_1 k_fe_2 k_fe_3 k_fa_0 k_fa_1 (by first | assumption | omega) (by first | assumption | omega) (by first | assumption | omega) (by first | assumption | omega) (by first | assumption | omega) (by first | assumption | omega) (by first | assumption | omega) (by first | assumption | omega) (by first | assumption | omega) (by first | assumption | omega) (by first | assumption | omega) (by first | assumption | omega) (by first | assumption | omega) (by first | assumption | omega) (by first | assumption | omega) (by first | assumption | omega) (by first | assumption | omega) (by first | assumption | omega) (by first | assumption | omega) (by first | assumption | omega) (by first | assumption | omega) (by first | assumption | omega) (by first | assumption | omega) (by first | assumption | omega) (by first | assumption | omega) (by first | assumption | omega) (by first | assumption | omega) (by first | assumption | omega) (by first | assumption | omega) (by first | assumption | omega) (by first | assumption | omega) (by first | assumption | omega) (by first | assumption | omega) he0fi (by first | assumption | omega) (by first | assumption | omega) he1fi (by first | assumption | omega) (by first | assumption | omega) he2fi (by first | assumption | omega) (by first | assumption | omega) he3fi (by first | assumption | omega) (by first | assumption | omega) (by first | assumption | omega) (by first | assumption | omega) hto (by first | assumption | omega) (by first | assumption | omega)) mi_X11_turn wl_L_127 rfl 0 11 rfl rfl rfl rfl hW dL_law_1057) (roT (pre := pre) [0, 4, 5, 6, 7, 8, 9, 10, 11, 12, 13, 14, 15, 16, 17, 18, 19, 20, 21, 22, 23, 24, 25, 26, 27, 28, 1, 2, 3, 29, 30, 31, 32, 33, 34, 35, 36, 37, 38, 39, 40, 41, 42, 43, 44, 45, 46, 47, 48, 49, 50, 51, 52, 53, 54, 55, 56, 57, 58, 59, 60, 61, 62, 63, 64, 65, 66, 67, 68, 69, 70, 71, 72] rfl hT) [0, 4, 5, 6, 7, 8, 9, 10, 11, 12, 13, 14, 15, 16, 17, 18, 19, 20, 21, 22, 23, 24, 25, 26, 27, 28, 1, 2, 3, 29, 30, 31, 32, 33, 34, 35, 36, 37, 38, 39, 40, 41, 42, 43, 44, 45, 46, 47, 48, 49, 50, 51, 52, 53, 54, 55, 56, 57, 58, 59, 60, 61, 62, 63, 64, 65, 66, 67, 68, 69, 70, 71, 72] [] rfl rfl rfl ⟨by omega, by omega, hk.1, hk.2⟩ (fun rr u hw => ?_)
  refine ex8 hw ?_
  clear hw
  intro acz_1 npz_2 p0nz_3 p0rz__4 p0fz_5 p0gz_6 p1nz_7 p1rz__8 hw
  refine ex8 hw ?_
  clear hw
  intro p1fz_9 p1gz_10 p2nz_11 p2rz__12 p2fz_13 p2gz_14 p3nz_15 p3rz__16 hw
  refine ex8 hw ?_
  clear hw
  intro p3fz_17 p3gz_18 p4nz_19 p4rz__20 p4fz_21 p4gz_22 p5nz_23 p5rz__24 hw
  refine ex8 hw ?_
  clear hw
  intro p5fz_25 p5gz_26 p6nz_27 p6rz__28 p6fz_29 p6gz_30 p7nz_31 p7rz__32 hw
  refine ex8 hw ?_
  clear hw
  intro p7fz_33 p7gz_34 nz_35 rz__36 fz_37 ggz_38 ft2_39 la0zp_40 hw
  refine ex8 hw ?_
  clear hw
  intro la0zw_41 la0zn_42 la0zr_43 la0zfc_44 la0zff_45 la0zfq_46 la0zgx_47 la0zgy_48 hw
  refine ex8 hw ?_
  clear hw
  intro la1zp_49 la1zw_50 la1zn_51 la1zr_52 la1zfc_53 la1zff_54 la1zfq_55 la1zgx_56 hw
  refine ex8 hw ?_
  clear hw
  intro la1zgy_57 goz_58 stz_59 knz_60 rtnz_61 rtrz_62 frfz_63 rtfz_64 hw
  refine ex1 hw ?_
  clear hw
  intro rtgz_65 hw
  refine an8 hw ?_
  clear hw
  intro he_u h_66 h_67 h_68 h_69 h_70 h_71 h_72 hw
  refine an8 hw ?_
  clear hw
  intro h_73 h_74 h_75 h_76 h_77 h_78 h_79 h_80 hw
  refine an8 hw ?_
  clear hw
  intro h_81 h_82 h_83 h_84 h_85 h_86 h_87 h_88 hw
  refine an8 hw ?_
  clear hw
  intro h_89 h_90 h_91 h_92 h_93 h_94 h_95 h_96 hw
  refine an4 hw ?_
  clear hw
  intro h_97 h_98 h_99 h_100 hw
  have h_101 := hw
  clear hw
  subst he_u
  refine ww_subT (w1 := [(hx, .inr (11, [.ref h, .ref qp, .int (nI acz_1), .int (nI npz_2), .ref qs, .ref qj, .ref ly, .ref qh, .ref kk, .int (nI kc), .ref rd, .ref pg, .int (nI pe), .int kn, .ref ss])), (h, .inr (4, [.int (nI nz_35), .int (nI rz__36), .ref a, .ref b])), (a, .inl (E.2.1 1, 24, .inl fz_37)), (b, .inl (E.2.1 1, 96, .inl ggz_38)), (qp, .inl (E.2.1 6, 8, .inr (.inr (.inr (.inr fqp))))), (p0, .inr (4, [.int (nI p0nz_3), .int (nI p0rz__4), .ref p0a, .ref p0b])), (p0a, .inl (E.2.1 1, 24, .inl p0fz_5)), (p0b, .inl (E.2.1 1, 96, .inl p0gz_6)), (p1, .inr (4, [.int (nI p1nz_7), .int (nI p1rz__8), .ref p1a, .ref p1b])), (p1a, .inl (E.2.1 1, 24, .inl p1fz_9)), (p1b, .inl (E.2.1 1, 96, .inl p1gz_10)), (p2, .inr (4, [.int (nI p2nz_11), .int (nI p2rz__12), .ref p2a, .ref p2b])), (p2a, .inl (E.2.1 1, 24, .inl p2fz_13)), (p2b, .inl (E.2.1 1, 96, .inl p2gz_14)), (p3, .inr (4, [.int (nI p3nz_15), .int (nI p3rz__16), .ref p3a, .ref p3b])), (p3a, .inl (E.2.1 1, 24, .inl p3fz_17)), (p3b, .inl (E.2.1 1, 96, .inl p3gz_18)), (p4, .inr (4, [.int (nI p4nz_19), .int (nI p4rz__20), .ref p4a, .ref p4b])), (p4a, .inl (E.2.1 1, 24, .inl p4fz_21)), (p4b, .inl (E.2.1 1, 96, .inl p4gz_22)), (p5, .inr (4, [.int (nI p5nz_23), .int (nI p5rz__24), .ref p5a, .ref p5b])), (p5a, .inl (E.2.1 1, 24, .inl p5fz_25)), (p5b, .inl (E.2.1 1, 96, .inl p5gz_26)), (p6, .inr (4, [.int (nI p6nz_27), .int (nI p6rz__28), .ref p6a, .ref p6b])), (p6a, .inl (E.2.1 1, 24, .inl p6fz_29)), (p6b, .inl (E.2.1 1, 96, .inl p6gz_30)), (p7, .inr (4, [.int (nI p7nz_31), .int (nI p7rz__32), .ref p7a, .ref p7b])), (p7a, .inl (E.2.1 1, 24, .inl p7fz_33)), (p7b, .inl (E.2.1 1, 96, .inl p7gz_34)), (qj, .inr (2, [.ref jt, .ref je, .ref ju, .ref ja])), (ju, .inl (E.2.1 1, 32, .inl ft2_39)), (je, .inl (E.2.1 4, 4, .inr (.inr (.inr (.inr fe))))), (ja, .inl (E.2.1 5, 2, .inr (.inr (.inr (.inr fa))))), (e0, .inr (0, [.int (nI e0cs), .int (nI e0rc), .ref e0a, .ref e0b, .ref e0c, .ref e0d])), (e0a, .inl (E.2.1 7, 4, .inr (.inr (.inr (.inr e0fi))))), (e0b, .inl (E.2.1 1, 4, .inl e0fb)), (e0c, .inl (E.2.1 1, 4, .inl e0fc)), (e0d, .inl (E.2.1 1, 16, .inl e0fd)), (e1, .inr (0, [.int (nI e1cs), .int (nI e1rc), .ref e1a, .ref e1b, .ref e1c, .ref e1d])), (e1a, .inl (E.2.1 7, 4, .inr (.inr (.inr (.inr e1fi))))), (e1b, .inl (E.2.1 1, 4, .inl e1fb)), (e1c, .inl (E.2.1 1, 4, .inl e1fc)), (e1d, .inl (E.2.1 1, 16, .inl e1fd)), (e2, .inr (0, [.int (nI e2cs), .int (nI e2rc), .ref e2a, .ref e2b, .ref e2c, .ref e2d])), (e2a, .inl (E.2.1 7, 4, .inr (.inr (.inr (.inr e2fi))))), (e2b, .inl (E.2.1 1, 4, .inl e2fb)), (e2c, .inl (E.2.1 1, 4, .inl e2fc)), (e2d, .inl (E.2.1 1, 16, .inl e2fd)), (e3, .inr (0, [.int (nI e3cs), .int (nI e3rc), .ref e3a, .ref e3b, .ref e3c, .ref e3d])), (e3a, .inl (E.2.1 7, 4, .inr (.inr (.inr (.inr e3fi))))), (e3b, .inl (E.2.1 1, 4, .inl e3fb)), (e3c, .inl (E.2.1 1, 4, .inl e3fc)), (e3d, .inl (E.2.1 1, 16, .inl e3fd)), (la0, .inr (3, [.ref la0m, .int la0zp_40, .int la0zw_41, .ref la0c, .ref la0f, .ref la0q])), (la0c, .inl (E.2.1 1, 24, .inl la0zfc_44)), (la0f, .inl (E.2.1 1, 24, .inl la0zff_45)), (la0q, .inl (E.2.1 1, 4, .inl la0zfq_46)), (la0m, .inr (4, [.int (nI la0zn_42), .int (nI la0zr_43), .ref la0x, .ref la0y])), (la0x, .inl (E.2.1 1, 24, .inl la0zgx_47)), (la0y, .inl (E.2.1 1, 96, .inl la0zgy_48)), (la1, .inr (3, [.ref la1m, .int la1zp_49, .int la1zw_50, .ref la1c, .ref la1f, .ref la1q])), (la1c, .inl (E.2.1 1, 24, .inl la1zfc_53)), (la1f, .inl (E.2.1 1, 24, .inl la1zff_54)), (la1q, .inl (E.2.1 1, 4, .inl la1zfq_55)), (la1m, .inr (4, [.int (nI la1zn_51), .int (nI la1zr_52), .ref la1x, .ref la1y])), (la1x, .inl (E.2.1 1, 24, .inl la1zgx_56)), (la1y, .inl (E.2.1 1, 96, .inl la1zgy_57)), (jt, .inl (E.2.1 7, 8, .inr (.inr (.inr (.inr fto))))), (rd, .inr (7, [.ref rt, .ref rf, .int goz_58, .int stz_59, .int knz_60])), (rf, .inl (E.2.1 1, 4, .inl frfz_63)), (rt, .inr (4, [.int (nI rtnz_61), .int (nI rtrz_62), .ref rx, .ref ry])), (rx, .inl (E.2.1 1, 24, .inl rtfz_64)), (ry, .inl (E.2.1 1, 96, .inl rtgz_65))]) [0, 26, 27, 28, 1, 2, 3, 4, 5, 6, 7, 8, 9, 10, 11, 12, 13, 14, 15, 16, 17, 18, 19, 20, 21, 22, 23, 24, 25, 29, 30, 31, 32, 33, 34, 35, 36, 37, 38, 39, 40, 41, 42, 43, 44, 45, 46, 47, 48, 49, 50, 51, 52, 53, 54, 55, 56, 57, 58, 59, 60, 61, 62, 63, 64, 65, 66, 67, 68, 69, 70, 71, 72] rfl rfl ?_
  exact kont rr acz_1 npz_2 (am nz_35 rz__36 fz_37 ggz_38) (pick8 (am p0nz_3 p0rz__4 p0fz_5 p0gz_6) (am p1nz_7 p1rz__8 p1fz_9 p1gz_10) (am p2nz_11 p2rz__12 p2fz_13 p2gz_14) (am p3nz_15 p3rz__16 p3fz_17 p3gz_18) (am p4nz_19 p4rz__20 p4fz_21 p4gz_22) (am p5nz_23 p5rz__24 p5fz_25 p5gz_26) (am p6nz_27 p6rz__28 p6fz_29 p6gz_30) (am p7nz_31 p7rz__32 p7fz_33 p7gz_34)) [(h, .inr (4, [.int (nI nz_35), .int (nI rz__36), .ref a, .ref b])), (a, .inl (E.2.1 1, 24, .inl fz_37)), (b, .inl (E.2.1 1, 96, .inl ggz_38))] [(qp, .inl (E.2.1 6, 8, .inr (.inr (.inr (.inr fqp))))), (p0, .inr (4, [.int (nI p0nz_3), .int (nI p0rz__4), .ref p0a, .ref p0b])), (p0a, .inl (E.2.1 1, 24, .inl p0fz_5)), (p0b, .inl (E.2.1 1, 96, .inl p0gz_6)), (p1, .inr (4, [.int (nI p1nz_7), .int (nI p1rz__8), .ref p1a, .ref p1b])), (p1a, .inl (E.2.1 1, 24, .inl p1fz_9)), (p1b, .inl (E.2.1 1, 96, .inl p1gz_10)), (p2, .inr (4, [.int (nI p2nz_11), .int (nI p2rz__12), .ref p2a, .ref p2b])), (p2a, .inl (E.2.1 1, 24, .inl p2fz_13)), (p2b, .inl (E.2.1 1, 96, .inl p2gz_14)), (p3, .inr (4, [.int (nI p3nz_15), .int (nI p3rz__16), .ref p3a, .ref p3b])), (p3a, .inl (E.2.1 1, 24, .inl p3fz_17)), (p3b, .inl (E.2.1 1, 96, .inl p3gz_18)), (p4, .inr (4, [.int (nI p4nz_19), .int (nI p4rz__20), .ref p4a, .ref p4b])), (p4a, .inl (E.2.1 1, 24, .inl p4fz_21)), (p4b, .inl (E.2.1 1, 96, .inl p4gz_22)), (p5, .inr (4, [.int (nI p5nz_23), .int (nI p5rz__24), .ref p5a, .ref p5b])), (p5a, .inl (E.2.1 1, 24, .inl p5fz_25)), (p5b, .inl (E.2.1 1, 96, .inl p5gz_26)), (p6, .inr (4, [.int (nI p6nz_27), .int (nI p6rz__28), .ref p6a, .ref p6b])), (p6a, .inl (E.2.1 1, 24, .inl p6fz_29)), (p6b, .inl (E.2.1 1, 96, .inl p6gz_30)), (p7, .inr (4, [.int (nI p7nz_31), .int (nI p7rz__32), .ref p7a, .ref p7b])), (p7a, .inl (E.2.1 1, 24, .inl p7fz_33)), (p7b, .inl (E.2.1 1, 96, .inl p7gz_34))] [(qj, .inr (2, [.ref jt, .ref je, .ref ju, .ref ja])), (ju, .inl (E.2.1 1, 32, .inl ft2_39)), (je, .inl (E.2.1 4, 4, .inr (.inr (.inr (.inr fe))))), (ja, .inl (E.2.1 5, 2, .inr (.inr (.inr (.inr fa))))), (e0, .inr (0, [.int (nI e0cs), .int (nI e0rc), .ref e0a, .ref e0b, .ref e0c, .ref e0d])), (e0a, .inl (E.2.1 7, 4, .inr (.inr (.inr (.inr e0fi))))), (e0b, .inl (E.2.1 1, 4, .inl e0fb)), (e0c, .inl (E.2.1 1, 4, .inl e0fc)), (e0d, .inl (E.2.1 1, 16, .inl e0fd)), (e1, .inr (0, [.int (nI e1cs), .int (nI e1rc), .ref e1a, .ref e1b, .ref e1c, .ref e1d])), (e1a, .inl (E.2.1 7, 4, .inr (.inr (.inr (.inr e1fi))))), (e1b, .inl (E.2.1 1, 4, .inl e1fb)), (e1c, .inl (E.2.1 1, 4, .inl e1fc)), (e1d, .inl (E.2.1 1, 16, .inl e1fd)), (e2, .inr (0, [.int (nI e2cs), .int (nI e2rc), .ref e2a, .ref e2b, .ref e2c, .ref e2d])), (e2a, .inl (E.2.1 7, 4, .inr (.inr (.inr (.inr e2fi))))), (e2b, .inl (E.2.1 1, 4, .inl e2fb)), (e2c, .inl (E.2.1 1, 4, .inl e2fc)), (e2d, .inl (E.2.1 1, 16, .inl e2fd)), (e3, .inr (0, [.int (nI e3cs), .int (nI e3rc), .ref e3a, .ref e3b, .ref e3c, .ref e3d])), (e3a, .inl (E.2.1 7, 4, .inr (.inr (.inr (.inr e3fi))))), (e3b, .inl (E.2.1 1, 4, .inl e3fb)), (e3c, .inl (E.2.1 1, 4, .inl e3fc)), (e3d, .inl (E.2.1 1, 16, .inl e3fd)), (la0, .inr (3, [.ref la0m, .int la0zp_40, .int la0zw_41, .ref la0c, .ref la0f, .ref la0q])), (la0c, .inl (E.2.1 1, 24, .inl la0zfc_44)), (la0f, .inl (E.2.1 1, 24, .inl la0zff_45)), (la0q, .inl (E.2.1 1, 4, .inl la0zfq_46)), (la0m, .inr (4, [.int (nI la0zn_42), .int (nI la0zr_43), .ref la0x, .ref la0y])), (la0x, .inl (E.2.1 1, 24, .inl la0zgx_47)), (la0y, .inl (E.2.1 1, 96, .inl la0zgy_48)), (la1, .inr (3, [.ref la1m, .int la1zp_49, .int la1zw_50, .ref la1c, .ref la1f, .ref la1q])), (la1c, .inl (E.2.1 1, 24, .inl la1zfc_53)), (la1f, .inl (E.2.1 1, 24, .inl la1zff_54)), (la1q, .inl (E.2.1 1, 4, .inl la1zfq_55)), (la1m, .inr (4, [.int (nI la1zn_51), .int (nI la1zr_52), .ref la1x, .ref la1y])), (la1x, .inl (E.2.1 1, 24, .inl la1zgx_56)), (la1y, .inl (E.2.1 1, 96, .inl la1zgy_57)), (jt, .inl (E.2.1 7, 8, .inr (.inr (.inr (.inr fto)))))] [(rd, .inr (7, [.ref rt, .ref rf, .int goz_58, .int stz_59, .int knz_60])), (rf, .inl (E.2.1 1, 4, .inl frfz_63)), (rt, .inr (4, [.int (nI rtnz_61), .int (nI rtrz_62), .ref rx, .ref ry])), (rx, .inl (E.2.1 1, 24, .inl rtfz_64)), (ry, .inl (E.2.1 1, 96, .inl rtgz_65))] (by first | assumption | omega) (by first | assumption | omega) ⟨nz_35, rz__36, a, b, fz_37, ggz_38, rfl, (by first | assumption | omega), (by first | assumption | omega), (by first | assumption | omega), rfl⟩ ⟨fqp, p0, p1, p2, p3, p4, p5, p6, p7, p0nz_3, p0rz__4, p0a, p0b, p0fz_5, p0gz_6, p1nz_7, p1rz__8, p1a, p1b, p1fz_9, p1gz_10, p2nz_11, p2rz__12, p2a, p2b, p2fz_13, p2gz_14, p3nz_15, p3rz__16, p3a, p3b, p3fz_17, p3gz_18, p4nz_19, p4rz__20, p4a, p4b, p4fz_21, p4gz_22, p5nz_23, p5rz__24, p5a, p5b, p5fz_25, p5gz_26, p6nz_27, p6rz__28, p6a, p6b, p6fz_29, p6gz_30, p7nz_31, p7rz__32, p7a, p7b, p7fz_33, p7gz_34, rfl, k_fqp_0, k_fqp_1, k_fqp_2, k_fqp_3, k_fqp_4, k_fqp_5, k_fqp_6, k_fqp_7, (by first | assumption | omega), (by first | assumption | omega), (by first | assumption | omega), (by first | assumption | omega), (by first | assumption | omega), (by first | assumption | omega), (by first | assumption | omega), (by first | assumption | omega), (by first | assumption | omega), (by first | assumption | omega), (by first | assumption | omega), (by first | assumption | omega), (by first | assumption | omega), (by first | assumption | omega), (by first | assumption | omega), (by first | assumption | omega), (by first | assumption | omega), (by first | assumption | omega), (by first | assumption | omega), (by first | assumption | omega), (by first | assumption | omega), (by first | assumption | omega), (by first | assumption | omega), (by first | assumption | omega), rfl⟩ ⟨jt, je, ju, ja, ft2_39, fe, e0, e1, e2, e3, fa, la0, la1, e0cs, e0rc, e0a, e0b, e0c, e0d, e0fi, e0fb, e0fc, e0fd, e1cs, e1rc, e1a, e1b, e1c, e1d, e1fi, e1fb, e1fc, e1fd, e2cs, e2rc, e2a, e2b, e2c, e2d, e2fi, e2fb, e2fc, e2fd, e3cs, e3rc, e3a, e3b, e3c, e3d, e3fi, e3fb, e3fc, e3fd, la0m, la0zp_40, la0zw_41, la0c, la0f, la0q, la0zfc_44, la0zff_45, la0zfq_46, la0zn_42, la0zr_43, la0x, la0y, la0zgx_47, la0zgy_48, la1m, la1zp_49, la1zw_50, la1c, la1f, la1q, la1zfc_53, la1zff_54, la1zfq_55, la1zn_51, la1zr_52, la1x, la1y, la1zgx_56, la1zgy_57, fto, e0T, e1T, e2T, e3T, rfl, k_fe_0, k_fe_1, k_fe_2, k_fe_3, k_fa_0, k_fa_1, (by first | assumption | omega), (by first | assumption | omega), he0fi, (by first | assumption | omega), (by first | assumption | omega), he1fi, (by first | assumption | omega), (by first | assumption | omega), he2fi, (by first | assumption | omega), (by first | assumption | omega), he3fi, (by first | assumption | omega), (by first | assumption | omega), (by first | assumption | omega), (by first | assumption | omega), hto, rfl, rfl, rfl, rfl, rfl, rfl⟩ ⟨rt, rf, goz_58, stz_59, knz_60, frfz_63, rtnz_61, rtrz_62, rx, ry, rtfz_64, rtgz_65, rfl, (by first | assumption | omega), (by first | assumption | omega)⟩ (h_101)
theorem wc_X11_turns : Cond.code yX11_turns cX11_turns 4 (some .int) ∈ TB := tbm (tq4 (List.mem_of_getElem? (i := 210) (rfl))) (by decide +kernel)
theorem wi_X11_turns : Cond.instanceMethod yX11_turns ∈ TB := tbm (tq4 (List.mem_of_getElem? (i := 208) (by decide +kernel))) (by decide +kernel)
theorem ws_X11_turns : Cond.selects RX11 yX11_turns yX11_turns ∈ TB := tbm (tq4 (List.mem_of_getElem? (i := 209) (by decide +kernel))) (by decide +kernel)
theorem mi_X11_turns : MI yX11_turns cX11_turns 4 (some .int) 3 := ⟨wc_X11_turns, wn_X11, ⟨by decide +kernel, by decide +kernel, by decide +kernel⟩, wi_X11_turns, ws_X11_turns⟩
theorem wl_L_131 : Cond.methodLink RL 131 yX11_turns ∈ TB := tbm (tq4 (List.mem_of_getElem? (i := 207) (by decide +kernel))) (by decide +kernel)
theorem dL_law_1095 : decode cL_law 1095 = .ok (.invokevirtual 131, 3) := by decide +kernel
set_option maxRecDepth 100000 in
set_option maxHeartbeats 4000000 in
theorem lx_turns {X : XT} {E : EV} {ro wT pre : va_W} {lv : List (Nat × Value)} {rest : List Value} {kC nC : Nat} {hx h qp qs qj ly qh kk rd pg ss : Nat} {ac np kc pe : Nat} {kn : Int32} {mN : AM} {tT : Nat → Option SVal} {ec : Nat → Nat} {er : Nat → Nat} {ed : Nat → Nat → Int32} {eT : Nat → Nat → Option SVal} {eb : Nat → Nat → Int32} {en : Nat → Nat → Int32} {w_now : va_W} {w_judg : va_W} {w_rnds : va_W} {v0 : Int32} {v1 : Int32} {v2 : Int32}  (C : CX X room_1 cL_law 4 RL ret E) (hW : Nat.ble (rest.map fun v => v.category).sum 8 = true) (hT : wT = pre ++ ro) (hk : kC + 0 ≤ 600000 ∧ nC + 0 ≤ 7302250) (hac : ac ≤ 8) (hnp : np < 8) (hkc : kc ≤ 4) (hpe : pe ≤ 4) (H_now : ok_now E ro h mN w_now) (H_judg : ok_judg E ro qj tT ec er ed eT eb en w_judg) (H_rnds : ok_rnds E ro rd  w_rnds) (kont : ∀ (rr : Int32) (w_nowZ : va_W) (w_judgZ : va_W) (w_rndsZ : va_W), ok_now E ro h mN w_nowZ → ok_judg E ro qj tT ec er ed eT eb en w_judgZ → ok_rnds E ro rd  w_rndsZ → (TUR mN (ev6 ec er eT eb en ed) tT v0 v1 v2 rr) → WW X 4 E 1098 lv (.int rr :: rest) ([(hx, .inr (11, [.ref h, .ref qp, .int (nI ac), .int (nI np), .ref qs, .ref qj, .ref ly, .ref qh, .ref kk, .int (nI kc), .ref rd, .ref pg, .int (nI pe), .int kn, .ref ss]))] ++ (w_nowZ ++ (w_judgZ ++ (w_rndsZ ++ wT)))) kC nC) : WW X 4 E 1095 lv (.int v2 :: .int v1 :: .int v0 :: .ref hx :: rest) ([(hx, .inr (11, [.ref h, .ref qp, .int (nI ac), .int (nI np), .ref qs, .ref qj, .ref ly, .ref qh, .ref kk, .int (nI kc), .ref rd, .ref pg, .int (nI pe), .int kn, .ref ss]))] ++ (w_now ++ (w_judg ++ (w_rnds ++ wT)))) kC nC := by
  unfold ok_now at H_now
  refine ex6 H_now ?_
  clear H_now
  intro n r a b f gg H_now
  refine an4 H_now ?_
  clear H_now
  intro we_now hn hr hwfm H_now
  have hmN := H_now
  clear H_now
  subst we_now
  subst hmN
  unfold ok_judg at H_judg
  refine ex8 H_judg ?_
  clear H_judg
  intro jt je ju ja ft fe e0 e1 H_judg
  refine ex8 H_judg ?_
  clear H_judg
  intro e2 e3 fa la0 la1 e0cs e0rc e0a H_judg
  refine ex8 H_judg ?_
  clear H_judg
  intro e0b e0c e0d e0fi e0fb e0fc e0fd e1cs H_judg
  refine ex8 H_judg ?_
  clear H_judg
  intro e1rc e1a e1b e1c e1d e1fi e1fb e1fc H_judg
  refine ex8 H_judg ?_
  clear H_judg
  intro e1fd e2cs e2rc e2a e2b e2c e2d e2fi H_judg
  refine ex8 H_judg ?_
  clear H_judg
  intro e2fb e2fc e2fd e3cs e3rc e3a e3b e3c H_judg
  refine ex8 H_judg ?_
  clear H_judg
  intro e3d e3fi e3fb e3fc e3fd la0m la0p la0w H_judg
  refine ex8 H_judg ?_
  clear H_judg
  intro la0c la0f la0q la0fc la0ff la0fq la0n la0r H_judg
  refine ex8 H_judg ?_
  clear H_judg
  intro la0x la0y la0gx la0gy la1m la1p la1w la1c H_judg
  refine ex8 H_judg ?_
  clear H_judg
  intro la1f la1q la1fc la1ff la1fq la1n la1r la1x H_judg
  refine ex8 H_judg ?_
  clear H_judg
  intro la1y la1gx la1gy fto e0T e1T e2T e3T H_judg
  refine an8 H_judg ?_
  clear H_judg
  intro we_judg k_fe_0 k_fe_1 k_fe_2 k_fe_3 k_fa_0 k_fa_1 he0cs H_judg
  refine an8 H_judg ?_
  clear H_judg
  intro he0rc he0fi he1cs he1rc he1fi he2cs he2rc he2fi H_judg
  refine an8 H_judg ?_
  clear H_judg
  intro he3cs he3rc he3fi hla0n hla0r hla1n hla1r hto H_judg
  refine an5 H_judg ?_
  clear H_judg
  intro hec her hed heT heb H_judg
  have hen := H_judg
  clear H_judg
  subst we_judg
  subst hec
  subst her
  subst hed
  subst heT
  subst heb
  subst hen
  unfold ok_rnds at H_rnds
  refine ex8 H_rnds ?_
  clear H_rnds
  intro rt rf go0 sty0 knw0 frf rtn rtr H_rnds
  refine ex4 H_rnds ?_
  clear H_rnds
  intro rx ry rtf rtg H_rnds
  refine an2 H_rnds ?_
  clear H_rnds
  intro we_rnds hrtn H_rnds
  have hrtr := H_rnds
  clear H_rnds
  subst we_rnds
  refine ww_eq (ws' := [(hx, .inr (11, [.ref h, .ref qp, .int (nI ac), .int (nI np), .ref qs, .ref qj, .ref ly, .ref qh, .ref kk, .int (nI kc), .ref rd, .ref pg, .int (nI pe), .int kn, .ref ss])), (h, .inr (4, [.int (nI n), .int (nI r), .ref a, .ref b])), (a, .inl (E.2.1 1, 24, .inl f)), (b, .inl (E.2.1 1, 96, .inl gg)), (qj, .inr (2, [.ref jt, .ref je, .ref ju, .ref ja])), (ju, .inl (E.2.1 1, 32, .inl ft)), (je, .inl (E.2.1 4, 4, .inr (.inr (.inr (.inr fe))))), (ja, .inl (E.2.1 5, 2, .inr (.inr (.inr (.inr fa))))), (e0, .inr (0, [.int (nI e0cs), .int (nI e0rc), .ref e0a, .ref e0b, .ref e0c, .ref e0d])), (e0a, .inl (E.2.1 7, 4, .inr (.inr (.inr (.inr e0fi))))), (e0b, .inl (E.2.1 1, 4, .inl e0fb)), (e0c, .inl (E.2.1 1, 4, .inl e0fc)), (e0d, .inl (E.2.1 1, 16, .inl e0fd)), (e1, .inr (0, [.int (nI e1cs), .int (nI e1rc), .ref e1a, .ref e1b, .ref e1c, .ref e1d])), (e1a, .inl (E.2.1 7, 4, .inr (.inr (.inr (.inr e1fi))))), (e1b, .inl (E.2.1 1, 4, .inl e1fb)), (e1c, .inl (E.2.1 1, 4, .inl e1fc)), (e1d, .inl (E.2.1 1, 16, .inl e1fd)), (e2, .inr (0, [.int (nI e2cs), .int (nI e2rc), .ref e2a, .ref e2b, .ref e2c, .ref e2d])), (e2a, .inl (E.2.1 7, 4, .inr (.inr (.inr (.inr e2fi))))), (e2b, .inl (E.2.1 1, 4, .inl e2fb)), (e2c, .inl (E.2.1 1, 4, .inl e2fc)), (e2d, .inl (E.2.1 1, 16, .inl e2fd)), (e3, .inr (0, [.int (nI e3cs), .int (nI e3rc), .ref e3a, .ref e3b, .ref e3c, .ref e3d])), (e3a, .inl (E.2.1 7, 4, .inr (.inr (.inr (.inr e3fi))))), (e3b, .inl (E.2.1 1, 4, .inl e3fb)), (e3c, .inl (E.2.1 1, 4, .inl e3fc)), (e3d, .inl (E.2.1 1, 16, .inl e3fd)), (la0, .inr (3, [.ref la0m, .int la0p, .int la0w, .ref la0c, .ref la0f, .ref la0q])), (la0c, .inl (E.2.1 1, 24, .inl la0fc)), (la0f, .inl (E.2.1 1, 24, .inl la0ff)), (la0q, .inl (E.2.1 1, 4, .inl la0fq)), (la0m, .inr (4, [.int (nI la0n), .int (nI la0r), .ref la0x, .ref la0y])), (la0x, .inl (E.2.1 1, 24, .inl la0gx)), (la0y, .inl (E.2.1 1, 96, .inl la0gy)), (la1, .inr (3, [.ref la1m, .int la1p, .int la1w, .ref la1c, .ref la1f, .ref la1q])), (la1c, .inl (E.2.1 1, 24, .inl la1fc)), (la1f, .inl (E.2.1 1, 24, .inl la1ff)), (la1q, .inl (E.2.1 1, 4, .inl la1fq)), (la1m, .inr (4, [.int (nI la1n), .int (nI la1r), .ref la1x, .ref la1y])), (la1x, .inl (E.2.1 1, 24, .inl la1gx)), (la1y, .inl (E.2.1 1, 96, .inl la1gy)), (jt, .inl (E.2.1 7, 8, .inr (.inr (.inr (.inr fto))))), (rd, .inr (7, [.ref rt, .ref rf, .int go0, .int sty0, .int knw0])), (rf, .inl (E.2.1 1, 4, .inl frf)), (rt, .inr (4, [.int (nI rtn), .int (nI rtr), .ref rx, .ref ry])), (rx, .inl (E.2.1 1, 24, .inl rtf)), (ry, .inl (E.2.1 1, 96, .inl rtg))] ++ wT) ?_ rfl rfl rfl
  refine ww_ciT (k' := kC) (n' := nC) (wr := []) C (run_V (As := [.int v0, .int v1, .int v2]) (rest := rest) C (x_turns X.2.1 E ro hx v0 v1 v2 h qp ac np qs qj ly qh kk kc rd pg pe kn ss n r a b f gg jt je ju ja ft fe e0 e1 e2 e3 fa la0 la1 e0cs e0rc e0a e0b e0c e0d e0fi e0fb e0fc e0fd e1cs e1rc e1a e1b e1c e1d e1fi e1fb e1fc e1fd e2cs e2rc e2a e2b e2c e2d e2fi e2fb e2fc e2fd e3cs e3rc e3a e3b e3c e3d e3fi e3fb e3fc e3fd la0m la0p la0w la0c la0f la0q la0fc la0ff la0fq la0n la0r la0x la0y la0gx la0gy la1m la1p la1w la1c la1f la1q la1fc la1ff la1fq la1n la1r la1x la1y la1gx la1gy fto rt rf go0 sty0 knw0 frf rtn rtr rx ry rtf rtg e0T e1T e2T e3T tT k_fe_0 k_fe_1 k_fe_2 k_fe_3 k_fa_0 k_fa_1 (by first | assumption | omega) (by first | assumption | omega) (by first | assumption | omega) (by first | assumption | omega) (by first | assumption | omega) (by first | assumption | omega) (by first | assumption | omega) (by first | assumption | omega) (by first | assumption | omega) he0fi (by first | assumption | omega) (by first | assumption | omega) he1fi (by first | assumption | omega) (by first | assumption | omega) he2fi (by first | assumption | omega) (by first | assumption | omega) he3fi (by first | assumption | omega) (by first | assumption | omega) (by first | assumption | omega) (by first | assumption | omega) hto (by first | assumption | omega) (by first | assumption | omega)) mi_X11_turns wl_L_131 rfl 0 11 rfl rfl rfl rfl hW dL_law_1095) (roT (pre := pre) [0, 1, 2, 3, 4, 5, 6, 7, 8, 9, 10, 11, 12, 13, 14, 15, 16, 17, 18, 19, 20, 21, 22, 23, 24, 25, 26, 27, 28, 29, 30, 31, 32, 33, 34, 35, 36, 37, 38, 39, 40, 41, 42, 43, 44, 45, 46, 47] rfl hT) [0, 1, 2, 3, 4, 5, 6, 7, 8, 9, 10, 11, 12, 13, 14, 15, 16, 17, 18, 19, 20, 21, 22, 23, 24, 25, 26, 27, 28, 29, 30, 31, 32, 33, 34, 35, 36, 37, 38, 39, 40, 41, 42, 43, 44, 45, 46, 47] [] rfl rfl rfl ⟨by omega, by omega, hk.1, hk.2⟩ (fun rr u hw => ?_)
  refine ex8 hw ?_
  clear hw
  intro ft2_1 la0zp_2 la0zw_3 la0zn_4 la0zr_5 la0zfc_6 la0zff_7 la0zfq_8 hw
  refine ex8 hw ?_
  clear hw
  intro la0zgx_9 la0zgy_10 la1zp_11 la1zw_12 la1zn_13 la1zr_14 la1zfc_15 la1zff_16 hw
  refine ex8 hw ?_
  clear hw
  intro la1zfq_17 la1zgx_18 la1zgy_19 goz_20 stz_21 knz_22 rtnz_23 rtrz_24 hw
  refine ex3 hw ?_
  clear hw
  intro frfz_25 rtfz_26 rtgz_27 hw
  refine an7 hw ?_
  clear hw
  intro he_u h_28 h_29 h_30 h_31 h_32 h_33 hw
  have h_34 := hw
  clear hw
  subst he_u
  refine ww_subT (w1 := [(hx, .inr (11, [.ref h, .ref qp, .int (nI ac), .int (nI np), .ref qs, .ref qj, .ref ly, .ref qh, .ref kk, .int (nI kc), .ref rd, .ref pg, .int (nI pe), .int kn, .ref ss])), (h, .inr (4, [.int (nI n), .int (nI r), .ref a, .ref b])), (a, .inl (E.2.1 1, 24, .inl f)), (b, .inl (E.2.1 1, 96, .inl gg)), (qj, .inr (2, [.ref jt, .ref je, .ref ju, .ref ja])), (ju, .inl (E.2.1 1, 32, .inl ft2_1)), (je, .inl (E.2.1 4, 4, .inr (.inr (.inr (.inr fe))))), (ja, .inl (E.2.1 5, 2, .inr (.inr (.inr (.inr fa))))), (e0, .inr (0, [.int (nI e0cs), .int (nI e0rc), .ref e0a, .ref e0b, .ref e0c, .ref e0d])), (e0a, .inl (E.2.1 7, 4, .inr (.inr (.inr (.inr e0fi))))), (e0b, .inl (E.2.1 1, 4, .inl e0fb)), (e0c, .inl (E.2.1 1, 4, .inl e0fc)), (e0d, .inl (E.2.1 1, 16, .inl e0fd)), (e1, .inr (0, [.int (nI e1cs), .int (nI e1rc), .ref e1a, .ref e1b, .ref e1c, .ref e1d])), (e1a, .inl (E.2.1 7, 4, .inr (.inr (.inr (.inr e1fi))))), (e1b, .inl (E.2.1 1, 4, .inl e1fb)), (e1c, .inl (E.2.1 1, 4, .inl e1fc)), (e1d, .inl (E.2.1 1, 16, .inl e1fd)), (e2, .inr (0, [.int (nI e2cs), .int (nI e2rc), .ref e2a, .ref e2b, .ref e2c, .ref e2d])), (e2a, .inl (E.2.1 7, 4, .inr (.inr (.inr (.inr e2fi))))), (e2b, .inl (E.2.1 1, 4, .inl e2fb)), (e2c, .inl (E.2.1 1, 4, .inl e2fc)), (e2d, .inl (E.2.1 1, 16, .inl e2fd)), (e3, .inr (0, [.int (nI e3cs), .int (nI e3rc), .ref e3a, .ref e3b, .ref e3c, .ref e3d])), (e3a, .inl (E.2.1 7, 4, .inr (.inr (.inr (.inr e3fi))))), (e3b, .inl (E.2.1 1, 4, .inl e3fb)), (e3c, .inl (E.2.1 1, 4, .inl e3fc)), (e3d, .inl (E.2.1 1, 16, .inl e3fd)), (la0, .inr (3, [.ref la0m, .int la0zp_2, .int la0zw_3, .ref la0c, .ref la0f, .ref la0q])), (la0c, .inl (E.2.1 1, 24, .inl la0zfc_6)), (la0f, .inl (E.2.1 1, 24, .inl la0zff_7)), (la0q, .inl (E.2.1 1, 4, .inl la0zfq_8)), (la0m, .inr (4, [.int (nI la0zn_4), .int (nI la0zr_5), .ref la0x, .ref la0y])), (la0x, .inl (E.2.1 1, 24, .inl la0zgx_9)), (la0y, .inl (E.2.1 1, 96, .inl la0zgy_10)), (la1, .inr (3, [.ref la1m, .int la1zp_11, .int la1zw_12, .ref la1c, .ref la1f, .ref la1q])), (la1c, .inl (E.2.1 1, 24, .inl la1zfc_15)), (la1f, .inl (E.2.1 1, 24, .inl la1zff_16)), (la1q, .inl (E.2.1 1, 4, .inl la1zfq_17)), (la1m, .inr (4, [.int (nI la1zn_13), .int (nI la1zr_14), .ref la1x, .ref la1y])), (la1x, .inl (E.2.1 1, 24, .inl la1zgx_18)), (la1y, .inl (E.2.1 1, 96, .inl la1zgy_19)), (jt, .inl (E.2.1 7, 8, .inr (.inr (.inr (.inr fto))))), (rd, .inr (7, [.ref rt, .ref rf, .int goz_20, .int stz_21, .int knz_22])), (rf, .inl (E.2.1 1, 4, .inl frfz_25)), (rt, .inr (4, [.int (nI rtnz_23), .int (nI rtrz_24), .ref rx, .ref ry])), (rx, .inl (E.2.1 1, 24, .inl rtfz_26)), (ry, .inl (E.2.1 1, 96, .inl rtgz_27))]) [0, 1, 2, 3, 4, 5, 6, 7, 8, 9, 10, 11, 12, 13, 14, 15, 16, 17, 18, 19, 20, 21, 22, 23, 24, 25, 26, 27, 28, 29, 30, 31, 32, 33, 34, 35, 36, 37, 38, 39, 40, 41, 42, 43, 44, 45, 46, 47] rfl rfl ?_
  exact kont rr  [(h, .inr (4, [.int (nI n), .int (nI r), .ref a, .ref b])), (a, .inl (E.2.1 1, 24, .inl f)), (b, .inl (E.2.1 1, 96, .inl gg))] [(qj, .inr (2, [.ref jt, .ref je, .ref ju, .ref ja])), (ju, .inl (E.2.1 1, 32, .inl ft2_1)), (je, .inl (E.2.1 4, 4, .inr (.inr (.inr (.inr fe))))), (ja, .inl (E.2.1 5, 2, .inr (.inr (.inr (.inr fa))))), (e0, .inr (0, [.int (nI e0cs), .int (nI e0rc), .ref e0a, .ref e0b, .ref e0c, .ref e0d])), (e0a, .inl (E.2.1 7, 4, .inr (.inr (.inr (.inr e0fi))))), (e0b, .inl (E.2.1 1, 4, .inl e0fb)), (e0c, .inl (E.2.1 1, 4, .inl e0fc)), (e0d, .inl (E.2.1 1, 16, .inl e0fd)), (e1, .inr (0, [.int (nI e1cs), .int (nI e1rc), .ref e1a, .ref e1b, .ref e1c, .ref e1d])), (e1a, .inl (E.2.1 7, 4, .inr (.inr (.inr (.inr e1fi))))), (e1b, .inl (E.2.1 1, 4, .inl e1fb)), (e1c, .inl (E.2.1 1, 4, .inl e1fc)), (e1d, .inl (E.2.1 1, 16, .inl e1fd)), (e2, .inr (0, [.int (nI e2cs), .int (nI e2rc), .ref e2a, .ref e2b, .ref e2c, .ref e2d])), (e2a, .inl (E.2.1 7, 4, .inr (.inr (.inr (.inr e2fi))))), (e2b, .inl (E.2.1 1, 4, .inl e2fb)), (e2c, .inl (E.2.1 1, 4, .inl e2fc)), (e2d, .inl (E.2.1 1, 16, .inl e2fd)), (e3, .inr (0, [.int (nI e3cs), .int (nI e3rc), .ref e3a, .ref e3b, .ref e3c, .ref e3d])), (e3a, .inl (E.2.1 7, 4, .inr (.inr (.inr (.inr e3fi))))), (e3b, .inl (E.2.1 1, 4, .inl e3fb)), (e3c, .inl (E.2.1 1, 4, .inl e3fc)), (e3d, .inl (E.2.1 1, 16, .inl e3fd)), (la0, .inr (3, [.ref la0m, .int la0zp_2, .int la0zw_3, .ref la0c, .ref la0f, .ref la0q])), (la0c, .inl (E.2.1 1, 24, .inl la0zfc_6)), (la0f, .inl (E.2.1 1, 24, .inl la0zff_7)), (la0q, .inl (E.2.1 1, 4, .inl la0zfq_8)), (la0m, .inr (4, [.int (nI la0zn_4), .int (nI la0zr_5), .ref la0x, .ref la0y])), (la0x, .inl (E.2.1 1, 24, .inl la0zgx_9)), (la0y, .inl (E.2.1 1, 96, .inl la0zgy_10)), (la1, .inr (3, [.ref la1m, .int la1zp_11, .int la1zw_12, .ref la1c, .ref la1f, .ref la1q])), (la1c, .inl (E.2.1 1, 24, .inl la1zfc_15)), (la1f, .inl (E.2.1 1, 24, .inl la1zff_16)), (la1q, .inl (E.2.1 1, 4, .inl la1zfq_17)), (la1m, .inr (4, [.int (nI la1zn_13), .int (nI la1zr_14), .ref la1x, .ref la1y])), (la1x, .inl (E.2.1 1, 24, .inl la1zgx_18)), (la1y, .inl (E.2.1 1, 96, .inl la1zgy_19)), (jt, .inl (E.2.1 7, 8, .inr (.inr (.inr (.inr fto)))))] [(rd, .inr (7, [.ref rt, .ref rf, .int goz_20, .int stz_21, .int knz_22])), (rf, .inl (E.2.1 1, 4, .inl frfz_25)), (rt, .inr (4, [.int (nI rtnz_23), .int (nI rtrz_24), .ref rx, .ref ry])), (rx, .inl (E.2.1 1, 24, .inl rtfz_26)), (ry, .inl (E.2.1 1, 96, .inl rtgz_27))]  ⟨n, r, a, b, f, gg, rfl, (by first | assumption | omega), (by first | assumption | omega), (by first | assumption | omega), rfl⟩ ⟨jt, je, ju, ja, ft2_1, fe, e0, e1, e2, e3, fa, la0, la1, e0cs, e0rc, e0a, e0b, e0c, e0d, e0fi, e0fb, e0fc, e0fd, e1cs, e1rc, e1a, e1b, e1c, e1d, e1fi, e1fb, e1fc, e1fd, e2cs, e2rc, e2a, e2b, e2c, e2d, e2fi, e2fb, e2fc, e2fd, e3cs, e3rc, e3a, e3b, e3c, e3d, e3fi, e3fb, e3fc, e3fd, la0m, la0zp_2, la0zw_3, la0c, la0f, la0q, la0zfc_6, la0zff_7, la0zfq_8, la0zn_4, la0zr_5, la0x, la0y, la0zgx_9, la0zgy_10, la1m, la1zp_11, la1zw_12, la1c, la1f, la1q, la1zfc_15, la1zff_16, la1zfq_17, la1zn_13, la1zr_14, la1x, la1y, la1zgx_18, la1zgy_19, fto, e0T, e1T, e2T, e3T, rfl, k_fe_0, k_fe_1, k_fe_2, k_fe_3, k_fa_0, k_fa_1, (by first | assumption | omega), (by first | assumption | omega), he0fi, (by first | assumption | omega), (by first | assumption | omega), he1fi, (by first | assumption | omega), (by first | assumption | omega), he2fi, (by first | assumption | omega), (by first | assumption | omega), he3fi, (by first | assumption | omega), (by first | assumption | omega), (by first | assumption | omega), (by first | assumption | omega), hto, rfl, rfl, rfl, rfl, rfl, rfl⟩ ⟨rt, rf, goz_20, stz_21, knz_22, frfz_25, rtnz_23, rtrz_24, rx, ry, rtfz_26, rtgz_27, rfl, (by first | assumption | omega), (by first | assumption | omega)⟩ (h_34)
