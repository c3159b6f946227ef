section
theorem p4a {a b c d B : Nat} (h0 : a ≤ B) (h1 : b ≤ B) (h2 : c ≤ B) (h3 : d ≤ B) : ∀ i, i < 4 → pick4 a b c d i ≤ B := by
  intro i hi
  rcases (show i = 0 ∨ i = 1 ∨ i = 2 ∨ i = 3 by omega) with rfl | rfl | rfl | rfl
  · exact h0
  · exact h1
  · exact h2
  · exact h3
theorem p4b {z o : Nat → Nat} {k v B : Nat} (h : ∀ i, i < 4 → z i = if i = k then v else o i) (hv : v ≤ B) (ho : ∀ i, i < 4 → o i ≤ B) : ∀ i, i < 4 → z i ≤ B := by
  intro i hi
  rw [h i hi]
  split
  · exact hv
  · exact ho i hi
theorem wc_X11_plan : Cond.code yX11_plan cX11_plan 6 (some .int) ∈ TB := tbm (tq4 (List.mem_of_getElem? (i := 221) (rfl))) (by decide +kernel)
theorem wi_X11_plan : Cond.instanceMethod yX11_plan ∈ TB := tbm (tq4 (List.mem_of_getElem? (i := 219) (by decide +kernel))) (by decide +kernel)
theorem ws_X11_plan : Cond.selects RX11 yX11_plan yX11_plan ∈ TB := tbm (tq4 (List.mem_of_getElem? (i := 220) (by decide +kernel))) (by decide +kernel)
theorem mi_X11_plan : MI yX11_plan cX11_plan 6 (some .int) 4 := ⟨wc_X11_plan, wn_X11, ⟨by decide +kernel, by decide +kernel, by decide +kernel⟩, wi_X11_plan, ws_X11_plan⟩
theorem wl_L_136 : Cond.methodLink RL 136 yX11_plan ∈ TB := tbm (tq4 (List.mem_of_getElem? (i := 218) (by decide +kernel))) (by decide +kernel)
theorem dL_law_1143 : decode cL_law 1143 = .ok (.invokevirtual 136, 3) := dl_182 (by decide +kernel)
set_option maxRecDepth 100000 in
set_option maxHeartbeats 4000000 in
theorem lx_plan {X : XT} {E : EV} {ro wT pre : va_W} {lv : List (Nat × Value)} {rest : List Value} {kC nC : Nat} {hx h qp qs qj ly qh kk rd pg ss : Nat} {ac np kc pe : Nat} {kn : Int32} {mN : AM} {tT : Nat → Option SVal} {ec : Nat → Nat} {er : Nat → Nat} {ed : Nat → Nat → Int32} {eT : Nat → Nat → Option SVal} {eb : Nat → Nat → Int32} {en : Nat → Nat → Int32} {w_now : va_W} {w_judg : va_W} {w_plnr : va_W} {v0 : Int32} {v1 : Int32} {v2 : Int32} {v3 : Int32}  (C : CX X room_1 cL_law 4 RL ret E) (hW : Nat.ble (rest.map fun v => v.category).sum 8 = true) (hT : wT = pre ++ ro) (hk : kC + 0 ≤ 600000 ∧ nC + 0 ≤ 7302250) (hac : ac ≤ 8) (hnp : np < 8) (hkc : kc ≤ 4) (hpe : pe ≤ 4) (H_now : ok_now E ro h mN w_now) (H_judg : ok_judg E ro qj tT ec er ed eT eb en w_judg) (H_plnr : ok_plnr E ro pg  w_plnr) (kont : ∀ (rr : Int32) (w_nowZ : va_W) (w_judgZ : va_W) (w_plnrZ : va_W), ok_now E ro h mN w_nowZ → ok_judg E ro qj tT ec er ed eT eb en w_judgZ → ok_plnr E ro pg  w_plnrZ → (PLA mN (ev6 ec er eT eb en ed) tT v0 v1 v2 v3 rr) → WW X 4 E 1146 lv (.int rr :: rest) ([(hx, .inr (11, [.ref h, .ref qp, .int (nI ac), .int (nI np), .ref qs, .ref qj, .ref ly, .ref qh, .ref kk, .int (nI kc), .ref rd, .ref pg, .int (nI pe), .int kn, .ref ss]))] ++ (w_nowZ ++ (w_judgZ ++ (w_plnrZ ++ wT)))) kC nC) : WW X 4 E 1143 lv (.int v3 :: .int v2 :: .int v1 :: .int v0 :: .ref hx :: rest) ([(hx, .inr (11, [.ref h, .ref qp, .int (nI ac), .int (nI np), .ref qs, .ref qj, .ref ly, .ref qh, .ref kk, .int (nI kc), .ref rd, .ref pg, .int (nI pe), .int kn, .ref ss]))] ++ (w_now ++ (w_judg ++ (w_plnr ++ wT)))) kC nC := by
  unfold ok_now at H_now
  refine ex6 H_now ?_
  clear H_now
  intro n r a b f gg H_now
  refine an4 H_now ?_
  clear H_now
  intro we_now hn hr hwfm H_now
  have hmN := H_now
  clear H_now
  subst we_now
  subst hmN
  unfold ok_judg at H_judg
  refine ex8 H_judg ?_
  clear H_judg
  intro jt je ju ja ft fe e0 e1 H_judg
  refine ex8 H_judg ?_
  clear H_judg
  intro e2 e3 fa la0 la1 e0cs e0rc e0a H_judg
  refine ex8 H_judg ?_
  clear H_judg
  intro e0b e0c e0d e0fi e0fb e0fc e0fd e1cs H_judg
  refine ex8 H_judg ?_
  clear H_judg
  intro e1rc e1a e1b e1c e1d e1fi e1fb e1fc H_judg
  refine ex8 H_judg ?_
  clear H_judg
  intro e1fd e2cs e2rc e2a e2b e2c e2d e2fi H_judg
  refine ex8 H_judg ?_
  clear H_judg
  intro e2fb e2fc e2fd e3cs e3rc e3a e3b e3c H_judg
  refine ex8 H_judg ?_
  clear H_judg
  intro e3d e3fi e3fb e3fc e3fd la0m la0p la0w H_judg
  refine ex8 H_judg ?_
  clear H_judg
  intro la0c la0f la0q la0fc la0ff la0fq la0n la0r H_judg
  refine ex8 H_judg ?_
  clear H_judg
  intro la0x la0y la0gx la0gy la1m la1p la1w la1c H_judg
  refine ex8 H_judg ?_
  clear H_judg
  intro la1f la1q la1fc la1ff la1fq la1n la1r la1x H_judg
  refine ex8 H_judg ?_
  clear H_judg
  intro la1y la1gx la1gy fto e0T e1T e2T e3T H_judg
  refine an8 H_judg ?_
  clear H_judg
  intro we_judg k_fe_0 k_fe_1 k_fe_2 k_fe_3 k_fa_0 k_fa_1 he0cs H_judg
  refine an8 H_judg ?_
  clear H_judg
  intro he0rc he0fi he1cs he1rc he1fi he2cs he2rc he2fi H_judg
  refine an8 H_judg ?_
  clear H_judg
  intro he3cs he3rc he3fi hla0n hla0r hla1n hla1r hto H_judg
  refine an5 H_judg ?_
  clear H_judg
  intro hec her hed heT heb H_judg
  have hen := H_judg
  clear H_judg
  subst we_judg
  subst hec
  subst her
  subst hed
  subst heT
  subst heb
  subst hen
  unfold ok_plnr at H_plnr
  refine ex8 H_plnr ?_
  clear H_plnr
  intro ps am0 hd0 plen prow fps st0 st1 H_plnr
  refine ex8 H_plnr ?_
  clear H_plnr
  intro st2 st0m st0p st0w st0c st0f st0q st0fc H_plnr
  refine ex8 H_plnr ?_
  clear H_plnr
  intro st0ff st0fq st0n st0r st0x st0y st0gx st0gy H_plnr
  refine ex8 H_plnr ?_
  clear H_plnr
  intro st1m st1p st1w st1c st1f st1q st1fc st1ff H_plnr
  refine ex8 H_plnr ?_
  clear H_plnr
  intro st1fq st1n st1r st1x st1y st1gx st1gy st2m H_plnr
  refine ex8 H_plnr ?_
  clear H_plnr
  intro st2p st2w st2c st2f st2q st2fc st2ff st2fq H_plnr
  refine ex6 H_plnr ?_
  clear H_plnr
  intro st2n st2r st2x st2y st2gx st2gy H_plnr
  refine an8 H_plnr ?_
  clear H_plnr
  intro we_plnr k_fps_0 k_fps_1 k_fps_2 hst0n hst0r hst1n hst1r H_plnr
  refine an1 H_plnr ?_
  clear H_plnr
  intro hst2n H_plnr
  have hst2r := H_plnr
  clear H_plnr
  subst we_plnr
  refine ww_eq (ws' := [(hx, .inr (11, [.ref h, .ref qp, .int (nI ac), .int (nI np), .ref qs, .ref qj, .ref ly, .ref qh, .ref kk, .int (nI kc), .ref rd, .ref pg, .int (nI pe), .int kn, .ref ss])), (h, .inr (4, [.int (nI n), .int (nI r), .ref a, .ref b])), (a, .inl (E.2.1 1, 24, .inl f)), (b, .inl (E.2.1 1, 96, .inl gg)), (qj, .inr (2, [.ref jt, .ref je, .ref ju, .ref ja])), (ju, .inl (E.2.1 1, 32, .inl ft)), (je, .inl (E.2.1 4, 4, .inr (.inr (.inr (.inr fe))))), (ja, .inl (E.2.1 5, 2, .inr (.inr (.inr (.inr fa))))), (e0, .inr (0, [.int (nI e0cs), .int (nI e0rc), .ref e0a, .ref e0b, .ref e0c, .ref e0d])), (e0a, .inl (E.2.1 7, 4, .inr (.inr (.inr (.inr e0fi))))), (e0b, .inl (E.2.1 1, 4, .inl e0fb)), (e0c, .inl (E.2.1 1, 4, .inl e0fc)), (e0d, .inl (E.2.1 1, 16, .inl e0fd)), (e1, .inr (0, [.int (nI e1cs), .int (nI e1rc), .ref e1a, .ref e1b, .ref e1c, .ref e1d])), (e1a, .inl (E.2.1 7, 4, .inr (.inr (.inr (.inr e1fi))))), (e1b, .inl (E.2.1 1, 4, .inl e1fb)), (e1c, .inl (E.2.1 1, 4, .inl e1fc)), (e1d, .inl (E.2.1 1, 16, .inl e1fd)), (e2, .inr (0, [.int (nI e2cs), .int (nI e2rc), .ref e2a, .ref e2b, .ref e2c, .ref e2d])), (e2a, .inl (E.2.1 7, 4, .inr (.inr (.inr (.inr e2fi))))), (e2b, .inl (E.2.1 1, 4, .inl e2fb)), (e2c, .inl (E.2.1 1, 4, .inl e2fc)), (e2d, .inl (E.2.1 1, 16, .inl e2fd)), (e3, .inr (0, [.int (nI e3cs), .int (nI e3rc), .ref e3a, .ref e3b, .ref e3c, .ref e3d])), (e3a, .inl (E.2.1 7, 4, .inr (.inr (.inr (.inr e3fi))))), (e3b, .inl (E.2.1 1, 4, .inl e3fb)), (e3c, .inl (E.2.1 1, 4, .inl e3fc)), (e3d, .inl (E.2.1 1, 16, .inl e3fd)), (la0, .inr (3, [.ref la0m, .int la0p, .int la0w, .ref la0c, .ref la0f, .ref la0q])), (la0c, .inl (E.2.1 1, 24, .inl la0fc)), (la0f, .inl (E.2.1 1, 24, .inl la0ff)), (la0q, .inl (E.2.1 1, 4, .inl la0fq)), (la0m, .inr (4, [.int (nI la0n), .int (nI la0r), .ref la0x, .ref la0y])), (la0x, .inl (E.2.1 1, 24, .inl la0gx)), (la0y, .inl (E.2.1 1, 96, .inl la0gy)), (la1, .inr (3, [.ref la1m, .int la1p, .int la1w, .ref la1c, .ref la1f, .ref la1q])), (la1c, .inl (E.2.1 1, 24, .inl la1fc)), (la1f, .inl (E.2.1 1, 24, .inl la1ff)), (la1q, .inl (E.2.1 1, 4, .inl la1fq)), (la1m, .inr (4, [.int (nI la1n), .int (nI la1r), .ref la1x, .ref la1y])), (la1x, .inl (E.2.1 1, 24, .inl la1gx)), (la1y, .inl (E.2.1 1, 96, .inl la1gy)), (jt, .inl (E.2.1 7, 8, .inr (.inr (.inr (.inr fto))))), (pg, .inr (6, [.ref ps, am0, hd0, .int plen, .int prow])), (ps, .inl (E.2.1 5, 3, .inr (.inr (.inr (.inr fps))))), (st0, .inr (3, [.ref st0m, .int st0p, .int st0w, .ref st0c, .ref st0f, .ref st0q])), (st0c, .inl (E.2.1 1, 24, .inl st0fc)), (st0f, .inl (E.2.1 1, 24, .inl st0ff)), (st0q, .inl (E.2.1 1, 4, .inl st0fq)), (st0m, .inr (4, [.int (nI st0n), .int (nI st0r), .ref st0x, .ref st0y])), (st0x, .inl (E.2.1 1, 24, .inl st0gx)), (st0y, .inl (E.2.1 1, 96, .inl st0gy)), (st1, .inr (3, [.ref st1m, .int st1p, .int st1w, .ref st1c, .ref st1f, .ref st1q])), (st1c, .inl (E.2.1 1, 24, .inl st1fc)), (st1f, .inl (E.2.1 1, 24, .inl st1ff)), (st1q, .inl (E.2.1 1, 4, .inl st1fq)), (st1m, .inr (4, [.int (nI st1n), .int (nI st1r), .ref st1x, .ref st1y])), (st1x, .inl (E.2.1 1, 24, .inl st1gx)), (st1y, .inl (E.2.1 1, 96, .inl st1gy)), (st2, .inr (3, [.ref st2m, .int st2p, .int st2w, .ref st2c, .ref st2f, .ref st2q])), (st2c, .inl (E.2.1 1, 24, .inl st2fc)), (st2f, .inl (E.2.1 1, 24, .inl st2ff)), (st2q, .inl (E.2.1 1, 4, .inl st2fq)), (st2m, .inr (4, [.int (nI st2n), .int (nI st2r), .ref st2x, .ref st2y])), (st2x, .inl (E.2.1 1, 24, .inl st2gx)), (st2y, .inl (E.2.1 1, 96, .inl st2gy))] ++ wT) ?_ rfl rfl rfl
  refine ww_ciT (k' := kC) (n' := nC) (wr := []) C (run_V (As := [.int v0, .int v1, .int v2, .int v3]) (rest := rest) C (x_plan X.2.1 E ro hx v0 v1 v2 v3 h qp ac np qs qj ly qh kk kc rd pg pe kn ss n r a b f gg jt je ju ja ft fe e0 e1 e2 e3 fa la0 la1 e0cs e0rc e0a e0b e0c e0d e0fi e0fb e0fc e0fd e1cs e1rc e1a e1b e1c e1d e1fi e1fb e1fc e1fd e2cs e2rc e2a e2b e2c e2d e2fi e2fb e2fc e2fd e3cs e3rc e3a e3b e3c e3d e3fi e3fb e3fc e3fd la0m la0p la0w la0c la0f la0q la0fc la0ff la0fq la0n la0r la0x la0y la0gx la0gy la1m la1p la1w la1c la1f la1q la1fc la1ff la1fq la1n la1r la1x la1y la1gx la1gy fto ps am0 hd0 plen prow fps st0 st1 st2 st0m st0p st0w st0c st0f st0q st0fc st0ff st0fq st0n st0r st0x st0y st0gx st0gy st1m st1p st1w st1c st1f st1q st1fc st1ff st1fq st1n st1r st1x st1y st1gx st1gy st2m st2p st2w st2c st2f st2q st2fc st2ff st2fq st2n st2r st2x st2y st2gx st2gy e0T e1T e2T e3T tT k_fe_0 k_fe_1 k_fe_2 k_fe_3 k_fa_0 k_fa_1 k_fps_0 k_fps_1 k_fps_2 (by first | assumption | omega) (by first | assumption | omega) (by first | assumption | omega) (by first | assumption | omega) (by first | assumption | omega) (by first | assumption | omega) (by first | assumption | omega) (by first | assumption | omega) (by first | assumption | omega) he0fi (by first | assumption | omega) (by first | assumption | omega) he1fi (by first | assumption | omega) (by first | assumption | omega) he2fi (by first | assumption | omega) (by first | assumption | omega) he3fi (by first | assumption | omega) (by first | assumption | omega) (by first | assumption | omega) (by first | assumption | omega) hto (by first | assumption | omega) (by first | assumption | omega) (by first | assumption | omega) (by first | assumption | omega) (by first | assumption | omega) (by first | assumption | omega)) mi_X11_plan wl_L_136 rfl 0 11 rfl rfl rfl rfl hW dL_law_1143) (roT (pre := pre) [0, 1, 2, 3, 4, 5, 6, 7, 8, 9, 10, 11, 12, 13, 14, 15, 16, 17, 18, 19, 20, 21, 22, 23, 24, 25, 26, 27, 28, 29, 30, 31, 32, 33, 34, 35, 36, 37, 38, 39, 40, 41, 42, 43, 44, 45, 46, 47, 48, 49, 50, 51, 52, 53, 54, 55, 56, 57, 58, 59, 60, 61, 62, 63, 64, 65] rfl hT) [0, 1, 2, 3, 4, 5, 6, 7, 8, 9, 10, 11, 12, 13, 14, 15, 16, 17, 18, 19, 20, 21, 22, 23, 24, 25, 26, 27, 28, 29, 30, 31, 32, 33, 34, 35, 36, 37, 38, 39, 40, 41, 42, 43, 44, 45, 46, 47, 48, 49, 50, 51, 52, 53, 54, 55, 56, 57, 58, 59, 60, 61, 62, 63, 64, 65] [] (gqk (by eq_refl)) rfl (plk (by decide +kernel)) ⟨by omega, by omega, hk.1, hk.2⟩ (fun rr u hw => ?_)
  refine ex8 hw ?_
  clear hw
  intro ft2_1 la0zp_2 la0zw_3 la0zn_4 la0zr_5 la0zfc_6 la0zff_7 la0zfq_8 hw
  refine ex8 hw ?_
  clear hw
  intro la0zgx_9 la0zgy_10 la1zp_11 la1zw_12 la1zn_13 la1zr_14 la1zfc_15 la1zff_16 hw
  refine ex8 hw ?_
  clear hw
  intro la1zfq_17 la1zgx_18 la1zgy_19 amz_20 hdz_21 plenz_22 prowz_23 st0zp_24 hw
  refine ex8 hw ?_
  clear hw
  intro st0zw_25 st0zn_26 st0zr_27 st0zfc_28 st0zff_29 st0zfq_30 st0zgx_31 st0zgy_32 hw
  refine ex8 hw ?_
  clear hw
  intro st1zp_33 st1zw_34 st1zn_35 st1zr_36 st1zfc_37 st1zff_38 st1zfq_39 st1zgx_40 hw
  refine ex8 hw ?_
  clear hw
  intro st1zgy_41 st2zp_42 st2zw_43 st2zn_44 st2zr_45 st2zfc_46 st2zff_47 st2zfq_48 hw
  refine ex2 hw ?_
  clear hw
  intro st2zgx_49 st2zgy_50 hw
  refine an8 hw ?_
  clear hw
  intro he_u h_51 h_52 h_53 h_54 h_55 h_56 h_57 hw
  refine an3 hw ?_
  clear hw
  intro h_58 h_59 h_60 hw
  have h_61 := hw
  clear hw
  subst he_u
  refine ww_subT (w1 := [(hx, .inr (11, [.ref h, .ref qp, .int (nI ac), .int (nI np), .ref qs, .ref qj, .ref ly, .ref qh, .ref kk, .int (nI kc), .ref rd, .ref pg, .int (nI pe), .int kn, .ref ss])), (h, .inr (4, [.int (nI n), .int (nI r), .ref a, .ref b])), (a, .inl (E.2.1 1, 24, .inl f)), (b, .inl (E.2.1 1, 96, .inl gg)), (qj, .inr (2, [.ref jt, .ref je, .ref ju, .ref ja])), (ju, .inl (E.2.1 1, 32, .inl ft2_1)), (je, .inl (E.2.1 4, 4, .inr (.inr (.inr (.inr fe))))), (ja, .inl (E.2.1 5, 2, .inr (.inr (.inr (.inr fa))))), (e0, .inr (0, [.int (nI e0cs), .int (nI e0rc), .ref e0a, .ref e0b, .ref e0c, .ref e0d])), (e0a, .inl (E.2.1 7, 4, .inr (.inr (.inr (.inr e0fi))))), (e0b, .inl (E.2.1 1, 4, .inl e0fb)), (e0c, .inl (E.2.1 1, 4, .inl e0fc)), (e0d, .inl (E.2.1 1, 16, .inl e0fd)), (e1, .inr (0, [.int (nI e1cs), .int (nI e1rc), .ref e1a, .ref e1b, .ref e1c, .ref e1d])), (e1a, .inl (E.2.1 7, 4, .inr (.inr (.inr (.inr e1fi))))), (e1b, .inl (E.2.1 1, 4, .inl e1fb)), (e1c, .inl (E.2.1 1, 4, .inl e1fc)), (e1d, .inl (E.2.1 1, 16, .inl e1fd)), (e2, .inr (0, [.int (nI e2cs), .int (nI e2rc), .ref e2a, .ref e2b, .ref e2c, .ref e2d])), (e2a, .inl (E.2.1 7, 4, .inr (.inr (.inr (.inr e2fi))))), (e2b, .inl (E.2.1 1, 4, .inl e2fb)), (e2c, .inl (E.2.1 1, 4, .inl e2fc)), (e2d, .inl (E.2.1 1, 16, .inl e2fd)), (e3, .inr (0, [.int (nI e3cs), .int (nI e3rc), .ref e3a, .ref e3b, .ref e3c, .ref e3d])), (e3a, .inl (E.2.1 7, 4, .inr (.inr (.inr (.inr e3fi))))), (e3b, .inl (E.2.1 1, 4, .inl e3fb)), (e3c, .inl (E.2.1 1, 4, .inl e3fc)), (e3d, .inl (E.2.1 1, 16, .inl e3fd)), (la0, .inr (3, [.ref la0m, .int la0zp_2, .int la0zw_3, .ref la0c, .ref la0f, .ref la0q])), (la0c, .inl (E.2.1 1, 24, .inl la0zfc_6)), (la0f, .inl (E.2.1 1, 24, .inl la0zff_7)), (la0q, .inl (E.2.1 1, 4, .inl la0zfq_8)), (la0m, .inr (4, [.int (nI la0zn_4), .int (nI la0zr_5), .ref la0x, .ref la0y])), (la0x, .inl (E.2.1 1, 24, .inl la0zgx_9)), (la0y, .inl (E.2.1 1, 96, .inl la0zgy_10)), (la1, .inr (3, [.ref la1m, .int la1zp_11, .int la1zw_12, .ref la1c, .ref la1f, .ref la1q])), (la1c, .inl (E.2.1 1, 24, .inl la1zfc_15)), (la1f, .inl (E.2.1 1, 24, .inl la1zff_16)), (la1q, .inl (E.2.1 1, 4, .inl la1zfq_17)), (la1m, .inr (4, [.int (nI la1zn_13), .int (nI la1zr_14), .ref la1x, .ref la1y])), (la1x, .inl (E.2.1 1, 24, .inl la1zgx_18)), (la1y, .inl (E.2.1 1, 96, .inl la1zgy_19)), (jt, .inl (E.2.1 7, 8, .inr (.inr (.inr (.inr fto))))), (pg, .inr (6, [.ref ps, amz_20, hdz_21, .int plenz_22, .int prowz_23])), (ps, .inl (E.2.1 5, 3, .inr (.inr (.inr (.inr fps))))), (st0, .inr (3, [.ref st0m, .int st0zp_24, .int st0zw_25, .ref st0c, .ref st0f, .ref st0q])), (st0c, .inl (E.2.1 1, 24, .inl st0zfc_28)), (st0f, .inl (E.2.1 1, 24, .inl st0zff_29)), (st0q, .inl (E.2.1 1, 4, .inl st0zfq_30)), (st0m, .inr (4, [.int (nI st0zn_26), .int (nI st0zr_27), .ref st0x, .ref st0y])), (st0x, .inl (E.2.1 1, 24, .inl st0zgx_31)), (st0y, .inl (E.2.1 1, 96, .inl st0zgy_32)), (st1, .inr (3, [.ref st1m, .int st1zp_33, .int st1zw_34, .ref st1c, .ref st1f, .ref st1q])), (st1c, .inl (E.2.1 1, 24, .inl st1zfc_37)), (st1f, .inl (E.2.1 1, 24, .inl st1zff_38)), (st1q, .inl (E.2.1 1, 4, .inl st1zfq_39)), (st1m, .inr (4, [.int (nI st1zn_35), .int (nI st1zr_36), .ref st1x, .ref st1y])), (st1x, .inl (E.2.1 1, 24, .inl st1zgx_40)), (st1y, .inl (E.2.1 1, 96, .inl st1zgy_41)), (st2, .inr (3, [.ref st2m, .int st2zp_42, .int st2zw_43, .ref st2c, .ref st2f, .ref st2q])), (st2c, .inl (E.2.1 1, 24, .inl st2zfc_46)), (st2f, .inl (E.2.1 1, 24, .inl st2zff_47)), (st2q, .inl (E.2.1 1, 4, .inl st2zfq_48)), (st2m, .inr (4, [.int (nI st2zn_44), .int (nI st2zr_45), .ref st2x, .ref st2y])), (st2x, .inl (E.2.1 1, 24, .inl st2zgx_49)), (st2y, .inl (E.2.1 1, 96, .inl st2zgy_50))]) [0, 1, 2, 3, 4, 5, 6, 7, 8, 9, 10, 11, 12, 13, 14, 15, 16, 17, 18, 19, 20, 21, 22, 23, 24, 25, 26, 27, 28, 29, 30, 31, 32, 33, 34, 35, 36, 37, 38, 39, 40, 41, 42, 43, 44, 45, 46, 47, 48, 49, 50, 51, 52, 53, 54, 55, 56, 57, 58, 59, 60, 61, 62, 63, 64, 65] (ndk (by decide +kernel)) (gqk (by eq_refl)) ?_
  exact kont rr  [(h, .inr (4, [.int (nI n), .int (nI r), .ref a, .ref b])), (a, .inl (E.2.1 1, 24, .inl f)), (b, .inl (E.2.1 1, 96, .inl gg))] [(qj, .inr (2, [.ref jt, .ref je, .ref ju, .ref ja])), (ju, .inl (E.2.1 1, 32, .inl ft2_1)), (je, .inl (E.2.1 4, 4, .inr (.inr (.inr (.inr fe))))), (ja, .inl (E.2.1 5, 2, .inr (.inr (.inr (.inr fa))))), (e0, .inr (0, [.int (nI e0cs), .int (nI e0rc), .ref e0a, .ref e0b, .ref e0c, .ref e0d])), (e0a, .inl (E.2.1 7, 4, .inr (.inr (.inr (.inr e0fi))))), (e0b, .inl (E.2.1 1, 4, .inl e0fb)), (e0c, .inl (E.2.1 1, 4, .inl e0fc)), (e0d, .inl (E.2.1 1, 16, .inl e0fd)), (e1, .inr (0, [.int (nI e1cs), .int (nI e1rc), .ref e1a, .ref e1b, .ref e1c, .ref e1d])), (e1a, .inl (E.2.1 7, 4, .inr (.inr (.inr (.inr e1fi))))), (e1b, .inl (E.2.1 1, 4, .inl e1fb)), (e1c, .inl (E.2.1 1, 4, .inl e1fc)), (e1d, .inl (E.2.1 1, 16, .inl e1fd)), (e2, .inr (0, [.int (nI e2cs), .int (nI e2rc), .ref e2a, .ref e2b, .ref e2c, .ref e2d])), (e2a, .inl (E.2.1 7, 4, .inr (.inr (.inr (.inr e2fi))))), (e2b, .inl (E.2.1 1, 4, .inl e2fb)), (e2c, .inl (E.2.1 1, 4, .inl e2fc)), (e2d, .inl (E.2.1 1, 16, .inl e2fd)), (e3, .inr (0, [.int (nI e3cs), .int (nI e3rc), .ref e3a, .ref e3b, .ref e3c, .ref e3d])), (e3a, .inl (E.2.1 7, 4, .inr (.inr (.inr (.inr e3fi))))), (e3b, .inl (E.2.1 1, 4, .inl e3fb)), (e3c, .inl (E.2.1 1, 4, .inl e3fc)), (e3d, .inl (E.2.1 1, 16, .inl e3fd)), (la0, .inr (3, [.ref la0m, .int la0zp_2, .int la0zw_3, .ref la0c, .ref la0f, .ref la0q])), (la0c, .inl (E.2.1 1, 24, .inl la0zfc_6)), (la0f, .inl (E.2.1 1, 24, .inl la0zff_7)), (la0q, .inl (E.2.1 1, 4, .inl la0zfq_8)), (la0m, .inr (4, [.int (nI la0zn_4), .int (nI la0zr_5), .ref la0x, .ref la0y])), (la0x, .inl (E.2.1 1, 24, .inl la0zgx_9)), (la0y, .inl (E.2.1 1, 96, .inl la0zgy_10)), (la1, .inr (3, [.ref la1m, .int la1zp_11, .int la1zw_12, .ref la1c, .ref la1f, .ref la1q])), (la1c, .inl (E.2.1 1, 24, .inl la1zfc_15)), (la1f, .inl (E.2.1 1, 24, .inl la1zff_16)), (la1q, .inl (E.2.1 1, 4, .inl la1zfq_17)), (la1m, .inr (4, [.int (nI la1zn_13), .int (nI la1zr_14), .ref la1x, .ref la1y])), (la1x, .inl (E.2.1 1, 24, .inl la1zgx_18)), (la1y, .inl (E.2.1 1, 96, .inl la1zgy_19)), (jt, .inl (E.2.1 7, 8, .inr (.inr (.inr (.inr fto)))))] [(pg, .inr (6, [.ref ps, amz_20, hdz_21, .int plenz_22, .int prowz_23])), (ps, .inl (E.2.1 5, 3, .inr (.inr (.inr (.inr fps))))), (st0, .inr (3, [.ref st0m, .int st0zp_24, .int st0zw_25, .ref st0c, .ref st0f, .ref st0q])), (st0c, .inl (E.2.1 1, 24, .inl st0zfc_28)), (st0f, .inl (E.2.1 1, 24, .inl st0zff_29)), (st0q, .inl (E.2.1 1, 4, .inl st0zfq_30)), (st0m, .inr (4, [.int (nI st0zn_26), .int (nI st0zr_27), .ref st0x, .ref st0y])), (st0x, .inl (E.2.1 1, 24, .inl st0zgx_31)), (st0y, .inl (E.2.1 1, 96, .inl st0zgy_32)), (st1, .inr (3, [.ref st1m, .int st1zp_33, .int st1zw_34, .ref st1c, .ref st1f, .ref st1q])), (st1c, .inl (E.2.1 1, 24, .inl st1zfc_37)), (st1f, .inl (E.2.1 1, 24, .inl st1zff_38)), (st1q, .inl (E.2.1 1, 4, .inl st1zfq_39)), (st1m, .inr (4, [.int (nI st1zn_35), .int (nI st1zr_36), .ref st1x, .ref st1y])), (st1x, .inl (E.2.1 1, 24, .inl st1zgx_40)), (st1y, .inl (E.2.1 1, 96, .inl st1zgy_41)), (st2, .inr (3, [.ref st2m, .int st2zp_42, .int st2zw_43, .ref st2c, .ref st2f, .ref st2q])), (st2c, .inl (E.2.1 1, 24, .inl st2zfc_46)), (st2f, .inl (E.2.1 1, 24, .inl st2zff_47)), (st2q, .inl (E.2.1 1, 4, .inl st2zfq_48)), (st2m, .inr (4, [.int (nI st2zn_44), .int (nI st2zr_45), .ref st2x, .ref st2y])), (st2x, .inl (E.2.1 1, 24, .inl st2zgx_49)), (st2y, .inl (E.2.1 1, 96, .inl st2zgy_50))]  ⟨n, r, a, b, f, gg, rfl, (by first | assumption | omega), (by first | assumption | omega), (by first | assumption | omega), rfl⟩ ⟨jt, je, ju, ja, ft2_1, fe, e0, e1, e2, e3, fa, la0, la1, e0cs, e0rc, e0a, e0b, e0c, e0d, e0fi, e0fb, e0fc, e0fd, e1cs, e1rc, e1a, e1b, e1c, e1d, e1fi, e1fb, e1fc, e1fd, e2cs, e2rc, e2a, e2b, e2c, e2d, e2fi, e2fb, e2fc, e2fd, e3cs, e3rc, e3a, e3b, e3c, e3d, e3fi, e3fb, e3fc, e3fd, la0m, la0zp_2, la0zw_3, la0c, la0f, la0q, la0zfc_6, la0zff_7, la0zfq_8, la0zn_4, la0zr_5, la0x, la0y, la0zgx_9, la0zgy_10, la1m, la1zp_11, la1zw_12, la1c, la1f, la1q, la1zfc_15, la1zff_16, la1zfq_17, la1zn_13, la1zr_14, la1x, la1y, la1zgx_18, la1zgy_19, fto, e0T, e1T, e2T, e3T, rfl, k_fe_0, k_fe_1, k_fe_2, k_fe_3, k_fa_0, k_fa_1, (by first | assumption | omega), (by first | assumption | omega), he0fi, (by first | assumption | omega), (by first | assumption | omega), he1fi, (by first | assumption | omega), (by first | assumption | omega), he2fi, (by first | assumption | omega), (by first | assumption | omega), he3fi, (by first | assumption | omega), (by first | assumption | omega), (by first | assumption | omega), (by first | assumption | omega), hto, rfl, rfl, rfl, rfl, rfl, rfl⟩ ⟨ps, amz_20, hdz_21, plenz_22, prowz_23, fps, st0, st1, st2, st0m, st0zp_24, st0zw_25, st0c, st0f, st0q, st0zfc_28, st0zff_29, st0zfq_30, st0zn_26, st0zr_27, st0x, st0y, st0zgx_31, st0zgy_32, st1m, st1zp_33, st1zw_34, st1c, st1f, st1q, st1zfc_37, st1zff_38, st1zfq_39, st1zn_35, st1zr_36, st1x, st1y, st1zgx_40, st1zgy_41, st2m, st2zp_42, st2zw_43, st2c, st2f, st2q, st2zfc_46, st2zff_47, st2zfq_48, st2zn_44, st2zr_45, st2x, st2y, st2zgx_49, st2zgy_50, rfl, k_fps_0, k_fps_1, k_fps_2, (by first | assumption | omega), (by first | assumption | omega), (by first | assumption | omega), (by first | assumption | omega), (by first | assumption | omega), (by first | assumption | omega)⟩ (h_61)
theorem wc_X11_people : Cond.code yX11_people cX11_people 3 (some .int) ∈ TB := tbm (tq4 (List.mem_of_getElem? (i := 237) (rfl))) (by decide +kernel)
theorem wi_X11_people : Cond.instanceMethod yX11_people ∈ TB := tbm (tq4 (List.mem_of_getElem? (i := 235) (by decide +kernel))) (by decide +kernel)
theorem ws_X11_people : Cond.selects RX11 yX11_people yX11_people ∈ TB := tbm (tq4 (List.mem_of_getElem? (i := 236) (by decide +kernel))) (by decide +kernel)
theorem mi_X11_people : MI yX11_people cX11_people 3 (some .int) 1 := ⟨wc_X11_people, wn_X11, ⟨by decide +kernel, by decide +kernel, by decide +kernel⟩, wi_X11_people, ws_X11_people⟩
theorem wl_L_140 : Cond.methodLink RL 140 yX11_people ∈ TB := tbm (tq4 (List.mem_of_getElem? (i := 234) (by decide +kernel))) (by decide +kernel)
theorem dL_law_1181 : decode cL_law 1181 = .ok (.invokevirtual 140, 3) := dl_182 (by decide +kernel)
set_option maxRecDepth 100000 in
set_option maxHeartbeats 4000000 in
theorem lx_people {X : XT} {E : EV} {ro wT pre : va_W} {lv : List (Nat × Value)} {rest : List Value} {kC nC : Nat} {hx h qp qs qj ly qh kk rd pg ss : Nat} {ac np kc pe : Nat} {kn : Int32} {v0 : Int32}  (C : CX X room_1 cL_law 4 RL ret E) (hW : Nat.ble (rest.map fun v => v.category).sum 8 = true) (hT : wT = pre ++ ro) (hk : kC + 0 ≤ 600000 ∧ nC + 0 ≤ 7302250) (hac : ac ≤ 8) (hnp : np < 8) (hkc : kc ≤ 4) (hpe : pe ≤ 4) (kont : ∀ (rr : Int32) (peZ : Nat) (knZ : Int32), peZ ≤ 4 → (((v0.toInt < 2 ∨ 4 < v0.toInt) ∧ peZ = pe ∧ knZ = kn ∧ rr = -1) ∨ (v0.toInt = 2 ∧ peZ = 2 ∧ knZ = 33 ∧ rr = 2) ∨ (v0.toInt = 3 ∧ peZ = 3 ∧ knZ = 1057 ∧ rr = 3) ∨ (v0.toInt = 4 ∧ peZ = 4 ∧ knZ = 33825 ∧ rr = 4)) → WW X 4 E 1184 lv (.int rr :: rest) ([(hx, .inr (11, [.ref h, .ref qp, .int (nI ac), .int (nI np), .ref qs, .ref qj, .ref ly, .ref qh, .ref kk, .int (nI kc), .ref rd, .ref pg, .int (nI peZ), .int knZ, .ref ss]))] ++ wT) kC nC) : WW X 4 E 1181 lv (.int v0 :: .ref hx :: rest) ([(hx, .inr (11, [.ref h, .ref qp, .int (nI ac), .int (nI np), .ref qs, .ref qj, .ref ly, .ref qh, .ref kk, .int (nI kc), .ref rd, .ref pg, .int (nI pe), .int kn, .ref ss]))] ++ wT) kC nC := by
  refine ww_eq (ws' := [(hx, .inr (11, [.ref h, .ref qp, .int (nI ac), .int (nI np), .ref qs, .ref qj, .ref ly, .ref qh, .ref kk, .int (nI kc), .ref rd, .ref pg, .int (nI pe), .int kn, .ref ss]))] ++ wT) ?_ rfl rfl rfl
  refine ww_ciT (k' := kC) (n' := nC) (wr := []) C (run_V (As := [.int v0]) (rest := rest) C (x_people X.2.1 E ro hx v0 h qp ac np qs qj ly qh kk kc rd pg pe kn ss (by first | assumption | omega)) mi_X11_people wl_L_140 rfl 0 11 rfl rfl rfl rfl hW dL_law_1181) (roT (pre := pre) [0] rfl hT) [0] [] rfl rfl rfl ⟨by omega, by omega, hk.1, hk.2⟩ (fun rr u hw => ?_)
  rcases hw with hw | hw | hw | hw
  · refine an2 hw ?_
    clear hw
    intro he_r he_u hw
    have h_1 := hw
    clear hw
    have he_r := he_r.symm
    subst he_r
    subst he_u
    refine ww_subT (w1 := [(hx, .inr (11, [.ref h, .ref qp, .int (nI ac), .int (nI np), .ref qs, .ref qj, .ref ly, .ref qh, .ref kk, .int (nI kc), .ref rd, .ref pg, .int (nI pe), .int kn, .ref ss]))]) [0] rfl rfl ?_
    exact kont (-1) pe kn  (by first | assumption | omega)  (Or.inl ⟨h_1, rfl, rfl, rfl⟩)
  · refine an2 hw ?_
    clear hw
    intro he_r he_u hw
    have h_2 := hw
    clear hw
    have he_r := he_r.symm
    subst he_r
    subst he_u
    refine ww_subT (w1 := [(hx, .inr (11, [.ref h, .ref qp, .int (nI ac), .int (nI np), .ref qs, .ref qj, .ref ly, .ref qh, .ref kk, .int (nI kc), .ref rd, .ref pg, .int 2, .int 33, .ref ss]))]) [0] rfl rfl ?_
    exact kont (2) 2 33  (by first | assumption | omega)  (Or.inr (Or.inl ⟨h_2, rfl, rfl, rfl⟩))
  · refine an2 hw ?_
    clear hw
    intro he_r he_u hw
    have h_3 := hw
    clear hw
    have he_r := he_r.symm
    subst he_r
    subst he_u
    refine ww_subT (w1 := [(hx, .inr (11, [.ref h, .ref qp, .int (nI ac), .int (nI np), .ref qs, .ref qj, .ref ly, .ref qh, .ref kk, .int (nI kc), .ref rd, .ref pg, .int 3, .int 1057, .ref ss]))]) [0] rfl rfl ?_
    exact kont (3) 3 1057  (by first | assumption | omega)  (Or.inr (Or.inr (Or.inl ⟨h_3, rfl, rfl, rfl⟩)))
  · refine an2 hw ?_
    clear hw
    intro he_r he_u hw
    have h_4 := hw
    clear hw
    have he_r := he_r.symm
    subst he_r
    subst he_u
    refine ww_subT (w1 := [(hx, .inr (11, [.ref h, .ref qp, .int (nI ac), .int (nI np), .ref qs, .ref qj, .ref ly, .ref qh, .ref kk, .int (nI kc), .ref rd, .ref pg, .int 4, .int 33825, .ref ss]))]) [0] rfl rfl ?_
    exact kont (4) 4 33825  (by first | assumption | omega)  (Or.inr (Or.inr (Or.inr (⟨h_4, rfl, rfl, rfl⟩))))
theorem wc_X11_call : Cond.code yX11_call cX11_call 3 (some .int) ∈ TB := tbm (tq5 (List.mem_of_getElem? (i := 1) (rfl))) (by decide +kernel)
theorem wi_X11_call : Cond.instanceMethod yX11_call ∈ TB := tbm (tq4 (List.mem_of_getElem? (i := 239) (by decide +kernel))) (by decide +kernel)
theorem ws_X11_call : Cond.selects RX11 yX11_call yX11_call ∈ TB := tbm (tq5 (List.mem_of_getElem? (i := 0) (by decide +kernel))) (by decide +kernel)
theorem mi_X11_call : MI yX11_call cX11_call 3 (some .int) 2 := ⟨wc_X11_call, wn_X11, ⟨by decide +kernel, by decide +kernel, by decide +kernel⟩, wi_X11_call, ws_X11_call⟩
theorem wl_L_144 : Cond.methodLink RL 144 yX11_call ∈ TB := tbm (tq4 (List.mem_of_getElem? (i := 238) (by decide +kernel))) (by decide +kernel)
theorem dL_law_1209 : decode cL_law 1209 = .ok (.invokevirtual 144, 3) := dl_182 (by decide +kernel)
set_option maxRecDepth 100000 in
set_option maxHeartbeats 4000000 in
theorem lx_call {X : XT} {E : EV} {ro wT pre : va_W} {lv : List (Nat × Value)} {rest : List Value} {kC nC : Nat} {hx h qp qs qj ly qh kk rd pg ss : Nat} {ac np kc pe : Nat} {kn : Int32} {v0 : Int32} {v1 : Int32}  (C : CX X room_1 cL_law 4 RL ret E) (hW : Nat.ble (rest.map fun v => v.category).sum 8 = true) (hT : wT = pre ++ ro) (hk : kC + 0 ≤ 600000 ∧ nC + 0 ≤ 7302250) (hac : ac ≤ 8) (hnp : np < 8) (hkc : kc ≤ 4) (hpe : pe ≤ 4) (kont : ∀ (rr : Int32) (knZ : Int32), (((v0.toInt < 0 ∨ (pe : Int) ≤ v0.toInt ∨ v1.toInt < 0 ∨ (pe : Int) ≤ v1.toInt ∨ v0.toInt = v1.toInt) ∧ knZ = kn ∧ rr = -1) ∨ ∃ i j : Nat, v0 = nI i ∧ v1 = nI j ∧ i < pe ∧ j < pe ∧ i ≠ j ∧ knZ = cl kn i j ∧ rr = bcf (sc (cl kn i j) i)) → WW X 4 E 1212 lv (.int rr :: rest) ([(hx, .inr (11, [.ref h, .ref qp, .int (nI ac), .int (nI np), .ref qs, .ref qj, .ref ly, .ref qh, .ref kk, .int (nI kc), .ref rd, .ref pg, .int (nI pe), .int knZ, .ref ss]))] ++ wT) kC nC) : WW X 4 E 1209 lv (.int v1 :: .int v0 :: .ref hx :: rest) ([(hx, .inr (11, [.ref h, .ref qp, .int (nI ac), .int (nI np), .ref qs, .ref qj, .ref ly, .ref qh, .ref kk, .int (nI kc), .ref rd, .ref pg, .int (nI pe), .int kn, .ref ss]))] ++ wT) kC nC := by
  refine ww_eq (ws' := [(hx, .inr (11, [.ref h, .ref qp, .int (nI ac), .int (nI np), .ref qs, .ref qj, .ref ly, .ref qh, .ref kk, .int (nI kc), .ref rd, .ref pg, .int (nI pe), .int kn, .ref ss]))] ++ wT) ?_ rfl rfl rfl
  refine ww_ciT (k' := kC) (n' := nC) (wr := []) C (run_V (As := [.int v0, .int v1]) (rest := rest) C (x_call X.2.1 E ro hx v0 v1 h qp ac np qs qj ly qh kk kc rd pg pe kn ss (by first | assumption | omega)) mi_X11_call wl_L_144 rfl 0 11 rfl rfl rfl rfl hW dL_law_1209) (roT (pre := pre) [0] rfl hT) [0] [] rfl rfl rfl ⟨by omega, by omega, hk.1, hk.2⟩ (fun rr u hw => ?_)
  rcases hw with hw | hw
  · refine an2 hw ?_
    clear hw
    intro he_r he_u hw
    have h_1 := hw
    clear hw
    have he_r := he_r.symm
    subst he_r
    subst he_u
    refine ww_subT (w1 := [(hx, .inr (11, [.ref h, .ref qp, .int (nI ac), .int (nI np), .ref qs, .ref qj, .ref ly, .ref qh, .ref kk, .int (nI kc), .ref rd, .ref pg, .int (nI pe), .int kn, .ref ss]))]) [0] rfl rfl ?_
    exact kont (-1) kn    (Or.inl ⟨h_1, rfl, rfl⟩)
  · refine ex2 hw ?_
    clear hw
    intro i__2 j__3 hw
    refine an6 hw ?_
    clear hw
    intro he_r he_u h_4 h_5 h_6 h_7 hw
    have h_8 := hw
    clear hw
    have he_r := he_r.symm
    subst he_r
    subst he_u
    refine ww_subT (w1 := [(hx, .inr (11, [.ref h, .ref qp, .int (nI ac), .int (nI np), .ref qs, .ref qj, .ref ly, .ref qh, .ref kk, .int (nI kc), .ref rd, .ref pg, .int (nI pe), .int (cl kn i__2 j__3), .ref ss]))]) [0] rfl rfl ?_
    exact kont (bcf (sc (cl kn i__2 j__3) i__2)) (cl kn i__2 j__3)    (Or.inr (⟨_, _, h_4, h_5, h_6, h_7, h_8, rfl, rfl⟩))
theorem wc_X11_secrets : Cond.code yX11_secrets cX11_secrets 2 (some .int) ∈ TB := tbm (tq5 (List.mem_of_getElem? (i := 16) (rfl))) (by decide +kernel)
theorem wi_X11_secrets : Cond.instanceMethod yX11_secrets ∈ TB := tbm (tq5 (List.mem_of_getElem? (i := 14) (by decide +kernel))) (by decide +kernel)
theorem ws_X11_secrets : Cond.selects RX11 yX11_secrets yX11_secrets ∈ TB := tbm (tq5 (List.mem_of_getElem? (i := 15) (by decide +kernel))) (by decide +kernel)
theorem mi_X11_secrets : MI yX11_secrets cX11_secrets 2 (some .int) 1 := ⟨wc_X11_secrets, wn_X11, ⟨by decide +kernel, by decide +kernel, by decide +kernel⟩, wi_X11_secrets, ws_X11_secrets⟩
theorem wl_L_148 : Cond.methodLink RL 148 yX11_secrets ∈ TB := tbm (tq5 (List.mem_of_getElem? (i := 13) (by decide +kernel))) (by decide +kernel)
theorem dL_law_1237 : decode cL_law 1237 = .ok (.invokevirtual 148, 3) := dl_182 (by decide +kernel)
set_option maxRecDepth 100000 in
set_option maxHeartbeats 4000000 in
theorem lx_secrets {X : XT} {E : EV} {ro wT pre : va_W} {lv : List (Nat × Value)} {rest : List Value} {kC nC : Nat} {hx h qp qs qj ly qh kk rd pg ss : Nat} {ac np kc pe : Nat} {kn : Int32} {v0 : Int32}  (C : CX X room_1 cL_law 4 RL ret E) (hW : Nat.ble (rest.map fun v => v.category).sum 8 = true) (hT : wT = pre ++ ro) (hk : kC + 0 ≤ 600000 ∧ nC + 0 ≤ 7302250) (hac : ac ≤ 8) (hnp : np < 8) (hkc : kc ≤ 4) (hpe : pe ≤ 4) (kont : ∀ (rr : Int32), (((v0.toInt < 0 ∨ (pe : Int) ≤ v0.toInt) ∧ rr = -1) ∨ ∃ i : Nat, v0 = nI i ∧ i < pe ∧ rr = sc kn i) → WW X 4 E 1240 lv (.int rr :: rest) ([(hx, .inr (11, [.ref h, .ref qp, .int (nI ac), .int (nI np), .ref qs, .ref qj, .ref ly, .ref qh, .ref kk, .int (nI kc), .ref rd, .ref pg, .int (nI pe), .int kn, .ref ss]))] ++ wT) kC nC) : WW X 4 E 1237 lv (.int v0 :: .ref hx :: rest) ([(hx, .inr (11, [.ref h, .ref qp, .int (nI ac), .int (nI np), .ref qs, .ref qj, .ref ly, .ref qh, .ref kk, .int (nI kc), .ref rd, .ref pg, .int (nI pe), .int kn, .ref ss]))] ++ wT) kC nC := by
  refine ww_eq (ws' := [(hx, .inr (11, [.ref h, .ref qp, .int (nI ac), .int (nI np), .ref qs, .ref qj, .ref ly, .ref qh, .ref kk, .int (nI kc), .ref rd, .ref pg, .int (nI pe), .int kn, .ref ss]))] ++ wT) ?_ rfl rfl rfl
  refine ww_ciT (k' := kC) (n' := nC) (wr := []) C (run_V (As := [.int v0]) (rest := rest) C (x_secrets X.2.1 E ro hx v0 h qp ac np qs qj ly qh kk kc rd pg pe kn ss (by first | assumption | omega)) mi_X11_secrets wl_L_148 rfl 0 11 rfl rfl rfl rfl hW dL_law_1237) (roT (pre := pre) [0] rfl hT) [0] [] rfl rfl rfl ⟨by omega, by omega, hk.1, hk.2⟩ (fun rr u hw => ?_)
  rcases hw with hw | hw
  · refine an2 hw ?_
    clear hw
    intro he_r he_u hw
    have h_1 := hw
    clear hw
    have he_r := he_r.symm
    subst he_r
    subst he_u
    refine ww_subT (w1 := [(hx, .inr (11, [.ref h, .ref qp, .int (nI ac), .int (nI np), .ref qs, .ref qj, .ref ly, .ref qh, .ref kk, .int (nI kc), .ref rd, .ref pg, .int (nI pe), .int kn, .ref ss]))]) [0] rfl rfl ?_
    exact kont (-1)     (Or.inl ⟨h_1, rfl⟩)
  · refine ex1 hw ?_
    clear hw
    intro i__2 hw
    refine an3 hw ?_
    clear hw
    intro he_r he_u h_3 hw
    have h_4 := hw
    clear hw
    have he_r := he_r.symm
    subst he_r
    subst he_u
    refine ww_subT (w1 := [(hx, .inr (11, [.ref h, .ref qp, .int (nI ac), .int (nI np), .ref qs, .ref qj, .ref ly, .ref qh, .ref kk, .int (nI kc), .ref rd, .ref pg, .int (nI pe), .int kn, .ref ss]))]) [0] rfl rfl ?_
    exact kont (sc kn i__2)     (Or.inr (⟨_, h_3, h_4, rfl⟩))
theorem wc_X11_fewest : Cond.code yX11_fewest cX11_fewest 3 (some .int) ∈ TB := tbm (tq5 (List.mem_of_getElem? (i := 20) (rfl))) (by decide +kernel)
theorem wi_X11_fewest : Cond.instanceMethod yX11_fewest ∈ TB := tbm (tq5 (List.mem_of_getElem? (i := 18) (by decide +kernel))) (by decide +kernel)
theorem ws_X11_fewest : Cond.selects RX11 yX11_fewest yX11_fewest ∈ TB := tbm (tq5 (List.mem_of_getElem? (i := 19) (by decide +kernel))) (by decide +kernel)
theorem mi_X11_fewest : MI yX11_fewest cX11_fewest 3 (some .int) 1 := ⟨wc_X11_fewest, wn_X11, ⟨by decide +kernel, by decide +kernel, by decide +kernel⟩, wi_X11_fewest, ws_X11_fewest⟩
theorem wl_L_152 : Cond.methodLink RL 152 yX11_fewest ∈ TB := tbm (tq5 (List.mem_of_getElem? (i := 17) (by decide +kernel))) (by decide +kernel)
theorem dL_law_1260 : decode cL_law 1260 = .ok (.invokevirtual 152, 3) := dl_182 (by decide +kernel)
set_option maxRecDepth 100000 in
set_option maxHeartbeats 4000000 in
theorem lx_fewest {X : XT} {E : EV} {ro wT pre : va_W} {lv : List (Nat × Value)} {rest : List Value} {kC nC : Nat} {hx h qp qs qj ly qh kk rd pg ss : Nat} {ac np kc pe : Nat} {kn : Int32} {v0 : Int32}  (C : CX X room_1 cL_law 4 RL ret E) (hW : Nat.ble (rest.map fun v => v.category).sum 8 = true) (hT : wT = pre ++ ro) (hk : kC + 0 ≤ 600000 ∧ nC + 0 ≤ 7302250) (hac : ac ≤ 8) (hnp : np < 8) (hkc : kc ≤ 4) (hpe : pe ≤ 4) (kont : ∀ (rr : Int32), (FWx pe (cpL pe) (sc kn) v0 rr) → WW X 4 E 1263 lv (.int rr :: rest) ([(hx, .inr (11, [.ref h, .ref qp, .int (nI ac), .int (nI np), .ref qs, .ref qj, .ref ly, .ref qh, .ref kk, .int (nI kc), .ref rd, .ref pg, .int (nI pe), .int kn, .ref ss]))] ++ wT) kC nC) : WW X 4 E 1260 lv (.int v0 :: .ref hx :: rest) ([(hx, .inr (11, [.ref h, .ref qp, .int (nI ac), .int (nI np), .ref qs, .ref qj, .ref ly, .ref qh, .ref kk, .int (nI kc), .ref rd, .ref pg, .int (nI pe), .int kn, .ref ss]))] ++ wT) kC nC := by
  refine ww_eq (ws' := [(hx, .inr (11, [.ref h, .ref qp, .int (nI ac), .int (nI np), .ref qs, .ref qj, .ref ly, .ref qh, .ref kk, .int (nI kc), .ref rd, .ref pg, .int (nI pe), .int kn, .ref ss]))] ++ wT) ?_ rfl rfl rfl
  refine ww_ciT (k' := kC) (n' := nC) (wr := []) C (run_V (As := [.int v0]) (rest := rest) C (x_fewest X.2.1 E ro hx v0 h qp ac np qs qj ly qh kk kc rd pg pe kn ss (by first | assumption | omega)) mi_X11_fewest wl_L_152 rfl 0 11 rfl rfl rfl rfl hW dL_law_1260) (roT (pre := pre) [0] rfl hT) [0] [] rfl rfl rfl ⟨by omega, by omega, hk.1, hk.2⟩ (fun rr u hw => ?_)
  refine an1 hw ?_
  clear hw
  intro he_u hw
  have h_1 := hw
  clear hw
  subst he_u
  refine ww_subT (w1 := [(hx, .inr (11, [.ref h, .ref qp, .int (nI ac), .int (nI np), .ref qs, .ref qj, .ref ly, .ref qh, .ref kk, .int (nI kc), .ref rd, .ref pg, .int (nI pe), .int kn, .ref ss]))]) [0] rfl rfl ?_
  exact kont rr     (h_1)
theorem wc_X11_sheet : Cond.code yX11_sheet cX11_sheet 4 (some .int) ∈ TB := tbm (tq5 (List.mem_of_getElem? (i := 33) (rfl))) (by decide +kernel)
theorem wi_X11_sheet : Cond.instanceMethod yX11_sheet ∈ TB := tbm (tq5 (List.mem_of_getElem? (i := 31) (by decide +kernel))) (by decide +kernel)
theorem ws_X11_sheet : Cond.selects RX11 yX11_sheet yX11_sheet ∈ TB := tbm (tq5 (List.mem_of_getElem? (i := 32) (by decide +kernel))) (by decide +kernel)
theorem mi_X11_sheet : MI yX11_sheet cX11_sheet 4 (some .int) 3 := ⟨wc_X11_sheet, wn_X11, ⟨by decide +kernel, by decide +kernel, by decide +kernel⟩, wi_X11_sheet, ws_X11_sheet⟩
theorem wl_L_156 : Cond.methodLink RL 156 yX11_sheet ∈ TB := tbm (tq5 (List.mem_of_getElem? (i := 30) (by decide +kernel))) (by decide +kernel)
theorem dL_law_1293 : decode cL_law 1293 = .ok (.invokevirtual 156, 3) := dl_182 (by decide +kernel)
set_option maxRecDepth 100000 in
set_option maxHeartbeats 4000000 in
theorem lx_sheet {X : XT} {E : EV} {ro wT pre : va_W} {lv : List (Nat × Value)} {rest : List Value} {kC nC : Nat} {hx h qp qs qj ly qh kk rd pg ss : Nat} {ac np kc pe : Nat} {kn : Int32} {st : Nat → Nat} {sn : Nat → Nat} {sl : Nat → Nat} {scx : Nat → Nat → Int32} {w_shts : va_W} {v0 : Int32} {v1 : Int32} {v2 : Int32}  (C : CX X room_1 cL_law 4 RL ret E) (hW : Nat.ble (rest.map fun v => v.category).sum 8 = true) (hT : wT = pre ++ ro) (hk : kC + 0 ≤ 600000 ∧ nC + 0 ≤ 7302250) (hac : ac ≤ 8) (hnp : np < 8) (hkc : kc ≤ 4) (hpe : pe ≤ 4) (H_shts : ok_shts E ro ss st sn sl scx w_shts) (kont : ∀ (rr : Int32) (stZ : Nat → Nat) (snZ : Nat → Nat) (slZ : Nat → Nat) (scxZ : Nat → Nat → Int32) (w_shtsZ : va_W), ok_shts E ro ss stZ snZ slZ scxZ w_shtsZ → (((v0.toInt < 0 ∨ 3 < v0.toInt ∨ v1.toInt < 0 ∨ 2 < v1.toInt ∨ 48 < v2.toInt) ∧ rr = -1 ∧ stZ = st ∧ snZ = sn ∧ slZ = sl ∧ scxZ = scx) ∨ ((0 ≤ v0.toInt ∧ v0.toInt ≤ 3 ∧ 0 ≤ v1.toInt ∧ v1.toInt ≤ 2 ∧ v2.toInt < 0) ∧ rr = -14 ∧ stZ = st ∧ snZ = sn ∧ slZ = sl ∧ scxZ = scx) ∨ ∃ k_ l_ n_ : Nat, v0 = nI k_ ∧ v1 = nI l_ ∧ v2 = nI n_ ∧ k_ ≤ 3 ∧ l_ ≤ 2 ∧ n_ ≤ 48 ∧ (∀ i, i < 4 → stZ i = if i = k_ then 1 else st i) ∧ (∀ i, i < 4 → snZ i = if i = k_ then n_ else sn i) ∧ (∀ i, i < 4 → slZ i = if i = k_ then l_ else sl i) ∧ (∀ i, i < 4 → i ≠ k_ → scxZ i = scx i) ∧ Z0x n_ (scxZ k_) ∧ rr = 1) → WW X 4 E 1296 lv (.int rr :: rest) ([(hx, .inr (11, [.ref h, .ref qp, .int (nI ac), .int (nI np), .ref qs, .ref qj, .ref ly, .ref qh, .ref kk, .int (nI kc), .ref rd, .ref pg, .int (nI pe), .int kn, .ref ss]))] ++ (w_shtsZ ++ wT)) kC nC) : WW X 4 E 1293 lv (.int v2 :: .int v1 :: .int v0 :: .ref hx :: rest) ([(hx, .inr (11, [.ref h, .ref qp, .int (nI ac), .int (nI np), .ref qs, .ref qj, .ref ly, .ref qh, .ref kk, .int (nI kc), .ref rd, .ref pg, .int (nI pe), .int kn, .ref ss]))] ++ (w_shts ++ wT)) kC nC := by
  unfold ok_shts at H_shts
  refine ex8 H_shts ?_
  clear H_shts
  intro fss s0 s1 s2 s3 s0t s0n s0l H_shts
  refine ex8 H_shts ?_
  clear H_shts
  intro s0c s0f s1t s1n s1l s1c s1f s2t H_shts
  refine ex8 H_shts ?_
  clear H_shts
  intro s2n s2l s2c s2f s3t s3n s3l s3c H_shts
  refine ex1 H_shts ?_
  clear H_shts
  intro s3f H_shts
  refine an8 H_shts ?_
  clear H_shts
  intro we_shts k_fss_0 k_fss_1 k_fss_2 k_fss_3 hst hsn hsl H_shts
  refine an8 H_shts ?_
  clear H_shts
  intro hsc hs0t hs0n hs0l hs1t hs1n hs1l hs2t H_shts
  refine an4 H_shts ?_
  clear H_shts
  intro hs2n hs2l hs3t hs3n H_shts
  have hs3l := H_shts
  clear H_shts
  subst we_shts
  subst hst
  subst hsn
  subst hsl
  subst hsc
  refine ww_eq (ws' := [(hx, .inr (11, [.ref h, .ref qp, .int (nI ac), .int (nI np), .ref qs, .ref qj, .ref ly, .ref qh, .ref kk, .int (nI kc), .ref rd, .ref pg, .int (nI pe), .int kn, .ref ss])), (ss, .inl (E.2.1 8, 4, .inr (.inr (.inr (.inr fss))))), (s0, .inr (9, [.int (nI s0t), .int (nI s0n), .int (nI s0l), .ref s0c])), (s0c, .inl (E.2.1 1, 48, .inl s0f)), (s1, .inr (9, [.int (nI s1t), .int (nI s1n), .int (nI s1l), .ref s1c])), (s1c, .inl (E.2.1 1, 48, .inl s1f)), (s2, .inr (9, [.int (nI s2t), .int (nI s2n), .int (nI s2l), .ref s2c])), (s2c, .inl (E.2.1 1, 48, .inl s2f)), (s3, .inr (9, [.int (nI s3t), .int (nI s3n), .int (nI s3l), .ref s3c])), (s3c, .inl (E.2.1 1, 48, .inl s3f))] ++ wT) ?_ rfl rfl rfl
  refine ww_ciT (k' := kC) (n' := nC) (wr := []) C (run_V (As := [.int v0, .int v1, .int v2]) (rest := rest) C (x_sheet X.2.1 E ro hx v0 v1 v2 h qp ac np qs qj ly qh kk kc rd pg pe kn ss fss s0 s1 s2 s3 s0t s0n s0l s0c s0f s1t s1n s1l s1c s1f s2t s2n s2l s2c s2f s3t s3n s3l s3c s3f k_fss_0 k_fss_1 k_fss_2 k_fss_3 (by first | assumption | omega) (by first | assumption | omega) (by first | assumption | omega) (by first | assumption | omega) (by first | assumption | omega) (by first | assumption | omega) (by first | assumption | omega) (by first | assumption | omega) (by first | assumption | omega) (by first | assumption | omega) (by first | assumption | omega) (by first | assumption | omega)) mi_X11_sheet wl_L_156 rfl 0 11 rfl rfl rfl rfl hW dL_law_1293) (roT (pre := pre) [0, 1, 2, 3, 4, 5, 6, 7, 8, 9] rfl hT) [0, 1, 2, 3, 4, 5, 6, 7, 8, 9] [] (gqk (by eq_refl)) rfl (plk (by decide +kernel)) ⟨by omega, by omega, hk.1, hk.2⟩ (fun rr u hw => ?_)
  rcases hw with hw | hw | hw
  · refine an2 hw ?_
    clear hw
    intro he_r he_u hw
    have h_1 := hw
    clear hw
    have he_r := he_r.symm
    subst he_r
    subst he_u
    refine ww_subT (w1 := [(hx, .inr (11, [.ref h, .ref qp, .int (nI ac), .int (nI np), .ref qs, .ref qj, .ref ly, .ref qh, .ref kk, .int (nI kc), .ref rd, .ref pg, .int (nI pe), .int kn, .ref ss])), (ss, .inl (E.2.1 8, 4, .inr (.inr (.inr (.inr fss))))), (s0, .inr (9, [.int (nI s0t), .int (nI s0n), .int (nI s0l), .ref s0c])), (s0c, .inl (E.2.1 1, 48, .inl s0f)), (s1, .inr (9, [.int (nI s1t), .int (nI s1n), .int (nI s1l), .ref s1c])), (s1c, .inl (E.2.1 1, 48, .inl s1f)), (s2, .inr (9, [.int (nI s2t), .int (nI s2n), .int (nI s2l), .ref s2c])), (s2c, .inl (E.2.1 1, 48, .inl s2f)), (s3, .inr (9, [.int (nI s3t), .int (nI s3n), .int (nI s3l), .ref s3c])), (s3c, .inl (E.2.1 1, 48, .inl s3f))]) [0, 1, 2, 3, 4, 5, 6, 7, 8, 9] (ndk (by decide +kernel)) (gqk (by eq_refl)) ?_
    exact kont (-1) (pick4 s0t s1t s2t s3t) (pick4 s0n s1n s2n s3n) (pick4 s0l s1l s2l s3l) (pick4 s0f s1f s2f s3f) [(ss, .inl (E.2.1 8, 4, .inr (.inr (.inr (.inr fss))))), (s0, .inr (9, [.int (nI s0t), .int (nI s0n), .int (nI s0l), .ref s0c])), (s0c, .inl (E.2.1 1, 48, .inl s0f)), (s1, .inr (9, [.int (nI s1t), .int (nI s1n), .int (nI s1l), .ref s1c])), (s1c, .inl (E.2.1 1, 48, .inl s1f)), (s2, .inr (9, [.int (nI s2t), .int (nI s2n), .int (nI s2l), .ref s2c])), (s2c, .inl (E.2.1 1, 48, .inl s2f)), (s3, .inr (9, [.int (nI s3t), .int (nI s3n), .int (nI s3l), .ref s3c])), (s3c, .inl (E.2.1 1, 48, .inl s3f))]  ⟨fss, s0, s1, s2, s3, s0t, s0n, s0l, s0c, s0f, s1t, s1n, s1l, s1c, s1f, s2t, s2n, s2l, s2c, s2f, s3t, s3n, s3l, s3c, s3f, rfl, k_fss_0, k_fss_1, k_fss_2, k_fss_3, rfl, rfl, rfl, rfl, (by first | assumption | omega), (by first | assumption | omega), (by first | assumption | omega), (by first | assumption | omega), (by first | assumption | omega), (by first | assumption | omega), (by first | assumption | omega), (by first | assumption | omega), (by first | assumption | omega), (by first | assumption | omega), (by first | assumption | omega), (by first | assumption | omega)⟩ (Or.inl ⟨h_1, rfl, rfl, rfl, rfl, rfl⟩)
  · refine an6 hw ?_
    clear hw
    intro he_r he_u h_2 h_3 h_4 h_5 hw
    have h_6 := hw
    clear hw
    have he_r := he_r.symm
    subst he_r
    subst he_u
    refine ww_subT (w1 := [(hx, .inr (11, [.ref h, .ref qp, .int (nI ac), .int (nI np), .ref qs, .ref qj, .ref ly, .ref qh, .ref kk, .int (nI kc), .ref rd, .ref pg, .int (nI pe), .int kn, .ref ss])), (ss, .inl (E.2.1 8, 4, .inr (.inr (.inr (.inr fss))))), (s0, .inr (9, [.int (nI s0t), .int (nI s0n), .int (nI s0l), .ref s0c])), (s0c, .inl (E.2.1 1, 48, .inl s0f)), (s1, .inr (9, [.int (nI s1t), .int (nI s1n), .int (nI s1l), .ref s1c])), (s1c, .inl (E.2.1 1, 48, .inl s1f)), (s2, .inr (9, [.int (nI s2t), .int (nI s2n), .int (nI s2l), .ref s2c])), (s2c, .inl (E.2.1 1, 48, .inl s2f)), (s3, .inr (9, [.int (nI s3t), .int (nI s3n), .int (nI s3l), .ref s3c])), (s3c, .inl (E.2.1 1, 48, .inl s3f))]) [0, 1, 2, 3, 4, 5, 6, 7, 8, 9] (ndk (by decide +kernel)) (gqk (by eq_refl)) ?_
    exact kont (-14) (pick4 s0t s1t s2t s3t) (pick4 s0n s1n s2n s3n) (pick4 s0l s1l s2l s3l) (pick4 s0f s1f s2f s3f) [(ss, .inl (E.2.1 8, 4, .inr (.inr (.inr (.inr fss))))), (s0, .inr (9, [.int (nI s0t), .int (nI s0n), .int (nI s0l), .ref s0c])), (s0c, .inl (E.2.1 1, 48, .inl s0f)), (s1, .inr (9, [.int (nI s1t), .int (nI s1n), .int (nI s1l), .ref s1c])), (s1c, .inl (E.2.1 1, 48, .inl s1f)), (s2, .inr (9, [.int (nI s2t), .int (nI s2n), .int (nI s2l), .ref s2c])), (s2c, .inl (E.2.1 1, 48, .inl s2f)), (s3, .inr (9, [.int (nI s3t), .int (nI s3n), .int (nI s3l), .ref s3c])), (s3c, .inl (E.2.1 1, 48, .inl s3f))]  ⟨fss, s0, s1, s2, s3, s0t, s0n, s0l, s0c, s0f, s1t, s1n, s1l, s1c, s1f, s2t, s2n, s2l, s2c, s2f, s3t, s3n, s3l, s3c, s3f, rfl, k_fss_0, k_fss_1, k_fss_2, k_fss_3, rfl, rfl, rfl, rfl, (by first | assumption | omega), (by first | assumption | omega), (by first | assumption | omega), (by first | assumption | omega), (by first | assumption | omega), (by first | assumption | omega), (by first | assumption | omega), (by first | assumption | omega), (by first | assumption | omega), (by first | assumption | omega), (by first | assumption | omega), (by first | assumption | omega)⟩ (Or.inr (Or.inl ⟨⟨h_2, h_3, h_4, h_5, h_6⟩, rfl, rfl, rfl, rfl, rfl⟩))
  · refine ex8 hw ?_
    clear hw
    intro k__7 l__8 n__9 s0tz_10 s0nz_11 s0lz_12 s1tz_13 s1nz_14 hw
    refine ex8 hw ?_
    clear hw
    intro s1lz_15 s2tz_16 s2nz_17 s2lz_18 s3tz_19 s3nz_20 s3lz_21 s0fz_22 hw
    refine ex3 hw ?_
    clear hw
    intro s1fz_23 s2fz_24 s3fz_25 hw
    refine an8 hw ?_
    clear hw
    intro he_r he_u h_26 h_27 h_28 h_29 h_30 h_31 hw
    refine an4 hw ?_
    clear hw
    intro h_32 h_33 h_34 h_35 hw
    have h_36 := hw
    clear hw
    have he_r := he_r.symm
    subst he_r
    subst he_u
    refine ww_subT (w1 := [(hx, .inr (11, [.ref h, .ref qp, .int (nI ac), .int (nI np), .ref qs, .ref qj, .ref ly, .ref qh, .ref kk, .int (nI kc), .ref rd, .ref pg, .int (nI pe), .int kn, .ref ss])), (ss, .inl (E.2.1 8, 4, .inr (.inr (.inr (.inr fss))))), (s0, .inr (9, [.int (nI s0tz_10), .int (nI s0nz_11), .int (nI s0lz_12), .ref s0c])), (s0c, .inl (E.2.1 1, 48, .inl s0fz_22)), (s1, .inr (9, [.int (nI s1tz_13), .int (nI s1nz_14), .int (nI s1lz_15), .ref s1c])), (s1c, .inl (E.2.1 1, 48, .inl s1fz_23)), (s2, .inr (9, [.int (nI s2tz_16), .int (nI s2nz_17), .int (nI s2lz_18), .ref s2c])), (s2c, .inl (E.2.1 1, 48, .inl s2fz_24)), (s3, .inr (9, [.int (nI s3tz_19), .int (nI s3nz_20), .int (nI s3lz_21), .ref s3c])), (s3c, .inl (E.2.1 1, 48, .inl s3fz_25))]) [0, 1, 2, 3, 4, 5, 6, 7, 8, 9] (ndk (by decide +kernel)) (gqk (by eq_refl)) ?_
    exact kont (1) (pick4 s0tz_10 s1tz_13 s2tz_16 s3tz_19) (pick4 s0nz_11 s1nz_14 s2nz_17 s3nz_20) (pick4 s0lz_12 s1lz_15 s2lz_18 s3lz_21) (pick4 s0fz_22 s1fz_23 s2fz_24 s3fz_25) [(ss, .inl (E.2.1 8, 4, .inr (.inr (.inr (.inr fss))))), (s0, .inr (9, [.int (nI s0tz_10), .int (nI s0nz_11), .int (nI s0lz_12), .ref s0c])), (s0c, .inl (E.2.1 1, 48, .inl s0fz_22)), (s1, .inr (9, [.int (nI s1tz_13), .int (nI s1nz_14), .int (nI s1lz_15), .ref s1c])), (s1c, .inl (E.2.1 1, 48, .inl s1fz_23)), (s2, .inr (9, [.int (nI s2tz_16), .int (nI s2nz_17), .int (nI s2lz_18), .ref s2c])), (s2c, .inl (E.2.1 1, 48, .inl s2fz_24)), (s3, .inr (9, [.int (nI s3tz_19), .int (nI s3nz_20), .int (nI s3lz_21), .ref s3c])), (s3c, .inl (E.2.1 1, 48, .inl s3fz_25))]  ⟨fss, s0, s1, s2, s3, s0tz_10, s0nz_11, s0lz_12, s0c, s0fz_22, s1tz_13, s1nz_14, s1lz_15, s1c, s1fz_23, s2tz_16, s2nz_17, s2lz_18, s2c, s2fz_24, s3tz_19, s3nz_20, s3lz_21, s3c, s3fz_25, rfl, k_fss_0, k_fss_1, k_fss_2, k_fss_3, rfl, rfl, rfl, rfl, (p4b h_32 (by omega) (p4a hs0t hs1t hs2t hs3t) 0 (by omega)), (p4b h_33 (by omega) (p4a hs0n hs1n hs2n hs3n) 0 (by omega)), (p4b h_34 (by omega) (p4a hs0l hs1l hs2l hs3l) 0 (by omega)), (p4b h_32 (by omega) (p4a hs0t hs1t hs2t hs3t) 1 (by omega)), (p4b h_33 (by omega) (p4a hs0n hs1n hs2n hs3n) 1 (by omega)), (p4b h_34 (by omega) (p4a hs0l hs1l hs2l hs3l) 1 (by omega)), (p4b h_32 (by omega) (p4a hs0t hs1t hs2t hs3t) 2 (by omega)), (p4b h_33 (by omega) (p4a hs0n hs1n hs2n hs3n) 2 (by omega)), (p4b h_34 (by omega) (p4a hs0l hs1l hs2l hs3l) 2 (by omega)), (p4b h_32 (by omega) (p4a hs0t hs1t hs2t hs3t) 3 (by omega)), (p4b h_33 (by omega) (p4a hs0n hs1n hs2n hs3n) 3 (by omega)), (p4b h_34 (by omega) (p4a hs0l hs1l hs2l hs3l) 3 (by omega))⟩ (Or.inr (Or.inr (⟨_, _, _, h_26, h_27, h_28, h_29, h_30, h_31, h_32, h_33, h_34, h_35, h_36, rfl⟩)))
theorem wc_X11_write : Cond.code yX11_write cX11_write 4 (some .int) ∈ TB := tbm (tq5 (List.mem_of_getElem? (i := 41) (rfl))) (by decide +kernel)
theorem wi_X11_write : Cond.instanceMethod yX11_write ∈ TB := tbm (tq5 (List.mem_of_getElem? (i := 39) (by decide +kernel))) (by decide +kernel)
theorem ws_X11_write : Cond.selects RX11 yX11_write yX11_write ∈ TB := tbm (tq5 (List.mem_of_getElem? (i := 40) (by decide +kernel))) (by decide +kernel)
theorem mi_X11_write : MI yX11_write cX11_write 4 (some .int) 3 := ⟨wc_X11_write, wn_X11, ⟨by decide +kernel, by decide +kernel, by decide +kernel⟩, wi_X11_write, ws_X11_write⟩
theorem wl_L_160 : Cond.methodLink RL 160 yX11_write ∈ TB := tbm (tq5 (List.mem_of_getElem? (i := 38) (by decide +kernel))) (by decide +kernel)
theorem dL_law_1336 : decode cL_law 1336 = .ok (.invokevirtual 160, 3) := dl_182 (by decide +kernel)
set_option maxRecDepth 100000 in
set_option maxHeartbeats 4000000 in
theorem lx_write {X : XT} {E : EV} {ro wT pre : va_W} {lv : List (Nat × Value)} {rest : List Value} {kC nC : Nat} {hx h qp qs qj ly qh kk rd pg ss : Nat} {ac np kc pe : Nat} {kn : Int32} {st : Nat → Nat} {sn : Nat → Nat} {sl : Nat → Nat} {scx : Nat → Nat → Int32} {w_shts : va_W} {v0 : Int32} {v1 : Int32} {v2 : Int32}  (C : CX X room_1 cL_law 4 RL ret E) (hW : Nat.ble (rest.map fun v => v.category).sum 8 = true) (hT : wT = pre ++ ro) (hk : kC + 0 ≤ 600000 ∧ nC + 0 ≤ 7302250) (hac : ac ≤ 8) (hnp : np < 8) (hkc : kc ≤ 4) (hpe : pe ≤ 4) (H_shts : ok_shts E ro ss st sn sl scx w_shts) (kont : ∀ (rr : Int32) (scxZ : Nat → Nat → Int32) (w_shtsZ : va_W), ok_shts E ro ss st sn sl scxZ w_shtsZ → (((v0.toInt < 0 ∨ 3 < v0.toInt) ∧ rr = -1 ∧ scxZ = scx) ∨ ∃ k_ : Nat, v0 = nI k_ ∧ k_ ≤ 3 ∧ ((st k_ = 0 ∧ rr = -11 ∧ scxZ = scx) ∨ (st k_ = 1 ∧ (v1.toInt < 0 ∨ ((sn k_ : Nat) : Int) ≤ v1.toInt) ∧ rr = -12 ∧ scxZ = scx) ∨ (st k_ = 1 ∧ (0 ≤ v1.toInt ∧ v1.toInt < ((sn k_ : Nat) : Int)) ∧ rr = 1 ∧ ∃ i_ : Nat, v1 = nI i_ ∧ i_ < 48 ∧ (∀ i, i < 4 → i ≠ k_ → scxZ i = scx i) ∧ upd (scx k_) i_ (putv (sl k_) v2) = scxZ k_))) → WW X 4 E 1339 lv (.int rr :: rest) ([(hx, .inr (11, [.ref h, .ref qp, .int (nI ac), .int (nI np), .ref qs, .ref qj, .ref ly, .ref qh, .ref kk, .int (nI kc), .ref rd, .ref pg, .int (nI pe), .int kn, .ref ss]))] ++ (w_shtsZ ++ wT)) kC nC) : WW X 4 E 1336 lv (.int v2 :: .int v1 :: .int v0 :: .ref hx :: rest) ([(hx, .inr (11, [.ref h, .ref qp, .int (nI ac), .int (nI np), .ref qs, .ref qj, .ref ly, .ref qh, .ref kk, .int (nI kc), .ref rd, .ref pg, .int (nI pe), .int kn, .ref ss]))] ++ (w_shts ++ wT)) kC nC := by
  unfold ok_shts at H_shts
  refine ex8 H_shts ?_
  clear H_shts
  intro fss s0 s1 s2 s3 s0t s0n s0l H_shts
  refine ex8 H_shts ?_
  clear H_shts
  intro s0c s0f s1t s1n s1l s1c s1f s2t H_shts
  refine ex8 H_shts ?_
  clear H_shts
  intro s2n s2l s2c s2f s3t s3n s3l s3c H_shts
  refine ex1 H_shts ?_
  clear H_shts
  intro s3f H_shts
  refine an8 H_shts ?_
  clear H_shts
  intro we_shts k_fss_0 k_fss_1 k_fss_2 k_fss_3 hst hsn hsl H_shts
  refine an8 H_shts ?_
  clear H_shts
  intro hsc hs0t hs0n hs0l hs1t hs1n hs1l hs2t H_shts
  refine an4 H_shts ?_
  clear H_shts
  intro hs2n hs2l hs3t hs3n H_shts
  have hs3l := H_shts
  clear H_shts
  subst we_shts
  subst hst
  subst hsn
  subst hsl
  subst hsc
  refine ww_eq (ws' := [(hx, .inr (11, [.ref h, .ref qp, .int (nI ac), .int (nI np), .ref qs, .ref qj, .ref ly, .ref qh, .ref kk, .int (nI kc), .ref rd, .ref pg, .int (nI pe), .int kn, .ref ss])), (ss, .inl (E.2.1 8, 4, .inr (.inr (.inr (.inr fss))))), (s0, .inr (9, [.int (nI s0t), .int (nI s0n), .int (nI s0l), .ref s0c])), (s0c, .inl (E.2.1 1, 48, .inl s0f)), (s1, .inr (9, [.int (nI s1t), .int (nI s1n), .int (nI s1l), .ref s1c])), (s1c, .inl (E.2.1 1, 48, .inl s1f)), (s2, .inr (9, [.int (nI s2t), .int (nI s2n), .int (nI s2l), .ref s2c])), (s2c, .inl (E.2.1 1, 48, .inl s2f)), (s3, .inr (9, [.int (nI s3t), .int (nI s3n), .int (nI s3l), .ref s3c])), (s3c, .inl (E.2.1 1, 48, .inl s3f))] ++ wT) ?_ rfl rfl rfl
  refine ww_ciT (k' := kC) (n' := nC) (wr := []) C (run_V (As := [.int v0, .int v1, .int v2]) (rest := rest) C (x_write X.2.1 E ro hx v0 v1 v2 h qp ac np qs qj ly qh kk kc rd pg pe kn ss fss s0 s1 s2 s3 s0t s0n s0l s0c s0f s1t s1n s1l s1c s1f s2t s2n s2l s2c s2f s3t s3n s3l s3c s3f k_fss_0 k_fss_1 k_fss_2 k_fss_3 (by first | assumption | omega) (by first | assumption | omega) (by first | assumption | omega) (by first | assumption | omega) (by first | assumption | omega) (by first | assumption | omega) (by first | assumption | omega) (by first | assumption | omega) (by first | assumption | omega) (by first | assumption | omega) (by first | assumption | omega) (by first | assumption | omega)) mi_X11_write wl_L_160 rfl 0 11 rfl rfl rfl rfl hW dL_law_1336) (roT (pre := pre) [0, 1, 2, 3, 4, 5, 6, 7, 8, 9] rfl hT) [0, 1, 2, 3, 4, 5, 6, 7, 8, 9] [] (gqk (by eq_refl)) rfl (plk (by decide +kernel)) ⟨by omega, by omega, hk.1, hk.2⟩ (fun rr u hw => ?_)
  rcases hw with hw | hw | hw | hw
  · refine an2 hw ?_
    clear hw
    intro he_r he_u hw
    have h_1 := hw
    clear hw
    have he_r := he_r.symm
    subst he_r
    subst he_u
    refine ww_subT (w1 := [(hx, .inr (11, [.ref h, .ref qp, .int (nI ac), .int (nI np), .ref qs, .ref qj, .ref ly, .ref qh, .ref kk, .int (nI kc), .ref rd, .ref pg, .int (nI pe), .int kn, .ref ss])), (ss, .inl (E.2.1 8, 4, .inr (.inr (.inr (.inr fss))))), (s0, .inr (9, [.int (nI s0t), .int (nI s0n), .int (nI s0l), .ref s0c])), (s0c, .inl (E.2.1 1, 48, .inl s0f)), (s1, .inr (9, [.int (nI s1t), .int (nI s1n), .int (nI s1l), .ref s1c])), (s1c, .inl (E.2.1 1, 48, .inl s1f)), (s2, .inr (9, [.int (nI s2t), .int (nI s2n), .int (nI s2l), .ref s2c])), (s2c, .inl (E.2.1 1, 48, .inl s2f)), (s3, .inr (9, [.int (nI s3t), .int (nI s3n), .int (nI s3l), .ref s3c])), (s3c, .inl (E.2.1 1, 48, .inl s3f))]) [0, 1, 2, 3, 4, 5, 6, 7, 8, 9] (ndk (by decide +kernel)) (gqk (by eq_refl)) ?_
    exact kont (-1) (pick4 s0f s1f s2f s3f) [(ss, .inl (E.2.1 8, 4, .inr (.inr (.inr (.inr fss))))), (s0, .inr (9, [.int (nI s0t), .int (nI s0n), .int (nI s0l), .ref s0c])), (s0c, .inl (E.2.1 1, 48, .inl s0f)), (s1, .inr (9, [.int (nI s1t), .int (nI s1n), .int (nI s1l), .ref s1c])), (s1c, .inl (E.2.1 1, 48, .inl s1f)), (s2, .inr (9, [.int (nI s2t), .int (nI s2n), .int (nI s2l), .ref s2c])), (s2c, .inl (E.2.1 1, 48, .inl s2f)), (s3, .inr (9, [.int (nI s3t), .int (nI s3n), .int (nI s3l), .ref s3c])), (s3c, .inl (E.2.1 1, 48, .inl s3f))]  ⟨fss, s0, s1, s2, s3, s0t, s0n, s0l, s0c, s0f, s1t, s1n, s1l, s1c, s1f, s2t, s2n, s2l, s2c, s2f, s3t, s3n, s3l, s3c, s3f, rfl, k_fss_0, k_fss_1, k_fss_2, k_fss_3, rfl, rfl, rfl, rfl, (by first | assumption | omega), (by first | assumption | omega), (by first | assumption | omega), (by first | assumption | omega), (by first | assumption | omega), (by first | assumption | omega), (by first | assumption | omega), (by first | assumption | omega), (by first | assumption | omega), (by first | assumption | omega), (by first | assumption | omega), (by first | assumption | omega)⟩ (Or.inl ⟨h_1, rfl, rfl⟩)
  · refine ex1 hw ?_
    clear hw
    intro k__2 hw
    refine an4 hw ?_
    clear hw
    intro he_r he_u h_3 h_4 hw
    have h_5 := hw
    clear hw
    have he_r := he_r.symm
    subst he_r
    subst he_u
    refine ww_subT (w1 := [(hx, .inr (11, [.ref h, .ref qp, .int (nI ac), .int (nI np), .ref qs, .ref qj, .ref ly, .ref qh, .ref kk, .int (nI kc), .ref rd, .ref pg, .int (nI pe), .int kn, .ref ss])), (ss, .inl (E.2.1 8, 4, .inr (.inr (.inr (.inr fss))))), (s0, .inr (9, [.int (nI s0t), .int (nI s0n), .int (nI s0l), .ref s0c])), (s0c, .inl (E.2.1 1, 48, .inl s0f)), (s1, .inr (9, [.int (nI s1t), .int (nI s1n), .int (nI s1l), .ref s1c])), (s1c, .inl (E.2.1 1, 48, .inl s1f)), (s2, .inr (9, [.int (nI s2t), .int (nI s2n), .int (nI s2l), .ref s2c])), (s2c, .inl (E.2.1 1, 48, .inl s2f)), (s3, .inr (9, [.int (nI s3t), .int (nI s3n), .int (nI s3l), .ref s3c])), (s3c, .inl (E.2.1 1, 48, .inl s3f))]) [0, 1, 2, 3, 4, 5, 6, 7, 8, 9] (ndk (by decide +kernel)) (gqk (by eq_refl)) ?_
    exact kont (-11) (pick4 s0f s1f s2f s3f) [(ss, .inl (E.2.1 8, 4, .inr (.inr (.inr (.inr fss))))), (s0, .inr (9, [.int (nI s0t), .int (nI s0n), .int (nI s0l), .ref s0c])), (s0c, .inl (E.2.1 1, 48, .inl s0f)), (s1, .inr (9, [.int (nI s1t), .int (nI s1n), .int (nI s1l), .ref s1c])), (s1c, .inl (E.2.1 1, 48, .inl s1f)), (s2, .inr (9, [.int (nI s2t), .int (nI s2n), .int (nI s2l), .ref s2c])), (s2c, .inl (E.2.1 1, 48, .inl s2f)), (s3, .inr (9, [.int (nI s3t), .int (nI s3n), .int (nI s3l), .ref s3c])), (s3c, .inl (E.2.1 1, 48, .inl s3f))]  ⟨fss, s0, s1, s2, s3, s0t, s0n, s0l, s0c, s0f, s1t, s1n, s1l, s1c, s1f, s2t, s2n, s2l, s2c, s2f, s3t, s3n, s3l, s3c, s3f, rfl, k_fss_0, k_fss_1, k_fss_2, k_fss_3, rfl, rfl, rfl, rfl, (by first | assumption | omega), (by first | assumption | omega), (by first | assumption | omega), (by first | assumption | omega), (by first | assumption | omega), (by first | assumption | omega), (by first | assumption | omega), (by first | assumption | omega), (by first | assumption | omega), (by first | assumption | omega), (by first | assumption | omega), (by first | assumption | omega)⟩ (Or.inr (⟨_, h_3, h_4, Or.inl ⟨h_5, rfl, rfl⟩⟩))
  · refine ex1 hw ?_
    clear hw
    intro k__6 hw
    refine an5 hw ?_
    clear hw
    intro he_r he_u h_7 h_8 h_9 hw
    have h_10 := hw
    clear hw
    have he_r := he_r.symm
    subst he_r
    subst he_u
    refine ww_subT (w1 := [(hx, .inr (11, [.ref h, .ref qp, .int (nI ac), .int (nI np), .ref qs, .ref qj, .ref ly, .ref qh, .ref kk, .int (nI kc), .ref rd, .ref pg, .int (nI pe), .int kn, .ref ss])), (ss, .inl (E.2.1 8, 4, .inr (.inr (.inr (.inr fss))))), (s0, .inr (9, [.int (nI s0t), .int (nI s0n), .int (nI s0l), .ref s0c])), (s0c, .inl (E.2.1 1, 48, .inl s0f)), (s1, .inr (9, [.int (nI s1t), .int (nI s1n), .int (nI s1l), .ref s1c])), (s1c, .inl (E.2.1 1, 48, .inl s1f)), (s2, .inr (9, [.int (nI s2t), .int (nI s2n), .int (nI s2l), .ref s2c])), (s2c, .inl (E.2.1 1, 48, .inl s2f)), (s3, .inr (9, [.int (nI s3t), .int (nI s3n), .int (nI s3l), .ref s3c])), (s3c, .inl (E.2.1 1, 48, .inl s3f))]) [0, 1, 2, 3, 4, 5, 6, 7, 8, 9] (ndk (by decide +kernel)) (gqk (by eq_refl)) ?_
    exact kont (-12) (pick4 s0f s1f s2f s3f) [(ss, .inl (E.2.1 8, 4, .inr (.inr (.inr (.inr fss))))), (s0, .inr (9, [.int (nI s0t), .int (nI s0n), .int (nI s0l), .ref s0c])), (s0c, .inl (E.2.1 1, 48, .inl s0f)), (s1, .inr (9, [.int (nI s1t), .int (nI s1n), .int (nI s1l), .ref s1c])), (s1c, .inl (E.2.1 1, 48, .inl s1f)), (s2, .inr (9, [.int (nI s2t), .int (nI s2n), .int (nI s2l), .ref s2c])), (s2c, .inl (E.2.1 1, 48, .inl s2f)), (s3, .inr (9, [.int (nI s3t), .int (nI s3n), .int (nI s3l), .ref s3c])), (s3c, .inl (E.2.1 1, 48, .inl s3f))]  ⟨fss, s0, s1, s2, s3, s0t, s0n, s0l, s0c, s0f, s1t, s1n, s1l, s1c, s1f, s2t, s2n, s2l, s2c, s2f, s3t, s3n, s3l, s3c, s3f, rfl, k_fss_0, k_fss_1, k_fss_2, k_fss_3, rfl, rfl, rfl, rfl, (by first | assumption | omega), (by first | assumption | omega), (by first | assumption | omega), (by first | assumption | omega), (by first | assumption | omega), (by first | assumption | omega), (by first | assumption | omega), (by first | assumption | omega), (by first | assumption | omega), (by first | assumption | omega), (by first | assumption | omega), (by first | assumption | omega)⟩ (Or.inr (⟨_, h_7, h_8, Or.inr (Or.inl ⟨h_9, h_10, rfl, rfl⟩)⟩))
  · refine ex6 hw ?_
    clear hw
    intro k__11 i__12 s0fz_13 s1fz_14 s2fz_15 s3fz_16 hw
    refine an8 hw ?_
    clear hw
    intro he_r he_u h_17 h_18 h_19 h_20 h_21 h_22 hw
    refine an1 hw ?_
    clear hw
    intro h_23 hw
    have h_24 := hw
    clear hw
    have he_r := he_r.symm
    subst he_r
    subst he_u
    refine ww_subT (w1 := [(hx, .inr (11, [.ref h, .ref qp, .int (nI ac), .int (nI np), .ref qs, .ref qj, .ref ly, .ref qh, .ref kk, .int (nI kc), .ref rd, .ref pg, .int (nI pe), .int kn, .ref ss])), (ss, .inl (E.2.1 8, 4, .inr (.inr (.inr (.inr fss))))), (s0, .inr (9, [.int (nI s0t), .int (nI s0n), .int (nI s0l), .ref s0c])), (s0c, .inl (E.2.1 1, 48, .inl s0fz_13)), (s1, .inr (9, [.int (nI s1t), .int (nI s1n), .int (nI s1l), .ref s1c])), (s1c, .inl (E.2.1 1, 48, .inl s1fz_14)), (s2, .inr (9, [.int (nI s2t), .int (nI s2n), .int (nI s2l), .ref s2c])), (s2c, .inl (E.2.1 1, 48, .inl s2fz_15)), (s3, .inr (9, [.int (nI s3t), .int (nI s3n), .int (nI s3l), .ref s3c])), (s3c, .inl (E.2.1 1, 48, .inl s3fz_16))]) [0, 1, 2, 3, 4, 5, 6, 7, 8, 9] (ndk (by decide +kernel)) (gqk (by eq_refl)) ?_
    exact kont (1) (pick4 s0fz_13 s1fz_14 s2fz_15 s3fz_16) [(ss, .inl (E.2.1 8, 4, .inr (.inr (.inr (.inr fss))))), (s0, .inr (9, [.int (nI s0t), .int (nI s0n), .int (nI s0l), .ref s0c])), (s0c, .inl (E.2.1 1, 48, .inl s0fz_13)), (s1, .inr (9, [.int (nI s1t), .int (nI s1n), .int (nI s1l), .ref s1c])), (s1c, .inl (E.2.1 1, 48, .inl s1fz_14)), (s2, .inr (9, [.int (nI s2t), .int (nI s2n), .int (nI s2l), .ref s2c])), (s2c, .inl (E.2.1 1, 48, .inl s2fz_15)), (s3, .inr (9, [.int (nI s3t), .int (nI s3n), .int (nI s3l), .ref s3c])), (s3c, .inl (E.2.1 1, 48, .inl s3fz_16))]  ⟨fss, s0, s1, s2, s3, s0t, s0n, s0l, s0c, s0fz_13, s1t, s1n, s1l, s1c, s1fz_14, s2t, s2n, s2l, s2c, s2fz_15, s3t, s3n, s3l, s3c, s3fz_16, rfl, k_fss_0, k_fss_1, k_fss_2, k_fss_3, rfl, rfl, rfl, rfl, (by first | assumption | omega), (by first | assumption | omega), (by first | assumption | omega), (by first | assumption | omega), (by first | assumption | omega), (by first | assumption | omega), (by first | assumption | omega), (by first | assumption | omega), (by first | assumption | omega), (by first | assumption | omega), (by first | assumption | omega), (by first | assumption | omega)⟩ (Or.inr (⟨_, h_17, h_18, Or.inr (Or.inr ⟨h_19, h_20, rfl, _, h_21, h_22, h_23, h_24⟩)⟩))
theorem wc_X11_read : Cond.code yX11_read cX11_read 7 (some .int) ∈ TB := tbm (tq5 (List.mem_of_getElem? (i := 49) (rfl))) (by decide +kernel)
theorem wi_X11_read : Cond.instanceMethod yX11_read ∈ TB := tbm (tq5 (List.mem_of_getElem? (i := 47) (by decide +kernel))) (by decide +kernel)
theorem ws_X11_read : Cond.selects RX11 yX11_read yX11_read ∈ TB := tbm (tq5 (List.mem_of_getElem? (i := 48) (by decide +kernel))) (by decide +kernel)
theorem mi_X11_read : MI yX11_read cX11_read 7 (some .int) 4 := ⟨wc_X11_read, wn_X11, ⟨by decide +kernel, by decide +kernel, by decide +kernel⟩, wi_X11_read, ws_X11_read⟩
theorem wl_L_164 : Cond.methodLink RL 164 yX11_read ∈ TB := tbm (tq5 (List.mem_of_getElem? (i := 46) (by decide +kernel))) (by decide +kernel)
theorem dL_law_1384 : decode cL_law 1384 = .ok (.invokevirtual 164, 3) := dl_182 (by decide +kernel)
set_option maxRecDepth 100000 in
set_option maxHeartbeats 4000000 in
theorem lx_read {X : XT} {E : EV} {ro wT pre : va_W} {lv : List (Nat × Value)} {rest : List Value} {kC nC : Nat} {hx h qp qs qj ly qh kk rd pg ss : Nat} {ac np kc pe : Nat} {kn : Int32} {mN : AM} {pV : Nat → AM} {st : Nat → Nat} {sn : Nat → Nat} {sl : Nat → Nat} {scx : Nat → Nat → Int32} {w_now : va_W} {w_past : va_W} {w_shts : va_W} {v0 : Int32} {v1 : Int32} {v2 : Int32} {v3 : Int32}  (C : CX X room_1 cL_law 4 RL ret E) (hW : Nat.ble (rest.map fun v => v.category).sum 8 = true) (hT : wT = pre ++ ro) (hk : kC + 0 ≤ 600000 ∧ nC + 0 ≤ 7302250) (hac : ac ≤ 8) (hnp : np < 8) (hkc : kc ≤ 4) (hpe : pe ≤ 4) (H_now : ok_now E ro h mN w_now) (H_past : ok_past E ro qp pV w_past) (H_shts : ok_shts E ro ss st sn sl scx w_shts) (kont : ∀ (rr : Int32) (acZ : Nat) (npZ : Nat) (mNZ : AM) (pVZ : Nat → AM) (w_nowZ : va_W) (w_pastZ : va_W) (w_shtsZ : va_W), acZ ≤ 8 → npZ < 8 → ok_now E ro h mNZ w_nowZ → ok_past E ro qp pVZ w_pastZ → ok_shts E ro ss st sn sl scx w_shtsZ → ((((v0.toInt < 0 ∨ 3 < v0.toInt ∨ v1.toInt < 0 ∨ 2 < v1.toInt ∨ v3.toInt < 0 ∨ 24 < v3.toInt) ∧ rr = -1) ∨ ∃ k_ l_ n_ : Nat, v0 = nI k_ ∧ v1 = nI l_ ∧ v3 = nI n_ ∧ k_ ≤ 3 ∧ l_ ≤ 2 ∧ n_ ≤ 24 ∧ rr = rdA (st k_) (sl k_) (sn k_) (scx k_) l_ v2 n_) ∧ ((rr.toInt < 0 ∧ (asX mNZ acZ npZ pVZ) = (asX mN ac np pV)) ∨ ∃ k_ n_ : Nat, v0 = nI k_ ∧ k_ ≤ 3 ∧ v3 = nI n_ ∧ n_ ≤ 24 ∧ rr = nI n_ ∧ (∀ i, i < n_ → 0 ≤ v2.toInt ∧ v2.toInt + i < ((sn k_ : Nat) : Int)) ∧ (asX mNZ acZ npZ pVZ) = aRem (asX mN ac np pV) (aRd (fun i_ => scx k_ (v2.toInt.toNat + i_)) n_))) → WW X 4 E 1387 lv (.int rr :: rest) ([(hx, .inr (11, [.ref h, .ref qp, .int (nI acZ), .int (nI npZ), .ref qs, .ref qj, .ref ly, .ref qh, .ref kk, .int (nI kc), .ref rd, .ref pg, .int (nI pe), .int kn, .ref ss]))] ++ (w_nowZ ++ (w_pastZ ++ (w_shtsZ ++ wT)))) kC nC) : WW X 4 E 1384 lv (.int v3 :: .int v2 :: .int v1 :: .int v0 :: .ref hx :: rest) ([(hx, .inr (11, [.ref h, .ref qp, .int (nI ac), .int (nI np), .ref qs, .ref qj, .ref ly, .ref qh, .ref kk, .int (nI kc), .ref rd, .ref pg, .int (nI pe), .int kn, .ref ss]))] ++ (w_now ++ (w_past ++ (w_shts ++ wT)))) kC nC := by
  unfold ok_now at H_now
  refine ex6 H_now ?_
  clear H_now
  intro n r a b f gg H_now
  refine an4 H_now ?_
  clear H_now
  intro we_now hn hr hwfm H_now
  have hmN := H_now
  clear H_now
  subst we_now
  subst hmN
  unfold ok_past at H_past
  refine ex8 H_past ?_
  clear H_past
  intro fqp p0 p1 p2 p3 p4 p5 p6 H_past
  refine ex8 H_past ?_
  clear H_past
  intro p7 p0n p0r p0a p0b p0f p0g p1n H_past
  refine ex8 H_past ?_
  clear H_past
  intro p1r p1a p1b p1f p1g p2n p2r p2a H_past
  refine ex8 H_past ?_
  clear H_past
  intro p2b p2f p2g p3n p3r p3a p3b p3f H_past
  refine ex8 H_past ?_
  clear H_past
  intro p3g p4n p4r p4a p4b p4f p4g p5n H_past
  refine ex8 H_past ?_
  clear H_past
  intro p5r p5a p5b p5f p5g p6n p6r p6a H_past
  refine ex8 H_past ?_
  clear H_past
  intro p6b p6f p6g p7n p7r p7a p7b p7f H_past
  refine ex1 H_past ?_
  clear H_past
  intro p7g H_past
  refine an8 H_past ?_
  clear H_past
  intro we_past k_fqp_0 k_fqp_1 k_fqp_2 k_fqp_3 k_fqp_4 k_fqp_5 k_fqp_6 H_past
  refine an8 H_past ?_
  clear H_past
  intro k_fqp_7 hp0_n hp0_r hp0_w hp1_n hp1_r hp1_w hp2_n H_past
  refine an8 H_past ?_
  clear H_past
  intro hp2_r hp2_w hp3_n hp3_r hp3_w hp4_n hp4_r hp4_w H_past
  refine an8 H_past ?_
  clear H_past
  intro hp5_n hp5_r hp5_w hp6_n hp6_r hp6_w hp7_n hp7_r H_past
  refine an1 H_past ?_
  clear H_past
  intro hp7_w H_past
  have hpV := H_past
  clear H_past
  subst we_past
  subst hpV
  unfold ok_shts at H_shts
  refine ex8 H_shts ?_
  clear H_shts
  intro fss s0 s1 s2 s3 s0t s0n s0l H_shts
  refine ex8 H_shts ?_
  clear H_shts
  intro s0c s0f s1t s1n s1l s1c s1f s2t H_shts
  refine ex8 H_shts ?_
  clear H_shts
  intro s2n s2l s2c s2f s3t s3n s3l s3c H_shts
  refine ex1 H_shts ?_
  clear H_shts
  intro s3f H_shts
  refine an8 H_shts ?_
  clear H_shts
  intro we_shts k_fss_0 k_fss_1 k_fss_2 k_fss_3 hst hsn hsl H_shts
  refine an8 H_shts ?_
  clear H_shts
  intro hsc hs0t hs0n hs0l hs1t hs1n hs1l hs2t H_shts
  refine an4 H_shts ?_
  clear H_shts
  intro hs2n hs2l hs3t hs3n H_shts
  have hs3l := H_shts
  clear H_shts
  subst we_shts
  subst hst
  subst hsn
  subst hsl
  subst hsc
  refine ww_eq (ws' := [(hx, .inr (11, [.ref h, .ref qp, .int (nI ac), .int (nI np), .ref qs, .ref qj, .ref ly, .ref qh, .ref kk, .int (nI kc), .ref rd, .ref pg, .int (nI pe), .int kn, .ref ss])), (h, .inr (4, [.int (nI n), .int (nI r), .ref a, .ref b])), (a, .inl (E.2.1 1, 24, .inl f)), (b, .inl (E.2.1 1, 96, .inl gg)), (qp, .inl (E.2.1 6, 8, .inr (.inr (.inr (.inr fqp))))), (p0, .inr (4, [.int (nI p0n), .int (nI p0r), .ref p0a, .ref p0b])), (p0a, .inl (E.2.1 1, 24, .inl p0f)), (p0b, .inl (E.2.1 1, 96, .inl p0g)), (p1, .inr (4, [.int (nI p1n), .int (nI p1r), .ref p1a, .ref p1b])), (p1a, .inl (E.2.1 1, 24, .inl p1f)), (p1b, .inl (E.2.1 1, 96, .inl p1g)), (p2, .inr (4, [.int (nI p2n), .int (nI p2r), .ref p2a, .ref p2b])), (p2a, .inl (E.2.1 1, 24, .inl p2f)), (p2b, .inl (E.2.1 1, 96, .inl p2g)), (p3, .inr (4, [.int (nI p3n), .int (nI p3r), .ref p3a, .ref p3b])), (p3a, .inl (E.2.1 1, 24, .inl p3f)), (p3b, .inl (E.2.1 1, 96, .inl p3g)), (p4, .inr (4, [.int (nI p4n), .int (nI p4r), .ref p4a, .ref p4b])), (p4a, .inl (E.2.1 1, 24, .inl p4f)), (p4b, .inl (E.2.1 1, 96, .inl p4g)), (p5, .inr (4, [.int (nI p5n), .int (nI p5r), .ref p5a, .ref p5b])), (p5a, .inl (E.2.1 1, 24, .inl p5f)), (p5b, .inl (E.2.1 1, 96, .inl p5g)), (p6, .inr (4, [.int (nI p6n), .int (nI p6r), .ref p6a, .ref p6b])), (p6a, .inl (E.2.1 1, 24, .inl p6f)), (p6b, .inl (E.2.1 1, 96, .inl p6g)), (p7, .inr (4, [.int (nI p7n), .int (nI p7r), .ref p7a, .ref p7b])), (p7a, .inl (E.2.1 1, 24, .inl p7f)), (p7b, .inl (E.2.1 1, 96, .inl p7g)), (ss, .inl (E.2.1 8, 4, .inr (.inr (.inr (.inr fss))))), (s0, .inr (9, [.int (nI s0t), .int (nI s0n), .int (nI s0l), .ref s0c])), (s0c, .inl (E.2.1 1, 48, .inl s0f)), (s1, .inr (9, [.int (nI s1t), .int (nI s1n), .int (nI s1l), .ref s1c])), (s1c, .inl (E.2.1 1, 48, .inl s1f)), (s2, .inr (9, [.int (nI s2t), .int (nI s2n), .int (nI s2l), .ref s2c])), (s2c, .inl (E.2.1 1, 48, .inl s2f)), (s3, .inr (9, [.int (nI s3t), .int (nI s3n), .int (nI s3l), .ref s3c])), (s3c, .inl (E.2.1 1, 48, .inl s3f))] ++ wT) ?_ rfl rfl rfl
  refine ww_ciT (k' := kC) (n' := nC) (wr := []) C (run_V (As := [.int v0, .int v1, .int v2, .int v3]) (rest := rest) C (x_read X.2.1 E ro hx v0 v1 v2 v3 h qp ac np qs qj ly qh kk kc rd pg pe kn ss fqp p0 p1 p2 p3 p4 p5 p6 p7 p0n p0r p0a p0b p0f p0g p1n p1r p1a p1b p1f p1g p2n p2r p2a p2b p2f p2g p3n p3r p3a p3b p3f p3g p4n p4r p4a p4b p4f p4g p5n p5r p5a p5b p5f p5g p6n p6r p6a p6b p6f p6g p7n p7r p7a p7b p7f p7g n r a b f gg fss s0 s1 s2 s3 s0t s0n s0l s0c s0f s1t s1n s1l s1c s1f s2t s2n s2l s2c s2f s3t s3n s3l s3c s3f k_fqp_0 k_fqp_1 k_fqp_2 k_fqp_3 k_fqp_4 k_fqp_5 k_fqp_6 k_fqp_7 k_fss_0 k_fss_1 k_fss_2 k_fss_3 (by first | assumption | omega) (by first | assumption | omega) (by first | assumption | omega) (by first | assumption | omega) (by first | assumption | omega) (by first | assumption | omega) (by first | assumption | omega) (by first | assumption | omega) (by first | assumption | omega) (by first | assumption | omega) (by first | assumption | omega) (by first | assumption | omega) (by first | assumption | omega) (by first | assumption | omega) (by first | assumption | omega) (by first | assumption | omega) (by first | assumption | omega) (by first | assumption | omega) (by first | assumption | omega) (by first | assumption | omega) (by first | assumption | omega) (by first | assumption | omega) (by first | assumption | omega) (by first | assumption | omega) (by first | assumption | omega) (by first | assumption | omega) (by first | assumption | omega) (by first | assumption | omega) (by first | assumption | omega) (by first | assumption | omega) (by first | assumption | omega) (by first | assumption | omega) (by first | assumption | omega) (by first | assumption | omega) (by first | assumption | omega) (by first | assumption | omega) (by first | assumption | omega) (by first | assumption | omega) (by first | assumption | omega) (by first | assumption | omega) (by first | assumption | omega) (by first | assumption | omega) (by first | assumption | omega)) mi_X11_read wl_L_164 rfl 0 11 rfl rfl rfl rfl hW dL_law_1384) (roT (pre := pre) [0, 4, 5, 6, 7, 8, 9, 10, 11, 12, 13, 14, 15, 16, 17, 18, 19, 20, 21, 22, 23, 24, 25, 26, 27, 28, 1, 2, 3, 29, 30, 31, 32, 33, 34, 35, 36, 37] rfl hT) [0, 4, 5, 6, 7, 8, 9, 10, 11, 12, 13, 14, 15, 16, 17, 18, 19, 20, 21, 22, 23, 24, 25, 26, 27, 28, 1, 2, 3, 29, 30, 31, 32, 33, 34, 35, 36, 37] [] (gqk (by eq_refl)) rfl (plk (by decide +kernel)) ⟨by omega, by omega, hk.1, hk.2⟩ (fun rr u hw => ?_)
  refine ex8 hw ?_
  clear hw
  intro acz_1 npz_2 p0nz_3 p0rz__4 p0fz_5 p0gz_6 p1nz_7 p1rz__8 hw
  refine ex8 hw ?_
  clear hw
  intro p1fz_9 p1gz_10 p2nz_11 p2rz__12 p2fz_13 p2gz_14 p3nz_15 p3rz__16 hw
  refine ex8 hw ?_
  clear hw
  intro p3fz_17 p3gz_18 p4nz_19 p4rz__20 p4fz_21 p4gz_22 p5nz_23 p5rz__24 hw
  refine ex8 hw ?_
  clear hw
  intro p5fz_25 p5gz_26 p6nz_27 p6rz__28 p6fz_29 p6gz_30 p7nz_31 p7rz__32 hw
  refine ex6 hw ?_
  clear hw
  intro p7fz_33 p7gz_34 nz_35 rz__36 fz_37 ggz_38 hw
  refine an8 hw ?_
  clear hw
  intro he_u h_39 h_40 h_41 h_42 h_43 h_44 h_45 hw
  refine an8 hw ?_
  clear hw
  intro h_46 h_47 h_48 h_49 h_50 h_51 h_52 h_53 hw
  refine an8 hw ?_
  clear hw
  intro h_54 h_55 h_56 h_57 h_58 h_59 h_60 h_61 hw
  refine an7 hw ?_
  clear hw
  intro h_62 h_63 h_64 h_65 h_66 h_67 h_68 hw
  have h_69 := hw
  clear hw
  subst he_u
  refine ww_subT (w1 := [(hx, .inr (11, [.ref h, .ref qp, .int (nI acz_1), .int (nI npz_2), .ref qs, .ref qj, .ref ly, .ref qh, .ref kk, .int (nI kc), .ref rd, .ref pg, .int (nI pe), .int kn, .ref ss])), (h, .inr (4, [.int (nI nz_35), .int (nI rz__36), .ref a, .ref b])), (a, .inl (E.2.1 1, 24, .inl fz_37)), (b, .inl (E.2.1 1, 96, .inl ggz_38)), (qp, .inl (E.2.1 6, 8, .inr (.inr (.inr (.inr fqp))))), (p0, .inr (4, [.int (nI p0nz_3), .int (nI p0rz__4), .ref p0a, .ref p0b])), (p0a, .inl (E.2.1 1, 24, .inl p0fz_5)), (p0b, .inl (E.2.1 1, 96, .inl p0gz_6)), (p1, .inr (4, [.int (nI p1nz_7), .int (nI p1rz__8), .ref p1a, .ref p1b])), (p1a, .inl (E.2.1 1, 24, .inl p1fz_9)), (p1b, .inl (E.2.1 1, 96, .inl p1gz_10)), (p2, .inr (4, [.int (nI p2nz_11), .int (nI p2rz__12), .ref p2a, .ref p2b])), (p2a, .inl (E.2.1 1, 24, .inl p2fz_13)), (p2b, .inl (E.2.1 1, 96, .inl p2gz_14)), (p3, .inr (4, [.int (nI p3nz_15), .int (nI p3rz__16), .ref p3a, .ref p3b])), (p3a, .inl (E.2.1 1, 24, .inl p3fz_17)), (p3b, .inl (E.2.1 1, 96, .inl p3gz_18)), (p4, .inr (4, [.int (nI p4nz_19), .int (nI p4rz__20), .ref p4a, .ref p4b])), (p4a, .inl (E.2.1 1, 24, .inl p4fz_21)), (p4b, .inl (E.2.1 1, 96, .inl p4gz_22)), (p5, .inr (4, [.int (nI p5nz_23), .int (nI p5rz__24), .ref p5a, .ref p5b])), (p5a, .inl (E.2.1 1, 24, .inl p5fz_25)), (p5b, .inl (E.2.1 1, 96, .inl p5gz_26)), (p6, .inr (4, [.int (nI p6nz_27), .int (nI p6rz__28), .ref p6a, .ref p6b])), (p6a, .inl (E.2.1 1, 24, .inl p6fz_29)), (p6b, .inl (E.2.1 1, 96, .inl p6gz_30)), (p7, .inr (4, [.int (nI p7nz_31), .int (nI p7rz__32), .ref p7a, .ref p7b])), (p7a, .inl (E.2.1 1, 24, .inl p7fz_33)), (p7b, .inl (E.2.1 1, 96, .inl p7gz_34)), (ss, .inl (E.2.1 8, 4, .inr (.inr (.inr (.inr fss))))), (s0, .inr (9, [.int (nI s0t), .int (nI s0n), .int (nI s0l), .ref s0c])), (s0c, .inl (E.2.1 1, 48, .inl s0f)), (s1, .inr (9, [.int (nI s1t), .int (nI s1n), .int (nI s1l), .ref s1c])), (s1c, .inl (E.2.1 1, 48, .inl s1f)), (s2, .inr (9, [.int (nI s2t), .int (nI s2n), .int (nI s2l), .ref s2c])), (s2c, .inl (E.2.1 1, 48, .inl s2f)), (s3, .inr (9, [.int (nI s3t), .int (nI s3n), .int (nI s3l), .ref s3c])), (s3c, .inl (E.2.1 1, 48, .inl s3f))]) [0, 26, 27, 28, 1, 2, 3, 4, 5, 6, 7, 8, 9, 10, 11, 12, 13, 14, 15, 16, 17, 18, 19, 20, 21, 22, 23, 24, 25, 29, 30, 31, 32, 33, 34, 35, 36, 37] (ndk (by decide +kernel)) (gqk (by eq_refl)) ?_
  exact kont rr acz_1 npz_2 (am nz_35 rz__36 fz_37 ggz_38) (pick8 (am p0nz_3 p0rz__4 p0fz_5 p0gz_6) (am p1nz_7 p1rz__8 p1fz_9 p1gz_10) (am p2nz_11 p2rz__12 p2fz_13 p2gz_14) (am p3nz_15 p3rz__16 p3fz_17 p3gz_18) (am p4nz_19 p4rz__20 p4fz_21 p4gz_22) (am p5nz_23 p5rz__24 p5fz_25 p5gz_26) (am p6nz_27 p6rz__28 p6fz_29 p6gz_30) (am p7nz_31 p7rz__32 p7fz_33 p7gz_34)) [(h, .inr (4, [.int (nI nz_35), .int (nI rz__36), .ref a, .ref b])), (a, .inl (E.2.1 1, 24, .inl fz_37)), (b, .inl (E.2.1 1, 96, .inl ggz_38))] [(qp, .inl (E.2.1 6, 8, .inr (.inr (.inr (.inr fqp))))), (p0, .inr (4, [.int (nI p0nz_3), .int (nI p0rz__4), .ref p0a, .ref p0b])), (p0a, .inl (E.2.1 1, 24, .inl p0fz_5)), (p0b, .inl (E.2.1 1, 96, .inl p0gz_6)), (p1, .inr (4, [.int (nI p1nz_7), .int (nI p1rz__8), .ref p1a, .ref p1b])), (p1a, .inl (E.2.1 1, 24, .inl p1fz_9)), (p1b, .inl (E.2.1 1, 96, .inl p1gz_10)), (p2, .inr (4, [.int (nI p2nz_11), .int (nI p2rz__12), .ref p2a, .ref p2b])), (p2a, .inl (E.2.1 1, 24, .inl p2fz_13)), (p2b, .inl (E.2.1 1, 96, .inl p2gz_14)), (p3, .inr (4, [.int (nI p3nz_15), .int (nI p3rz__16), .ref p3a, .ref p3b])), (p3a, .inl (E.2.1 1, 24, .inl p3fz_17)), (p3b, .inl (E.2.1 1, 96, .inl p3gz_18)), (p4, .inr (4, [.int (nI p4nz_19), .int (nI p4rz__20), .ref p4a, .ref p4b])), (p4a, .inl (E.2.1 1, 24, .inl p4fz_21)), (p4b, .inl (E.2.1 1, 96, .inl p4gz_22)), (p5, .inr (4, [.int (nI p5nz_23), .int (nI p5rz__24), .ref p5a, .ref p5b])), (p5a, .inl (E.2.1 1, 24, .inl p5fz_25)), (p5b, .inl (E.2.1 1, 96, .inl p5gz_26)), (p6, .inr (4, [.int (nI p6nz_27), .int (nI p6rz__28), .ref p6a, .ref p6b])), (p6a, .inl (E.2.1 1, 24, .inl p6fz_29)), (p6b, .inl (E.2.1 1, 96, .inl p6gz_30)), (p7, .inr (4, [.int (nI p7nz_31), .int (nI p7rz__32), .ref p7a, .ref p7b])), (p7a, .inl (E.2.1 1, 24, .inl p7fz_33)), (p7b, .inl (E.2.1 1, 96, .inl p7gz_34))] [(ss, .inl (E.2.1 8, 4, .inr (.inr (.inr (.inr fss))))), (s0, .inr (9, [.int (nI s0t), .int (nI s0n), .int (nI s0l), .ref s0c])), (s0c, .inl (E.2.1 1, 48, .inl s0f)), (s1, .inr (9, [.int (nI s1t), .int (nI s1n), .int (nI s1l), .ref s1c])), (s1c, .inl (E.2.1 1, 48, .inl s1f)), (s2, .inr (9, [.int (nI s2t), .int (nI s2n), .int (nI s2l), .ref s2c])), (s2c, .inl (E.2.1 1, 48, .inl s2f)), (s3, .inr (9, [.int (nI s3t), .int (nI s3n), .int (nI s3l), .ref s3c])), (s3c, .inl (E.2.1 1, 48, .inl s3f))] (by first | assumption | omega) (by first | assumption | omega) ⟨nz_35, rz__36, a, b, fz_37, ggz_38, rfl, (by first | assumption | omega), (by first | assumption | omega), (by first | assumption | omega), rfl⟩ ⟨fqp, p0, p1, p2, p3, p4, p5, p6, p7, p0nz_3, p0rz__4, p0a, p0b, p0fz_5, p0gz_6, p1nz_7, p1rz__8, p1a, p1b, p1fz_9, p1gz_10, p2nz_11, p2rz__12, p2a, p2b, p2fz_13, p2gz_14, p3nz_15, p3rz__16, p3a, p3b, p3fz_17, p3gz_18, p4nz_19, p4rz__20, p4a, p4b, p4fz_21, p4gz_22, p5nz_23, p5rz__24, p5a, p5b, p5fz_25, p5gz_26, p6nz_27, p6rz__28, p6a, p6b, p6fz_29, p6gz_30, p7nz_31, p7rz__32, p7a, p7b, p7fz_33, p7gz_34, rfl, k_fqp_0, k_fqp_1, k_fqp_2, k_fqp_3, k_fqp_4, k_fqp_5, k_fqp_6, k_fqp_7, (by first | assumption | omega), (by first | assumption | omega), (by first | assumption | omega), (by first | assumption | omega), (by first | assumption | omega), (by first | assumption | omega), (by first | assumption | omega), (by first | assumption | omega), (by first | assumption | omega), (by first | assumption | omega), (by first | assumption | omega), (by first | assumption | omega), (by first | assumption | omega), (by first | assumption | omega), (by first | assumption | omega), (by first | assumption | omega), (by first | assumption | omega), (by first | assumption | omega), (by first | assumption | omega), (by first | assumption | omega), (by first | assumption | omega), (by first | assumption | omega), (by first | assumption | omega), (by first | assumption | omega), rfl⟩ ⟨fss, s0, s1, s2, s3, s0t, s0n, s0l, s0c, s0f, s1t, s1n, s1l, s1c, s1f, s2t, s2n, s2l, s2c, s2f, s3t, s3n, s3l, s3c, s3f, rfl, k_fss_0, k_fss_1, k_fss_2, k_fss_3, rfl, rfl, rfl, rfl, (by first | assumption | omega), (by first | assumption | omega), (by first | assumption | omega), (by first | assumption | omega), (by first | assumption | omega), (by first | assumption | omega), (by first | assumption | omega), (by first | assumption | omega), (by first | assumption | omega), (by first | assumption | omega), (by first | assumption | omega), (by first | assumption | omega)⟩ (⟨h_68, h_69⟩)
theorem wc_X11_undo : Cond.code yX11_undo cX11_undo 1 (some .int) ∈ TB := tbm (tq5 (List.mem_of_getElem? (i := 59) (rfl))) (by decide +kernel)
theorem wi_X11_undo : Cond.instanceMethod yX11_undo ∈ TB := tbm (tq5 (List.mem_of_getElem? (i := 57) (by decide +kernel))) (by decide +kernel)
theorem ws_X11_undo : Cond.selects RX11 yX11_undo yX11_undo ∈ TB := tbm (tq5 (List.mem_of_getElem? (i := 58) (by decide +kernel))) (by decide +kernel)
theorem mi_X11_undo : MI yX11_undo cX11_undo 1 (some .int) 0 := ⟨wc_X11_undo, wn_X11, ⟨by decide +kernel, by decide +kernel, by decide +kernel⟩, wi_X11_undo, ws_X11_undo⟩
theorem wl_L_168 : Cond.methodLink RL 168 yX11_undo ∈ TB := tbm (tq5 (List.mem_of_getElem? (i := 56) (by decide +kernel))) (by decide +kernel)
theorem dL_law_1417 : decode cL_law 1417 = .ok (.invokevirtual 168, 3) := dl_182 (by decide +kernel)
set_option maxRecDepth 100000 in
set_option maxHeartbeats 4000000 in
theorem lx_undo {X : XT} {E : EV} {ro wT pre : va_W} {lv : List (Nat × Value)} {rest : List Value} {kC nC : Nat} {hx h qp qs qj ly qh kk rd pg ss : Nat} {ac np kc pe : Nat} {kn : Int32} {mN : AM} {pV : Nat → AM} {w_now : va_W} {w_past : va_W}  (C : CX X room_1 cL_law 4 RL ret E) (hW : Nat.ble (rest.map fun v => v.category).sum 8 = true) (hT : wT = pre ++ ro) (hk : kC + 0 ≤ 600000 ∧ nC + 0 ≤ 7302250) (hac : ac ≤ 8) (hnp : np < 8) (hkc : kc ≤ 4) (hpe : pe ≤ 4) (H_now : ok_now E ro h mN w_now) (H_past : ok_past E ro qp pV w_past) (kont : ∀ (rr : Int32) (acZ : Nat) (npZ : Nat) (mNZ : AM) (pVZ : Nat → AM) (w_nowZ : va_W) (w_pastZ : va_W), acZ ≤ 8 → npZ < 8 → ok_now E ro h mNZ w_nowZ → ok_past E ro qp pVZ w_pastZ → (((asX mNZ acZ npZ pVZ), rr) = opUndo (asX mN ac np pV)) → WW X 4 E 1420 lv (.int rr :: rest) ([(hx, .inr (11, [.ref h, .ref qp, .int (nI acZ), .int (nI npZ), .ref qs, .ref qj, .ref ly, .ref qh, .ref kk, .int (nI kc), .ref rd, .ref pg, .int (nI pe), .int kn, .ref ss]))] ++ (w_nowZ ++ (w_pastZ ++ wT))) kC nC) : WW X 4 E 1417 lv (.ref hx :: rest) ([(hx, .inr (11, [.ref h, .ref qp, .int (nI ac), .int (nI np), .ref qs, .ref qj, .ref ly, .ref qh, .ref kk, .int (nI kc), .ref rd, .ref pg, .int (nI pe), .int kn, .ref ss]))] ++ (w_now ++ (w_past ++ wT))) kC nC := by
  unfold ok_now at H_now
  refine ex6 H_now ?_
  clear H_now
  intro n r a b f gg H_now
  refine an4 H_now ?_
  clear H_now
  intro we_now hn hr hwfm H_now
  have hmN := H_now
  clear H_now
  subst we_now
  subst hmN
  unfold ok_past at H_past
  refine ex8 H_past ?_
  clear H_past
  intro fqp p0 p1 p2 p3 p4 p5 p6 H_past
  refine ex8 H_past ?_
  clear H_past
  intro p7 p0n p0r p0a p0b p0f p0g p1n H_past
  refine ex8 H_past ?_
  clear H_past
  intro p1r p1a p1b p1f p1g p2n p2r p2a H_past
  refine ex8 H_past ?_
  clear H_past
  intro p2b p2f p2g p3n p3r p3a p3b p3f H_past
  refine ex8 H_past ?_
  clear H_past
  intro p3g p4n p4r p4a p4b p4f p4g p5n H_past
  refine ex8 H_past ?_
  clear H_past
  intro p5r p5a p5b p5f p5g p6n p6r p6a H_past
  refine ex8 H_past ?_
  clear H_past
  intro p6b p6f p6g p7n p7r p7a p7b p7f H_past
  refine ex1 H_past ?_
  clear H_past
  intro p7g H_past
  refine an8 H_past ?_
  clear H_past
  intro we_past k_fqp_0 k_fqp_1 k_fqp_2 k_fqp_3 k_fqp_4 k_fqp_5 k_fqp_6 H_past
  refine an8 H_past ?_
  clear H_past
  intro k_fqp_7 hp0_n hp0_r hp0_w hp1_n hp1_r hp1_w hp2_n H_past
  refine an8 H_past ?_
  clear H_past
  intro hp2_r hp2_w hp3_n hp3_r hp3_w hp4_n hp4_r hp4_w H_past
  refine an8 H_past ?_
  clear H_past
  intro hp5_n hp5_r hp5_w hp6_n hp6_r hp6_w hp7_n hp7_r H_past
  refine an1 H_past ?_
  clear H_past
  intro hp7_w H_past
  have hpV := H_past
  clear H_past
  subst we_past
  subst hpV
  refine ww_eq (ws' := [(hx, .inr (11, [.ref h, .ref qp, .int (nI ac), .int (nI np), .ref qs, .ref qj, .ref ly, .ref qh, .ref kk, .int (nI kc), .ref rd, .ref pg, .int (nI pe), .int kn, .ref ss])), (h, .inr (4, [.int (nI n), .int (nI r), .ref a, .ref b])), (a, .inl (E.2.1 1, 24, .inl f)), (b, .inl (E.2.1 1, 96, .inl gg)), (qp, .inl (E.2.1 6, 8, .inr (.inr (.inr (.inr fqp))))), (p0, .inr (4, [.int (nI p0n), .int (nI p0r), .ref p0a, .ref p0b])), (p0a, .inl (E.2.1 1, 24, .inl p0f)), (p0b, .inl (E.2.1 1, 96, .inl p0g)), (p1, .inr (4, [.int (nI p1n), .int (nI p1r), .ref p1a, .ref p1b])), (p1a, .inl (E.2.1 1, 24, .inl p1f)), (p1b, .inl (E.2.1 1, 96, .inl p1g)), (p2, .inr (4, [.int (nI p2n), .int (nI p2r), .ref p2a, .ref p2b])), (p2a, .inl (E.2.1 1, 24, .inl p2f)), (p2b, .inl (E.2.1 1, 96, .inl p2g)), (p3, .inr (4, [.int (nI p3n), .int (nI p3r), .ref p3a, .ref p3b])), (p3a, .inl (E.2.1 1, 24, .inl p3f)), (p3b, .inl (E.2.1 1, 96, .inl p3g)), (p4, .inr (4, [.int (nI p4n), .int (nI p4r), .ref p4a, .ref p4b])), (p4a, .inl (E.2.1 1, 24, .inl p4f)), (p4b, .inl (E.2.1 1, 96, .inl p4g)), (p5, .inr (4, [.int (nI p5n), .int (nI p5r), .ref p5a, .ref p5b])), (p5a, .inl (E.2.1 1, 24, .inl p5f)), (p5b, .inl (E.2.1 1, 96, .inl p5g)), (p6, .inr (4, [.int (nI p6n), .int (nI p6r), .ref p6a, .ref p6b])), (p6a, .inl (E.2.1 1, 24, .inl p6f)), (p6b, .inl (E.2.1 1, 96, .inl p6g)), (p7, .inr (4, [.int (nI p7n), .int (nI p7r), .ref p7a, .ref p7b])), (p7a, .inl (E.2.1 1, 24, .inl p7f)), (p7b, .inl (E.2.1 1, 96, .inl p7g))] ++ wT) ?_ rfl rfl rfl
  refine ww_ciT (k' := kC) (n' := nC) (wr := []) C (run_V (As := []) (rest := rest) C (x_undo X.2.1 E ro hx h qp ac np qs qj ly qh kk kc rd pg pe kn ss fqp p0 p1 p2 p3 p4 p5 p6 p7 p0n p0r p0a p0b p0f p0g p1n p1r p1a p1b p1f p1g p2n p2r p2a p2b p2f p2g p3n p3r p3a p3b p3f p3g p4n p4r p4a p4b p4f p4g p5n p5r p5a p5b p5f p5g p6n p6r p6a p6b p6f p6g p7n p7r p7a p7b p7f p7g n r a b f gg k_fqp_0 k_fqp_1 k_fqp_2 k_fqp_3 k_fqp_4 k_fqp_5 k_fqp_6 k_fqp_7 (by first | assumption | omega) (by first | assumption | omega) (by first | assumption | omega) (by first | assumption | omega) (by first | assumption | omega) (by first | assumption | omega) (by first | assumption | omega) (by first | assumption | omega) (by first | assumption | omega) (by first | assumption | omega) (by first | assumption | omega) (by first | assumption | omega) (by first | assumption | omega) (by first | assumption | omega) (by first | assumption | omega) (by first | assumption | omega) (by first | assumption | omega) (by first | assumption | omega) (by first | assumption | omega) (by first | assumption | omega) (by first | assumption | omega) (by first | assumption | omega) (by first | assumption | omega) (by first | assumption | omega) (by first | assumption | omega) (by first | assumption | omega) (by first | assumption | omega) (by first | assumption | omega) (by first | assumption | omega) (by first | assumption | omega) (by first | assumption | omega)) mi_X11_undo wl_L_168 rfl 0 11 rfl rfl rfl rfl hW dL_law_1417) (roT (pre := pre) [0, 4, 5, 6, 7, 8, 9, 10, 11, 12, 13, 14, 15, 16, 17, 18, 19, 20, 21, 22, 23, 24, 25, 26, 27, 28, 1, 2, 3] rfl hT) [0, 4, 5, 6, 7, 8, 9, 10, 11, 12, 13, 14, 15, 16, 17, 18, 19, 20, 21, 22, 23, 24, 25, 26, 27, 28, 1, 2, 3] [] (gqk (by eq_refl)) rfl (plk (by decide +kernel)) ⟨by omega, by omega, hk.1, hk.2⟩ (fun rr u hw => ?_)
  refine ex8 hw ?_
  clear hw
  intro acz_1 npz_2 p0nz_3 p0rz__4 p0fz_5 p0gz_6 p1nz_7 p1rz__8 hw
  refine ex8 hw ?_
  clear hw
  intro p1fz_9 p1gz_10 p2nz_11 p2rz__12 p2fz_13 p2gz_14 p3nz_15 p3rz__16 hw
  refine ex8 hw ?_
  clear hw
  intro p3fz_17 p3gz_18 p4nz_19 p4rz__20 p4fz_21 p4gz_22 p5nz_23 p5rz__24 hw
  refine ex8 hw ?_
  clear hw
  intro p5fz_25 p5gz_26 p6nz_27 p6rz__28 p6fz_29 p6gz_30 p7nz_31 p7rz__32 hw
  refine ex6 hw ?_
  clear hw
  intro p7fz_33 p7gz_34 nz_35 rz__36 fz_37 ggz_38 hw
  refine an8 hw ?_
  clear hw
  intro he_u h_39 h_40 h_41 h_42 h_43 h_44 h_45 hw
  refine an8 hw ?_
  clear hw
  intro h_46 h_47 h_48 h_49 h_50 h_51 h_52 h_53 hw
  refine an8 hw ?_
  clear hw
  intro h_54 h_55 h_56 h_57 h_58 h_59 h_60 h_61 hw
  refine an6 hw ?_
  clear hw
  intro h_62 h_63 h_64 h_65 h_66 h_67 hw
  have h_68 := hw
  clear hw
  subst he_u
  refine ww_subT (w1 := [(hx, .inr (11, [.ref h, .ref qp, .int (nI acz_1), .int (nI npz_2), .ref qs, .ref qj, .ref ly, .ref qh, .ref kk, .int (nI kc), .ref rd, .ref pg, .int (nI pe), .int kn, .ref ss])), (h, .inr (4, [.int (nI nz_35), .int (nI rz__36), .ref a, .ref b])), (a, .inl (E.2.1 1, 24, .inl fz_37)), (b, .inl (E.2.1 1, 96, .inl ggz_38)), (qp, .inl (E.2.1 6, 8, .inr (.inr (.inr (.inr fqp))))), (p0, .inr (4, [.int (nI p0nz_3), .int (nI p0rz__4), .ref p0a, .ref p0b])), (p0a, .inl (E.2.1 1, 24, .inl p0fz_5)), (p0b, .inl (E.2.1 1, 96, .inl p0gz_6)), (p1, .inr (4, [.int (nI p1nz_7), .int (nI p1rz__8), .ref p1a, .ref p1b])), (p1a, .inl (E.2.1 1, 24, .inl p1fz_9)), (p1b, .inl (E.2.1 1, 96, .inl p1gz_10)), (p2, .inr (4, [.int (nI p2nz_11), .int (nI p2rz__12), .ref p2a, .ref p2b])), (p2a, .inl (E.2.1 1, 24, .inl p2fz_13)), (p2b, .inl (E.2.1 1, 96, .inl p2gz_14)), (p3, .inr (4, [.int (nI p3nz_15), .int (nI p3rz__16), .ref p3a, .ref p3b])), (p3a, .inl (E.2.1 1, 24, .inl p3fz_17)), (p3b, .inl (E.2.1 1, 96, .inl p3gz_18)), (p4, .inr (4, [.int (nI p4nz_19), .int (nI p4rz__20), .ref p4a, .ref p4b])), (p4a, .inl (E.2.1 1, 24, .inl p4fz_21)), (p4b, .inl (E.2.1 1, 96, .inl p4gz_22)), (p5, .inr (4, [.int (nI p5nz_23), .int (nI p5rz__24), .ref p5a, .ref p5b])), (p5a, .inl (E.2.1 1, 24, .inl p5fz_25)), (p5b, .inl (E.2.1 1, 96, .inl p5gz_26)), (p6, .inr (4, [.int (nI p6nz_27), .int (nI p6rz__28), .ref p6a, .ref p6b])), (p6a, .inl (E.2.1 1, 24, .inl p6fz_29)), (p6b, .inl (E.2.1 1, 96, .inl p6gz_30)), (p7, .inr (4, [.int (nI p7nz_31), .int (nI p7rz__32), .ref p7a, .ref p7b])), (p7a, .inl (E.2.1 1, 24, .inl p7fz_33)), (p7b, .inl (E.2.1 1, 96, .inl p7gz_34))]) [0, 26, 27, 28, 1, 2, 3, 4, 5, 6, 7, 8, 9, 10, 11, 12, 13, 14, 15, 16, 17, 18, 19, 20, 21, 22, 23, 24, 25] (ndk (by decide +kernel)) (gqk (by eq_refl)) ?_
  exact kont rr acz_1 npz_2 (am nz_35 rz__36 fz_37 ggz_38) (pick8 (am p0nz_3 p0rz__4 p0fz_5 p0gz_6) (am p1nz_7 p1rz__8 p1fz_9 p1gz_10) (am p2nz_11 p2rz__12 p2fz_13 p2gz_14) (am p3nz_15 p3rz__16 p3fz_17 p3gz_18) (am p4nz_19 p4rz__20 p4fz_21 p4gz_22) (am p5nz_23 p5rz__24 p5fz_25 p5gz_26) (am p6nz_27 p6rz__28 p6fz_29 p6gz_30) (am p7nz_31 p7rz__32 p7fz_33 p7gz_34)) [(h, .inr (4, [.int (nI nz_35), .int (nI rz__36), .ref a, .ref b])), (a, .inl (E.2.1 1, 24, .inl fz_37)), (b, .inl (E.2.1 1, 96, .inl ggz_38))] [(qp, .inl (E.2.1 6, 8, .inr (.inr (.inr (.inr fqp))))), (p0, .inr (4, [.int (nI p0nz_3), .int (nI p0rz__4), .ref p0a, .ref p0b])), (p0a, .inl (E.2.1 1, 24, .inl p0fz_5)), (p0b, .inl (E.2.1 1, 96, .inl p0gz_6)), (p1, .inr (4, [.int (nI p1nz_7), .int (nI p1rz__8), .ref p1a, .ref p1b])), (p1a, .inl (E.2.1 1, 24, .inl p1fz_9)), (p1b, .inl (E.2.1 1, 96, .inl p1gz_10)), (p2, .inr (4, [.int (nI p2nz_11), .int (nI p2rz__12), .ref p2a, .ref p2b])), (p2a, .inl (E.2.1 1, 24, .inl p2fz_13)), (p2b, .inl (E.2.1 1, 96, .inl p2gz_14)), (p3, .inr (4, [.int (nI p3nz_15), .int (nI p3rz__16), .ref p3a, .ref p3b])), (p3a, .inl (E.2.1 1, 24, .inl p3fz_17)), (p3b, .inl (E.2.1 1, 96, .inl p3gz_18)), (p4, .inr (4, [.int (nI p4nz_19), .int (nI p4rz__20), .ref p4a, .ref p4b])), (p4a, .inl (E.2.1 1, 24, .inl p4fz_21)), (p4b, .inl (E.2.1 1, 96, .inl p4gz_22)), (p5, .inr (4, [.int (nI p5nz_23), .int (nI p5rz__24), .ref p5a, .ref p5b])), (p5a, .inl (E.2.1 1, 24, .inl p5fz_25)), (p5b, .inl (E.2.1 1, 96, .inl p5gz_26)), (p6, .inr (4, [.int (nI p6nz_27), .int (nI p6rz__28), .ref p6a, .ref p6b])), (p6a, .inl (E.2.1 1, 24, .inl p6fz_29)), (p6b, .inl (E.2.1 1, 96, .inl p6gz_30)), (p7, .inr (4, [.int (nI p7nz_31), .int (nI p7rz__32), .ref p7a, .ref p7b])), (p7a, .inl (E.2.1 1, 24, .inl p7fz_33)), (p7b, .inl (E.2.1 1, 96, .inl p7gz_34))] (by first | assumption | omega) (by first | assumption | omega) ⟨nz_35, rz__36, a, b, fz_37, ggz_38, rfl, (by first | assumption | omega), (by first | assumption | omega), (by first | assumption | omega), rfl⟩ ⟨fqp, p0, p1, p2, p3, p4, p5, p6, p7, p0nz_3, p0rz__4, p0a, p0b, p0fz_5, p0gz_6, p1nz_7, p1rz__8, p1a, p1b, p1fz_9, p1gz_10, p2nz_11, p2rz__12, p2a, p2b, p2fz_13, p2gz_14, p3nz_15, p3rz__16, p3a, p3b, p3fz_17, p3gz_18, p4nz_19, p4rz__20, p4a, p4b, p4fz_21, p4gz_22, p5nz_23, p5rz__24, p5a, p5b, p5fz_25, p5gz_26, p6nz_27, p6rz__28, p6a, p6b, p6fz_29, p6gz_30, p7nz_31, p7rz__32, p7a, p7b, p7fz_33, p7gz_34, rfl, k_fqp_0, k_fqp_1, k_fqp_2, k_fqp_3, k_fqp_4, k_fqp_5, k_fqp_6, k_fqp_7, (by first | assumption | omega), (by first | assumption | omega), (by first | assumption | omega), (by first | assumption | omega), (by first | assumption | omega), (by first | assumption | omega), (by first | assumption | omega), (by first | assumption | omega), (by first | assumption | omega), (by first | assumption | omega), (by first | assumption | omega), (by first | assumption | omega), (by first | assumption | omega), (by first | assumption | omega), (by first | assumption | omega), (by first | assumption | omega), (by first | assumption | omega), (by first | assumption | omega), (by first | assumption | omega), (by first | assumption | omega), (by first | assumption | omega), (by first | assumption | omega), (by first | assumption | omega), (by first | assumption | omega), rfl⟩ (h_68)
theorem wc_X11_count : Cond.code yX11_count cX11_count 2 (some .int) ∈ TB := tbm (tq5 (List.mem_of_getElem? (i := 63) (rfl))) (by decide +kernel)
theorem wi_X11_count : Cond.instanceMethod yX11_count ∈ TB := tbm (tq5 (List.mem_of_getElem? (i := 61) (by decide +kernel))) (by decide +kernel)
theorem ws_X11_count : Cond.selects RX11 yX11_count yX11_count ∈ TB := tbm (tq5 (List.mem_of_getElem? (i := 62) (by decide +kernel))) (by decide +kernel)
theorem mi_X11_count : MI yX11_count cX11_count 2 (some .int) 1 := ⟨wc_X11_count, wn_X11, ⟨by decide +kernel, by decide +kernel, by decide +kernel⟩, wi_X11_count, ws_X11_count⟩
theorem wl_L_172 : Cond.methodLink RL 172 yX11_count ∈ TB := tbm (tq5 (List.mem_of_getElem? (i := 60) (by decide +kernel))) (by decide +kernel)
theorem dL_law_1435 : decode cL_law 1435 = .ok (.invokevirtual 172, 3) := dl_182 (by decide +kernel)
set_option maxRecDepth 100000 in
set_option maxHeartbeats 4000000 in
theorem lx_count {X : XT} {E : EV} {ro wT pre : va_W} {lv : List (Nat × Value)} {rest : List Value} {kC nC : Nat} {hx h qp qs qj ly qh kk rd pg ss : Nat} {ac np kc pe : Nat} {kn : Int32} {mN : AM} {tl : Nat} {ct : Nat → Int} {tT : Nat → Option SVal} {ec : Nat → Nat} {er : Nat → Nat} {ed : Nat → Nat → Int32} {eT : Nat → Nat → Option SVal} {eb : Nat → Nat → Int32} {en : Nat → Nat → Int32} {st : Nat → Nat} {sn : Nat → Nat} {sl : Nat → Nat} {scx : Nat → Nat → Int32} {w_now : va_W} {w_pars : va_W} {w_judg : va_W} {w_shts : va_W} {v0 : Int32}  (C : CX X room_1 cL_law 4 RL ret E) (hW : Nat.ble (rest.map fun v => v.category).sum 8 = true) (hT : wT = pre ++ ro) (hk : kC + 0 ≤ 600000 ∧ nC + 0 ≤ 7302250) (hac : ac ≤ 8) (hnp : np < 8) (hkc : kc ≤ 4) (hpe : pe ≤ 4) (H_now : ok_now E ro h mN w_now) (H_pars : ok_pars E ro qs tl ct w_pars) (H_judg : ok_judg E ro qj tT ec er ed eT eb en w_judg) (H_shts : ok_shts E ro ss st sn sl scx w_shts) (kont : ∀ (rr : Int32) (w_nowZ : va_W) (w_parsZ : va_W) (w_judgZ : va_W) (w_shtsZ : va_W), ok_now E ro h mN w_nowZ → ok_pars E ro qs tl ct w_parsZ → ok_judg E ro qj tT ec er ed eT eb en w_judgZ → ok_shts E ro ss st sn sl scx w_shtsZ → (rr = ansCnt mN.1 mN.2.1 (cb (fun k => (tT k).isSome) 8) (cb (fun e => decide (0 < ec e)) 4) kc ac pe tl (if st 0 = 0 then -4 else nI (sn 0)) v0) → WW X 4 E 1438 lv (.int rr :: rest) ([(hx, .inr (11, [.ref h, .ref qp, .int (nI ac), .int (nI np), .ref qs, .ref qj, .ref ly, .ref qh, .ref kk, .int (nI kc), .ref rd, .ref pg, .int (nI pe), .int kn, .ref ss]))] ++ (w_nowZ ++ (w_parsZ ++ (w_judgZ ++ (w_shtsZ ++ wT))))) kC nC) : WW X 4 E 1435 lv (.int v0 :: .ref hx :: rest) ([(hx, .inr (11, [.ref h, .ref qp, .int (nI ac), .int (nI np), .ref qs, .ref qj, .ref ly, .ref qh, .ref kk, .int (nI kc), .ref rd, .ref pg, .int (nI pe), .int kn, .ref ss]))] ++ (w_now ++ (w_pars ++ (w_judg ++ (w_shts ++ wT))))) kC nC := by
  unfold ok_now at H_now
  refine ex6 H_now ?_
  clear H_now
  intro n r a b f gg H_now
  refine an4 H_now ?_
  clear H_now
  intro we_now hn hr hwfm H_now
  have hmN := H_now
  clear H_now
  subst we_now
  subst hmN
  unfold ok_pars at H_pars
  refine ex8 H_pars ?_
  clear H_pars
  intro qt po pa pf pd nd tn an H_pars
  refine ex8 H_pars ?_
  clear H_pars
  intro wr pl tb ta tk ts fb fo H_pars
  refine ex3 H_pars ?_
  clear H_pars
  intro pfa af fd H_pars
  refine an2 H_pars ?_
  clear H_pars
  intro we_pars htl H_pars
  have hct := H_pars
  clear H_pars
  subst we_pars
  subst hct
  unfold ok_judg at H_judg
  refine ex8 H_judg ?_
  clear H_judg
  intro jt je ju ja ft fe e0 e1 H_judg
  refine ex8 H_judg ?_
  clear H_judg
  intro e2 e3 fa la0 la1 e0cs e0rc e0a H_judg
  refine ex8 H_judg ?_
  clear H_judg
  intro e0b e0c e0d e0fi e0fb e0fc e0fd e1cs H_judg
  refine ex8 H_judg ?_
  clear H_judg
  intro e1rc e1a e1b e1c e1d e1fi e1fb e1fc H_judg
  refine ex8 H_judg ?_
  clear H_judg
  intro e1fd e2cs e2rc e2a e2b e2c e2d e2fi H_judg
  refine ex8 H_judg ?_
  clear H_judg
  intro e2fb e2fc e2fd e3cs e3rc e3a e3b e3c H_judg
  refine ex8 H_judg ?_
  clear H_judg
  intro e3d e3fi e3fb e3fc e3fd la0m la0p la0w H_judg
  refine ex8 H_judg ?_
  clear H_judg
  intro la0c la0f la0q la0fc la0ff la0fq la0n la0r H_judg
  refine ex8 H_judg ?_
  clear H_judg
  intro la0x la0y la0gx la0gy la1m la1p la1w la1c H_judg
  refine ex8 H_judg ?_
  clear H_judg
  intro la1f la1q la1fc la1ff la1fq la1n la1r la1x H_judg
  refine ex8 H_judg ?_
  clear H_judg
  intro la1y la1gx la1gy fto e0T e1T e2T e3T H_judg
  refine an8 H_judg ?_
  clear H_judg
  intro we_judg k_fe_0 k_fe_1 k_fe_2 k_fe_3 k_fa_0 k_fa_1 he0cs H_judg
  refine an8 H_judg ?_
  clear H_judg
  intro he0rc he0fi he1cs he1rc he1fi he2cs he2rc he2fi H_judg
  refine an8 H_judg ?_
  clear H_judg
  intro he3cs he3rc he3fi hla0n hla0r hla1n hla1r hto H_judg
  refine an5 H_judg ?_
  clear H_judg
  intro hec her hed heT heb H_judg
  have hen := H_judg
  clear H_judg
  subst we_judg
  subst hec
  subst her
  subst hed
  subst heT
  subst heb
  subst hen
  unfold ok_shts at H_shts
  refine ex8 H_shts ?_
  clear H_shts
  intro fss s0 s1 s2 s3 s0t s0n s0l H_shts
  refine ex8 H_shts ?_
  clear H_shts
  intro s0c s0f s1t s1n s1l s1c s1f s2t H_shts
  refine ex8 H_shts ?_
  clear H_shts
  intro s2n s2l s2c s2f s3t s3n s3l s3c H_shts
  refine ex1 H_shts ?_
  clear H_shts
  intro s3f H_shts
  refine an8 H_shts ?_
  clear H_shts
  intro we_shts k_fss_0 k_fss_1 k_fss_2 k_fss_3 hst hsn hsl H_shts
  refine an8 H_shts ?_
  clear H_shts
  intro hsc hs0t hs0n hs0l hs1t hs1n hs1l hs2t H_shts
  refine an4 H_shts ?_
  clear H_shts
  intro hs2n hs2l hs3t hs3n H_shts
  have hs3l := H_shts
  clear H_shts
  subst we_shts
  subst hst
  subst hsn
  subst hsl
  subst hsc
  refine ww_eq (ws' := [(hx, .inr (11, [.ref h, .ref qp, .int (nI ac), .int (nI np), .ref qs, .ref qj, .ref ly, .ref qh, .ref kk, .int (nI kc), .ref rd, .ref pg, .int (nI pe), .int kn, .ref ss])), (h, .inr (4, [.int (nI n), .int (nI r), .ref a, .ref b])), (a, .inl (E.2.1 1, 24, .inl f)), (b, .inl (E.2.1 1, 96, .inl gg)), (qs, .inr (5, [.ref qt, .ref po, .ref pa, .ref pf, .ref pd, .int nd, .int tn, .int an, .int wr, .int pl])), (qt, .inr (10, [.ref tb, .int (nI tl), .int ta, .int tk, .int ts])), (tb, .inl (E.2.1 0, 160, .inl fb)), (po, .inl (E.2.1 1, 32, .inl fo)), (pa, .inl (E.2.1 1, 32, .inl pfa)), (pf, .inl (E.2.1 1, 2, .inl af)), (pd, .inl (E.2.1 1, 32, .inl fd)), (qj, .inr (2, [.ref jt, .ref je, .ref ju, .ref ja])), (ju, .inl (E.2.1 1, 32, .inl ft)), (je, .inl (E.2.1 4, 4, .inr (.inr (.inr (.inr fe))))), (ja, .inl (E.2.1 5, 2, .inr (.inr (.inr (.inr fa))))), (e0, .inr (0, [.int (nI e0cs), .int (nI e0rc), .ref e0a, .ref e0b, .ref e0c, .ref e0d])), (e0a, .inl (E.2.1 7, 4, .inr (.inr (.inr (.inr e0fi))))), (e0b, .inl (E.2.1 1, 4, .inl e0fb)), (e0c, .inl (E.2.1 1, 4, .inl e0fc)), (e0d, .inl (E.2.1 1, 16, .inl e0fd)), (e1, .inr (0, [.int (nI e1cs), .int (nI e1rc), .ref e1a, .ref e1b, .ref e1c, .ref e1d])), (e1a, .inl (E.2.1 7, 4, .inr (.inr (.inr (.inr e1fi))))), (e1b, .inl (E.2.1 1, 4, .inl e1fb)), (e1c, .inl (E.2.1 1, 4, .inl e1fc)), (e1d, .inl (E.2.1 1, 16, .inl e1fd)), (e2, .inr (0, [.int (nI e2cs), .int (nI e2rc), .ref e2a, .ref e2b, .ref e2c, .ref e2d])), (e2a, .inl (E.2.1 7, 4, .inr (.inr (.inr (.inr e2fi))))), (e2b, .inl (E.2.1 1, 4, .inl e2fb)), (e2c, .inl (E.2.1 1, 4, .inl e2fc)), (e2d, .inl (E.2.1 1, 16, .inl e2fd)), (e3, .inr (0, [.int (nI e3cs), .int (nI e3rc), .ref e3a, .ref e3b, .ref e3c, .ref e3d])), (e3a, .inl (E.2.1 7, 4, .inr (.inr (.inr (.inr e3fi))))), (e3b, .inl (E.2.1 1, 4, .inl e3fb)), (e3c, .inl (E.2.1 1, 4, .inl e3fc)), (e3d, .inl (E.2.1 1, 16, .inl e3fd)), (la0, .inr (3, [.ref la0m, .int la0p, .int la0w, .ref la0c, .ref la0f, .ref la0q])), (la0c, .inl (E.2.1 1, 24, .inl la0fc)), (la0f, .inl (E.2.1 1, 24, .inl la0ff)), (la0q, .inl (E.2.1 1, 4, .inl la0fq)), (la0m, .inr (4, [.int (nI la0n), .int (nI la0r), .ref la0x, .ref la0y])), (la0x, .inl (E.2.1 1, 24, .inl la0gx)), (la0y, .inl (E.2.1 1, 96, .inl la0gy)), (la1, .inr (3, [.ref la1m, .int la1p, .int la1w, .ref la1c, .ref la1f, .ref la1q])), (la1c, .inl (E.2.1 1, 24, .inl la1fc)), (la1f, .inl (E.2.1 1, 24, .inl la1ff)), (la1q, .inl (E.2.1 1, 4, .inl la1fq)), (la1m, .inr (4, [.int (nI la1n), .int (nI la1r), .ref la1x, .ref la1y])), (la1x, .inl (E.2.1 1, 24, .inl la1gx)), (la1y, .inl (E.2.1 1, 96, .inl la1gy)), (jt, .inl (E.2.1 7, 8, .inr (.inr (.inr (.inr fto))))), (ss, .inl (E.2.1 8, 4, .inr (.inr (.inr (.inr fss))))), (s0, .inr (9, [.int (nI s0t), .int (nI s0n), .int (nI s0l), .ref s0c])), (s0c, .inl (E.2.1 1, 48, .inl s0f)), (s1, .inr (9, [.int (nI s1t), .int (nI s1n), .int (nI s1l), .ref s1c])), (s1c, .inl (E.2.1 1, 48, .inl s1f)), (s2, .inr (9, [.int (nI s2t), .int (nI s2n), .int (nI s2l), .ref s2c])), (s2c, .inl (E.2.1 1, 48, .inl s2f)), (s3, .inr (9, [.int (nI s3t), .int (nI s3n), .int (nI s3l), .ref s3c])), (s3c, .inl (E.2.1 1, 48, .inl s3f))] ++ wT) ?_ rfl rfl rfl
  refine ww_ciT (k' := kC) (n' := nC) (wr := [(a, .inl (E.2.1 1, 24, .inl f)), (b, .inl (E.2.1 1, 96, .inl gg)), (tb, .inl (E.2.1 0, 160, .inl fb)), (po, .inl (E.2.1 1, 32, .inl fo)), (pa, .inl (E.2.1 1, 32, .inl pfa)), (pf, .inl (E.2.1 1, 2, .inl af)), (pd, .inl (E.2.1 1, 32, .inl fd)), (ju, .inl (E.2.1 1, 32, .inl ft)), (ja, .inl (E.2.1 5, 2, .inr (.inr (.inr (.inr fa))))), (e0a, .inl (E.2.1 7, 4, .inr (.inr (.inr (.inr e0fi))))), (e0b, .inl (E.2.1 1, 4, .inl e0fb)), (e0c, .inl (E.2.1 1, 4, .inl e0fc)), (e0d, .inl (E.2.1 1, 16, .inl e0fd)), (e1a, .inl (E.2.1 7, 4, .inr (.inr (.inr (.inr e1fi))))), (e1b, .inl (E.2.1 1, 4, .inl e1fb)), (e1c, .inl (E.2.1 1, 4, .inl e1fc)), (e1d, .inl (E.2.1 1, 16, .inl e1fd)), (e2a, .inl (E.2.1 7, 4, .inr (.inr (.inr (.inr e2fi))))), (e2b, .inl (E.2.1 1, 4, .inl e2fb)), (e2c, .inl (E.2.1 1, 4, .inl e2fc)), (e2d, .inl (E.2.1 1, 16, .inl e2fd)), (e3a, .inl (E.2.1 7, 4, .inr (.inr (.inr (.inr e3fi))))), (e3b, .inl (E.2.1 1, 4, .inl e3fb)), (e3c, .inl (E.2.1 1, 4, .inl e3fc)), (e3d, .inl (E.2.1 1, 16, .inl e3fd)), (la0, .inr (3, [.ref la0m, .int la0p, .int la0w, .ref la0c, .ref la0f, .ref la0q])), (la0c, .inl (E.2.1 1, 24, .inl la0fc)), (la0f, .inl (E.2.1 1, 24, .inl la0ff)), (la0q, .inl (E.2.1 1, 4, .inl la0fq)), (la0m, .inr (4, [.int (nI la0n), .int (nI la0r), .ref la0x, .ref la0y])), (la0x, .inl (E.2.1 1, 24, .inl la0gx)), (la0y, .inl (E.2.1 1, 96, .inl la0gy)), (la1, .inr (3, [.ref la1m, .int la1p, .int la1w, .ref la1c, .ref la1f, .ref la1q])), (la1c, .inl (E.2.1 1, 24, .inl la1fc)), (la1f, .inl (E.2.1 1, 24, .inl la1ff)), (la1q, .inl (E.2.1 1, 4, .inl la1fq)), (la1m, .inr (4, [.int (nI la1n), .int (nI la1r), .ref la1x, .ref la1y])), (la1x, .inl (E.2.1 1, 24, .inl la1gx)), (la1y, .inl (E.2.1 1, 96, .inl la1gy)), (s0c, .inl (E.2.1 1, 48, .inl s0f)), (s1, .inr (9, [.int (nI s1t), .int (nI s1n), .int (nI s1l), .ref s1c])), (s1c, .inl (E.2.1 1, 48, .inl s1f)), (s2, .inr (9, [.int (nI s2t), .int (nI s2n), .int (nI s2l), .ref s2c])), (s2c, .inl (E.2.1 1, 48, .inl s2f)), (s3, .inr (9, [.int (nI s3t), .int (nI s3n), .int (nI s3l), .ref s3c])), (s3c, .inl (E.2.1 1, 48, .inl s3f))]) C (run_V (As := [.int v0]) (rest := rest) C (x_count X.2.1 E ro hx v0 h qp ac np qs qj ly qh kk kc rd pg pe kn ss jt je ju ja fe e0 e1 e2 e3 e0cs e0rc e0a e0b e0c e0d e1cs e1rc e1a e1b e1c e1d e2cs e2rc e2a e2b e2c e2d e3cs e3rc e3a e3b e3c e3d n r a b qt po pa pf pd nd tn an wr pl tb tl ta tk ts fto fss s0 s1 s2 s3 s0t s0n s0l s0c tT k_fe_0 k_fe_1 k_fe_2 k_fe_3 k_fss_0 k_fss_1 k_fss_2 k_fss_3 (by first | assumption | omega) (by first | assumption | omega) (by first | assumption | omega) (by first | assumption | omega) (by first | assumption | omega) (by first | assumption | omega) (by first | assumption | omega) (by first | assumption | omega) (by first | assumption | omega) (by first | assumption | omega) (by first | assumption | omega) (by first | assumption | omega) hto (by first | assumption | omega) (by first | assumption | omega) (by first | assumption | omega) (by first | assumption | omega) (by first | assumption | omega) (by first | assumption | omega)) mi_X11_count wl_L_172 rfl 0 11 rfl rfl rfl rfl hW dL_law_1435) (roT (pre := pre) [0, 11, 13, 15, 20, 25, 30, 1, 4, 5, 49, 50, 51] rfl hT) [0, 11, 13, 15, 20, 25, 30, 1, 4, 5, 49, 50, 51] [2, 3, 6, 7, 8, 9, 10, 12, 14, 16, 17, 18, 19, 21, 22, 23, 24, 26, 27, 28, 29, 31, 32, 33, 34, 35, 36, 37, 38, 39, 40, 41, 42, 43, 44, 45, 46, 47, 48, 52, 53, 54, 55, 56, 57, 58] (gqk (by eq_refl)) (gqk (by eq_refl)) (plk (by decide +kernel)) ⟨by omega, by omega, hk.1, hk.2⟩ (fun rr u hw => ?_)
  refine an1 hw ?_
  clear hw
  intro he_u hw
  have h_1 := hw
  clear hw
  subst he_u
  refine ww_subT (w1 := [(hx, .inr (11, [.ref h, .ref qp, .int (nI ac), .int (nI np), .ref qs, .ref qj, .ref ly, .ref qh, .ref kk, .int (nI kc), .ref rd, .ref pg, .int (nI pe), .int kn, .ref ss])), (h, .inr (4, [.int (nI n), .int (nI r), .ref a, .ref b])), (a, .inl (E.2.1 1, 24, .inl f)), (b, .inl (E.2.1 1, 96, .inl gg)), (qs, .inr (5, [.ref qt, .ref po, .ref pa, .ref pf, .ref pd, .int nd, .int tn, .int an, .int wr, .int pl])), (qt, .inr (10, [.ref tb, .int (nI tl), .int ta, .int tk, .int ts])), (tb, .inl (E.2.1 0, 160, .inl fb)), (po, .inl (E.2.1 1, 32, .inl fo)), (pa, .inl (E.2.1 1, 32, .inl pfa)), (pf, .inl (E.2.1 1, 2, .inl af)), (pd, .inl (E.2.1 1, 32, .inl fd)), (qj, .inr (2, [.ref jt, .ref je, .ref ju, .ref ja])), (ju, .inl (E.2.1 1, 32, .inl ft)), (je, .inl (E.2.1 4, 4, .inr (.inr (.inr (.inr fe))))), (ja, .inl (E.2.1 5, 2, .inr (.inr (.inr (.inr fa))))), (e0, .inr (0, [.int (nI e0cs), .int (nI e0rc), .ref e0a, .ref e0b, .ref e0c, .ref e0d])), (e0a, .inl (E.2.1 7, 4, .inr (.inr (.inr (.inr e0fi))))), (e0b, .inl (E.2.1 1, 4, .inl e0fb)), (e0c, .inl (E.2.1 1, 4, .inl e0fc)), (e0d, .inl (E.2.1 1, 16, .inl e0fd)), (e1, .inr (0, [.int (nI e1cs), .int (nI e1rc), .ref e1a, .ref e1b, .ref e1c, .ref e1d])), (e1a, .inl (E.2.1 7, 4, .inr (.inr (.inr (.inr e1fi))))), (e1b, .inl (E.2.1 1, 4, .inl e1fb)), (e1c, .inl (E.2.1 1, 4, .inl e1fc)), (e1d, .inl (E.2.1 1, 16, .inl e1fd)), (e2, .inr (0, [.int (nI e2cs), .int (nI e2rc), .ref e2a, .ref e2b, .ref e2c, .ref e2d])), (e2a, .inl (E.2.1 7, 4, .inr (.inr (.inr (.inr e2fi))))), (e2b, .inl (E.2.1 1, 4, .inl e2fb)), (e2c, .inl (E.2.1 1, 4, .inl e2fc)), (e2d, .inl (E.2.1 1, 16, .inl e2fd)), (e3, .inr (0, [.int (nI e3cs), .int (nI e3rc), .ref e3a, .ref e3b, .ref e3c, .ref e3d])), (e3a, .inl (E.2.1 7, 4, .inr (.inr (.inr (.inr e3fi))))), (e3b, .inl (E.2.1 1, 4, .inl e3fb)), (e3c, .inl (E.2.1 1, 4, .inl e3fc)), (e3d, .inl (E.2.1 1, 16, .inl e3fd)), (la0, .inr (3, [.ref la0m, .int la0p, .int la0w, .ref la0c, .ref la0f, .ref la0q])), (la0c, .inl (E.2.1 1, 24, .inl la0fc)), (la0f, .inl (E.2.1 1, 24, .inl la0ff)), (la0q, .inl (E.2.1 1, 4, .inl la0fq)), (la0m, .inr (4, [.int (nI la0n), .int (nI la0r), .ref la0x, .ref la0y])), (la0x, .inl (E.2.1 1, 24, .inl la0gx)), (la0y, .inl (E.2.1 1, 96, .inl la0gy)), (la1, .inr (3, [.ref la1m, .int la1p, .int la1w, .ref la1c, .ref la1f, .ref la1q])), (la1c, .inl (E.2.1 1, 24, .inl la1fc)), (la1f, .inl (E.2.1 1, 24, .inl la1ff)), (la1q, .inl (E.2.1 1, 4, .inl la1fq)), (la1m, .inr (4, [.int (nI la1n), .int (nI la1r), .ref la1x, .ref la1y])), (la1x, .inl (E.2.1 1, 24, .inl la1gx)), (la1y, .inl (E.2.1 1, 96, .inl la1gy)), (jt, .inl (E.2.1 7, 8, .inr (.inr (.inr (.inr fto))))), (ss, .inl (E.2.1 8, 4, .inr (.inr (.inr (.inr fss))))), (s0, .inr (9, [.int (nI s0t), .int (nI s0n), .int (nI s0l), .ref s0c])), (s0c, .inl (E.2.1 1, 48, .inl s0f)), (s1, .inr (9, [.int (nI s1t), .int (nI s1n), .int (nI s1l), .ref s1c])), (s1c, .inl (E.2.1 1, 48, .inl s1f)), (s2, .inr (9, [.int (nI s2t), .int (nI s2n), .int (nI s2l), .ref s2c])), (s2c, .inl (E.2.1 1, 48, .inl s2f)), (s3, .inr (9, [.int (nI s3t), .int (nI s3n), .int (nI s3l), .ref s3c])), (s3c, .inl (E.2.1 1, 48, .inl s3f))]) [46, 53, 0, 1, 54, 55, 2, 3, 4, 5, 6, 47, 7, 48, 8, 49, 9, 10, 11, 12, 50, 13, 14, 15, 16, 51, 17, 18, 19, 20, 52, 21, 22, 23, 24, 25, 26, 27, 28, 29, 30, 31, 32, 33, 34, 35, 36, 37, 38, 56, 57, 58, 39, 40, 41, 42, 43, 44, 45] (ndk (by decide +kernel)) (gqk (by eq_refl)) ?_
  exact kont rr  [(h, .inr (4, [.int (nI n), .int (nI r), .ref a, .ref b])), (a, .inl (E.2.1 1, 24, .inl f)), (b, .inl (E.2.1 1, 96, .inl gg))] [(qs, .inr (5, [.ref qt, .ref po, .ref pa, .ref pf, .ref pd, .int nd, .int tn, .int an, .int wr, .int pl])), (qt, .inr (10, [.ref tb, .int (nI tl), .int ta, .int tk, .int ts])), (tb, .inl (E.2.1 0, 160, .inl fb)), (po, .inl (E.2.1 1, 32, .inl fo)), (pa, .inl (E.2.1 1, 32, .inl pfa)), (pf, .inl (E.2.1 1, 2, .inl af)), (pd, .inl (E.2.1 1, 32, .inl fd))] [(qj, .inr (2, [.ref jt, .ref je, .ref ju, .ref ja])), (ju, .inl (E.2.1 1, 32, .inl ft)), (je, .inl (E.2.1 4, 4, .inr (.inr (.inr (.inr fe))))), (ja, .inl (E.2.1 5, 2, .inr (.inr (.inr (.inr fa))))), (e0, .inr (0, [.int (nI e0cs), .int (nI e0rc), .ref e0a, .ref e0b, .ref e0c, .ref e0d])), (e0a, .inl (E.2.1 7, 4, .inr (.inr (.inr (.inr e0fi))))), (e0b, .inl (E.2.1 1, 4, .inl e0fb)), (e0c, .inl (E.2.1 1, 4, .inl e0fc)), (e0d, .inl (E.2.1 1, 16, .inl e0fd)), (e1, .inr (0, [.int (nI e1cs), .int (nI e1rc), .ref e1a, .ref e1b, .ref e1c, .ref e1d])), (e1a, .inl (E.2.1 7, 4, .inr (.inr (.inr (.inr e1fi))))), (e1b, .inl (E.2.1 1, 4, .inl e1fb)), (e1c, .inl (E.2.1 1, 4, .inl e1fc)), (e1d, .inl (E.2.1 1, 16, .inl e1fd)), (e2, .inr (0, [.int (nI e2cs), .int (nI e2rc), .ref e2a, .ref e2b, .ref e2c, .ref e2d])), (e2a, .inl (E.2.1 7, 4, .inr (.inr (.inr (.inr e2fi))))), (e2b, .inl (E.2.1 1, 4, .inl e2fb)), (e2c, .inl (E.2.1 1, 4, .inl e2fc)), (e2d, .inl (E.2.1 1, 16, .inl e2fd)), (e3, .inr (0, [.int (nI e3cs), .int (nI e3rc), .ref e3a, .ref e3b, .ref e3c, .ref e3d])), (e3a, .inl (E.2.1 7, 4, .inr (.inr (.inr (.inr e3fi))))), (e3b, .inl (E.2.1 1, 4, .inl e3fb)), (e3c, .inl (E.2.1 1, 4, .inl e3fc)), (e3d, .inl (E.2.1 1, 16, .inl e3fd)), (la0, .inr (3, [.ref la0m, .int la0p, .int la0w, .ref la0c, .ref la0f, .ref la0q])), (la0c, .inl (E.2.1 1, 24, .inl la0fc)), (la0f, .inl (E.2.1 1, 24, .inl la0ff)), (la0q, .inl (E.2.1 1, 4, .inl la0fq)), (la0m, .inr (4, [.int (nI la0n), .int (nI la0r), .ref la0x, .ref la0y])), (la0x, .inl (E.2.1 1, 24, .inl la0gx)), (la0y, .inl (E.2.1 1, 96, .inl la0gy)), (la1, .inr (3, [.ref la1m, .int la1p, .int la1w, .ref la1c, .ref la1f, .ref la1q])), (la1c, .inl (E.2.1 1, 24, .inl la1fc)), (la1f, .inl (E.2.1 1, 24, .inl la1ff)), (la1q, .inl (E.2.1 1, 4, .inl la1fq)), (la1m, .inr (4, [.int (nI la1n), .int (nI la1r), .ref la1x, .ref la1y])), (la1x, .inl (E.2.1 1, 24, .inl la1gx)), (la1y, .inl (E.2.1 1, 96, .inl la1gy)), (jt, .inl (E.2.1 7, 8, .inr (.inr (.inr (.inr fto)))))] [(ss, .inl (E.2.1 8, 4, .inr (.inr (.inr (.inr fss))))), (s0, .inr (9, [.int (nI s0t), .int (nI s0n), .int (nI s0l), .ref s0c])), (s0c, .inl (E.2.1 1, 48, .inl s0f)), (s1, .inr (9, [.int (nI s1t), .int (nI s1n), .int (nI s1l), .ref s1c])), (s1c, .inl (E.2.1 1, 48, .inl s1f)), (s2, .inr (9, [.int (nI s2t), .int (nI s2n), .int (nI s2l), .ref s2c])), (s2c, .inl (E.2.1 1, 48, .inl s2f)), (s3, .inr (9, [.int (nI s3t), .int (nI s3n), .int (nI s3l), .ref s3c])), (s3c, .inl (E.2.1 1, 48, .inl s3f))]  ⟨n, r, a, b, f, gg, rfl, (by first | assumption | omega), (by first | assumption | omega), (by first | assumption | omega), rfl⟩ ⟨qt, po, pa, pf, pd, nd, tn, an, wr, pl, tb, ta, tk, ts, fb, fo, pfa, af, fd, rfl, (by first | assumption | omega), rfl⟩ ⟨jt, je, ju, ja, ft, fe, e0, e1, e2, e3, fa, la0, la1, e0cs, e0rc, e0a, e0b, e0c, e0d, e0fi, e0fb, e0fc, e0fd, e1cs, e1rc, e1a, e1b, e1c, e1d, e1fi, e1fb, e1fc, e1fd, e2cs, e2rc, e2a, e2b, e2c, e2d, e2fi, e2fb, e2fc, e2fd, e3cs, e3rc, e3a, e3b, e3c, e3d, e3fi, e3fb, e3fc, e3fd, la0m, la0p, la0w, la0c, la0f, la0q, la0fc, la0ff, la0fq, la0n, la0r, la0x, la0y, la0gx, la0gy, la1m, la1p, la1w, la1c, la1f, la1q, la1fc, la1ff, la1fq, la1n, la1r, la1x, la1y, la1gx, la1gy, fto, e0T, e1T, e2T, e3T, rfl, k_fe_0, k_fe_1, k_fe_2, k_fe_3, k_fa_0, k_fa_1, (by first | assumption | omega), (by first | assumption | omega), he0fi, (by first | assumption | omega), (by first | assumption | omega), he1fi, (by first | assumption | omega), (by first | assumption | omega), he2fi, (by first | assumption | omega), (by first | assumption | omega), he3fi, (by first | assumption | omega), (by first | assumption | omega), (by first | assumption | omega), (by first | assumption | omega), hto, rfl, rfl, rfl, rfl, rfl, rfl⟩ ⟨fss, s0, s1, s2, s3, s0t, s0n, s0l, s0c, s0f, s1t, s1n, s1l, s1c, s1f, s2t, s2n, s2l, s2c, s2f, s3t, s3n, s3l, s3c, s3f, rfl, k_fss_0, k_fss_1, k_fss_2, k_fss_3, rfl, rfl, rfl, rfl, (by first | assumption | omega), (by first | assumption | omega), (by first | assumption | omega), (by first | assumption | omega), (by first | assumption | omega), (by first | assumption | omega), (by first | assumption | omega), (by first | assumption | omega), (by first | assumption | omega), (by first | assumption | omega), (by first | assumption | omega), (by first | assumption | omega)⟩ (h_1)
end
section
theorem wc_X12_world : Cond.code yX12_world cX12_world 2 (some .int) ∈ TB := tbm (tq5 (List.mem_of_getElem? (i := 218) (rfl))) (by decide +kernel)
theorem wi_X12_world : Cond.instanceMethod yX12_world ∈ TB := tbm (tq5 (List.mem_of_getElem? (i := 216) (by decide +kernel))) (by decide +kernel)
theorem ws_X12_world : Cond.selects RX12 yX12_world yX12_world ∈ TB := tbm (tq5 (List.mem_of_getElem? (i := 217) (by decide +kernel))) (by decide +kernel)
theorem mi_X12_world : MI yX12_world cX12_world 2 (some .int) 1 := ⟨wc_X12_world, wn_X12, ⟨by decide +kernel, by decide +kernel, by decide +kernel⟩, wi_X12_world, ws_X12_world⟩
theorem wl_L_17 : Cond.methodLink RL 17 yX12_world ∈ TB := tbm (tq5 (List.mem_of_getElem? (i := 215) (by decide +kernel))) (by decide +kernel)
theorem dL_law_216 : decode cL_law 216 = .ok (.invokevirtual 17, 3) := dl_182 (by decide +kernel)
set_option maxRecDepth 100000 in
set_option maxHeartbeats 4000000 in
theorem lm_world {X : XT} {E : EV} {wT wm : va_W} {lv : List (Nat × Value)} {rest : List Value} {kC nC : Nat} {hm : Nat} {q_undos : Nat} {q_models : Nat} {PGv : Nat → AM} {f_afterOf : Nat → Int32} {f_actMany : Nat → Int32} {f_actOf : Nat → Int32} {f_whom : Nat → Int32} {f_hasIf : Nat → Int32} {f_becomes : Nat → Int32} {f_goneOf : Nat → Int32} {q_taped : Nat} {cr : Nat → Int} {q_people : Nat} {f_secrets : Nat → Int32} {f_lanes : Nat → Int32} {f_lengths : Nat → Int32} {f_cells : Nat → Int32} {f_tokens : Nat → Int32} {f_afters : Nat → Int32} {f_caseMany : Nat → Int32} {f_happen : Nat → Int32} {f_heard : Nat → Int32} {v0 : Int32} (C : CX X room_1 cL_law 4 RL ret E) (hW : Nat.ble (rest.map fun v => v.category).sum 8 = true) (hk : kC ≤ 600000 ∧ nC ≤ 7302250) (H_ref : ok_ref E [] hm q_undos q_models PGv f_afterOf f_actMany f_actOf f_whom f_hasIf f_becomes f_goneOf q_taped cr q_people f_secrets f_lanes f_lengths f_cells f_tokens f_afters f_caseMany f_happen f_heard wm) (kont : ∀ (rr : Int32) (q_undosZ : Nat) (PGvZ : Nat → AM) (wmZ : va_W), ok_ref E [] hm q_undosZ q_models PGvZ f_afterOf f_actMany f_actOf f_whom f_hasIf f_becomes f_goneOf q_taped cr q_people f_secrets f_lanes f_lengths f_cells f_tokens f_afters f_caseMany f_happen f_heard wmZ → (((asM q_undosZ PGvZ), rr) = opWorld (asM q_undos PGv) v0 ∧ KP6 PGv PGvZ) → WW X 4 E 219 lv (.int rr :: rest) (wmZ ++ wT) kC nC) : WW X 4 E 216 lv (.int v0 :: .ref hm :: rest) (wm ++ wT) kC nC := by
  unfold ok_ref at H_ref
  refine ex8 H_ref ?_
  clear H_ref
  intro m_manys m_reals m_factsOf m_possible m_tape q_fault q_wrong q_wrongAt H_ref
  refine ex8 H_ref ?_
  clear H_ref
  intro q_spot q_place q_token q_value m_ends m_letters m_actOf m_whom H_ref
  refine ex8 H_ref ?_
  clear H_ref
  intro m_actMany m_tokens m_afters m_afterOf q_counted m_pile m_caseMany m_happen H_ref
  refine ex8 H_ref ?_
  clear H_ref
  intro m_hasIf m_becomes m_goneOf m_heard m_pairs m_heaps q_rounds q_heapMany H_ref
  refine ex8 H_ref ?_
  clear H_ref
  intro m_led m_newAt m_knowing m_firsts m_secrets m_tried m_lanes m_lengths H_ref
  refine ex8 H_ref ?_
  clear H_ref
  intro m_cells f_manys f_reals f_factsOf f_possible f_tape f_ends f_letters H_ref
  refine ex8 H_ref ?_
  clear H_ref
  intro f_pile f_pairs f_heaps f_led f_newAt f_knowing f_firsts f_tried H_ref
  refine an8 H_ref ?_
  clear H_ref
  intro we_ref hb_manys hb_reals hb_tape hb_ends hb_letters hb_actMany hb_afters H_ref
  refine an8 H_ref ?_
  clear H_ref
  intro hb_afterOf hb_caseMany hb_happen hb_lengths hpg hhp hsv hwf H_ref
  refine an7 H_ref ?_
  clear H_ref
  intro hq_undos hq_models hq_taped hq_people hq_token hq_value hcr H_ref
  have hPGv := H_ref
  clear H_ref
  subst we_ref
  subst hcr
  subst hPGv
  refine ww_ciT (k' := kC) (n' := nC) (wr := [(m_tape, .inl (E.2.1 1, 160, .inl f_tape)), (m_ends, .inl (E.2.1 1, 15, .inl f_ends)), (m_letters, .inl (E.2.1 1, 50, .inl f_letters)), (m_actOf, .inl (E.2.1 1, 800, .inl f_actOf)), (m_whom, .inl (E.2.1 1, 800, .inl f_whom)), (m_actMany, .inl (E.2.1 1, 25, .inl f_actMany)), (m_tokens, .inl (E.2.1 1, 9, .inl f_tokens)), (m_afters, .inl (E.2.1 1, 9, .inl f_afters)), (m_afterOf, .inl (E.2.1 1, 18, .inl f_afterOf)), (m_pile, .inl (E.2.1 1, 34, .inl f_pile)), (m_caseMany, .inl (E.2.1 1, 4, .inl f_caseMany)), (m_happen, .inl (E.2.1 1, 4, .inl f_happen)), (m_hasIf, .inl (E.2.1 3, 16, .inl f_hasIf)), (m_becomes, .inl (E.2.1 1, 16, .inl f_becomes)), (m_goneOf, .inl (E.2.1 1, 16, .inl f_goneOf)), (m_heard, .inl (E.2.1 1, 64, .inl f_heard)), (m_pairs, .inl (E.2.1 1, 576, .inl f_pairs)), (m_heaps, .inl (E.2.1 1, 2400, .inl f_heaps)), (m_led, .inl (E.2.1 2, 192, .inr (.inl f_led))), (m_newAt, .inl (E.2.1 1, 24, .inl f_newAt)), (m_knowing, .inl (E.2.1 1, 4, .inl f_knowing)), (m_firsts, .inl (E.2.1 1, 4, .inl f_firsts)), (m_secrets, .inl (E.2.1 1, 4, .inl f_secrets)), (m_tried, .inl (E.2.1 1, 4, .inl f_tried)), (m_lanes, .inl (E.2.1 1, 4, .inl f_lanes)), (m_lengths, .inl (E.2.1 1, 4, .inl f_lengths)), (m_cells, .inl (E.2.1 1, 192, .inl f_cells))]) C (run_V (As := [.int v0]) (rest := rest) C (y_world X.2.1 E [] hm v0 m_manys m_reals m_factsOf m_possible q_undos q_models m_tape q_taped q_fault q_wrong q_wrongAt q_spot q_place (nI q_token) (nI q_value) m_ends m_letters m_actOf m_whom m_actMany m_tokens m_afters m_afterOf q_counted m_pile m_caseMany m_happen m_hasIf m_becomes m_goneOf m_heard m_pairs m_heaps q_rounds q_heapMany m_led m_newAt m_knowing m_firsts q_people m_secrets m_tried m_lanes m_lengths m_cells f_manys f_reals f_factsOf f_possible hb_manys hb_reals hpg hwf (by first | assumption | omega)) mi_X12_world wl_L_17 rfl 0 12 rfl rfl rfl rfl hW dL_law_216) ro0 [0, 1, 2, 3, 4] [5, 6, 7, 8, 9, 10, 11, 12, 13, 14, 15, 16, 17, 18, 19, 20, 21, 22, 23, 24, 25, 26, 27, 28, 29, 30, 31] rfl (gqk (by eq_refl)) (plk (by decide +kernel)) ⟨by omega, by omega, hk.1, hk.2⟩ (fun rr u hw => ?_)
  refine ex5 hw ?_
  clear hw
  intro uz__1 f_manysz_2 f_realsz_3 f_factsOfz_4 f_possiblez_5 hw
  refine an7 hw ?_
  clear hw
  intro he_u h_6 h_7 h_8 h_9 h_10 h_11 hw
  have h_12 := hw
  clear hw
  subst he_u
  refine ww_subT (w1 := [(hm, .inr (12, [.ref m_manys, .ref m_reals, .ref m_factsOf, .ref m_possible, .int (nI uz__1), .int (nI q_models), .ref m_tape, .int (nI q_taped), .int q_fault, .int q_wrong, .int q_wrongAt, .int q_spot, .int q_place, .int (nI q_token), .int (nI q_value), .ref m_ends, .ref m_letters, .ref m_actOf, .ref m_whom, .ref m_actMany, .ref m_tokens, .ref m_afters, .ref m_afterOf, .int q_counted, .ref m_pile, .ref m_caseMany, .ref m_happen, .ref m_hasIf, .ref m_becomes, .ref m_goneOf, .ref m_heard, .ref m_pairs, .ref m_heaps, .int q_rounds, .int q_heapMany, .ref m_led, .ref m_newAt, .ref m_knowing, .ref m_firsts, .int (nI q_people), .ref m_secrets, .ref m_tried, .ref m_lanes, .ref m_lengths, .ref m_cells])), (m_manys, .inl (E.2.1 1, 18, .inl f_manysz_2)), (m_reals, .inl (E.2.1 1, 18, .inl f_realsz_3)), (m_factsOf, .inl (E.2.1 1, 432, .inl f_factsOfz_4)), (m_possible, .inl (E.2.1 1, 1728, .inl f_possiblez_5)), (m_tape, .inl (E.2.1 1, 160, .inl f_tape)), (m_ends, .inl (E.2.1 1, 15, .inl f_ends)), (m_letters, .inl (E.2.1 1, 50, .inl f_letters)), (m_actOf, .inl (E.2.1 1, 800, .inl f_actOf)), (m_whom, .inl (E.2.1 1, 800, .inl f_whom)), (m_actMany, .inl (E.2.1 1, 25, .inl f_actMany)), (m_tokens, .inl (E.2.1 1, 9, .inl f_tokens)), (m_afters, .inl (E.2.1 1, 9, .inl f_afters)), (m_afterOf, .inl (E.2.1 1, 18, .inl f_afterOf)), (m_pile, .inl (E.2.1 1, 34, .inl f_pile)), (m_caseMany, .inl (E.2.1 1, 4, .inl f_caseMany)), (m_happen, .inl (E.2.1 1, 4, .inl f_happen)), (m_hasIf, .inl (E.2.1 3, 16, .inl f_hasIf)), (m_becomes, .inl (E.2.1 1, 16, .inl f_becomes)), (m_goneOf, .inl (E.2.1 1, 16, .inl f_goneOf)), (m_heard, .inl (E.2.1 1, 64, .inl f_heard)), (m_pairs, .inl (E.2.1 1, 576, .inl f_pairs)), (m_heaps, .inl (E.2.1 1, 2400, .inl f_heaps)), (m_led, .inl (E.2.1 2, 192, .inr (.inl f_led))), (m_newAt, .inl (E.2.1 1, 24, .inl f_newAt)), (m_knowing, .inl (E.2.1 1, 4, .inl f_knowing)), (m_firsts, .inl (E.2.1 1, 4, .inl f_firsts)), (m_secrets, .inl (E.2.1 1, 4, .inl f_secrets)), (m_tried, .inl (E.2.1 1, 4, .inl f_tried)), (m_lanes, .inl (E.2.1 1, 4, .inl f_lanes)), (m_lengths, .inl (E.2.1 1, 4, .inl f_lengths)), (m_cells, .inl (E.2.1 1, 192, .inl f_cells))]) [27, 28, 29, 30, 31, 0, 1, 2, 3, 4, 5, 6, 7, 8, 9, 10, 11, 12, 13, 14, 15, 16, 17, 18, 19, 20, 21, 22, 23, 24, 25, 26] (ndk (by decide +kernel)) (gqk (by eq_refl)) ?_
  exact kont rr uz__1 (pgs f_manysz_2 f_realsz_3 f_factsOfz_4 f_possiblez_5) [(hm, .inr (12, [.ref m_manys, .ref m_reals, .ref m_factsOf, .ref m_possible, .int (nI uz__1), .int (nI q_models), .ref m_tape, .int (nI q_taped), .int q_fault, .int q_wrong, .int q_wrongAt, .int q_spot, .int q_place, .int (nI q_token), .int (nI q_value), .ref m_ends, .ref m_letters, .ref m_actOf, .ref m_whom, .ref m_actMany, .ref m_tokens, .ref m_afters, .ref m_afterOf, .int q_counted, .ref m_pile, .ref m_caseMany, .ref m_happen, .ref m_hasIf, .ref m_becomes, .ref m_goneOf, .ref m_heard, .ref m_pairs, .ref m_heaps, .int q_rounds, .int q_heapMany, .ref m_led, .ref m_newAt, .ref m_knowing, .ref m_firsts, .int (nI q_people), .ref m_secrets, .ref m_tried, .ref m_lanes, .ref m_lengths, .ref m_cells])), (m_manys, .inl (E.2.1 1, 18, .inl f_manysz_2)), (m_reals, .inl (E.2.1 1, 18, .inl f_realsz_3)), (m_factsOf, .inl (E.2.1 1, 432, .inl f_factsOfz_4)), (m_possible, .inl (E.2.1 1, 1728, .inl f_possiblez_5)), (m_tape, .inl (E.2.1 1, 160, .inl f_tape)), (m_ends, .inl (E.2.1 1, 15, .inl f_ends)), (m_letters, .inl (E.2.1 1, 50, .inl f_letters)), (m_actOf, .inl (E.2.1 1, 800, .inl f_actOf)), (m_whom, .inl (E.2.1 1, 800, .inl f_whom)), (m_actMany, .inl (E.2.1 1, 25, .inl f_actMany)), (m_tokens, .inl (E.2.1 1, 9, .inl f_tokens)), (m_afters, .inl (E.2.1 1, 9, .inl f_afters)), (m_afterOf, .inl (E.2.1 1, 18, .inl f_afterOf)), (m_pile, .inl (E.2.1 1, 34, .inl f_pile)), (m_caseMany, .inl (E.2.1 1, 4, .inl f_caseMany)), (m_happen, .inl (E.2.1 1, 4, .inl f_happen)), (m_hasIf, .inl (E.2.1 3, 16, .inl f_hasIf)), (m_becomes, .inl (E.2.1 1, 16, .inl f_becomes)), (m_goneOf, .inl (E.2.1 1, 16, .inl f_goneOf)), (m_heard, .inl (E.2.1 1, 64, .inl f_heard)), (m_pairs, .inl (E.2.1 1, 576, .inl f_pairs)), (m_heaps, .inl (E.2.1 1, 2400, .inl f_heaps)), (m_led, .inl (E.2.1 2, 192, .inr (.inl f_led))), (m_newAt, .inl (E.2.1 1, 24, .inl f_newAt)), (m_knowing, .inl (E.2.1 1, 4, .inl f_knowing)), (m_firsts, .inl (E.2.1 1, 4, .inl f_firsts)), (m_secrets, .inl (E.2.1 1, 4, .inl f_secrets)), (m_tried, .inl (E.2.1 1, 4, .inl f_tried)), (m_lanes, .inl (E.2.1 1, 4, .inl f_lanes)), (m_lengths, .inl (E.2.1 1, 4, .inl f_lengths)), (m_cells, .inl (E.2.1 1, 192, .inl f_cells))] ⟨m_manys, m_reals, m_factsOf, m_possible, m_tape, q_fault, q_wrong, q_wrongAt, q_spot, q_place, q_token, q_value, m_ends, m_letters, m_actOf, m_whom, m_actMany, m_tokens, m_afters, m_afterOf, q_counted, m_pile, m_caseMany, m_happen, m_hasIf, m_becomes, m_goneOf, m_heard, m_pairs, m_heaps, q_rounds, q_heapMany, m_led, m_newAt, m_knowing, m_firsts, m_secrets, m_tried, m_lanes, m_lengths, m_cells, f_manysz_2, f_realsz_3, f_factsOfz_4, f_possiblez_5, f_tape, f_ends, f_letters, f_pile, f_pairs, f_heaps, f_led, f_newAt, f_knowing, f_firsts, f_tried, rfl, h_6, h_7, hb_tape, hb_ends, hb_letters, hb_actMany, hb_afters, hb_afterOf, hb_caseMany, hb_happen, hb_lengths, h_8, hhp, hsv, h_9, (by first | assumption | omega), (by first | assumption | omega), (by first | assumption | omega), (by first | assumption | omega), (by first | assumption | omega), (by first | assumption | omega), rfl, rfl⟩ (⟨h_11, h_12⟩)
theorem wc_X12_sees : Cond.code yX12_sees cX12_sees 7 (some .int) ∈ TB := tbm (tq5 (List.mem_of_getElem? (i := 238) (rfl))) (by decide +kernel)
theorem wi_X12_sees : Cond.instanceMethod yX12_sees ∈ TB := tbm (tq5 (List.mem_of_getElem? (i := 236) (by decide +kernel))) (by decide +kernel)
theorem ws_X12_sees : Cond.selects RX12 yX12_sees yX12_sees ∈ TB := tbm (tq5 (List.mem_of_getElem? (i := 237) (by decide +kernel))) (by decide +kernel)
theorem mi_X12_sees : MI yX12_sees cX12_sees 7 (some .int) 5 := ⟨wc_X12_sees, wn_X12, ⟨by decide +kernel, by decide +kernel, by decide +kernel⟩, wi_X12_sees, ws_X12_sees⟩
theorem wl_L_22 : Cond.methodLink RL 22 yX12_sees ∈ TB := tbm (tq5 (List.mem_of_getElem? (i := 235) (by decide +kernel))) (by decide +kernel)
theorem dL_law_311 : decode cL_law 311 = .ok (.invokevirtual 22, 3) := dl_182 (by decide +kernel)
set_option maxRecDepth 100000 in
set_option maxHeartbeats 4000000 in
theorem lm_sees {X : XT} {E : EV} {wT wm : va_W} {lv : List (Nat × Value)} {rest : List Value} {kC nC : Nat} {hm : Nat} {q_undos : Nat} {q_models : Nat} {PGv : Nat → AM} {f_afterOf : Nat → Int32} {f_actMany : Nat → Int32} {f_actOf : Nat → Int32} {f_whom : Nat → Int32} {f_hasIf : Nat → Int32} {f_becomes : Nat → Int32} {f_goneOf : Nat → Int32} {q_taped : Nat} {cr : Nat → Int} {q_people : Nat} {f_secrets : Nat → Int32} {f_lanes : Nat → Int32} {f_lengths : Nat → Int32} {f_cells : Nat → Int32} {f_tokens : Nat → Int32} {f_afters : Nat → Int32} {f_caseMany : Nat → Int32} {f_happen : Nat → Int32} {f_heard : Nat → Int32} {v0 : Int32} {v1 : Int32} {v2 : Int32} {v3 : Int32} {v4 : Int32} (C : CX X room_1 cL_law 4 RL ret E) (hW : Nat.ble (rest.map fun v => v.category).sum 8 = true) (hk : kC ≤ 600000 ∧ nC ≤ 7302250) (H_ref : ok_ref E [] hm q_undos q_models PGv f_afterOf f_actMany f_actOf f_whom f_hasIf f_becomes f_goneOf q_taped cr q_people f_secrets f_lanes f_lengths f_cells f_tokens f_afters f_caseMany f_happen f_heard wm) (kont : ∀ (rr : Int32) (q_undosZ : Nat) (PGvZ : Nat → AM) (wmZ : va_W), ok_ref E [] hm q_undosZ q_models PGvZ f_afterOf f_actMany f_actOf f_whom f_hasIf f_becomes f_goneOf q_taped cr q_people f_secrets f_lanes f_lengths f_cells f_tokens f_afters f_caseMany f_happen f_heard wmZ → (((asM q_undosZ PGvZ), rr) = opSees (asM q_undos PGv) v0 v1 v2 v3 v4 ∧ KP6 PGv PGvZ) → WW X 4 E 314 lv (.int rr :: rest) (wmZ ++ wT) kC nC) : WW X 4 E 311 lv (.int v4 :: .int v3 :: .int v2 :: .int v1 :: .int v0 :: .ref hm :: rest) (wm ++ wT) kC nC := by
  unfold ok_ref at H_ref
  refine ex8 H_ref ?_
  clear H_ref
  intro m_manys m_reals m_factsOf m_possible m_tape q_fault q_wrong q_wrongAt H_ref
  refine ex8 H_ref ?_
  clear H_ref
  intro q_spot q_place q_token q_value m_ends m_letters m_actOf m_whom H_ref
  refine ex8 H_ref ?_
  clear H_ref
  intro m_actMany m_tokens m_afters m_afterOf q_counted m_pile m_caseMany m_happen H_ref
  refine ex8 H_ref ?_
  clear H_ref
  intro m_hasIf m_becomes m_goneOf m_heard m_pairs m_heaps q_rounds q_heapMany H_ref
  refine ex8 H_ref ?_
  clear H_ref
  intro m_led m_newAt m_knowing m_firsts m_secrets m_tried m_lanes m_lengths H_ref
  refine ex8 H_ref ?_
  clear H_ref
  intro m_cells f_manys f_reals f_factsOf f_possible f_tape f_ends f_letters H_ref
  refine ex8 H_ref ?_
  clear H_ref
  intro f_pile f_pairs f_heaps f_led f_newAt f_knowing f_firsts f_tried H_ref
  refine an8 H_ref ?_
  clear H_ref
  intro we_ref hb_manys hb_reals hb_tape hb_ends hb_letters hb_actMany hb_afters H_ref
  refine an8 H_ref ?_
  clear H_ref
  intro hb_afterOf hb_caseMany hb_happen hb_lengths hpg hhp hsv hwf H_ref
  refine an7 H_ref ?_
  clear H_ref
  intro hq_undos hq_models hq_taped hq_people hq_token hq_value hcr H_ref
  have hPGv := H_ref
  clear H_ref
  subst we_ref
  subst hcr
  subst hPGv
  refine ww_ciT (k' := kC) (n' := nC) (wr := [(m_tape, .inl (E.2.1 1, 160, .inl f_tape)), (m_ends, .inl (E.2.1 1, 15, .inl f_ends)), (m_letters, .inl (E.2.1 1, 50, .inl f_letters)), (m_actOf, .inl (E.2.1 1, 800, .inl f_actOf)), (m_whom, .inl (E.2.1 1, 800, .inl f_whom)), (m_actMany, .inl (E.2.1 1, 25, .inl f_actMany)), (m_tokens, .inl (E.2.1 1, 9, .inl f_tokens)), (m_afters, .inl (E.2.1 1, 9, .inl f_afters)), (m_afterOf, .inl (E.2.1 1, 18, .inl f_afterOf)), (m_pile, .inl (E.2.1 1, 34, .inl f_pile)), (m_caseMany, .inl (E.2.1 1, 4, .inl f_caseMany)), (m_happen, .inl (E.2.1 1, 4, .inl f_happen)), (m_hasIf, .inl (E.2.1 3, 16, .inl f_hasIf)), (m_becomes, .inl (E.2.1 1, 16, .inl f_becomes)), (m_goneOf, .inl (E.2.1 1, 16, .inl f_goneOf)), (m_heard, .inl (E.2.1 1, 64, .inl f_heard)), (m_pairs, .inl (E.2.1 1, 576, .inl f_pairs)), (m_heaps, .inl (E.2.1 1, 2400, .inl f_heaps)), (m_led, .inl (E.2.1 2, 192, .inr (.inl f_led))), (m_newAt, .inl (E.2.1 1, 24, .inl f_newAt)), (m_knowing, .inl (E.2.1 1, 4, .inl f_knowing)), (m_firsts, .inl (E.2.1 1, 4, .inl f_firsts)), (m_secrets, .inl (E.2.1 1, 4, .inl f_secrets)), (m_tried, .inl (E.2.1 1, 4, .inl f_tried)), (m_lanes, .inl (E.2.1 1, 4, .inl f_lanes)), (m_lengths, .inl (E.2.1 1, 4, .inl f_lengths)), (m_cells, .inl (E.2.1 1, 192, .inl f_cells))]) C (run_V (As := [.int v0, .int v1, .int v2, .int v3, .int v4]) (rest := rest) C (y_sees X.2.1 E [] hm v0 v1 v2 v3 v4 m_manys m_reals m_factsOf m_possible q_undos q_models m_tape q_taped q_fault q_wrong q_wrongAt q_spot q_place (nI q_token) (nI q_value) m_ends m_letters m_actOf m_whom m_actMany m_tokens m_afters m_afterOf q_counted m_pile m_caseMany m_happen m_hasIf m_becomes m_goneOf m_heard m_pairs m_heaps q_rounds q_heapMany m_led m_newAt m_knowing m_firsts q_people m_secrets m_tried m_lanes m_lengths m_cells f_manys f_reals f_factsOf f_possible hb_manys hb_reals hpg hwf (by first | assumption | omega)) mi_X12_sees wl_L_22 rfl 0 12 rfl rfl rfl rfl hW dL_law_311) ro0 [0, 1, 2, 3, 4] [5, 6, 7, 8, 9, 10, 11, 12, 13, 14, 15, 16, 17, 18, 19, 20, 21, 22, 23, 24, 25, 26, 27, 28, 29, 30, 31] rfl (gqk (by eq_refl)) (plk (by decide +kernel)) ⟨by omega, by omega, hk.1, hk.2⟩ (fun rr u hw => ?_)
  refine ex5 hw ?_
  clear hw
  intro uz__1 f_manysz_2 f_realsz_3 f_factsOfz_4 f_possiblez_5 hw
  refine an7 hw ?_
  clear hw
  intro he_u h_6 h_7 h_8 h_9 h_10 h_11 hw
  have h_12 := hw
  clear hw
  subst he_u
  refine ww_subT (w1 := [(hm, .inr (12, [.ref m_manys, .ref m_reals, .ref m_factsOf, .ref m_possible, .int (nI uz__1), .int (nI q_models), .ref m_tape, .int (nI q_taped), .int q_fault, .int q_wrong, .int q_wrongAt, .int q_spot, .int q_place, .int (nI q_token), .int (nI q_value), .ref m_ends, .ref m_letters, .ref m_actOf, .ref m_whom, .ref m_actMany, .ref m_tokens, .ref m_afters, .ref m_afterOf, .int q_counted, .ref m_pile, .ref m_caseMany, .ref m_happen, .ref m_hasIf, .ref m_becomes, .ref m_goneOf, .ref m_heard, .ref m_pairs, .ref m_heaps, .int q_rounds, .int q_heapMany, .ref m_led, .ref m_newAt, .ref m_knowing, .ref m_firsts, .int (nI q_people), .ref m_secrets, .ref m_tried, .ref m_lanes, .ref m_lengths, .ref m_cells])), (m_manys, .inl (E.2.1 1, 18, .inl f_manysz_2)), (m_reals, .inl (E.2.1 1, 18, .inl f_realsz_3)), (m_factsOf, .inl (E.2.1 1, 432, .inl f_factsOfz_4)), (m_possible, .inl (E.2.1 1, 1728, .inl f_possiblez_5)), (m_tape, .inl (E.2.1 1, 160, .inl f_tape)), (m_ends, .inl (E.2.1 1, 15, .inl f_ends)), (m_letters, .inl (E.2.1 1, 50, .inl f_letters)), (m_actOf, .inl (E.2.1 1, 800, .inl f_actOf)), (m_whom, .inl (E.2.1 1, 800, .inl f_whom)), (m_actMany, .inl (E.2.1 1, 25, .inl f_actMany)), (m_tokens, .inl (E.2.1 1, 9, .inl f_tokens)), (m_afters, .inl (E.2.1 1, 9, .inl f_afters)), (m_afterOf, .inl (E.2.1 1, 18, .inl f_afterOf)), (m_pile, .inl (E.2.1 1, 34, .inl f_pile)), (m_caseMany, .inl (E.2.1 1, 4, .inl f_caseMany)), (m_happen, .inl (E.2.1 1, 4, .inl f_happen)), (m_hasIf, .inl (E.2.1 3, 16, .inl f_hasIf)), (m_becomes, .inl (E.2.1 1, 16, .inl f_becomes)), (m_goneOf, .inl (E.2.1 1, 16, .inl f_goneOf)), (m_heard, .inl (E.2.1 1, 64, .inl f_heard)), (m_pairs, .inl (E.2.1 1, 576, .inl f_pairs)), (m_heaps, .inl (E.2.1 1, 2400, .inl f_heaps)), (m_led, .inl (E.2.1 2, 192, .inr (.inl f_led))), (m_newAt, .inl (E.2.1 1, 24, .inl f_newAt)), (m_knowing, .inl (E.2.1 1, 4, .inl f_knowing)), (m_firsts, .inl (E.2.1 1, 4, .inl f_firsts)), (m_secrets, .inl (E.2.1 1, 4, .inl f_secrets)), (m_tried, .inl (E.2.1 1, 4, .inl f_tried)), (m_lanes, .inl (E.2.1 1, 4, .inl f_lanes)), (m_lengths, .inl (E.2.1 1, 4, .inl f_lengths)), (m_cells, .inl (E.2.1 1, 192, .inl f_cells))]) [27, 28, 29, 30, 31, 0, 1, 2, 3, 4, 5, 6, 7, 8, 9, 10, 11, 12, 13, 14, 15, 16, 17, 18, 19, 20, 21, 22, 23, 24, 25, 26] (ndk (by decide +kernel)) (gqk (by eq_refl)) ?_
  exact kont rr uz__1 (pgs f_manysz_2 f_realsz_3 f_factsOfz_4 f_possiblez_5) [(hm, .inr (12, [.ref m_manys, .ref m_reals, .ref m_factsOf, .ref m_possible, .int (nI uz__1), .int (nI q_models), .ref m_tape, .int (nI q_taped), .int q_fault, .int q_wrong, .int q_wrongAt, .int q_spot, .int q_place, .int (nI q_token), .int (nI q_value), .ref m_ends, .ref m_letters, .ref m_actOf, .ref m_whom, .ref m_actMany, .ref m_tokens, .ref m_afters, .ref m_afterOf, .int q_counted, .ref m_pile, .ref m_caseMany, .ref m_happen, .ref m_hasIf, .ref m_becomes, .ref m_goneOf, .ref m_heard, .ref m_pairs, .ref m_heaps, .int q_rounds, .int q_heapMany, .ref m_led, .ref m_newAt, .ref m_knowing, .ref m_firsts, .int (nI q_people), .ref m_secrets, .ref m_tried, .ref m_lanes, .ref m_lengths, .ref m_cells])), (m_manys, .inl (E.2.1 1, 18, .inl f_manysz_2)), (m_reals, .inl (E.2.1 1, 18, .inl f_realsz_3)), (m_factsOf, .inl (E.2.1 1, 432, .inl f_factsOfz_4)), (m_possible, .inl (E.2.1 1, 1728, .inl f_possiblez_5)), (m_tape, .inl (E.2.1 1, 160, .inl f_tape)), (m_ends, .inl (E.2.1 1, 15, .inl f_ends)), (m_letters, .inl (E.2.1 1, 50, .inl f_letters)), (m_actOf, .inl (E.2.1 1, 800, .inl f_actOf)), (m_whom, .inl (E.2.1 1, 800, .inl f_whom)), (m_actMany, .inl (E.2.1 1, 25, .inl f_actMany)), (m_tokens, .inl (E.2.1 1, 9, .inl f_tokens)), (m_afters, .inl (E.2.1 1, 9, .inl f_afters)), (m_afterOf, .inl (E.2.1 1, 18, .inl f_afterOf)), (m_pile, .inl (E.2.1 1, 34, .inl f_pile)), (m_caseMany, .inl (E.2.1 1, 4, .inl f_caseMany)), (m_happen, .inl (E.2.1 1, 4, .inl f_happen)), (m_hasIf, .inl (E.2.1 3, 16, .inl f_hasIf)), (m_becomes, .inl (E.2.1 1, 16, .inl f_becomes)), (m_goneOf, .inl (E.2.1 1, 16, .inl f_goneOf)), (m_heard, .inl (E.2.1 1, 64, .inl f_heard)), (m_pairs, .inl (E.2.1 1, 576, .inl f_pairs)), (m_heaps, .inl (E.2.1 1, 2400, .inl f_heaps)), (m_led, .inl (E.2.1 2, 192, .inr (.inl f_led))), (m_newAt, .inl (E.2.1 1, 24, .inl f_newAt)), (m_knowing, .inl (E.2.1 1, 4, .inl f_knowing)), (m_firsts, .inl (E.2.1 1, 4, .inl f_firsts)), (m_secrets, .inl (E.2.1 1, 4, .inl f_secrets)), (m_tried, .inl (E.2.1 1, 4, .inl f_tried)), (m_lanes, .inl (E.2.1 1, 4, .inl f_lanes)), (m_lengths, .inl (E.2.1 1, 4, .inl f_lengths)), (m_cells, .inl (E.2.1 1, 192, .inl f_cells))] ⟨m_manys, m_reals, m_factsOf, m_possible, m_tape, q_fault, q_wrong, q_wrongAt, q_spot, q_place, q_token, q_value, m_ends, m_letters, m_actOf, m_whom, m_actMany, m_tokens, m_afters, m_afterOf, q_counted, m_pile, m_caseMany, m_happen, m_hasIf, m_becomes, m_goneOf, m_heard, m_pairs, m_heaps, q_rounds, q_heapMany, m_led, m_newAt, m_knowing, m_firsts, m_secrets, m_tried, m_lanes, m_lengths, m_cells, f_manysz_2, f_realsz_3, f_factsOfz_4, f_possiblez_5, f_tape, f_ends, f_letters, f_pile, f_pairs, f_heaps, f_led, f_newAt, f_knowing, f_firsts, f_tried, rfl, h_6, h_7, hb_tape, hb_ends, hb_letters, hb_actMany, hb_afters, hb_afterOf, hb_caseMany, hb_happen, hb_lengths, h_8, hhp, hsv, h_9, (by first | assumption | omega), (by first | assumption | omega), (by first | assumption | omega), (by first | assumption | omega), (by first | assumption | omega), (by first | assumption | omega), rfl, rfl⟩ (⟨h_11, h_12⟩)
theorem wc_X12_blind : Cond.code yX12_blind cX12_blind 7 (some .int) ∈ TB := tbm (tq6 (List.mem_of_getElem? (i := 18) (rfl))) (by decide +kernel)
theorem wi_X12_blind : Cond.instanceMethod yX12_blind ∈ TB := tbm (tq6 (List.mem_of_getElem? (i := 16) (by decide +kernel))) (by decide +kernel)
theorem ws_X12_blind : Cond.selects RX12 yX12_blind yX12_blind ∈ TB := tbm (tq6 (List.mem_of_getElem? (i := 17) (by decide +kernel))) (by decide +kernel)
theorem mi_X12_blind : MI yX12_blind cX12_blind 7 (some .int) 1 := ⟨wc_X12_blind, wn_X12, ⟨by decide +kernel, by decide +kernel, by decide +kernel⟩, wi_X12_blind, ws_X12_blind⟩
theorem wl_L_26 : Cond.methodLink RL 26 yX12_blind ∈ TB := tbm (tq6 (List.mem_of_getElem? (i := 15) (by decide +kernel))) (by decide +kernel)
theorem dL_law_334 : decode cL_law 334 = .ok (.invokevirtual 26, 3) := dl_182 (by decide +kernel)
set_option maxRecDepth 100000 in
set_option maxHeartbeats 4000000 in
theorem lm_blind {X : XT} {E : EV} {wT wm : va_W} {lv : List (Nat × Value)} {rest : List Value} {kC nC : Nat} {hm : Nat} {q_undos : Nat} {q_models : Nat} {PGv : Nat → AM} {f_afterOf : Nat → Int32} {f_actMany : Nat → Int32} {f_actOf : Nat → Int32} {f_whom : Nat → Int32} {f_hasIf : Nat → Int32} {f_becomes : Nat → Int32} {f_goneOf : Nat → Int32} {q_taped : Nat} {cr : Nat → Int} {q_people : Nat} {f_secrets : Nat → Int32} {f_lanes : Nat → Int32} {f_lengths : Nat → Int32} {f_cells : Nat → Int32} {f_tokens : Nat → Int32} {f_afters : Nat → Int32} {f_caseMany : Nat → Int32} {f_happen : Nat → Int32} {f_heard : Nat → Int32} {v0 : Int32} (C : CX X room_1 cL_law 4 RL ret E) (hW : Nat.ble (rest.map fun v => v.category).sum 8 = true) (hk : kC ≤ 600000 ∧ nC ≤ 7302250) (H_ref : ok_ref E [] hm q_undos q_models PGv f_afterOf f_actMany f_actOf f_whom f_hasIf f_becomes f_goneOf q_taped cr q_people f_secrets f_lanes f_lengths f_cells f_tokens f_afters f_caseMany f_happen f_heard wm) (kont : ∀ (rr : Int32) (q_undosZ : Nat) (PGvZ : Nat → AM) (wmZ : va_W), ok_ref E [] hm q_undosZ q_models PGvZ f_afterOf f_actMany f_actOf f_whom f_hasIf f_becomes f_goneOf q_taped cr q_people f_secrets f_lanes f_lengths f_cells f_tokens f_afters f_caseMany f_happen f_heard wmZ → (((asM q_undosZ PGvZ), rr) = opBlind (asM q_undos PGv) v0 ∧ KP6 PGv PGvZ) → WW X 4 E 337 lv (.int rr :: rest) (wmZ ++ wT) kC nC) : WW X 4 E 334 lv (.int v0 :: .ref hm :: rest) (wm ++ wT) kC nC := by
  unfold ok_ref at H_ref
  refine ex8 H_ref ?_
  clear H_ref
  intro m_manys m_reals m_factsOf m_possible m_tape q_fault q_wrong q_wrongAt H_ref
  refine ex8 H_ref ?_
  clear H_ref
  intro q_spot q_place q_token q_value m_ends m_letters m_actOf m_whom H_ref
  refine ex8 H_ref ?_
  clear H_ref
  intro m_actMany m_tokens m_afters m_afterOf q_counted m_pile m_caseMany m_happen H_ref
  refine ex8 H_ref ?_
  clear H_ref
  intro m_hasIf m_becomes m_goneOf m_heard m_pairs m_heaps q_rounds q_heapMany H_ref
  refine ex8 H_ref ?_
  clear H_ref
  intro m_led m_newAt m_knowing m_firsts m_secrets m_tried m_lanes m_lengths H_ref
  refine ex8 H_ref ?_
  clear H_ref
  intro m_cells f_manys f_reals f_factsOf f_possible f_tape f_ends f_letters H_ref
  refine ex8 H_ref ?_
  clear H_ref
  intro f_pile f_pairs f_heaps f_led f_newAt f_knowing f_firsts f_tried H_ref
  refine an8 H_ref ?_
  clear H_ref
  intro we_ref hb_manys hb_reals hb_tape hb_ends hb_letters hb_actMany hb_afters H_ref
  refine an8 H_ref ?_
  clear H_ref
  intro hb_afterOf hb_caseMany hb_happen hb_lengths hpg hhp hsv hwf H_ref
  refine an7 H_ref ?_
  clear H_ref
  intro hq_undos hq_models hq_taped hq_people hq_token hq_value hcr H_ref
  have hPGv := H_ref
  clear H_ref
  subst we_ref
  subst hcr
  subst hPGv
  refine ww_ciT (k' := kC) (n' := nC) (wr := [(m_tape, .inl (E.2.1 1, 160, .inl f_tape)), (m_ends, .inl (E.2.1 1, 15, .inl f_ends)), (m_letters, .inl (E.2.1 1, 50, .inl f_letters)), (m_actOf, .inl (E.2.1 1, 800, .inl f_actOf)), (m_whom, .inl (E.2.1 1, 800, .inl f_whom)), (m_actMany, .inl (E.2.1 1, 25, .inl f_actMany)), (m_tokens, .inl (E.2.1 1, 9, .inl f_tokens)), (m_afters, .inl (E.2.1 1, 9, .inl f_afters)), (m_afterOf, .inl (E.2.1 1, 18, .inl f_afterOf)), (m_pile, .inl (E.2.1 1, 34, .inl f_pile)), (m_caseMany, .inl (E.2.1 1, 4, .inl f_caseMany)), (m_happen, .inl (E.2.1 1, 4, .inl f_happen)), (m_hasIf, .inl (E.2.1 3, 16, .inl f_hasIf)), (m_becomes, .inl (E.2.1 1, 16, .inl f_becomes)), (m_goneOf, .inl (E.2.1 1, 16, .inl f_goneOf)), (m_heard, .inl (E.2.1 1, 64, .inl f_heard)), (m_pairs, .inl (E.2.1 1, 576, .inl f_pairs)), (m_heaps, .inl (E.2.1 1, 2400, .inl f_heaps)), (m_led, .inl (E.2.1 2, 192, .inr (.inl f_led))), (m_newAt, .inl (E.2.1 1, 24, .inl f_newAt)), (m_knowing, .inl (E.2.1 1, 4, .inl f_knowing)), (m_firsts, .inl (E.2.1 1, 4, .inl f_firsts)), (m_secrets, .inl (E.2.1 1, 4, .inl f_secrets)), (m_tried, .inl (E.2.1 1, 4, .inl f_tried)), (m_lanes, .inl (E.2.1 1, 4, .inl f_lanes)), (m_lengths, .inl (E.2.1 1, 4, .inl f_lengths)), (m_cells, .inl (E.2.1 1, 192, .inl f_cells))]) C (run_V (As := [.int v0]) (rest := rest) C (y_blind X.2.1 E [] hm v0 m_manys m_reals m_factsOf m_possible q_undos q_models m_tape q_taped q_fault q_wrong q_wrongAt q_spot q_place (nI q_token) (nI q_value) m_ends m_letters m_actOf m_whom m_actMany m_tokens m_afters m_afterOf q_counted m_pile m_caseMany m_happen m_hasIf m_becomes m_goneOf m_heard m_pairs m_heaps q_rounds q_heapMany m_led m_newAt m_knowing m_firsts q_people m_secrets m_tried m_lanes m_lengths m_cells f_manys f_reals f_factsOf f_possible hb_manys hb_reals hpg hwf (by first | assumption | omega)) mi_X12_blind wl_L_26 rfl 0 12 rfl rfl rfl rfl hW dL_law_334) ro0 [0, 1, 2, 3, 4] [5, 6, 7, 8, 9, 10, 11, 12, 13, 14, 15, 16, 17, 18, 19, 20, 21, 22, 23, 24, 25, 26, 27, 28, 29, 30, 31] rfl (gqk (by eq_refl)) (plk (by decide +kernel)) ⟨by omega, by omega, hk.1, hk.2⟩ (fun rr u hw => ?_)
  refine ex5 hw ?_
  clear hw
  intro uz__1 f_manysz_2 f_realsz_3 f_factsOfz_4 f_possiblez_5 hw
  refine an7 hw ?_
  clear hw
  intro he_u h_6 h_7 h_8 h_9 h_10 h_11 hw
  have h_12 := hw
  clear hw
  subst he_u
  refine ww_subT (w1 := [(hm, .inr (12, [.ref m_manys, .ref m_reals, .ref m_factsOf, .ref m_possible, .int (nI uz__1), .int (nI q_models), .ref m_tape, .int (nI q_taped), .int q_fault, .int q_wrong, .int q_wrongAt, .int q_spot, .int q_place, .int (nI q_token), .int (nI q_value), .ref m_ends, .ref m_letters, .ref m_actOf, .ref m_whom, .ref m_actMany, .ref m_tokens, .ref m_afters, .ref m_afterOf, .int q_counted, .ref m_pile, .ref m_caseMany, .ref m_happen, .ref m_hasIf, .ref m_becomes, .ref m_goneOf, .ref m_heard, .ref m_pairs, .ref m_heaps, .int q_rounds, .int q_heapMany, .ref m_led, .ref m_newAt, .ref m_knowing, .ref m_firsts, .int (nI q_people), .ref m_secrets, .ref m_tried, .ref m_lanes, .ref m_lengths, .ref m_cells])), (m_manys, .inl (E.2.1 1, 18, .inl f_manysz_2)), (m_reals, .inl (E.2.1 1, 18, .inl f_realsz_3)), (m_factsOf, .inl (E.2.1 1, 432, .inl f_factsOfz_4)), (m_possible, .inl (E.2.1 1, 1728, .inl f_possiblez_5)), (m_tape, .inl (E.2.1 1, 160, .inl f_tape)), (m_ends, .inl (E.2.1 1, 15, .inl f_ends)), (m_letters, .inl (E.2.1 1, 50, .inl f_letters)), (m_actOf, .inl (E.2.1 1, 800, .inl f_actOf)), (m_whom, .inl (E.2.1 1, 800, .inl f_whom)), (m_actMany, .inl (E.2.1 1, 25, .inl f_actMany)), (m_tokens, .inl (E.2.1 1, 9, .inl f_tokens)), (m_afters, .inl (E.2.1 1, 9, .inl f_afters)), (m_afterOf, .inl (E.2.1 1, 18, .inl f_afterOf)), (m_pile, .inl (E.2.1 1, 34, .inl f_pile)), (m_caseMany, .inl (E.2.1 1, 4, .inl f_caseMany)), (m_happen, .inl (E.2.1 1, 4, .inl f_happen)), (m_hasIf, .inl (E.2.1 3, 16, .inl f_hasIf)), (m_becomes, .inl (E.2.1 1, 16, .inl f_becomes)), (m_goneOf, .inl (E.2.1 1, 16, .inl f_goneOf)), (m_heard, .inl (E.2.1 1, 64, .inl f_heard)), (m_pairs, .inl (E.2.1 1, 576, .inl f_pairs)), (m_heaps, .inl (E.2.1 1, 2400, .inl f_heaps)), (m_led, .inl (E.2.1 2, 192, .inr (.inl f_led))), (m_newAt, .inl (E.2.1 1, 24, .inl f_newAt)), (m_knowing, .inl (E.2.1 1, 4, .inl f_knowing)), (m_firsts, .inl (E.2.1 1, 4, .inl f_firsts)), (m_secrets, .inl (E.2.1 1, 4, .inl f_secrets)), (m_tried, .inl (E.2.1 1, 4, .inl f_tried)), (m_lanes, .inl (E.2.1 1, 4, .inl f_lanes)), (m_lengths, .inl (E.2.1 1, 4, .inl f_lengths)), (m_cells, .inl (E.2.1 1, 192, .inl f_cells))]) [27, 28, 29, 30, 31, 0, 1, 2, 3, 4, 5, 6, 7, 8, 9, 10, 11, 12, 13, 14, 15, 16, 17, 18, 19, 20, 21, 22, 23, 24, 25, 26] (ndk (by decide +kernel)) (gqk (by eq_refl)) ?_
  exact kont rr uz__1 (pgs f_manysz_2 f_realsz_3 f_factsOfz_4 f_possiblez_5) [(hm, .inr (12, [.ref m_manys, .ref m_reals, .ref m_factsOf, .ref m_possible, .int (nI uz__1), .int (nI q_models), .ref m_tape, .int (nI q_taped), .int q_fault, .int q_wrong, .int q_wrongAt, .int q_spot, .int q_place, .int (nI q_token), .int (nI q_value), .ref m_ends, .ref m_letters, .ref m_actOf, .ref m_whom, .ref m_actMany, .ref m_tokens, .ref m_afters, .ref m_afterOf, .int q_counted, .ref m_pile, .ref m_caseMany, .ref m_happen, .ref m_hasIf, .ref m_becomes, .ref m_goneOf, .ref m_heard, .ref m_pairs, .ref m_heaps, .int q_rounds, .int q_heapMany, .ref m_led, .ref m_newAt, .ref m_knowing, .ref m_firsts, .int (nI q_people), .ref m_secrets, .ref m_tried, .ref m_lanes, .ref m_lengths, .ref m_cells])), (m_manys, .inl (E.2.1 1, 18, .inl f_manysz_2)), (m_reals, .inl (E.2.1 1, 18, .inl f_realsz_3)), (m_factsOf, .inl (E.2.1 1, 432, .inl f_factsOfz_4)), (m_possible, .inl (E.2.1 1, 1728, .inl f_possiblez_5)), (m_tape, .inl (E.2.1 1, 160, .inl f_tape)), (m_ends, .inl (E.2.1 1, 15, .inl f_ends)), (m_letters, .inl (E.2.1 1, 50, .inl f_letters)), (m_actOf, .inl (E.2.1 1, 800, .inl f_actOf)), (m_whom, .inl (E.2.1 1, 800, .inl f_whom)), (m_actMany, .inl (E.2.1 1, 25, .inl f_actMany)), (m_tokens, .inl (E.2.1 1, 9, .inl f_tokens)), (m_afters, .inl (E.2.1 1, 9, .inl f_afters)), (m_afterOf, .inl (E.2.1 1, 18, .inl f_afterOf)), (m_pile, .inl (E.2.1 1, 34, .inl f_pile)), (m_caseMany, .inl (E.2.1 1, 4, .inl f_caseMany)), (m_happen, .inl (E.2.1 1, 4, .inl f_happen)), (m_hasIf, .inl (E.2.1 3, 16, .inl f_hasIf)), (m_becomes, .inl (E.2.1 1, 16, .inl f_becomes)), (m_goneOf, .inl (E.2.1 1, 16, .inl f_goneOf)), (m_heard, .inl (E.2.1 1, 64, .inl f_heard)), (m_pairs, .inl (E.2.1 1, 576, .inl f_pairs)), (m_heaps, .inl (E.2.1 1, 2400, .inl f_heaps)), (m_led, .inl (E.2.1 2, 192, .inr (.inl f_led))), (m_newAt, .inl (E.2.1 1, 24, .inl f_newAt)), (m_knowing, .inl (E.2.1 1, 4, .inl f_knowing)), (m_firsts, .inl (E.2.1 1, 4, .inl f_firsts)), (m_secrets, .inl (E.2.1 1, 4, .inl f_secrets)), (m_tried, .inl (E.2.1 1, 4, .inl f_tried)), (m_lanes, .inl (E.2.1 1, 4, .inl f_lanes)), (m_lengths, .inl (E.2.1 1, 4, .inl f_lengths)), (m_cells, .inl (E.2.1 1, 192, .inl f_cells))] ⟨m_manys, m_reals, m_factsOf, m_possible, m_tape, q_fault, q_wrong, q_wrongAt, q_spot, q_place, q_token, q_value, m_ends, m_letters, m_actOf, m_whom, m_actMany, m_tokens, m_afters, m_afterOf, q_counted, m_pile, m_caseMany, m_happen, m_hasIf, m_becomes, m_goneOf, m_heard, m_pairs, m_heaps, q_rounds, q_heapMany, m_led, m_newAt, m_knowing, m_firsts, m_secrets, m_tried, m_lanes, m_lengths, m_cells, f_manysz_2, f_realsz_3, f_factsOfz_4, f_possiblez_5, f_tape, f_ends, f_letters, f_pile, f_pairs, f_heaps, f_led, f_newAt, f_knowing, f_firsts, f_tried, rfl, h_6, h_7, hb_tape, hb_ends, hb_letters, hb_actMany, hb_afters, hb_afterOf, hb_caseMany, hb_happen, hb_lengths, h_8, hhp, hsv, h_9, (by first | assumption | omega), (by first | assumption | omega), (by first | assumption | omega), (by first | assumption | omega), (by first | assumption | omega), (by first | assumption | omega), rfl, rfl⟩ (⟨h_11, h_12⟩)
theorem wc_X12_real : Cond.code yX12_real cX12_real 3 (some .int) ∈ TB := tbm (tq6 (List.mem_of_getElem? (i := 26) (rfl))) (by decide +kernel)
theorem wi_X12_real : Cond.instanceMethod yX12_real ∈ TB := tbm (tq6 (List.mem_of_getElem? (i := 24) (by decide +kernel))) (by decide +kernel)
theorem ws_X12_real : Cond.selects RX12 yX12_real yX12_real ∈ TB := tbm (tq6 (List.mem_of_getElem? (i := 25) (by decide +kernel))) (by decide +kernel)
theorem mi_X12_real : MI yX12_real cX12_real 3 (some .int) 1 := ⟨wc_X12_real, wn_X12, ⟨by decide +kernel, by decide +kernel, by decide +kernel⟩, wi_X12_real, ws_X12_real⟩
theorem wl_L_30 : Cond.methodLink RL 30 yX12_real ∈ TB := tbm (tq6 (List.mem_of_getElem? (i := 23) (by decide +kernel))) (by decide +kernel)
theorem dL_law_357 : decode cL_law 357 = .ok (.invokevirtual 30, 3) := dl_182 (by decide +kernel)
set_option maxRecDepth 100000 in
set_option maxHeartbeats 4000000 in
theorem lm_real {X : XT} {E : EV} {wT wm : va_W} {lv : List (Nat × Value)} {rest : List Value} {kC nC : Nat} {hm : Nat} {q_undos : Nat} {q_models : Nat} {PGv : Nat → AM} {f_afterOf : Nat → Int32} {f_actMany : Nat → Int32} {f_actOf : Nat → Int32} {f_whom : Nat → Int32} {f_hasIf : Nat → Int32} {f_becomes : Nat → Int32} {f_goneOf : Nat → Int32} {q_taped : Nat} {cr : Nat → Int} {q_people : Nat} {f_secrets : Nat → Int32} {f_lanes : Nat → Int32} {f_lengths : Nat → Int32} {f_cells : Nat → Int32} {f_tokens : Nat → Int32} {f_afters : Nat → Int32} {f_caseMany : Nat → Int32} {f_happen : Nat → Int32} {f_heard : Nat → Int32} {v0 : Int32} (C : CX X room_1 cL_law 4 RL ret E) (hW : Nat.ble (rest.map fun v => v.category).sum 8 = true) (hk : kC ≤ 600000 ∧ nC ≤ 7302250) (H_ref : ok_ref E [] hm q_undos q_models PGv f_afterOf f_actMany f_actOf f_whom f_hasIf f_becomes f_goneOf q_taped cr q_people f_secrets f_lanes f_lengths f_cells f_tokens f_afters f_caseMany f_happen f_heard wm) (kont : ∀ (rr : Int32) (q_undosZ : Nat) (PGvZ : Nat → AM) (wmZ : va_W), ok_ref E [] hm q_undosZ q_models PGvZ f_afterOf f_actMany f_actOf f_whom f_hasIf f_becomes f_goneOf q_taped cr q_people f_secrets f_lanes f_lengths f_cells f_tokens f_afters f_caseMany f_happen f_heard wmZ → (((asM q_undosZ PGvZ), rr) = opReal (asM q_undos PGv) v0 ∧ KP6 PGv PGvZ) → WW X 4 E 360 lv (.int rr :: rest) (wmZ ++ wT) kC nC) : WW X 4 E 357 lv (.int v0 :: .ref hm :: rest) (wm ++ wT) kC nC := by
  unfold ok_ref at H_ref
  refine ex8 H_ref ?_
  clear H_ref
  intro m_manys m_reals m_factsOf m_possible m_tape q_fault q_wrong q_wrongAt H_ref
  refine ex8 H_ref ?_
  clear H_ref
  intro q_spot q_place q_token q_value m_ends m_letters m_actOf m_whom H_ref
  refine ex8 H_ref ?_
  clear H_ref
  intro m_actMany m_tokens m_afters m_afterOf q_counted m_pile m_caseMany m_happen H_ref
  refine ex8 H_ref ?_
  clear H_ref
  intro m_hasIf m_becomes m_goneOf m_heard m_pairs m_heaps q_rounds q_heapMany H_ref
  refine ex8 H_ref ?_
  clear H_ref
  intro m_led m_newAt m_knowing m_firsts m_secrets m_tried m_lanes m_lengths H_ref
  refine ex8 H_ref ?_
  clear H_ref
  intro m_cells f_manys f_reals f_factsOf f_possible f_tape f_ends f_letters H_ref
  refine ex8 H_ref ?_
  clear H_ref
  intro f_pile f_pairs f_heaps f_led f_newAt f_knowing f_firsts f_tried H_ref
  refine an8 H_ref ?_
  clear H_ref
  intro we_ref hb_manys hb_reals hb_tape hb_ends hb_letters hb_actMany hb_afters H_ref
  refine an8 H_ref ?_
  clear H_ref
  intro hb_afterOf hb_caseMany hb_happen hb_lengths hpg hhp hsv hwf H_ref
  refine an7 H_ref ?_
  clear H_ref
  intro hq_undos hq_models hq_taped hq_people hq_token hq_value hcr H_ref
  have hPGv := H_ref
  clear H_ref
  subst we_ref
  subst hcr
  subst hPGv
  refine ww_ciT (k' := kC) (n' := nC) (wr := [(m_tape, .inl (E.2.1 1, 160, .inl f_tape)), (m_ends, .inl (E.2.1 1, 15, .inl f_ends)), (m_letters, .inl (E.2.1 1, 50, .inl f_letters)), (m_actOf, .inl (E.2.1 1, 800, .inl f_actOf)), (m_whom, .inl (E.2.1 1, 800, .inl f_whom)), (m_actMany, .inl (E.2.1 1, 25, .inl f_actMany)), (m_tokens, .inl (E.2.1 1, 9, .inl f_tokens)), (m_afters, .inl (E.2.1 1, 9, .inl f_afters)), (m_afterOf, .inl (E.2.1 1, 18, .inl f_afterOf)), (m_pile, .inl (E.2.1 1, 34, .inl f_pile)), (m_caseMany, .inl (E.2.1 1, 4, .inl f_caseMany)), (m_happen, .inl (E.2.1 1, 4, .inl f_happen)), (m_hasIf, .inl (E.2.1 3, 16, .inl f_hasIf)), (m_becomes, .inl (E.2.1 1, 16, .inl f_becomes)), (m_goneOf, .inl (E.2.1 1, 16, .inl f_goneOf)), (m_heard, .inl (E.2.1 1, 64, .inl f_heard)), (m_pairs, .inl (E.2.1 1, 576, .inl f_pairs)), (m_heaps, .inl (E.2.1 1, 2400, .inl f_heaps)), (m_led, .inl (E.2.1 2, 192, .inr (.inl f_led))), (m_newAt, .inl (E.2.1 1, 24, .inl f_newAt)), (m_knowing, .inl (E.2.1 1, 4, .inl f_knowing)), (m_firsts, .inl (E.2.1 1, 4, .inl f_firsts)), (m_secrets, .inl (E.2.1 1, 4, .inl f_secrets)), (m_tried, .inl (E.2.1 1, 4, .inl f_tried)), (m_lanes, .inl (E.2.1 1, 4, .inl f_lanes)), (m_lengths, .inl (E.2.1 1, 4, .inl f_lengths)), (m_cells, .inl (E.2.1 1, 192, .inl f_cells))]) C (run_V (As := [.int v0]) (rest := rest) C (y_real X.2.1 E [] hm v0 m_manys m_reals m_factsOf m_possible q_undos q_models m_tape q_taped q_fault q_wrong q_wrongAt q_spot q_place (nI q_token) (nI q_value) m_ends m_letters m_actOf m_whom m_actMany m_tokens m_afters m_afterOf q_counted m_pile m_caseMany m_happen m_hasIf m_becomes m_goneOf m_heard m_pairs m_heaps q_rounds q_heapMany m_led m_newAt m_knowing m_firsts q_people m_secrets m_tried m_lanes m_lengths m_cells f_manys f_reals f_factsOf f_possible hb_manys hb_reals hpg hwf (by first | assumption | omega)) mi_X12_real wl_L_30 rfl 0 12 rfl rfl rfl rfl hW dL_law_357) ro0 [0, 1, 2, 3, 4] [5, 6, 7, 8, 9, 10, 11, 12, 13, 14, 15, 16, 17, 18, 19, 20, 21, 22, 23, 24, 25, 26, 27, 28, 29, 30, 31] rfl (gqk (by eq_refl)) (plk (by decide +kernel)) ⟨by omega, by omega, hk.1, hk.2⟩ (fun rr u hw => ?_)
  refine ex5 hw ?_
  clear hw
  intro uz__1 f_manysz_2 f_realsz_3 f_factsOfz_4 f_possiblez_5 hw
  refine an7 hw ?_
  clear hw
  intro he_u h_6 h_7 h_8 h_9 h_10 h_11 hw
  have h_12 := hw
  clear hw
  subst he_u
  refine ww_subT (w1 := [(hm, .inr (12, [.ref m_manys, .ref m_reals, .ref m_factsOf, .ref m_possible, .int (nI uz__1), .int (nI q_models), .ref m_tape, .int (nI q_taped), .int q_fault, .int q_wrong, .int q_wrongAt, .int q_spot, .int q_place, .int (nI q_token), .int (nI q_value), .ref m_ends, .ref m_letters, .ref m_actOf, .ref m_whom, .ref m_actMany, .ref m_tokens, .ref m_afters, .ref m_afterOf, .int q_counted, .ref m_pile, .ref m_caseMany, .ref m_happen, .ref m_hasIf, .ref m_becomes, .ref m_goneOf, .ref m_heard, .ref m_pairs, .ref m_heaps, .int q_rounds, .int q_heapMany, .ref m_led, .ref m_newAt, .ref m_knowing, .ref m_firsts, .int (nI q_people), .ref m_secrets, .ref m_tried, .ref m_lanes, .ref m_lengths, .ref m_cells])), (m_manys, .inl (E.2.1 1, 18, .inl f_manysz_2)), (m_reals, .inl (E.2.1 1, 18, .inl f_realsz_3)), (m_factsOf, .inl (E.2.1 1, 432, .inl f_factsOfz_4)), (m_possible, .inl (E.2.1 1, 1728, .inl f_possiblez_5)), (m_tape, .inl (E.2.1 1, 160, .inl f_tape)), (m_ends, .inl (E.2.1 1, 15, .inl f_ends)), (m_letters, .inl (E.2.1 1, 50, .inl f_letters)), (m_actOf, .inl (E.2.1 1, 800, .inl f_actOf)), (m_whom, .inl (E.2.1 1, 800, .inl f_whom)), (m_actMany, .inl (E.2.1 1, 25, .inl f_actMany)), (m_tokens, .inl (E.2.1 1, 9, .inl f_tokens)), (m_afters, .inl (E.2.1 1, 9, .inl f_afters)), (m_afterOf, .inl (E.2.1 1, 18, .inl f_afterOf)), (m_pile, .inl (E.2.1 1, 34, .inl f_pile)), (m_caseMany, .inl (E.2.1 1, 4, .inl f_caseMany)), (m_happen, .inl (E.2.1 1, 4, .inl f_happen)), (m_hasIf, .inl (E.2.1 3, 16, .inl f_hasIf)), (m_becomes, .inl (E.2.1 1, 16, .inl f_becomes)), (m_goneOf, .inl (E.2.1 1, 16, .inl f_goneOf)), (m_heard, .inl (E.2.1 1, 64, .inl f_heard)), (m_pairs, .inl (E.2.1 1, 576, .inl f_pairs)), (m_heaps, .inl (E.2.1 1, 2400, .inl f_heaps)), (m_led, .inl (E.2.1 2, 192, .inr (.inl f_led))), (m_newAt, .inl (E.2.1 1, 24, .inl f_newAt)), (m_knowing, .inl (E.2.1 1, 4, .inl f_knowing)), (m_firsts, .inl (E.2.1 1, 4, .inl f_firsts)), (m_secrets, .inl (E.2.1 1, 4, .inl f_secrets)), (m_tried, .inl (E.2.1 1, 4, .inl f_tried)), (m_lanes, .inl (E.2.1 1, 4, .inl f_lanes)), (m_lengths, .inl (E.2.1 1, 4, .inl f_lengths)), (m_cells, .inl (E.2.1 1, 192, .inl f_cells))]) [27, 28, 29, 30, 31, 0, 1, 2, 3, 4, 5, 6, 7, 8, 9, 10, 11, 12, 13, 14, 15, 16, 17, 18, 19, 20, 21, 22, 23, 24, 25, 26] (ndk (by decide +kernel)) (gqk (by eq_refl)) ?_
  exact kont rr uz__1 (pgs f_manysz_2 f_realsz_3 f_factsOfz_4 f_possiblez_5) [(hm, .inr (12, [.ref m_manys, .ref m_reals, .ref m_factsOf, .ref m_possible, .int (nI uz__1), .int (nI q_models), .ref m_tape, .int (nI q_taped), .int q_fault, .int q_wrong, .int q_wrongAt, .int q_spot, .int q_place, .int (nI q_token), .int (nI q_value), .ref m_ends, .ref m_letters, .ref m_actOf, .ref m_whom, .ref m_actMany, .ref m_tokens, .ref m_afters, .ref m_afterOf, .int q_counted, .ref m_pile, .ref m_caseMany, .ref m_happen, .ref m_hasIf, .ref m_becomes, .ref m_goneOf, .ref m_heard, .ref m_pairs, .ref m_heaps, .int q_rounds, .int q_heapMany, .ref m_led, .ref m_newAt, .ref m_knowing, .ref m_firsts, .int (nI q_people), .ref m_secrets, .ref m_tried, .ref m_lanes, .ref m_lengths, .ref m_cells])), (m_manys, .inl (E.2.1 1, 18, .inl f_manysz_2)), (m_reals, .inl (E.2.1 1, 18, .inl f_realsz_3)), (m_factsOf, .inl (E.2.1 1, 432, .inl f_factsOfz_4)), (m_possible, .inl (E.2.1 1, 1728, .inl f_possiblez_5)), (m_tape, .inl (E.2.1 1, 160, .inl f_tape)), (m_ends, .inl (E.2.1 1, 15, .inl f_ends)), (m_letters, .inl (E.2.1 1, 50, .inl f_letters)), (m_actOf, .inl (E.2.1 1, 800, .inl f_actOf)), (m_whom, .inl (E.2.1 1, 800, .inl f_whom)), (m_actMany, .inl (E.2.1 1, 25, .inl f_actMany)), (m_tokens, .inl (E.2.1 1, 9, .inl f_tokens)), (m_afters, .inl (E.2.1 1, 9, .inl f_afters)), (m_afterOf, .inl (E.2.1 1, 18, .inl f_afterOf)), (m_pile, .inl (E.2.1 1, 34, .inl f_pile)), (m_caseMany, .inl (E.2.1 1, 4, .inl f_caseMany)), (m_happen, .inl (E.2.1 1, 4, .inl f_happen)), (m_hasIf, .inl (E.2.1 3, 16, .inl f_hasIf)), (m_becomes, .inl (E.2.1 1, 16, .inl f_becomes)), (m_goneOf, .inl (E.2.1 1, 16, .inl f_goneOf)), (m_heard, .inl (E.2.1 1, 64, .inl f_heard)), (m_pairs, .inl (E.2.1 1, 576, .inl f_pairs)), (m_heaps, .inl (E.2.1 1, 2400, .inl f_heaps)), (m_led, .inl (E.2.1 2, 192, .inr (.inl f_led))), (m_newAt, .inl (E.2.1 1, 24, .inl f_newAt)), (m_knowing, .inl (E.2.1 1, 4, .inl f_knowing)), (m_firsts, .inl (E.2.1 1, 4, .inl f_firsts)), (m_secrets, .inl (E.2.1 1, 4, .inl f_secrets)), (m_tried, .inl (E.2.1 1, 4, .inl f_tried)), (m_lanes, .inl (E.2.1 1, 4, .inl f_lanes)), (m_lengths, .inl (E.2.1 1, 4, .inl f_lengths)), (m_cells, .inl (E.2.1 1, 192, .inl f_cells))] ⟨m_manys, m_reals, m_factsOf, m_possible, m_tape, q_fault, q_wrong, q_wrongAt, q_spot, q_place, q_token, q_value, m_ends, m_letters, m_actOf, m_whom, m_actMany, m_tokens, m_afters, m_afterOf, q_counted, m_pile, m_caseMany, m_happen, m_hasIf, m_becomes, m_goneOf, m_heard, m_pairs, m_heaps, q_rounds, q_heapMany, m_led, m_newAt, m_knowing, m_firsts, m_secrets, m_tried, m_lanes, m_lengths, m_cells, f_manysz_2, f_realsz_3, f_factsOfz_4, f_possiblez_5, f_tape, f_ends, f_letters, f_pile, f_pairs, f_heaps, f_led, f_newAt, f_knowing, f_firsts, f_tried, rfl, h_6, h_7, hb_tape, hb_ends, hb_letters, hb_actMany, hb_afters, hb_afterOf, hb_caseMany, hb_happen, hb_lengths, h_8, hhp, hsv, h_9, (by first | assumption | omega), (by first | assumption | omega), (by first | assumption | omega), (by first | assumption | omega), (by first | assumption | omega), (by first | assumption | omega), rfl, rfl⟩ (⟨h_11, h_12⟩)
theorem wc_X12_of : Cond.code yX12_of cX12_of 5 (some .int) ∈ TB := tbm (tq6 (List.mem_of_getElem? (i := 30) (rfl))) (by decide +kernel)
theorem wi_X12_of : Cond.instanceMethod yX12_of ∈ TB := tbm (tq6 (List.mem_of_getElem? (i := 28) (by decide +kernel))) (by decide +kernel)
theorem ws_X12_of : Cond.selects RX12 yX12_of yX12_of ∈ TB := tbm (tq6 (List.mem_of_getElem? (i := 29) (by decide +kernel))) (by decide +kernel)
theorem mi_X12_of : MI yX12_of cX12_of 5 (some .int) 2 := ⟨wc_X12_of, wn_X12, ⟨by decide +kernel, by decide +kernel, by decide +kernel⟩, wi_X12_of, ws_X12_of⟩
theorem wl_L_35 : Cond.methodLink RL 35 yX12_of ∈ TB := tbm (tq6 (List.mem_of_getElem? (i := 27) (by decide +kernel))) (by decide +kernel)
theorem dL_law_390 : decode cL_law 390 = .ok (.invokevirtual 35, 3) := dl_182 (by decide +kernel)
set_option maxRecDepth 100000 in
set_option maxHeartbeats 4000000 in
theorem lm_of {X : XT} {E : EV} {wT wm : va_W} {lv : List (Nat × Value)} {rest : List Value} {kC nC : Nat} {hm : Nat} {q_undos : Nat} {q_models : Nat} {PGv : Nat → AM} {f_afterOf : Nat → Int32} {f_actMany : Nat → Int32} {f_actOf : Nat → Int32} {f_whom : Nat → Int32} {f_hasIf : Nat → Int32} {f_becomes : Nat → Int32} {f_goneOf : Nat → Int32} {q_taped : Nat} {cr : Nat → Int} {q_people : Nat} {f_secrets : Nat → Int32} {f_lanes : Nat → Int32} {f_lengths : Nat → Int32} {f_cells : Nat → Int32} {f_tokens : Nat → Int32} {f_afters : Nat → Int32} {f_caseMany : Nat → Int32} {f_happen : Nat → Int32} {f_heard : Nat → Int32} {v0 : Int32} {v1 : Int32} (C : CX X room_1 cL_law 4 RL ret E) (hW : Nat.ble (rest.map fun v => v.category).sum 8 = true) (hk : kC ≤ 600000 ∧ nC ≤ 7302250) (H_ref : ok_ref E [] hm q_undos q_models PGv f_afterOf f_actMany f_actOf f_whom f_hasIf f_becomes f_goneOf q_taped cr q_people f_secrets f_lanes f_lengths f_cells f_tokens f_afters f_caseMany f_happen f_heard wm) (kont : ∀ (rr : Int32) (wmZ : va_W), ok_ref E [] hm q_undos q_models PGv f_afterOf f_actMany f_actOf f_whom f_hasIf f_becomes f_goneOf q_taped cr q_people f_secrets f_lanes f_lengths f_cells f_tokens f_afters f_caseMany f_happen f_heard wmZ → (rr = ansOf (PGv 0) v0 v1) → WW X 4 E 393 lv (.int rr :: rest) (wmZ ++ wT) kC nC) : WW X 4 E 390 lv (.int v1 :: .int v0 :: .ref hm :: rest) (wm ++ wT) kC nC := by
  unfold ok_ref at H_ref
  refine ex8 H_ref ?_
  clear H_ref
  intro m_manys m_reals m_factsOf m_possible m_tape q_fault q_wrong q_wrongAt H_ref
  refine ex8 H_ref ?_
  clear H_ref
  intro q_spot q_place q_token q_value m_ends m_letters m_actOf m_whom H_ref
  refine ex8 H_ref ?_
  clear H_ref
  intro m_actMany m_tokens m_afters m_afterOf q_counted m_pile m_caseMany m_happen H_ref
  refine ex8 H_ref ?_
  clear H_ref
  intro m_hasIf m_becomes m_goneOf m_heard m_pairs m_heaps q_rounds q_heapMany H_ref
  refine ex8 H_ref ?_
  clear H_ref
  intro m_led m_newAt m_knowing m_firsts m_secrets m_tried m_lanes m_lengths H_ref
  refine ex8 H_ref ?_
  clear H_ref
  intro m_cells f_manys f_reals f_factsOf f_possible f_tape f_ends f_letters H_ref
  refine ex8 H_ref ?_
  clear H_ref
  intro f_pile f_pairs f_heaps f_led f_newAt f_knowing f_firsts f_tried H_ref
  refine an8 H_ref ?_
  clear H_ref
  intro we_ref hb_manys hb_reals hb_tape hb_ends hb_letters hb_actMany hb_afters H_ref
  refine an8 H_ref ?_
  clear H_ref
  intro hb_afterOf hb_caseMany hb_happen hb_lengths hpg hhp hsv hwf H_ref
  refine an7 H_ref ?_
  clear H_ref
  intro hq_undos hq_models hq_taped hq_people hq_token hq_value hcr H_ref
  have hPGv := H_ref
  clear H_ref
  subst we_ref
  subst hcr
  subst hPGv
  refine ww_ciT (k' := kC) (n' := nC) (wr := [(m_tape, .inl (E.2.1 1, 160, .inl f_tape)), (m_ends, .inl (E.2.1 1, 15, .inl f_ends)), (m_letters, .inl (E.2.1 1, 50, .inl f_letters)), (m_actOf, .inl (E.2.1 1, 800, .inl f_actOf)), (m_whom, .inl (E.2.1 1, 800, .inl f_whom)), (m_actMany, .inl (E.2.1 1, 25, .inl f_actMany)), (m_tokens, .inl (E.2.1 1, 9, .inl f_tokens)), (m_afters, .inl (E.2.1 1, 9, .inl f_afters)), (m_afterOf, .inl (E.2.1 1, 18, .inl f_afterOf)), (m_pile, .inl (E.2.1 1, 34, .inl f_pile)), (m_caseMany, .inl (E.2.1 1, 4, .inl f_caseMany)), (m_happen, .inl (E.2.1 1, 4, .inl f_happen)), (m_hasIf, .inl (E.2.1 3, 16, .inl f_hasIf)), (m_becomes, .inl (E.2.1 1, 16, .inl f_becomes)), (m_goneOf, .inl (E.2.1 1, 16, .inl f_goneOf)), (m_heard, .inl (E.2.1 1, 64, .inl f_heard)), (m_pairs, .inl (E.2.1 1, 576, .inl f_pairs)), (m_heaps, .inl (E.2.1 1, 2400, .inl f_heaps)), (m_led, .inl (E.2.1 2, 192, .inr (.inl f_led))), (m_newAt, .inl (E.2.1 1, 24, .inl f_newAt)), (m_knowing, .inl (E.2.1 1, 4, .inl f_knowing)), (m_firsts, .inl (E.2.1 1, 4, .inl f_firsts)), (m_secrets, .inl (E.2.1 1, 4, .inl f_secrets)), (m_tried, .inl (E.2.1 1, 4, .inl f_tried)), (m_lanes, .inl (E.2.1 1, 4, .inl f_lanes)), (m_lengths, .inl (E.2.1 1, 4, .inl f_lengths)), (m_cells, .inl (E.2.1 1, 192, .inl f_cells))]) C (run_V (As := [.int v0, .int v1]) (rest := rest) C (y_of X.2.1 E [] hm v0 v1 m_manys m_reals m_factsOf m_possible q_undos q_models m_tape q_taped q_fault q_wrong q_wrongAt q_spot q_place (nI q_token) (nI q_value) m_ends m_letters m_actOf m_whom m_actMany m_tokens m_afters m_afterOf q_counted m_pile m_caseMany m_happen m_hasIf m_becomes m_goneOf m_heard m_pairs m_heaps q_rounds q_heapMany m_led m_newAt m_knowing m_firsts q_people m_secrets m_tried m_lanes m_lengths m_cells f_manys f_reals f_factsOf f_possible hb_manys hb_reals hpg hwf) mi_X12_of wl_L_35 rfl 0 12 rfl rfl rfl rfl hW dL_law_390) ro0 [0, 1, 2, 3, 4] [5, 6, 7, 8, 9, 10, 11, 12, 13, 14, 15, 16, 17, 18, 19, 20, 21, 22, 23, 24, 25, 26, 27, 28, 29, 30, 31] rfl (gqk (by eq_refl)) (plk (by decide +kernel)) ⟨by omega, by omega, hk.1, hk.2⟩ (fun rr u hw => ?_)
  refine an1 hw ?_
  clear hw
  intro he_u hw
  have h_1 := hw
  clear hw
  subst he_u
  refine ww_subT (w1 := [(hm, .inr (12, [.ref m_manys, .ref m_reals, .ref m_factsOf, .ref m_possible, .int (nI q_undos), .int (nI q_models), .ref m_tape, .int (nI q_taped), .int q_fault, .int q_wrong, .int q_wrongAt, .int q_spot, .int q_place, .int (nI q_token), .int (nI q_value), .ref m_ends, .ref m_letters, .ref m_actOf, .ref m_whom, .ref m_actMany, .ref m_tokens, .ref m_afters, .ref m_afterOf, .int q_counted, .ref m_pile, .ref m_caseMany, .ref m_happen, .ref m_hasIf, .ref m_becomes, .ref m_goneOf, .ref m_heard, .ref m_pairs, .ref m_heaps, .int q_rounds, .int q_heapMany, .ref m_led, .ref m_newAt, .ref m_knowing, .ref m_firsts, .int (nI q_people), .ref m_secrets, .ref m_tried, .ref m_lanes, .ref m_lengths, .ref m_cells])), (m_manys, .inl (E.2.1 1, 18, .inl f_manys)), (m_reals, .inl (E.2.1 1, 18, .inl f_reals)), (m_factsOf, .inl (E.2.1 1, 432, .inl f_factsOf)), (m_possible, .inl (E.2.1 1, 1728, .inl f_possible)), (m_tape, .inl (E.2.1 1, 160, .inl f_tape)), (m_ends, .inl (E.2.1 1, 15, .inl f_ends)), (m_letters, .inl (E.2.1 1, 50, .inl f_letters)), (m_actOf, .inl (E.2.1 1, 800, .inl f_actOf)), (m_whom, .inl (E.2.1 1, 800, .inl f_whom)), (m_actMany, .inl (E.2.1 1, 25, .inl f_actMany)), (m_tokens, .inl (E.2.1 1, 9, .inl f_tokens)), (m_afters, .inl (E.2.1 1, 9, .inl f_afters)), (m_afterOf, .inl (E.2.1 1, 18, .inl f_afterOf)), (m_pile, .inl (E.2.1 1, 34, .inl f_pile)), (m_caseMany, .inl (E.2.1 1, 4, .inl f_caseMany)), (m_happen, .inl (E.2.1 1, 4, .inl f_happen)), (m_hasIf, .inl (E.2.1 3, 16, .inl f_hasIf)), (m_becomes, .inl (E.2.1 1, 16, .inl f_becomes)), (m_goneOf, .inl (E.2.1 1, 16, .inl f_goneOf)), (m_heard, .inl (E.2.1 1, 64, .inl f_heard)), (m_pairs, .inl (E.2.1 1, 576, .inl f_pairs)), (m_heaps, .inl (E.2.1 1, 2400, .inl f_heaps)), (m_led, .inl (E.2.1 2, 192, .inr (.inl f_led))), (m_newAt, .inl (E.2.1 1, 24, .inl f_newAt)), (m_knowing, .inl (E.2.1 1, 4, .inl f_knowing)), (m_firsts, .inl (E.2.1 1, 4, .inl f_firsts)), (m_secrets, .inl (E.2.1 1, 4, .inl f_secrets)), (m_tried, .inl (E.2.1 1, 4, .inl f_tried)), (m_lanes, .inl (E.2.1 1, 4, .inl f_lanes)), (m_lengths, .inl (E.2.1 1, 4, .inl f_lengths)), (m_cells, .inl (E.2.1 1, 192, .inl f_cells))]) [27, 28, 29, 30, 31, 0, 1, 2, 3, 4, 5, 6, 7, 8, 9, 10, 11, 12, 13, 14, 15, 16, 17, 18, 19, 20, 21, 22, 23, 24, 25, 26] (ndk (by decide +kernel)) (gqk (by eq_refl)) ?_
  exact kont rr  [(hm, .inr (12, [.ref m_manys, .ref m_reals, .ref m_factsOf, .ref m_possible, .int (nI q_undos), .int (nI q_models), .ref m_tape, .int (nI q_taped), .int q_fault, .int q_wrong, .int q_wrongAt, .int q_spot, .int q_place, .int (nI q_token), .int (nI q_value), .ref m_ends, .ref m_letters, .ref m_actOf, .ref m_whom, .ref m_actMany, .ref m_tokens, .ref m_afters, .ref m_afterOf, .int q_counted, .ref m_pile, .ref m_caseMany, .ref m_happen, .ref m_hasIf, .ref m_becomes, .ref m_goneOf, .ref m_heard, .ref m_pairs, .ref m_heaps, .int q_rounds, .int q_heapMany, .ref m_led, .ref m_newAt, .ref m_knowing, .ref m_firsts, .int (nI q_people), .ref m_secrets, .ref m_tried, .ref m_lanes, .ref m_lengths, .ref m_cells])), (m_manys, .inl (E.2.1 1, 18, .inl f_manys)), (m_reals, .inl (E.2.1 1, 18, .inl f_reals)), (m_factsOf, .inl (E.2.1 1, 432, .inl f_factsOf)), (m_possible, .inl (E.2.1 1, 1728, .inl f_possible)), (m_tape, .inl (E.2.1 1, 160, .inl f_tape)), (m_ends, .inl (E.2.1 1, 15, .inl f_ends)), (m_letters, .inl (E.2.1 1, 50, .inl f_letters)), (m_actOf, .inl (E.2.1 1, 800, .inl f_actOf)), (m_whom, .inl (E.2.1 1, 800, .inl f_whom)), (m_actMany, .inl (E.2.1 1, 25, .inl f_actMany)), (m_tokens, .inl (E.2.1 1, 9, .inl f_tokens)), (m_afters, .inl (E.2.1 1, 9, .inl f_afters)), (m_afterOf, .inl (E.2.1 1, 18, .inl f_afterOf)), (m_pile, .inl (E.2.1 1, 34, .inl f_pile)), (m_caseMany, .inl (E.2.1 1, 4, .inl f_caseMany)), (m_happen, .inl (E.2.1 1, 4, .inl f_happen)), (m_hasIf, .inl (E.2.1 3, 16, .inl f_hasIf)), (m_becomes, .inl (E.2.1 1, 16, .inl f_becomes)), (m_goneOf, .inl (E.2.1 1, 16, .inl f_goneOf)), (m_heard, .inl (E.2.1 1, 64, .inl f_heard)), (m_pairs, .inl (E.2.1 1, 576, .inl f_pairs)), (m_heaps, .inl (E.2.1 1, 2400, .inl f_heaps)), (m_led, .inl (E.2.1 2, 192, .inr (.inl f_led))), (m_newAt, .inl (E.2.1 1, 24, .inl f_newAt)), (m_knowing, .inl (E.2.1 1, 4, .inl f_knowing)), (m_firsts, .inl (E.2.1 1, 4, .inl f_firsts)), (m_secrets, .inl (E.2.1 1, 4, .inl f_secrets)), (m_tried, .inl (E.2.1 1, 4, .inl f_tried)), (m_lanes, .inl (E.2.1 1, 4, .inl f_lanes)), (m_lengths, .inl (E.2.1 1, 4, .inl f_lengths)), (m_cells, .inl (E.2.1 1, 192, .inl f_cells))] ⟨m_manys, m_reals, m_factsOf, m_possible, m_tape, q_fault, q_wrong, q_wrongAt, q_spot, q_place, q_token, q_value, m_ends, m_letters, m_actOf, m_whom, m_actMany, m_tokens, m_afters, m_afterOf, q_counted, m_pile, m_caseMany, m_happen, m_hasIf, m_becomes, m_goneOf, m_heard, m_pairs, m_heaps, q_rounds, q_heapMany, m_led, m_newAt, m_knowing, m_firsts, m_secrets, m_tried, m_lanes, m_lengths, m_cells, f_manys, f_reals, f_factsOf, f_possible, f_tape, f_ends, f_letters, f_pile, f_pairs, f_heaps, f_led, f_newAt, f_knowing, f_firsts, f_tried, rfl, hb_manys, hb_reals, hb_tape, hb_ends, hb_letters, hb_actMany, hb_afters, hb_afterOf, hb_caseMany, hb_happen, hb_lengths, hpg, hhp, hsv, hwf, (by first | assumption | omega), (by first | assumption | omega), (by first | assumption | omega), (by first | assumption | omega), (by first | assumption | omega), (by first | assumption | omega), rfl, rfl⟩ (h_1)
theorem wc_X12_reach : Cond.code yX12_reach cX12_reach 3 (some .int) ∈ TB := tbm (tq6 (List.mem_of_getElem? (i := 35) (rfl))) (by decide +kernel)
theorem wi_X12_reach : Cond.instanceMethod yX12_reach ∈ TB := tbm (tq6 (List.mem_of_getElem? (i := 33) (by decide +kernel))) (by decide +kernel)
theorem ws_X12_reach : Cond.selects RX12 yX12_reach yX12_reach ∈ TB := tbm (tq6 (List.mem_of_getElem? (i := 34) (by decide +kernel))) (by decide +kernel)
theorem mi_X12_reach : MI yX12_reach cX12_reach 3 (some .int) 2 := ⟨wc_X12_reach, wn_X12, ⟨by decide +kernel, by decide +kernel, by decide +kernel⟩, wi_X12_reach, ws_X12_reach⟩
theorem wl_L_39 : Cond.methodLink RL 39 yX12_reach ∈ TB := tbm (tq6 (List.mem_of_getElem? (i := 32) (by decide +kernel))) (by decide +kernel)
theorem dL_law_423 : decode cL_law 423 = .ok (.invokevirtual 39, 3) := dl_182 (by decide +kernel)
set_option maxRecDepth 100000 in
set_option maxHeartbeats 4000000 in
theorem lm_reach {X : XT} {E : EV} {wT wm : va_W} {lv : List (Nat × Value)} {rest : List Value} {kC nC : Nat} {hm : Nat} {q_undos : Nat} {q_models : Nat} {PGv : Nat → AM} {f_afterOf : Nat → Int32} {f_actMany : Nat → Int32} {f_actOf : Nat → Int32} {f_whom : Nat → Int32} {f_hasIf : Nat → Int32} {f_becomes : Nat → Int32} {f_goneOf : Nat → Int32} {q_taped : Nat} {cr : Nat → Int} {q_people : Nat} {f_secrets : Nat → Int32} {f_lanes : Nat → Int32} {f_lengths : Nat → Int32} {f_cells : Nat → Int32} {f_tokens : Nat → Int32} {f_afters : Nat → Int32} {f_caseMany : Nat → Int32} {f_happen : Nat → Int32} {f_heard : Nat → Int32} {v0 : Int32} {v1 : Int32} (C : CX X room_1 cL_law 4 RL ret E) (hW : Nat.ble (rest.map fun v => v.category).sum 8 = true) (hk : kC ≤ 600000 ∧ nC ≤ 7302250) (H_ref : ok_ref E [] hm q_undos q_models PGv f_afterOf f_actMany f_actOf f_whom f_hasIf f_becomes f_goneOf q_taped cr q_people f_secrets f_lanes f_lengths f_cells f_tokens f_afters f_caseMany f_happen f_heard wm) (kont : ∀ (rr : Int32) (wmZ : va_W), ok_ref E [] hm q_undos q_models PGv f_afterOf f_actMany f_actOf f_whom f_hasIf f_becomes f_goneOf q_taped cr q_people f_secrets f_lanes f_lengths f_cells f_tokens f_afters f_caseMany f_happen f_heard wmZ → (rr = ansReach (PGv 0) v0 v1) → WW X 4 E 426 lv (.int rr :: rest) (wmZ ++ wT) kC nC) : WW X 4 E 423 lv (.int v1 :: .int v0 :: .ref hm :: rest) (wm ++ wT) kC nC := by
  unfold ok_ref at H_ref
  refine ex8 H_ref ?_
  clear H_ref
  intro m_manys m_reals m_factsOf m_possible m_tape q_fault q_wrong q_wrongAt H_ref
  refine ex8 H_ref ?_
  clear H_ref
  intro q_spot q_place q_token q_value m_ends m_letters m_actOf m_whom H_ref
  refine ex8 H_ref ?_
  clear H_ref
  intro m_actMany m_tokens m_afters m_afterOf q_counted m_pile m_caseMany m_happen H_ref
  refine ex8 H_ref ?_
  clear H_ref
  intro m_hasIf m_becomes m_goneOf m_heard m_pairs m_heaps q_rounds q_heapMany H_ref
  refine ex8 H_ref ?_
  clear H_ref
  intro m_led m_newAt m_knowing m_firsts m_secrets m_tried m_lanes m_lengths H_ref
  refine ex8 H_ref ?_
  clear H_ref
  intro m_cells f_manys f_reals f_factsOf f_possible f_tape f_ends f_letters H_ref
  refine ex8 H_ref ?_
  clear H_ref
  intro f_pile f_pairs f_heaps f_led f_newAt f_knowing f_firsts f_tried H_ref
  refine an8 H_ref ?_
  clear H_ref
  intro we_ref hb_manys hb_reals hb_tape hb_ends hb_letters hb_actMany hb_afters H_ref
  refine an8 H_ref ?_
  clear H_ref
  intro hb_afterOf hb_caseMany hb_happen hb_lengths hpg hhp hsv hwf H_ref
  refine an7 H_ref ?_
  clear H_ref
  intro hq_undos hq_models hq_taped hq_people hq_token hq_value hcr H_ref
  have hPGv := H_ref
  clear H_ref
  subst we_ref
  subst hcr
  subst hPGv
  refine ww_ciT (k' := kC) (n' := nC) (wr := [(m_tape, .inl (E.2.1 1, 160, .inl f_tape)), (m_ends, .inl (E.2.1 1, 15, .inl f_ends)), (m_letters, .inl (E.2.1 1, 50, .inl f_letters)), (m_actOf, .inl (E.2.1 1, 800, .inl f_actOf)), (m_whom, .inl (E.2.1 1, 800, .inl f_whom)), (m_actMany, .inl (E.2.1 1, 25, .inl f_actMany)), (m_tokens, .inl (E.2.1 1, 9, .inl f_tokens)), (m_afters, .inl (E.2.1 1, 9, .inl f_afters)), (m_afterOf, .inl (E.2.1 1, 18, .inl f_afterOf)), (m_pile, .inl (E.2.1 1, 34, .inl f_pile)), (m_caseMany, .inl (E.2.1 1, 4, .inl f_caseMany)), (m_happen, .inl (E.2.1 1, 4, .inl f_happen)), (m_hasIf, .inl (E.2.1 3, 16, .inl f_hasIf)), (m_becomes, .inl (E.2.1 1, 16, .inl f_becomes)), (m_goneOf, .inl (E.2.1 1, 16, .inl f_goneOf)), (m_heard, .inl (E.2.1 1, 64, .inl f_heard)), (m_pairs, .inl (E.2.1 1, 576, .inl f_pairs)), (m_heaps, .inl (E.2.1 1, 2400, .inl f_heaps)), (m_led, .inl (E.2.1 2, 192, .inr (.inl f_led))), (m_newAt, .inl (E.2.1 1, 24, .inl f_newAt)), (m_knowing, .inl (E.2.1 1, 4, .inl f_knowing)), (m_firsts, .inl (E.2.1 1, 4, .inl f_firsts)), (m_secrets, .inl (E.2.1 1, 4, .inl f_secrets)), (m_tried, .inl (E.2.1 1, 4, .inl f_tried)), (m_lanes, .inl (E.2.1 1, 4, .inl f_lanes)), (m_lengths, .inl (E.2.1 1, 4, .inl f_lengths)), (m_cells, .inl (E.2.1 1, 192, .inl f_cells))]) C (run_V (As := [.int v0, .int v1]) (rest := rest) C (y_reach X.2.1 E [] hm v0 v1 m_manys m_reals m_factsOf m_possible q_undos q_models m_tape q_taped q_fault q_wrong q_wrongAt q_spot q_place (nI q_token) (nI q_value) m_ends m_letters m_actOf m_whom m_actMany m_tokens m_afters m_afterOf q_counted m_pile m_caseMany m_happen m_hasIf m_becomes m_goneOf m_heard m_pairs m_heaps q_rounds q_heapMany m_led m_newAt m_knowing m_firsts q_people m_secrets m_tried m_lanes m_lengths m_cells f_manys f_reals f_factsOf f_possible hb_manys hb_reals hpg hwf) mi_X12_reach wl_L_39 rfl 0 12 rfl rfl rfl rfl hW dL_law_423) ro0 [0, 1, 2, 3, 4] [5, 6, 7, 8, 9, 10, 11, 12, 13, 14, 15, 16, 17, 18, 19, 20, 21, 22, 23, 24, 25, 26, 27, 28, 29, 30, 31] rfl (gqk (by eq_refl)) (plk (by decide +kernel)) ⟨by omega, by omega, hk.1, hk.2⟩ (fun rr u hw => ?_)
  refine an1 hw ?_
  clear hw
  intro he_u hw
  have h_1 := hw
  clear hw
  subst he_u
  refine ww_subT (w1 := [(hm, .inr (12, [.ref m_manys, .ref m_reals, .ref m_factsOf, .ref m_possible, .int (nI q_undos), .int (nI q_models), .ref m_tape, .int (nI q_taped), .int q_fault, .int q_wrong, .int q_wrongAt, .int q_spot, .int q_place, .int (nI q_token), .int (nI q_value), .ref m_ends, .ref m_letters, .ref m_actOf, .ref m_whom, .ref m_actMany, .ref m_tokens, .ref m_afters, .ref m_afterOf, .int q_counted, .ref m_pile, .ref m_caseMany, .ref m_happen, .ref m_hasIf, .ref m_becomes, .ref m_goneOf, .ref m_heard, .ref m_pairs, .ref m_heaps, .int q_rounds, .int q_heapMany, .ref m_led, .ref m_newAt, .ref m_knowing, .ref m_firsts, .int (nI q_people), .ref m_secrets, .ref m_tried, .ref m_lanes, .ref m_lengths, .ref m_cells])), (m_manys, .inl (E.2.1 1, 18, .inl f_manys)), (m_reals, .inl (E.2.1 1, 18, .inl f_reals)), (m_factsOf, .inl (E.2.1 1, 432, .inl f_factsOf)), (m_possible, .inl (E.2.1 1, 1728, .inl f_possible)), (m_tape, .inl (E.2.1 1, 160, .inl f_tape)), (m_ends, .inl (E.2.1 1, 15, .inl f_ends)), (m_letters, .inl (E.2.1 1, 50, .inl f_letters)), (m_actOf, .inl (E.2.1 1, 800, .inl f_actOf)), (m_whom, .inl (E.2.1 1, 800, .inl f_whom)), (m_actMany, .inl (E.2.1 1, 25, .inl f_actMany)), (m_tokens, .inl (E.2.1 1, 9, .inl f_tokens)), (m_afters, .inl (E.2.1 1, 9, .inl f_afters)), (m_afterOf, .inl (E.2.1 1, 18, .inl f_afterOf)), (m_pile, .inl (E.2.1 1, 34, .inl f_pile)), (m_caseMany, .inl (E.2.1 1, 4, .inl f_caseMany)), (m_happen, .inl (E.2.1 1, 4, .inl f_happen)), (m_hasIf, .inl (E.2.1 3, 16, .inl f_hasIf)), (m_becomes, .inl (E.2.1 1, 16, .inl f_becomes)), (m_goneOf, .inl (E.2.1 1, 16, .inl f_goneOf)), (m_heard, .inl (E.2.1 1, 64, .inl f_heard)), (m_pairs, .inl (E.2.1 1, 576, .inl f_pairs)), (m_heaps, .inl (E.2.1 1, 2400, .inl f_heaps)), (m_led, .inl (E.2.1 2, 192, .inr (.inl f_led))), (m_newAt, .inl (E.2.1 1, 24, .inl f_newAt)), (m_knowing, .inl (E.2.1 1, 4, .inl f_knowing)), (m_firsts, .inl (E.2.1 1, 4, .inl f_firsts)), (m_secrets, .inl (E.2.1 1, 4, .inl f_secrets)), (m_tried, .inl (E.2.1 1, 4, .inl f_tried)), (m_lanes, .inl (E.2.1 1, 4, .inl f_lanes)), (m_lengths, .inl (E.2.1 1, 4, .inl f_lengths)), (m_cells, .inl (E.2.1 1, 192, .inl f_cells))]) [27, 28, 29, 30, 31, 0, 1, 2, 3, 4, 5, 6, 7, 8, 9, 10, 11, 12, 13, 14, 15, 16, 17, 18, 19, 20, 21, 22, 23, 24, 25, 26] (ndk (by decide +kernel)) (gqk (by eq_refl)) ?_
  exact kont rr  [(hm, .inr (12, [.ref m_manys, .ref m_reals, .ref m_factsOf, .ref m_possible, .int (nI q_undos), .int (nI q_models), .ref m_tape, .int (nI q_taped), .int q_fault, .int q_wrong, .int q_wrongAt, .int q_spot, .int q_place, .int (nI q_token), .int (nI q_value), .ref m_ends, .ref m_letters, .ref m_actOf, .ref m_whom, .ref m_actMany, .ref m_tokens, .ref m_afters, .ref m_afterOf, .int q_counted, .ref m_pile, .ref m_caseMany, .ref m_happen, .ref m_hasIf, .ref m_becomes, .ref m_goneOf, .ref m_heard, .ref m_pairs, .ref m_heaps, .int q_rounds, .int q_heapMany, .ref m_led, .ref m_newAt, .ref m_knowing, .ref m_firsts, .int (nI q_people), .ref m_secrets, .ref m_tried, .ref m_lanes, .ref m_lengths, .ref m_cells])), (m_manys, .inl (E.2.1 1, 18, .inl f_manys)), (m_reals, .inl (E.2.1 1, 18, .inl f_reals)), (m_factsOf, .inl (E.2.1 1, 432, .inl f_factsOf)), (m_possible, .inl (E.2.1 1, 1728, .inl f_possible)), (m_tape, .inl (E.2.1 1, 160, .inl f_tape)), (m_ends, .inl (E.2.1 1, 15, .inl f_ends)), (m_letters, .inl (E.2.1 1, 50, .inl f_letters)), (m_actOf, .inl (E.2.1 1, 800, .inl f_actOf)), (m_whom, .inl (E.2.1 1, 800, .inl f_whom)), (m_actMany, .inl (E.2.1 1, 25, .inl f_actMany)), (m_tokens, .inl (E.2.1 1, 9, .inl f_tokens)), (m_afters, .inl (E.2.1 1, 9, .inl f_afters)), (m_afterOf, .inl (E.2.1 1, 18, .inl f_afterOf)), (m_pile, .inl (E.2.1 1, 34, .inl f_pile)), (m_caseMany, .inl (E.2.1 1, 4, .inl f_caseMany)), (m_happen, .inl (E.2.1 1, 4, .inl f_happen)), (m_hasIf, .inl (E.2.1 3, 16, .inl f_hasIf)), (m_becomes, .inl (E.2.1 1, 16, .inl f_becomes)), (m_goneOf, .inl (E.2.1 1, 16, .inl f_goneOf)), (m_heard, .inl (E.2.1 1, 64, .inl f_heard)), (m_pairs, .inl (E.2.1 1, 576, .inl f_pairs)), (m_heaps, .inl (E.2.1 1, 2400, .inl f_heaps)), (m_led, .inl (E.2.1 2, 192, .inr (.inl f_led))), (m_newAt, .inl (E.2.1 1, 24, .inl f_newAt)), (m_knowing, .inl (E.2.1 1, 4, .inl f_knowing)), (m_firsts, .inl (E.2.1 1, 4, .inl f_firsts)), (m_secrets, .inl (E.2.1 1, 4, .inl f_secrets)), (m_tried, .inl (E.2.1 1, 4, .inl f_tried)), (m_lanes, .inl (E.2.1 1, 4, .inl f_lanes)), (m_lengths, .inl (E.2.1 1, 4, .inl f_lengths)), (m_cells, .inl (E.2.1 1, 192, .inl f_cells))] ⟨m_manys, m_reals, m_factsOf, m_possible, m_tape, q_fault, q_wrong, q_wrongAt, q_spot, q_place, q_token, q_value, m_ends, m_letters, m_actOf, m_whom, m_actMany, m_tokens, m_afters, m_afterOf, q_counted, m_pile, m_caseMany, m_happen, m_hasIf, m_becomes, m_goneOf, m_heard, m_pairs, m_heaps, q_rounds, q_heapMany, m_led, m_newAt, m_knowing, m_firsts, m_secrets, m_tried, m_lanes, m_lengths, m_cells, f_manys, f_reals, f_factsOf, f_possible, f_tape, f_ends, f_letters, f_pile, f_pairs, f_heaps, f_led, f_newAt, f_knowing, f_firsts, f_tried, rfl, hb_manys, hb_reals, hb_tape, hb_ends, hb_letters, hb_actMany, hb_afters, hb_afterOf, hb_caseMany, hb_happen, hb_lengths, hpg, hhp, hsv, hwf, (by first | assumption | omega), (by first | assumption | omega), (by first | assumption | omega), (by first | assumption | omega), (by first | assumption | omega), (by first | assumption | omega), rfl, rfl⟩ (h_1)
theorem wc_X12_feed : Cond.code yX12_feed cX12_feed 4 (some .int) ∈ TB := tbm (tq6 (List.mem_of_getElem? (i := 43) (rfl))) (by decide +kernel)
theorem wi_X12_feed : Cond.instanceMethod yX12_feed ∈ TB := tbm (tq6 (List.mem_of_getElem? (i := 41) (by decide +kernel))) (by decide +kernel)
theorem ws_X12_feed : Cond.selects RX12 yX12_feed yX12_feed ∈ TB := tbm (tq6 (List.mem_of_getElem? (i := 42) (by decide +kernel))) (by decide +kernel)
theorem mi_X12_feed : MI yX12_feed cX12_feed 4 (some .int) 1 := ⟨wc_X12_feed, wn_X12, ⟨by decide +kernel, by decide +kernel, by decide +kernel⟩, wi_X12_feed, ws_X12_feed⟩
theorem wl_L_46 : Cond.methodLink RL 46 yX12_feed ∈ TB := tbm (tq6 (List.mem_of_getElem? (i := 40) (by decide +kernel))) (by decide +kernel)
theorem dL_law_476 : decode cL_law 476 = .ok (.invokevirtual 46, 3) := dl_182 (by decide +kernel)
set_option maxRecDepth 100000 in
set_option maxHeartbeats 4000000 in
theorem lm_feed {X : XT} {E : EV} {wT wm : va_W} {lv : List (Nat × Value)} {rest : List Value} {kC nC : Nat} {hm : Nat} {q_undos : Nat} {q_models : Nat} {PGv : Nat → AM} {f_afterOf : Nat → Int32} {f_actMany : Nat → Int32} {f_actOf : Nat → Int32} {f_whom : Nat → Int32} {f_hasIf : Nat → Int32} {f_becomes : Nat → Int32} {f_goneOf : Nat → Int32} {q_taped : Nat} {cr : Nat → Int} {q_people : Nat} {f_secrets : Nat → Int32} {f_lanes : Nat → Int32} {f_lengths : Nat → Int32} {f_cells : Nat → Int32} {f_tokens : Nat → Int32} {f_afters : Nat → Int32} {f_caseMany : Nat → Int32} {f_happen : Nat → Int32} {f_heard : Nat → Int32} {v : Int64} (C : CX X room_1 cL_law 4 RL ret E) (hW : Nat.ble (rest.map fun v => v.category).sum 8 = true) (hk : kC ≤ 600000 ∧ nC ≤ 7302250) (H_ref : ok_ref E [] hm q_undos q_models PGv f_afterOf f_actMany f_actOf f_whom f_hasIf f_becomes f_goneOf q_taped cr q_people f_secrets f_lanes f_lengths f_cells f_tokens f_afters f_caseMany f_happen f_heard wm) (kont : ∀ (rr : Int32) (q_tapedZ : Nat) (crZ : Nat → Int) (wmZ : va_W), ok_ref E [] hm q_undos q_models PGv f_afterOf f_actMany f_actOf f_whom f_hasIf f_becomes f_goneOf q_tapedZ crZ q_people f_secrets f_lanes f_lengths f_cells f_tokens f_afters f_caseMany f_happen f_heard wmZ → ((q_taped + 8 ≤ 160 ∧ q_tapedZ = q_taped + 8 ∧ crZ = czf cr q_taped v ∧ rr = nI (q_taped + 8)) ∨ (160 < q_taped + 8 ∧ q_tapedZ = q_taped ∧ crZ = cr ∧ rr = -3)) → WW X 4 E 479 lv (.int rr :: rest) (wmZ ++ wT) kC nC) : WW X 4 E 476 lv (.long v :: .ref hm :: rest) (wm ++ wT) kC nC := by
  unfold ok_ref at H_ref
  refine ex8 H_ref ?_
  clear H_ref
  intro m_manys m_reals m_factsOf m_possible m_tape q_fault q_wrong q_wrongAt H_ref
  refine ex8 H_ref ?_
  clear H_ref
  intro q_spot q_place q_token q_value m_ends m_letters m_actOf m_whom H_ref
  refine ex8 H_ref ?_
  clear H_ref
  intro m_actMany m_tokens m_afters m_afterOf q_counted m_pile m_caseMany m_happen H_ref
  refine ex8 H_ref ?_
  clear H_ref
  intro m_hasIf m_becomes m_goneOf m_heard m_pairs m_heaps q_rounds q_heapMany H_ref
  refine ex8 H_ref ?_
  clear H_ref
  intro m_led m_newAt m_knowing m_firsts m_secrets m_tried m_lanes m_lengths H_ref
  refine ex8 H_ref ?_
  clear H_ref
  intro m_cells f_manys f_reals f_factsOf f_possible f_tape f_ends f_letters H_ref
  refine ex8 H_ref ?_
  clear H_ref
  intro f_pile f_pairs f_heaps f_led f_newAt f_knowing f_firsts f_tried H_ref
  refine an8 H_ref ?_
  clear H_ref
  intro we_ref hb_manys hb_reals hb_tape hb_ends hb_letters hb_actMany hb_afters H_ref
  refine an8 H_ref ?_
  clear H_ref
  intro hb_afterOf hb_caseMany hb_happen hb_lengths hpg hhp hsv hwf H_ref
  refine an7 H_ref ?_
  clear H_ref
  intro hq_undos hq_models hq_taped hq_people hq_token hq_value hcr H_ref
  have hPGv := H_ref
  clear H_ref
  subst we_ref
  subst hcr
  subst hPGv
  refine ww_ciT (k' := kC) (n' := nC) (wr := [(m_manys, .inl (E.2.1 1, 18, .inl f_manys)), (m_reals, .inl (E.2.1 1, 18, .inl f_reals)), (m_factsOf, .inl (E.2.1 1, 432, .inl f_factsOf)), (m_possible, .inl (E.2.1 1, 1728, .inl f_possible)), (m_ends, .inl (E.2.1 1, 15, .inl f_ends)), (m_letters, .inl (E.2.1 1, 50, .inl f_letters)), (m_actOf, .inl (E.2.1 1, 800, .inl f_actOf)), (m_whom, .inl (E.2.1 1, 800, .inl f_whom)), (m_actMany, .inl (E.2.1 1, 25, .inl f_actMany)), (m_tokens, .inl (E.2.1 1, 9, .inl f_tokens)), (m_afters, .inl (E.2.1 1, 9, .inl f_afters)), (m_afterOf, .inl (E.2.1 1, 18, .inl f_afterOf)), (m_pile, .inl (E.2.1 1, 34, .inl f_pile)), (m_caseMany, .inl (E.2.1 1, 4, .inl f_caseMany)), (m_happen, .inl (E.2.1 1, 4, .inl f_happen)), (m_hasIf, .inl (E.2.1 3, 16, .inl f_hasIf)), (m_becomes, .inl (E.2.1 1, 16, .inl f_becomes)), (m_goneOf, .inl (E.2.1 1, 16, .inl f_goneOf)), (m_heard, .inl (E.2.1 1, 64, .inl f_heard)), (m_pairs, .inl (E.2.1 1, 576, .inl f_pairs)), (m_heaps, .inl (E.2.1 1, 2400, .inl f_heaps)), (m_led, .inl (E.2.1 2, 192, .inr (.inl f_led))), (m_newAt, .inl (E.2.1 1, 24, .inl f_newAt)), (m_knowing, .inl (E.2.1 1, 4, .inl f_knowing)), (m_firsts, .inl (E.2.1 1, 4, .inl f_firsts)), (m_secrets, .inl (E.2.1 1, 4, .inl f_secrets)), (m_tried, .inl (E.2.1 1, 4, .inl f_tried)), (m_lanes, .inl (E.2.1 1, 4, .inl f_lanes)), (m_lengths, .inl (E.2.1 1, 4, .inl f_lengths)), (m_cells, .inl (E.2.1 1, 192, .inl f_cells))]) C (run_V (As := [.long v]) (rest := rest) C (y_feed X.2.1 E [] hm v m_manys m_reals m_factsOf m_possible q_undos q_models m_tape q_taped q_fault q_wrong q_wrongAt q_spot q_place (nI q_token) (nI q_value) m_ends m_letters m_actOf m_whom m_actMany m_tokens m_afters m_afterOf q_counted m_pile m_caseMany m_happen m_hasIf m_becomes m_goneOf m_heard m_pairs m_heaps q_rounds q_heapMany m_led m_newAt m_knowing m_firsts q_people m_secrets m_tried m_lanes m_lengths m_cells f_tape hb_tape (by first | assumption | omega)) mi_X12_feed wl_L_46 rfl 0 12 rfl rfl rfl rfl hW dL_law_476) ro0 [0, 5] [1, 2, 3, 4, 6, 7, 8, 9, 10, 11, 12, 13, 14, 15, 16, 17, 18, 19, 20, 21, 22, 23, 24, 25, 26, 27, 28, 29, 30, 31] rfl (gqk (by eq_refl)) (plk (by decide +kernel)) ⟨by omega, by omega, hk.1, hk.2⟩ (fun rr u hw => ?_)
  rcases hw with hw | hw
  · refine ex2 hw ?_
    clear hw
    intro tz_1 f_tapez_2 hw
    refine an5 hw ?_
    clear hw
    intro he_r he_u h_3 h_4 h_5 hw
    have h_6 := hw
    clear hw
    have he_r := he_r.symm
    subst he_r
    subst he_u
    refine ww_subT (w1 := [(hm, .inr (12, [.ref m_manys, .ref m_reals, .ref m_factsOf, .ref m_possible, .int (nI q_undos), .int (nI q_models), .ref m_tape, .int (nI tz_1), .int q_fault, .int q_wrong, .int q_wrongAt, .int q_spot, .int q_place, .int (nI q_token), .int (nI q_value), .ref m_ends, .ref m_letters, .ref m_actOf, .ref m_whom, .ref m_actMany, .ref m_tokens, .ref m_afters, .ref m_afterOf, .int q_counted, .ref m_pile, .ref m_caseMany, .ref m_happen, .ref m_hasIf, .ref m_becomes, .ref m_goneOf, .ref m_heard, .ref m_pairs, .ref m_heaps, .int q_rounds, .int q_heapMany, .ref m_led, .ref m_newAt, .ref m_knowing, .ref m_firsts, .int (nI q_people), .ref m_secrets, .ref m_tried, .ref m_lanes, .ref m_lengths, .ref m_cells])), (m_manys, .inl (E.2.1 1, 18, .inl f_manys)), (m_reals, .inl (E.2.1 1, 18, .inl f_reals)), (m_factsOf, .inl (E.2.1 1, 432, .inl f_factsOf)), (m_possible, .inl (E.2.1 1, 1728, .inl f_possible)), (m_tape, .inl (E.2.1 1, 160, .inl f_tapez_2)), (m_ends, .inl (E.2.1 1, 15, .inl f_ends)), (m_letters, .inl (E.2.1 1, 50, .inl f_letters)), (m_actOf, .inl (E.2.1 1, 800, .inl f_actOf)), (m_whom, .inl (E.2.1 1, 800, .inl f_whom)), (m_actMany, .inl (E.2.1 1, 25, .inl f_actMany)), (m_tokens, .inl (E.2.1 1, 9, .inl f_tokens)), (m_afters, .inl (E.2.1 1, 9, .inl f_afters)), (m_afterOf, .inl (E.2.1 1, 18, .inl f_afterOf)), (m_pile, .inl (E.2.1 1, 34, .inl f_pile)), (m_caseMany, .inl (E.2.1 1, 4, .inl f_caseMany)), (m_happen, .inl (E.2.1 1, 4, .inl f_happen)), (m_hasIf, .inl (E.2.1 3, 16, .inl f_hasIf)), (m_becomes, .inl (E.2.1 1, 16, .inl f_becomes)), (m_goneOf, .inl (E.2.1 1, 16, .inl f_goneOf)), (m_heard, .inl (E.2.1 1, 64, .inl f_heard)), (m_pairs, .inl (E.2.1 1, 576, .inl f_pairs)), (m_heaps, .inl (E.2.1 1, 2400, .inl f_heaps)), (m_led, .inl (E.2.1 2, 192, .inr (.inl f_led))), (m_newAt, .inl (E.2.1 1, 24, .inl f_newAt)), (m_knowing, .inl (E.2.1 1, 4, .inl f_knowing)), (m_firsts, .inl (E.2.1 1, 4, .inl f_firsts)), (m_secrets, .inl (E.2.1 1, 4, .inl f_secrets)), (m_tried, .inl (E.2.1 1, 4, .inl f_tried)), (m_lanes, .inl (E.2.1 1, 4, .inl f_lanes)), (m_lengths, .inl (E.2.1 1, 4, .inl f_lengths)), (m_cells, .inl (E.2.1 1, 192, .inl f_cells))]) [30, 0, 1, 2, 3, 31, 4, 5, 6, 7, 8, 9, 10, 11, 12, 13, 14, 15, 16, 17, 18, 19, 20, 21, 22, 23, 24, 25, 26, 27, 28, 29] (ndk (by decide +kernel)) (gqk (by eq_refl)) ?_
    exact kont (nI tz_1) tz_1 (cz f_tapez_2 tz_1) [(hm, .inr (12, [.ref m_manys, .ref m_reals, .ref m_factsOf, .ref m_possible, .int (nI q_undos), .int (nI q_models), .ref m_tape, .int (nI tz_1), .int q_fault, .int q_wrong, .int q_wrongAt, .int q_spot, .int q_place, .int (nI q_token), .int (nI q_value), .ref m_ends, .ref m_letters, .ref m_actOf, .ref m_whom, .ref m_actMany, .ref m_tokens, .ref m_afters, .ref m_afterOf, .int q_counted, .ref m_pile, .ref m_caseMany, .ref m_happen, .ref m_hasIf, .ref m_becomes, .ref m_goneOf, .ref m_heard, .ref m_pairs, .ref m_heaps, .int q_rounds, .int q_heapMany, .ref m_led, .ref m_newAt, .ref m_knowing, .ref m_firsts, .int (nI q_people), .ref m_secrets, .ref m_tried, .ref m_lanes, .ref m_lengths, .ref m_cells])), (m_manys, .inl (E.2.1 1, 18, .inl f_manys)), (m_reals, .inl (E.2.1 1, 18, .inl f_reals)), (m_factsOf, .inl (E.2.1 1, 432, .inl f_factsOf)), (m_possible, .inl (E.2.1 1, 1728, .inl f_possible)), (m_tape, .inl (E.2.1 1, 160, .inl f_tapez_2)), (m_ends, .inl (E.2.1 1, 15, .inl f_ends)), (m_letters, .inl (E.2.1 1, 50, .inl f_letters)), (m_actOf, .inl (E.2.1 1, 800, .inl f_actOf)), (m_whom, .inl (E.2.1 1, 800, .inl f_whom)), (m_actMany, .inl (E.2.1 1, 25, .inl f_actMany)), (m_tokens, .inl (E.2.1 1, 9, .inl f_tokens)), (m_afters, .inl (E.2.1 1, 9, .inl f_afters)), (m_afterOf, .inl (E.2.1 1, 18, .inl f_afterOf)), (m_pile, .inl (E.2.1 1, 34, .inl f_pile)), (m_caseMany, .inl (E.2.1 1, 4, .inl f_caseMany)), (m_happen, .inl (E.2.1 1, 4, .inl f_happen)), (m_hasIf, .inl (E.2.1 3, 16, .inl f_hasIf)), (m_becomes, .inl (E.2.1 1, 16, .inl f_becomes)), (m_goneOf, .inl (E.2.1 1, 16, .inl f_goneOf)), (m_heard, .inl (E.2.1 1, 64, .inl f_heard)), (m_pairs, .inl (E.2.1 1, 576, .inl f_pairs)), (m_heaps, .inl (E.2.1 1, 2400, .inl f_heaps)), (m_led, .inl (E.2.1 2, 192, .inr (.inl f_led))), (m_newAt, .inl (E.2.1 1, 24, .inl f_newAt)), (m_knowing, .inl (E.2.1 1, 4, .inl f_knowing)), (m_firsts, .inl (E.2.1 1, 4, .inl f_firsts)), (m_secrets, .inl (E.2.1 1, 4, .inl f_secrets)), (m_tried, .inl (E.2.1 1, 4, .inl f_tried)), (m_lanes, .inl (E.2.1 1, 4, .inl f_lanes)), (m_lengths, .inl (E.2.1 1, 4, .inl f_lengths)), (m_cells, .inl (E.2.1 1, 192, .inl f_cells))] ⟨m_manys, m_reals, m_factsOf, m_possible, m_tape, q_fault, q_wrong, q_wrongAt, q_spot, q_place, q_token, q_value, m_ends, m_letters, m_actOf, m_whom, m_actMany, m_tokens, m_afters, m_afterOf, q_counted, m_pile, m_caseMany, m_happen, m_hasIf, m_becomes, m_goneOf, m_heard, m_pairs, m_heaps, q_rounds, q_heapMany, m_led, m_newAt, m_knowing, m_firsts, m_secrets, m_tried, m_lanes, m_lengths, m_cells, f_manys, f_reals, f_factsOf, f_possible, f_tapez_2, f_ends, f_letters, f_pile, f_pairs, f_heaps, f_led, f_newAt, f_knowing, f_firsts, f_tried, rfl, hb_manys, hb_reals, h_3, hb_ends, hb_letters, hb_actMany, hb_afters, hb_afterOf, hb_caseMany, hb_happen, hb_lengths, hpg, hhp, hsv, hwf, (by first | assumption | omega), (by first | assumption | omega), (by first | assumption | omega), (by first | assumption | omega), (by first | assumption | omega), (by first | assumption | omega), rfl, rfl⟩ (Or.inl ⟨h_4, h_5, (by rw [h_5]; exact cz_ry h_6), by rw [h_5]⟩)
  · refine an2 hw ?_
    clear hw
    intro he_r he_u hw
    have h_7 := hw
    clear hw
    have he_r := he_r.symm
    subst he_r
    subst he_u
    refine ww_subT (w1 := [(hm, .inr (12, [.ref m_manys, .ref m_reals, .ref m_factsOf, .ref m_possible, .int (nI q_undos), .int (nI q_models), .ref m_tape, .int (nI q_taped), .int q_fault, .int q_wrong, .int q_wrongAt, .int q_spot, .int q_place, .int (nI q_token), .int (nI q_value), .ref m_ends, .ref m_letters, .ref m_actOf, .ref m_whom, .ref m_actMany, .ref m_tokens, .ref m_afters, .ref m_afterOf, .int q_counted, .ref m_pile, .ref m_caseMany, .ref m_happen, .ref m_hasIf, .ref m_becomes, .ref m_goneOf, .ref m_heard, .ref m_pairs, .ref m_heaps, .int q_rounds, .int q_heapMany, .ref m_led, .ref m_newAt, .ref m_knowing, .ref m_firsts, .int (nI q_people), .ref m_secrets, .ref m_tried, .ref m_lanes, .ref m_lengths, .ref m_cells])), (m_manys, .inl (E.2.1 1, 18, .inl f_manys)), (m_reals, .inl (E.2.1 1, 18, .inl f_reals)), (m_factsOf, .inl (E.2.1 1, 432, .inl f_factsOf)), (m_possible, .inl (E.2.1 1, 1728, .inl f_possible)), (m_tape, .inl (E.2.1 1, 160, .inl f_tape)), (m_ends, .inl (E.2.1 1, 15, .inl f_ends)), (m_letters, .inl (E.2.1 1, 50, .inl f_letters)), (m_actOf, .inl (E.2.1 1, 800, .inl f_actOf)), (m_whom, .inl (E.2.1 1, 800, .inl f_whom)), (m_actMany, .inl (E.2.1 1, 25, .inl f_actMany)), (m_tokens, .inl (E.2.1 1, 9, .inl f_tokens)), (m_afters, .inl (E.2.1 1, 9, .inl f_afters)), (m_afterOf, .inl (E.2.1 1, 18, .inl f_afterOf)), (m_pile, .inl (E.2.1 1, 34, .inl f_pile)), (m_caseMany, .inl (E.2.1 1, 4, .inl f_caseMany)), (m_happen, .inl (E.2.1 1, 4, .inl f_happen)), (m_hasIf, .inl (E.2.1 3, 16, .inl f_hasIf)), (m_becomes, .inl (E.2.1 1, 16, .inl f_becomes)), (m_goneOf, .inl (E.2.1 1, 16, .inl f_goneOf)), (m_heard, .inl (E.2.1 1, 64, .inl f_heard)), (m_pairs, .inl (E.2.1 1, 576, .inl f_pairs)), (m_heaps, .inl (E.2.1 1, 2400, .inl f_heaps)), (m_led, .inl (E.2.1 2, 192, .inr (.inl f_led))), (m_newAt, .inl (E.2.1 1, 24, .inl f_newAt)), (m_knowing, .inl (E.2.1 1, 4, .inl f_knowing)), (m_firsts, .inl (E.2.1 1, 4, .inl f_firsts)), (m_secrets, .inl (E.2.1 1, 4, .inl f_secrets)), (m_tried, .inl (E.2.1 1, 4, .inl f_tried)), (m_lanes, .inl (E.2.1 1, 4, .inl f_lanes)), (m_lengths, .inl (E.2.1 1, 4, .inl f_lengths)), (m_cells, .inl (E.2.1 1, 192, .inl f_cells))]) [30, 0, 1, 2, 3, 31, 4, 5, 6, 7, 8, 9, 10, 11, 12, 13, 14, 15, 16, 17, 18, 19, 20, 21, 22, 23, 24, 25, 26, 27, 28, 29] (ndk (by decide +kernel)) (gqk (by eq_refl)) ?_
    exact kont (-3) q_taped (cz f_tape q_taped) [(hm, .inr (12, [.ref m_manys, .ref m_reals, .ref m_factsOf, .ref m_possible, .int (nI q_undos), .int (nI q_models), .ref m_tape, .int (nI q_taped), .int q_fault, .int q_wrong, .int q_wrongAt, .int q_spot, .int q_place, .int (nI q_token), .int (nI q_value), .ref m_ends, .ref m_letters, .ref m_actOf, .ref m_whom, .ref m_actMany, .ref m_tokens, .ref m_afters, .ref m_afterOf, .int q_counted, .ref m_pile, .ref m_caseMany, .ref m_happen, .ref m_hasIf, .ref m_becomes, .ref m_goneOf, .ref m_heard, .ref m_pairs, .ref m_heaps, .int q_rounds, .int q_heapMany, .ref m_led, .ref m_newAt, .ref m_knowing, .ref m_firsts, .int (nI q_people), .ref m_secrets, .ref m_tried, .ref m_lanes, .ref m_lengths, .ref m_cells])), (m_manys, .inl (E.2.1 1, 18, .inl f_manys)), (m_reals, .inl (E.2.1 1, 18, .inl f_reals)), (m_factsOf, .inl (E.2.1 1, 432, .inl f_factsOf)), (m_possible, .inl (E.2.1 1, 1728, .inl f_possible)), (m_tape, .inl (E.2.1 1, 160, .inl f_tape)), (m_ends, .inl (E.2.1 1, 15, .inl f_ends)), (m_letters, .inl (E.2.1 1, 50, .inl f_letters)), (m_actOf, .inl (E.2.1 1, 800, .inl f_actOf)), (m_whom, .inl (E.2.1 1, 800, .inl f_whom)), (m_actMany, .inl (E.2.1 1, 25, .inl f_actMany)), (m_tokens, .inl (E.2.1 1, 9, .inl f_tokens)), (m_afters, .inl (E.2.1 1, 9, .inl f_afters)), (m_afterOf, .inl (E.2.1 1, 18, .inl f_afterOf)), (m_pile, .inl (E.2.1 1, 34, .inl f_pile)), (m_caseMany, .inl (E.2.1 1, 4, .inl f_caseMany)), (m_happen, .inl (E.2.1 1, 4, .inl f_happen)), (m_hasIf, .inl (E.2.1 3, 16, .inl f_hasIf)), (m_becomes, .inl (E.2.1 1, 16, .inl f_becomes)), (m_goneOf, .inl (E.2.1 1, 16, .inl f_goneOf)), (m_heard, .inl (E.2.1 1, 64, .inl f_heard)), (m_pairs, .inl (E.2.1 1, 576, .inl f_pairs)), (m_heaps, .inl (E.2.1 1, 2400, .inl f_heaps)), (m_led, .inl (E.2.1 2, 192, .inr (.inl f_led))), (m_newAt, .inl (E.2.1 1, 24, .inl f_newAt)), (m_knowing, .inl (E.2.1 1, 4, .inl f_knowing)), (m_firsts, .inl (E.2.1 1, 4, .inl f_firsts)), (m_secrets, .inl (E.2.1 1, 4, .inl f_secrets)), (m_tried, .inl (E.2.1 1, 4, .inl f_tried)), (m_lanes, .inl (E.2.1 1, 4, .inl f_lanes)), (m_lengths, .inl (E.2.1 1, 4, .inl f_lengths)), (m_cells, .inl (E.2.1 1, 192, .inl f_cells))] ⟨m_manys, m_reals, m_factsOf, m_possible, m_tape, q_fault, q_wrong, q_wrongAt, q_spot, q_place, q_token, q_value, m_ends, m_letters, m_actOf, m_whom, m_actMany, m_tokens, m_afters, m_afterOf, q_counted, m_pile, m_caseMany, m_happen, m_hasIf, m_becomes, m_goneOf, m_heard, m_pairs, m_heaps, q_rounds, q_heapMany, m_led, m_newAt, m_knowing, m_firsts, m_secrets, m_tried, m_lanes, m_lengths, m_cells, f_manys, f_reals, f_factsOf, f_possible, f_tape, f_ends, f_letters, f_pile, f_pairs, f_heaps, f_led, f_newAt, f_knowing, f_firsts, f_tried, rfl, hb_manys, hb_reals, hb_tape, hb_ends, hb_letters, hb_actMany, hb_afters, hb_afterOf, hb_caseMany, hb_happen, hb_lengths, hpg, hhp, hsv, hwf, (by first | assumption | omega), (by first | assumption | omega), (by first | assumption | omega), (by first | assumption | omega), (by first | assumption | omega), (by first | assumption | omega), rfl, rfl⟩ (Or.inr (⟨h_7, rfl, rfl, rfl⟩))
end
