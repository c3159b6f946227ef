theorem dL_law_882 : decode cL_law 882 = .ok (.aload_n 1, 1) := by decide +kernel
theorem dL_law_883 : decode cL_law 883 = .ok (.aload_n 0, 1) := by decide +kernel
theorem dL_law_884 : decode cL_law 884 = .ok (.iload_n 3, 1) := by decide +kernel
theorem dL_law_885 : decode cL_law 885 = .ok (.iconst 1, 1) := by decide +kernel
theorem dL_law_886 : decode cL_law 886 = .ok (.iadd, 1) := by decide +kernel
theorem dL_law_887 : decode cL_law 887 = .ok (.iaload, 1) := by decide +kernel
theorem dL_law_891 : decode cL_law 891 = .ok (.pop, 1) := by decide +kernel
theorem dL_law_892 : decode cL_law 892 = .ok (.aload_n 2, 1) := by decide +kernel
theorem dL_law_893 : decode cL_law 893 = .ok (.aload_n 0, 1) := by decide +kernel
theorem dL_law_894 : decode cL_law 894 = .ok (.iload_n 3, 1) := by decide +kernel
theorem dL_law_895 : decode cL_law 895 = .ok (.iconst 1, 1) := by decide +kernel
theorem dL_law_896 : decode cL_law 896 = .ok (.iadd, 1) := by decide +kernel
theorem dL_law_897 : decode cL_law 897 = .ok (.iaload, 1) := by decide +kernel
theorem dL_law_901 : decode cL_law 901 = .ok (.pop, 1) := by decide +kernel
theorem dL_law_902 : decode cL_law 902 = .ok (.goto 550, 3) := by decide +kernel
set_option maxRecDepth 100000 in
set_option maxHeartbeats 4000000 in
theorem lawc_lay {X : XT} {E : EV} {xs : Nat → Int32} {ws : va_W} {bb L hx hm i1 kC nC : Nat} {tl : Nat} {ct : Nat → Int} {pe : Nat} {kn : Int32} {ac : Nat} {np : Nat} {kc : Nat} {mN : AM} {pV : Nat → AM} {kV : Nat → AM} {st : Nat → Nat} {sn : Nat → Nat} {sl : Nat → Nat} {scx : Nat → Nat → Int32} {tT : Nat → Option SVal} {ec : Nat → Nat} {er : Nat → Nat} {ed : Nat → Nat → Int32} {eT : Nat → Nat → Option SVal} {eb : Nat → Nat → Int32} {en : Nat → Nat → Int32} {q_undos : Nat} {q_models : Nat} {PGv : Nat → AM} {f_afterOf : Nat → Int32} {f_actMany : Nat → Int32} {f_actOf : Nat → Int32} {f_whom : Nat → Int32} {f_hasIf : Nat → Int32} {f_becomes : Nat → Int32} {f_goneOf : Nat → Int32} {q_taped : Nat} {cr : Nat → Int} {q_people : Nat} {f_secrets : Nat → Int32} {f_lanes : Nat → Int32} {f_lengths : Nat → Int32} {f_cells : Nat → Int32} {f_tokens : Nat → Int32} {f_afters : Nat → Int32} {f_caseMany : Nat → Int32} {f_happen : Nat → Int32} {f_heard : Nat → Int32} (C : CX X room_1 cL_law 4 RL ret E) (hs : SX X bb L xs) (hi : i1 + 6 ≤ L) (hL : L ≤ 3072) (hk : kC + 4 ≤ 600000 ∧ nC + 73 ≤ 7302250) (hS : ST E hx hm tl ct pe kn ac np kc mN pV kV st sn sl scx tT ec er ed eT eb en q_undos q_models PGv f_afterOf f_actMany f_actOf f_whom f_hasIf f_becomes f_goneOf q_taped cr q_people f_secrets f_lanes f_lengths f_cells f_tokens f_afters f_caseMany f_happen f_heard ws) (hR : RL_ tl ct pe kn ac np kc mN pV kV st sn sl scx tT ec er ed eT eb en q_undos q_models PGv f_afterOf f_actMany f_actOf f_whom f_hasIf f_becomes f_goneOf q_taped cr q_people f_secrets f_lanes f_lengths f_cells f_tokens f_afters f_caseMany f_happen f_heard) (kk : ∀ (tl : Nat) (ct : Nat → Int) (pe : Nat) (kn : Int32) (ac : Nat) (np : Nat) (kc : Nat) (mN : AM) (pV : Nat → AM) (kV : Nat → AM) (st : Nat → Nat) (sn : Nat → Nat) (sl : Nat → Nat) (scx : Nat → Nat → Int32) (tT : Nat → Option SVal) (ec : Nat → Nat) (er : Nat → Nat) (ed : Nat → Nat → Int32) (eT : Nat → Nat → Option SVal) (eb : Nat → Nat → Int32) (en : Nat → Nat → Int32) (q_undos : Nat) (q_models : Nat) (PGv : Nat → AM) (f_afterOf : Nat → Int32) (f_actMany : Nat → Int32) (f_actOf : Nat → Int32) (f_whom : Nat → Int32) (f_hasIf : Nat → Int32) (f_becomes : Nat → Int32) (f_goneOf : Nat → Int32) (q_taped : Nat) (cr : Nat → Int) (q_people : Nat) (f_secrets : Nat → Int32) (f_lanes : Nat → Int32) (f_lengths : Nat → Int32) (f_cells : Nat → Int32) (f_tokens : Nat → Int32) (f_afters : Nat → Int32) (f_caseMany : Nat → Int32) (f_happen : Nat → Int32) (f_heard : Nat → Int32) (wsZ : va_W), ST E hx hm tl ct pe kn ac np kc mN pV kV st sn sl scx tT ec er ed eT eb en q_undos q_models PGv f_afterOf f_actMany f_actOf f_whom f_hasIf f_becomes f_goneOf q_taped cr q_people f_secrets f_lanes f_lengths f_cells f_tokens f_afters f_caseMany f_happen f_heard wsZ → RL_ tl ct pe kn ac np kc mN pV kV st sn sl scx tT ec er ed eT eb en q_undos q_models PGv f_afterOf f_actMany f_actOf f_whom f_hasIf f_becomes f_goneOf q_taped cr q_people f_secrets f_lanes f_lengths f_cells f_tokens f_afters f_caseMany f_happen f_heard → WW X 4 E 1452 [(3, .int (nI i1)), (2, .ref hm), (1, .ref hx), (0, .ref bb)] [] wsZ (kC + 4) (nC + 73)) : WW X 4 E 882 [(3, .int (nI i1)), (2, .ref hm), (1, .ref hx), (0, .ref bb)] [] ws kC nC := by
  obtain ⟨a0, ea0⟩ : ∃ z : Int32, xs (i1 + 1) = z := ⟨_, rfl⟩
  refine ww_aload_n C dL_law_882 2 rfl rfl ?_
  refine ww_aload_n C dL_law_883 3 rfl rfl ?_
  refine ww_iload_n C dL_law_884 0 rfl rfl ?_
  refine ww_iconst (v := 1) C dL_law_885 rfl ?_
  refine ww_iadd (v := (nI (i1 + 1))) C dL_law_886 (nI_add i1 1) ?_
  refine ww_sld (v := a0) C hs (vp_in_nI (by omega) (by omega)) (ldn (by omega) ea0) dL_law_887 ?_
  refine cx_lay C rfl ⟨by omega, by omega⟩ hS (fun r_1 mN_5 pV_6 ac_7 np_8 ws_2 hS_3 hE_4 => ?_)
  replace hE_4 := hd_mk hE_4
  refine ww_pop C dL_law_891 rfl ?_
  refine ww_aload_n C dL_law_892 1 rfl rfl ?_
  refine ww_aload_n C dL_law_893 3 rfl rfl ?_
  refine ww_iload_n C dL_law_894 0 rfl rfl ?_
  refine ww_iconst (v := 1) C dL_law_895 rfl ?_
  refine ww_iadd (v := (nI (i1 + 1))) C dL_law_896 (nI_add i1 1) ?_
  refine ww_sld (v := a0) C hs (vp_in_nI (by omega) (by omega)) (ldn (by omega) ea0) dL_law_897 ?_
  refine my_lay C rfl ⟨by omega, by omega⟩ hS_3 (IVQ.whi hR.2.2.2.2.2.2.2.2.2.2.2) (fun r_9 q_undos_13 PGv_14 ws_10 hS_11 hE_12 => ?_)
  replace hE_12 := hd_mk hE_12
  refine ww_pop C dL_law_901 rfl ?_
  refine ww_goto (tgt := 1452) C dL_law_902 (by decide) ?_
  exact ww_wid (by omega) (by omega) (kk tl ct pe kn ac_7 np_8 kc mN_5 pV_6 kV st sn sl scx tT ec er ed eT eb en q_undos_13 q_models PGv_14 f_afterOf f_actMany f_actOf f_whom f_hasIf f_becomes f_goneOf q_taped cr q_people f_secrets f_lanes f_lengths f_cells f_tokens f_afters f_caseMany f_happen f_heard _ hS_11 ⟨hR.1, hR.2.1, hR.2.2.1, hR.2.2.2.1, hR.2.2.2.2.1, hR.2.2.2.2.2.1, hR.2.2.2.2.2.2.1, hR.2.2.2.2.2.2.2.1, (re_lay hE_4 hE_12 hR (ST.tl hS)).1, (re_lay hE_4 hE_12 hR (ST.tl hS)).2, hR.2.2.2.2.2.2.2.2.2.2.1, hR.2.2.2.2.2.2.2.2.2.2.2⟩)
theorem dL_law_905 : decode cL_law 905 = .ok (.aload_n 1, 1) := by decide +kernel
theorem dL_law_909 : decode cL_law 909 = .ok (.pop, 1) := by decide +kernel
theorem dL_law_910 : decode cL_law 910 = .ok (.aload_n 2, 1) := by decide +kernel
theorem dL_law_914 : decode cL_law 914 = .ok (.pop, 1) := by decide +kernel
theorem dL_law_915 : decode cL_law 915 = .ok (.goto 537, 3) := by decide +kernel
set_option maxRecDepth 100000 in
set_option maxHeartbeats 4000000 in
theorem lawc_classes {X : XT} {E : EV} {xs : Nat → Int32} {ws : va_W} {bb L hx hm i1 kC nC : Nat} {tl : Nat} {ct : Nat → Int} {pe : Nat} {kn : Int32} {ac : Nat} {np : Nat} {kc : Nat} {mN : AM} {pV : Nat → AM} {kV : Nat → AM} {st : Nat → Nat} {sn : Nat → Nat} {sl : Nat → Nat} {scx : Nat → Nat → Int32} {tT : Nat → Option SVal} {ec : Nat → Nat} {er : Nat → Nat} {ed : Nat → Nat → Int32} {eT : Nat → Nat → Option SVal} {eb : Nat → Nat → Int32} {en : Nat → Nat → Int32} {q_undos : Nat} {q_models : Nat} {PGv : Nat → AM} {f_afterOf : Nat → Int32} {f_actMany : Nat → Int32} {f_actOf : Nat → Int32} {f_whom : Nat → Int32} {f_hasIf : Nat → Int32} {f_becomes : Nat → Int32} {f_goneOf : Nat → Int32} {q_taped : Nat} {cr : Nat → Int} {q_people : Nat} {f_secrets : Nat → Int32} {f_lanes : Nat → Int32} {f_lengths : Nat → Int32} {f_cells : Nat → Int32} {f_tokens : Nat → Int32} {f_afters : Nat → Int32} {f_caseMany : Nat → Int32} {f_happen : Nat → Int32} {f_heard : Nat → Int32} (C : CX X room_1 cL_law 4 RL ret E) (hs : SX X bb L xs) (hi : i1 + 6 ≤ L) (hL : L ≤ 3072) (hk : kC + 4 ≤ 600000 ∧ nC + 73 ≤ 7302250) (hS : ST E hx hm tl ct pe kn ac np kc mN pV kV st sn sl scx tT ec er ed eT eb en q_undos q_models PGv f_afterOf f_actMany f_actOf f_whom f_hasIf f_becomes f_goneOf q_taped cr q_people f_secrets f_lanes f_lengths f_cells f_tokens f_afters f_caseMany f_happen f_heard ws) (hR : RL_ tl ct pe kn ac np kc mN pV kV st sn sl scx tT ec er ed eT eb en q_undos q_models PGv f_afterOf f_actMany f_actOf f_whom f_hasIf f_becomes f_goneOf q_taped cr q_people f_secrets f_lanes f_lengths f_cells f_tokens f_afters f_caseMany f_happen f_heard) (kk : ∀ (tl : Nat) (ct : Nat → Int) (pe : Nat) (kn : Int32) (ac : Nat) (np : Nat) (kc : Nat) (mN : AM) (pV : Nat → AM) (kV : Nat → AM) (st : Nat → Nat) (sn : Nat → Nat) (sl : Nat → Nat) (scx : Nat → Nat → Int32) (tT : Nat → Option SVal) (ec : Nat → Nat) (er : Nat → Nat) (ed : Nat → Nat → Int32) (eT : Nat → Nat → Option SVal) (eb : Nat → Nat → Int32) (en : Nat → Nat → Int32) (q_undos : Nat) (q_models : Nat) (PGv : Nat → AM) (f_afterOf : Nat → Int32) (f_actMany : Nat → Int32) (f_actOf : Nat → Int32) (f_whom : Nat → Int32) (f_hasIf : Nat → Int32) (f_becomes : Nat → Int32) (f_goneOf : Nat → Int32) (q_taped : Nat) (cr : Nat → Int) (q_people : Nat) (f_secrets : Nat → Int32) (f_lanes : Nat → Int32) (f_lengths : Nat → Int32) (f_cells : Nat → Int32) (f_tokens : Nat → Int32) (f_afters : Nat → Int32) (f_caseMany : Nat → Int32) (f_happen : Nat → Int32) (f_heard : Nat → Int32) (wsZ : va_W), ST E hx hm tl ct pe kn ac np kc mN pV kV st sn sl scx tT ec er ed eT eb en q_undos q_models PGv f_afterOf f_actMany f_actOf f_whom f_hasIf f_becomes f_goneOf q_taped cr q_people f_secrets f_lanes f_lengths f_cells f_tokens f_afters f_caseMany f_happen f_heard wsZ → RL_ tl ct pe kn ac np kc mN pV kV st sn sl scx tT ec er ed eT eb en q_undos q_models PGv f_afterOf f_actMany f_actOf f_whom f_hasIf f_becomes f_goneOf q_taped cr q_people f_secrets f_lanes f_lengths f_cells f_tokens f_afters f_caseMany f_happen f_heard → WW X 4 E 1452 [(3, .int (nI i1)), (2, .ref hm), (1, .ref hx), (0, .ref bb)] [] wsZ (kC + 4) (nC + 73)) : WW X 4 E 905 [(3, .int (nI i1)), (2, .ref hm), (1, .ref hx), (0, .ref bb)] [] ws kC nC := by
  refine ww_aload_n C dL_law_905 2 rfl rfl ?_
  refine cx_classes C rfl ⟨by omega, by omega⟩ hS (fun r_1 ws_2 hS_3 hE_4 => ?_)
  replace hE_4 := hd_mk hE_4
  refine ww_pop C dL_law_909 rfl ?_
  refine ww_aload_n C dL_law_910 1 rfl rfl ?_
  refine my_classes C rfl ⟨by omega, by omega⟩ hS_3 (fun r_5 ws_6 hS_7 hE_8 => ?_)
  replace hE_8 := hd_mk hE_8
  refine ww_pop C dL_law_914 rfl ?_
  refine ww_goto (tgt := 1452) C dL_law_915 (by decide) ?_
  exact ww_wid (by omega) (by omega) (kk tl ct pe kn ac np kc mN pV kV st sn sl scx tT ec er ed eT eb en q_undos q_models PGv f_afterOf f_actMany f_actOf f_whom f_hasIf f_becomes f_goneOf q_taped cr q_people f_secrets f_lanes f_lengths f_cells f_tokens f_afters f_caseMany f_happen f_heard _ hS_7 hR)
theorem dL_law_918 : decode cL_law 918 = .ok (.aload_n 1, 1) := by decide +kernel
theorem dL_law_919 : decode cL_law 919 = .ok (.aload_n 0, 1) := by decide +kernel
theorem dL_law_920 : decode cL_law 920 = .ok (.iload_n 3, 1) := by decide +kernel
theorem dL_law_921 : decode cL_law 921 = .ok (.iconst 1, 1) := by decide +kernel
theorem dL_law_922 : decode cL_law 922 = .ok (.iadd, 1) := by decide +kernel
theorem dL_law_923 : decode cL_law 923 = .ok (.iaload, 1) := by decide +kernel
theorem dL_law_927 : decode cL_law 927 = .ok (.pop, 1) := by decide +kernel
theorem dL_law_928 : decode cL_law 928 = .ok (.aload_n 2, 1) := by decide +kernel
theorem dL_law_929 : decode cL_law 929 = .ok (.aload_n 0, 1) := by decide +kernel
theorem dL_law_930 : decode cL_law 930 = .ok (.iload_n 3, 1) := by decide +kernel
theorem dL_law_931 : decode cL_law 931 = .ok (.iconst 1, 1) := by decide +kernel
theorem dL_law_932 : decode cL_law 932 = .ok (.iadd, 1) := by decide +kernel
theorem dL_law_933 : decode cL_law 933 = .ok (.iaload, 1) := by decide +kernel
theorem dL_law_937 : decode cL_law 937 = .ok (.pop, 1) := by decide +kernel
theorem dL_law_938 : decode cL_law 938 = .ok (.goto 514, 3) := by decide +kernel
set_option maxRecDepth 100000 in
set_option maxHeartbeats 4000000 in
theorem lawc_classOf {X : XT} {E : EV} {xs : Nat → Int32} {ws : va_W} {bb L hx hm i1 kC nC : Nat} {tl : Nat} {ct : Nat → Int} {pe : Nat} {kn : Int32} {ac : Nat} {np : Nat} {kc : Nat} {mN : AM} {pV : Nat → AM} {kV : Nat → AM} {st : Nat → Nat} {sn : Nat → Nat} {sl : Nat → Nat} {scx : Nat → Nat → Int32} {tT : Nat → Option SVal} {ec : Nat → Nat} {er : Nat → Nat} {ed : Nat → Nat → Int32} {eT : Nat → Nat → Option SVal} {eb : Nat → Nat → Int32} {en : Nat → Nat → Int32} {q_undos : Nat} {q_models : Nat} {PGv : Nat → AM} {f_afterOf : Nat → Int32} {f_actMany : Nat → Int32} {f_actOf : Nat → Int32} {f_whom : Nat → Int32} {f_hasIf : Nat → Int32} {f_becomes : Nat → Int32} {f_goneOf : Nat → Int32} {q_taped : Nat} {cr : Nat → Int} {q_people : Nat} {f_secrets : Nat → Int32} {f_lanes : Nat → Int32} {f_lengths : Nat → Int32} {f_cells : Nat → Int32} {f_tokens : Nat → Int32} {f_afters : Nat → Int32} {f_caseMany : Nat → Int32} {f_happen : Nat → Int32} {f_heard : Nat → Int32} (C : CX X room_1 cL_law 4 RL ret E) (hs : SX X bb L xs) (hi : i1 + 6 ≤ L) (hL : L ≤ 3072) (hk : kC + 4 ≤ 600000 ∧ nC + 73 ≤ 7302250) (hS : ST E hx hm tl ct pe kn ac np kc mN pV kV st sn sl scx tT ec er ed eT eb en q_undos q_models PGv f_afterOf f_actMany f_actOf f_whom f_hasIf f_becomes f_goneOf q_taped cr q_people f_secrets f_lanes f_lengths f_cells f_tokens f_afters f_caseMany f_happen f_heard ws) (hR : RL_ tl ct pe kn ac np kc mN pV kV st sn sl scx tT ec er ed eT eb en q_undos q_models PGv f_afterOf f_actMany f_actOf f_whom f_hasIf f_becomes f_goneOf q_taped cr q_people f_secrets f_lanes f_lengths f_cells f_tokens f_afters f_caseMany f_happen f_heard) (kk : ∀ (tl : Nat) (ct : Nat → Int) (pe : Nat) (kn : Int32) (ac : Nat) (np : Nat) (kc : Nat) (mN : AM) (pV : Nat → AM) (kV : Nat → AM) (st : Nat → Nat) (sn : Nat → Nat) (sl : Nat → Nat) (scx : Nat → Nat → Int32) (tT : Nat → Option SVal) (ec : Nat → Nat) (er : Nat → Nat) (ed : Nat → Nat → Int32) (eT : Nat → Nat → Option SVal) (eb : Nat → Nat → Int32) (en : Nat → Nat → Int32) (q_undos : Nat) (q_models : Nat) (PGv : Nat → AM) (f_afterOf : Nat → Int32) (f_actMany : Nat → Int32) (f_actOf : Nat → Int32) (f_whom : Nat → Int32) (f_hasIf : Nat → Int32) (f_becomes : Nat → Int32) (f_goneOf : Nat → Int32) (q_taped : Nat) (cr : Nat → Int) (q_people : Nat) (f_secrets : Nat → Int32) (f_lanes : Nat → Int32) (f_lengths : Nat → Int32) (f_cells : Nat → Int32) (f_tokens : Nat → Int32) (f_afters : Nat → Int32) (f_caseMany : Nat → Int32) (f_happen : Nat → Int32) (f_heard : Nat → Int32) (wsZ : va_W), ST E hx hm tl ct pe kn ac np kc mN pV kV st sn sl scx tT ec er ed eT eb en q_undos q_models PGv f_afterOf f_actMany f_actOf f_whom f_hasIf f_becomes f_goneOf q_taped cr q_people f_secrets f_lanes f_lengths f_cells f_tokens f_afters f_caseMany f_happen f_heard wsZ → RL_ tl ct pe kn ac np kc mN pV kV st sn sl scx tT ec er ed eT eb en q_undos q_models PGv f_afterOf f_actMany f_actOf f_whom f_hasIf f_becomes f_goneOf q_taped cr q_people f_secrets f_lanes f_lengths f_cells f_tokens f_afters f_caseMany f_happen f_heard → WW X 4 E 1452 [(3, .int (nI i1)), (2, .ref hm), (1, .ref hx), (0, .ref bb)] [] wsZ (kC + 4) (nC + 73)) : WW X 4 E 918 [(3, .int (nI i1)), (2, .ref hm), (1, .ref hx), (0, .ref bb)] [] ws kC nC := by
  obtain ⟨a0, ea0⟩ : ∃ z : Int32, xs (i1 + 1) = z := ⟨_, rfl⟩
  refine ww_aload_n C dL_law_918 2 rfl rfl ?_
  refine ww_aload_n C dL_law_919 3 rfl rfl ?_
  refine ww_iload_n C dL_law_920 0 rfl rfl ?_
  refine ww_iconst (v := 1) C dL_law_921 rfl ?_
  refine ww_iadd (v := (nI (i1 + 1))) C dL_law_922 (nI_add i1 1) ?_
  refine ww_sld (v := a0) C hs (vp_in_nI (by omega) (by omega)) (ldn (by omega) ea0) dL_law_923 ?_
  refine cx_classOf C rfl ⟨by omega, by omega⟩ hS (fun r_1 ws_2 hS_3 hE_4 => ?_)
  replace hE_4 := hd_mk hE_4
  refine ww_pop C dL_law_927 rfl ?_
  refine ww_aload_n C dL_law_928 1 rfl rfl ?_
  refine ww_aload_n C dL_law_929 3 rfl rfl ?_
  refine ww_iload_n C dL_law_930 0 rfl rfl ?_
  refine ww_iconst (v := 1) C dL_law_931 rfl ?_
  refine ww_iadd (v := (nI (i1 + 1))) C dL_law_932 (nI_add i1 1) ?_
  refine ww_sld (v := a0) C hs (vp_in_nI (by omega) (by omega)) (ldn (by omega) ea0) dL_law_933 ?_
  refine my_classOf C rfl ⟨by omega, by omega⟩ hS_3 (fun r_5 ws_6 hS_7 hE_8 => ?_)
  replace hE_8 := hd_mk hE_8
  refine ww_pop C dL_law_937 rfl ?_
  refine ww_goto (tgt := 1452) C dL_law_938 (by decide) ?_
  exact ww_wid (by omega) (by omega) (kk tl ct pe kn ac np kc mN pV kV st sn sl scx tT ec er ed eT eb en q_undos q_models PGv f_afterOf f_actMany f_actOf f_whom f_hasIf f_becomes f_goneOf q_taped cr q_people f_secrets f_lanes f_lengths f_cells f_tokens f_afters f_caseMany f_happen f_heard _ hS_7 hR)
theorem dL_law_941 : decode cL_law 941 = .ok (.aload_n 1, 1) := by decide +kernel
theorem dL_law_942 : decode cL_law 942 = .ok (.aload_n 0, 1) := by decide +kernel
theorem dL_law_943 : decode cL_law 943 = .ok (.iload_n 3, 1) := by decide +kernel
theorem dL_law_944 : decode cL_law 944 = .ok (.iconst 1, 1) := by decide +kernel
theorem dL_law_945 : decode cL_law 945 = .ok (.iadd, 1) := by decide +kernel
theorem dL_law_946 : decode cL_law 946 = .ok (.iaload, 1) := by decide +kernel
theorem dL_law_947 : decode cL_law 947 = .ok (.aload_n 0, 1) := by decide +kernel
theorem dL_law_948 : decode cL_law 948 = .ok (.iload_n 3, 1) := by decide +kernel
theorem dL_law_949 : decode cL_law 949 = .ok (.iconst 2, 1) := by decide +kernel
theorem dL_law_950 : decode cL_law 950 = .ok (.iadd, 1) := by decide +kernel
theorem dL_law_951 : decode cL_law 951 = .ok (.iaload, 1) := by decide +kernel
theorem dL_law_955 : decode cL_law 955 = .ok (.pop, 1) := by decide +kernel
theorem dL_law_956 : decode cL_law 956 = .ok (.aload_n 2, 1) := by decide +kernel
theorem dL_law_957 : decode cL_law 957 = .ok (.aload_n 0, 1) := by decide +kernel
theorem dL_law_958 : decode cL_law 958 = .ok (.iload_n 3, 1) := by decide +kernel
theorem dL_law_959 : decode cL_law 959 = .ok (.iconst 1, 1) := by decide +kernel
theorem dL_law_960 : decode cL_law 960 = .ok (.iadd, 1) := by decide +kernel
theorem dL_law_961 : decode cL_law 961 = .ok (.iaload, 1) := by decide +kernel
theorem dL_law_962 : decode cL_law 962 = .ok (.aload_n 0, 1) := by decide +kernel
theorem dL_law_963 : decode cL_law 963 = .ok (.iload_n 3, 1) := by decide +kernel
theorem dL_law_964 : decode cL_law 964 = .ok (.iconst 2, 1) := by decide +kernel
theorem dL_law_965 : decode cL_law 965 = .ok (.iadd, 1) := by decide +kernel
theorem dL_law_966 : decode cL_law 966 = .ok (.iaload, 1) := by decide +kernel
theorem dL_law_970 : decode cL_law 970 = .ok (.pop, 1) := by decide +kernel
theorem dL_law_971 : decode cL_law 971 = .ok (.goto 481, 3) := by decide +kernel
set_option maxRecDepth 100000 in
set_option maxHeartbeats 4000000 in
theorem lawc_depth {X : XT} {E : EV} {xs : Nat → Int32} {ws : va_W} {bb L hx hm i1 kC nC : Nat} {tl : Nat} {ct : Nat → Int} {pe : Nat} {kn : Int32} {ac : Nat} {np : Nat} {kc : Nat} {mN : AM} {pV : Nat → AM} {kV : Nat → AM} {st : Nat → Nat} {sn : Nat → Nat} {sl : Nat → Nat} {scx : Nat → Nat → Int32} {tT : Nat → Option SVal} {ec : Nat → Nat} {er : Nat → Nat} {ed : Nat → Nat → Int32} {eT : Nat → Nat → Option SVal} {eb : Nat → Nat → Int32} {en : Nat → Nat → Int32} {q_undos : Nat} {q_models : Nat} {PGv : Nat → AM} {f_afterOf : Nat → Int32} {f_actMany : Nat → Int32} {f_actOf : Nat → Int32} {f_whom : Nat → Int32} {f_hasIf : Nat → Int32} {f_becomes : Nat → Int32} {f_goneOf : Nat → Int32} {q_taped : Nat} {cr : Nat → Int} {q_people : Nat} {f_secrets : Nat → Int32} {f_lanes : Nat → Int32} {f_lengths : Nat → Int32} {f_cells : Nat → Int32} {f_tokens : Nat → Int32} {f_afters : Nat → Int32} {f_caseMany : Nat → Int32} {f_happen : Nat → Int32} {f_heard : Nat → Int32} (C : CX X room_1 cL_law 4 RL ret E) (hs : SX X bb L xs) (hi : i1 + 6 ≤ L) (hL : L ≤ 3072) (hk : kC + 4 ≤ 600000 ∧ nC + 73 ≤ 7302250) (hS : ST E hx hm tl ct pe kn ac np kc mN pV kV st sn sl scx tT ec er ed eT eb en q_undos q_models PGv f_afterOf f_actMany f_actOf f_whom f_hasIf f_becomes f_goneOf q_taped cr q_people f_secrets f_lanes f_lengths f_cells f_tokens f_afters f_caseMany f_happen f_heard ws) (hR : RL_ tl ct pe kn ac np kc mN pV kV st sn sl scx tT ec er ed eT eb en q_undos q_models PGv f_afterOf f_actMany f_actOf f_whom f_hasIf f_becomes f_goneOf q_taped cr q_people f_secrets f_lanes f_lengths f_cells f_tokens f_afters f_caseMany f_happen f_heard) (kk : ∀ (tl : Nat) (ct : Nat → Int) (pe : Nat) (kn : Int32) (ac : Nat) (np : Nat) (kc : Nat) (mN : AM) (pV : Nat → AM) (kV : Nat → AM) (st : Nat → Nat) (sn : Nat → Nat) (sl : Nat → Nat) (scx : Nat → Nat → Int32) (tT : Nat → Option SVal) (ec : Nat → Nat) (er : Nat → Nat) (ed : Nat → Nat → Int32) (eT : Nat → Nat → Option SVal) (eb : Nat → Nat → Int32) (en : Nat → Nat → Int32) (q_undos : Nat) (q_models : Nat) (PGv : Nat → AM) (f_afterOf : Nat → Int32) (f_actMany : Nat → Int32) (f_actOf : Nat → Int32) (f_whom : Nat → Int32) (f_hasIf : Nat → Int32) (f_becomes : Nat → Int32) (f_goneOf : Nat → Int32) (q_taped : Nat) (cr : Nat → Int) (q_people : Nat) (f_secrets : Nat → Int32) (f_lanes : Nat → Int32) (f_lengths : Nat → Int32) (f_cells : Nat → Int32) (f_tokens : Nat → Int32) (f_afters : Nat → Int32) (f_caseMany : Nat → Int32) (f_happen : Nat → Int32) (f_heard : Nat → Int32) (wsZ : va_W), ST E hx hm tl ct pe kn ac np kc mN pV kV st sn sl scx tT ec er ed eT eb en q_undos q_models PGv f_afterOf f_actMany f_actOf f_whom f_hasIf f_becomes f_goneOf q_taped cr q_people f_secrets f_lanes f_lengths f_cells f_tokens f_afters f_caseMany f_happen f_heard wsZ → RL_ tl ct pe kn ac np kc mN pV kV st sn sl scx tT ec er ed eT eb en q_undos q_models PGv f_afterOf f_actMany f_actOf f_whom f_hasIf f_becomes f_goneOf q_taped cr q_people f_secrets f_lanes f_lengths f_cells f_tokens f_afters f_caseMany f_happen f_heard → WW X 4 E 1452 [(3, .int (nI i1)), (2, .ref hm), (1, .ref hx), (0, .ref bb)] [] wsZ (kC + 4) (nC + 73)) : WW X 4 E 941 [(3, .int (nI i1)), (2, .ref hm), (1, .ref hx), (0, .ref bb)] [] ws kC nC := by
  obtain ⟨a0, ea0⟩ : ∃ z : Int32, xs (i1 + 1) = z := ⟨_, rfl⟩
  obtain ⟨a1, ea1⟩ : ∃ z : Int32, xs (i1 + 2) = z := ⟨_, rfl⟩
  refine ww_aload_n C dL_law_941 2 rfl rfl ?_
  refine ww_aload_n C dL_law_942 3 rfl rfl ?_
  refine ww_iload_n C dL_law_943 0 rfl rfl ?_
  refine ww_iconst (v := 1) C dL_law_944 rfl ?_
  refine ww_iadd (v := (nI (i1 + 1))) C dL_law_945 (nI_add i1 1) ?_
  refine ww_sld (v := a0) C hs (vp_in_nI (by omega) (by omega)) (ldn (by omega) ea0) dL_law_946 ?_
  refine ww_aload_n C dL_law_947 3 rfl rfl ?_
  refine ww_iload_n C dL_law_948 0 rfl rfl ?_
  refine ww_iconst (v := 2) C dL_law_949 rfl ?_
  refine ww_iadd (v := (nI (i1 + 2))) C dL_law_950 (nI_add i1 2) ?_
  refine ww_sld (v := a1) C hs (vp_in_nI (by omega) (by omega)) (ldn (by omega) ea1) dL_law_951 ?_
  refine cx_depth C rfl ⟨by omega, by omega⟩ hS (fun r_1 ws_2 hS_3 hE_4 => ?_)
  replace hE_4 := hd_mk hE_4
  refine ww_pop C dL_law_955 rfl ?_
  refine ww_aload_n C dL_law_956 1 rfl rfl ?_
  refine ww_aload_n C dL_law_957 3 rfl rfl ?_
  refine ww_iload_n C dL_law_958 0 rfl rfl ?_
  refine ww_iconst (v := 1) C dL_law_959 rfl ?_
  refine ww_iadd (v := (nI (i1 + 1))) C dL_law_960 (nI_add i1 1) ?_
  refine ww_sld (v := a0) C hs (vp_in_nI (by omega) (by omega)) (ldn (by omega) ea0) dL_law_961 ?_
  refine ww_aload_n C dL_law_962 3 rfl rfl ?_
  refine ww_iload_n C dL_law_963 0 rfl rfl ?_
  refine ww_iconst (v := 2) C dL_law_964 rfl ?_
  refine ww_iadd (v := (nI (i1 + 2))) C dL_law_965 (nI_add i1 2) ?_
  refine ww_sld (v := a1) C hs (vp_in_nI (by omega) (by omega)) (ldn (by omega) ea1) dL_law_966 ?_
  refine my_depth C rfl ⟨by omega, by omega⟩ hS_3 (fun r_5 ws_6 hS_7 hE_8 => ?_)
  replace hE_8 := hd_mk hE_8
  refine ww_pop C dL_law_970 rfl ?_
  refine ww_goto (tgt := 1452) C dL_law_971 (by decide) ?_
  exact ww_wid (by omega) (by omega) (kk tl ct pe kn ac np kc mN pV kV st sn sl scx tT ec er ed eT eb en q_undos q_models PGv f_afterOf f_actMany f_actOf f_whom f_hasIf f_becomes f_goneOf q_taped cr q_people f_secrets f_lanes f_lengths f_cells f_tokens f_afters f_caseMany f_happen f_heard _ hS_7 hR)
theorem dL_law_974 : decode cL_law 974 = .ok (.aload_n 1, 1) := by decide +kernel
theorem dL_law_978 : decode cL_law 978 = .ok (.pop, 1) := by decide +kernel
theorem dL_law_979 : decode cL_law 979 = .ok (.aload_n 2, 1) := by decide +kernel
theorem dL_law_983 : decode cL_law 983 = .ok (.pop, 1) := by decide +kernel
theorem dL_law_984 : decode cL_law 984 = .ok (.goto 468, 3) := by decide +kernel
set_option maxRecDepth 100000 in
set_option maxHeartbeats 4000000 in
theorem lawc_melt {X : XT} {E : EV} {xs : Nat → Int32} {ws : va_W} {bb L hx hm i1 kC nC : Nat} {tl : Nat} {ct : Nat → Int} {pe : Nat} {kn : Int32} {ac : Nat} {np : Nat} {kc : Nat} {mN : AM} {pV : Nat → AM} {kV : Nat → AM} {st : Nat → Nat} {sn : Nat → Nat} {sl : Nat → Nat} {scx : Nat → Nat → Int32} {tT : Nat → Option SVal} {ec : Nat → Nat} {er : Nat → Nat} {ed : Nat → Nat → Int32} {eT : Nat → Nat → Option SVal} {eb : Nat → Nat → Int32} {en : Nat → Nat → Int32} {q_undos : Nat} {q_models : Nat} {PGv : Nat → AM} {f_afterOf : Nat → Int32} {f_actMany : Nat → Int32} {f_actOf : Nat → Int32} {f_whom : Nat → Int32} {f_hasIf : Nat → Int32} {f_becomes : Nat → Int32} {f_goneOf : Nat → Int32} {q_taped : Nat} {cr : Nat → Int} {q_people : Nat} {f_secrets : Nat → Int32} {f_lanes : Nat → Int32} {f_lengths : Nat → Int32} {f_cells : Nat → Int32} {f_tokens : Nat → Int32} {f_afters : Nat → Int32} {f_caseMany : Nat → Int32} {f_happen : Nat → Int32} {f_heard : Nat → Int32} (C : CX X room_1 cL_law 4 RL ret E) (hs : SX X bb L xs) (hi : i1 + 6 ≤ L) (hL : L ≤ 3072) (hk : kC + 4 ≤ 600000 ∧ nC + 73 ≤ 7302250) (hS : ST E hx hm tl ct pe kn ac np kc mN pV kV st sn sl scx tT ec er ed eT eb en q_undos q_models PGv f_afterOf f_actMany f_actOf f_whom f_hasIf f_becomes f_goneOf q_taped cr q_people f_secrets f_lanes f_lengths f_cells f_tokens f_afters f_caseMany f_happen f_heard ws) (hR : RL_ tl ct pe kn ac np kc mN pV kV st sn sl scx tT ec er ed eT eb en q_undos q_models PGv f_afterOf f_actMany f_actOf f_whom f_hasIf f_becomes f_goneOf q_taped cr q_people f_secrets f_lanes f_lengths f_cells f_tokens f_afters f_caseMany f_happen f_heard) (kk : ∀ (tl : Nat) (ct : Nat → Int) (pe : Nat) (kn : Int32) (ac : Nat) (np : Nat) (kc : Nat) (mN : AM) (pV : Nat → AM) (kV : Nat → AM) (st : Nat → Nat) (sn : Nat → Nat) (sl : Nat → Nat) (scx : Nat → Nat → Int32) (tT : Nat → Option SVal) (ec : Nat → Nat) (er : Nat → Nat) (ed : Nat → Nat → Int32) (eT : Nat → Nat → Option SVal) (eb : Nat → Nat → Int32) (en : Nat → Nat → Int32) (q_undos : Nat) (q_models : Nat) (PGv : Nat → AM) (f_afterOf : Nat → Int32) (f_actMany : Nat → Int32) (f_actOf : Nat → Int32) (f_whom : Nat → Int32) (f_hasIf : Nat → Int32) (f_becomes : Nat → Int32) (f_goneOf : Nat → Int32) (q_taped : Nat) (cr : Nat → Int) (q_people : Nat) (f_secrets : Nat → Int32) (f_lanes : Nat → Int32) (f_lengths : Nat → Int32) (f_cells : Nat → Int32) (f_tokens : Nat → Int32) (f_afters : Nat → Int32) (f_caseMany : Nat → Int32) (f_happen : Nat → Int32) (f_heard : Nat → Int32) (wsZ : va_W), ST E hx hm tl ct pe kn ac np kc mN pV kV st sn sl scx tT ec er ed eT eb en q_undos q_models PGv f_afterOf f_actMany f_actOf f_whom f_hasIf f_becomes f_goneOf q_taped cr q_people f_secrets f_lanes f_lengths f_cells f_tokens f_afters f_caseMany f_happen f_heard wsZ → RL_ tl ct pe kn ac np kc mN pV kV st sn sl scx tT ec er ed eT eb en q_undos q_models PGv f_afterOf f_actMany f_actOf f_whom f_hasIf f_becomes f_goneOf q_taped cr q_people f_secrets f_lanes f_lengths f_cells f_tokens f_afters f_caseMany f_happen f_heard → WW X 4 E 1452 [(3, .int (nI i1)), (2, .ref hm), (1, .ref hx), (0, .ref bb)] [] wsZ (kC + 4) (nC + 73)) : WW X 4 E 974 [(3, .int (nI i1)), (2, .ref hm), (1, .ref hx), (0, .ref bb)] [] ws kC nC := by
  refine ww_aload_n C dL_law_974 2 rfl rfl ?_
  refine cx_melt C rfl ⟨by omega, by omega⟩ hS (fun r_1 mN_5 pV_6 ac_7 np_8 ws_2 hS_3 hE_4 => ?_)
  replace hE_4 := hd_mk hE_4
  refine ww_pop C dL_law_978 rfl ?_
  refine ww_aload_n C dL_law_979 1 rfl rfl ?_
  refine my_melt C rfl ⟨by omega, by omega⟩ hS_3 (fun r_9 q_undos_13 PGv_14 ws_10 hS_11 hE_12 => ?_)
  replace hE_12 := hd_mk hE_12
  refine ww_pop C dL_law_983 rfl ?_
  refine ww_goto (tgt := 1452) C dL_law_984 (by decide) ?_
  exact ww_wid (by omega) (by omega) (kk tl ct pe kn ac_7 np_8 kc mN_5 pV_6 kV st sn sl scx tT ec er ed eT eb en q_undos_13 q_models PGv_14 f_afterOf f_actMany f_actOf f_whom f_hasIf f_becomes f_goneOf q_taped cr q_people f_secrets f_lanes f_lengths f_cells f_tokens f_afters f_caseMany f_happen f_heard _ hS_11 ⟨hR.1, hR.2.1, hR.2.2.1, hR.2.2.2.1, hR.2.2.2.2.1, hR.2.2.2.2.2.1, hR.2.2.2.2.2.2.1, hR.2.2.2.2.2.2.2.1, (re_melt hE_4 hE_12 hR (ST.tl hS)).1, (re_melt hE_4 hE_12 hR (ST.tl hS)).2, hR.2.2.2.2.2.2.2.2.2.2.1, hR.2.2.2.2.2.2.2.2.2.2.2⟩)
theorem dL_law_987 : decode cL_law 987 = .ok (.aload_n 1, 1) := by decide +kernel
theorem dL_law_991 : decode cL_law 991 = .ok (.pop, 1) := by decide +kernel
theorem dL_law_992 : decode cL_law 992 = .ok (.aload_n 2, 1) := by decide +kernel
theorem dL_law_996 : decode cL_law 996 = .ok (.pop, 1) := by decide +kernel
theorem dL_law_997 : decode cL_law 997 = .ok (.goto 455, 3) := by decide +kernel
set_option maxRecDepth 100000 in
set_option maxHeartbeats 4000000 in
theorem lawc_keep {X : XT} {E : EV} {xs : Nat → Int32} {ws : va_W} {bb L hx hm i1 kC nC : Nat} {tl : Nat} {ct : Nat → Int} {pe : Nat} {kn : Int32} {ac : Nat} {np : Nat} {kc : Nat} {mN : AM} {pV : Nat → AM} {kV : Nat → AM} {st : Nat → Nat} {sn : Nat → Nat} {sl : Nat → Nat} {scx : Nat → Nat → Int32} {tT : Nat → Option SVal} {ec : Nat → Nat} {er : Nat → Nat} {ed : Nat → Nat → Int32} {eT : Nat → Nat → Option SVal} {eb : Nat → Nat → Int32} {en : Nat → Nat → Int32} {q_undos : Nat} {q_models : Nat} {PGv : Nat → AM} {f_afterOf : Nat → Int32} {f_actMany : Nat → Int32} {f_actOf : Nat → Int32} {f_whom : Nat → Int32} {f_hasIf : Nat → Int32} {f_becomes : Nat → Int32} {f_goneOf : Nat → Int32} {q_taped : Nat} {cr : Nat → Int} {q_people : Nat} {f_secrets : Nat → Int32} {f_lanes : Nat → Int32} {f_lengths : Nat → Int32} {f_cells : Nat → Int32} {f_tokens : Nat → Int32} {f_afters : Nat → Int32} {f_caseMany : Nat → Int32} {f_happen : Nat → Int32} {f_heard : Nat → Int32} (C : CX X room_1 cL_law 4 RL ret E) (hs : SX X bb L xs) (hi : i1 + 6 ≤ L) (hL : L ≤ 3072) (hk : kC + 4 ≤ 600000 ∧ nC + 73 ≤ 7302250) (hS : ST E hx hm tl ct pe kn ac np kc mN pV kV st sn sl scx tT ec er ed eT eb en q_undos q_models PGv f_afterOf f_actMany f_actOf f_whom f_hasIf f_becomes f_goneOf q_taped cr q_people f_secrets f_lanes f_lengths f_cells f_tokens f_afters f_caseMany f_happen f_heard ws) (hR : RL_ tl ct pe kn ac np kc mN pV kV st sn sl scx tT ec er ed eT eb en q_undos q_models PGv f_afterOf f_actMany f_actOf f_whom f_hasIf f_becomes f_goneOf q_taped cr q_people f_secrets f_lanes f_lengths f_cells f_tokens f_afters f_caseMany f_happen f_heard) (kk : ∀ (tl : Nat) (ct : Nat → Int) (pe : Nat) (kn : Int32) (ac : Nat) (np : Nat) (kc : Nat) (mN : AM) (pV : Nat → AM) (kV : Nat → AM) (st : Nat → Nat) (sn : Nat → Nat) (sl : Nat → Nat) (scx : Nat → Nat → Int32) (tT : Nat → Option SVal) (ec : Nat → Nat) (er : Nat → Nat) (ed : Nat → Nat → Int32) (eT : Nat → Nat → Option SVal) (eb : Nat → Nat → Int32) (en : Nat → Nat → Int32) (q_undos : Nat) (q_models : Nat) (PGv : Nat → AM) (f_afterOf : Nat → Int32) (f_actMany : Nat → Int32) (f_actOf : Nat → Int32) (f_whom : Nat → Int32) (f_hasIf : Nat → Int32) (f_becomes : Nat → Int32) (f_goneOf : Nat → Int32) (q_taped : Nat) (cr : Nat → Int) (q_people : Nat) (f_secrets : Nat → Int32) (f_lanes : Nat → Int32) (f_lengths : Nat → Int32) (f_cells : Nat → Int32) (f_tokens : Nat → Int32) (f_afters : Nat → Int32) (f_caseMany : Nat → Int32) (f_happen : Nat → Int32) (f_heard : Nat → Int32) (wsZ : va_W), ST E hx hm tl ct pe kn ac np kc mN pV kV st sn sl scx tT ec er ed eT eb en q_undos q_models PGv f_afterOf f_actMany f_actOf f_whom f_hasIf f_becomes f_goneOf q_taped cr q_people f_secrets f_lanes f_lengths f_cells f_tokens f_afters f_caseMany f_happen f_heard wsZ → RL_ tl ct pe kn ac np kc mN pV kV st sn sl scx tT ec er ed eT eb en q_undos q_models PGv f_afterOf f_actMany f_actOf f_whom f_hasIf f_becomes f_goneOf q_taped cr q_people f_secrets f_lanes f_lengths f_cells f_tokens f_afters f_caseMany f_happen f_heard → WW X 4 E 1452 [(3, .int (nI i1)), (2, .ref hm), (1, .ref hx), (0, .ref bb)] [] wsZ (kC + 4) (nC + 73)) : WW X 4 E 987 [(3, .int (nI i1)), (2, .ref hm), (1, .ref hx), (0, .ref bb)] [] ws kC nC := by
  refine ww_aload_n C dL_law_987 2 rfl rfl ?_
  refine cx_keep C rfl ⟨by omega, by omega⟩ hS (fun r_1 kV_5 kc_6 ws_2 hS_3 hE_4 => ?_)
  replace hE_4 := hd_mk hE_4
  refine ww_pop C dL_law_991 rfl ?_
  refine ww_aload_n C dL_law_992 1 rfl rfl ?_
  refine my_keep C rfl ⟨by omega, by omega⟩ hS_3 (fun r_7 q_models_11 PGv_12 ws_8 hS_9 hE_10 => ?_)
  replace hE_10 := hd_mk hE_10
  refine ww_pop C dL_law_996 rfl ?_
  refine ww_goto (tgt := 1452) C dL_law_997 (by decide) ?_
  exact ww_wid (by omega) (by omega) (kk tl ct pe kn ac np kc_6 mN pV kV_5 st sn sl scx tT ec er ed eT eb en q_undos q_models_11 PGv_12 f_afterOf f_actMany f_actOf f_whom f_hasIf f_becomes f_goneOf q_taped cr q_people f_secrets f_lanes f_lengths f_cells f_tokens f_afters f_caseMany f_happen f_heard _ hS_9 ⟨hR.1, hR.2.1, hR.2.2.1, hR.2.2.2.1, hR.2.2.2.2.1, hR.2.2.2.2.2.1, hR.2.2.2.2.2.2.1, hR.2.2.2.2.2.2.2.1, (re_keep hE_4 hE_10 hR (ST.tl hS)).1, (re_keep hE_4 hE_10 hR (ST.tl hS)).2, hR.2.2.2.2.2.2.2.2.2.2.1, hR.2.2.2.2.2.2.2.2.2.2.2⟩)
theorem dL_law_1000 : decode cL_law 1000 = .ok (.aload_n 1, 1) := by decide +kernel
theorem dL_law_1001 : decode cL_law 1001 = .ok (.aload_n 0, 1) := by decide +kernel
theorem dL_law_1002 : decode cL_law 1002 = .ok (.iload_n 3, 1) := by decide +kernel
theorem dL_law_1003 : decode cL_law 1003 = .ok (.iconst 1, 1) := by decide +kernel
theorem dL_law_1004 : decode cL_law 1004 = .ok (.iadd, 1) := by decide +kernel
theorem dL_law_1005 : decode cL_law 1005 = .ok (.iaload, 1) := by decide +kernel
theorem dL_law_1009 : decode cL_law 1009 = .ok (.pop, 1) := by decide +kernel
theorem dL_law_1010 : decode cL_law 1010 = .ok (.aload_n 2, 1) := by decide +kernel
theorem dL_law_1011 : decode cL_law 1011 = .ok (.aload_n 0, 1) := by decide +kernel
theorem dL_law_1012 : decode cL_law 1012 = .ok (.iload_n 3, 1) := by decide +kernel
theorem dL_law_1013 : decode cL_law 1013 = .ok (.iconst 1, 1) := by decide +kernel
theorem dL_law_1014 : decode cL_law 1014 = .ok (.iadd, 1) := by decide +kernel
theorem dL_law_1015 : decode cL_law 1015 = .ok (.iaload, 1) := by decide +kernel
theorem dL_law_1019 : decode cL_law 1019 = .ok (.pop, 1) := by decide +kernel
theorem dL_law_1020 : decode cL_law 1020 = .ok (.goto 432, 3) := by decide +kernel
set_option maxRecDepth 100000 in
set_option maxHeartbeats 4000000 in
theorem lawc_stand {X : XT} {E : EV} {xs : Nat → Int32} {ws : va_W} {bb L hx hm i1 kC nC : Nat} {tl : Nat} {ct : Nat → Int} {pe : Nat} {kn : Int32} {ac : Nat} {np : Nat} {kc : Nat} {mN : AM} {pV : Nat → AM} {kV : Nat → AM} {st : Nat → Nat} {sn : Nat → Nat} {sl : Nat → Nat} {scx : Nat → Nat → Int32} {tT : Nat → Option SVal} {ec : Nat → Nat} {er : Nat → Nat} {ed : Nat → Nat → Int32} {eT : Nat → Nat → Option SVal} {eb : Nat → Nat → Int32} {en : Nat → Nat → Int32} {q_undos : Nat} {q_models : Nat} {PGv : Nat → AM} {f_afterOf : Nat → Int32} {f_actMany : Nat → Int32} {f_actOf : Nat → Int32} {f_whom : Nat → Int32} {f_hasIf : Nat → Int32} {f_becomes : Nat → Int32} {f_goneOf : Nat → Int32} {q_taped : Nat} {cr : Nat → Int} {q_people : Nat} {f_secrets : Nat → Int32} {f_lanes : Nat → Int32} {f_lengths : Nat → Int32} {f_cells : Nat → Int32} {f_tokens : Nat → Int32} {f_afters : Nat → Int32} {f_caseMany : Nat → Int32} {f_happen : Nat → Int32} {f_heard : Nat → Int32} (C : CX X room_1 cL_law 4 RL ret E) (hs : SX X bb L xs) (hi : i1 + 6 ≤ L) (hL : L ≤ 3072) (hk : kC + 4 ≤ 600000 ∧ nC + 73 ≤ 7302250) (hS : ST E hx hm tl ct pe kn ac np kc mN pV kV st sn sl scx tT ec er ed eT eb en q_undos q_models PGv f_afterOf f_actMany f_actOf f_whom f_hasIf f_becomes f_goneOf q_taped cr q_people f_secrets f_lanes f_lengths f_cells f_tokens f_afters f_caseMany f_happen f_heard ws) (hR : RL_ tl ct pe kn ac np kc mN pV kV st sn sl scx tT ec er ed eT eb en q_undos q_models PGv f_afterOf f_actMany f_actOf f_whom f_hasIf f_becomes f_goneOf q_taped cr q_people f_secrets f_lanes f_lengths f_cells f_tokens f_afters f_caseMany f_happen f_heard) (kk : ∀ (tl : Nat) (ct : Nat → Int) (pe : Nat) (kn : Int32) (ac : Nat) (np : Nat) (kc : Nat) (mN : AM) (pV : Nat → AM) (kV : Nat → AM) (st : Nat → Nat) (sn : Nat → Nat) (sl : Nat → Nat) (scx : Nat → Nat → Int32) (tT : Nat → Option SVal) (ec : Nat → Nat) (er : Nat → Nat) (ed : Nat → Nat → Int32) (eT : Nat → Nat → Option SVal) (eb : Nat → Nat → Int32) (en : Nat → Nat → Int32) (q_undos : Nat) (q_models : Nat) (PGv : Nat → AM) (f_afterOf : Nat → Int32) (f_actMany : Nat → Int32) (f_actOf : Nat → Int32) (f_whom : Nat → Int32) (f_hasIf : Nat → Int32) (f_becomes : Nat → Int32) (f_goneOf : Nat → Int32) (q_taped : Nat) (cr : Nat → Int) (q_people : Nat) (f_secrets : Nat → Int32) (f_lanes : Nat → Int32) (f_lengths : Nat → Int32) (f_cells : Nat → Int32) (f_tokens : Nat → Int32) (f_afters : Nat → Int32) (f_caseMany : Nat → Int32) (f_happen : Nat → Int32) (f_heard : Nat → Int32) (wsZ : va_W), ST E hx hm tl ct pe kn ac np kc mN pV kV st sn sl scx tT ec er ed eT eb en q_undos q_models PGv f_afterOf f_actMany f_actOf f_whom f_hasIf f_becomes f_goneOf q_taped cr q_people f_secrets f_lanes f_lengths f_cells f_tokens f_afters f_caseMany f_happen f_heard wsZ → RL_ tl ct pe kn ac np kc mN pV kV st sn sl scx tT ec er ed eT eb en q_undos q_models PGv f_afterOf f_actMany f_actOf f_whom f_hasIf f_becomes f_goneOf q_taped cr q_people f_secrets f_lanes f_lengths f_cells f_tokens f_afters f_caseMany f_happen f_heard → WW X 4 E 1452 [(3, .int (nI i1)), (2, .ref hm), (1, .ref hx), (0, .ref bb)] [] wsZ (kC + 4) (nC + 73)) : WW X 4 E 1000 [(3, .int (nI i1)), (2, .ref hm), (1, .ref hx), (0, .ref bb)] [] ws kC nC := by
  obtain ⟨a0, ea0⟩ : ∃ z : Int32, xs (i1 + 1) = z := ⟨_, rfl⟩
  refine ww_aload_n C dL_law_1000 2 rfl rfl ?_
  refine ww_aload_n C dL_law_1001 3 rfl rfl ?_
  refine ww_iload_n C dL_law_1002 0 rfl rfl ?_
  refine ww_iconst (v := 1) C dL_law_1003 rfl ?_
  refine ww_iadd (v := (nI (i1 + 1))) C dL_law_1004 (nI_add i1 1) ?_
  refine ww_sld (v := a0) C hs (vp_in_nI (by omega) (by omega)) (ldn (by omega) ea0) dL_law_1005 ?_
  refine cx_stand C rfl ⟨by omega, by omega⟩ hS (fun r_1 mN_5 pV_6 ac_7 np_8 ws_2 hS_3 hE_4 => ?_)
  replace hE_4 := hd_mk hE_4
  refine ww_pop C dL_law_1009 rfl ?_
  refine ww_aload_n C dL_law_1010 1 rfl rfl ?_
  refine ww_aload_n C dL_law_1011 3 rfl rfl ?_
  refine ww_iload_n C dL_law_1012 0 rfl rfl ?_
  refine ww_iconst (v := 1) C dL_law_1013 rfl ?_
  refine ww_iadd (v := (nI (i1 + 1))) C dL_law_1014 (nI_add i1 1) ?_
  refine ww_sld (v := a0) C hs (vp_in_nI (by omega) (by omega)) (ldn (by omega) ea0) dL_law_1015 ?_
  refine my_stand C rfl ⟨by omega, by omega⟩ hS_3 (fun r_9 q_undos_13 PGv_14 ws_10 hS_11 hE_12 => ?_)
  replace hE_12 := hd_mk hE_12
  refine ww_pop C dL_law_1019 rfl ?_
  refine ww_goto (tgt := 1452) C dL_law_1020 (by decide) ?_
  exact ww_wid (by omega) (by omega) (kk tl ct pe kn ac_7 np_8 kc mN_5 pV_6 kV st sn sl scx tT ec er ed eT eb en q_undos_13 q_models PGv_14 f_afterOf f_actMany f_actOf f_whom f_hasIf f_becomes f_goneOf q_taped cr q_people f_secrets f_lanes f_lengths f_cells f_tokens f_afters f_caseMany f_happen f_heard _ hS_11 ⟨hR.1, hR.2.1, hR.2.2.1, hR.2.2.2.1, hR.2.2.2.2.1, hR.2.2.2.2.2.1, hR.2.2.2.2.2.2.1, hR.2.2.2.2.2.2.2.1, (re_stand hE_4 hE_12 hR (ST.tl hS)).1, (re_stand hE_4 hE_12 hR (ST.tl hS)).2, hR.2.2.2.2.2.2.2.2.2.2.1, hR.2.2.2.2.2.2.2.2.2.2.2⟩)
theorem dL_law_1023 : decode cL_law 1023 = .ok (.aload_n 1, 1) := by decide +kernel
theorem dL_law_1024 : decode cL_law 1024 = .ok (.aload_n 0, 1) := by decide +kernel
theorem dL_law_1025 : decode cL_law 1025 = .ok (.iload_n 3, 1) := by decide +kernel
theorem dL_law_1026 : decode cL_law 1026 = .ok (.iconst 1, 1) := by decide +kernel
theorem dL_law_1027 : decode cL_law 1027 = .ok (.iadd, 1) := by decide +kernel
theorem dL_law_1028 : decode cL_law 1028 = .ok (.iaload, 1) := by decide +kernel
theorem dL_law_1032 : decode cL_law 1032 = .ok (.pop, 1) := by decide +kernel
theorem dL_law_1033 : decode cL_law 1033 = .ok (.aload_n 2, 1) := by decide +kernel
theorem dL_law_1034 : decode cL_law 1034 = .ok (.aload_n 0, 1) := by decide +kernel
theorem dL_law_1035 : decode cL_law 1035 = .ok (.iload_n 3, 1) := by decide +kernel
theorem dL_law_1036 : decode cL_law 1036 = .ok (.iconst 1, 1) := by decide +kernel
theorem dL_law_1037 : decode cL_law 1037 = .ok (.iadd, 1) := by decide +kernel
theorem dL_law_1038 : decode cL_law 1038 = .ok (.iaload, 1) := by decide +kernel
theorem dL_law_1042 : decode cL_law 1042 = .ok (.pop, 1) := by decide +kernel
theorem dL_law_1043 : decode cL_law 1043 = .ok (.goto 409, 3) := by decide +kernel
set_option maxRecDepth 100000 in
set_option maxHeartbeats 4000000 in
theorem lawc_same {X : XT} {E : EV} {xs : Nat → Int32} {ws : va_W} {bb L hx hm i1 kC nC : Nat} {tl : Nat} {ct : Nat → Int} {pe : Nat} {kn : Int32} {ac : Nat} {np : Nat} {kc : Nat} {mN : AM} {pV : Nat → AM} {kV : Nat → AM} {st : Nat → Nat} {sn : Nat → Nat} {sl : Nat → Nat} {scx : Nat → Nat → Int32} {tT : Nat → Option SVal} {ec : Nat → Nat} {er : Nat → Nat} {ed : Nat → Nat → Int32} {eT : Nat → Nat → Option SVal} {eb : Nat → Nat → Int32} {en : Nat → Nat → Int32} {q_undos : Nat} {q_models : Nat} {PGv : Nat → AM} {f_afterOf : Nat → Int32} {f_actMany : Nat → Int32} {f_actOf : Nat → Int32} {f_whom : Nat → Int32} {f_hasIf : Nat → Int32} {f_becomes : Nat → Int32} {f_goneOf : Nat → Int32} {q_taped : Nat} {cr : Nat → Int} {q_people : Nat} {f_secrets : Nat → Int32} {f_lanes : Nat → Int32} {f_lengths : Nat → Int32} {f_cells : Nat → Int32} {f_tokens : Nat → Int32} {f_afters : Nat → Int32} {f_caseMany : Nat → Int32} {f_happen : Nat → Int32} {f_heard : Nat → Int32} (C : CX X room_1 cL_law 4 RL ret E) (hs : SX X bb L xs) (hi : i1 + 6 ≤ L) (hL : L ≤ 3072) (hk : kC + 4 ≤ 600000 ∧ nC + 73 ≤ 7302250) (hS : ST E hx hm tl ct pe kn ac np kc mN pV kV st sn sl scx tT ec er ed eT eb en q_undos q_models PGv f_afterOf f_actMany f_actOf f_whom f_hasIf f_becomes f_goneOf q_taped cr q_people f_secrets f_lanes f_lengths f_cells f_tokens f_afters f_caseMany f_happen f_heard ws) (hR : RL_ tl ct pe kn ac np kc mN pV kV st sn sl scx tT ec er ed eT eb en q_undos q_models PGv f_afterOf f_actMany f_actOf f_whom f_hasIf f_becomes f_goneOf q_taped cr q_people f_secrets f_lanes f_lengths f_cells f_tokens f_afters f_caseMany f_happen f_heard) (kk : ∀ (tl : Nat) (ct : Nat → Int) (pe : Nat) (kn : Int32) (ac : Nat) (np : Nat) (kc : Nat) (mN : AM) (pV : Nat → AM) (kV : Nat → AM) (st : Nat → Nat) (sn : Nat → Nat) (sl : Nat → Nat) (scx : Nat → Nat → Int32) (tT : Nat → Option SVal) (ec : Nat → Nat) (er : Nat → Nat) (ed : Nat → Nat → Int32) (eT : Nat → Nat → Option SVal) (eb : Nat → Nat → Int32) (en : Nat → Nat → Int32) (q_undos : Nat) (q_models : Nat) (PGv : Nat → AM) (f_afterOf : Nat → Int32) (f_actMany : Nat → Int32) (f_actOf : Nat → Int32) (f_whom : Nat → Int32) (f_hasIf : Nat → Int32) (f_becomes : Nat → Int32) (f_goneOf : Nat → Int32) (q_taped : Nat) (cr : Nat → Int) (q_people : Nat) (f_secrets : Nat → Int32) (f_lanes : Nat → Int32) (f_lengths : Nat → Int32) (f_cells : Nat → Int32) (f_tokens : Nat → Int32) (f_afters : Nat → Int32) (f_caseMany : Nat → Int32) (f_happen : Nat → Int32) (f_heard : Nat → Int32) (wsZ : va_W), ST E hx hm tl ct pe kn ac np kc mN pV kV st sn sl scx tT ec er ed eT eb en q_undos q_models PGv f_afterOf f_actMany f_actOf f_whom f_hasIf f_becomes f_goneOf q_taped cr q_people f_secrets f_lanes f_lengths f_cells f_tokens f_afters f_caseMany f_happen f_heard wsZ → RL_ tl ct pe kn ac np kc mN pV kV st sn sl scx tT ec er ed eT eb en q_undos q_models PGv f_afterOf f_actMany f_actOf f_whom f_hasIf f_becomes f_goneOf q_taped cr q_people f_secrets f_lanes f_lengths f_cells f_tokens f_afters f_caseMany f_happen f_heard → WW X 4 E 1452 [(3, .int (nI i1)), (2, .ref hm), (1, .ref hx), (0, .ref bb)] [] wsZ (kC + 4) (nC + 73)) : WW X 4 E 1023 [(3, .int (nI i1)), (2, .ref hm), (1, .ref hx), (0, .ref bb)] [] ws kC nC := by
  obtain ⟨a0, ea0⟩ : ∃ z : Int32, xs (i1 + 1) = z := ⟨_, rfl⟩
  refine ww_aload_n C dL_law_1023 2 rfl rfl ?_
  refine ww_aload_n C dL_law_1024 3 rfl rfl ?_
  refine ww_iload_n C dL_law_1025 0 rfl rfl ?_
  refine ww_iconst (v := 1) C dL_law_1026 rfl ?_
  refine ww_iadd (v := (nI (i1 + 1))) C dL_law_1027 (nI_add i1 1) ?_
  refine ww_sld (v := a0) C hs (vp_in_nI (by omega) (by omega)) (ldn (by omega) ea0) dL_law_1028 ?_
  refine cx_same C rfl ⟨by omega, by omega⟩ hS (fun r_1 ws_2 hS_3 hE_4 => ?_)
  replace hE_4 := hd_mk hE_4
  refine ww_pop C dL_law_1032 rfl ?_
  refine ww_aload_n C dL_law_1033 1 rfl rfl ?_
  refine ww_aload_n C dL_law_1034 3 rfl rfl ?_
  refine ww_iload_n C dL_law_1035 0 rfl rfl ?_
  refine ww_iconst (v := 1) C dL_law_1036 rfl ?_
  refine ww_iadd (v := (nI (i1 + 1))) C dL_law_1037 (nI_add i1 1) ?_
  refine ww_sld (v := a0) C hs (vp_in_nI (by omega) (by omega)) (ldn (by omega) ea0) dL_law_1038 ?_
  refine my_same C rfl ⟨by omega, by omega⟩ hS_3 (KEQ.n hR.2.2.2.2.2.2.2.2.2.1) (fun r_5 ws_6 hS_7 hE_8 => ?_)
  replace hE_8 := hd_mk hE_8
  refine ww_pop C dL_law_1042 rfl ?_
  refine ww_goto (tgt := 1452) C dL_law_1043 (by decide) ?_
  exact ww_wid (by omega) (by omega) (kk tl ct pe kn ac np kc mN pV kV st sn sl scx tT ec er ed eT eb en q_undos q_models PGv f_afterOf f_actMany f_actOf f_whom f_hasIf f_becomes f_goneOf q_taped cr q_people f_secrets f_lanes f_lengths f_cells f_tokens f_afters f_caseMany f_happen f_heard _ hS_7 hR)
theorem dL_law_1046 : decode cL_law 1046 = .ok (.aload_n 1, 1) := by decide +kernel
theorem dL_law_1047 : decode cL_law 1047 = .ok (.aload_n 0, 1) := by decide +kernel
theorem dL_law_1048 : decode cL_law 1048 = .ok (.iload_n 3, 1) := by decide +kernel
theorem dL_law_1049 : decode cL_law 1049 = .ok (.iconst 1, 1) := by decide +kernel
theorem dL_law_1050 : decode cL_law 1050 = .ok (.iadd, 1) := by decide +kernel
theorem dL_law_1051 : decode cL_law 1051 = .ok (.iaload, 1) := by decide +kernel
theorem dL_law_1052 : decode cL_law 1052 = .ok (.aload_n 0, 1) := by decide +kernel
theorem dL_law_1053 : decode cL_law 1053 = .ok (.iload_n 3, 1) := by decide +kernel
theorem dL_law_1054 : decode cL_law 1054 = .ok (.iconst 2, 1) := by decide +kernel
theorem dL_law_1055 : decode cL_law 1055 = .ok (.iadd, 1) := by decide +kernel
theorem dL_law_1056 : decode cL_law 1056 = .ok (.iaload, 1) := by decide +kernel
theorem dL_law_1060 : decode cL_law 1060 = .ok (.pop, 1) := by decide +kernel
theorem dL_law_1061 : decode cL_law 1061 = .ok (.aload_n 2, 1) := by decide +kernel
theorem dL_law_1062 : decode cL_law 1062 = .ok (.aload_n 0, 1) := by decide +kernel
theorem dL_law_1063 : decode cL_law 1063 = .ok (.iload_n 3, 1) := by decide +kernel
theorem dL_law_1064 : decode cL_law 1064 = .ok (.iconst 1, 1) := by decide +kernel
theorem dL_law_1065 : decode cL_law 1065 = .ok (.iadd, 1) := by decide +kernel
theorem dL_law_1066 : decode cL_law 1066 = .ok (.iaload, 1) := by decide +kernel
theorem dL_law_1067 : decode cL_law 1067 = .ok (.aload_n 0, 1) := by decide +kernel
theorem dL_law_1068 : decode cL_law 1068 = .ok (.iload_n 3, 1) := by decide +kernel
theorem dL_law_1069 : decode cL_law 1069 = .ok (.iconst 2, 1) := by decide +kernel
theorem dL_law_1070 : decode cL_law 1070 = .ok (.iadd, 1) := by decide +kernel
theorem dL_law_1071 : decode cL_law 1071 = .ok (.iaload, 1) := by decide +kernel
theorem dL_law_1075 : decode cL_law 1075 = .ok (.pop, 1) := by decide +kernel
theorem dL_law_1076 : decode cL_law 1076 = .ok (.goto 376, 3) := by decide +kernel
set_option maxRecDepth 100000 in
set_option maxHeartbeats 4000000 in
theorem lawc_turn {X : XT} {E : EV} {xs : Nat → Int32} {ws : va_W} {bb L hx hm i1 kC nC : Nat} {tl : Nat} {ct : Nat → Int} {pe : Nat} {kn : Int32} {ac : Nat} {np : Nat} {kc : Nat} {mN : AM} {pV : Nat → AM} {kV : Nat → AM} {st : Nat → Nat} {sn : Nat → Nat} {sl : Nat → Nat} {scx : Nat → Nat → Int32} {tT : Nat → Option SVal} {ec : Nat → Nat} {er : Nat → Nat} {ed : Nat → Nat → Int32} {eT : Nat → Nat → Option SVal} {eb : Nat → Nat → Int32} {en : Nat → Nat → Int32} {q_undos : Nat} {q_models : Nat} {PGv : Nat → AM} {f_afterOf : Nat → Int32} {f_actMany : Nat → Int32} {f_actOf : Nat → Int32} {f_whom : Nat → Int32} {f_hasIf : Nat → Int32} {f_becomes : Nat → Int32} {f_goneOf : Nat → Int32} {q_taped : Nat} {cr : Nat → Int} {q_people : Nat} {f_secrets : Nat → Int32} {f_lanes : Nat → Int32} {f_lengths : Nat → Int32} {f_cells : Nat → Int32} {f_tokens : Nat → Int32} {f_afters : Nat → Int32} {f_caseMany : Nat → Int32} {f_happen : Nat → Int32} {f_heard : Nat → Int32} (C : CX X room_1 cL_law 4 RL ret E) (hs : SX X bb L xs) (hi : i1 + 6 ≤ L) (hL : L ≤ 3072) (hk : kC + 4 ≤ 600000 ∧ nC + 73 ≤ 7302250) (hS : ST E hx hm tl ct pe kn ac np kc mN pV kV st sn sl scx tT ec er ed eT eb en q_undos q_models PGv f_afterOf f_actMany f_actOf f_whom f_hasIf f_becomes f_goneOf q_taped cr q_people f_secrets f_lanes f_lengths f_cells f_tokens f_afters f_caseMany f_happen f_heard ws) (hR : RL_ tl ct pe kn ac np kc mN pV kV st sn sl scx tT ec er ed eT eb en q_undos q_models PGv f_afterOf f_actMany f_actOf f_whom f_hasIf f_becomes f_goneOf q_taped cr q_people f_secrets f_lanes f_lengths f_cells f_tokens f_afters f_caseMany f_happen f_heard) (kk : ∀ (tl : Nat) (ct : Nat → Int) (pe : Nat) (kn : Int32) (ac : Nat) (np : Nat) (kc : Nat) (mN : AM) (pV : Nat → AM) (kV : Nat → AM) (st : Nat → Nat) (sn : Nat → Nat) (sl : Nat → Nat) (scx : Nat → Nat → Int32) (tT : Nat → Option SVal) (ec : Nat → Nat) (er : Nat → Nat) (ed : Nat → Nat → Int32) (eT : Nat → Nat → Option SVal) (eb : Nat → Nat → Int32) (en : Nat → Nat → Int32) (q_undos : Nat) (q_models : Nat) (PGv : Nat → AM) (f_afterOf : Nat → Int32) (f_actMany : Nat → Int32) (f_actOf : Nat → Int32) (f_whom : Nat → Int32) (f_hasIf : Nat → Int32) (f_becomes : Nat → Int32) (f_goneOf : Nat → Int32) (q_taped : Nat) (cr : Nat → Int) (q_people : Nat) (f_secrets : Nat → Int32) (f_lanes : Nat → Int32) (f_lengths : Nat → Int32) (f_cells : Nat → Int32) (f_tokens : Nat → Int32) (f_afters : Nat → Int32) (f_caseMany : Nat → Int32) (f_happen : Nat → Int32) (f_heard : Nat → Int32) (wsZ : va_W), ST E hx hm tl ct pe kn ac np kc mN pV kV st sn sl scx tT ec er ed eT eb en q_undos q_models PGv f_afterOf f_actMany f_actOf f_whom f_hasIf f_becomes f_goneOf q_taped cr q_people f_secrets f_lanes f_lengths f_cells f_tokens f_afters f_caseMany f_happen f_heard wsZ → RL_ tl ct pe kn ac np kc mN pV kV st sn sl scx tT ec er ed eT eb en q_undos q_models PGv f_afterOf f_actMany f_actOf f_whom f_hasIf f_becomes f_goneOf q_taped cr q_people f_secrets f_lanes f_lengths f_cells f_tokens f_afters f_caseMany f_happen f_heard → WW X 4 E 1452 [(3, .int (nI i1)), (2, .ref hm), (1, .ref hx), (0, .ref bb)] [] wsZ (kC + 4) (nC + 73)) : WW X 4 E 1046 [(3, .int (nI i1)), (2, .ref hm), (1, .ref hx), (0, .ref bb)] [] ws kC nC := by
  obtain ⟨a0, ea0⟩ : ∃ z : Int32, xs (i1 + 1) = z := ⟨_, rfl⟩
  obtain ⟨a1, ea1⟩ : ∃ z : Int32, xs (i1 + 2) = z := ⟨_, rfl⟩
  refine ww_aload_n C dL_law_1046 2 rfl rfl ?_
  refine ww_aload_n C dL_law_1047 3 rfl rfl ?_
  refine ww_iload_n C dL_law_1048 0 rfl rfl ?_
  refine ww_iconst (v := 1) C dL_law_1049 rfl ?_
  refine ww_iadd (v := (nI (i1 + 1))) C dL_law_1050 (nI_add i1 1) ?_
  refine ww_sld (v := a0) C hs (vp_in_nI (by omega) (by omega)) (ldn (by omega) ea0) dL_law_1051 ?_
  refine ww_aload_n C dL_law_1052 3 rfl rfl ?_
  refine ww_iload_n C dL_law_1053 0 rfl rfl ?_
  refine ww_iconst (v := 2) C dL_law_1054 rfl ?_
  refine ww_iadd (v := (nI (i1 + 2))) C dL_law_1055 (nI_add i1 2) ?_
  refine ww_sld (v := a1) C hs (vp_in_nI (by omega) (by omega)) (ldn (by omega) ea1) dL_law_1056 ?_
  refine cx_turn C rfl ⟨by omega, by omega⟩ hS (fun r_1 mN_5 pV_6 ac_7 np_8 ws_2 hS_3 hE_4 => ?_)
  replace hE_4 := hd_mk hE_4
  refine ww_pop C dL_law_1060 rfl ?_
  refine ww_aload_n C dL_law_1061 1 rfl rfl ?_
  refine ww_aload_n C dL_law_1062 3 rfl rfl ?_
  refine ww_iload_n C dL_law_1063 0 rfl rfl ?_
  refine ww_iconst (v := 1) C dL_law_1064 rfl ?_
  refine ww_iadd (v := (nI (i1 + 1))) C dL_law_1065 (nI_add i1 1) ?_
  refine ww_sld (v := a0) C hs (vp_in_nI (by omega) (by omega)) (ldn (by omega) ea0) dL_law_1066 ?_
  refine ww_aload_n C dL_law_1067 3 rfl rfl ?_
  refine ww_iload_n C dL_law_1068 0 rfl rfl ?_
  refine ww_iconst (v := 2) C dL_law_1069 rfl ?_
  refine ww_iadd (v := (nI (i1 + 2))) C dL_law_1070 (nI_add i1 2) ?_
  refine ww_sld (v := a1) C hs (vp_in_nI (by omega) (by omega)) (ldn (by omega) ea1) dL_law_1071 ?_
  refine my_turn C rfl ⟨by omega, by omega⟩ hS_3 (IVQ.whi hR.2.2.2.2.2.2.2.2.2.2.2) (TVQ.wht hR.2.2.2.2.2.2.2.2.2.2.1) (fun r_9 q_undos_13 PGv_14 ws_10 hS_11 hE_12 => ?_)
  replace hE_12 := hd_mk hE_12
  refine ww_pop C dL_law_1075 rfl ?_
  refine ww_goto (tgt := 1452) C dL_law_1076 (by decide) ?_
  exact ww_wid (by omega) (by omega) (kk tl ct pe kn ac_7 np_8 kc mN_5 pV_6 kV st sn sl scx tT ec er ed eT eb en q_undos_13 q_models PGv_14 f_afterOf f_actMany f_actOf f_whom f_hasIf f_becomes f_goneOf q_taped cr q_people f_secrets f_lanes f_lengths f_cells f_tokens f_afters f_caseMany f_happen f_heard _ hS_11 ⟨hR.1, hR.2.1, hR.2.2.1, hR.2.2.2.1, hR.2.2.2.2.1, hR.2.2.2.2.2.1, hR.2.2.2.2.2.2.1, hR.2.2.2.2.2.2.2.1, (re_turn hE_4 hE_12 hR (ST.tl hS)).1, (re_turn hE_4 hE_12 hR (ST.tl hS)).2, hR.2.2.2.2.2.2.2.2.2.2.1, hR.2.2.2.2.2.2.2.2.2.2.2⟩)
theorem dL_law_1079 : decode cL_law 1079 = .ok (.aload_n 1, 1) := by decide +kernel
theorem dL_law_1080 : decode cL_law 1080 = .ok (.aload_n 0, 1) := by decide +kernel
theorem dL_law_1081 : decode cL_law 1081 = .ok (.iload_n 3, 1) := by decide +kernel
theorem dL_law_1082 : decode cL_law 1082 = .ok (.iconst 1, 1) := by decide +kernel
theorem dL_law_1083 : decode cL_law 1083 = .ok (.iadd, 1) := by decide +kernel
theorem dL_law_1084 : decode cL_law 1084 = .ok (.iaload, 1) := by decide +kernel
theorem dL_law_1085 : decode cL_law 1085 = .ok (.aload_n 0, 1) := by decide +kernel
theorem dL_law_1086 : decode cL_law 1086 = .ok (.iload_n 3, 1) := by decide +kernel
theorem dL_law_1087 : decode cL_law 1087 = .ok (.iconst 2, 1) := by decide +kernel
theorem dL_law_1088 : decode cL_law 1088 = .ok (.iadd, 1) := by decide +kernel
theorem dL_law_1089 : decode cL_law 1089 = .ok (.iaload, 1) := by decide +kernel
theorem dL_law_1090 : decode cL_law 1090 = .ok (.aload_n 0, 1) := by decide +kernel
theorem dL_law_1091 : decode cL_law 1091 = .ok (.iload_n 3, 1) := by decide +kernel
theorem dL_law_1092 : decode cL_law 1092 = .ok (.iconst 3, 1) := by decide +kernel
theorem dL_law_1093 : decode cL_law 1093 = .ok (.iadd, 1) := by decide +kernel
theorem dL_law_1094 : decode cL_law 1094 = .ok (.iaload, 1) := by decide +kernel
theorem dL_law_1098 : decode cL_law 1098 = .ok (.pop, 1) := by decide +kernel
theorem dL_law_1099 : decode cL_law 1099 = .ok (.aload_n 2, 1) := by decide +kernel
theorem dL_law_1100 : decode cL_law 1100 = .ok (.aload_n 0, 1) := by decide +kernel
theorem dL_law_1101 : decode cL_law 1101 = .ok (.iload_n 3, 1) := by decide +kernel
theorem dL_law_1102 : decode cL_law 1102 = .ok (.iconst 1, 1) := by decide +kernel
theorem dL_law_1103 : decode cL_law 1103 = .ok (.iadd, 1) := by decide +kernel
theorem dL_law_1104 : decode cL_law 1104 = .ok (.iaload, 1) := by decide +kernel
theorem dL_law_1105 : decode cL_law 1105 = .ok (.aload_n 0, 1) := by decide +kernel
theorem dL_law_1106 : decode cL_law 1106 = .ok (.iload_n 3, 1) := by decide +kernel
theorem dL_law_1107 : decode cL_law 1107 = .ok (.iconst 2, 1) := by decide +kernel
theorem dL_law_1108 : decode cL_law 1108 = .ok (.iadd, 1) := by decide +kernel
theorem dL_law_1109 : decode cL_law 1109 = .ok (.iaload, 1) := by decide +kernel
theorem dL_law_1110 : decode cL_law 1110 = .ok (.aload_n 0, 1) := by decide +kernel
theorem dL_law_1111 : decode cL_law 1111 = .ok (.iload_n 3, 1) := by decide +kernel
theorem dL_law_1112 : decode cL_law 1112 = .ok (.iconst 3, 1) := by decide +kernel
theorem dL_law_1113 : decode cL_law 1113 = .ok (.iadd, 1) := by decide +kernel
theorem dL_law_1114 : decode cL_law 1114 = .ok (.iaload, 1) := by decide +kernel
theorem dL_law_1118 : decode cL_law 1118 = .ok (.pop, 1) := by decide +kernel
theorem dL_law_1119 : decode cL_law 1119 = .ok (.goto 333, 3) := by decide +kernel
set_option maxRecDepth 100000 in
set_option maxHeartbeats 4000000 in
theorem lawc_turns {X : XT} {E : EV} {xs : Nat → Int32} {ws : va_W} {bb L hx hm i1 kC nC : Nat} {tl : Nat} {ct : Nat → Int} {pe : Nat} {kn : Int32} {ac : Nat} {np : Nat} {kc : Nat} {mN : AM} {pV : Nat → AM} {kV : Nat → AM} {st : Nat → Nat} {sn : Nat → Nat} {sl : Nat → Nat} {scx : Nat → Nat → Int32} {tT : Nat → Option SVal} {ec : Nat → Nat} {er : Nat → Nat} {ed : Nat → Nat → Int32} {eT : Nat → Nat → Option SVal} {eb : Nat → Nat → Int32} {en : Nat → Nat → Int32} {q_undos : Nat} {q_models : Nat} {PGv : Nat → AM} {f_afterOf : Nat → Int32} {f_actMany : Nat → Int32} {f_actOf : Nat → Int32} {f_whom : Nat → Int32} {f_hasIf : Nat → Int32} {f_becomes : Nat → Int32} {f_goneOf : Nat → Int32} {q_taped : Nat} {cr : Nat → Int} {q_people : Nat} {f_secrets : Nat → Int32} {f_lanes : Nat → Int32} {f_lengths : Nat → Int32} {f_cells : Nat → Int32} {f_tokens : Nat → Int32} {f_afters : Nat → Int32} {f_caseMany : Nat → Int32} {f_happen : Nat → Int32} {f_heard : Nat → Int32} (C : CX X room_1 cL_law 4 RL ret E) (hs : SX X bb L xs) (hi : i1 + 6 ≤ L) (hL : L ≤ 3072) (hk : kC + 4 ≤ 600000 ∧ nC + 73 ≤ 7302250) (hS : ST E hx hm tl ct pe kn ac np kc mN pV kV st sn sl scx tT ec er ed eT eb en q_undos q_models PGv f_afterOf f_actMany f_actOf f_whom f_hasIf f_becomes f_goneOf q_taped cr q_people f_secrets f_lanes f_lengths f_cells f_tokens f_afters f_caseMany f_happen f_heard ws) (hR : RL_ tl ct pe kn ac np kc mN pV kV st sn sl scx tT ec er ed eT eb en q_undos q_models PGv f_afterOf f_actMany f_actOf f_whom f_hasIf f_becomes f_goneOf q_taped cr q_people f_secrets f_lanes f_lengths f_cells f_tokens f_afters f_caseMany f_happen f_heard) (kk : ∀ (tl : Nat) (ct : Nat → Int) (pe : Nat) (kn : Int32) (ac : Nat) (np : Nat) (kc : Nat) (mN : AM) (pV : Nat → AM) (kV : Nat → AM) (st : Nat → Nat) (sn : Nat → Nat) (sl : Nat → Nat) (scx : Nat → Nat → Int32) (tT : Nat → Option SVal) (ec : Nat → Nat) (er : Nat → Nat) (ed : Nat → Nat → Int32) (eT : Nat → Nat → Option SVal) (eb : Nat → Nat → Int32) (en : Nat → Nat → Int32) (q_undos : Nat) (q_models : Nat) (PGv : Nat → AM) (f_afterOf : Nat → Int32) (f_actMany : Nat → Int32) (f_actOf : Nat → Int32) (f_whom : Nat → Int32) (f_hasIf : Nat → Int32) (f_becomes : Nat → Int32) (f_goneOf : Nat → Int32) (q_taped : Nat) (cr : Nat → Int) (q_people : Nat) (f_secrets : Nat → Int32) (f_lanes : Nat → Int32) (f_lengths : Nat → Int32) (f_cells : Nat → Int32) (f_tokens : Nat → Int32) (f_afters : Nat → Int32) (f_caseMany : Nat → Int32) (f_happen : Nat → Int32) (f_heard : Nat → Int32) (wsZ : va_W), ST E hx hm tl ct pe kn ac np kc mN pV kV st sn sl scx tT ec er ed eT eb en q_undos q_models PGv f_afterOf f_actMany f_actOf f_whom f_hasIf f_becomes f_goneOf q_taped cr q_people f_secrets f_lanes f_lengths f_cells f_tokens f_afters f_caseMany f_happen f_heard wsZ → RL_ tl ct pe kn ac np kc mN pV kV st sn sl scx tT ec er ed eT eb en q_undos q_models PGv f_afterOf f_actMany f_actOf f_whom f_hasIf f_becomes f_goneOf q_taped cr q_people f_secrets f_lanes f_lengths f_cells f_tokens f_afters f_caseMany f_happen f_heard → WW X 4 E 1452 [(3, .int (nI i1)), (2, .ref hm), (1, .ref hx), (0, .ref bb)] [] wsZ (kC + 4) (nC + 73)) : WW X 4 E 1079 [(3, .int (nI i1)), (2, .ref hm), (1, .ref hx), (0, .ref bb)] [] ws kC nC := by
  obtain ⟨a0, ea0⟩ : ∃ z : Int32, xs (i1 + 1) = z := ⟨_, rfl⟩
  obtain ⟨a1, ea1⟩ : ∃ z : Int32, xs (i1 + 2) = z := ⟨_, rfl⟩
  obtain ⟨a2, ea2⟩ : ∃ z : Int32, xs (i1 + 3) = z := ⟨_, rfl⟩
  refine ww_aload_n C dL_law_1079 2 rfl rfl ?_
  refine ww_aload_n C dL_law_1080 3 rfl rfl ?_
  refine ww_iload_n C dL_law_1081 0 rfl rfl ?_
  refine ww_iconst (v := 1) C dL_law_1082 rfl ?_
  refine ww_iadd (v := (nI (i1 + 1))) C dL_law_1083 (nI_add i1 1) ?_
  refine ww_sld (v := a0) C hs (vp_in_nI (by omega) (by omega)) (ldn (by omega) ea0) dL_law_1084 ?_
  refine ww_aload_n C dL_law_1085 3 rfl rfl ?_
  refine ww_iload_n C dL_law_1086 0 rfl rfl ?_
  refine ww_iconst (v := 2) C dL_law_1087 rfl ?_
  refine ww_iadd (v := (nI (i1 + 2))) C dL_law_1088 (nI_add i1 2) ?_
  refine ww_sld (v := a1) C hs (vp_in_nI (by omega) (by omega)) (ldn (by omega) ea1) dL_law_1089 ?_
  refine ww_aload_n C dL_law_1090 3 rfl rfl ?_
  refine ww_iload_n C dL_law_1091 0 rfl rfl ?_
  refine ww_iconst (v := 3) C dL_law_1092 rfl ?_
  refine ww_iadd (v := (nI (i1 + 3))) C dL_law_1093 (nI_add i1 3) ?_
  refine ww_sld (v := a2) C hs (vp_in_nI (by omega) (by omega)) (ldn (by omega) ea2) dL_law_1094 ?_
  refine cx_turns C rfl ⟨by omega, by omega⟩ hS (fun r_1 ws_2 hS_3 hE_4 => ?_)
  replace hE_4 := hd_mk hE_4
  refine ww_pop C dL_law_1098 rfl ?_
  refine ww_aload_n C dL_law_1099 1 rfl rfl ?_
  refine ww_aload_n C dL_law_1100 3 rfl rfl ?_
  refine ww_iload_n C dL_law_1101 0 rfl rfl ?_
  refine ww_iconst (v := 1) C dL_law_1102 rfl ?_
  refine ww_iadd (v := (nI (i1 + 1))) C dL_law_1103 (nI_add i1 1) ?_
  refine ww_sld (v := a0) C hs (vp_in_nI (by omega) (by omega)) (ldn (by omega) ea0) dL_law_1104 ?_
  refine ww_aload_n C dL_law_1105 3 rfl rfl ?_
  refine ww_iload_n C dL_law_1106 0 rfl rfl ?_
  refine ww_iconst (v := 2) C dL_law_1107 rfl ?_
  refine ww_iadd (v := (nI (i1 + 2))) C dL_law_1108 (nI_add i1 2) ?_
  refine ww_sld (v := a1) C hs (vp_in_nI (by omega) (by omega)) (ldn (by omega) ea1) dL_law_1109 ?_
  refine ww_aload_n C dL_law_1110 3 rfl rfl ?_
  refine ww_iload_n C dL_law_1111 0 rfl rfl ?_
  refine ww_iconst (v := 3) C dL_law_1112 rfl ?_
  refine ww_iadd (v := (nI (i1 + 3))) C dL_law_1113 (nI_add i1 3) ?_
  refine ww_sld (v := a2) C hs (vp_in_nI (by omega) (by omega)) (ldn (by omega) ea2) dL_law_1114 ?_
  refine my_turns C rfl ⟨by omega, by omega⟩ hS_3 (IVQ.whi hR.2.2.2.2.2.2.2.2.2.2.2) (TVQ.wht hR.2.2.2.2.2.2.2.2.2.2.1) (fun r_5 PGv_9 ws_6 hS_7 hE_8 => ?_)
  replace hE_8 := hd_mk hE_8
  refine ww_pop C dL_law_1118 rfl ?_
  refine ww_goto (tgt := 1452) C dL_law_1119 (by decide) ?_
  exact ww_wid (by omega) (by omega) (kk tl ct pe kn ac np kc mN pV kV st sn sl scx tT ec er ed eT eb en q_undos q_models PGv_9 f_afterOf f_actMany f_actOf f_whom f_hasIf f_becomes f_goneOf q_taped cr q_people f_secrets f_lanes f_lengths f_cells f_tokens f_afters f_caseMany f_happen f_heard _ hS_7 ⟨hR.1, hR.2.1, hR.2.2.1, hR.2.2.2.1, hR.2.2.2.2.1, hR.2.2.2.2.2.1, hR.2.2.2.2.2.2.1, hR.2.2.2.2.2.2.2.1, (re_turns hE_4 hE_8 hR (ST.tl hS)).1, (re_turns hE_4 hE_8 hR (ST.tl hS)).2, hR.2.2.2.2.2.2.2.2.2.2.1, hR.2.2.2.2.2.2.2.2.2.2.2⟩)
theorem dL_law_1122 : decode cL_law 1122 = .ok (.aload_n 1, 1) := by decide +kernel
theorem dL_law_1123 : decode cL_law 1123 = .ok (.aload_n 0, 1) := by decide +kernel
theorem dL_law_1124 : decode cL_law 1124 = .ok (.iload_n 3, 1) := by decide +kernel
theorem dL_law_1125 : decode cL_law 1125 = .ok (.iconst 1, 1) := by decide +kernel
theorem dL_law_1126 : decode cL_law 1126 = .ok (.iadd, 1) := by decide +kernel
theorem dL_law_1127 : decode cL_law 1127 = .ok (.iaload, 1) := by decide +kernel
theorem dL_law_1128 : decode cL_law 1128 = .ok (.aload_n 0, 1) := by decide +kernel
theorem dL_law_1129 : decode cL_law 1129 = .ok (.iload_n 3, 1) := by decide +kernel
theorem dL_law_1130 : decode cL_law 1130 = .ok (.iconst 2, 1) := by decide +kernel
theorem dL_law_1131 : decode cL_law 1131 = .ok (.iadd, 1) := by decide +kernel
theorem dL_law_1132 : decode cL_law 1132 = .ok (.iaload, 1) := by decide +kernel
theorem dL_law_1133 : decode cL_law 1133 = .ok (.aload_n 0, 1) := by decide +kernel
theorem dL_law_1134 : decode cL_law 1134 = .ok (.iload_n 3, 1) := by decide +kernel
theorem dL_law_1135 : decode cL_law 1135 = .ok (.iconst 3, 1) := by decide +kernel
theorem dL_law_1136 : decode cL_law 1136 = .ok (.iadd, 1) := by decide +kernel
theorem dL_law_1137 : decode cL_law 1137 = .ok (.iaload, 1) := by decide +kernel
theorem dL_law_1138 : decode cL_law 1138 = .ok (.aload_n 0, 1) := by decide +kernel
theorem dL_law_1139 : decode cL_law 1139 = .ok (.iload_n 3, 1) := by decide +kernel
theorem dL_law_1140 : decode cL_law 1140 = .ok (.iconst 4, 1) := by decide +kernel
theorem dL_law_1141 : decode cL_law 1141 = .ok (.iadd, 1) := by decide +kernel
theorem dL_law_1142 : decode cL_law 1142 = .ok (.iaload, 1) := by decide +kernel
theorem dL_law_1146 : decode cL_law 1146 = .ok (.pop, 1) := by decide +kernel
theorem dL_law_1147 : decode cL_law 1147 = .ok (.aload_n 2, 1) := by decide +kernel
theorem dL_law_1148 : decode cL_law 1148 = .ok (.aload_n 0, 1) := by decide +kernel
theorem dL_law_1149 : decode cL_law 1149 = .ok (.iload_n 3, 1) := by decide +kernel
theorem dL_law_1150 : decode cL_law 1150 = .ok (.iconst 1, 1) := by decide +kernel
theorem dL_law_1151 : decode cL_law 1151 = .ok (.iadd, 1) := by decide +kernel
theorem dL_law_1152 : decode cL_law 1152 = .ok (.iaload, 1) := by decide +kernel
theorem dL_law_1153 : decode cL_law 1153 = .ok (.aload_n 0, 1) := by decide +kernel
theorem dL_law_1154 : decode cL_law 1154 = .ok (.iload_n 3, 1) := by decide +kernel
theorem dL_law_1155 : decode cL_law 1155 = .ok (.iconst 2, 1) := by decide +kernel
theorem dL_law_1156 : decode cL_law 1156 = .ok (.iadd, 1) := by decide +kernel
theorem dL_law_1157 : decode cL_law 1157 = .ok (.iaload, 1) := by decide +kernel
theorem dL_law_1158 : decode cL_law 1158 = .ok (.aload_n 0, 1) := by decide +kernel
theorem dL_law_1159 : decode cL_law 1159 = .ok (.iload_n 3, 1) := by decide +kernel
theorem dL_law_1160 : decode cL_law 1160 = .ok (.iconst 3, 1) := by decide +kernel
theorem dL_law_1161 : decode cL_law 1161 = .ok (.iadd, 1) := by decide +kernel
theorem dL_law_1162 : decode cL_law 1162 = .ok (.iaload, 1) := by decide +kernel
theorem dL_law_1163 : decode cL_law 1163 = .ok (.aload_n 0, 1) := by decide +kernel
theorem dL_law_1164 : decode cL_law 1164 = .ok (.iload_n 3, 1) := by decide +kernel
theorem dL_law_1165 : decode cL_law 1165 = .ok (.iconst 4, 1) := by decide +kernel
theorem dL_law_1166 : decode cL_law 1166 = .ok (.iadd, 1) := by decide +kernel
theorem dL_law_1167 : decode cL_law 1167 = .ok (.iaload, 1) := by decide +kernel
theorem dL_law_1171 : decode cL_law 1171 = .ok (.pop, 1) := by decide +kernel
theorem dL_law_1172 : decode cL_law 1172 = .ok (.goto 280, 3) := by decide +kernel
set_option maxRecDepth 100000 in
set_option maxHeartbeats 4000000 in
theorem lawc_plan {X : XT} {E : EV} {xs : Nat → Int32} {ws : va_W} {bb L hx hm i1 kC nC : Nat} {tl : Nat} {ct : Nat → Int} {pe : Nat} {kn : Int32} {ac : Nat} {np : Nat} {kc : Nat} {mN : AM} {pV : Nat → AM} {kV : Nat → AM} {st : Nat → Nat} {sn : Nat → Nat} {sl : Nat → Nat} {scx : Nat → Nat → Int32} {tT : Nat → Option SVal} {ec : Nat → Nat} {er : Nat → Nat} {ed : Nat → Nat → Int32} {eT : Nat → Nat → Option SVal} {eb : Nat → Nat → Int32} {en : Nat → Nat → Int32} {q_undos : Nat} {q_models : Nat} {PGv : Nat → AM} {f_afterOf : Nat → Int32} {f_actMany : Nat → Int32} {f_actOf : Nat → Int32} {f_whom : Nat → Int32} {f_hasIf : Nat → Int32} {f_becomes : Nat → Int32} {f_goneOf : Nat → Int32} {q_taped : Nat} {cr : Nat → Int} {q_people : Nat} {f_secrets : Nat → Int32} {f_lanes : Nat → Int32} {f_lengths : Nat → Int32} {f_cells : Nat → Int32} {f_tokens : Nat → Int32} {f_afters : Nat → Int32} {f_caseMany : Nat → Int32} {f_happen : Nat → Int32} {f_heard : Nat → Int32} (C : CX X room_1 cL_law 4 RL ret E) (hs : SX X bb L xs) (hi : i1 + 6 ≤ L) (hL : L ≤ 3072) (hk : kC + 4 ≤ 600000 ∧ nC + 73 ≤ 7302250) (hS : ST E hx hm tl ct pe kn ac np kc mN pV kV st sn sl scx tT ec er ed eT eb en q_undos q_models PGv f_afterOf f_actMany f_actOf f_whom f_hasIf f_becomes f_goneOf q_taped cr q_people f_secrets f_lanes f_lengths f_cells f_tokens f_afters f_caseMany f_happen f_heard ws) (hR : RL_ tl ct pe kn ac np kc mN pV kV st sn sl scx tT ec er ed eT eb en q_undos q_models PGv f_afterOf f_actMany f_actOf f_whom f_hasIf f_becomes f_goneOf q_taped cr q_people f_secrets f_lanes f_lengths f_cells f_tokens f_afters f_caseMany f_happen f_heard) (kk : ∀ (tl : Nat) (ct : Nat → Int) (pe : Nat) (kn : Int32) (ac : Nat) (np : Nat) (kc : Nat) (mN : AM) (pV : Nat → AM) (kV : Nat → AM) (st : Nat → Nat) (sn : Nat → Nat) (sl : Nat → Nat) (scx : Nat → Nat → Int32) (tT : Nat → Option SVal) (ec : Nat → Nat) (er : Nat → Nat) (ed : Nat → Nat → Int32) (eT : Nat → Nat → Option SVal) (eb : Nat → Nat → Int32) (en : Nat → Nat → Int32) (q_undos : Nat) (q_models : Nat) (PGv : Nat → AM) (f_afterOf : Nat → Int32) (f_actMany : Nat → Int32) (f_actOf : Nat → Int32) (f_whom : Nat → Int32) (f_hasIf : Nat → Int32) (f_becomes : Nat → Int32) (f_goneOf : Nat → Int32) (q_taped : Nat) (cr : Nat → Int) (q_people : Nat) (f_secrets : Nat → Int32) (f_lanes : Nat → Int32) (f_lengths : Nat → Int32) (f_cells : Nat → Int32) (f_tokens : Nat → Int32) (f_afters : Nat → Int32) (f_caseMany : Nat → Int32) (f_happen : Nat → Int32) (f_heard : Nat → Int32) (wsZ : va_W), ST E hx hm tl ct pe kn ac np kc mN pV kV st sn sl scx tT ec er ed eT eb en q_undos q_models PGv f_afterOf f_actMany f_actOf f_whom f_hasIf f_becomes f_goneOf q_taped cr q_people f_secrets f_lanes f_lengths f_cells f_tokens f_afters f_caseMany f_happen f_heard wsZ → RL_ tl ct pe kn ac np kc mN pV kV st sn sl scx tT ec er ed eT eb en q_undos q_models PGv f_afterOf f_actMany f_actOf f_whom f_hasIf f_becomes f_goneOf q_taped cr q_people f_secrets f_lanes f_lengths f_cells f_tokens f_afters f_caseMany f_happen f_heard → WW X 4 E 1452 [(3, .int (nI i1)), (2, .ref hm), (1, .ref hx), (0, .ref bb)] [] wsZ (kC + 4) (nC + 73)) : WW X 4 E 1122 [(3, .int (nI i1)), (2, .ref hm), (1, .ref hx), (0, .ref bb)] [] ws kC nC := by
  obtain ⟨a0, ea0⟩ : ∃ z : Int32, xs (i1 + 1) = z := ⟨_, rfl⟩
  obtain ⟨a1, ea1⟩ : ∃ z : Int32, xs (i1 + 2) = z := ⟨_, rfl⟩
  obtain ⟨a2, ea2⟩ : ∃ z : Int32, xs (i1 + 3) = z := ⟨_, rfl⟩
  obtain ⟨a3, ea3⟩ : ∃ z : Int32, xs (i1 + 4) = z := ⟨_, rfl⟩
  refine ww_aload_n C dL_law_1122 2 rfl rfl ?_
  refine ww_aload_n C dL_law_1123 3 rfl rfl ?_
  refine ww_iload_n C dL_law_1124 0 rfl rfl ?_
  refine ww_iconst (v := 1) C dL_law_1125 rfl ?_
  refine ww_iadd (v := (nI (i1 + 1))) C dL_law_1126 (nI_add i1 1) ?_
  refine ww_sld (v := a0) C hs (vp_in_nI (by omega) (by omega)) (ldn (by omega) ea0) dL_law_1127 ?_
  refine ww_aload_n C dL_law_1128 3 rfl rfl ?_
  refine ww_iload_n C dL_law_1129 0 rfl rfl ?_
  refine ww_iconst (v := 2) C dL_law_1130 rfl ?_
  refine ww_iadd (v := (nI (i1 + 2))) C dL_law_1131 (nI_add i1 2) ?_
  refine ww_sld (v := a1) C hs (vp_in_nI (by omega) (by omega)) (ldn (by omega) ea1) dL_law_1132 ?_
  refine ww_aload_n C dL_law_1133 3 rfl rfl ?_
  refine ww_iload_n C dL_law_1134 0 rfl rfl ?_
  refine ww_iconst (v := 3) C dL_law_1135 rfl ?_
  refine ww_iadd (v := (nI (i1 + 3))) C dL_law_1136 (nI_add i1 3) ?_
  refine ww_sld (v := a2) C hs (vp_in_nI (by omega) (by omega)) (ldn (by omega) ea2) dL_law_1137 ?_
  refine ww_aload_n C dL_law_1138 3 rfl rfl ?_
  refine ww_iload_n C dL_law_1139 0 rfl rfl ?_
  refine ww_iconst (v := 4) C dL_law_1140 rfl ?_
  refine ww_iadd (v := (nI (i1 + 4))) C dL_law_1141 (nI_add i1 4) ?_
  refine ww_sld (v := a3) C hs (vp_in_nI (by omega) (by omega)) (ldn (by omega) ea3) dL_law_1142 ?_
  refine cx_plan C rfl ⟨by omega, by omega⟩ hS (fun r_1 ws_2 hS_3 hE_4 => ?_)
  replace hE_4 := hd_mk hE_4
  refine ww_pop C dL_law_1146 rfl ?_
  refine ww_aload_n C dL_law_1147 1 rfl rfl ?_
  refine ww_aload_n C dL_law_1148 3 rfl rfl ?_
  refine ww_iload_n C dL_law_1149 0 rfl rfl ?_
  refine ww_iconst (v := 1) C dL_law_1150 rfl ?_
  refine ww_iadd (v := (nI (i1 + 1))) C dL_law_1151 (nI_add i1 1) ?_
  refine ww_sld (v := a0) C hs (vp_in_nI (by omega) (by omega)) (ldn (by omega) ea0) dL_law_1152 ?_
  refine ww_aload_n C dL_law_1153 3 rfl rfl ?_
  refine ww_iload_n C dL_law_1154 0 rfl rfl ?_
  refine ww_iconst (v := 2) C dL_law_1155 rfl ?_
  refine ww_iadd (v := (nI (i1 + 2))) C dL_law_1156 (nI_add i1 2) ?_
  refine ww_sld (v := a1) C hs (vp_in_nI (by omega) (by omega)) (ldn (by omega) ea1) dL_law_1157 ?_
  refine ww_aload_n C dL_law_1158 3 rfl rfl ?_
  refine ww_iload_n C dL_law_1159 0 rfl rfl ?_
  refine ww_iconst (v := 3) C dL_law_1160 rfl ?_
  refine ww_iadd (v := (nI (i1 + 3))) C dL_law_1161 (nI_add i1 3) ?_
  refine ww_sld (v := a2) C hs (vp_in_nI (by omega) (by omega)) (ldn (by omega) ea2) dL_law_1162 ?_
  refine ww_aload_n C dL_law_1163 3 rfl rfl ?_
  refine ww_iload_n C dL_law_1164 0 rfl rfl ?_
  refine ww_iconst (v := 4) C dL_law_1165 rfl ?_
  refine ww_iadd (v := (nI (i1 + 4))) C dL_law_1166 (nI_add i1 4) ?_
  refine ww_sld (v := a3) C hs (vp_in_nI (by omega) (by omega)) (ldn (by omega) ea3) dL_law_1167 ?_
  refine my_plan C rfl ⟨by omega, by omega⟩ hS_3 (IVQ.whi hR.2.2.2.2.2.2.2.2.2.2.2) (TVQ.wht hR.2.2.2.2.2.2.2.2.2.2.1) (fun r_5 PGv_9 ws_6 hS_7 hE_8 => ?_)
  replace hE_8 := hd_mk hE_8
  refine ww_pop C dL_law_1171 rfl ?_
  refine ww_goto (tgt := 1452) C dL_law_1172 (by decide) ?_
  exact ww_wid (by omega) (by omega) (kk tl ct pe kn ac np kc mN pV kV st sn sl scx tT ec er ed eT eb en q_undos q_models PGv_9 f_afterOf f_actMany f_actOf f_whom f_hasIf f_becomes f_goneOf q_taped cr q_people f_secrets f_lanes f_lengths f_cells f_tokens f_afters f_caseMany f_happen f_heard _ hS_7 ⟨hR.1, hR.2.1, hR.2.2.1, hR.2.2.2.1, hR.2.2.2.2.1, hR.2.2.2.2.2.1, hR.2.2.2.2.2.2.1, hR.2.2.2.2.2.2.2.1, (re_plan hE_4 hE_8 hR (ST.tl hS)).1, (re_plan hE_4 hE_8 hR (ST.tl hS)).2, hR.2.2.2.2.2.2.2.2.2.2.1, hR.2.2.2.2.2.2.2.2.2.2.2⟩)
