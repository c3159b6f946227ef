theorem dL_law_18 : decode cL_law 18 = .ok (.iload_n 3, 1) := by decide +kernel
theorem dL_law_19 : decode cL_law 19 = .ok (.aload_n 0, 1) := by decide +kernel
theorem dL_law_20 : decode cL_law 20 = .ok (.arraylength, 1) := by decide +kernel
theorem dL_law_21 : decode cL_law 21 = .ok (.bipush 6, 2) := by decide +kernel
theorem dL_law_23 : decode cL_law 23 = .ok (.isub, 1) := by decide +kernel
theorem dL_law_24 : decode cL_law 24 = .ok (.if_icmp .gt 1434, 3) := by decide +kernel
theorem dL_law_1458 : decode cL_law 1458 = .ok (.iconst 1, 1) := by decide +kernel
theorem dL_law_1459 : decode cL_law 1459 = .ok (.ireturn, 1) := by decide +kernel
theorem dL_law_27 : decode cL_law 27 = .ok (.aload_n 0, 1) := by decide +kernel
theorem dL_law_28 : decode cL_law 28 = .ok (.iload_n 3, 1) := by decide +kernel
theorem dL_law_29 : decode cL_law 29 = .ok (.iaload, 1) := by decide +kernel
theorem dL_law_30 : decode cL_law 30 = .ok (.bipush 63, 2) := by decide +kernel
theorem dL_law_32 : decode cL_law 32 = .ok (.iand, 1) := by decide +kernel
theorem dL_law_1452 : decode cL_law 1452 = .ok (.iinc 3 6, 3) := by decide +kernel
theorem dL_law_1455 : decode cL_law 1455 = .ok (.goto (-1437), 3) := by decide +kernel
theorem dL_law_33 : decode cL_law 33 = .ok (.tableswitch 1419 0 37 #[167, 190, 285, 308, 331, 364, 397, 450, 473, 496, 509, 542, 565, 588, 621, 684, 763, 796, 849, 872, 885, 908, 941, 954, 967, 990, 1013, 1046, 1089, 1142, 1165, 1198, 1221, 1244, 1287, 1330, 1383, 1396], 167) := by decide +kernel
set_option maxRecDepth 100000 in
set_option maxHeartbeats 4000000 in
theorem law_loop {X : XT} {E : EV} {xs : Nat → Int32} {bb L hx hm : Nat} (C : CX X room_1 cL_law 4 RL ret E) (hs : SX X bb L xs) (hL : L ≤ 3072) (hq : X.2.2.2.2.2.2.2.2.2.2.2 = lw_Z X.2.2.2.2.2.2.2.1 X.2.2.2.2.2.2.1 X.2.2.2.2.1 ∧ X.2.2.2.2.2.2.1 = #[Value.ref bb] ∧ X.2.2.2.2.2.2.2.2.2.2.1 = fun q => X.2.2.2.2.1.heap.size ≤ q) : ∀ (fu : Nat) (tl : Nat) (ct : Nat → Int) (pe : Nat) (kn : Int32) (ac : Nat) (np : Nat) (kc : Nat) (mN : AM) (pV : Nat → AM) (kV : Nat → AM) (st : Nat → Nat) (sn : Nat → Nat) (sl : Nat → Nat) (scx : Nat → Nat → Int32) (tT : Nat → Option SVal) (ec : Nat → Nat) (er : Nat → Nat) (ed : Nat → Nat → Int32) (eT : Nat → Nat → Option SVal) (eb : Nat → Nat → Int32) (en : Nat → Nat → Int32) (q_undos : Nat) (q_models : Nat) (PGv : Nat → AM) (f_afterOf : Nat → Int32) (f_actMany : Nat → Int32) (f_actOf : Nat → Int32) (f_whom : Nat → Int32) (f_hasIf : Nat → Int32) (f_becomes : Nat → Int32) (f_goneOf : Nat → Int32) (q_taped : Nat) (cr : Nat → Int) (q_people : Nat) (f_secrets : Nat → Int32) (f_lanes : Nat → Int32) (f_lengths : Nat → Int32) (f_cells : Nat → Int32) (f_tokens : Nat → Int32) (f_afters : Nat → Int32) (f_caseMany : Nat → Int32) (f_happen : Nat → Int32) (f_heard : Nat → Int32) (c : Nat) (ws : va_W), 6 * c ≤ L → ST E hx hm tl ct pe kn ac np kc mN pV kV st sn sl scx tT ec er ed eT eb en q_undos q_models PGv f_afterOf f_actMany f_actOf f_whom f_hasIf f_becomes f_goneOf q_taped cr q_people f_secrets f_lanes f_lengths f_cells f_tokens f_afters f_caseMany f_happen f_heard ws → RL_ tl ct pe kn ac np kc mN pV kV st sn sl scx tT ec er ed eT eb en q_undos q_models PGv f_afterOf f_actMany f_actOf f_whom f_hasIf f_becomes f_goneOf q_taped cr q_people f_secrets f_lanes f_lengths f_cells f_tokens f_afters f_caseMany f_happen f_heard → L - 6 * c < fu → WW X 4 E 18 [(3, .int (nI (6 * c))), (2, .ref hm), (1, .ref hx), (0, .ref bb)] [] ws (168 + 4 * c) (11526 + 73 * c) := by
  intro fu
  induction fu with
  | zero => intro tl ct pe kn ac np kc mN pV kV st sn sl scx tT ec er ed eT eb en q_undos q_models PGv f_afterOf f_actMany f_actOf f_whom f_hasIf f_becomes f_goneOf q_taped cr q_people f_secrets f_lanes f_lengths f_cells f_tokens f_afters f_caseMany f_happen f_heard c ws hc hS hR hm9; exact absurd hm9 (Nat.not_lt_zero _)
  | succ fu ih =>
    intro tl ct pe kn ac np kc mN pV kV st sn sl scx tT ec er ed eT eb en q_undos q_models PGv f_afterOf f_actMany f_actOf f_whom f_hasIf f_becomes f_goneOf q_taped cr q_people f_secrets f_lanes f_lengths f_cells f_tokens f_afters f_caseMany f_happen f_heard c ws hc hS hR hm9
    refine ww_iload_n C dL_law_18 0 rfl rfl ?_
    refine ww_aload_n C dL_law_19 3 rfl rfl ?_
    refine ww_slen (v := (nI L)) C hs rfl dL_law_20 ?_
    refine ww_bipush (v := 6) C dL_law_21 rfl ?_
    obtain ⟨x_1, ex_1⟩ : ∃ z : Int32, (nI L) - (6 : Int32) = z := ⟨_, rfl⟩
    have zx_1 : x_1.toInt = ((L : Nat) : Int) - 6 := by rw [← ex_1]; exact i_sub (nI_toInt (n := L) (by omega)) rfl (by omega) (by omega)
    refine ww_isub (v := x_1) C dL_law_23 ex_1 ?_
    refine ww_icmp_gt (tgt := 1458) C dL_law_24 (by decide) (fun c_2 => ?_) (fun c_2 => ?_)
    · have zc_2 : (((6 * c) : Nat) : Int) > (((L : Nat) : Int) - 6) := i_lt zx_1 (nI_toInt (n := (6 * c)) (by omega)) c_2
      refine ww_iconst (v := 1) C dL_law_1458 rfl ?_
      exact ww_lawret C hq (Nat.ble_eq_true_of_le (by omega)) (Nat.ble_eq_true_of_le (by omega)) dL_law_1459
    · have zc_2 : (((6 * c) : Nat) : Int) ≤ (((L : Nat) : Int) - 6) := i_nlt zx_1 (nI_toInt (n := (6 * c)) (by omega)) c_2
      refine ww_aload_n C dL_law_27 3 rfl rfl ?_
      refine ww_iload_n C dL_law_28 0 rfl rfl ?_
      obtain ⟨a_3, ea_3⟩ : ∃ z : Int32, xs (6 * c) = z := ⟨_, rfl⟩
      refine ww_sld (v := a_3) C hs (vp_in_nI (by omega) (by omega)) (ldn (by omega) ea_3) dL_law_29 ?_
      refine ww_bipush (v := 63) C dL_law_30 rfl ?_
      obtain ⟨x_4, ex_4⟩ : ∃ z : Int32, a_3 &&& (63 : Int32) = z := ⟨_, rfl⟩
      refine ww_iand (v := x_4) C dL_law_32 ex_4 ?_
      have kk : ∀ (tlZ : Nat) (ctZ : Nat → Int) (peZ : Nat) (knZ : Int32) (acZ : Nat) (npZ : Nat) (kcZ : Nat) (mNZ : AM) (pVZ : Nat → AM) (kVZ : Nat → AM) (stZ : Nat → Nat) (snZ : Nat → Nat) (slZ : Nat → Nat) (scxZ : Nat → Nat → Int32) (tTZ : Nat → Option SVal) (ecZ : Nat → Nat) (erZ : Nat → Nat) (edZ : Nat → Nat → Int32) (eTZ : Nat → Nat → Option SVal) (ebZ : Nat → Nat → Int32) (enZ : Nat → Nat → Int32) (q_undosZ : Nat) (q_modelsZ : Nat) (PGvZ : Nat → AM) (f_afterOfZ : Nat → Int32) (f_actManyZ : Nat → Int32) (f_actOfZ : Nat → Int32) (f_whomZ : Nat → Int32) (f_hasIfZ : Nat → Int32) (f_becomesZ : Nat → Int32) (f_goneOfZ : Nat → Int32) (q_tapedZ : Nat) (crZ : Nat → Int) (q_peopleZ : Nat) (f_secretsZ : Nat → Int32) (f_lanesZ : Nat → Int32) (f_lengthsZ : Nat → Int32) (f_cellsZ : Nat → Int32) (f_tokensZ : Nat → Int32) (f_aftersZ : Nat → Int32) (f_caseManyZ : Nat → Int32) (f_happenZ : Nat → Int32) (f_heardZ : Nat → Int32) (wsZ : va_W), ST E hx hm tlZ ctZ peZ knZ acZ npZ kcZ mNZ pVZ kVZ stZ snZ slZ scxZ tTZ ecZ erZ edZ eTZ ebZ enZ q_undosZ q_modelsZ PGvZ f_afterOfZ f_actManyZ f_actOfZ f_whomZ f_hasIfZ f_becomesZ f_goneOfZ q_tapedZ crZ q_peopleZ f_secretsZ f_lanesZ f_lengthsZ f_cellsZ f_tokensZ f_aftersZ f_caseManyZ f_happenZ f_heardZ wsZ → RL_ tlZ ctZ peZ knZ acZ npZ kcZ mNZ pVZ kVZ stZ snZ slZ scxZ tTZ ecZ erZ edZ eTZ ebZ enZ q_undosZ q_modelsZ PGvZ f_afterOfZ f_actManyZ f_actOfZ f_whomZ f_hasIfZ f_becomesZ f_goneOfZ q_tapedZ crZ q_peopleZ f_secretsZ f_lanesZ f_lengthsZ f_cellsZ f_tokensZ f_aftersZ f_caseManyZ f_happenZ f_heardZ → WW X 4 E 1452 [(3, .int (nI (6 * c))), (2, .ref hm), (1, .ref hx), (0, .ref bb)] [] wsZ (168 + 4 * c + 4) (11526 + 73 * c + 73) := by
        intro tlZ ctZ peZ knZ acZ npZ kcZ mNZ pVZ kVZ stZ snZ slZ scxZ tTZ ecZ erZ edZ eTZ ebZ enZ q_undosZ q_modelsZ PGvZ f_afterOfZ f_actManyZ f_actOfZ f_whomZ f_hasIfZ f_becomesZ f_goneOfZ q_tapedZ crZ q_peopleZ f_secretsZ f_lanesZ f_lengthsZ f_cellsZ f_tokensZ f_aftersZ f_caseManyZ f_happenZ f_heardZ wsZ hSZ hRZ
        refine ww_iinc (j := 0) (v := (nI ((6 * c) + 6))) (lv' := [(3, .int (nI ((6 * c) + 6))), (2, .ref hm), (1, .ref hx), (0, .ref bb)]) C dL_law_1452 rfl (nI_add (6 * c) 6) rfl rfl ?_
        refine ww_goto (tgt := 18) C dL_law_1455 (by decide) ?_
        have h9 := ih tlZ ctZ peZ knZ acZ npZ kcZ mNZ pVZ kVZ stZ snZ slZ scxZ tTZ ecZ erZ edZ eTZ ebZ enZ q_undosZ q_modelsZ PGvZ f_afterOfZ f_actManyZ f_actOfZ f_whomZ f_hasIfZ f_becomesZ f_goneOfZ q_tapedZ crZ q_peopleZ f_secretsZ f_lanesZ f_lengthsZ f_cellsZ f_tokensZ f_aftersZ f_caseManyZ f_happenZ f_heardZ (c + 1) _ (by omega) hSZ hRZ (by omega)
        rw [show 6 * (c + 1) = 6 * c + 6 by omega, show 168 + 4 * (c + 1) = 168 + 4 * c + 4 by omega, show 11526 + 73 * (c + 1) = 11526 + 73 * c + 73 by omega] at h9
        exact h9
      by_cases c_5 : (0 : Int) ≤ x_4.toInt ∧ x_4.toInt ≤ 37
      · rcases sp_0_37 (x := x_4) (by omega) (by omega) with rfl | rfl | rfl | rfl | rfl | rfl | rfl | rfl | rfl | rfl | rfl | rfl | rfl | rfl | rfl | rfl | rfl | rfl | rfl | rfl | rfl | rfl | rfl | rfl | rfl | rfl | rfl | rfl | rfl | rfl | rfl | rfl | rfl | rfl | rfl | rfl | rfl | rfl
        · refine ww_tableIn (tgt := 200) C dL_law_33 (by decide) (by decide) rfl (by decide) ?_
          exact lawc_world C hs (by omega) hL (by omega) hS hR kk
        · refine ww_tableIn (tgt := 223) C dL_law_33 (by decide) (by decide) rfl (by decide) ?_
          exact lawc_sees C hs (by omega) hL (by omega) hS hR kk
        · refine ww_tableIn (tgt := 318) C dL_law_33 (by decide) (by decide) rfl (by decide) ?_
          exact lawc_blind C hs (by omega) hL (by omega) hS hR kk
        · refine ww_tableIn (tgt := 341) C dL_law_33 (by decide) (by decide) rfl (by decide) ?_
          exact lawc_real C hs (by omega) hL (by omega) hS hR kk
        · refine ww_tableIn (tgt := 364) C dL_law_33 (by decide) (by decide) rfl (by decide) ?_
          exact lawc_of C hs (by omega) hL (by omega) hS hR kk
        · refine ww_tableIn (tgt := 397) C dL_law_33 (by decide) (by decide) rfl (by decide) ?_
          exact lawc_reach C hs (by omega) hL (by omega) hS hR kk
        · refine ww_tableIn (tgt := 430) C dL_law_33 (by decide) (by decide) rfl (by decide) ?_
          exact lawc_feed C hs (by omega) hL (by omega) hS hR kk
        · refine ww_tableIn (tgt := 483) C dL_law_33 (by decide) (by decide) rfl (by decide) ?_
          exact lawc_end C hs (by omega) hL (by omega) hS hR kk
        · refine ww_tableIn (tgt := 506) C dL_law_33 (by decide) (by decide) rfl (by decide) ?_
          exact lawc_say C hs (by omega) hL (by omega) hS hR kk
        · refine ww_tableIn (tgt := 529) C dL_law_33 (by decide) (by decide) rfl (by decide) ?_
          exact lawc_fault C hs (by omega) hL (by omega) hS hR kk
        · refine ww_tableIn (tgt := 542) C dL_law_33 (by decide) (by decide) rfl (by decide) ?_
          exact lawc_saying C hs (by omega) hL (by omega) hS hR kk
        · refine ww_tableIn (tgt := 575) C dL_law_33 (by decide) (by decide) rfl (by decide) ?_
          exact lawc_truth C hs (by omega) hL (by omega) hS hR kk
        · refine ww_tableIn (tgt := 598) C dL_law_33 (by decide) (by decide) rfl (by decide) ?_
          exact lawc_holds C hs (by omega) hL (by omega) hS hR kk
        · refine ww_tableIn (tgt := 621) C dL_law_33 (by decide) (by decide) rfl (by decide) ?_
          exact lawc_event C hs (by omega) hL (by omega) hS hR kk
        · refine ww_tableIn (tgt := 654) C dL_law_33 (by decide) (by decide) rfl (by decide) ?_
          exact lawc_when C hs (by omega) hL (by omega) hS hR kk
        · refine ww_tableIn (tgt := 717) C dL_law_33 (by decide) (by decide) rfl (by decide) ?_
          exact lawc_hears C hs (by omega) hL (by omega) hS hR kk
        · refine ww_tableIn (tgt := 796) C dL_law_33 (by decide) (by decide) rfl (by decide) ?_
          exact lawc_happens C hs (by omega) hL (by omega) hS hR kk
        · refine ww_tableIn (tgt := 829) C dL_law_33 (by decide) (by decide) rfl (by decide) ?_
          exact lawc_word C hs (by omega) hL (by omega) hS hR kk
        · refine ww_tableIn (tgt := 882) C dL_law_33 (by decide) (by decide) rfl (by decide) ?_
          exact lawc_lay C hs (by omega) hL (by omega) hS hR kk
        · refine ww_tableIn (tgt := 905) C dL_law_33 (by decide) (by decide) rfl (by decide) ?_
          exact lawc_classes C hs (by omega) hL (by omega) hS hR kk
        · refine ww_tableIn (tgt := 918) C dL_law_33 (by decide) (by decide) rfl (by decide) ?_
          exact lawc_classOf C hs (by omega) hL (by omega) hS hR kk
        · refine ww_tableIn (tgt := 941) C dL_law_33 (by decide) (by decide) rfl (by decide) ?_
          exact lawc_depth C hs (by omega) hL (by omega) hS hR kk
        · refine ww_tableIn (tgt := 974) C dL_law_33 (by decide) (by decide) rfl (by decide) ?_
          exact lawc_melt C hs (by omega) hL (by omega) hS hR kk
        · refine ww_tableIn (tgt := 987) C dL_law_33 (by decide) (by decide) rfl (by decide) ?_
          exact lawc_keep C hs (by omega) hL (by omega) hS hR kk
        · refine ww_tableIn (tgt := 1000) C dL_law_33 (by decide) (by decide) rfl (by decide) ?_
          exact lawc_stand C hs (by omega) hL (by omega) hS hR kk
        · refine ww_tableIn (tgt := 1023) C dL_law_33 (by decide) (by decide) rfl (by decide) ?_
          exact lawc_same C hs (by omega) hL (by omega) hS hR kk
        · refine ww_tableIn (tgt := 1046) C dL_law_33 (by decide) (by decide) rfl (by decide) ?_
          exact lawc_turn C hs (by omega) hL (by omega) hS hR kk
        · refine ww_tableIn (tgt := 1079) C dL_law_33 (by decide) (by decide) rfl (by decide) ?_
          exact lawc_turns C hs (by omega) hL (by omega) hS hR kk
        · refine ww_tableIn (tgt := 1122) C dL_law_33 (by decide) (by decide) rfl (by decide) ?_
          exact lawc_plan C hs (by omega) hL (by omega) hS hR kk
        · refine ww_tableIn (tgt := 1175) C dL_law_33 (by decide) (by decide) rfl (by decide) ?_
          exact lawc_people C hs (by omega) hL (by omega) hS hR kk
        · refine ww_tableIn (tgt := 1198) C dL_law_33 (by decide) (by decide) rfl (by decide) ?_
          exact lawc_call C hs (by omega) hL (by omega) hS hR kk
        · refine ww_tableIn (tgt := 1231) C dL_law_33 (by decide) (by decide) rfl (by decide) ?_
          exact lawc_secrets C hs (by omega) hL (by omega) hS hR kk
        · refine ww_tableIn (tgt := 1254) C dL_law_33 (by decide) (by decide) rfl (by decide) ?_
          exact lawc_fewest C hs (by omega) hL (by omega) hS hR kk
        · refine ww_tableIn (tgt := 1277) C dL_law_33 (by decide) (by decide) rfl (by decide) ?_
          exact lawc_sheet C hs (by omega) hL (by omega) hS hR kk
        · refine ww_tableIn (tgt := 1320) C dL_law_33 (by decide) (by decide) rfl (by decide) ?_
          exact lawc_write C hs (by omega) hL (by omega) hS hR kk
        · refine ww_tableIn (tgt := 1363) C dL_law_33 (by decide) (by decide) rfl (by decide) ?_
          exact lawc_read C hs (by omega) hL (by omega) hS hR kk
        · refine ww_tableIn (tgt := 1416) C dL_law_33 (by decide) (by decide) rfl (by decide) ?_
          exact lawc_undo C hs (by omega) hL (by omega) hS hR kk
        · refine ww_tableIn (tgt := 1429) C dL_law_33 (by decide) (by decide) rfl (by decide) ?_
          exact lawc_count C hs (by omega) hL (by omega) hS hR kk
      · refine ww_tableOut (tgt := 1452) C dL_law_33 (by omega) (by decide) ?_
        exact ww_wid (by omega) (by omega) (kk tl ct pe kn ac np kc mN pV kV st sn sl scx tT ec er ed eT eb en q_undos q_models PGv f_afterOf f_actMany f_actOf f_whom f_hasIf f_becomes f_goneOf q_taped cr q_people f_secrets f_lanes f_lengths f_cells f_tokens f_afters f_caseMany f_happen f_heard _ hS hR)
