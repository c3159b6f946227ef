section
theorem dX3_pair_0 : decode cX3_pair 0 = .ok (.aload_n 0, 1) := dl_42 (by decide +kernel)
theorem dX3_pair_1 : decode cX3_pair 1 = .ok (.getfield 22, 3) := dl_180 (by decide +kernel)
theorem dX3_pair_4 : decode cX3_pair 4 = .ok (.iload_n 1, 1) := dl_27 (by decide +kernel)
theorem dX3_pair_5 : decode cX3_pair 5 = .ok (.iaload, 1) := dl_46 (by decide +kernel)
theorem dX3_pair_6 : decode cX3_pair 6 = .ok (.aload_n 0, 1) := dl_42 (by decide +kernel)
theorem dX3_pair_7 : decode cX3_pair 7 = .ok (.getfield 18, 3) := dl_180 (by decide +kernel)
theorem dX3_pair_10 : decode cX3_pair 10 = .ok (.iload_n 1, 1) := dl_27 (by decide +kernel)
theorem dX3_pair_11 : decode cX3_pair 11 = .ok (.iaload, 1) := dl_46 (by decide +kernel)
theorem dX3_pair_12 : decode cX3_pair 12 = .ok (.iconst 1, 1) := dl_4 (by decide +kernel)
theorem dX3_pair_13 : decode cX3_pair 13 = .ok (.iload_n 2, 1) := dl_28 (by decide +kernel)
theorem dX3_pair_14 : decode cX3_pair 14 = .ok (.ishl, 1) := dl_120 (by decide +kernel)
theorem dX3_pair_15 : decode cX3_pair 15 = .ok (.iconst 1, 1) := dl_4 (by decide +kernel)
theorem dX3_pair_16 : decode cX3_pair 16 = .ok (.isub, 1) := dl_100 (by decide +kernel)
theorem dX3_pair_17 : decode cX3_pair 17 = .ok (.iand, 1) := dl_126 (by decide +kernel)
theorem dX3_pair_18 : decode cX3_pair 18 = .ok (.invokestatic 57, 3) := dl_184 (by decide +kernel)
theorem dX3_pair_21 : decode cX3_pair 21 = .ok (.iadd, 1) := dl_96 (by decide +kernel)
theorem dX3_pair_22 : decode cX3_pair 22 = .ok (.ireturn, 1) := dl_172 (by decide +kernel)
set_option maxRecDepth 100000 in
set_option maxHeartbeats 4000000 in
theorem l_pair (l : Launch) (E : EV) (ro : va_W) (ly : Nat) (w : Nat) (c : Nat) (lym : Nat) (Pp : Nat) (n : Nat) (lyc : Nat) (lyf : Nat) (lyq : Nat) (cf : Nat → Int32) (ff : Nat → Int32) (hn : n ≤ 24) (hw : w < n) (hc : c < 4) (hL : LYR n cf ff Pp) : CT l yX3_pair (Cond.code yX3_pair cX3_pair 3 (some .int) :: TB) ({ frames := 1, cells := 0, slots := 0, locals := 20 }) E ro [.ref ly, .int (nI w), .int (nI c)] [(ly, .inr (3, [.ref lym, .int (nI Pp), .int (nI n), .ref lyc, .ref lyf, .ref lyq])), (lyc, .inl (E.2.1 1, 24, .inl cf)), (lyf, .inl (E.2.1 1, 24, .inl ff))] (Qi E (fun (rz : Int32) uz => (rz = (nI (pcs cf w + bi cf w c)) ∧ uz = [(ly, .inr (3, [.ref lym, .int (nI Pp), .int (nI n), .ref lyc, .ref lyf, .ref lyq])), (lyc, .inl (E.2.1 1, 24, .inl cf)), (lyf, .inl (E.2.1 1, 24, .inl ff))]))) 0 0 := by
  refine ct_of rfl rfl ?_
  intro X C hT hin hro
  show WW X 3 E 0 [(0, .ref ly), (1, .int (nI w)), (2, .int (nI c))] [] [(ly, .inr (3, [.ref lym, .int (nI Pp), .int (nI n), .ref lyc, .ref lyf, .ref lyq])), (lyc, .inl (E.2.1 1, 24, .inl cf)), (lyf, .inl (E.2.1 1, 24, .inl ff))] 0 0
  refine ww_aload_n C dX3_pair_0 0 rfl rfl ?_
  refine ww_get C fg_X3_22 0 rfl rfl dX3_pair_1 ?_
  refine ww_iload_n C dX3_pair_4 1 rfl rfl ?_
  refine ww_iald (v := (nI (pcs cf w))) C 2 rfl (vp_in_nI (by omega) (by omega)) (ldn (by omega) (hL.2.1 w (by omega))) dX3_pair_5 ?_
  refine ww_aload_n C dX3_pair_6 0 rfl rfl ?_
  refine ww_get C fg_X3_18 0 rfl rfl dX3_pair_7 ?_
  refine ww_iload_n C dX3_pair_10 1 rfl rfl ?_
  have hbx_2 := CBx.lt hL.1 (by omega) (show w < n by omega)
  refine ww_iald (v := (nI (cN cf w))) C 1 rfl (vp_in_nI (by omega) (by omega)) (ldn (by omega) (hL.1 w (by omega)).1) dX3_pair_11 ?_
  refine ww_iconst (v := 1) C dX3_pair_12 rfl ?_
  refine ww_iload_n C dX3_pair_13 2 rfl rfl ?_
  obtain ⟨x_3, ex_3⟩ : ∃ z : Int32, (1 : Int32) <<< ((nI c) &&& 31) = z := ⟨_, rfl⟩
  refine ww_ishl (v := x_3) C dX3_pair_14 ex_3 ?_
  refine ww_iconst (v := 1) C dX3_pair_15 rfl ?_
  obtain ⟨x_4, ex_4⟩ : ∃ z : Int32, x_3 - (1 : Int32) = z := ⟨_, rfl⟩
  refine ww_isub (v := x_4) C dX3_pair_16 ex_4 ?_
  obtain ⟨x_5, ex_5⟩ : ∃ z : Int32, (nI (cN cf w)) &&& x_4 = z := ⟨_, rfl⟩
  refine ww_iand (v := x_5) C dX3_pair_17 ex_5 ?_
  refine ww_ci (wr := [(ly, .inr (3, [.ref lym, .int (nI Pp), .int (nI n), .ref lyc, .ref lyf, .ref lyq])), (lyc, .inl (E.2.1 1, 24, .inl cf)), (lyf, .inl (E.2.1 1, 24, .inl ff))]) (k' := 0) (n' := 0) C (run_S (As := [.int x_5]) (rest := [.int (nI (pcs cf w))]) C (c_bitCount X.2.1 E ro x_5) ms_J6_bitCount_0f7a4 wl_X3_57 rfl rfl rfl rfl dX3_pair_18) (roK hro) [] [0, 1, 2] rfl rfl rfl rfl (fun r_6 uz hw => ?_)
  refine an1 hw ?_
  clear hw
  intro he_7 hw
  have he_8 := hw
  clear hw
  have he_7 := he_7.symm
  subst he_7
  subst he_8
  refine ww_eq (ws' := [(ly, .inr (3, [.ref lym, .int (nI Pp), .int (nI n), .ref lyc, .ref lyf, .ref lyq])), (lyc, .inl (E.2.1 1, 24, .inl cf)), (lyf, .inl (E.2.1 1, 24, .inl ff))]) ?_ rfl rfl rfl
  obtain ⟨x_9, ex_9⟩ : ∃ z : Int32, (nI (pcs cf w)) + (bcf x_5) = z := ⟨_, rfl⟩
  refine ww_iadd (v := x_9) C dX3_pair_21 ex_9 ?_
  exact ww_iret (u := [(ly, .inr (3, [.ref lym, .int (nI Pp), .int (nI n), .ref lyc, .ref lyf, .ref lyq])), (lyc, .inl (E.2.1 1, 24, .inl cf)), (lyf, .inl (E.2.1 1, 24, .inl ff))]) C hT [0, 1, 2] rfl rfl rfl rfl dX3_pair_22 (⟨(pair_v hL hw hc (by assumption) (by assumption) (by assumption) (by assumption)), rfl⟩)
theorem dX3_pairsOfWorlds_0 : decode cX3_pairsOfWorlds 0 = .ok (.iconst 0, 1) := dl_3 (by decide +kernel)
theorem dX3_pairsOfWorlds_1 : decode cX3_pairsOfWorlds 1 = .ok (.istore_n 2, 1) := dl_61 (by decide +kernel)
theorem dX3_pairsOfWorlds_2 : decode cX3_pairsOfWorlds 2 = .ok (.iconst 0, 1) := dl_3 (by decide +kernel)
theorem dX3_pairsOfWorlds_3 : decode cX3_pairsOfWorlds 3 = .ok (.istore_n 3, 1) := dl_62 (by decide +kernel)
theorem dX3_pairsOfWorlds_4 : decode cX3_pairsOfWorlds 4 = .ok (.iload_n 3, 1) := dl_29 (by decide +kernel)
theorem dX3_pairsOfWorlds_5 : decode cX3_pairsOfWorlds 5 = .ok (.aload_n 0, 1) := dl_42 (by decide +kernel)
theorem dX3_pairsOfWorlds_6 : decode cX3_pairsOfWorlds 6 = .ok (.getfield 32, 3) := dl_180 (by decide +kernel)
theorem dX3_pairsOfWorlds_9 : decode cX3_pairsOfWorlds 9 = .ok (.if_icmp .ge 40, 3) := dl_162 (by decide +kernel)
theorem dX3_pairsOfWorlds_49 : decode cX3_pairsOfWorlds 49 = .ok (.iload_n 2, 1) := dl_28 (by decide +kernel)
theorem dX3_pairsOfWorlds_50 : decode cX3_pairsOfWorlds 50 = .ok (.ireturn, 1) := dl_172 (by decide +kernel)
theorem dX3_pairsOfWorlds_12 : decode cX3_pairsOfWorlds 12 = .ok (.iload_n 1, 1) := dl_27 (by decide +kernel)
theorem dX3_pairsOfWorlds_13 : decode cX3_pairsOfWorlds 13 = .ok (.iload_n 3, 1) := dl_29 (by decide +kernel)
theorem dX3_pairsOfWorlds_14 : decode cX3_pairsOfWorlds 14 = .ok (.invokestatic 63, 3) := dl_184 (by decide +kernel)
theorem dX3_pairsOfWorlds_17 : decode cX3_pairsOfWorlds 17 = .ok (.ifCond .eq 26, 3) := dl_153 (by decide +kernel)
theorem dX3_pairsOfWorlds_20 : decode cX3_pairsOfWorlds 20 = .ok (.iload_n 2, 1) := dl_28 (by decide +kernel)
theorem dX3_pairsOfWorlds_21 : decode cX3_pairsOfWorlds 21 = .ok (.iconst 1, 1) := dl_4 (by decide +kernel)
theorem dX3_pairsOfWorlds_22 : decode cX3_pairsOfWorlds 22 = .ok (.aload_n 0, 1) := dl_42 (by decide +kernel)
theorem dX3_pairsOfWorlds_23 : decode cX3_pairsOfWorlds 23 = .ok (.getfield 18, 3) := dl_180 (by decide +kernel)
theorem dX3_pairsOfWorlds_26 : decode cX3_pairsOfWorlds 26 = .ok (.iload_n 3, 1) := dl_29 (by decide +kernel)
theorem dX3_pairsOfWorlds_27 : decode cX3_pairsOfWorlds 27 = .ok (.iaload, 1) := dl_46 (by decide +kernel)
theorem dX3_pairsOfWorlds_28 : decode cX3_pairsOfWorlds 28 = .ok (.invokestatic 57, 3) := dl_184 (by decide +kernel)
theorem dX3_pairsOfWorlds_31 : decode cX3_pairsOfWorlds 31 = .ok (.ishl, 1) := dl_120 (by decide +kernel)
theorem dX3_pairsOfWorlds_32 : decode cX3_pairsOfWorlds 32 = .ok (.iconst 1, 1) := dl_4 (by decide +kernel)
theorem dX3_pairsOfWorlds_33 : decode cX3_pairsOfWorlds 33 = .ok (.isub, 1) := dl_100 (by decide +kernel)
theorem dX3_pairsOfWorlds_34 : decode cX3_pairsOfWorlds 34 = .ok (.aload_n 0, 1) := dl_42 (by decide +kernel)
theorem dX3_pairsOfWorlds_35 : decode cX3_pairsOfWorlds 35 = .ok (.getfield 22, 3) := dl_180 (by decide +kernel)
theorem dX3_pairsOfWorlds_38 : decode cX3_pairsOfWorlds 38 = .ok (.iload_n 3, 1) := dl_29 (by decide +kernel)
theorem dX3_pairsOfWorlds_39 : decode cX3_pairsOfWorlds 39 = .ok (.iaload, 1) := dl_46 (by decide +kernel)
theorem dX3_pairsOfWorlds_40 : decode cX3_pairsOfWorlds 40 = .ok (.ishl, 1) := dl_120 (by decide +kernel)
theorem dX3_pairsOfWorlds_41 : decode cX3_pairsOfWorlds 41 = .ok (.ior, 1) := dl_128 (by decide +kernel)
theorem dX3_pairsOfWorlds_42 : decode cX3_pairsOfWorlds 42 = .ok (.istore_n 2, 1) := dl_61 (by decide +kernel)
theorem dX3_pairsOfWorlds_43 : decode cX3_pairsOfWorlds 43 = .ok (.iinc 3 1, 3) := dl_132 (by decide +kernel)
theorem dX3_pairsOfWorlds_46 : decode cX3_pairsOfWorlds 46 = .ok (.goto (-42), 3) := dl_167 (by decide +kernel)
set_option maxRecDepth 100000 in
set_option maxHeartbeats 4000000 in
theorem l_pairsOfWorlds (l : Launch) (E : EV) (ro : va_W) (ly : Nat) (bs : Int32) (lym : Nat) (Pp : Nat) (n : Nat) (lyc : Nat) (lyf : Nat) (lyq : Nat) (cf : Nat → Int32) (ff : Nat → Int32) (PP : Nat → Bool) (hn : n ≤ 24) (hL : LYR n cf ff Pp) (hM : LYM n PP cf) (hP : Pp ≤ 24) : CT l yX3_pairsOfWorlds (Cond.code yX3_pairsOfWorlds cX3_pairsOfWorlds 4 (some .int) :: TB) ({ frames := 1, cells := 0, slots := 0, locals := 21 }) E ro [.ref ly, .int bs] [(ly, .inr (3, [.ref lym, .int (nI Pp), .int (nI n), .ref lyc, .ref lyf, .ref lyq])), (lyc, .inl (E.2.1 1, 24, .inl cf)), (lyf, .inl (E.2.1 1, 24, .inl ff))] (Qi E (fun (rz : Int32) uz => (uz = [(ly, .inr (3, [.ref lym, .int (nI Pp), .int (nI n), .ref lyc, .ref lyf, .ref lyq])), (lyc, .inl (E.2.1 1, 24, .inl cf)), (lyf, .inl (E.2.1 1, 24, .inl ff))] ∧ (PWx PP (4 * n) n bs n rz)))) 0 0 := by
  refine ct_of rfl rfl ?_
  intro X C hT hin hro
  show WW X 4 E 0 [(0, .ref ly), (1, .int bs)] [] [(ly, .inr (3, [.ref lym, .int (nI Pp), .int (nI n), .ref lyc, .ref lyf, .ref lyq])), (lyc, .inl (E.2.1 1, 24, .inl cf)), (lyf, .inl (E.2.1 1, 24, .inl ff))] 0 0
  refine ww_iconst (v := 0) C dX3_pairsOfWorlds_0 rfl ?_
  refine ww_istore_n (lv' := [(2, .int 0), (0, .ref ly), (1, .int bs)]) C dX3_pairsOfWorlds_1 rfl rfl rfl ?_
  refine ww_iconst (v := 0) C dX3_pairsOfWorlds_2 rfl ?_
  refine ww_istore_n (lv' := [(3, .int 0), (2, .int 0), (0, .ref ly), (1, .int bs)]) C dX3_pairsOfWorlds_3 rfl rfl rfl ?_
  have loop_4 : ∀ (fu : Nat) (i1 : Nat) (ac : Int32), (i1 ≤ n) → (PWx PP (4 * n) n bs i1 ac) → n - i1 < fu → WW X 4 E 4 [(3, .int (nI i1)), (2, .int ac), (0, .ref ly), (1, .int bs)] [] [(ly, .inr (3, [.ref lym, .int (nI Pp), .int (nI n), .ref lyc, .ref lyf, .ref lyq])), (lyc, .inl (E.2.1 1, 24, .inl cf)), (lyf, .inl (E.2.1 1, 24, .inl ff))] 0 0 := by
    intro fu
    induction fu with
    | zero => intro i1 ac hi1 hpw hmeas; exact absurd hmeas (Nat.not_lt_zero _)
    | succ fu ih_4 =>
      intro i1 ac hi1 hpw hmeas
      refine ww_iload_n C dX3_pairsOfWorlds_4 0 rfl rfl ?_
      refine ww_aload_n C dX3_pairsOfWorlds_5 2 rfl rfl ?_
      refine ww_get C fg_X3_32 0 rfl rfl dX3_pairsOfWorlds_6 ?_
      refine ww_icmp_ge (tgt := 49) C dX3_pairsOfWorlds_9 (by decide) (fun c_1 => ?_) (fun c_1 => ?_)
      · have zc_1 : ((i1 : Nat) : Int) ≥ ((n : Nat) : Int) := i_le (nI_toInt (n := n) (by omega)) (nI_toInt (n := i1) (by omega)) c_1
        refine ww_iload_n C dX3_pairsOfWorlds_49 1 rfl rfl ?_
        exact ww_iret (u := [(ly, .inr (3, [.ref lym, .int (nI Pp), .int (nI n), .ref lyc, .ref lyf, .ref lyq])), (lyc, .inl (E.2.1 1, 24, .inl cf)), (lyf, .inl (E.2.1 1, 24, .inl ff))]) C hT [0, 1, 2] rfl rfl rfl rfl dX3_pairsOfWorlds_50 (⟨rfl, (by have h9 : i1 = n := (by omega); rw [h9] at hpw; exact hpw)⟩)
      · have zc_1 : ((i1 : Nat) : Int) < ((n : Nat) : Int) := i_nle (nI_toInt (n := n) (by omega)) (nI_toInt (n := i1) (by omega)) c_1
        refine ww_iload_n C dX3_pairsOfWorlds_12 3 rfl rfl ?_
        refine ww_iload_n C dX3_pairsOfWorlds_13 0 rfl rfl ?_
        refine ww_ci (wr := [(ly, .inr (3, [.ref lym, .int (nI Pp), .int (nI n), .ref lyc, .ref lyf, .ref lyq])), (lyc, .inl (E.2.1 1, 24, .inl cf)), (lyf, .inl (E.2.1 1, 24, .inl ff))]) (k' := 0) (n' := 0) C (run_SN (As := [.int bs, .int (nI i1)]) (rest := []) C (c_hasN X.2.1 E ro bs i1 (by omega)) ms_X11_has (List.mem_of_getElem? (i := 16) rfl) rfl rfl rfl rfl dX3_pairsOfWorlds_14) (roK hro) [] [0, 1, 2] rfl rfl rfl rfl (fun r_2 uz hw => ?_)
        rcases hw with hw | hw
        · refine an2 hw ?_
          clear hw
          intro he_4 he_5 hw
          have h_3 := hw
          clear hw
          have he_4 := he_4.symm
          subst he_4
          subst he_5
          refine ww_eq (ws' := [(ly, .inr (3, [.ref lym, .int (nI Pp), .int (nI n), .ref lyc, .ref lyf, .ref lyq])), (lyc, .inl (E.2.1 1, 24, .inl cf)), (lyf, .inl (E.2.1 1, 24, .inl ff))]) ?_ rfl rfl rfl
          refine ww_if_eq_f (tgt := 43) C dX3_pairsOfWorlds_17 (by decide) (by decide) ?_
          refine ww_iload_n C dX3_pairsOfWorlds_20 1 rfl rfl ?_
          refine ww_iconst (v := 1) C dX3_pairsOfWorlds_21 rfl ?_
          refine ww_aload_n C dX3_pairsOfWorlds_22 2 rfl rfl ?_
          refine ww_get C fg_X3_18 0 rfl rfl dX3_pairsOfWorlds_23 ?_
          refine ww_iload_n C dX3_pairsOfWorlds_26 0 rfl rfl ?_
          have hbx_9 := CBx.lt hL.1 (by omega) (show i1 < n by omega)
          refine ww_iald (v := (nI (cN cf i1))) C 1 rfl (vp_in_nI (by omega) (by omega)) (ldn (by omega) (hL.1 i1 (by omega)).1) dX3_pairsOfWorlds_27 ?_
          refine ww_ci (wr := [(ly, .inr (3, [.ref lym, .int (nI Pp), .int (nI n), .ref lyc, .ref lyf, .ref lyq])), (lyc, .inl (E.2.1 1, 24, .inl cf)), (lyf, .inl (E.2.1 1, 24, .inl ff))]) (k' := 0) (n' := 0) C (run_S (As := [.int (nI (cN cf i1))]) (rest := [.int 1, .int ac]) C (c_bitCount X.2.1 E ro (nI (cN cf i1))) ms_J6_bitCount_0f7a4 wl_X3_57 rfl rfl rfl rfl dX3_pairsOfWorlds_28) (roK hro) [] [0, 1, 2] rfl rfl rfl rfl (fun r_10 uz hw => ?_)
          refine an1 hw ?_
          clear hw
          intro he_11 hw
          have he_12 := hw
          clear hw
          have he_11 := he_11.symm
          subst he_11
          subst he_12
          refine ww_eq (ws' := [(ly, .inr (3, [.ref lym, .int (nI Pp), .int (nI n), .ref lyc, .ref lyf, .ref lyq])), (lyc, .inl (E.2.1 1, 24, .inl cf)), (lyf, .inl (E.2.1 1, 24, .inl ff))]) ?_ rfl rfl rfl
          have hbc : bcf (nI (cN cf i1)) = nI (bi cf i1 4) := bcf16 (by omega)
          refine ww_eq (st' := [.int (nI (bi cf i1 4)), .int 1, .int ac]) ?_ rfl (by rw [hbc]) rfl
          obtain ⟨x_13, ex_13⟩ : ∃ z : Int32, (1 : Int32) <<< ((nI (bi cf i1 4)) &&& 31) = z := ⟨_, rfl⟩
          refine ww_ishl (v := x_13) C dX3_pairsOfWorlds_31 ex_13 ?_
          refine ww_iconst (v := 1) C dX3_pairsOfWorlds_32 rfl ?_
          obtain ⟨x_14, ex_14⟩ : ∃ z : Int32, x_13 - (1 : Int32) = z := ⟨_, rfl⟩
          refine ww_isub (v := x_14) C dX3_pairsOfWorlds_33 ex_14 ?_
          refine ww_aload_n C dX3_pairsOfWorlds_34 2 rfl rfl ?_
          refine ww_get C fg_X3_22 0 rfl rfl dX3_pairsOfWorlds_35 ?_
          refine ww_iload_n C dX3_pairsOfWorlds_38 0 rfl rfl ?_
          refine ww_iald (v := (nI (pcs cf i1))) C 2 rfl (vp_in_nI (by omega) (by omega)) (ldn (by omega) (hL.2.1 i1 (by omega))) dX3_pairsOfWorlds_39 ?_
          obtain ⟨x_16, ex_16⟩ : ∃ z : Int32, x_14 <<< ((nI (pcs cf i1)) &&& 31) = z := ⟨_, rfl⟩
          refine ww_ishl (v := x_16) C dX3_pairsOfWorlds_40 ex_16 ?_
          obtain ⟨x_17, ex_17⟩ : ∃ z : Int32, ac ||| x_16 = z := ⟨_, rfl⟩
          refine ww_ior (v := x_17) C dX3_pairsOfWorlds_41 ex_17 ?_
          refine ww_istore_n (lv' := [(2, .int x_17), (3, .int (nI i1)), (0, .ref ly), (1, .int bs)]) C dX3_pairsOfWorlds_42 rfl rfl rfl ?_
          refine ww_iinc (j := 1) (v := (nI (i1 + 1))) (lv' := [(3, .int (nI (i1 + 1))), (2, .int x_17), (0, .ref ly), (1, .int bs)]) C dX3_pairsOfWorlds_43 rfl (nI_add i1 1) rfl rfl ?_
          refine ww_goto (tgt := 4) C dX3_pairsOfWorlds_46 (by decide) ?_
          exact ww_lv [0, 1, 2, 3] rfl (ww_sub [0, 1, 2] rfl rfl (ih_4 (i1 + 1) x_17 (by omega) (PWx.t hpw (by omega) h_3 (by have h9 := cb_mono PP (show 4 * i1 + 4 ≤ 4 * n by omega); have h8 := hL.2.2; have h7 := ly_w hM n (Nat.le_refl _); omega) (ly_w hM i1 (by omega)) (ly_cb hM (by omega) (by omega)) (cb_le _ _) ex_13 ex_14 ex_16 ex_17) (by omega)))
        · refine an2 hw ?_
          clear hw
          intro he_7 he_8 hw
          have h_6 := hw
          clear hw
          have he_7 := he_7.symm
          subst he_7
          subst he_8
          refine ww_eq (ws' := [(ly, .inr (3, [.ref lym, .int (nI Pp), .int (nI n), .ref lyc, .ref lyf, .ref lyq])), (lyc, .inl (E.2.1 1, 24, .inl cf)), (lyf, .inl (E.2.1 1, 24, .inl ff))]) ?_ rfl rfl rfl
          refine ww_if_eq_t (tgt := 43) C dX3_pairsOfWorlds_17 (by decide) (rfl) ?_
          refine ww_iinc (j := 0) (v := (nI (i1 + 1))) (lv' := [(3, .int (nI (i1 + 1))), (2, .int ac), (0, .ref ly), (1, .int bs)]) C dX3_pairsOfWorlds_43 rfl (nI_add i1 1) rfl rfl ?_
          refine ww_goto (tgt := 4) C dX3_pairsOfWorlds_46 (by decide) ?_
          exact ww_lv [0, 1, 2, 3] rfl (ww_sub [0, 1, 2] rfl rfl (ih_4 (i1 + 1) ac (by omega) (PWx.f hpw (by omega) h_6) (by omega)))
  exact ww_lv [0, 1, 2, 3] rfl (ww_sub [0, 1, 2] rfl rfl (loop_4 _ 0 0 (by omega) (PWx.nil (M := n)) (Nat.lt_succ_self _)))
theorem dX3_pairsOfCases_0 : decode cX3_pairsOfCases 0 = .ok (.iconst 0, 1) := dl_3 (by decide +kernel)
theorem dX3_pairsOfCases_1 : decode cX3_pairsOfCases 1 = .ok (.istore_n 2, 1) := dl_61 (by decide +kernel)
theorem dX3_pairsOfCases_2 : decode cX3_pairsOfCases 2 = .ok (.iconst 0, 1) := dl_3 (by decide +kernel)
theorem dX3_pairsOfCases_3 : decode cX3_pairsOfCases 3 = .ok (.istore_n 3, 1) := dl_62 (by decide +kernel)
theorem dX3_pairsOfCases_4 : decode cX3_pairsOfCases 4 = .ok (.iload_n 3, 1) := dl_29 (by decide +kernel)
theorem dX3_pairsOfCases_5 : decode cX3_pairsOfCases 5 = .ok (.iconst 4, 1) := dl_7 (by decide +kernel)
theorem dX3_pairsOfCases_6 : decode cX3_pairsOfCases 6 = .ok (.if_icmp .ge 26, 3) := dl_162 (by decide +kernel)
theorem dX3_pairsOfCases_32 : decode cX3_pairsOfCases 32 = .ok (.iload_n 2, 1) := dl_28 (by decide +kernel)
theorem dX3_pairsOfCases_33 : decode cX3_pairsOfCases 33 = .ok (.ireturn, 1) := dl_172 (by decide +kernel)
theorem dX3_pairsOfCases_9 : decode cX3_pairsOfCases 9 = .ok (.iload_n 1, 1) := dl_27 (by decide +kernel)
theorem dX3_pairsOfCases_10 : decode cX3_pairsOfCases 10 = .ok (.iload_n 3, 1) := dl_29 (by decide +kernel)
theorem dX3_pairsOfCases_11 : decode cX3_pairsOfCases 11 = .ok (.invokestatic 63, 3) := dl_184 (by decide +kernel)
theorem dX3_pairsOfCases_14 : decode cX3_pairsOfCases 14 = .ok (.ifCond .eq 12, 3) := dl_153 (by decide +kernel)
theorem dX3_pairsOfCases_17 : decode cX3_pairsOfCases 17 = .ok (.iload_n 2, 1) := dl_28 (by decide +kernel)
theorem dX3_pairsOfCases_18 : decode cX3_pairsOfCases 18 = .ok (.aload_n 0, 1) := dl_42 (by decide +kernel)
theorem dX3_pairsOfCases_19 : decode cX3_pairsOfCases 19 = .ok (.getfield 25, 3) := dl_180 (by decide +kernel)
theorem wf_X3_25 : Cond.fieldLink RX3 25 RX3 "pairsOfCase" "[I" ∈ TB := tbm (tq1 (List.mem_of_getElem? (i := 198) (by decide +kernel))) (by decide +kernel)
theorem fg_X3_25 : FG RX3 25 3 5 := ⟨RX3, TX3, 6, uw_X3, wf_X3_25, rfl, by decide, rfl⟩
theorem dX3_pairsOfCases_22 : decode cX3_pairsOfCases 22 = .ok (.iload_n 3, 1) := dl_29 (by decide +kernel)
theorem dX3_pairsOfCases_23 : decode cX3_pairsOfCases 23 = .ok (.iaload, 1) := dl_46 (by decide +kernel)
theorem dX3_pairsOfCases_24 : decode cX3_pairsOfCases 24 = .ok (.ior, 1) := dl_128 (by decide +kernel)
theorem dX3_pairsOfCases_25 : decode cX3_pairsOfCases 25 = .ok (.istore_n 2, 1) := dl_61 (by decide +kernel)
theorem dX3_pairsOfCases_26 : decode cX3_pairsOfCases 26 = .ok (.iinc 3 1, 3) := dl_132 (by decide +kernel)
theorem dX3_pairsOfCases_29 : decode cX3_pairsOfCases 29 = .ok (.goto (-25), 3) := dl_167 (by decide +kernel)
set_option maxRecDepth 100000 in
set_option maxHeartbeats 4000000 in
theorem l_pairsOfCases (l : Launch) (E : EV) (ro : va_W) (ly : Nat) (bs : Int32) (lym : Nat) (Pp : Nat) (n : Nat) (lyc : Nat) (lyf : Nat) (lyq : Nat) (fq : Nat → Int32) (PP : Nat → Bool) (hQ : PQx PP (4 * n) (4 * n) fq) : CT l yX3_pairsOfCases (Cond.code yX3_pairsOfCases cX3_pairsOfCases 4 (some .int) :: TB) ({ frames := 1, cells := 0, slots := 0, locals := 21 }) E ro [.ref ly, .int bs] [(ly, .inr (3, [.ref lym, .int (nI Pp), .int (nI n), .ref lyc, .ref lyf, .ref lyq])), (lyq, .inl (E.2.1 1, 4, .inl fq))] (Qi E (fun (rz : Int32) uz => (uz = [(ly, .inr (3, [.ref lym, .int (nI Pp), .int (nI n), .ref lyc, .ref lyf, .ref lyq])), (lyq, .inl (E.2.1 1, 4, .inl fq))] ∧ (PCx PP (4 * n) (4 * n) bs 4 rz)))) 0 0 := by
  refine ct_of rfl rfl ?_
  intro X C hT hin hro
  show WW X 4 E 0 [(0, .ref ly), (1, .int bs)] [] [(ly, .inr (3, [.ref lym, .int (nI Pp), .int (nI n), .ref lyc, .ref lyf, .ref lyq])), (lyq, .inl (E.2.1 1, 4, .inl fq))] 0 0
  refine ww_iconst (v := 0) C dX3_pairsOfCases_0 rfl ?_
  refine ww_istore_n (lv' := [(2, .int 0), (0, .ref ly), (1, .int bs)]) C dX3_pairsOfCases_1 rfl rfl rfl ?_
  refine ww_iconst (v := 0) C dX3_pairsOfCases_2 rfl ?_
  refine ww_istore_n (lv' := [(3, .int 0), (2, .int 0), (0, .ref ly), (1, .int bs)]) C dX3_pairsOfCases_3 rfl rfl rfl ?_
  have loop_4 : ∀ (fu : Nat) (i1 : Nat) (ac : Int32), (i1 ≤ 4) → (PCx PP (4 * n) (4 * n) bs i1 ac) → 4 - i1 < fu → WW X 4 E 4 [(3, .int (nI i1)), (2, .int ac), (0, .ref ly), (1, .int bs)] [] [(ly, .inr (3, [.ref lym, .int (nI Pp), .int (nI n), .ref lyc, .ref lyf, .ref lyq])), (lyq, .inl (E.2.1 1, 4, .inl fq))] 0 0 := by
    intro fu
    induction fu with
    | zero => intro i1 ac hi1 hpc hmeas; exact absurd hmeas (Nat.not_lt_zero _)
    | succ fu ih_4 =>
      intro i1 ac hi1 hpc hmeas
      refine ww_iload_n C dX3_pairsOfCases_4 0 rfl rfl ?_
      refine ww_iconst (v := 4) C dX3_pairsOfCases_5 rfl ?_
      refine ww_icmp_ge (tgt := 32) C dX3_pairsOfCases_6 (by decide) (fun c_1 => ?_) (fun c_1 => ?_)
      · have zc_1 : ((i1 : Nat) : Int) ≥ 4 := i_le rfl (nI_toInt (n := i1) (by omega)) c_1
        refine ww_iload_n C dX3_pairsOfCases_32 1 rfl rfl ?_
        exact ww_iret (u := [(ly, .inr (3, [.ref lym, .int (nI Pp), .int (nI n), .ref lyc, .ref lyf, .ref lyq])), (lyq, .inl (E.2.1 1, 4, .inl fq))]) C hT [0, 1] rfl rfl rfl rfl dX3_pairsOfCases_33 (⟨rfl, (by have h9 : i1 = 4 := (by omega); rw [h9] at hpc; exact hpc)⟩)
      · have zc_1 : ((i1 : Nat) : Int) < 4 := i_nle rfl (nI_toInt (n := i1) (by omega)) c_1
        refine ww_iload_n C dX3_pairsOfCases_9 3 rfl rfl ?_
        refine ww_iload_n C dX3_pairsOfCases_10 0 rfl rfl ?_
        refine ww_ci (wr := [(ly, .inr (3, [.ref lym, .int (nI Pp), .int (nI n), .ref lyc, .ref lyf, .ref lyq])), (lyq, .inl (E.2.1 1, 4, .inl fq))]) (k' := 0) (n' := 0) C (run_SN (As := [.int bs, .int (nI i1)]) (rest := []) C (c_hasN X.2.1 E ro bs i1 (by omega)) ms_X11_has (List.mem_of_getElem? (i := 16) rfl) rfl rfl rfl rfl dX3_pairsOfCases_11) (roK hro) [] [0, 1] rfl rfl rfl rfl (fun r_2 uz hw => ?_)
        rcases hw with hw | hw
        · refine an2 hw ?_
          clear hw
          intro he_4 he_5 hw
          have h_3 := hw
          clear hw
          have he_4 := he_4.symm
          subst he_4
          subst he_5
          refine ww_eq (ws' := [(ly, .inr (3, [.ref lym, .int (nI Pp), .int (nI n), .ref lyc, .ref lyf, .ref lyq])), (lyq, .inl (E.2.1 1, 4, .inl fq))]) ?_ rfl rfl rfl
          refine ww_if_eq_f (tgt := 26) C dX3_pairsOfCases_14 (by decide) (by decide) ?_
          refine ww_iload_n C dX3_pairsOfCases_17 1 rfl rfl ?_
          refine ww_aload_n C dX3_pairsOfCases_18 2 rfl rfl ?_
          refine ww_get C fg_X3_25 0 rfl rfl dX3_pairsOfCases_19 ?_
          refine ww_iload_n C dX3_pairsOfCases_22 0 rfl rfl ?_
          obtain ⟨x_9, ex_9⟩ : ∃ z : Int32, fq i1 = z := ⟨_, rfl⟩
          refine ww_iald (v := x_9) C 1 rfl (vp_in_nI (by omega) (by omega)) (ldn (by omega) ex_9) dX3_pairsOfCases_23 ?_
          obtain ⟨x_10, ex_10⟩ : ∃ z : Int32, ac ||| x_9 = z := ⟨_, rfl⟩
          refine ww_ior (v := x_10) C dX3_pairsOfCases_24 ex_10 ?_
          refine ww_istore_n (lv' := [(2, .int x_10), (3, .int (nI i1)), (0, .ref ly), (1, .int bs)]) C dX3_pairsOfCases_25 rfl rfl rfl ?_
          refine ww_iinc (j := 1) (v := (nI (i1 + 1))) (lv' := [(3, .int (nI (i1 + 1))), (2, .int x_10), (0, .ref ly), (1, .int bs)]) C dX3_pairsOfCases_26 rfl (nI_add i1 1) rfl rfl ?_
          refine ww_goto (tgt := 4) C dX3_pairsOfCases_29 (by decide) ?_
          exact ww_lv [0, 1, 2, 3] rfl (ww_sub [0, 1] rfl rfl (ih_4 (i1 + 1) x_10 (by omega) (PCx.t hpc hQ (by omega) h_3 ex_9 ex_10) (by omega)))
        · refine an2 hw ?_
          clear hw
          intro he_7 he_8 hw
          have h_6 := hw
          clear hw
          have he_7 := he_7.symm
          subst he_7
          subst he_8
          refine ww_eq (ws' := [(ly, .inr (3, [.ref lym, .int (nI Pp), .int (nI n), .ref lyc, .ref lyf, .ref lyq])), (lyq, .inl (E.2.1 1, 4, .inl fq))]) ?_ rfl rfl rfl
          refine ww_if_eq_t (tgt := 26) C dX3_pairsOfCases_14 (by decide) (rfl) ?_
          refine ww_iinc (j := 0) (v := (nI (i1 + 1))) (lv' := [(3, .int (nI (i1 + 1))), (2, .int ac), (0, .ref ly), (1, .int bs)]) C dX3_pairsOfCases_26 rfl (nI_add i1 1) rfl rfl ?_
          refine ww_goto (tgt := 4) C dX3_pairsOfCases_29 (by decide) ?_
          exact ww_lv [0, 1, 2, 3] rfl (ww_sub [0, 1] rfl rfl (ih_4 (i1 + 1) ac (by omega) (PCx.f hpc h_6) (by omega)))
  exact ww_lv [0, 1, 2, 3] rfl (ww_sub [0, 1] rfl rfl (loop_4 _ 0 0 (by omega) (PCx.nil (M := 4 * n)) (Nat.lt_succ_self _)))
theorem dX3_holdPairs_0 : decode cX3_holdPairs 0 = .ok (.aload_n 0, 1) := dl_42 (by decide +kernel)
theorem dX3_holdPairs_1 : decode cX3_holdPairs 1 = .ok (.aload_n 1, 1) := dl_43 (by decide +kernel)
theorem dX3_holdPairs_2 : decode cX3_holdPairs 2 = .ok (.iload_n 3, 1) := dl_29 (by decide +kernel)
theorem dX3_holdPairs_3 : decode cX3_holdPairs 3 = .ok (.iload 4, 2) := dl_21 (by decide +kernel)
theorem dX3_holdPairs_5 : decode cX3_holdPairs 5 = .ok (.invokevirtual 96, 3) := dl_182 (by decide +kernel)
theorem wl_X3_96 : Cond.methodLink RX3 96 yX4_held ∈ TB := tbm (tq4 (List.mem_of_getElem? (i := 25) (by decide +kernel))) (by decide +kernel)
theorem dX3_holdPairs_8 : decode cX3_holdPairs 8 = .ok (.invokevirtual 99, 3) := dl_182 (by decide +kernel)
theorem wl_X3_99 : Cond.methodLink RX3 99 yX3_pairsOfWorlds ∈ TB := tbm (tq4 (List.mem_of_getElem? (i := 26) (by decide +kernel))) (by decide +kernel)
theorem wc_X3_pairsOfWorlds : Cond.code yX3_pairsOfWorlds cX3_pairsOfWorlds 4 (some .int) ∈ TB := tbm (tq4 (List.mem_of_getElem? (i := 29) (rfl))) (by decide +kernel)
theorem wn_X3 : Cond.initialized RX3 ∈ TB := tbm (tq1 (List.mem_of_getElem? (i := 7) (by decide +kernel))) (by decide +kernel)
theorem wi_X3_pairsOfWorlds : Cond.instanceMethod yX3_pairsOfWorlds ∈ TB := tbm (tq4 (List.mem_of_getElem? (i := 28) (by decide +kernel))) (by decide +kernel)
theorem ws_X3_pairsOfWorlds : Cond.selects RX3 yX3_pairsOfWorlds yX3_pairsOfWorlds ∈ TB := tbm (tq0 (List.mem_of_getElem? (i := 18) (by decide +kernel))) (by decide +kernel)
theorem mi_X3_pairsOfWorlds : MI yX3_pairsOfWorlds cX3_pairsOfWorlds 4 (some .int) 1 := ⟨wc_X3_pairsOfWorlds, wn_X3, ⟨by decide +kernel, by decide +kernel, by decide +kernel⟩, wi_X3_pairsOfWorlds, ws_X3_pairsOfWorlds⟩
theorem dX3_holdPairs_11 : decode cX3_holdPairs 11 = .ok (.istore 5, 2) := dl_54 (by decide +kernel)
theorem dX3_holdPairs_13 : decode cX3_holdPairs 13 = .ok (.iconst 0, 1) := dl_3 (by decide +kernel)
theorem dX3_holdPairs_14 : decode cX3_holdPairs 14 = .ok (.istore 6, 2) := dl_54 (by decide +kernel)
theorem dX3_holdPairs_16 : decode cX3_holdPairs 16 = .ok (.iload 6, 2) := dl_21 (by decide +kernel)
theorem dX3_holdPairs_18 : decode cX3_holdPairs 18 = .ok (.aload_n 2, 1) := dl_44 (by decide +kernel)
theorem dX3_holdPairs_19 : decode cX3_holdPairs 19 = .ok (.getfield 35, 3) := dl_180 (by decide +kernel)
theorem dX3_holdPairs_22 : decode cX3_holdPairs 22 = .ok (.if_icmp .ge 63, 3) := dl_162 (by decide +kernel)
theorem dX3_holdPairs_85 : decode cX3_holdPairs 85 = .ok (.return_, 1) := dl_177 (by decide +kernel)
theorem dX3_holdPairs_25 : decode cX3_holdPairs 25 = .ok (.aload_n 0, 1) := dl_42 (by decide +kernel)
theorem dX3_holdPairs_26 : decode cX3_holdPairs 26 = .ok (.iload 4, 2) := dl_21 (by decide +kernel)
theorem dX3_holdPairs_28 : decode cX3_holdPairs 28 = .ok (.iload 6, 2) := dl_21 (by decide +kernel)
theorem dX3_holdPairs_30 : decode cX3_holdPairs 30 = .ok (.invokevirtual 70, 3) := dl_182 (by decide +kernel)
theorem wl_X3_70 : Cond.methodLink RX3 70 yX3_lets ∈ TB := tbm (tq4 (List.mem_of_getElem? (i := 11) (by decide +kernel))) (by decide +kernel)
theorem wc_X3_lets : Cond.code yX3_lets cX3_lets 3 (some .boolean) ∈ TB := tbm (tq4 (List.mem_of_getElem? (i := 14) (rfl))) (by decide +kernel)
theorem wi_X3_lets : Cond.instanceMethod yX3_lets ∈ TB := tbm (tq4 (List.mem_of_getElem? (i := 12) (by decide +kernel))) (by decide +kernel)
theorem ws_X3_lets : Cond.selects RX3 yX3_lets yX3_lets ∈ TB := tbm (tq4 (List.mem_of_getElem? (i := 13) (by decide +kernel))) (by decide +kernel)
theorem mi_X3_lets : MI yX3_lets cX3_lets 3 (some .boolean) 2 := ⟨wc_X3_lets, wn_X3, ⟨by decide +kernel, by decide +kernel, by decide +kernel⟩, wi_X3_lets, ws_X3_lets⟩
theorem dX3_holdPairs_33 : decode cX3_holdPairs 33 = .ok (.ifCond .eq 46, 3) := dl_153 (by decide +kernel)
theorem dX3_holdPairs_36 : decode cX3_holdPairs 36 = .ok (.aload_n 0, 1) := dl_42 (by decide +kernel)
theorem dX3_holdPairs_37 : decode cX3_holdPairs 37 = .ok (.aload_n 2, 1) := dl_44 (by decide +kernel)
theorem dX3_holdPairs_38 : decode cX3_holdPairs 38 = .ok (.getfield 102, 3) := dl_180 (by decide +kernel)
theorem wf_X3_102 : Cond.fieldLink RX3 102 RX0 "possible" "[I" ∈ TB := tbm (tq1 (List.mem_of_getElem? (i := 166) (by decide +kernel))) (by decide +kernel)
theorem fg_X3_102 : FG RX3 102 0 5 := ⟨RX0, TX0, 6, uw_X0, wf_X3_102, rfl, by decide, rfl⟩
theorem dX3_holdPairs_41 : decode cX3_holdPairs 41 = .ok (.iload_n 3, 1) := dl_29 (by decide +kernel)
theorem dX3_holdPairs_42 : decode cX3_holdPairs 42 = .ok (.iconst 4, 1) := dl_7 (by decide +kernel)
theorem dX3_holdPairs_43 : decode cX3_holdPairs 43 = .ok (.imul, 1) := dl_104 (by decide +kernel)
theorem dX3_holdPairs_44 : decode cX3_holdPairs 44 = .ok (.iload 6, 2) := dl_21 (by decide +kernel)
theorem dX3_holdPairs_46 : decode cX3_holdPairs 46 = .ok (.iadd, 1) := dl_96 (by decide +kernel)
theorem dX3_holdPairs_47 : decode cX3_holdPairs 47 = .ok (.iaload, 1) := dl_46 (by decide +kernel)
theorem dX3_holdPairs_48 : decode cX3_holdPairs 48 = .ok (.invokevirtual 105, 3) := dl_182 (by decide +kernel)
theorem wl_X3_105 : Cond.methodLink RX3 105 yX3_pairsOfCases ∈ TB := tbm (tq4 (List.mem_of_getElem? (i := 30) (by decide +kernel))) (by decide +kernel)
theorem wc_X3_pairsOfCases : Cond.code yX3_pairsOfCases cX3_pairsOfCases 4 (some .int) ∈ TB := tbm (tq4 (List.mem_of_getElem? (i := 33) (rfl))) (by decide +kernel)
theorem wi_X3_pairsOfCases : Cond.instanceMethod yX3_pairsOfCases ∈ TB := tbm (tq4 (List.mem_of_getElem? (i := 32) (by decide +kernel))) (by decide +kernel)
theorem ws_X3_pairsOfCases : Cond.selects RX3 yX3_pairsOfCases yX3_pairsOfCases ∈ TB := tbm (tq0 (List.mem_of_getElem? (i := 19) (by decide +kernel))) (by decide +kernel)
theorem mi_X3_pairsOfCases : MI yX3_pairsOfCases cX3_pairsOfCases 4 (some .int) 1 := ⟨wc_X3_pairsOfCases, wn_X3, ⟨by decide +kernel, by decide +kernel, by decide +kernel⟩, wi_X3_pairsOfCases, ws_X3_pairsOfCases⟩
theorem dX3_holdPairs_51 : decode cX3_holdPairs 51 = .ok (.istore 7, 2) := dl_54 (by decide +kernel)
theorem dX3_holdPairs_53 : decode cX3_holdPairs 53 = .ok (.aload_n 0, 1) := dl_42 (by decide +kernel)
theorem dX3_holdPairs_54 : decode cX3_holdPairs 54 = .ok (.getfield 12, 3) := dl_180 (by decide +kernel)
theorem wf_X3_12 : Cond.fieldLink RX3 12 RX3 "behind" "LWhoKnows$Model;" ∈ TB := tbm (tq1 (List.mem_of_getElem? (i := 187) (by decide +kernel))) (by decide +kernel)
theorem fg_X3_12 : FG RX3 12 3 0 := ⟨RX3, TX3, 6, uw_X3, wf_X3_12, rfl, by decide, rfl⟩
theorem dX3_holdPairs_57 : decode cX3_holdPairs 57 = .ok (.getfield 108, 3) := dl_180 (by decide +kernel)
theorem wf_X3_108 : Cond.fieldLink RX3 108 RX4 "possible" "[I" ∈ TB := tbm (tq1 (List.mem_of_getElem? (i := 50) (by decide +kernel))) (by decide +kernel)
theorem fg_X3_108 : FG RX3 108 4 3 := ⟨RX4, TX4, 4, uw_X4, wf_X3_108, rfl, by decide, rfl⟩
theorem dX3_holdPairs_60 : decode cX3_holdPairs 60 = .ok (.iload_n 3, 1) := dl_29 (by decide +kernel)
theorem dX3_holdPairs_61 : decode cX3_holdPairs 61 = .ok (.bipush 24, 2) := dl_16 (by decide +kernel)
theorem dX3_holdPairs_63 : decode cX3_holdPairs 63 = .ok (.imul, 1) := dl_104 (by decide +kernel)
theorem dX3_holdPairs_64 : decode cX3_holdPairs 64 = .ok (.aload_n 0, 1) := dl_42 (by decide +kernel)
theorem dX3_holdPairs_65 : decode cX3_holdPairs 65 = .ok (.iload 4, 2) := dl_21 (by decide +kernel)
theorem dX3_holdPairs_67 : decode cX3_holdPairs 67 = .ok (.iload 6, 2) := dl_21 (by decide +kernel)
theorem dX3_holdPairs_69 : decode cX3_holdPairs 69 = .ok (.invokevirtual 93, 3) := dl_182 (by decide +kernel)
theorem wl_X3_93 : Cond.methodLink RX3 93 yX3_pair ∈ TB := tbm (tq4 (List.mem_of_getElem? (i := 34) (by decide +kernel))) (by decide +kernel)
theorem wc_X3_pair : Cond.code yX3_pair cX3_pair 3 (some .int) ∈ TB := tbm (tq4 (List.mem_of_getElem? (i := 37) (rfl))) (by decide +kernel)
theorem wi_X3_pair : Cond.instanceMethod yX3_pair ∈ TB := tbm (tq4 (List.mem_of_getElem? (i := 36) (by decide +kernel))) (by decide +kernel)
theorem ws_X3_pair : Cond.selects RX3 yX3_pair yX3_pair ∈ TB := tbm (tq0 (List.mem_of_getElem? (i := 20) (by decide +kernel))) (by decide +kernel)
theorem mi_X3_pair : MI yX3_pair cX3_pair 3 (some .int) 2 := ⟨wc_X3_pair, wn_X3, ⟨by decide +kernel, by decide +kernel, by decide +kernel⟩, wi_X3_pair, ws_X3_pair⟩
theorem dX3_holdPairs_72 : decode cX3_holdPairs 72 = .ok (.iadd, 1) := dl_96 (by decide +kernel)
theorem dX3_holdPairs_73 : decode cX3_holdPairs 73 = .ok (.iload 5, 2) := dl_21 (by decide +kernel)
theorem dX3_holdPairs_75 : decode cX3_holdPairs 75 = .ok (.iload 7, 2) := dl_21 (by decide +kernel)
theorem dX3_holdPairs_77 : decode cX3_holdPairs 77 = .ok (.iand, 1) := dl_126 (by decide +kernel)
theorem dX3_holdPairs_78 : decode cX3_holdPairs 78 = .ok (.iastore, 1) := dl_79 (by decide +kernel)
theorem dX3_holdPairs_79 : decode cX3_holdPairs 79 = .ok (.iinc 6 1, 3) := dl_132 (by decide +kernel)
theorem dX3_holdPairs_82 : decode cX3_holdPairs 82 = .ok (.goto (-66), 3) := dl_167 (by decide +kernel)
set_option maxRecDepth 100000 in
set_option maxHeartbeats 4000000 in
theorem l_holdPairs (l : Launch) (E : EV) (ro : va_W) (ly : Nat) (h : Nat) (e : Nat) (k : Nat) (w : Nat) (lym : Nat) (Pp : Nat) (n : Nat) (lyc : Nat) (lyf : Nat) (lyq : Nat) (cf : Nat → Int32) (ff : Nat → Int32) (fq : Nat → Int32) (bn : Nat) (br : Nat) (lyx : Nat) (lyy : Nat) (bf : Nat → Int32) (bg : Nat → Int32) (r : Nat) (a : Nat) (b : Nat) (f : Nat → Int32) (gg : Nat → Int32) (ecs : Nat) (erc : Nat) (eT : Nat → Option SVal) (efb : Nat → Int32) (efc : Nat → Int32) (efd : Nat → Int32) (hn : n ≤ 24) (hr : r < n ∨ r = 0) (hev : EVr E ro e ecs erc eT efb efc efd) (hL : LYR n cf ff Pp) (hP : Pp ≤ 24) (hk : k < 4) (hw : w < n) (hM : LYM n (lyP (am n r f gg) (ecs, erc, eT, efb, efc, efd)) cf) (hQ : PQx (lyP (am n r f gg) (ecs, erc, eT, efb, efc, efd)) (4 * n) (4 * n) fq) (hPR : PRx (lyP (am n r f gg) (ecs, erc, eT, efb, efc, efd)) (4 * n) k (4 * w) (lyR (am n r f gg) (ecs, erc, eT, efb, efc, efd)) bg) : CT l yX3_holdPairs (Cond.code yX3_holdPairs cX3_holdPairs 8 none :: TB) ({ frames := 2, cells := 0, slots := 0, locals := 44 }) E ro [.ref ly, .ref h, .ref e, .int (nI k), .int (nI w)] [(ly, .inr (3, [.ref lym, .int (nI Pp), .int (nI n), .ref lyc, .ref lyf, .ref lyq])), (lyc, .inl (E.2.1 1, 24, .inl cf)), (lyf, .inl (E.2.1 1, 24, .inl ff)), (lyq, .inl (E.2.1 1, 4, .inl fq)), (lym, .inr (4, [.int (nI bn), .int (nI br), .ref lyx, .ref lyy])), (lyx, .inl (E.2.1 1, 24, .inl bf)), (lyy, .inl (E.2.1 1, 96, .inl bg)), (h, .inr (4, [.int (nI n), .int (nI r), .ref a, .ref b])), (a, .inl (E.2.1 1, 24, .inl f)), (b, .inl (E.2.1 1, 96, .inl gg))] (Qv E (fun uz => (∃ (bg2 : Nat → Int32), uz = [(ly, .inr (3, [.ref lym, .int (nI Pp), .int (nI n), .ref lyc, .ref lyf, .ref lyq])), (lyc, .inl (E.2.1 1, 24, .inl cf)), (lyf, .inl (E.2.1 1, 24, .inl ff)), (lyq, .inl (E.2.1 1, 4, .inl fq)), (lym, .inr (4, [.int (nI bn), .int (nI br), .ref lyx, .ref lyy])), (lyx, .inl (E.2.1 1, 24, .inl bf)), (lyy, .inl (E.2.1 1, 96, .inl bg2)), (h, .inr (4, [.int (nI n), .int (nI r), .ref a, .ref b])), (a, .inl (E.2.1 1, 24, .inl f)), (b, .inl (E.2.1 1, 96, .inl gg))] ∧ (PRx (lyP (am n r f gg) (ecs, erc, eT, efb, efc, efd)) (4 * n) k (4 * w + 4) (lyR (am n r f gg) (ecs, erc, eT, efb, efc, efd)) bg2)))) 0 0 := by
  refine ct_of rfl rfl ?_
  intro X C hT hin hro
  show WW X 8 E 0 [(0, .ref ly), (1, .ref h), (2, .ref e), (3, .int (nI k)), (4, .int (nI w))] [] [(ly, .inr (3, [.ref lym, .int (nI Pp), .int (nI n), .ref lyc, .ref lyf, .ref lyq])), (lyc, .inl (E.2.1 1, 24, .inl cf)), (lyf, .inl (E.2.1 1, 24, .inl ff)), (lyq, .inl (E.2.1 1, 4, .inl fq)), (lym, .inr (4, [.int (nI bn), .int (nI br), .ref lyx, .ref lyy])), (lyx, .inl (E.2.1 1, 24, .inl bf)), (lyy, .inl (E.2.1 1, 96, .inl bg)), (h, .inr (4, [.int (nI n), .int (nI r), .ref a, .ref b])), (a, .inl (E.2.1 1, 24, .inl f)), (b, .inl (E.2.1 1, 96, .inl gg))] 0 0
  obtain ⟨i0y_1, i1y_1, i2y_1, i3y_1, i4y_1, cay_1, cby_1, ccy_1, cdy_1, fiy_1, g0y_1, g1y_1, g2y_1, g3y_1, g4y_1, hcsy_1, hrcy_1, hfiy_1⟩ := id hev
  have hecs := hev.cs
  have herc := hev.rc
  refine ww_aload_n C dX3_holdPairs_0 0 rfl rfl ?_
  refine ww_aload_n C dX3_holdPairs_1 1 rfl rfl ?_
  refine ww_iload_n C dX3_holdPairs_2 3 rfl rfl ?_
  refine ww_iload C dX3_holdPairs_3 4 rfl ?_
  refine ww_ci (wr := [(ly, .inr (3, [.ref lym, .int (nI Pp), .int (nI n), .ref lyc, .ref lyf, .ref lyq])), (lyc, .inl (E.2.1 1, 24, .inl cf)), (lyf, .inl (E.2.1 1, 24, .inl ff)), (lyq, .inl (E.2.1 1, 4, .inl fq)), (lym, .inr (4, [.int (nI bn), .int (nI br), .ref lyx, .ref lyy])), (lyx, .inl (E.2.1 1, 24, .inl bf)), (lyy, .inl (E.2.1 1, 96, .inl bg))]) (k' := 0) (n' := 0) C (run_V (As := [.int (nI k), .int (nI w)]) (rest := [.ref ly]) C (m_held X.2.1 E ro h k w n r a b f gg (by omega) (by omega)) mi_X4_held wl_X3_96 rfl 0 4 rfl rfl rfl rfl rfl dX3_holdPairs_5) (roK hro) [7, 8, 9] [0, 1, 2, 3, 4, 5, 6] rfl rfl (plk (by decide +kernel)) rfl (fun r_2 uz hw => ?_)
  refine an1 hw ?_
  clear hw
  intro he_3 hw
  have he_4 := hw
  clear hw
  have he_3 := he_3.symm
  subst he_3
  subst he_4
  refine ww_eq (ws' := [(ly, .inr (3, [.ref lym, .int (nI Pp), .int (nI n), .ref lyc, .ref lyf, .ref lyq])), (lyc, .inl (E.2.1 1, 24, .inl cf)), (lyf, .inl (E.2.1 1, 24, .inl ff)), (lyq, .inl (E.2.1 1, 4, .inl fq)), (lym, .inr (4, [.int (nI bn), .int (nI br), .ref lyx, .ref lyy])), (lyx, .inl (E.2.1 1, 24, .inl bf)), (lyy, .inl (E.2.1 1, 96, .inl bg)), (h, .inr (4, [.int (nI n), .int (nI r), .ref a, .ref b])), (a, .inl (E.2.1 1, 24, .inl f)), (b, .inl (E.2.1 1, 96, .inl gg))]) ?_ rfl rfl rfl
  refine ww_ci (wr := [(lyq, .inl (E.2.1 1, 4, .inl fq)), (lym, .inr (4, [.int (nI bn), .int (nI br), .ref lyx, .ref lyy])), (lyx, .inl (E.2.1 1, 24, .inl bf)), (lyy, .inl (E.2.1 1, 96, .inl bg)), (h, .inr (4, [.int (nI n), .int (nI r), .ref a, .ref b])), (a, .inl (E.2.1 1, 24, .inl f)), (b, .inl (E.2.1 1, 96, .inl gg))]) (k' := 0) (n' := 0) C (run_V (As := [.int (gg (k * 24 + w))]) (rest := []) C (l_pairsOfWorlds X.2.1 E ro ly (gg (k * 24 + w)) lym Pp n lyc lyf lyq cf ff (lyP (am n r f gg) (ecs, erc, eT, efb, efc, efd)) (by omega) hL hM (by omega)) mi_X3_pairsOfWorlds wl_X3_99 rfl 0 3 rfl rfl rfl rfl rfl dX3_holdPairs_8) (roK hro) [0, 1, 2] [3, 4, 5, 6, 7, 8, 9] rfl rfl (plk (by decide +kernel)) rfl (fun r_5 uz hw => ?_)
  refine an1 hw ?_
  clear hw
  intro he_7 hw
  have h_6 := hw
  clear hw
  subst he_7
  refine ww_eq (ws' := [(lyq, .inl (E.2.1 1, 4, .inl fq)), (lym, .inr (4, [.int (nI bn), .int (nI br), .ref lyx, .ref lyy])), (lyx, .inl (E.2.1 1, 24, .inl bf)), (lyy, .inl (E.2.1 1, 96, .inl bg)), (h, .inr (4, [.int (nI n), .int (nI r), .ref a, .ref b])), (a, .inl (E.2.1 1, 24, .inl f)), (b, .inl (E.2.1 1, 96, .inl gg)), (ly, .inr (3, [.ref lym, .int (nI Pp), .int (nI n), .ref lyc, .ref lyf, .ref lyq])), (lyc, .inl (E.2.1 1, 24, .inl cf)), (lyf, .inl (E.2.1 1, 24, .inl ff))]) ?_ rfl rfl rfl
  refine ww_istore (lv' := [(5, .int r_5), (0, .ref ly), (1, .ref h), (2, .ref e), (3, .int (nI k)), (4, .int (nI w))]) C dX3_holdPairs_11 rfl rfl ?_
  refine ww_iconst (v := 0) C dX3_holdPairs_13 rfl ?_
  refine ww_istore (lv' := [(6, .int 0), (5, .int r_5), (0, .ref ly), (1, .ref h), (2, .ref e), (3, .int (nI k)), (4, .int (nI w))]) C dX3_holdPairs_14 rfl rfl ?_
  have loop_16 : ∀ (fu : Nat) (i1 : Nat) (g1 : Nat → Int32), (i1 ≤ ecs) → (PRx (lyP (am n r f gg) (ecs, erc, eT, efb, efc, efd)) (4 * n) k (4 * w + i1) (lyR (am n r f gg) (ecs, erc, eT, efb, efc, efd)) g1) → ecs - i1 < fu → WW X 8 E 16 [(6, .int (nI i1)), (5, .int r_5), (0, .ref ly), (1, .ref h), (2, .ref e), (3, .int (nI k)), (4, .int (nI w))] [] [(lyq, .inl (E.2.1 1, 4, .inl fq)), (lym, .inr (4, [.int (nI bn), .int (nI br), .ref lyx, .ref lyy])), (lyx, .inl (E.2.1 1, 24, .inl bf)), (lyy, .inl (E.2.1 1, 96, .inl g1)), (h, .inr (4, [.int (nI n), .int (nI r), .ref a, .ref b])), (a, .inl (E.2.1 1, 24, .inl f)), (b, .inl (E.2.1 1, 96, .inl gg)), (ly, .inr (3, [.ref lym, .int (nI Pp), .int (nI n), .ref lyc, .ref lyf, .ref lyq])), (lyc, .inl (E.2.1 1, 24, .inl cf)), (lyf, .inl (E.2.1 1, 24, .inl ff))] 0 0 := by
    intro fu
    induction fu with
    | zero => intro i1 g1 hi1 hpr1 hmeas; exact absurd hmeas (Nat.not_lt_zero _)
    | succ fu ih_16 =>
      intro i1 g1 hi1 hpr1 hmeas
      refine ww_iload C dX3_holdPairs_16 0 rfl ?_
      refine ww_aload_n C dX3_holdPairs_18 4 rfl rfl ?_
      refine ww_getR C hro fg_X3_35 i0y_1 g0y_1 rfl dX3_holdPairs_19 ?_
      refine ww_icmp_ge (tgt := 85) C dX3_holdPairs_22 (by decide) (fun c_8 => ?_) (fun c_8 => ?_)
      · have zc_8 : ((i1 : Nat) : Int) ≥ ((ecs : Nat) : Int) := i_le (nI_toInt (n := ecs) (by omega)) (nI_toInt (n := i1) (by omega)) c_8
        exact ww_vret (u := [(ly, .inr (3, [.ref lym, .int (nI Pp), .int (nI n), .ref lyc, .ref lyf, .ref lyq])), (lyc, .inl (E.2.1 1, 24, .inl cf)), (lyf, .inl (E.2.1 1, 24, .inl ff)), (lyq, .inl (E.2.1 1, 4, .inl fq)), (lym, .inr (4, [.int (nI bn), .int (nI br), .ref lyx, .ref lyy])), (lyx, .inl (E.2.1 1, 24, .inl bf)), (lyy, .inl (E.2.1 1, 96, .inl g1)), (h, .inr (4, [.int (nI n), .int (nI r), .ref a, .ref b])), (a, .inl (E.2.1 1, 24, .inl f)), (b, .inl (E.2.1 1, 96, .inl gg))]) C hT [7, 8, 9, 0, 1, 2, 3, 4, 5, 6] (gqk (by eq_refl)) (ndk (by decide +kernel)) rfl rfl dX3_holdPairs_85 (⟨g1, rfl, (PRx.fs hpr1 (by omega) (lyP_nos (by show ecs ≤ i1; omega)))⟩)
      · have zc_8 : ((i1 : Nat) : Int) < ((ecs : Nat) : Int) := i_nle (nI_toInt (n := ecs) (by omega)) (nI_toInt (n := i1) (by omega)) c_8
        refine ww_aload_n C dX3_holdPairs_25 2 rfl rfl ?_
        refine ww_iload C dX3_holdPairs_26 6 rfl ?_
        refine ww_iload C dX3_holdPairs_28 0 rfl ?_
        refine ww_ci (wr := [(lyq, .inl (E.2.1 1, 4, .inl fq)), (lym, .inr (4, [.int (nI bn), .int (nI br), .ref lyx, .ref lyy])), (lyx, .inl (E.2.1 1, 24, .inl bf)), (lyy, .inl (E.2.1 1, 96, .inl g1)), (h, .inr (4, [.int (nI n), .int (nI r), .ref a, .ref b])), (a, .inl (E.2.1 1, 24, .inl f)), (b, .inl (E.2.1 1, 96, .inl gg)), (lyf, .inl (E.2.1 1, 24, .inl ff))]) (k' := 0) (n' := 0) C (run_V (As := [.int (nI w), .int (nI i1)]) (rest := []) C (l_lets X.2.1 E ro ly w i1 lym Pp n lyc lyf lyq cf (by omega) (by omega) (by omega) hL.1) mi_X3_lets wl_X3_70 rfl 0 3 rfl rfl rfl rfl rfl dX3_holdPairs_30) (roK hro) [7, 8] [0, 1, 2, 3, 4, 5, 6, 9] rfl (gqk (by eq_refl)) (plk (by decide +kernel)) rfl (fun r_9 uz hw => ?_)
        rcases hw with hw | hw
        · refine an3 hw ?_
          clear hw
          intro he_12 he_13 h_10 hw
          have h_11 := hw
          clear hw
          have he_12 := he_12.symm
          subst he_12
          subst he_13
          refine ww_eq (ws' := [(lyq, .inl (E.2.1 1, 4, .inl fq)), (lym, .inr (4, [.int (nI bn), .int (nI br), .ref lyx, .ref lyy])), (lyx, .inl (E.2.1 1, 24, .inl bf)), (lyy, .inl (E.2.1 1, 96, .inl g1)), (h, .inr (4, [.int (nI n), .int (nI r), .ref a, .ref b])), (a, .inl (E.2.1 1, 24, .inl f)), (b, .inl (E.2.1 1, 96, .inl gg)), (lyf, .inl (E.2.1 1, 24, .inl ff)), (ly, .inr (3, [.ref lym, .int (nI Pp), .int (nI n), .ref lyc, .ref lyf, .ref lyq])), (lyc, .inl (E.2.1 1, 24, .inl cf))]) ?_ rfl rfl rfl
          refine ww_if_eq_f (tgt := 79) C dX3_holdPairs_33 (by decide) (by decide) ?_
          have hlt_k_17 := LYR.lt hL (w := w) (c := i1) (by omega) (by omega) (by assumption)
          refine ww_aload_n C dX3_holdPairs_36 2 rfl rfl ?_
          refine ww_aload_n C dX3_holdPairs_37 4 rfl rfl ?_
          refine ww_getR C hro fg_X3_102 i0y_1 g0y_1 rfl dX3_holdPairs_38 ?_
          refine ww_iload_n C dX3_holdPairs_41 5 rfl rfl ?_
          refine ww_iconst (v := 4) C dX3_holdPairs_42 rfl ?_
          refine ww_imul (v := (nI (k * 4))) C dX3_holdPairs_43 (pk_mul k 4) ?_
          refine ww_iload C dX3_holdPairs_44 0 rfl ?_
          refine ww_iadd (v := (nI ((k * 4) + i1))) C dX3_holdPairs_46 (nI_add (k * 4) i1) ?_
          obtain ⟨x_18, ex_18⟩ : ∃ z : Int32, efd ((k * 4) + i1) = z := ⟨_, rfl⟩
          refine ww_ialdR (v := x_18) C hro i4y_1 g4y_1 (vp_in_nI (by omega) (by omega)) (ldn (by omega) ex_18) dX3_holdPairs_47 ?_
          refine ww_ci (wr := [(lym, .inr (4, [.int (nI bn), .int (nI br), .ref lyx, .ref lyy])), (lyx, .inl (E.2.1 1, 24, .inl bf)), (lyy, .inl (E.2.1 1, 96, .inl g1)), (h, .inr (4, [.int (nI n), .int (nI r), .ref a, .ref b])), (a, .inl (E.2.1 1, 24, .inl f)), (b, .inl (E.2.1 1, 96, .inl gg)), (lyf, .inl (E.2.1 1, 24, .inl ff)), (lyc, .inl (E.2.1 1, 24, .inl cf))]) (k' := 0) (n' := 0) C (run_V (As := [.int x_18]) (rest := []) C (l_pairsOfCases X.2.1 E ro ly x_18 lym Pp n lyc lyf lyq fq (lyP (am n r f gg) (ecs, erc, eT, efb, efc, efd)) hQ) mi_X3_pairsOfCases wl_X3_105 rfl 0 3 rfl rfl rfl rfl rfl dX3_holdPairs_48) (roK hro) [8, 0] [1, 2, 3, 4, 5, 6, 7, 9] rfl (gqk (by eq_refl)) (plk (by decide +kernel)) rfl (fun r_19 uz hw => ?_)
          refine an1 hw ?_
          clear hw
          intro he_21 hw
          have h_20 := hw
          clear hw
          subst he_21
          refine ww_eq (ws' := [(lym, .inr (4, [.int (nI bn), .int (nI br), .ref lyx, .ref lyy])), (lyx, .inl (E.2.1 1, 24, .inl bf)), (lyy, .inl (E.2.1 1, 96, .inl g1)), (h, .inr (4, [.int (nI n), .int (nI r), .ref a, .ref b])), (a, .inl (E.2.1 1, 24, .inl f)), (b, .inl (E.2.1 1, 96, .inl gg)), (lyf, .inl (E.2.1 1, 24, .inl ff)), (lyc, .inl (E.2.1 1, 24, .inl cf)), (ly, .inr (3, [.ref lym, .int (nI Pp), .int (nI n), .ref lyc, .ref lyf, .ref lyq])), (lyq, .inl (E.2.1 1, 4, .inl fq))]) ?_ rfl rfl rfl
          refine ww_istore (lv' := [(7, .int r_19), (6, .int (nI i1)), (5, .int r_5), (0, .ref ly), (1, .ref h), (2, .ref e), (3, .int (nI k)), (4, .int (nI w))]) C dX3_holdPairs_51 rfl rfl ?_
          refine ww_aload_n C dX3_holdPairs_53 3 rfl rfl ?_
          refine ww_get C fg_X3_12 8 rfl rfl dX3_holdPairs_54 ?_
          refine ww_get C fg_X3_108 0 rfl rfl dX3_holdPairs_57 ?_
          refine ww_iload_n C dX3_holdPairs_60 6 rfl rfl ?_
          refine ww_bipush (v := 24) C dX3_holdPairs_61 rfl ?_
          refine ww_imul (v := (nI (k * 24))) C dX3_holdPairs_63 (pk_mul k 24) ?_
          refine ww_aload_n C dX3_holdPairs_64 3 rfl rfl ?_
          refine ww_iload C dX3_holdPairs_65 7 rfl ?_
          refine ww_iload C dX3_holdPairs_67 1 rfl ?_
          refine ww_ci (wr := [(lym, .inr (4, [.int (nI bn), .int (nI br), .ref lyx, .ref lyy])), (lyx, .inl (E.2.1 1, 24, .inl bf)), (lyy, .inl (E.2.1 1, 96, .inl g1)), (h, .inr (4, [.int (nI n), .int (nI r), .ref a, .ref b])), (a, .inl (E.2.1 1, 24, .inl f)), (b, .inl (E.2.1 1, 96, .inl gg)), (lyq, .inl (E.2.1 1, 4, .inl fq))]) (k' := 0) (n' := 0) C (run_V (As := [.int (nI w), .int (nI i1)]) (rest := [.int (nI (k * 24)), .ref lyy]) C (l_pair X.2.1 E ro ly w i1 lym Pp n lyc lyf lyq cf ff (by omega) (by omega) (by omega) hL) mi_X3_pair wl_X3_93 rfl 0 3 rfl rfl rfl rfl rfl dX3_holdPairs_69) (roK hro) [8, 7, 6] [0, 1, 2, 3, 4, 5, 9] rfl rfl (plk (by decide +kernel)) rfl (fun r_22 uz hw => ?_)
          refine an1 hw ?_
          clear hw
          intro he_23 hw
          have he_24 := hw
          clear hw
          have he_23 := he_23.symm
          subst he_23
          subst he_24
          refine ww_eq (ws' := [(lym, .inr (4, [.int (nI bn), .int (nI br), .ref lyx, .ref lyy])), (lyx, .inl (E.2.1 1, 24, .inl bf)), (lyy, .inl (E.2.1 1, 96, .inl g1)), (h, .inr (4, [.int (nI n), .int (nI r), .ref a, .ref b])), (a, .inl (E.2.1 1, 24, .inl f)), (b, .inl (E.2.1 1, 96, .inl gg)), (lyq, .inl (E.2.1 1, 4, .inl fq)), (ly, .inr (3, [.ref lym, .int (nI Pp), .int (nI n), .ref lyc, .ref lyf, .ref lyq])), (lyc, .inl (E.2.1 1, 24, .inl cf)), (lyf, .inl (E.2.1 1, 24, .inl ff))]) ?_ rfl rfl rfl
          refine ww_iadd (v := (nI ((k * 24) + (pcs cf w + bi cf w i1)))) C dX3_holdPairs_72 (nI_add (k * 24) (pcs cf w + bi cf w i1)) ?_
          refine ww_iload C dX3_holdPairs_73 2 rfl ?_
          refine ww_iload C dX3_holdPairs_75 0 rfl ?_
          obtain ⟨x_25, ex_25⟩ : ∃ z : Int32, r_5 &&& r_19 = z := ⟨_, rfl⟩
          refine ww_iand (v := x_25) C dX3_holdPairs_77 ex_25 ?_
          obtain ⟨f_26, ef_26⟩ : ∃ z : Nat → Int32, upd g1 ((k * 24) + (pcs cf w + bi cf w i1)) x_25 = z := ⟨_, rfl⟩
          refine ww_iast (ws' := [(lym, .inr (4, [.int (nI bn), .int (nI br), .ref lyx, .ref lyy])), (lyx, .inl (E.2.1 1, 24, .inl bf)), (lyy, .inl (E.2.1 1, 96, .inl f_26)), (h, .inr (4, [.int (nI n), .int (nI r), .ref a, .ref b])), (a, .inl (E.2.1 1, 24, .inl f)), (b, .inl (E.2.1 1, 96, .inl gg)), (lyq, .inl (E.2.1 1, 4, .inl fq)), (ly, .inr (3, [.ref lym, .int (nI Pp), .int (nI n), .ref lyc, .ref lyf, .ref lyq])), (lyc, .inl (E.2.1 1, 24, .inl cf)), (lyf, .inl (E.2.1 1, 24, .inl ff))]) C 2 rfl (vp_in_nI (by omega) (by omega)) (ldn2 (by omega) ef_26) rfl dX3_holdPairs_78 ?_
          refine ww_iinc (j := 1) (v := (nI (i1 + 1))) (lv' := [(6, .int (nI (i1 + 1))), (7, .int r_19), (5, .int r_5), (0, .ref ly), (1, .ref h), (2, .ref e), (3, .int (nI k)), (4, .int (nI w))]) C dX3_holdPairs_79 rfl (nI_add i1 1) rfl rfl ?_
          refine ww_goto (tgt := 16) C dX3_holdPairs_82 (by decide) ?_
          exact ww_lv [0, 2, 3, 4, 5, 6, 7] rfl (ww_sub [6, 0, 1, 2, 3, 4, 5, 7, 8, 9] (ndk (by decide +kernel)) (gqk (by eq_refl)) (ih_16 (i1 + 1) f_26 (by omega) (PRx.t (i := 4 * w + i1) hpr1 (by have h8 := hL.2.2; have h7 := ly_w hM n (Nat.le_refl _); omega) (by omega) hk (by rw [← hM w i1 (by omega) (by omega)]; exact h_11) (ly_cb hM (by omega) (by omega)) (hp_row (by omega) (by omega) hk h_6 rfl h_20 ex_18 ex_25) ef_26) (by omega)))
        · refine an2 hw ?_
          clear hw
          intro he_15 he_16 hw
          have h_14 := hw
          clear hw
          have he_15 := he_15.symm
          subst he_15
          subst he_16
          refine ww_eq (ws' := [(lyq, .inl (E.2.1 1, 4, .inl fq)), (lym, .inr (4, [.int (nI bn), .int (nI br), .ref lyx, .ref lyy])), (lyx, .inl (E.2.1 1, 24, .inl bf)), (lyy, .inl (E.2.1 1, 96, .inl g1)), (h, .inr (4, [.int (nI n), .int (nI r), .ref a, .ref b])), (a, .inl (E.2.1 1, 24, .inl f)), (b, .inl (E.2.1 1, 96, .inl gg)), (lyf, .inl (E.2.1 1, 24, .inl ff)), (ly, .inr (3, [.ref lym, .int (nI Pp), .int (nI n), .ref lyc, .ref lyf, .ref lyq])), (lyc, .inl (E.2.1 1, 24, .inl cf))]) ?_ rfl rfl rfl
          refine ww_if_eq_t (tgt := 79) C dX3_holdPairs_33 (by decide) (rfl) ?_
          refine ww_iinc (j := 0) (v := (nI (i1 + 1))) (lv' := [(6, .int (nI (i1 + 1))), (5, .int r_5), (0, .ref ly), (1, .ref h), (2, .ref e), (3, .int (nI k)), (4, .int (nI w))]) C dX3_holdPairs_79 rfl (nI_add i1 1) rfl rfl ?_
          refine ww_goto (tgt := 16) C dX3_holdPairs_82 (by decide) ?_
          exact ww_lv [0, 1, 2, 3, 4, 5, 6] rfl (ww_sub [0, 1, 2, 3, 4, 5, 6, 8, 9, 7] (ndk (by decide +kernel)) (gqk (by eq_refl)) (ih_16 (i1 + 1) g1 (by omega) (PRx.f (i := 4 * w + i1) hpr1 (by rw [← hM w i1 (by omega) (by omega)]; exact h_14 (by omega))) (by omega)))
  exact ww_lv [0, 1, 2, 3, 4, 5, 6] rfl (ww_sub [0, 1, 2, 3, 4, 5, 6, 7, 8, 9] (ndk (by decide +kernel)) (gqk (by eq_refl)) (loop_16 _ 0 bg (by omega) hPR (Nat.lt_succ_self _)))
theorem dX3_build_0 : decode cX3_build 0 = .ok (.aload_n 0, 1) := dl_42 (by decide +kernel)
theorem dX3_build_1 : decode cX3_build 1 = .ok (.getfield 12, 3) := dl_180 (by decide +kernel)
theorem dX3_build_4 : decode cX3_build 4 = .ok (.invokevirtual 67, 3) := dl_182 (by decide +kernel)
theorem wl_X3_67 : Cond.methodLink RX3 67 yX4_clear ∈ TB := tbm (tq4 (List.mem_of_getElem? (i := 7) (by decide +kernel))) (by decide +kernel)
theorem wc_X4_clear : Cond.code yX4_clear cX4_clear 1 none ∈ TB := tbm (tq4 (List.mem_of_getElem? (i := 10) (rfl))) (by decide +kernel)
theorem wi_X4_clear : Cond.instanceMethod yX4_clear ∈ TB := tbm (tq4 (List.mem_of_getElem? (i := 8) (by decide +kernel))) (by decide +kernel)
theorem ws_X4_clear : Cond.selects RX4 yX4_clear yX4_clear ∈ TB := tbm (tq4 (List.mem_of_getElem? (i := 9) (by decide +kernel))) (by decide +kernel)
theorem mi_X4_clear : MI yX4_clear cX4_clear 1 none 0 := ⟨wc_X4_clear, wn_X4, ⟨by decide +kernel, by decide +kernel, by decide +kernel⟩, wi_X4_clear, ws_X4_clear⟩
theorem dX3_build_7 : decode cX3_build 7 = .ok (.iconst 0, 1) := dl_3 (by decide +kernel)
theorem dX3_build_8 : decode cX3_build 8 = .ok (.istore_n 3, 1) := dl_62 (by decide +kernel)
theorem dX3_build_9 : decode cX3_build 9 = .ok (.iload_n 3, 1) := dl_29 (by decide +kernel)
theorem dX3_build_10 : decode cX3_build 10 = .ok (.iconst 4, 1) := dl_7 (by decide +kernel)
theorem dX3_build_11 : decode cX3_build 11 = .ok (.if_icmp .ge 16, 3) := dl_162 (by decide +kernel)
theorem dX3_build_27 : decode cX3_build 27 = .ok (.iconst 0, 1) := dl_3 (by decide +kernel)
theorem dX3_build_28 : decode cX3_build 28 = .ok (.istore_n 3, 1) := dl_62 (by decide +kernel)
theorem dX3_build_29 : decode cX3_build 29 = .ok (.iload_n 3, 1) := dl_29 (by decide +kernel)
theorem dX3_build_30 : decode cX3_build 30 = .ok (.aload_n 0, 1) := dl_42 (by decide +kernel)
theorem dX3_build_31 : decode cX3_build 31 = .ok (.getfield 32, 3) := dl_180 (by decide +kernel)
theorem dX3_build_34 : decode cX3_build 34 = .ok (.if_icmp .ge 68, 3) := dl_162 (by decide +kernel)
theorem dX3_build_102 : decode cX3_build 102 = .ok (.iconst 0, 1) := dl_3 (by decide +kernel)
theorem dX3_build_103 : decode cX3_build 103 = .ok (.istore_n 3, 1) := dl_62 (by decide +kernel)
theorem dX3_build_104 : decode cX3_build 104 = .ok (.iload_n 3, 1) := dl_29 (by decide +kernel)
theorem dX3_build_105 : decode cX3_build 105 = .ok (.iconst 4, 1) := dl_7 (by decide +kernel)
theorem dX3_build_106 : decode cX3_build 106 = .ok (.if_icmp .ge 46, 3) := dl_162 (by decide +kernel)
theorem dX3_build_152 : decode cX3_build 152 = .ok (.aload_n 0, 1) := dl_42 (by decide +kernel)
theorem dX3_build_153 : decode cX3_build 153 = .ok (.getfield 12, 3) := dl_180 (by decide +kernel)
theorem dX3_build_156 : decode cX3_build 156 = .ok (.aload_n 0, 1) := dl_42 (by decide +kernel)
theorem dX3_build_157 : decode cX3_build 157 = .ok (.aload_n 1, 1) := dl_43 (by decide +kernel)
theorem dX3_build_158 : decode cX3_build 158 = .ok (.getfield 87, 3) := dl_180 (by decide +kernel)
theorem wf_X3_87 : Cond.fieldLink RX3 87 RX4 "realOne" "I" ∈ TB := tbm (tq1 (List.mem_of_getElem? (i := 42) (by decide +kernel))) (by decide +kernel)
theorem fg_X3_87 : FG RX3 87 4 1 := ⟨RX4, TX4, 4, uw_X4, wf_X3_87, rfl, by decide, rfl⟩
theorem dX3_build_161 : decode cX3_build 161 = .ok (.aload_n 2, 1) := dl_44 (by decide +kernel)
theorem dX3_build_162 : decode cX3_build 162 = .ok (.getfield 90, 3) := dl_180 (by decide +kernel)
theorem wf_X3_90 : Cond.fieldLink RX3 90 RX0 "realCase" "I" ∈ TB := tbm (tq1 (List.mem_of_getElem? (i := 156) (by decide +kernel))) (by decide +kernel)
theorem fg_X3_90 : FG RX3 90 0 1 := ⟨RX0, TX0, 6, uw_X0, wf_X3_90, rfl, by decide, rfl⟩
theorem dX3_build_165 : decode cX3_build 165 = .ok (.invokevirtual 70, 3) := dl_182 (by decide +kernel)
theorem dX3_build_168 : decode cX3_build 168 = .ok (.ifCond .eq 18, 3) := dl_153 (by decide +kernel)
theorem dX3_build_171 : decode cX3_build 171 = .ok (.aload_n 0, 1) := dl_42 (by decide +kernel)
theorem dX3_build_172 : decode cX3_build 172 = .ok (.aload_n 1, 1) := dl_43 (by decide +kernel)
theorem dX3_build_173 : decode cX3_build 173 = .ok (.getfield 87, 3) := dl_180 (by decide +kernel)
theorem dX3_build_176 : decode cX3_build 176 = .ok (.aload_n 2, 1) := dl_44 (by decide +kernel)
theorem dX3_build_177 : decode cX3_build 177 = .ok (.getfield 90, 3) := dl_180 (by decide +kernel)
theorem dX3_build_180 : decode cX3_build 180 = .ok (.invokevirtual 93, 3) := dl_182 (by decide +kernel)
theorem dX3_build_183 : decode cX3_build 183 = .ok (.goto 4, 3) := dl_167 (by decide +kernel)
theorem dX3_build_187 : decode cX3_build 187 = .ok (.putfield 87, 3) := dl_181 (by decide +kernel)
theorem fp_X3_87 : FP RX3 87 4 1 .int false := ⟨RX4, TX4, 4, tyX4, uw_X4, wf_X3_87, rfl, by decide, rfl, tyX4_ok, nmX4, rfl, by decide +kernel⟩
theorem dX3_build_190 : decode cX3_build 190 = .ok (.return_, 1) := dl_177 (by decide +kernel)
theorem dX3_build_186 : decode cX3_build 186 = .ok (.iconst 0, 1) := dl_3 (by decide +kernel)
theorem dX3_build_109 : decode cX3_build 109 = .ok (.iconst 0, 1) := dl_3 (by decide +kernel)
theorem dX3_build_110 : decode cX3_build 110 = .ok (.istore 4, 2) := dl_54 (by decide +kernel)
theorem dX3_build_112 : decode cX3_build 112 = .ok (.iload 4, 2) := dl_21 (by decide +kernel)
theorem dX3_build_114 : decode cX3_build 114 = .ok (.aload_n 0, 1) := dl_42 (by decide +kernel)
theorem dX3_build_115 : decode cX3_build 115 = .ok (.getfield 32, 3) := dl_180 (by decide +kernel)
theorem dX3_build_118 : decode cX3_build 118 = .ok (.if_icmp .ge 28, 3) := dl_162 (by decide +kernel)
theorem dX3_build_146 : decode cX3_build 146 = .ok (.iinc 3 1, 3) := dl_132 (by decide +kernel)
theorem dX3_build_149 : decode cX3_build 149 = .ok (.goto (-45), 3) := dl_167 (by decide +kernel)
theorem dX3_build_121 : decode cX3_build 121 = .ok (.aload_n 0, 1) := dl_42 (by decide +kernel)
theorem dX3_build_122 : decode cX3_build 122 = .ok (.getfield 18, 3) := dl_180 (by decide +kernel)
theorem dX3_build_125 : decode cX3_build 125 = .ok (.iload 4, 2) := dl_21 (by decide +kernel)
theorem dX3_build_127 : decode cX3_build 127 = .ok (.iaload, 1) := dl_46 (by decide +kernel)
theorem dX3_build_128 : decode cX3_build 128 = .ok (.ifCond .eq 12, 3) := dl_153 (by decide +kernel)
theorem dX3_build_140 : decode cX3_build 140 = .ok (.iinc 4 1, 3) := dl_132 (by decide +kernel)
theorem dX3_build_143 : decode cX3_build 143 = .ok (.goto (-31), 3) := dl_167 (by decide +kernel)
theorem dX3_build_131 : decode cX3_build 131 = .ok (.aload_n 0, 1) := dl_42 (by decide +kernel)
theorem dX3_build_132 : decode cX3_build 132 = .ok (.aload_n 1, 1) := dl_43 (by decide +kernel)
theorem dX3_build_133 : decode cX3_build 133 = .ok (.aload_n 2, 1) := dl_44 (by decide +kernel)
theorem dX3_build_134 : decode cX3_build 134 = .ok (.iload_n 3, 1) := dl_29 (by decide +kernel)
theorem dX3_build_135 : decode cX3_build 135 = .ok (.iload 4, 2) := dl_21 (by decide +kernel)
theorem dX3_build_137 : decode cX3_build 137 = .ok (.invokevirtual 83, 3) := dl_182 (by decide +kernel)
theorem wl_X3_83 : Cond.methodLink RX3 83 yX3_holdPairs ∈ TB := tbm (tq4 (List.mem_of_getElem? (i := 21) (by decide +kernel))) (by decide +kernel)
theorem wc_X3_holdPairs : Cond.code yX3_holdPairs cX3_holdPairs 8 none ∈ TB := tbm (tq4 (List.mem_of_getElem? (i := 24) (rfl))) (by decide +kernel)
theorem wi_X3_holdPairs : Cond.instanceMethod yX3_holdPairs ∈ TB := tbm (tq4 (List.mem_of_getElem? (i := 23) (by decide +kernel))) (by decide +kernel)
theorem ws_X3_holdPairs : Cond.selects RX3 yX3_holdPairs yX3_holdPairs ∈ TB := tbm (tq0 (List.mem_of_getElem? (i := 17) (by decide +kernel))) (by decide +kernel)
theorem mi_X3_holdPairs : MI yX3_holdPairs cX3_holdPairs 8 none 4 := ⟨wc_X3_holdPairs, wn_X3, ⟨by decide +kernel, by decide +kernel, by decide +kernel⟩, wi_X3_holdPairs, ws_X3_holdPairs⟩
theorem dX3_build_37 : decode cX3_build 37 = .ok (.iconst 0, 1) := dl_3 (by decide +kernel)
theorem dX3_build_38 : decode cX3_build 38 = .ok (.istore 4, 2) := dl_54 (by decide +kernel)
theorem dX3_build_40 : decode cX3_build 40 = .ok (.iload 4, 2) := dl_21 (by decide +kernel)
theorem dX3_build_42 : decode cX3_build 42 = .ok (.aload_n 2, 1) := dl_44 (by decide +kernel)
theorem dX3_build_43 : decode cX3_build 43 = .ok (.getfield 35, 3) := dl_180 (by decide +kernel)
theorem dX3_build_46 : decode cX3_build 46 = .ok (.if_icmp .ge 50, 3) := dl_162 (by decide +kernel)
theorem dX3_build_96 : decode cX3_build 96 = .ok (.iinc 3 1, 3) := dl_132 (by decide +kernel)
theorem dX3_build_99 : decode cX3_build 99 = .ok (.goto (-70), 3) := dl_167 (by decide +kernel)
theorem dX3_build_49 : decode cX3_build 49 = .ok (.aload_n 0, 1) := dl_42 (by decide +kernel)
theorem dX3_build_50 : decode cX3_build 50 = .ok (.iload_n 3, 1) := dl_29 (by decide +kernel)
theorem dX3_build_51 : decode cX3_build 51 = .ok (.iload 4, 2) := dl_21 (by decide +kernel)
theorem dX3_build_53 : decode cX3_build 53 = .ok (.invokevirtual 70, 3) := dl_182 (by decide +kernel)
theorem dX3_build_56 : decode cX3_build 56 = .ok (.ifCond .eq 34, 3) := dl_153 (by decide +kernel)
theorem dX3_build_59 : decode cX3_build 59 = .ok (.aload_n 0, 1) := dl_42 (by decide +kernel)
theorem dX3_build_60 : decode cX3_build 60 = .ok (.getfield 25, 3) := dl_180 (by decide +kernel)
theorem dX3_build_63 : decode cX3_build 63 = .ok (.iload 4, 2) := dl_21 (by decide +kernel)
theorem dX3_build_65 : decode cX3_build 65 = .ok (.dup2, 1) := dl_92 (by decide +kernel)
theorem dX3_build_66 : decode cX3_build 66 = .ok (.iaload, 1) := dl_46 (by decide +kernel)
theorem dX3_build_67 : decode cX3_build 67 = .ok (.iconst 1, 1) := dl_4 (by decide +kernel)
theorem dX3_build_68 : decode cX3_build 68 = .ok (.aload_n 0, 1) := dl_42 (by decide +kernel)
theorem dX3_build_69 : decode cX3_build 69 = .ok (.getfield 12, 3) := dl_180 (by decide +kernel)
theorem dX3_build_72 : decode cX3_build 72 = .ok (.aload_n 2, 1) := dl_44 (by decide +kernel)
theorem dX3_build_73 : decode cX3_build 73 = .ok (.aload_n 1, 1) := dl_43 (by decide +kernel)
theorem dX3_build_74 : decode cX3_build 74 = .ok (.getfield 73, 3) := dl_180 (by decide +kernel)
theorem wf_X3_73 : Cond.fieldLink RX3 73 RX4 "facts" "[I" ∈ TB := tbm (tq1 (List.mem_of_getElem? (i := 47) (by decide +kernel))) (by decide +kernel)
theorem fg_X3_73 : FG RX3 73 4 2 := ⟨RX4, TX4, 4, uw_X4, wf_X3_73, rfl, by decide, rfl⟩
theorem dX3_build_77 : decode cX3_build 77 = .ok (.iload_n 3, 1) := dl_29 (by decide +kernel)
theorem dX3_build_78 : decode cX3_build 78 = .ok (.iaload, 1) := dl_46 (by decide +kernel)
theorem dX3_build_79 : decode cX3_build 79 = .ok (.iload 4, 2) := dl_21 (by decide +kernel)
theorem dX3_build_81 : decode cX3_build 81 = .ok (.invokevirtual 76, 3) := dl_182 (by decide +kernel)
theorem wl_X3_76 : Cond.methodLink RX3 76 yX0_changed ∈ TB := tbm (tq4 (List.mem_of_getElem? (i := 16) (by decide +kernel))) (by decide +kernel)
theorem wc_X0_changed : Cond.code yX0_changed cX0_changed 3 (some .int) ∈ TB := tbm (tq4 (List.mem_of_getElem? (i := 19) (rfl))) (by decide +kernel)
theorem wi_X0_changed : Cond.instanceMethod yX0_changed ∈ TB := tbm (tq4 (List.mem_of_getElem? (i := 17) (by decide +kernel))) (by decide +kernel)
theorem ws_X0_changed : Cond.selects RX0 yX0_changed yX0_changed ∈ TB := tbm (tq4 (List.mem_of_getElem? (i := 18) (by decide +kernel))) (by decide +kernel)
theorem mi_X0_changed : MI yX0_changed cX0_changed 3 (some .int) 2 := ⟨wc_X0_changed, wn_X0, ⟨by decide +kernel, by decide +kernel, by decide +kernel⟩, wi_X0_changed, ws_X0_changed⟩
theorem dX3_build_84 : decode cX3_build 84 = .ok (.invokevirtual 80, 3) := dl_182 (by decide +kernel)
theorem wl_X3_80 : Cond.methodLink RX3 80 yX4_add ∈ TB := tbm (tq4 (List.mem_of_getElem? (i := 20) (by decide +kernel))) (by decide +kernel)
theorem wc_X4_add : Cond.code yX4_add cX4_add 3 (some .int) ∈ TB := tbm (tq2 (List.mem_of_getElem? (i := 166) (rfl))) (by decide +kernel)
theorem wi_X4_add : Cond.instanceMethod yX4_add ∈ TB := tbm (tq2 (List.mem_of_getElem? (i := 164) (by decide +kernel))) (by decide +kernel)
theorem ws_X4_add : Cond.selects RX4 yX4_add yX4_add ∈ TB := tbm (tq2 (List.mem_of_getElem? (i := 165) (by decide +kernel))) (by decide +kernel)
theorem mi_X4_add : MI yX4_add cX4_add 3 (some .int) 1 := ⟨wc_X4_add, wn_X4, ⟨by decide +kernel, by decide +kernel, by decide +kernel⟩, wi_X4_add, ws_X4_add⟩
theorem dX3_build_87 : decode cX3_build 87 = .ok (.ishl, 1) := dl_120 (by decide +kernel)
theorem dX3_build_88 : decode cX3_build 88 = .ok (.ior, 1) := dl_128 (by decide +kernel)
theorem dX3_build_89 : decode cX3_build 89 = .ok (.iastore, 1) := dl_79 (by decide +kernel)
theorem dX3_build_90 : decode cX3_build 90 = .ok (.iinc 4 1, 3) := dl_132 (by decide +kernel)
theorem dX3_build_93 : decode cX3_build 93 = .ok (.goto (-53), 3) := dl_167 (by decide +kernel)
theorem dX3_build_14 : decode cX3_build 14 = .ok (.aload_n 0, 1) := dl_42 (by decide +kernel)
theorem dX3_build_15 : decode cX3_build 15 = .ok (.getfield 25, 3) := dl_180 (by decide +kernel)
theorem dX3_build_18 : decode cX3_build 18 = .ok (.iload_n 3, 1) := dl_29 (by decide +kernel)
theorem dX3_build_19 : decode cX3_build 19 = .ok (.iconst 0, 1) := dl_3 (by decide +kernel)
theorem dX3_build_20 : decode cX3_build 20 = .ok (.iastore, 1) := dl_79 (by decide +kernel)
theorem dX3_build_21 : decode cX3_build 21 = .ok (.iinc 3 1, 3) := dl_132 (by decide +kernel)
theorem dX3_build_24 : decode cX3_build 24 = .ok (.goto (-15), 3) := dl_167 (by decide +kernel)
set_option maxRecDepth 100000 in
set_option maxHeartbeats 4000000 in
theorem l_build (l : Launch) (E : EV) (ro : va_W) (ly : Nat) (h : Nat) (e : Nat) (lym : Nat) (Pp : Nat) (n : Nat) (lyc : Nat) (lyf : Nat) (lyq : Nat) (cf : Nat → Int32) (ff : Nat → Int32) (fq : Nat → Int32) (bn : Nat) (br : Nat) (lyx : Nat) (lyy : Nat) (bf : Nat → Int32) (bg : Nat → Int32) (r : Nat) (a : Nat) (b : Nat) (f : Nat → Int32) (gg : Nat → Int32) (ecs : Nat) (erc : Nat) (eT : Nat → Option SVal) (efb : Nat → Int32) (efc : Nat → Int32) (efd : Nat → Int32) (hn : n ≤ 24) (hr : r < n ∨ r = 0) (hev : EVr E ro e ecs erc eT efb efc efd) (hL : LYR n cf ff Pp) (hP : Pp ≤ 24) (hB : CBx n ecs cf) (hM : LYM n (lyP (am n r f gg) (ecs, erc, eT, efb, efc, efd)) cf) : CT l yX3_build (Cond.code yX3_build cX3_build 5 none :: TB) ({ frames := 3, cells := 0, slots := 0, locals := 71 }) E ro [.ref ly, .ref h, .ref e] [(ly, .inr (3, [.ref lym, .int (nI Pp), .int (nI n), .ref lyc, .ref lyf, .ref lyq])), (lyc, .inl (E.2.1 1, 24, .inl cf)), (lyf, .inl (E.2.1 1, 24, .inl ff)), (lyq, .inl (E.2.1 1, 4, .inl fq)), (lym, .inr (4, [.int (nI bn), .int (nI br), .ref lyx, .ref lyy])), (lyx, .inl (E.2.1 1, 24, .inl bf)), (lyy, .inl (E.2.1 1, 96, .inl bg)), (h, .inr (4, [.int (nI n), .int (nI r), .ref a, .ref b])), (a, .inl (E.2.1 1, 24, .inl f)), (b, .inl (E.2.1 1, 96, .inl gg))] (Qv E (fun uz => (∃ (bn2 : Nat) (br2 : Nat) (fq2 : Nat → Int32) (bf2 : Nat → Int32) (bg2 : Nat → Int32), uz = [(ly, .inr (3, [.ref lym, .int (nI Pp), .int (nI n), .ref lyc, .ref lyf, .ref lyq])), (lyc, .inl (E.2.1 1, 24, .inl cf)), (lyf, .inl (E.2.1 1, 24, .inl ff)), (lyq, .inl (E.2.1 1, 4, .inl fq2)), (lym, .inr (4, [.int (nI bn2), .int (nI br2), .ref lyx, .ref lyy])), (lyx, .inl (E.2.1 1, 24, .inl bf2)), (lyy, .inl (E.2.1 1, 96, .inl bg2)), (h, .inr (4, [.int (nI n), .int (nI r), .ref a, .ref b])), (a, .inl (E.2.1 1, 24, .inl f)), (b, .inl (E.2.1 1, 96, .inl gg))] ∧ (bn2 = Pp) ∧ (br2 < bn2 ∨ br2 = 0) ∧ (br2 = (if (lyP (am n r f gg) (ecs, erc, eT, efb, efc, efd)) (4 * r + erc) = true then cb (lyP (am n r f gg) (ecs, erc, eT, efb, efc, efd)) (4 * r + erc) else 0)) ∧ (am bn2 br2 bf2 bg2 = aLay (am n r f gg) (ecs, erc, eT, efb, efc, efd))))) 0 0 := by
  refine ct_of rfl rfl ?_
  intro X C hT hin hro
  show WW X 5 E 0 [(0, .ref ly), (1, .ref h), (2, .ref e)] [] [(ly, .inr (3, [.ref lym, .int (nI Pp), .int (nI n), .ref lyc, .ref lyf, .ref lyq])), (lyc, .inl (E.2.1 1, 24, .inl cf)), (lyf, .inl (E.2.1 1, 24, .inl ff)), (lyq, .inl (E.2.1 1, 4, .inl fq)), (lym, .inr (4, [.int (nI bn), .int (nI br), .ref lyx, .ref lyy])), (lyx, .inl (E.2.1 1, 24, .inl bf)), (lyy, .inl (E.2.1 1, 96, .inl bg)), (h, .inr (4, [.int (nI n), .int (nI r), .ref a, .ref b])), (a, .inl (E.2.1 1, 24, .inl f)), (b, .inl (E.2.1 1, 96, .inl gg))] 0 0
  obtain ⟨i0y_1, i1y_1, i2y_1, i3y_1, i4y_1, cay_1, cby_1, ccy_1, cdy_1, fiy_1, g0y_1, g1y_1, g2y_1, g3y_1, g4y_1, hcsy_1, hrcy_1, hfiy_1⟩ := id hev
  have hecs := hev.cs
  have herc := hev.rc
  refine ww_aload_n C dX3_build_0 0 rfl rfl ?_
  refine ww_get C fg_X3_12 0 rfl rfl dX3_build_1 ?_
  refine ww_cv (wr := [(ly, .inr (3, [.ref lym, .int (nI Pp), .int (nI n), .ref lyc, .ref lyf, .ref lyq])), (lyc, .inl (E.2.1 1, 24, .inl cf)), (lyf, .inl (E.2.1 1, 24, .inl ff)), (lyq, .inl (E.2.1 1, 4, .inl fq)), (h, .inr (4, [.int (nI n), .int (nI r), .ref a, .ref b])), (a, .inl (E.2.1 1, 24, .inl f)), (b, .inl (E.2.1 1, 96, .inl gg))]) (k' := 0) (n' := 0) C (run_V (As := []) (rest := []) C (m_clear X.2.1 E ro lym bn br lyx lyy bf bg) mi_X4_clear wl_X3_67 rfl 0 4 rfl rfl rfl rfl rfl dX3_build_4) (roK hro) [4, 5, 6] [0, 1, 2, 3, 7, 8, 9] rfl rfl (plk (by decide +kernel)) rfl (fun uz hw => ?_)
  have he_3 := hw
  clear hw
  subst he_3
  refine ww_eq (ws' := [(ly, .inr (3, [.ref lym, .int (nI Pp), .int (nI n), .ref lyc, .ref lyf, .ref lyq])), (lyc, .inl (E.2.1 1, 24, .inl cf)), (lyf, .inl (E.2.1 1, 24, .inl ff)), (lyq, .inl (E.2.1 1, 4, .inl fq)), (h, .inr (4, [.int (nI n), .int (nI r), .ref a, .ref b])), (a, .inl (E.2.1 1, 24, .inl f)), (b, .inl (E.2.1 1, 96, .inl gg)), (lym, .inr (4, [.int 0, .int 0, .ref lyx, .ref lyy])), (lyx, .inl (E.2.1 1, 24, .inl bf)), (lyy, .inl (E.2.1 1, 96, .inl bg))]) ?_ rfl rfl rfl
  refine ww_iconst (v := 0) C dX3_build_7 rfl ?_
  refine ww_istore_n (lv' := [(3, .int 0), (0, .ref ly), (1, .ref h), (2, .ref e)]) C dX3_build_8 rfl rfl rfl ?_
  have loop_9 : ∀ (fu : Nat) (i0 : Nat) (q0 : Nat → Int32), (i0 ≤ 4) → (Z0x i0 q0) → 4 - i0 < fu → WW X 5 E 9 [(3, .int (nI i0)), (0, .ref ly), (1, .ref h), (2, .ref e)] [] [(ly, .inr (3, [.ref lym, .int (nI Pp), .int (nI n), .ref lyc, .ref lyf, .ref lyq])), (lyc, .inl (E.2.1 1, 24, .inl cf)), (lyf, .inl (E.2.1 1, 24, .inl ff)), (lyq, .inl (E.2.1 1, 4, .inl q0)), (h, .inr (4, [.int (nI n), .int (nI r), .ref a, .ref b])), (a, .inl (E.2.1 1, 24, .inl f)), (b, .inl (E.2.1 1, 96, .inl gg)), (lym, .inr (4, [.int 0, .int 0, .ref lyx, .ref lyy])), (lyx, .inl (E.2.1 1, 24, .inl bf)), (lyy, .inl (E.2.1 1, 96, .inl bg))] 0 0 := by
    intro fu
    induction fu with
    | zero => intro i0 q0 hi0 hz0 hmeas; exact absurd hmeas (Nat.not_lt_zero _)
    | succ fu ih_9 =>
      intro i0 q0 hi0 hz0 hmeas
      refine ww_iload_n C dX3_build_9 0 rfl rfl ?_
      refine ww_iconst (v := 4) C dX3_build_10 rfl ?_
      refine ww_icmp_ge (tgt := 27) C dX3_build_11 (by decide) (fun c_4 => ?_) (fun c_4 => ?_)
      · have zc_4 : ((i0 : Nat) : Int) ≥ 4 := i_le rfl (nI_toInt (n := i0) (by omega)) c_4
        refine ww_iconst (v := 0) C dX3_build_27 rfl ?_
        refine ww_istore_n (lv' := [(3, .int 0), (0, .ref ly), (1, .ref h), (2, .ref e)]) C dX3_build_28 rfl rfl rfl ?_
        have loop_29 : ∀ (fu : Nat) (i1 : Nat) (t1 : Nat) (f1 : Nat → Int32) (g1 : Nat → Int32) (q1 : Nat → Int32), (i1 ≤ n) → (t1 = pcs cf i1) → (PQx (lyP (am n r f gg) (ecs, erc, eT, efb, efc, efd)) (4 * n) (4 * i1) q1) → (PFx (lyP (am n r f gg) (ecs, erc, eT, efb, efc, efd)) (4 * i1) (lyF (am n r f gg) (ecs, erc, eT, efb, efc, efd)) f1) → n - i1 < fu → WW X 5 E 29 [(3, .int (nI i1)), (0, .ref ly), (1, .ref h), (2, .ref e)] [] [(ly, .inr (3, [.ref lym, .int (nI Pp), .int (nI n), .ref lyc, .ref lyf, .ref lyq])), (lyc, .inl (E.2.1 1, 24, .inl cf)), (lyf, .inl (E.2.1 1, 24, .inl ff)), (lyq, .inl (E.2.1 1, 4, .inl q1)), (h, .inr (4, [.int (nI n), .int (nI r), .ref a, .ref b])), (a, .inl (E.2.1 1, 24, .inl f)), (b, .inl (E.2.1 1, 96, .inl gg)), (lym, .inr (4, [.int (nI t1), .int 0, .ref lyx, .ref lyy])), (lyx, .inl (E.2.1 1, 24, .inl f1)), (lyy, .inl (E.2.1 1, 96, .inl g1))] 0 0 := by
          intro fu
          induction fu with
          | zero => intro i1 t1 f1 g1 q1 hi1 ht1 hpq1 hpf1 hmeas; exact absurd hmeas (Nat.not_lt_zero _)
          | succ fu ih_29 =>
            intro i1 t1 f1 g1 q1 hi1 ht1 hpq1 hpf1 hmeas
            refine ww_iload_n C dX3_build_29 0 rfl rfl ?_
            refine ww_aload_n C dX3_build_30 1 rfl rfl ?_
            refine ww_get C fg_X3_32 0 rfl rfl dX3_build_31 ?_
            refine ww_icmp_ge (tgt := 102) C dX3_build_34 (by decide) (fun c_5 => ?_) (fun c_5 => ?_)
            · have zc_5 : ((i1 : Nat) : Int) ≥ ((n : Nat) : Int) := i_le (nI_toInt (n := n) (by omega)) (nI_toInt (n := i1) (by omega)) c_5
              refine ww_iconst (v := 0) C dX3_build_102 rfl ?_
              refine ww_istore_n (lv' := [(3, .int 0), (0, .ref ly), (1, .ref h), (2, .ref e)]) C dX3_build_103 rfl rfl rfl ?_
              have hi1n : i1 = n := by omega
              rw [hi1n] at hpq1 hpf1
              have ht1n : t1 = pcs cf n := by rw [ht1, hi1n]
              have loop_104 : ∀ (fu : Nat) (k5 : Nat) (g5 : Nat → Int32), (k5 ≤ 4) → (PRx (lyP (am n r f gg) (ecs, erc, eT, efb, efc, efd)) (4 * n) k5 0 (lyR (am n r f gg) (ecs, erc, eT, efb, efc, efd)) g5) → 4 - k5 < fu → WW X 5 E 104 [(3, .int (nI k5)), (0, .ref ly), (1, .ref h), (2, .ref e)] [] [(ly, .inr (3, [.ref lym, .int (nI Pp), .int (nI n), .ref lyc, .ref lyf, .ref lyq])), (lyc, .inl (E.2.1 1, 24, .inl cf)), (lyf, .inl (E.2.1 1, 24, .inl ff)), (lyq, .inl (E.2.1 1, 4, .inl q1)), (h, .inr (4, [.int (nI n), .int (nI r), .ref a, .ref b])), (a, .inl (E.2.1 1, 24, .inl f)), (b, .inl (E.2.1 1, 96, .inl gg)), (lym, .inr (4, [.int (nI t1), .int 0, .ref lyx, .ref lyy])), (lyx, .inl (E.2.1 1, 24, .inl f1)), (lyy, .inl (E.2.1 1, 96, .inl g5))] 0 0 := by
                intro fu
                induction fu with
                | zero => intro k5 g5 hk5 hpr5 hmeas; exact absurd hmeas (Nat.not_lt_zero _)
                | succ fu ih_104 =>
                  intro k5 g5 hk5 hpr5 hmeas
                  refine ww_iload_n C dX3_build_104 0 rfl rfl ?_
                  refine ww_iconst (v := 4) C dX3_build_105 rfl ?_
                  refine ww_icmp_ge (tgt := 152) C dX3_build_106 (by decide) (fun c_6 => ?_) (fun c_6 => ?_)
                  · have zc_6 : ((k5 : Nat) : Int) ≥ 4 := i_le rfl (nI_toInt (n := k5) (by omega)) c_6
                    refine ww_aload_n C dX3_build_152 1 rfl rfl ?_
                    refine ww_get C fg_X3_12 0 rfl rfl dX3_build_153 ?_
                    refine ww_aload_n C dX3_build_156 1 rfl rfl ?_
                    refine ww_aload_n C dX3_build_157 2 rfl rfl ?_
                    refine ww_get C fg_X3_87 4 rfl rfl dX3_build_158 ?_
                    refine ww_aload_n C dX3_build_161 3 rfl rfl ?_
                    refine ww_getR C hro fg_X3_90 i0y_1 g0y_1 rfl dX3_build_162 ?_
                    refine ww_ci (wr := [(lyf, .inl (E.2.1 1, 24, .inl ff)), (lyq, .inl (E.2.1 1, 4, .inl q1)), (h, .inr (4, [.int (nI n), .int (nI r), .ref a, .ref b])), (a, .inl (E.2.1 1, 24, .inl f)), (b, .inl (E.2.1 1, 96, .inl gg)), (lym, .inr (4, [.int (nI t1), .int 0, .ref lyx, .ref lyy])), (lyx, .inl (E.2.1 1, 24, .inl f1)), (lyy, .inl (E.2.1 1, 96, .inl g5))]) (k' := 0) (n' := 0) C (run_V (As := [.int (nI r), .int (nI erc)]) (rest := [.ref lym]) C (l_lets X.2.1 E ro ly r erc lym Pp n lyc lyf lyq cf (by omega) (by omega) (by omega) hL.1) mi_X3_lets wl_X3_70 rfl 0 3 rfl rfl rfl rfl rfl dX3_build_165) (roK hro) [0, 1] [2, 3, 4, 5, 6, 7, 8, 9] rfl (gqk (by eq_refl)) (plk (by decide +kernel)) rfl (fun r_7 uz hw => ?_)
                    rcases hw with hw | hw
                    · refine an3 hw ?_
                      clear hw
                      intro he_10 he_11 h_8 hw
                      have h_9 := hw
                      clear hw
                      have he_10 := he_10.symm
                      subst he_10
                      subst he_11
                      refine ww_eq (ws' := [(lyf, .inl (E.2.1 1, 24, .inl ff)), (lyq, .inl (E.2.1 1, 4, .inl q1)), (h, .inr (4, [.int (nI n), .int (nI r), .ref a, .ref b])), (a, .inl (E.2.1 1, 24, .inl f)), (b, .inl (E.2.1 1, 96, .inl gg)), (lym, .inr (4, [.int (nI t1), .int 0, .ref lyx, .ref lyy])), (lyx, .inl (E.2.1 1, 24, .inl f1)), (lyy, .inl (E.2.1 1, 96, .inl g5)), (ly, .inr (3, [.ref lym, .int (nI Pp), .int (nI n), .ref lyc, .ref lyf, .ref lyq])), (lyc, .inl (E.2.1 1, 24, .inl cf))]) ?_ rfl rfl rfl
                      refine ww_if_eq_f (tgt := 186) C dX3_build_168 (by decide) (by decide) ?_
                      have hlt_k_15 := LYR.lt hL (w := r) (c := erc) (by omega) (by omega) (by assumption)
                      refine ww_aload_n C dX3_build_171 1 rfl rfl ?_
                      refine ww_aload_n C dX3_build_172 2 rfl rfl ?_
                      refine ww_get C fg_X3_87 2 rfl rfl dX3_build_173 ?_
                      refine ww_aload_n C dX3_build_176 3 rfl rfl ?_
                      refine ww_getR C hro fg_X3_90 i0y_1 g0y_1 rfl dX3_build_177 ?_
                      refine ww_ci (wr := [(lyq, .inl (E.2.1 1, 4, .inl q1)), (h, .inr (4, [.int (nI n), .int (nI r), .ref a, .ref b])), (a, .inl (E.2.1 1, 24, .inl f)), (b, .inl (E.2.1 1, 96, .inl gg)), (lym, .inr (4, [.int (nI t1), .int 0, .ref lyx, .ref lyy])), (lyx, .inl (E.2.1 1, 24, .inl f1)), (lyy, .inl (E.2.1 1, 96, .inl g5))]) (k' := 0) (n' := 0) C (run_V (As := [.int (nI r), .int (nI erc)]) (rest := [.ref lym]) C (l_pair X.2.1 E ro ly r erc lym Pp n lyc lyf lyq cf ff (by omega) (by omega) (by omega) hL) mi_X3_pair wl_X3_93 rfl 0 3 rfl rfl rfl rfl rfl dX3_build_180) (roK hro) [8, 9, 0] [1, 2, 3, 4, 5, 6, 7] rfl rfl (plk (by decide +kernel)) rfl (fun r_16 uz hw => ?_)
                      refine an1 hw ?_
                      clear hw
                      intro he_17 hw
                      have he_18 := hw
                      clear hw
                      have he_17 := he_17.symm
                      subst he_17
                      subst he_18
                      refine ww_eq (ws' := [(lyq, .inl (E.2.1 1, 4, .inl q1)), (h, .inr (4, [.int (nI n), .int (nI r), .ref a, .ref b])), (a, .inl (E.2.1 1, 24, .inl f)), (b, .inl (E.2.1 1, 96, .inl gg)), (lym, .inr (4, [.int (nI t1), .int 0, .ref lyx, .ref lyy])), (lyx, .inl (E.2.1 1, 24, .inl f1)), (lyy, .inl (E.2.1 1, 96, .inl g5)), (ly, .inr (3, [.ref lym, .int (nI Pp), .int (nI n), .ref lyc, .ref lyf, .ref lyq])), (lyc, .inl (E.2.1 1, 24, .inl cf)), (lyf, .inl (E.2.1 1, 24, .inl ff))]) ?_ rfl rfl rfl
                      refine ww_goto (tgt := 187) C dX3_build_183 (by decide) ?_
                      refine ww_put (ws' := [(lyq, .inl (E.2.1 1, 4, .inl q1)), (h, .inr (4, [.int (nI n), .int (nI r), .ref a, .ref b])), (a, .inl (E.2.1 1, 24, .inl f)), (b, .inl (E.2.1 1, 96, .inl gg)), (lym, .inr (4, [.int (nI t1), .int (nI (pcs cf r + bi cf r erc)), .ref lyx, .ref lyy])), (lyx, .inl (E.2.1 1, 24, .inl f1)), (lyy, .inl (E.2.1 1, 96, .inl g5)), (ly, .inr (3, [.ref lym, .int (nI Pp), .int (nI n), .ref lyc, .ref lyf, .ref lyq])), (lyc, .inl (E.2.1 1, 24, .inl cf)), (lyf, .inl (E.2.1 1, 24, .inl ff))]) C fp_X3_87 4 rfl rfl rfl rfl rfl dX3_build_187 ?_
                      exact ww_vret (u := [(ly, .inr (3, [.ref lym, .int (nI Pp), .int (nI n), .ref lyc, .ref lyf, .ref lyq])), (lyc, .inl (E.2.1 1, 24, .inl cf)), (lyf, .inl (E.2.1 1, 24, .inl ff)), (lyq, .inl (E.2.1 1, 4, .inl q1)), (lym, .inr (4, [.int (nI t1), .int (nI (pcs cf r + bi cf r erc)), .ref lyx, .ref lyy])), (lyx, .inl (E.2.1 1, 24, .inl f1)), (lyy, .inl (E.2.1 1, 96, .inl g5)), (h, .inr (4, [.int (nI n), .int (nI r), .ref a, .ref b])), (a, .inl (E.2.1 1, 24, .inl f)), (b, .inl (E.2.1 1, 96, .inl gg))]) C hT [7, 8, 9, 0, 4, 5, 6, 1, 2, 3] (gqk (by eq_refl)) (ndk (by decide +kernel)) rfl rfl dX3_build_190 (⟨t1, (pcs cf r + bi cf r erc), q1, f1, g5, rfl, (by rw [hL.2.2, ht1n]), (by have h8 := hL.2.2; omega), (by rw [if_pos (by rw [← hM r erc (by omega) (by omega)]; exact h_9)]; exact ly_cb hM (by omega) (by omega)), (by rw [show pcs cf r + bi cf r erc = (if (lyP (am n r f gg) (ecs, erc, eT, efb, efc, efd)) (4 * r + erc) = true then cb (lyP (am n r f gg) (ecs, erc, eT, efb, efc, efd)) (4 * r + erc) else 0) from (by rw [if_pos (by rw [← hM r erc (by omega) (by omega)]; exact h_9)]; exact ly_cb hM (by omega) (by omega))]; exact (cmp_am (by rw [ht1n]; exact ly_w hM n (Nat.le_refl _)) (by have h8 := hL.2.2; have h7 := ly_w hM n (Nat.le_refl _); omega) hpf1 (fun k p hk hp hP => hpr5 k p hk hp hP (by omega))))⟩)
                    · refine an2 hw ?_
                      clear hw
                      intro he_13 he_14 hw
                      have h_12 := hw
                      clear hw
                      have he_13 := he_13.symm
                      subst he_13
                      subst he_14
                      refine ww_eq (ws' := [(lyf, .inl (E.2.1 1, 24, .inl ff)), (lyq, .inl (E.2.1 1, 4, .inl q1)), (h, .inr (4, [.int (nI n), .int (nI r), .ref a, .ref b])), (a, .inl (E.2.1 1, 24, .inl f)), (b, .inl (E.2.1 1, 96, .inl gg)), (lym, .inr (4, [.int (nI t1), .int 0, .ref lyx, .ref lyy])), (lyx, .inl (E.2.1 1, 24, .inl f1)), (lyy, .inl (E.2.1 1, 96, .inl g5)), (ly, .inr (3, [.ref lym, .int (nI Pp), .int (nI n), .ref lyc, .ref lyf, .ref lyq])), (lyc, .inl (E.2.1 1, 24, .inl cf))]) ?_ rfl rfl rfl
                      refine ww_if_eq_t (tgt := 186) C dX3_build_168 (by decide) (rfl) ?_
                      refine ww_iconst (v := 0) C dX3_build_186 rfl ?_
                      refine ww_put (ws' := [(lyf, .inl (E.2.1 1, 24, .inl ff)), (lyq, .inl (E.2.1 1, 4, .inl q1)), (h, .inr (4, [.int (nI n), .int (nI r), .ref a, .ref b])), (a, .inl (E.2.1 1, 24, .inl f)), (b, .inl (E.2.1 1, 96, .inl gg)), (lym, .inr (4, [.int (nI t1), .int 0, .ref lyx, .ref lyy])), (lyx, .inl (E.2.1 1, 24, .inl f1)), (lyy, .inl (E.2.1 1, 96, .inl g5)), (ly, .inr (3, [.ref lym, .int (nI Pp), .int (nI n), .ref lyc, .ref lyf, .ref lyq])), (lyc, .inl (E.2.1 1, 24, .inl cf))]) C fp_X3_87 5 rfl rfl rfl rfl rfl dX3_build_187 ?_
                      exact ww_vret (u := [(ly, .inr (3, [.ref lym, .int (nI Pp), .int (nI n), .ref lyc, .ref lyf, .ref lyq])), (lyc, .inl (E.2.1 1, 24, .inl cf)), (lyf, .inl (E.2.1 1, 24, .inl ff)), (lyq, .inl (E.2.1 1, 4, .inl q1)), (lym, .inr (4, [.int (nI t1), .int 0, .ref lyx, .ref lyy])), (lyx, .inl (E.2.1 1, 24, .inl f1)), (lyy, .inl (E.2.1 1, 96, .inl g5)), (h, .inr (4, [.int (nI n), .int (nI r), .ref a, .ref b])), (a, .inl (E.2.1 1, 24, .inl f)), (b, .inl (E.2.1 1, 96, .inl gg))]) C hT [8, 9, 0, 1, 5, 6, 7, 2, 3, 4] (gqk (by eq_refl)) (ndk (by decide +kernel)) rfl rfl dX3_build_190 (⟨t1, 0, q1, f1, g5, rfl, (by rw [hL.2.2, ht1n]), (by have h8 := hL.2.2; omega), (by rw [if_neg (by rcases Nat.lt_or_ge r n with h9 | h9; rw [← hM r erc h9 (by omega), h_12 h9]; exact Bool.false_ne_true; rw [lyP_at (by omega)]; show ¬ (decide (r < n) && _) = true; rw [decide_eq_false (show ¬ r < n by omega)]; exact Bool.false_ne_true)]), (by rw [show 0 = (if (lyP (am n r f gg) (ecs, erc, eT, efb, efc, efd)) (4 * r + erc) = true then cb (lyP (am n r f gg) (ecs, erc, eT, efb, efc, efd)) (4 * r + erc) else 0) from (by rw [if_neg (by rcases Nat.lt_or_ge r n with h9 | h9; rw [← hM r erc h9 (by omega), h_12 h9]; exact Bool.false_ne_true; rw [lyP_at (by omega)]; show ¬ (decide (r < n) && _) = true; rw [decide_eq_false (show ¬ r < n by omega)]; exact Bool.false_ne_true)])]; exact (cmp_am (by rw [ht1n]; exact ly_w hM n (Nat.le_refl _)) (by have h8 := hL.2.2; have h7 := ly_w hM n (Nat.le_refl _); omega) hpf1 (fun k p hk hp hP => hpr5 k p hk hp hP (by omega))))⟩)
                  · have zc_6 : ((k5 : Nat) : Int) < 4 := i_nle rfl (nI_toInt (n := k5) (by omega)) c_6
                    refine ww_iconst (v := 0) C dX3_build_109 rfl ?_
                    refine ww_istore (lv' := [(4, .int 0), (3, .int (nI k5)), (0, .ref ly), (1, .ref h), (2, .ref e)]) C dX3_build_110 rfl rfl ?_
                    have loop_112 : ∀ (fu : Nat) (i6 : Nat) (g6 : Nat → Int32), (i6 ≤ n) → (PRx (lyP (am n r f gg) (ecs, erc, eT, efb, efc, efd)) (4 * n) k5 (4 * i6) (lyR (am n r f gg) (ecs, erc, eT, efb, efc, efd)) g6) → n - i6 < fu → WW X 5 E 112 [(4, .int (nI i6)), (3, .int (nI k5)), (0, .ref ly), (1, .ref h), (2, .ref e)] [] [(ly, .inr (3, [.ref lym, .int (nI Pp), .int (nI n), .ref lyc, .ref lyf, .ref lyq])), (lyc, .inl (E.2.1 1, 24, .inl cf)), (lyf, .inl (E.2.1 1, 24, .inl ff)), (lyq, .inl (E.2.1 1, 4, .inl q1)), (h, .inr (4, [.int (nI n), .int (nI r), .ref a, .ref b])), (a, .inl (E.2.1 1, 24, .inl f)), (b, .inl (E.2.1 1, 96, .inl gg)), (lym, .inr (4, [.int (nI t1), .int 0, .ref lyx, .ref lyy])), (lyx, .inl (E.2.1 1, 24, .inl f1)), (lyy, .inl (E.2.1 1, 96, .inl g6))] 0 0 := by
                      intro fu
                      induction fu with
                      | zero => intro i6 g6 hi6 hpr6 hmeas; exact absurd hmeas (Nat.not_lt_zero _)
                      | succ fu ih_112 =>
                        intro i6 g6 hi6 hpr6 hmeas
                        refine ww_iload C dX3_build_112 0 rfl ?_
                        refine ww_aload_n C dX3_build_114 2 rfl rfl ?_
                        refine ww_get C fg_X3_32 0 rfl rfl dX3_build_115 ?_
                        refine ww_icmp_ge (tgt := 146) C dX3_build_118 (by decide) (fun c_19 => ?_) (fun c_19 => ?_)
                        · have zc_19 : ((i6 : Nat) : Int) ≥ ((n : Nat) : Int) := i_le (nI_toInt (n := n) (by omega)) (nI_toInt (n := i6) (by omega)) c_19
                          refine ww_iinc (j := 1) (v := (nI (k5 + 1))) (lv' := [(3, .int (nI (k5 + 1))), (4, .int (nI i6)), (0, .ref ly), (1, .ref h), (2, .ref e)]) C dX3_build_146 rfl (nI_add k5 1) rfl rfl ?_
                          refine ww_goto (tgt := 104) C dX3_build_149 (by decide) ?_
                          exact ww_lv [0, 2, 3, 4] rfl (ww_sub [0, 1, 2, 3, 4, 5, 6, 7, 8, 9] (ndk (by decide +kernel)) (gqk (by eq_refl)) (ih_104 (k5 + 1) g6 (by omega) (PRx.up hpr6 (by omega)) (by omega)))
                        · have zc_19 : ((i6 : Nat) : Int) < ((n : Nat) : Int) := i_nle (nI_toInt (n := n) (by omega)) (nI_toInt (n := i6) (by omega)) c_19
                          refine ww_aload_n C dX3_build_121 2 rfl rfl ?_
                          refine ww_get C fg_X3_18 0 rfl rfl dX3_build_122 ?_
                          refine ww_iload C dX3_build_125 0 rfl ?_
                          have hbx_20 := CBx.lt hL.1 (by omega) (show i6 < n by omega)
                          refine ww_iald (v := (nI (cN cf i6))) C 1 rfl (vp_in_nI (by omega) (by omega)) (ldn (by omega) (hL.1 i6 (by omega)).1) dX3_build_127 ?_
                          refine ww_if_eq (tgt := 140) C dX3_build_128 (by decide) (fun c_21 => ?_) (fun c_21 => ?_)
                          · have zc_21 : ((cN cf i6 : Nat) : Int) = 0 := i_eq (nI_toInt (n := cN cf i6) (by omega)) rfl c_21
                            refine ww_iinc (j := 0) (v := (nI (i6 + 1))) (lv' := [(4, .int (nI (i6 + 1))), (3, .int (nI k5)), (0, .ref ly), (1, .ref h), (2, .ref e)]) C dX3_build_140 rfl (nI_add i6 1) rfl rfl ?_
                            refine ww_goto (tgt := 112) C dX3_build_143 (by decide) ?_
                            exact ww_lv [0, 1, 2, 3, 4] rfl (ww_sub [0, 1, 2, 3, 4, 5, 6, 7, 8, 9] (ndk (by decide +kernel)) (gqk (by eq_refl)) (ih_112 (i6 + 1) g6 (by omega) (PRx.f4 hpr6 (fun c hc => by rw [← hM i6 c (by omega) hc]; exact cN_0b (by omega) c)) (by omega)))
                          · have zc_21 : ((cN cf i6 : Nat) : Int) ≠ 0 := i_ne (nI_toInt (n := cN cf i6) (by omega)) rfl c_21
                            refine ww_aload_n C dX3_build_131 2 rfl rfl ?_
                            refine ww_aload_n C dX3_build_132 3 rfl rfl ?_
                            refine ww_aload_n C dX3_build_133 4 rfl rfl ?_
                            refine ww_iload_n C dX3_build_134 1 rfl rfl ?_
                            refine ww_iload C dX3_build_135 0 rfl ?_
                            refine ww_cv (wr := []) (k' := 0) (n' := 0) C (run_V (As := [.ref h, .ref e, .int (nI k5), .int (nI i6)]) (rest := []) C (l_holdPairs X.2.1 E ro ly h e k5 i6 lym Pp n lyc lyf lyq cf ff q1 t1 0 lyx lyy f1 g6 r a b f gg ecs erc eT efb efc efd (by omega) (by omega) hev hL (by omega) (by omega) (by omega) hM hpq1 hpr6) mi_X3_holdPairs wl_X3_83 rfl 0 3 rfl rfl rfl rfl rfl dX3_build_137) (roK hro) [0, 1, 2, 3, 7, 8, 9, 4, 5, 6] [] (gqk (by eq_refl)) rfl (plk (by decide +kernel)) rfl (fun uz hw => ?_)
                            refine ex1 hw ?_
                            clear hw
                            intro bg2_23 hw
                            refine an1 hw ?_
                            clear hw
                            intro he_25 hw
                            have h_24 := hw
                            clear hw
                            subst he_25
                            refine ww_eq (ws' := [(ly, .inr (3, [.ref lym, .int (nI Pp), .int (nI n), .ref lyc, .ref lyf, .ref lyq])), (lyc, .inl (E.2.1 1, 24, .inl cf)), (lyf, .inl (E.2.1 1, 24, .inl ff)), (lyq, .inl (E.2.1 1, 4, .inl q1)), (lym, .inr (4, [.int (nI t1), .int 0, .ref lyx, .ref lyy])), (lyx, .inl (E.2.1 1, 24, .inl f1)), (lyy, .inl (E.2.1 1, 96, .inl bg2_23)), (h, .inr (4, [.int (nI n), .int (nI r), .ref a, .ref b])), (a, .inl (E.2.1 1, 24, .inl f)), (b, .inl (E.2.1 1, 96, .inl gg))]) ?_ rfl rfl rfl
                            refine ww_iinc (j := 0) (v := (nI (i6 + 1))) (lv' := [(4, .int (nI (i6 + 1))), (3, .int (nI k5)), (0, .ref ly), (1, .ref h), (2, .ref e)]) C dX3_build_140 rfl (nI_add i6 1) rfl rfl ?_
                            refine ww_goto (tgt := 112) C dX3_build_143 (by decide) ?_
                            exact ww_lv [0, 1, 2, 3, 4] rfl (ww_sub [0, 1, 2, 3, 7, 8, 9, 4, 5, 6] (ndk (by decide +kernel)) (gqk (by eq_refl)) (ih_112 (i6 + 1) bg2_23 (by omega) h_24 (by omega)))
                    exact ww_lv [0, 1, 2, 3, 4] rfl (ww_sub [0, 1, 2, 3, 4, 5, 6, 7, 8, 9] (ndk (by decide +kernel)) (gqk (by eq_refl)) (loop_112 _ 0 g5 (by omega) hpr5 (Nat.lt_succ_self _)))
              exact ww_lv [0, 1, 2, 3] rfl (ww_sub [0, 1, 2, 3, 4, 5, 6, 7, 8, 9] (ndk (by decide +kernel)) (gqk (by eq_refl)) (loop_104 _ 0 g1 (by omega) PRx.nil (Nat.lt_succ_self _)))
            · have zc_5 : ((i1 : Nat) : Int) < ((n : Nat) : Int) := i_nle (nI_toInt (n := n) (by omega)) (nI_toInt (n := i1) (by omega)) c_5
              refine ww_iconst (v := 0) C dX3_build_37 rfl ?_
              refine ww_istore (lv' := [(4, .int 0), (3, .int (nI i1)), (0, .ref ly), (1, .ref h), (2, .ref e)]) C dX3_build_38 rfl rfl ?_
              have loop_40 : ∀ (fu : Nat) (i2 : Nat) (t2 : Nat) (f2 : Nat → Int32) (g2 : Nat → Int32) (q2 : Nat → Int32), (i2 ≤ ecs) → (t2 = pcs cf i1 + bi cf i1 i2) → (PQx (lyP (am n r f gg) (ecs, erc, eT, efb, efc, efd)) (4 * n) (4 * i1 + i2) q2) → (PFx (lyP (am n r f gg) (ecs, erc, eT, efb, efc, efd)) (4 * i1 + i2) (lyF (am n r f gg) (ecs, erc, eT, efb, efc, efd)) f2) → ecs - i2 < fu → WW X 5 E 40 [(4, .int (nI i2)), (3, .int (nI i1)), (0, .ref ly), (1, .ref h), (2, .ref e)] [] [(ly, .inr (3, [.ref lym, .int (nI Pp), .int (nI n), .ref lyc, .ref lyf, .ref lyq])), (lyc, .inl (E.2.1 1, 24, .inl cf)), (lyf, .inl (E.2.1 1, 24, .inl ff)), (lyq, .inl (E.2.1 1, 4, .inl q2)), (h, .inr (4, [.int (nI n), .int (nI r), .ref a, .ref b])), (a, .inl (E.2.1 1, 24, .inl f)), (b, .inl (E.2.1 1, 96, .inl gg)), (lym, .inr (4, [.int (nI t2), .int 0, .ref lyx, .ref lyy])), (lyx, .inl (E.2.1 1, 24, .inl f2)), (lyy, .inl (E.2.1 1, 96, .inl g2))] 0 0 := by
                intro fu
                induction fu with
                | zero => intro i2 t2 f2 g2 q2 hi2 ht2 hpq2 hpf2 hmeas; exact absurd hmeas (Nat.not_lt_zero _)
                | succ fu ih_40 =>
                  intro i2 t2 f2 g2 q2 hi2 ht2 hpq2 hpf2 hmeas
                  refine ww_iload C dX3_build_40 0 rfl ?_
                  refine ww_aload_n C dX3_build_42 4 rfl rfl ?_
                  refine ww_getR C hro fg_X3_35 i0y_1 g0y_1 rfl dX3_build_43 ?_
                  refine ww_icmp_ge (tgt := 96) C dX3_build_46 (by decide) (fun c_26 => ?_) (fun c_26 => ?_)
                  · have zc_26 : ((i2 : Nat) : Int) ≥ ((ecs : Nat) : Int) := i_le (nI_toInt (n := ecs) (by omega)) (nI_toInt (n := i2) (by omega)) c_26
                    have hbm := CBx.bi hB (by omega) (show i1 < n by omega)
                    have hps := pcs_s cf i1
                    have hie : i2 = ecs := by omega
                    rw [hie] at ht2
                    refine ww_iinc (j := 1) (v := (nI (i1 + 1))) (lv' := [(3, .int (nI (i1 + 1))), (4, .int (nI i2)), (0, .ref ly), (1, .ref h), (2, .ref e)]) C dX3_build_96 rfl (nI_add i1 1) rfl rfl ?_
                    refine ww_goto (tgt := 29) C dX3_build_99 (by decide) ?_
                    exact ww_lv [0, 2, 3, 4] rfl (ww_sub [0, 1, 2, 3, 4, 5, 6, 7, 8, 9] (ndk (by decide +kernel)) (gqk (by eq_refl)) (ih_29 (i1 + 1) t2 f2 g2 q2 (by omega) (by omega) (PQx.fs hpq2 (by omega) (lyP_nos (c := i2) (by show ecs ≤ i2; omega))) (PFx.fs hpf2 (by omega) (lyP_nos (c := i2) (by show ecs ≤ i2; omega))) (by omega)))
                  · have zc_26 : ((i2 : Nat) : Int) < ((ecs : Nat) : Int) := i_nle (nI_toInt (n := ecs) (by omega)) (nI_toInt (n := i2) (by omega)) c_26
                    have hbs := bi_s cf i1 i2
                    refine ww_aload_n C dX3_build_49 2 rfl rfl ?_
                    refine ww_iload_n C dX3_build_50 1 rfl rfl ?_
                    refine ww_iload C dX3_build_51 0 rfl ?_
                    refine ww_ci (wr := [(lyf, .inl (E.2.1 1, 24, .inl ff)), (lyq, .inl (E.2.1 1, 4, .inl q2)), (h, .inr (4, [.int (nI n), .int (nI r), .ref a, .ref b])), (a, .inl (E.2.1 1, 24, .inl f)), (b, .inl (E.2.1 1, 96, .inl gg)), (lym, .inr (4, [.int (nI t2), .int 0, .ref lyx, .ref lyy])), (lyx, .inl (E.2.1 1, 24, .inl f2)), (lyy, .inl (E.2.1 1, 96, .inl g2))]) (k' := 0) (n' := 0) C (run_V (As := [.int (nI i1), .int (nI i2)]) (rest := []) C (l_lets X.2.1 E ro ly i1 i2 lym Pp n lyc lyf lyq cf (by omega) (by omega) (by omega) hL.1) mi_X3_lets wl_X3_70 rfl 0 3 rfl rfl rfl rfl rfl dX3_build_53) (roK hro) [0, 1] [2, 3, 4, 5, 6, 7, 8, 9] rfl (gqk (by eq_refl)) (plk (by decide +kernel)) rfl (fun r_27 uz hw => ?_)
                    rcases hw with hw | hw
                    · refine an3 hw ?_
                      clear hw
                      intro he_30 he_31 h_28 hw
                      have h_29 := hw
                      clear hw
                      have he_30 := he_30.symm
                      subst he_30
                      subst he_31
                      refine ww_eq (ws' := [(lyf, .inl (E.2.1 1, 24, .inl ff)), (lyq, .inl (E.2.1 1, 4, .inl q2)), (h, .inr (4, [.int (nI n), .int (nI r), .ref a, .ref b])), (a, .inl (E.2.1 1, 24, .inl f)), (b, .inl (E.2.1 1, 96, .inl gg)), (lym, .inr (4, [.int (nI t2), .int 0, .ref lyx, .ref lyy])), (lyx, .inl (E.2.1 1, 24, .inl f2)), (lyy, .inl (E.2.1 1, 96, .inl g2)), (ly, .inr (3, [.ref lym, .int (nI Pp), .int (nI n), .ref lyc, .ref lyf, .ref lyq])), (lyc, .inl (E.2.1 1, 24, .inl cf))]) ?_ rfl rfl rfl
                      refine ww_if_eq_f (tgt := 90) C dX3_build_56 (by decide) (by decide) ?_
                      have hlt_k_35 := LYR.lt hL (w := i1) (c := i2) (by omega) (by omega) (by assumption)
                      rw [if_pos (by assumption)] at hbs
                      refine ww_aload_n C dX3_build_59 2 rfl rfl ?_
                      refine ww_get C fg_X3_25 8 rfl rfl dX3_build_60 ?_
                      refine ww_iload C dX3_build_63 0 rfl ?_
                      refine ww_dup2 C dX3_build_65 rfl rfl ?_
                      obtain ⟨x_36, ex_36⟩ : ∃ z : Int32, q2 i2 = z := ⟨_, rfl⟩
                      refine ww_iald (v := x_36) C 1 rfl (vp_in_nI (by omega) (by omega)) (ldn (by omega) ex_36) dX3_build_66 ?_
                      refine ww_iconst (v := 1) C dX3_build_67 rfl ?_
                      refine ww_aload_n C dX3_build_68 2 rfl rfl ?_
                      refine ww_get C fg_X3_12 8 rfl rfl dX3_build_69 ?_
                      refine ww_aload_n C dX3_build_72 4 rfl rfl ?_
                      refine ww_aload_n C dX3_build_73 3 rfl rfl ?_
                      refine ww_get C fg_X3_73 2 rfl rfl dX3_build_74 ?_
                      refine ww_iload_n C dX3_build_77 1 rfl rfl ?_
                      obtain ⟨x_37, ex_37⟩ : ∃ z : Int32, f i1 = z := ⟨_, rfl⟩
                      refine ww_iald (v := x_37) C 3 rfl (vp_in_nI (by omega) (by omega)) (ldn (by omega) ex_37) dX3_build_78 ?_
                      refine ww_iload C dX3_build_79 0 rfl ?_
                      refine ww_ci (wr := [(lyf, .inl (E.2.1 1, 24, .inl ff)), (lyq, .inl (E.2.1 1, 4, .inl q2)), (h, .inr (4, [.int (nI n), .int (nI r), .ref a, .ref b])), (a, .inl (E.2.1 1, 24, .inl f)), (b, .inl (E.2.1 1, 96, .inl gg)), (lym, .inr (4, [.int (nI t2), .int 0, .ref lyx, .ref lyy])), (lyx, .inl (E.2.1 1, 24, .inl f2)), (lyy, .inl (E.2.1 1, 96, .inl g2)), (ly, .inr (3, [.ref lym, .int (nI Pp), .int (nI n), .ref lyc, .ref lyf, .ref lyq])), (lyc, .inl (E.2.1 1, 24, .inl cf))]) (k' := 0) (n' := 0) C (run_VR (As := [.int x_37, .int (nI i2)]) (rest := [.ref lym, .int 1, .int x_36, .int (nI i2), .ref lyq]) C (e_changed X.2.1 E ro e x_37 i2 ecs erc eT efb efc efd (by omega) hev) mi_X0_changed wl_X3_76 rfl i0y_1 0 g0y_1 rfl rfl rfl rfl dX3_build_81) (roK hro) [] [0, 1, 2, 3, 4, 5, 6, 7, 8, 9] rfl (gqk (by eq_refl)) (plk (by decide +kernel)) rfl (fun r_38 uz hw => ?_)
                      refine an1 hw ?_
                      clear hw
                      intro he_39 hw
                      have he_40 := hw
                      clear hw
                      have he_39 := he_39.symm
                      subst he_39
                      subst he_40
                      refine ww_eq (ws' := [(lyf, .inl (E.2.1 1, 24, .inl ff)), (lyq, .inl (E.2.1 1, 4, .inl q2)), (h, .inr (4, [.int (nI n), .int (nI r), .ref a, .ref b])), (a, .inl (E.2.1 1, 24, .inl f)), (b, .inl (E.2.1 1, 96, .inl gg)), (lym, .inr (4, [.int (nI t2), .int 0, .ref lyx, .ref lyy])), (lyx, .inl (E.2.1 1, 24, .inl f2)), (lyy, .inl (E.2.1 1, 96, .inl g2)), (ly, .inr (3, [.ref lym, .int (nI Pp), .int (nI n), .ref lyc, .ref lyf, .ref lyq])), (lyc, .inl (E.2.1 1, 24, .inl cf))]) ?_ rfl rfl rfl
                      refine ww_ci (wr := [(lyf, .inl (E.2.1 1, 24, .inl ff)), (lyq, .inl (E.2.1 1, 4, .inl q2)), (h, .inr (4, [.int (nI n), .int (nI r), .ref a, .ref b])), (a, .inl (E.2.1 1, 24, .inl f)), (b, .inl (E.2.1 1, 96, .inl gg)), (ly, .inr (3, [.ref lym, .int (nI Pp), .int (nI n), .ref lyc, .ref lyf, .ref lyq])), (lyc, .inl (E.2.1 1, 24, .inl cf))]) (k' := 0) (n' := 0) C (run_V (As := [.int (chg efb efc x_37 i2)]) (rest := [.int 1, .int x_36, .int (nI i2), .ref lyq]) C (m_add X.2.1 E ro lym (chg efb efc x_37 i2) t2 0 lyx lyy f2 g2 (by omega)) mi_X4_add wl_X3_80 rfl 0 4 rfl rfl rfl rfl rfl dX3_build_84) (roK hro) [5, 6, 7] [0, 1, 2, 3, 4, 8, 9] rfl rfl (plk (by decide +kernel)) rfl (fun r_41 uz hw => ?_)
                      refine ex2 hw ?_
                      clear hw
                      intro f2_42 g2_43 hw
                      refine an3 hw ?_
                      clear hw
                      intro he_46 he_47 h_44 hw
                      have h_45 := hw
                      clear hw
                      have he_46 := he_46.symm
                      subst he_46
                      subst he_47
                      refine ww_eq (ws' := [(lyf, .inl (E.2.1 1, 24, .inl ff)), (lyq, .inl (E.2.1 1, 4, .inl q2)), (h, .inr (4, [.int (nI n), .int (nI r), .ref a, .ref b])), (a, .inl (E.2.1 1, 24, .inl f)), (b, .inl (E.2.1 1, 96, .inl gg)), (ly, .inr (3, [.ref lym, .int (nI Pp), .int (nI n), .ref lyc, .ref lyf, .ref lyq])), (lyc, .inl (E.2.1 1, 24, .inl cf)), (lym, .inr (4, [.int (nI (t2 + 1)), .int 0, .ref lyx, .ref lyy])), (lyx, .inl (E.2.1 1, 24, .inl f2_42)), (lyy, .inl (E.2.1 1, 96, .inl g2_43))]) ?_ rfl rfl rfl
                      obtain ⟨x_48, ex_48⟩ : ∃ z : Int32, (1 : Int32) <<< ((nI t2) &&& 31) = z := ⟨_, rfl⟩
                      refine ww_ishl (v := x_48) C dX3_build_87 ex_48 ?_
                      obtain ⟨x_49, ex_49⟩ : ∃ z : Int32, x_36 ||| x_48 = z := ⟨_, rfl⟩
                      refine ww_ior (v := x_49) C dX3_build_88 ex_49 ?_
                      obtain ⟨f_50, ef_50⟩ : ∃ z : Nat → Int32, upd q2 i2 x_49 = z := ⟨_, rfl⟩
                      refine ww_iast (ws' := [(lyf, .inl (E.2.1 1, 24, .inl ff)), (lyq, .inl (E.2.1 1, 4, .inl f_50)), (h, .inr (4, [.int (nI n), .int (nI r), .ref a, .ref b])), (a, .inl (E.2.1 1, 24, .inl f)), (b, .inl (E.2.1 1, 96, .inl gg)), (ly, .inr (3, [.ref lym, .int (nI Pp), .int (nI n), .ref lyc, .ref lyf, .ref lyq])), (lyc, .inl (E.2.1 1, 24, .inl cf)), (lym, .inr (4, [.int (nI (t2 + 1)), .int 0, .ref lyx, .ref lyy])), (lyx, .inl (E.2.1 1, 24, .inl f2_42)), (lyy, .inl (E.2.1 1, 96, .inl g2_43))]) C 1 rfl (vp_in_nI (by omega) (by omega)) (ldn2 (by omega) ef_50) rfl dX3_build_89 ?_
                      refine ww_iinc (j := 0) (v := (nI (i2 + 1))) (lv' := [(4, .int (nI (i2 + 1))), (3, .int (nI i1)), (0, .ref ly), (1, .ref h), (2, .ref e)]) C dX3_build_90 rfl (nI_add i2 1) rfl rfl ?_
                      refine ww_goto (tgt := 40) C dX3_build_93 (by decide) ?_
                      exact ww_lv [0, 1, 2, 3, 4] rfl (ww_sub [5, 6, 0, 1, 2, 3, 4, 7, 8, 9] (ndk (by decide +kernel)) (gqk (by eq_refl)) (ih_40 (i2 + 1) (t2 + 1) f2_42 g2_43 f_50 (by omega) (by omega) (PQx.t (i := 4 * i1 + i2) hpq2 (by omega) (by have h9 := ly_cb hM (w := i1) (c := i2) (by omega) (by omega); omega) (by rw [← hM i1 i2 (by omega) (by omega)]; exact h_29) (by omega) (by have h9 := ly_cb hM (w := i1) (c := i2) (by omega) (by omega); omega) ex_36 ex_48 ex_49 ef_50) (PFx.t (i := 4 * i1 + i2) hpf2 (by rw [← hM i1 i2 (by omega) (by omega)]; exact h_29) (by have h9 := ly_cb hM (w := i1) (c := i2) (by omega) (by omega); omega) (by rw [lyF_at (by omega) (by omega), ex_37]) h_45) (by omega)))
                    · refine an2 hw ?_
                      clear hw
                      intro he_33 he_34 hw
                      have h_32 := hw
                      clear hw
                      have he_33 := he_33.symm
                      subst he_33
                      subst he_34
                      refine ww_eq (ws' := [(lyf, .inl (E.2.1 1, 24, .inl ff)), (lyq, .inl (E.2.1 1, 4, .inl q2)), (h, .inr (4, [.int (nI n), .int (nI r), .ref a, .ref b])), (a, .inl (E.2.1 1, 24, .inl f)), (b, .inl (E.2.1 1, 96, .inl gg)), (lym, .inr (4, [.int (nI t2), .int 0, .ref lyx, .ref lyy])), (lyx, .inl (E.2.1 1, 24, .inl f2)), (lyy, .inl (E.2.1 1, 96, .inl g2)), (ly, .inr (3, [.ref lym, .int (nI Pp), .int (nI n), .ref lyc, .ref lyf, .ref lyq])), (lyc, .inl (E.2.1 1, 24, .inl cf))]) ?_ rfl rfl rfl
                      refine ww_if_eq_t (tgt := 90) C dX3_build_56 (by decide) (rfl) ?_
                      rw [(show i1 < n → (cN cf i1).testBit i2 = false by assumption) (by omega)] at hbs
                      simp only [Bool.false_eq_true, if_false] at hbs
                      refine ww_iinc (j := 0) (v := (nI (i2 + 1))) (lv' := [(4, .int (nI (i2 + 1))), (3, .int (nI i1)), (0, .ref ly), (1, .ref h), (2, .ref e)]) C dX3_build_90 rfl (nI_add i2 1) rfl rfl ?_
                      refine ww_goto (tgt := 40) C dX3_build_93 (by decide) ?_
                      exact ww_lv [0, 1, 2, 3, 4] rfl (ww_sub [8, 9, 0, 1, 2, 3, 4, 5, 6, 7] (ndk (by decide +kernel)) (gqk (by eq_refl)) (ih_40 (i2 + 1) t2 f2 g2 q2 (by omega) (by omega) (PQx.f (i := 4 * i1 + i2) hpq2 (by rw [← hM i1 i2 (by omega) (by omega)]; exact h_32 (by omega))) (PFx.f (i := 4 * i1 + i2) hpf2 (by rw [← hM i1 i2 (by omega) (by omega)]; exact h_32 (by omega))) (by omega)))
              exact ww_lv [0, 1, 2, 3, 4] rfl (ww_sub [0, 1, 2, 3, 4, 5, 6, 7, 8, 9] (ndk (by decide +kernel)) (gqk (by eq_refl)) (loop_40 _ 0 t1 f1 g1 q1 (by omega) ht1 hpq1 hpf1 (Nat.lt_succ_self _)))
        exact ww_lv [0, 1, 2, 3] rfl (ww_sub [0, 1, 2, 3, 4, 5, 6, 7, 8, 9] (ndk (by decide +kernel)) (gqk (by eq_refl)) (loop_29 _ 0 0 bf bg q0 (by omega) rfl (PQx.nil (fun c hc => hz0 c (by omega))) PFx.nil (Nat.lt_succ_self _)))
      · have zc_4 : ((i0 : Nat) : Int) < 4 := i_nle rfl (nI_toInt (n := i0) (by omega)) c_4
        refine ww_aload_n C dX3_build_14 1 rfl rfl ?_
        refine ww_get C fg_X3_25 0 rfl rfl dX3_build_15 ?_
        refine ww_iload_n C dX3_build_18 0 rfl rfl ?_
        refine ww_iconst (v := 0) C dX3_build_19 rfl ?_
        obtain ⟨f_51, ef_51⟩ : ∃ z : Nat → Int32, upd q0 i0 0 = z := ⟨_, rfl⟩
        refine ww_iast (ws' := [(ly, .inr (3, [.ref lym, .int (nI Pp), .int (nI n), .ref lyc, .ref lyf, .ref lyq])), (lyc, .inl (E.2.1 1, 24, .inl cf)), (lyf, .inl (E.2.1 1, 24, .inl ff)), (lyq, .inl (E.2.1 1, 4, .inl f_51)), (h, .inr (4, [.int (nI n), .int (nI r), .ref a, .ref b])), (a, .inl (E.2.1 1, 24, .inl f)), (b, .inl (E.2.1 1, 96, .inl gg)), (lym, .inr (4, [.int 0, .int 0, .ref lyx, .ref lyy])), (lyx, .inl (E.2.1 1, 24, .inl bf)), (lyy, .inl (E.2.1 1, 96, .inl bg))]) C 3 rfl (vp_in_nI (by omega) (by omega)) (ldn2 (by omega) ef_51) rfl dX3_build_20 ?_
        refine ww_iinc (j := 0) (v := (nI (i0 + 1))) (lv' := [(3, .int (nI (i0 + 1))), (0, .ref ly), (1, .ref h), (2, .ref e)]) C dX3_build_21 rfl (nI_add i0 1) rfl rfl ?_
        refine ww_goto (tgt := 9) C dX3_build_24 (by decide) ?_
        exact ww_lv [0, 1, 2, 3] rfl (ww_sub [0, 1, 2, 3, 4, 5, 6, 7, 8, 9] (ndk (by decide +kernel)) (gqk (by eq_refl)) (ih_9 (i0 + 1) f_51 (by omega) (Z0x.ext hz0 ef_51) (by omega)))
  exact ww_lv [0, 1, 2, 3] rfl (ww_sub [0, 1, 2, 3, 4, 5, 6, 7, 8, 9] (ndk (by decide +kernel)) (gqk (by eq_refl)) (loop_9 _ 0 fq (by omega) Z0x.nil (Nat.lt_succ_self _)))
theorem dX3_becomes_0 : decode cX3_becomes 0 = .ok (.aload_n 0, 1) := dl_42 (by decide +kernel)
theorem dX3_becomes_1 : decode cX3_becomes 1 = .ok (.iload_n 1, 1) := dl_27 (by decide +kernel)
theorem dX3_becomes_2 : decode cX3_becomes 2 = .ok (.iload_n 2, 1) := dl_28 (by decide +kernel)
theorem dX3_becomes_3 : decode cX3_becomes 3 = .ok (.invokevirtual 70, 3) := dl_182 (by decide +kernel)
theorem dX3_becomes_6 : decode cX3_becomes 6 = .ok (.ifCond .eq 12, 3) := dl_153 (by decide +kernel)
theorem dX3_becomes_9 : decode cX3_becomes 9 = .ok (.aload_n 0, 1) := dl_42 (by decide +kernel)
theorem dX3_becomes_10 : decode cX3_becomes 10 = .ok (.iload_n 1, 1) := dl_27 (by decide +kernel)
theorem dX3_becomes_11 : decode cX3_becomes 11 = .ok (.iload_n 2, 1) := dl_28 (by decide +kernel)
theorem dX3_becomes_12 : decode cX3_becomes 12 = .ok (.invokevirtual 93, 3) := dl_182 (by decide +kernel)
theorem dX3_becomes_15 : decode cX3_becomes 15 = .ok (.goto 9, 3) := dl_167 (by decide +kernel)
theorem dX3_becomes_24 : decode cX3_becomes 24 = .ok (.ireturn, 1) := dl_172 (by decide +kernel)
theorem dX3_becomes_18 : decode cX3_becomes 18 = .ok (.aload_n 0, 1) := dl_42 (by decide +kernel)
theorem dX3_becomes_19 : decode cX3_becomes 19 = .ok (.getfield 22, 3) := dl_180 (by decide +kernel)
theorem dX3_becomes_22 : decode cX3_becomes 22 = .ok (.iload_n 1, 1) := dl_27 (by decide +kernel)
theorem dX3_becomes_23 : decode cX3_becomes 23 = .ok (.iaload, 1) := dl_46 (by decide +kernel)
set_option maxRecDepth 100000 in
set_option maxHeartbeats 4000000 in
theorem l_becomes (l : Launch) (E : EV) (ro : va_W) (ly : Nat) (w : Nat) (c : Nat) (lym : Nat) (Pp : Nat) (n : Nat) (lyc : Nat) (lyf : Nat) (lyq : Nat) (cf : Nat → Int32) (ff : Nat → Int32) (PP : Nat → Bool) (hn : n ≤ 24) (hw : w < n) (hc : c < 4) (hL : LYR n cf ff Pp) (hM : LYM n PP cf) : CT l yX3_becomes (Cond.code yX3_becomes cX3_becomes 3 (some .int) :: TB) ({ frames := 2, cells := 0, slots := 0, locals := 43 }) E ro [.ref ly, .int (nI w), .int (nI c)] [(ly, .inr (3, [.ref lym, .int (nI Pp), .int (nI n), .ref lyc, .ref lyf, .ref lyq])), (lyc, .inl (E.2.1 1, 24, .inl cf)), (lyf, .inl (E.2.1 1, 24, .inl ff))] (Qi E (fun (rz : Int32) uz => (rz = (nI (bcm PP w c)) ∧ uz = [(ly, .inr (3, [.ref lym, .int (nI Pp), .int (nI n), .ref lyc, .ref lyf, .ref lyq])), (lyc, .inl (E.2.1 1, 24, .inl cf)), (lyf, .inl (E.2.1 1, 24, .inl ff))] ∧ (bcm PP w c ≤ Pp)))) 0 0 := by
  refine ct_of rfl rfl ?_
  intro X C hT hin hro
  show WW X 3 E 0 [(0, .ref ly), (1, .int (nI w)), (2, .int (nI c))] [] [(ly, .inr (3, [.ref lym, .int (nI Pp), .int (nI n), .ref lyc, .ref lyf, .ref lyq])), (lyc, .inl (E.2.1 1, 24, .inl cf)), (lyf, .inl (E.2.1 1, 24, .inl ff))] 0 0
  refine ww_aload_n C dX3_becomes_0 0 rfl rfl ?_
  refine ww_iload_n C dX3_becomes_1 1 rfl rfl ?_
  refine ww_iload_n C dX3_becomes_2 2 rfl rfl ?_
  refine ww_ci (wr := [(lyf, .inl (E.2.1 1, 24, .inl ff))]) (k' := 0) (n' := 0) C (run_V (As := [.int (nI w), .int (nI c)]) (rest := []) C (l_lets X.2.1 E ro ly w c lym Pp n lyc lyf lyq cf (by omega) (by omega) (by omega) hL.1) mi_X3_lets wl_X3_70 rfl 0 3 rfl rfl rfl rfl rfl dX3_becomes_3) (roK hro) [0, 1] [2] rfl rfl rfl rfl (fun r_1 uz hw => ?_)
  rcases hw with hw | hw
  · refine an3 hw ?_
    clear hw
    intro he_4 he_5 h_2 hw
    have h_3 := hw
    clear hw
    have he_4 := he_4.symm
    subst he_4
    subst he_5
    refine ww_eq (ws' := [(lyf, .inl (E.2.1 1, 24, .inl ff)), (ly, .inr (3, [.ref lym, .int (nI Pp), .int (nI n), .ref lyc, .ref lyf, .ref lyq])), (lyc, .inl (E.2.1 1, 24, .inl cf))]) ?_ rfl rfl rfl
    refine ww_if_eq_f (tgt := 18) C dX3_becomes_6 (by decide) (by decide) ?_
    refine ww_aload_n C dX3_becomes_9 0 rfl rfl ?_
    refine ww_iload_n C dX3_becomes_10 1 rfl rfl ?_
    refine ww_iload_n C dX3_becomes_11 2 rfl rfl ?_
    refine ww_ci (wr := []) (k' := 0) (n' := 0) C (run_V (As := [.int (nI w), .int (nI c)]) (rest := []) C (l_pair X.2.1 E ro ly w c lym Pp n lyc lyf lyq cf ff (by omega) (by omega) (by omega) hL) mi_X3_pair wl_X3_93 rfl 0 3 rfl rfl rfl rfl rfl dX3_becomes_12) (roK hro) [1, 2, 0] [] rfl rfl rfl rfl (fun r_9 uz hw => ?_)
    refine an1 hw ?_
    clear hw
    intro he_10 hw
    have he_11 := hw
    clear hw
    have he_10 := he_10.symm
    subst he_10
    subst he_11
    refine ww_eq (ws' := [(ly, .inr (3, [.ref lym, .int (nI Pp), .int (nI n), .ref lyc, .ref lyf, .ref lyq])), (lyc, .inl (E.2.1 1, 24, .inl cf)), (lyf, .inl (E.2.1 1, 24, .inl ff))]) ?_ rfl rfl rfl
    refine ww_goto (tgt := 24) C dX3_becomes_15 (by decide) ?_
    exact ww_iret (u := [(ly, .inr (3, [.ref lym, .int (nI Pp), .int (nI n), .ref lyc, .ref lyf, .ref lyq])), (lyc, .inl (E.2.1 1, 24, .inl cf)), (lyf, .inl (E.2.1 1, 24, .inl ff))]) C hT [0, 1, 2] rfl rfl rfl rfl dX3_becomes_24 (⟨(by unfold bcm; rw [if_pos (by rw [← hM w c (by omega) (by omega)]; exact h_3), ← ly_cb hM hw (by omega)]), rfl, (by have h8 := hL.2.2; have h7 := ly_w hM n (Nat.le_refl _); have h9 := bcm_lt (P := PP) (w := w) (rc := c) (N := 4 * n) hc (by omega); omega)⟩)
  · refine an2 hw ?_
    clear hw
    intro he_7 he_8 hw
    have h_6 := hw
    clear hw
    have he_7 := he_7.symm
    subst he_7
    subst he_8
    refine ww_eq (ws' := [(lyf, .inl (E.2.1 1, 24, .inl ff)), (ly, .inr (3, [.ref lym, .int (nI Pp), .int (nI n), .ref lyc, .ref lyf, .ref lyq])), (lyc, .inl (E.2.1 1, 24, .inl cf))]) ?_ rfl rfl rfl
    refine ww_if_eq_t (tgt := 18) C dX3_becomes_6 (by decide) (rfl) ?_
    refine ww_aload_n C dX3_becomes_18 0 rfl rfl ?_
    refine ww_get C fg_X3_22 1 rfl rfl dX3_becomes_19 ?_
    refine ww_iload_n C dX3_becomes_22 1 rfl rfl ?_
    refine ww_iald (v := (nI (pcs cf w))) C 0 rfl (vp_in_nI (by omega) (by omega)) (ldn (by omega) (hL.2.1 w (by omega))) dX3_becomes_23 ?_
    exact ww_iret (u := [(ly, .inr (3, [.ref lym, .int (nI Pp), .int (nI n), .ref lyc, .ref lyf, .ref lyq])), (lyc, .inl (E.2.1 1, 24, .inl cf)), (lyf, .inl (E.2.1 1, 24, .inl ff))]) C hT [1, 2, 0] rfl rfl rfl rfl dX3_becomes_24 (⟨(by unfold bcm; rw [if_neg (by rw [← hM w c (by omega) (by omega), h_6 (by omega)]; decide), ← ly_w hM w (by omega)]), rfl, (by have h8 := hL.2.2; have h7 := ly_w hM n (Nat.le_refl _); have h9 := bcm_lt (P := PP) (w := w) (rc := c) (N := 4 * n) hc (by omega); omega)⟩)
theorem dX3_comingTo_0 : decode cX3_comingTo 0 = .ok (.iconst 0, 1) := dl_3 (by decide +kernel)
theorem dX3_comingTo_1 : decode cX3_comingTo 1 = .ok (.istore_n 3, 1) := dl_62 (by decide +kernel)
theorem dX3_comingTo_2 : decode cX3_comingTo 2 = .ok (.iconst 0, 1) := dl_3 (by decide +kernel)
theorem dX3_comingTo_3 : decode cX3_comingTo 3 = .ok (.istore 4, 2) := dl_54 (by decide +kernel)
theorem dX3_comingTo_5 : decode cX3_comingTo 5 = .ok (.iload 4, 2) := dl_21 (by decide +kernel)
theorem dX3_comingTo_7 : decode cX3_comingTo 7 = .ok (.aload_n 0, 1) := dl_42 (by decide +kernel)
theorem dX3_comingTo_8 : decode cX3_comingTo 8 = .ok (.getfield 32, 3) := dl_180 (by decide +kernel)
theorem dX3_comingTo_11 : decode cX3_comingTo 11 = .ok (.if_icmp .ge 40, 3) := dl_162 (by decide +kernel)
theorem dX3_comingTo_51 : decode cX3_comingTo 51 = .ok (.iload_n 3, 1) := dl_29 (by decide +kernel)
theorem dX3_comingTo_52 : decode cX3_comingTo 52 = .ok (.ireturn, 1) := dl_172 (by decide +kernel)
theorem dX3_comingTo_14 : decode cX3_comingTo 14 = .ok (.aload_n 0, 1) := dl_42 (by decide +kernel)
theorem dX3_comingTo_15 : decode cX3_comingTo 15 = .ok (.getfield 18, 3) := dl_180 (by decide +kernel)
theorem dX3_comingTo_18 : decode cX3_comingTo 18 = .ok (.iload 4, 2) := dl_21 (by decide +kernel)
theorem dX3_comingTo_20 : decode cX3_comingTo 20 = .ok (.iaload, 1) := dl_46 (by decide +kernel)
theorem dX3_comingTo_21 : decode cX3_comingTo 21 = .ok (.ifCond .eq 17, 3) := dl_153 (by decide +kernel)
theorem dX3_comingTo_38 : decode cX3_comingTo 38 = .ok (.iload_n 3, 1) := dl_29 (by decide +kernel)
theorem dX3_comingTo_39 : decode cX3_comingTo 39 = .ok (.iconst 1, 1) := dl_4 (by decide +kernel)
theorem dX3_comingTo_40 : decode cX3_comingTo 40 = .ok (.iload 4, 2) := dl_21 (by decide +kernel)
theorem dX3_comingTo_42 : decode cX3_comingTo 42 = .ok (.ishl, 1) := dl_120 (by decide +kernel)
theorem dX3_comingTo_43 : decode cX3_comingTo 43 = .ok (.ior, 1) := dl_128 (by decide +kernel)
theorem dX3_comingTo_44 : decode cX3_comingTo 44 = .ok (.istore_n 3, 1) := dl_62 (by decide +kernel)
theorem dX3_comingTo_45 : decode cX3_comingTo 45 = .ok (.iinc 4 1, 3) := dl_132 (by decide +kernel)
theorem dX3_comingTo_48 : decode cX3_comingTo 48 = .ok (.goto (-43), 3) := dl_167 (by decide +kernel)
theorem dX3_comingTo_24 : decode cX3_comingTo 24 = .ok (.iload_n 1, 1) := dl_27 (by decide +kernel)
theorem dX3_comingTo_25 : decode cX3_comingTo 25 = .ok (.aload_n 0, 1) := dl_42 (by decide +kernel)
theorem dX3_comingTo_26 : decode cX3_comingTo 26 = .ok (.iload 4, 2) := dl_21 (by decide +kernel)
theorem dX3_comingTo_28 : decode cX3_comingTo 28 = .ok (.iload_n 2, 1) := dl_28 (by decide +kernel)
theorem dX3_comingTo_29 : decode cX3_comingTo 29 = .ok (.invokevirtual 109, 3) := dl_182 (by decide +kernel)
theorem wl_X3_109 : Cond.methodLink RX3 109 yX3_becomes ∈ TB := tbm (tq4 (List.mem_of_getElem? (i := 43) (by decide +kernel))) (by decide +kernel)
theorem wc_X3_becomes : Cond.code yX3_becomes cX3_becomes 3 (some .int) ∈ TB := tbm (tq4 (List.mem_of_getElem? (i := 46) (rfl))) (by decide +kernel)
theorem wi_X3_becomes : Cond.instanceMethod yX3_becomes ∈ TB := tbm (tq4 (List.mem_of_getElem? (i := 45) (by decide +kernel))) (by decide +kernel)
theorem ws_X3_becomes : Cond.selects RX3 yX3_becomes yX3_becomes ∈ TB := tbm (tq0 (List.mem_of_getElem? (i := 21) (by decide +kernel))) (by decide +kernel)
theorem mi_X3_becomes : MI yX3_becomes cX3_becomes 3 (some .int) 2 := ⟨wc_X3_becomes, wn_X3, ⟨by decide +kernel, by decide +kernel, by decide +kernel⟩, wi_X3_becomes, ws_X3_becomes⟩
theorem dX3_comingTo_32 : decode cX3_comingTo 32 = .ok (.invokestatic 63, 3) := dl_184 (by decide +kernel)
theorem dX3_comingTo_35 : decode cX3_comingTo 35 = .ok (.ifCond .eq 10, 3) := dl_153 (by decide +kernel)
set_option maxRecDepth 100000 in
set_option maxHeartbeats 4000000 in
theorem l_comingTo (l : Launch) (E : EV) (ro : va_W) (ly : Nat) (wb : Int32) (c : Nat) (lym : Nat) (Pp : Nat) (n : Nat) (lyc : Nat) (lyf : Nat) (lyq : Nat) (cf : Nat → Int32) (ff : Nat → Int32) (PP : Nat → Bool) (hn : n ≤ 24) (hc : c < 4) (hL : LYR n cf ff Pp) (hM : LYM n PP cf) (hP : Pp ≤ 24) : CT l yX3_comingTo (Cond.code yX3_comingTo cX3_comingTo 5 (some .int) :: TB) ({ frames := 3, cells := 0, slots := 0, locals := 65 }) E ro [.ref ly, .int wb, .int (nI c)] [(ly, .inr (3, [.ref lym, .int (nI Pp), .int (nI n), .ref lyc, .ref lyf, .ref lyq])), (lyc, .inl (E.2.1 1, 24, .inl cf)), (lyf, .inl (E.2.1 1, 24, .inl ff))] (Qi E (fun (rz : Int32) uz => (uz = [(ly, .inr (3, [.ref lym, .int (nI Pp), .int (nI n), .ref lyc, .ref lyf, .ref lyq])), (lyc, .inl (E.2.1 1, 24, .inl cf)), (lyf, .inl (E.2.1 1, 24, .inl ff))] ∧ (BS rz (fun w => decide (w < n) && (decide (cb PP (4 * w + 4) = cb PP (4 * w)) || bt wb (bcm PP w c))))))) 0 0 := by
  refine ct_of rfl rfl ?_
  intro X C hT hin hro
  show WW X 5 E 0 [(0, .ref ly), (1, .int wb), (2, .int (nI c))] [] [(ly, .inr (3, [.ref lym, .int (nI Pp), .int (nI n), .ref lyc, .ref lyf, .ref lyq])), (lyc, .inl (E.2.1 1, 24, .inl cf)), (lyf, .inl (E.2.1 1, 24, .inl ff))] 0 0
  refine ww_iconst (v := 0) C dX3_comingTo_0 rfl ?_
  refine ww_istore_n (lv' := [(3, .int 0), (0, .ref ly), (1, .int wb), (2, .int (nI c))]) C dX3_comingTo_1 rfl rfl rfl ?_
  refine ww_iconst (v := 0) C dX3_comingTo_2 rfl ?_
  refine ww_istore (lv' := [(4, .int 0), (3, .int 0), (0, .ref ly), (1, .int wb), (2, .int (nI c))]) C dX3_comingTo_3 rfl rfl ?_
  have loop_5 : ∀ (fu : Nat) (i1 : Nat) (ac : Int32), (i1 ≤ n) → (AC ac no_ i1 (fun w => decide (cb PP (4 * w + 4) = cb PP (4 * w)) || bt wb (bcm PP w c))) → n - i1 < fu → WW X 5 E 5 [(4, .int (nI i1)), (3, .int ac), (0, .ref ly), (1, .int wb), (2, .int (nI c))] [] [(ly, .inr (3, [.ref lym, .int (nI Pp), .int (nI n), .ref lyc, .ref lyf, .ref lyq])), (lyc, .inl (E.2.1 1, 24, .inl cf)), (lyf, .inl (E.2.1 1, 24, .inl ff))] 0 0 := by
    intro fu
    induction fu with
    | zero => intro i1 ac hi1 hac hmeas; exact absurd hmeas (Nat.not_lt_zero _)
    | succ fu ih_5 =>
      intro i1 ac hi1 hac hmeas
      refine ww_iload C dX3_comingTo_5 0 rfl ?_
      refine ww_aload_n C dX3_comingTo_7 2 rfl rfl ?_
      refine ww_get C fg_X3_32 0 rfl rfl dX3_comingTo_8 ?_
      refine ww_icmp_ge (tgt := 51) C dX3_comingTo_11 (by decide) (fun c_1 => ?_) (fun c_1 => ?_)
      · have zc_1 : ((i1 : Nat) : Int) ≥ ((n : Nat) : Int) := i_le (nI_toInt (n := n) (by omega)) (nI_toInt (n := i1) (by omega)) c_1
        refine ww_iload_n C dX3_comingTo_51 1 rfl rfl ?_
        exact ww_iret (u := [(ly, .inr (3, [.ref lym, .int (nI Pp), .int (nI n), .ref lyc, .ref lyf, .ref lyq])), (lyc, .inl (E.2.1 1, 24, .inl cf)), (lyf, .inl (E.2.1 1, 24, .inl ff))]) C hT [0, 1, 2] rfl rfl rfl rfl dX3_comingTo_52 (⟨rfl, (AC.fin hac (by omega))⟩)
      · have zc_1 : ((i1 : Nat) : Int) < ((n : Nat) : Int) := i_nle (nI_toInt (n := n) (by omega)) (nI_toInt (n := i1) (by omega)) c_1
        refine ww_aload_n C dX3_comingTo_14 2 rfl rfl ?_
        refine ww_get C fg_X3_18 0 rfl rfl dX3_comingTo_15 ?_
        refine ww_iload C dX3_comingTo_18 0 rfl ?_
        have hbx_2 := CBx.lt hL.1 (by omega) (show i1 < n by omega)
        refine ww_iald (v := (nI (cN cf i1))) C 1 rfl (vp_in_nI (by omega) (by omega)) (ldn (by omega) (hL.1 i1 (by omega)).1) dX3_comingTo_20 ?_
        refine ww_if_eq (tgt := 38) C dX3_comingTo_21 (by decide) (fun c_3 => ?_) (fun c_3 => ?_)
        · have zc_3 : ((cN cf i1 : Nat) : Int) = 0 := i_eq (nI_toInt (n := cN cf i1) (by omega)) rfl c_3
          refine ww_iload_n C dX3_comingTo_38 1 rfl rfl ?_
          refine ww_iconst (v := 1) C dX3_comingTo_39 rfl ?_
          refine ww_iload C dX3_comingTo_40 0 rfl ?_
          obtain ⟨x_4, ex_4⟩ : ∃ z : Int32, (1 : Int32) <<< ((nI i1) &&& 31) = z := ⟨_, rfl⟩
          refine ww_ishl (v := x_4) C dX3_comingTo_42 ex_4 ?_
          obtain ⟨x_5, ex_5⟩ : ∃ z : Int32, ac ||| x_4 = z := ⟨_, rfl⟩
          refine ww_ior (v := x_5) C dX3_comingTo_43 ex_5 ?_
          refine ww_istore_n (lv' := [(3, .int x_5), (4, .int (nI i1)), (0, .ref ly), (1, .int wb), (2, .int (nI c))]) C dX3_comingTo_44 rfl rfl rfl ?_
          refine ww_iinc (j := 1) (v := (nI (i1 + 1))) (lv' := [(4, .int (nI (i1 + 1))), (3, .int x_5), (0, .ref ly), (1, .int wb), (2, .int (nI c))]) C dX3_comingTo_45 rfl (nI_add i1 1) rfl rfl ?_
          refine ww_goto (tgt := 5) C dX3_comingTo_48 (by decide) ?_
          exact ww_lv [0, 1, 2, 3, 4] rfl (ww_sub [0, 1, 2] rfl rfl (ih_5 (i1 + 1) x_5 (by omega) (AC.t hac (by omega) (by rw [show decide (cb PP (4 * i1 + 4) = cb PP (4 * i1)) = true from decide_eq_true (by have h8 := bi_0 (cf := cf) (w := i1) (by omega); have h7 := ly_cb hM (w := i1) (c := 4) (by omega) (by omega); have h6 := ly_w hM i1 (by omega); omega)]; rfl) ex_5 ex_4) (by omega)))
        · have zc_3 : ((cN cf i1 : Nat) : Int) ≠ 0 := i_ne (nI_toInt (n := cN cf i1) (by omega)) rfl c_3
          refine ww_iload_n C dX3_comingTo_24 3 rfl rfl ?_
          refine ww_aload_n C dX3_comingTo_25 2 rfl rfl ?_
          refine ww_iload C dX3_comingTo_26 0 rfl ?_
          refine ww_iload_n C dX3_comingTo_28 4 rfl rfl ?_
          refine ww_ci (wr := []) (k' := 0) (n' := 0) C (run_V (As := [.int (nI i1), .int (nI c)]) (rest := [.int wb]) C (l_becomes X.2.1 E ro ly i1 c lym Pp n lyc lyf lyq cf ff PP (by omega) (by omega) (by omega) hL hM) mi_X3_becomes wl_X3_109 rfl 0 3 rfl rfl rfl rfl rfl dX3_comingTo_29) (roK hro) [0, 1, 2] [] rfl rfl rfl rfl (fun r_6 uz hw => ?_)
          refine an2 hw ?_
          clear hw
          intro he_8 he_9 hw
          have h_7 := hw
          clear hw
          have he_8 := he_8.symm
          subst he_8
          subst he_9
          refine ww_eq (ws' := [(ly, .inr (3, [.ref lym, .int (nI Pp), .int (nI n), .ref lyc, .ref lyf, .ref lyq])), (lyc, .inl (E.2.1 1, 24, .inl cf)), (lyf, .inl (E.2.1 1, 24, .inl ff))]) ?_ rfl rfl rfl
          refine ww_ci (wr := [(ly, .inr (3, [.ref lym, .int (nI Pp), .int (nI n), .ref lyc, .ref lyf, .ref lyq])), (lyc, .inl (E.2.1 1, 24, .inl cf)), (lyf, .inl (E.2.1 1, 24, .inl ff))]) (k' := 0) (n' := 0) C (run_SN (As := [.int wb, .int (nI (bcm PP i1 c))]) (rest := []) C (c_hasN X.2.1 E ro wb (bcm PP i1 c) (by omega)) ms_X11_has (List.mem_of_getElem? (i := 16) rfl) rfl rfl rfl rfl dX3_comingTo_32) (roK hro) [] [0, 1, 2] rfl rfl rfl rfl (fun r_10 uz hw => ?_)
          rcases hw with hw | hw
          · refine an2 hw ?_
            clear hw
            intro he_12 he_13 hw
            have h_11 := hw
            clear hw
            have he_12 := he_12.symm
            subst he_12
            subst he_13
            refine ww_eq (ws' := [(ly, .inr (3, [.ref lym, .int (nI Pp), .int (nI n), .ref lyc, .ref lyf, .ref lyq])), (lyc, .inl (E.2.1 1, 24, .inl cf)), (lyf, .inl (E.2.1 1, 24, .inl ff))]) ?_ rfl rfl rfl
            refine ww_if_eq_f (tgt := 45) C dX3_comingTo_35 (by decide) (by decide) ?_
            refine ww_iload_n C dX3_comingTo_38 1 rfl rfl ?_
            refine ww_iconst (v := 1) C dX3_comingTo_39 rfl ?_
            refine ww_iload C dX3_comingTo_40 0 rfl ?_
            obtain ⟨x_17, ex_17⟩ : ∃ z : Int32, (1 : Int32) <<< ((nI i1) &&& 31) = z := ⟨_, rfl⟩
            refine ww_ishl (v := x_17) C dX3_comingTo_42 ex_17 ?_
            obtain ⟨x_18, ex_18⟩ : ∃ z : Int32, ac ||| x_17 = z := ⟨_, rfl⟩
            refine ww_ior (v := x_18) C dX3_comingTo_43 ex_18 ?_
            refine ww_istore_n (lv' := [(3, .int x_18), (4, .int (nI i1)), (0, .ref ly), (1, .int wb), (2, .int (nI c))]) C dX3_comingTo_44 rfl rfl rfl ?_
            refine ww_iinc (j := 1) (v := (nI (i1 + 1))) (lv' := [(4, .int (nI (i1 + 1))), (3, .int x_18), (0, .ref ly), (1, .int wb), (2, .int (nI c))]) C dX3_comingTo_45 rfl (nI_add i1 1) rfl rfl ?_
            refine ww_goto (tgt := 5) C dX3_comingTo_48 (by decide) ?_
            exact ww_lv [0, 1, 2, 3, 4] rfl (ww_sub [0, 1, 2] rfl rfl (ih_5 (i1 + 1) x_18 (by omega) (AC.t hac (by omega) (by rw [show bt wb (bcm PP i1 c) = true from h_11, Bool.or_true]) ex_18 ex_17) (by omega)))
          · refine an2 hw ?_
            clear hw
            intro he_15 he_16 hw
            have h_14 := hw
            clear hw
            have he_15 := he_15.symm
            subst he_15
            subst he_16
            refine ww_eq (ws' := [(ly, .inr (3, [.ref lym, .int (nI Pp), .int (nI n), .ref lyc, .ref lyf, .ref lyq])), (lyc, .inl (E.2.1 1, 24, .inl cf)), (lyf, .inl (E.2.1 1, 24, .inl ff))]) ?_ rfl rfl rfl
            refine ww_if_eq_t (tgt := 45) C dX3_comingTo_35 (by decide) (rfl) ?_
            refine ww_iinc (j := 0) (v := (nI (i1 + 1))) (lv' := [(4, .int (nI (i1 + 1))), (3, .int ac), (0, .ref ly), (1, .int wb), (2, .int (nI c))]) C dX3_comingTo_45 rfl (nI_add i1 1) rfl rfl ?_
            refine ww_goto (tgt := 5) C dX3_comingTo_48 (by decide) ?_
            exact ww_lv [0, 1, 2, 3, 4] rfl (ww_sub [0, 1, 2] rfl rfl (ih_5 (i1 + 1) ac (by omega) (AC.f hac (by rw [show bt wb (bcm PP i1 c) = false from h_14, Bool.or_false]; exact decide_eq_false (by have h8 := bi_0 (cf := cf) (w := i1) (by omega); have h7 := ly_cb hM (w := i1) (c := 4) (by omega) (by omega); have h6 := ly_w hM i1 (by omega); omega))) (by omega)))
  exact ww_lv [0, 1, 2, 3, 4] rfl (ww_sub [0, 1, 2] rfl rfl (loop_5 _ 0 0 (by omega) AC.nil (Nat.lt_succ_self _)))
end
section
def ev6 (vc vr : Nat → Nat) (vi : Nat → Nat → Option SVal) (vs vn vp : Nat → Nat → Int32) : Nat → EVl := fun j => (vc j, vr j, vi j, vs j, vn j, vp j)
theorem dX2_whole_0 : decode cX2_whole 0 = .ok (.aload_n 1, 1) := dl_43 (by decide +kernel)
theorem dX2_whole_1 : decode cX2_whole 1 = .ok (.astore_n 3, 1) := dl_78 (by decide +kernel)
theorem dX2_whole_2 : decode cX2_whole 2 = .ok (.iconst 0, 1) := dl_3 (by decide +kernel)
theorem dX2_whole_3 : decode cX2_whole 3 = .ok (.istore 4, 2) := dl_54 (by decide +kernel)
theorem dX2_whole_5 : decode cX2_whole 5 = .ok (.iconst 1, 1) := dl_4 (by decide +kernel)
theorem dX2_whole_6 : decode cX2_whole 6 = .ok (.istore 5, 2) := dl_54 (by decide +kernel)
theorem dX2_whole_8 : decode cX2_whole 8 = .ok (.iload 4, 2) := dl_21 (by decide +kernel)
theorem dX2_whole_10 : decode cX2_whole 10 = .ok (.aload_n 2, 1) := dl_44 (by decide +kernel)
theorem dX2_whole_11 : decode cX2_whole 11 = .ok (.getfield 35, 3) := dl_180 (by decide +kernel)
theorem wf_X2_35 : Cond.fieldLink RX2 35 RX8 "afters" "I" ∈ TB := tbm (tq3 (List.mem_of_getElem? (i := 163) (by decide +kernel))) (by decide +kernel)
theorem fg_X2_35 : FG RX2 35 8 3 := ⟨RX8, TX8, 7, uw_X8, wf_X2_35, rfl, by decide, rfl⟩
theorem dX2_whole_14 : decode cX2_whole 14 = .ok (.if_icmp .ge 93, 3) := dl_162 (by decide +kernel)
theorem dX2_whole_107 : decode cX2_whole 107 = .ok (.iload 5, 2) := dl_21 (by decide +kernel)
theorem dX2_whole_109 : decode cX2_whole 109 = .ok (.ifCond .eq 12, 3) := dl_153 (by decide +kernel)
theorem dX2_whole_112 : decode cX2_whole 112 = .ok (.aload_n 0, 1) := dl_42 (by decide +kernel)
theorem dX2_whole_113 : decode cX2_whole 113 = .ok (.aload_n 3, 1) := dl_45 (by decide +kernel)
theorem dX2_whole_114 : decode cX2_whole 114 = .ok (.aload_n 2, 1) := dl_44 (by decide +kernel)
theorem dX2_whole_115 : decode cX2_whole 115 = .ok (.invokevirtual 57, 3) := dl_182 (by decide +kernel)
theorem wl_X2_57 : Cond.methodLink RX2 57 yX2_plain ∈ TB := tbm (tq4 (List.mem_of_getElem? (i := 38) (by decide +kernel))) (by decide +kernel)
theorem dX2_whole_118 : decode cX2_whole 118 = .ok (.goto 7, 3) := dl_167 (by decide +kernel)
theorem dX2_whole_125 : decode cX2_whole 125 = .ok (.istore 6, 2) := dl_54 (by decide +kernel)
theorem dX2_whole_127 : decode cX2_whole 127 = .ok (.iload 4, 2) := dl_21 (by decide +kernel)
theorem dX2_whole_129 : decode cX2_whole 129 = .ok (.iconst 1, 1) := dl_4 (by decide +kernel)
theorem dX2_whole_130 : decode cX2_whole 130 = .ok (.isub, 1) := dl_100 (by decide +kernel)
theorem dX2_whole_131 : decode cX2_whole 131 = .ok (.istore 7, 2) := dl_54 (by decide +kernel)
theorem dX2_whole_133 : decode cX2_whole 133 = .ok (.iload 7, 2) := dl_21 (by decide +kernel)
theorem dX2_whole_135 : decode cX2_whole 135 = .ok (.ifCond .lt 38, 3) := dl_155 (by decide +kernel)
theorem dX2_whole_173 : decode cX2_whole 173 = .ok (.iload 6, 2) := dl_21 (by decide +kernel)
theorem dX2_whole_175 : decode cX2_whole 175 = .ok (.ireturn, 1) := dl_172 (by decide +kernel)
theorem dX2_whole_17 : decode cX2_whole 17 = .ok (.iload 5, 2) := dl_21 (by decide +kernel)
theorem dX2_whole_19 : decode cX2_whole 19 = .ok (.ifCond .eq 88, 3) := dl_153 (by decide +kernel)
theorem dX2_whole_22 : decode cX2_whole 22 = .ok (.aload_n 0, 1) := dl_42 (by decide +kernel)
theorem dX2_whole_23 : decode cX2_whole 23 = .ok (.getfield 19, 3) := dl_180 (by decide +kernel)
theorem wf_X2_19 : Cond.fieldLink RX2 19 RX2 "events" "[LWhoKnows$Event;" ∈ TB := tbm (tq1 (List.mem_of_getElem? (i := 215) (by decide +kernel))) (by decide +kernel)
theorem fg_X2_19 : FG RX2 19 2 1 := ⟨RX2, TX2, 4, uw_X2, wf_X2_19, rfl, by decide, rfl⟩
theorem dX2_whole_26 : decode cX2_whole 26 = .ok (.aload_n 2, 1) := dl_44 (by decide +kernel)
theorem dX2_whole_27 : decode cX2_whole 27 = .ok (.getfield 39, 3) := dl_180 (by decide +kernel)
theorem wf_X2_39 : Cond.fieldLink RX2 39 RX8 "after" "[I" ∈ TB := tbm (tq3 (List.mem_of_getElem? (i := 166) (by decide +kernel))) (by decide +kernel)
theorem fg_X2_39 : FG RX2 39 8 4 := ⟨RX8, TX8, 7, uw_X8, wf_X2_39, rfl, by decide, rfl⟩
theorem dX2_whole_30 : decode cX2_whole 30 = .ok (.iload 4, 2) := dl_21 (by decide +kernel)
theorem dX2_whole_32 : decode cX2_whole 32 = .ok (.iaload, 1) := dl_46 (by decide +kernel)
theorem dX2_whole_33 : decode cX2_whole 33 = .ok (.aaload, 1) := dl_50 (by decide +kernel)
theorem dX2_whole_34 : decode cX2_whole 34 = .ok (.astore 6, 2) := dl_58 (by decide +kernel)
theorem dX2_whole_36 : decode cX2_whole 36 = .ok (.aload_n 0, 1) := dl_42 (by decide +kernel)
theorem dX2_whole_37 : decode cX2_whole 37 = .ok (.getfield 29, 3) := dl_180 (by decide +kernel)
theorem wf_X2_29 : Cond.fieldLink RX2 29 RX2 "ahead" "[LWhoKnows$Layer;" ∈ TB := tbm (tq1 (List.mem_of_getElem? (i := 219) (by decide +kernel))) (by decide +kernel)
theorem fg_X2_29 : FG RX2 29 2 3 := ⟨RX2, TX2, 4, uw_X2, wf_X2_29, rfl, by decide, rfl⟩
theorem dX2_whole_40 : decode cX2_whole 40 = .ok (.iload 4, 2) := dl_21 (by decide +kernel)
theorem dX2_whole_42 : decode cX2_whole 42 = .ok (.aaload, 1) := dl_50 (by decide +kernel)
theorem dX2_whole_43 : decode cX2_whole 43 = .ok (.aload_n 3, 1) := dl_45 (by decide +kernel)
theorem dX2_whole_44 : decode cX2_whole 44 = .ok (.aload 6, 2) := dl_25 (by decide +kernel)
theorem dX2_whole_46 : decode cX2_whole 46 = .ok (.aload_n 0, 1) := dl_42 (by decide +kernel)
theorem dX2_whole_47 : decode cX2_whole 47 = .ok (.invokevirtual 42, 3) := dl_182 (by decide +kernel)
theorem wl_X2_42 : Cond.methodLink RX2 42 yX3_measure ∈ TB := tbm (tq3 (List.mem_of_getElem? (i := 215) (by decide +kernel))) (by decide +kernel)
theorem wc_X3_measure : Cond.code yX3_measure cX3_measure 8 none ∈ TB := tbm (tq3 (List.mem_of_getElem? (i := 218) (rfl))) (by decide +kernel)
theorem wi_X3_measure : Cond.instanceMethod yX3_measure ∈ TB := tbm (tq3 (List.mem_of_getElem? (i := 216) (by decide +kernel))) (by decide +kernel)
theorem ws_X3_measure : Cond.selects RX3 yX3_measure yX3_measure ∈ TB := tbm (tq3 (List.mem_of_getElem? (i := 217) (by decide +kernel))) (by decide +kernel)
theorem mi_X3_measure : MI yX3_measure cX3_measure 8 none 3 := ⟨wc_X3_measure, wn_X3, ⟨by decide +kernel, by decide +kernel, by decide +kernel⟩, wi_X3_measure, ws_X3_measure⟩
theorem dX2_whole_50 : decode cX2_whole 50 = .ok (.aload_n 0, 1) := dl_42 (by decide +kernel)
theorem dX2_whole_51 : decode cX2_whole 51 = .ok (.getfield 29, 3) := dl_180 (by decide +kernel)
theorem dX2_whole_54 : decode cX2_whole 54 = .ok (.iload 4, 2) := dl_21 (by decide +kernel)
theorem dX2_whole_56 : decode cX2_whole 56 = .ok (.aaload, 1) := dl_50 (by decide +kernel)
theorem dX2_whole_57 : decode cX2_whole 57 = .ok (.getfield 46, 3) := dl_180 (by decide +kernel)
theorem wf_X2_46 : Cond.fieldLink RX2 46 RX3 "pairs" "I" ∈ TB := tbm (tq1 (List.mem_of_getElem? (i := 191) (by decide +kernel))) (by decide +kernel)
theorem fg_X2_46 : FG RX2 46 3 1 := ⟨RX3, TX3, 6, uw_X3, wf_X2_46, rfl, by decide, rfl⟩
theorem dX2_whole_60 : decode cX2_whole 60 = .ok (.bipush 24, 2) := dl_16 (by decide +kernel)
theorem dX2_whole_62 : decode cX2_whole 62 = .ok (.if_icmp .gt 7, 3) := dl_163 (by decide +kernel)
theorem dX2_whole_69 : decode cX2_whole 69 = .ok (.iconst 0, 1) := dl_3 (by decide +kernel)
theorem dX2_whole_70 : decode cX2_whole 70 = .ok (.istore 5, 2) := dl_54 (by decide +kernel)
theorem dX2_whole_72 : decode cX2_whole 72 = .ok (.iload 5, 2) := dl_21 (by decide +kernel)
theorem dX2_whole_74 : decode cX2_whole 74 = .ok (.ifCond .eq 30, 3) := dl_153 (by decide +kernel)
theorem dX2_whole_104 : decode cX2_whole 104 = .ok (.goto (-96), 3) := dl_167 (by decide +kernel)
theorem dX2_whole_121 : decode cX2_whole 121 = .ok (.aload_n 3, 1) := dl_45 (by decide +kernel)
theorem dX2_whole_122 : decode cX2_whole 122 = .ok (.invokevirtual 61, 3) := dl_182 (by decide +kernel)
theorem dX2_whole_65 : decode cX2_whole 65 = .ok (.iconst 1, 1) := dl_4 (by decide +kernel)
theorem dX2_whole_66 : decode cX2_whole 66 = .ok (.goto 4, 3) := dl_167 (by decide +kernel)
theorem dX2_whole_77 : decode cX2_whole 77 = .ok (.aload_n 0, 1) := dl_42 (by decide +kernel)
theorem dX2_whole_78 : decode cX2_whole 78 = .ok (.getfield 29, 3) := dl_180 (by decide +kernel)
theorem dX2_whole_81 : decode cX2_whole 81 = .ok (.iload 4, 2) := dl_21 (by decide +kernel)
theorem dX2_whole_83 : decode cX2_whole 83 = .ok (.aaload, 1) := dl_50 (by decide +kernel)
theorem dX2_whole_84 : decode cX2_whole 84 = .ok (.aload_n 3, 1) := dl_45 (by decide +kernel)
theorem dX2_whole_85 : decode cX2_whole 85 = .ok (.aload 6, 2) := dl_25 (by decide +kernel)
theorem dX2_whole_87 : decode cX2_whole 87 = .ok (.invokevirtual 49, 3) := dl_182 (by decide +kernel)
theorem wl_X2_49 : Cond.methodLink RX2 49 yX3_build ∈ TB := tbm (tq4 (List.mem_of_getElem? (i := 3) (by decide +kernel))) (by decide +kernel)
theorem wc_X3_build : Cond.code yX3_build cX3_build 5 none ∈ TB := tbm (tq4 (List.mem_of_getElem? (i := 6) (rfl))) (by decide +kernel)
theorem wi_X3_build : Cond.instanceMethod yX3_build ∈ TB := tbm (tq4 (List.mem_of_getElem? (i := 4) (by decide +kernel))) (by decide +kernel)
theorem ws_X3_build : Cond.selects RX3 yX3_build yX3_build ∈ TB := tbm (tq4 (List.mem_of_getElem? (i := 5) (by decide +kernel))) (by decide +kernel)
theorem mi_X3_build : MI yX3_build cX3_build 5 none 2 := ⟨wc_X3_build, wn_X3, ⟨by decide +kernel, by decide +kernel, by decide +kernel⟩, wi_X3_build, ws_X3_build⟩
theorem dX2_whole_90 : decode cX2_whole 90 = .ok (.aload_n 0, 1) := dl_42 (by decide +kernel)
theorem dX2_whole_91 : decode cX2_whole 91 = .ok (.getfield 29, 3) := dl_180 (by decide +kernel)
theorem dX2_whole_94 : decode cX2_whole 94 = .ok (.iload 4, 2) := dl_21 (by decide +kernel)
theorem dX2_whole_96 : decode cX2_whole 96 = .ok (.aaload, 1) := dl_50 (by decide +kernel)
theorem dX2_whole_97 : decode cX2_whole 97 = .ok (.getfield 53, 3) := dl_180 (by decide +kernel)
theorem wf_X2_53 : Cond.fieldLink RX2 53 RX3 "behind" "LWhoKnows$Model;" ∈ TB := tbm (tq1 (List.mem_of_getElem? (i := 188) (by decide +kernel))) (by decide +kernel)
theorem fg_X2_53 : FG RX2 53 3 0 := ⟨RX3, TX3, 6, uw_X3, wf_X2_53, rfl, by decide, rfl⟩
theorem dX2_whole_100 : decode cX2_whole 100 = .ok (.astore_n 3, 1) := dl_78 (by decide +kernel)
theorem dX2_whole_101 : decode cX2_whole 101 = .ok (.iinc 4 1, 3) := dl_132 (by decide +kernel)
theorem dX2_whole_138 : decode cX2_whole 138 = .ok (.aload_n 0, 1) := dl_42 (by decide +kernel)
theorem dX2_whole_139 : decode cX2_whole 139 = .ok (.getfield 29, 3) := dl_180 (by decide +kernel)
theorem dX2_whole_142 : decode cX2_whole 142 = .ok (.iload 7, 2) := dl_21 (by decide +kernel)
theorem dX2_whole_144 : decode cX2_whole 144 = .ok (.aaload, 1) := dl_50 (by decide +kernel)
theorem dX2_whole_145 : decode cX2_whole 145 = .ok (.iload 6, 2) := dl_21 (by decide +kernel)
theorem dX2_whole_147 : decode cX2_whole 147 = .ok (.aload_n 0, 1) := dl_42 (by decide +kernel)
theorem dX2_whole_148 : decode cX2_whole 148 = .ok (.getfield 19, 3) := dl_180 (by decide +kernel)
theorem dX2_whole_151 : decode cX2_whole 151 = .ok (.aload_n 2, 1) := dl_44 (by decide +kernel)
theorem dX2_whole_152 : decode cX2_whole 152 = .ok (.getfield 39, 3) := dl_180 (by decide +kernel)
theorem dX2_whole_155 : decode cX2_whole 155 = .ok (.iload 7, 2) := dl_21 (by decide +kernel)
theorem dX2_whole_157 : decode cX2_whole 157 = .ok (.iaload, 1) := dl_46 (by decide +kernel)
theorem dX2_whole_158 : decode cX2_whole 158 = .ok (.aaload, 1) := dl_50 (by decide +kernel)
theorem dX2_whole_159 : decode cX2_whole 159 = .ok (.getfield 67, 3) := dl_180 (by decide +kernel)
theorem wf_X2_67 : Cond.fieldLink RX2 67 RX0 "realCase" "I" ∈ TB := tbm (tq1 (List.mem_of_getElem? (i := 154) (by decide +kernel))) (by decide +kernel)
theorem fg_X2_67 : FG RX2 67 0 1 := ⟨RX0, TX0, 6, uw_X0, wf_X2_67, rfl, by decide, rfl⟩
theorem dX2_whole_162 : decode cX2_whole 162 = .ok (.invokevirtual 70, 3) := dl_182 (by decide +kernel)
theorem wl_X2_70 : Cond.methodLink RX2 70 yX3_comingTo ∈ TB := tbm (tq4 (List.mem_of_getElem? (i := 39) (by decide +kernel))) (by decide +kernel)
theorem wc_X3_comingTo : Cond.code yX3_comingTo cX3_comingTo 5 (some .int) ∈ TB := tbm (tq4 (List.mem_of_getElem? (i := 42) (rfl))) (by decide +kernel)
theorem wi_X3_comingTo : Cond.instanceMethod yX3_comingTo ∈ TB := tbm (tq4 (List.mem_of_getElem? (i := 40) (by decide +kernel))) (by decide +kernel)
theorem ws_X3_comingTo : Cond.selects RX3 yX3_comingTo yX3_comingTo ∈ TB := tbm (tq4 (List.mem_of_getElem? (i := 41) (by decide +kernel))) (by decide +kernel)
theorem mi_X3_comingTo : MI yX3_comingTo cX3_comingTo 5 (some .int) 2 := ⟨wc_X3_comingTo, wn_X3, ⟨by decide +kernel, by decide +kernel, by decide +kernel⟩, wi_X3_comingTo, ws_X3_comingTo⟩
theorem dX2_whole_165 : decode cX2_whole 165 = .ok (.istore 6, 2) := dl_54 (by decide +kernel)
theorem dX2_whole_167 : decode cX2_whole 167 = .ok (.iinc 7 (-1), 3) := dl_132 (by decide +kernel)
theorem dX2_whole_170 : decode cX2_whole 170 = .ok (.goto (-37), 3) := dl_167 (by decide +kernel)
set_option maxRecDepth 100000 in
set_option maxHeartbeats 4000000 in
theorem j_whole (l : Launch) (E : EV) (ro : va_W) (qj : Nat) (h : Nat) (sa : Nat) (jt : Nat) (je : Nat) (ju : Nat) (ja : Nat) (ft : Nat → Int32) (fa : Nat → Option Nat) (la0 : Nat) (la1 : Nat) (la0m : Nat) (la0p : Int32) (la0w : Int32) (la0c : Nat) (la0f : Nat) (la0q : Nat) (la0fc : Nat → Int32) (la0ff : Nat → Int32) (la0fq : Nat → Int32) (la0n : Nat) (la0r : Nat) (la0x : Nat) (la0y : Nat) (la0gx : Nat → Int32) (la0gy : Nat → Int32) (la1m : Nat) (la1p : Int32) (la1w : Int32) (la1c : Nat) (la1f : Nat) (la1q : Nat) (la1fc : Nat → Int32) (la1ff : Nat → Int32) (la1fq : Nat → Int32) (la1n : Nat) (la1r : Nat) (la1x : Nat) (la1y : Nat) (la1gx : Nat → Int32) (la1gy : Nat → Int32) (n : Nat) (r : Nat) (a : Nat) (b : Nat) (f : Nat → Int32) (gg : Nat → Int32) (vc : Nat → Nat) (vr : Nat → Nat) (vi : Nat → Nat → Option SVal) (vs : Nat → Nat → Int32) (vn : Nat → Nat → Int32) (vp : Nat → Nat → Int32) (SS : SVal) (k_fa_0 : fa 0 = some la0) (k_fa_1 : fa 1 = some la1) (hn : n ≤ 24) (hr : r < n ∨ r = 0) (hla0n : la0n ≤ 24) (hla0r : la0r < la0n ∨ la0r = 0) (hla1n : la1n ≤ 24) (hla1r : la1r < la1n ∨ la1r = 0) (hEV : EVA E ro je vc vr vi vs vn vp) (hsa : SYv E ro sa SS) (hwfm : WFm (am n r f gg)) : CT l yX2_whole (Cond.code yX2_whole cX2_whole 8 (some .int) :: TB) ({ frames := 4, cells := 0, slots := 0, locals := 108 }) E ro [.ref qj, .ref h, .ref sa] [(qj, .inr (2, [.ref jt, .ref je, .ref ju, .ref ja])), (ju, .inl (E.2.1 1, 32, .inl ft)), (ja, .inl (E.2.1 5, 2, .inr (.inr (.inr (.inr fa))))), (la0, .inr (3, [.ref la0m, .int la0p, .int la0w, .ref la0c, .ref la0f, .ref la0q])), (la0c, .inl (E.2.1 1, 24, .inl la0fc)), (la0f, .inl (E.2.1 1, 24, .inl la0ff)), (la0q, .inl (E.2.1 1, 4, .inl la0fq)), (la0m, .inr (4, [.int (nI la0n), .int (nI la0r), .ref la0x, .ref la0y])), (la0x, .inl (E.2.1 1, 24, .inl la0gx)), (la0y, .inl (E.2.1 1, 96, .inl la0gy)), (la1, .inr (3, [.ref la1m, .int la1p, .int la1w, .ref la1c, .ref la1f, .ref la1q])), (la1c, .inl (E.2.1 1, 24, .inl la1fc)), (la1f, .inl (E.2.1 1, 24, .inl la1ff)), (la1q, .inl (E.2.1 1, 4, .inl la1fq)), (la1m, .inr (4, [.int (nI la1n), .int (nI la1r), .ref la1x, .ref la1y])), (la1x, .inl (E.2.1 1, 24, .inl la1gx)), (la1y, .inl (E.2.1 1, 96, .inl la1gy)), (h, .inr (4, [.int (nI n), .int (nI r), .ref a, .ref b])), (a, .inl (E.2.1 1, 24, .inl f)), (b, .inl (E.2.1 1, 96, .inl gg))] (Qi E (fun (rz : Int32) uz => (∃ (ft2 : Nat → Int32) (la0zp : Int32) (la0zw : Int32) (la0zn : Nat) (la0zr : Nat) (la0zfc : Nat → Int32) (la0zff : Nat → Int32) (la0zfq : Nat → Int32) (la0zgx : Nat → Int32) (la0zgy : Nat → Int32) (la1zp : Int32) (la1zw : Int32) (la1zn : Nat) (la1zr : Nat) (la1zfc : Nat → Int32) (la1zff : Nat → Int32) (la1zfq : Nat → Int32) (la1zgx : Nat → Int32) (la1zgy : Nat → Int32), uz = [(qj, .inr (2, [.ref jt, .ref je, .ref ju, .ref ja])), (ju, .inl (E.2.1 1, 32, .inl ft2)), (ja, .inl (E.2.1 5, 2, .inr (.inr (.inr (.inr fa))))), (la0, .inr (3, [.ref la0m, .int la0zp, .int la0zw, .ref la0c, .ref la0f, .ref la0q])), (la0c, .inl (E.2.1 1, 24, .inl la0zfc)), (la0f, .inl (E.2.1 1, 24, .inl la0zff)), (la0q, .inl (E.2.1 1, 4, .inl la0zfq)), (la0m, .inr (4, [.int (nI la0zn), .int (nI la0zr), .ref la0x, .ref la0y])), (la0x, .inl (E.2.1 1, 24, .inl la0zgx)), (la0y, .inl (E.2.1 1, 96, .inl la0zgy)), (la1, .inr (3, [.ref la1m, .int la1zp, .int la1zw, .ref la1c, .ref la1f, .ref la1q])), (la1c, .inl (E.2.1 1, 24, .inl la1zfc)), (la1f, .inl (E.2.1 1, 24, .inl la1zff)), (la1q, .inl (E.2.1 1, 4, .inl la1zfq)), (la1m, .inr (4, [.int (nI la1zn), .int (nI la1zr), .ref la1x, .ref la1y])), (la1x, .inl (E.2.1 1, 24, .inl la1zgx)), (la1y, .inl (E.2.1 1, 96, .inl la1zgy)), (h, .inr (4, [.int (nI n), .int (nI r), .ref a, .ref b])), (a, .inl (E.2.1 1, 24, .inl f)), (b, .inl (E.2.1 1, 96, .inl gg))] ∧ (la0zn ≤ 24) ∧ (la0zr < la0zn ∨ la0zr = 0) ∧ (la1zn ≤ 24) ∧ (la1zr < la1zn ∨ la1zr = 0) ∧ (BS rz (vWho (am n r f gg) (ev6 vc vr vi vs vn vp) SS))))) 0 0 := by
  refine ct_of rfl rfl ?_
  intro X C hT hin hro
  show WW X 8 E 0 [(0, .ref qj), (1, .ref h), (2, .ref sa)] [] [(qj, .inr (2, [.ref jt, .ref je, .ref ju, .ref ja])), (ju, .inl (E.2.1 1, 32, .inl ft)), (ja, .inl (E.2.1 5, 2, .inr (.inr (.inr (.inr fa))))), (la0, .inr (3, [.ref la0m, .int la0p, .int la0w, .ref la0c, .ref la0f, .ref la0q])), (la0c, .inl (E.2.1 1, 24, .inl la0fc)), (la0f, .inl (E.2.1 1, 24, .inl la0ff)), (la0q, .inl (E.2.1 1, 4, .inl la0fq)), (la0m, .inr (4, [.int (nI la0n), .int (nI la0r), .ref la0x, .ref la0y])), (la0x, .inl (E.2.1 1, 24, .inl la0gx)), (la0y, .inl (E.2.1 1, 96, .inl la0gy)), (la1, .inr (3, [.ref la1m, .int la1p, .int la1w, .ref la1c, .ref la1f, .ref la1q])), (la1c, .inl (E.2.1 1, 24, .inl la1fc)), (la1f, .inl (E.2.1 1, 24, .inl la1ff)), (la1q, .inl (E.2.1 1, 4, .inl la1fq)), (la1m, .inr (4, [.int (nI la1n), .int (nI la1r), .ref la1x, .ref la1y])), (la1x, .inl (E.2.1 1, 24, .inl la1gx)), (la1y, .inl (E.2.1 1, 96, .inl la1gy)), (h, .inr (4, [.int (nI n), .int (nI r), .ref a, .ref b])), (a, .inl (E.2.1 1, 24, .inl f)), (b, .inl (E.2.1 1, 96, .inl gg))] 0 0
  obtain ⟨jei_, fe_, hje_, hall_⟩ := id hEV
  obtain ⟨nn, so, sr, sf, tk, dp, nm, na⟩ := SS
  obtain ⟨i0, i1, i2, i3, sx, sy, sz, h0, h1, h2, h3, hwf, hna, haf⟩ := id hsa
  have h0 : ro[i0]? = some (sa, .inr (8, [.ref sx, .ref sy, .int (nI tk), .int (nI na), .ref sz, .int dp, .int nm])) := h0
  have h1 : ro[i1]? = some (sx, .inl (E.2.1 1, nn, .inl so)) := h1
  have h2 : ro[i2]? = some (sy, .inl (E.2.1 1, nn, .inl sr)) := h2
  have h3 : ro[i3]? = some (sz, .inl (E.2.1 1, 2, .inl sf)) := h3
  have hwf : WFs nn so := hwf
  have hna : na ≤ 2 := hna
  have haf : ∀ k, k < na → ∃ j : Nat, j < 4 ∧ sf k = nI j := haf
  have hwn : 1 ≤ nn ∧ nn ≤ 32 := ⟨hwf.1, hwf.2.1⟩
  refine ww_aload_n C dX2_whole_0 1 rfl rfl ?_
  refine ww_astore_n (lv' := [(3, .ref h), (0, .ref qj), (1, .ref h), (2, .ref sa)]) C dX2_whole_1 rfl rfl rfl ?_
  refine ww_iconst (v := 0) C dX2_whole_2 rfl ?_
  refine ww_istore (lv' := [(4, .int 0), (3, .ref h), (0, .ref qj), (1, .ref h), (2, .ref sa)]) C dX2_whole_3 rfl rfl ?_
  refine ww_iconst (v := 1) C dX2_whole_5 rfl ?_
  refine ww_istore (lv' := [(5, .int 1), (4, .int 0), (3, .ref h), (0, .ref qj), (1, .ref h), (2, .ref sa)]) C dX2_whole_6 rfl rfl ?_
  refine ww_iload C dX2_whole_8 1 rfl ?_
  refine ww_aload_n C dX2_whole_10 5 rfl rfl ?_
  refine ww_getR C hro fg_X2_35 i0 h0 rfl dX2_whole_11 ?_
  refine ww_icmp_ge (tgt := 107) C dX2_whole_14 (by decide) (fun c_1 => ?_) (fun c_1 => ?_)
  · have zc_1 : 0 ≥ ((na : Nat) : Int) := i_le (nI_toInt (n := na) (by omega)) rfl c_1
    refine ww_iload C dX2_whole_107 0 rfl ?_
    refine ww_if_eq_f (tgt := 121) C dX2_whole_109 (by decide) (by decide) ?_
    refine ww_aload_n C dX2_whole_112 3 rfl rfl ?_
    refine ww_aload_n C dX2_whole_113 2 rfl rfl ?_
    refine ww_aload_n C dX2_whole_114 5 rfl rfl ?_
    refine ww_ci (wr := [(ja, .inl (E.2.1 5, 2, .inr (.inr (.inr (.inr fa))))), (la0, .inr (3, [.ref la0m, .int la0p, .int la0w, .ref la0c, .ref la0f, .ref la0q])), (la0c, .inl (E.2.1 1, 24, .inl la0fc)), (la0f, .inl (E.2.1 1, 24, .inl la0ff)), (la0q, .inl (E.2.1 1, 4, .inl la0fq)), (la0m, .inr (4, [.int (nI la0n), .int (nI la0r), .ref la0x, .ref la0y])), (la0x, .inl (E.2.1 1, 24, .inl la0gx)), (la0y, .inl (E.2.1 1, 96, .inl la0gy)), (la1, .inr (3, [.ref la1m, .int la1p, .int la1w, .ref la1c, .ref la1f, .ref la1q])), (la1c, .inl (E.2.1 1, 24, .inl la1fc)), (la1f, .inl (E.2.1 1, 24, .inl la1ff)), (la1q, .inl (E.2.1 1, 4, .inl la1fq)), (la1m, .inr (4, [.int (nI la1n), .int (nI la1r), .ref la1x, .ref la1y])), (la1x, .inl (E.2.1 1, 24, .inl la1gx)), (la1y, .inl (E.2.1 1, 96, .inl la1gy))]) (k' := 0) (n' := 0) C (run_V (As := [.ref h, .ref sa]) (rest := []) C (j_plain X.2.1 E ro qj h sa jt je ju ja ft n r a b f gg (nn, so, sr, sf, tk, dp, nm, na) (by omega) (by omega) hsa hwfm) mi_X2_plain wl_X2_57 rfl 0 2 rfl rfl rfl rfl rfl dX2_whole_115) (roK hro) [0, 1, 17, 18, 19] [2, 3, 4, 5, 6, 7, 8, 9, 10, 11, 12, 13, 14, 15, 16] rfl (gqk (by eq_refl)) (plk (by decide +kernel)) rfl (fun r_2 uz hw => ?_)
    refine ex1 hw ?_
    clear hw
    intro ft2_3 hw
    refine an1 hw ?_
    clear hw
    intro he_5 hw
    have h_4 := hw
    clear hw
    subst he_5
    refine ww_eq (ws' := [(ja, .inl (E.2.1 5, 2, .inr (.inr (.inr (.inr fa))))), (la0, .inr (3, [.ref la0m, .int la0p, .int la0w, .ref la0c, .ref la0f, .ref la0q])), (la0c, .inl (E.2.1 1, 24, .inl la0fc)), (la0f, .inl (E.2.1 1, 24, .inl la0ff)), (la0q, .inl (E.2.1 1, 4, .inl la0fq)), (la0m, .inr (4, [.int (nI la0n), .int (nI la0r), .ref la0x, .ref la0y])), (la0x, .inl (E.2.1 1, 24, .inl la0gx)), (la0y, .inl (E.2.1 1, 96, .inl la0gy)), (la1, .inr (3, [.ref la1m, .int la1p, .int la1w, .ref la1c, .ref la1f, .ref la1q])), (la1c, .inl (E.2.1 1, 24, .inl la1fc)), (la1f, .inl (E.2.1 1, 24, .inl la1ff)), (la1q, .inl (E.2.1 1, 4, .inl la1fq)), (la1m, .inr (4, [.int (nI la1n), .int (nI la1r), .ref la1x, .ref la1y])), (la1x, .inl (E.2.1 1, 24, .inl la1gx)), (la1y, .inl (E.2.1 1, 96, .inl la1gy)), (qj, .inr (2, [.ref jt, .ref je, .ref ju, .ref ja])), (ju, .inl (E.2.1 1, 32, .inl ft2_3)), (h, .inr (4, [.int (nI n), .int (nI r), .ref a, .ref b])), (a, .inl (E.2.1 1, 24, .inl f)), (b, .inl (E.2.1 1, 96, .inl gg))]) ?_ rfl rfl rfl
    refine ww_goto (tgt := 125) C dX2_whole_118 (by decide) ?_
    refine ww_istore (lv' := [(6, .int r_2), (5, .int 1), (4, .int 0), (3, .ref h), (0, .ref qj), (1, .ref h), (2, .ref sa)]) C dX2_whole_125 rfl rfl ?_
    refine ww_iload C dX2_whole_127 2 rfl ?_
    refine ww_iconst (v := 1) C dX2_whole_129 rfl ?_
    refine ww_isub (v := (-1)) C dX2_whole_130 (by decide) ?_
    refine ww_istore (lv' := [(7, .int (-1)), (6, .int r_2), (5, .int 1), (4, .int 0), (3, .ref h), (0, .ref qj), (1, .ref h), (2, .ref sa)]) C dX2_whole_131 rfl rfl ?_
    refine ww_iload C dX2_whole_133 0 rfl ?_
    refine ww_if_lt_t (tgt := 173) C dX2_whole_135 (by decide) (by decide) ?_
    refine ww_iload C dX2_whole_173 1 rfl ?_
    exact ww_iret (u := [(qj, .inr (2, [.ref jt, .ref je, .ref ju, .ref ja])), (ju, .inl (E.2.1 1, 32, .inl ft2_3)), (ja, .inl (E.2.1 5, 2, .inr (.inr (.inr (.inr fa))))), (la0, .inr (3, [.ref la0m, .int la0p, .int la0w, .ref la0c, .ref la0f, .ref la0q])), (la0c, .inl (E.2.1 1, 24, .inl la0fc)), (la0f, .inl (E.2.1 1, 24, .inl la0ff)), (la0q, .inl (E.2.1 1, 4, .inl la0fq)), (la0m, .inr (4, [.int (nI la0n), .int (nI la0r), .ref la0x, .ref la0y])), (la0x, .inl (E.2.1 1, 24, .inl la0gx)), (la0y, .inl (E.2.1 1, 96, .inl la0gy)), (la1, .inr (3, [.ref la1m, .int la1p, .int la1w, .ref la1c, .ref la1f, .ref la1q])), (la1c, .inl (E.2.1 1, 24, .inl la1fc)), (la1f, .inl (E.2.1 1, 24, .inl la1ff)), (la1q, .inl (E.2.1 1, 4, .inl la1fq)), (la1m, .inr (4, [.int (nI la1n), .int (nI la1r), .ref la1x, .ref la1y])), (la1x, .inl (E.2.1 1, 24, .inl la1gx)), (la1y, .inl (E.2.1 1, 96, .inl la1gy)), (h, .inr (4, [.int (nI n), .int (nI r), .ref a, .ref b])), (a, .inl (E.2.1 1, 24, .inl f)), (b, .inl (E.2.1 1, 96, .inl gg))]) C hT [15, 16, 0, 1, 2, 3, 4, 5, 6, 7, 8, 9, 10, 11, 12, 13, 14, 17, 18, 19] (gqk (by eq_refl)) (ndk (by decide +kernel)) rfl rfl dX2_whole_175 (⟨ft2_3, la0p, la0w, la0n, la0r, la0fc, la0ff, la0fq, la0gx, la0gy, la1p, la1w, la1n, la1r, la1fc, la1ff, la1fq, la1gx, la1gy, rfl, (by first | assumption | omega | decide), (by first | assumption | omega | decide), (by first | assumption | omega | decide), (by first | assumption | omega | decide), (w_0 (S := (nn, so, sr, sf, tk, dp, nm, na)) (ev := (ev6 vc vr vi vs vn vp)) (show na = 0 by omega) h_4)⟩)
  · have zc_1 : 0 < ((na : Nat) : Int) := i_nle (nI_toInt (n := na) (by omega)) rfl c_1
    refine ww_iload C dX2_whole_17 0 rfl ?_
    refine ww_if_eq_f (tgt := 107) C dX2_whole_19 (by decide) (by decide) ?_
    refine ww_aload_n C dX2_whole_22 3 rfl rfl ?_
    refine ww_get C fg_X2_19 0 rfl rfl dX2_whole_23 ?_
    refine ww_aload_n C dX2_whole_26 5 rfl rfl ?_
    refine ww_getR C hro fg_X2_39 i0 h0 rfl dX2_whole_27 ?_
    refine ww_iload C dX2_whole_30 1 rfl ?_
    obtain ⟨j_7, hj_7, ej_7⟩ := haf 0 (by omega)
    refine ww_ialdR (v := (nI j_7)) C hro i3 h3 (vin rfl) ej_7 dX2_whole_32 ?_
    obtain ⟨e_8, he_9, hev_10⟩ := hall_ j_7 (by omega)
    refine ww_aldR (v := (some e_8)) (t0 := 4) C hro jei_ hje_ rfl (vp_in_nI (by omega) (by omega)) (ldn (by omega) he_9) dX2_whole_33 ?_
    obtain ⟨i0y_11, i1y_11, i2y_11, i3y_11, i4y_11, cay_11, cby_11, ccy_11, cdy_11, fiy_11, g0y_11, g1y_11, g2y_11, g3y_11, g4y_11, hcsy_11, hrcy_11, hfiy_11⟩ := id hev_10
    refine ww_eq (st' := [.ref e_8]) ?_ rfl rfl rfl
    refine ww_astore (lv' := [(6, .ref e_8), (5, .int 1), (4, .int 0), (3, .ref h), (0, .ref qj), (1, .ref h), (2, .ref sa)]) C dX2_whole_34 rfl rfl ?_
    refine ww_aload_n C dX2_whole_36 4 rfl rfl ?_
    refine ww_get C fg_X2_29 0 rfl rfl dX2_whole_37 ?_
    refine ww_iload C dX2_whole_40 2 rfl ?_
    refine ww_ald (v := (some la0)) (t0 := 5) C 2 rfl rfl (vin rfl) k_fa_0 dX2_whole_42 ?_
    refine ww_eq (st' := [.ref la0]) ?_ rfl rfl rfl
    refine ww_aload_n C dX2_whole_43 3 rfl rfl ?_
    refine ww_aload C dX2_whole_44 0 rfl ?_
    refine ww_aload_n C dX2_whole_46 4 rfl rfl ?_
    refine ww_cv (wr := [(ja, .inl (E.2.1 5, 2, .inr (.inr (.inr (.inr fa))))), (la0q, .inl (E.2.1 1, 4, .inl la0fq)), (la0m, .inr (4, [.int (nI la0n), .int (nI la0r), .ref la0x, .ref la0y])), (la0x, .inl (E.2.1 1, 24, .inl la0gx)), (la0y, .inl (E.2.1 1, 96, .inl la0gy)), (la1, .inr (3, [.ref la1m, .int la1p, .int la1w, .ref la1c, .ref la1f, .ref la1q])), (la1c, .inl (E.2.1 1, 24, .inl la1fc)), (la1f, .inl (E.2.1 1, 24, .inl la1ff)), (la1q, .inl (E.2.1 1, 4, .inl la1fq)), (la1m, .inr (4, [.int (nI la1n), .int (nI la1r), .ref la1x, .ref la1y])), (la1x, .inl (E.2.1 1, 24, .inl la1gx)), (la1y, .inl (E.2.1 1, 96, .inl la1gy))]) (k' := 0) (n' := 0) C (run_V (As := [.ref h, .ref e_8, .ref qj]) (rest := []) C (l_measure X.2.1 E ro la0 h e_8 qj la0m la0p la0w la0c la0f la0q la0fc la0ff n r a b f gg jt je ju ja ft (vc j_7) (vr j_7) (vi j_7) (vs j_7) (vn j_7) (vp j_7) (by omega) (by omega) hev_10 hwfm) mi_X3_measure wl_X2_42 rfl 0 3 rfl rfl rfl rfl rfl dX2_whole_47) (roK hro) [3, 4, 5, 17, 18, 19, 0, 1] [2, 6, 7, 8, 9, 10, 11, 12, 13, 14, 15, 16] (gqk (by eq_refl)) (gqk (by eq_refl)) (plk (by decide +kernel)) rfl (fun uz hw => ?_)
    refine ex4 hw ?_
    clear hw
    intro Pp_13 cf2_14 ff2_15 ft2_16 hw
    refine an5 hw ?_
    clear hw
    intro he_22 h_17 h_18 h_19 h_20 hw
    have h_21 := hw
    clear hw
    subst he_22
    refine ww_eq (ws' := [(ja, .inl (E.2.1 5, 2, .inr (.inr (.inr (.inr fa))))), (la0q, .inl (E.2.1 1, 4, .inl la0fq)), (la0m, .inr (4, [.int (nI la0n), .int (nI la0r), .ref la0x, .ref la0y])), (la0x, .inl (E.2.1 1, 24, .inl la0gx)), (la0y, .inl (E.2.1 1, 96, .inl la0gy)), (la1, .inr (3, [.ref la1m, .int la1p, .int la1w, .ref la1c, .ref la1f, .ref la1q])), (la1c, .inl (E.2.1 1, 24, .inl la1fc)), (la1f, .inl (E.2.1 1, 24, .inl la1ff)), (la1q, .inl (E.2.1 1, 4, .inl la1fq)), (la1m, .inr (4, [.int (nI la1n), .int (nI la1r), .ref la1x, .ref la1y])), (la1x, .inl (E.2.1 1, 24, .inl la1gx)), (la1y, .inl (E.2.1 1, 96, .inl la1gy)), (la0, .inr (3, [.ref la0m, .int (nI Pp_13), .int (nI n), .ref la0c, .ref la0f, .ref la0q])), (la0c, .inl (E.2.1 1, 24, .inl cf2_14)), (la0f, .inl (E.2.1 1, 24, .inl ff2_15)), (h, .inr (4, [.int (nI n), .int (nI r), .ref a, .ref b])), (a, .inl (E.2.1 1, 24, .inl f)), (b, .inl (E.2.1 1, 96, .inl gg)), (qj, .inr (2, [.ref jt, .ref je, .ref ju, .ref ja])), (ju, .inl (E.2.1 1, 32, .inl ft2_16))]) ?_ rfl rfl rfl
    refine ww_aload_n C dX2_whole_50 4 rfl rfl ?_
    refine ww_get C fg_X2_29 18 rfl rfl dX2_whole_51 ?_
    refine ww_iload C dX2_whole_54 2 rfl ?_
    refine ww_ald (v := (some la0)) (t0 := 5) C 0 rfl rfl (vin rfl) k_fa_0 dX2_whole_56 ?_
    refine ww_eq (st' := [.ref la0]) ?_ rfl rfl rfl
    refine ww_get C fg_X2_46 12 rfl rfl dX2_whole_57 ?_
    refine ww_bipush (v := 24) C dX2_whole_60 rfl ?_
    refine ww_icmp_gt (tgt := 69) C dX2_whole_62 (by decide) (fun c_23 => ?_) (fun c_23 => ?_)
    · have zc_23 : ((Pp_13 : Nat) : Int) > 24 := i_lt rfl (nI_toInt (n := Pp_13) (by omega)) c_23
      refine ww_iconst (v := 0) C dX2_whole_69 rfl ?_
      refine ww_istore (lv' := [(5, .int 0), (6, .ref e_8), (4, .int 0), (3, .ref h), (0, .ref qj), (1, .ref h), (2, .ref sa)]) C dX2_whole_70 rfl rfl ?_
      refine ww_iload C dX2_whole_72 0 rfl ?_
      refine ww_if_eq_t (tgt := 104) C dX2_whole_74 (by decide) (rfl) ?_
      refine ww_goto (tgt := 8) C dX2_whole_104 (by decide) ?_
      refine ww_iload C dX2_whole_8 2 rfl ?_
      refine ww_aload_n C dX2_whole_10 6 rfl rfl ?_
      refine ww_getR C hro fg_X2_35 i0 h0 rfl dX2_whole_11 ?_
      refine ww_icmp_ge (tgt := 107) C dX2_whole_14 (by decide) (fun c_24 => ?_) (fun c_24 => ?_)
      · have zc_24 : 0 ≥ ((na : Nat) : Int) := i_le (nI_toInt (n := na) (by omega)) rfl c_24
        omega
      · have zc_24 : 0 < ((na : Nat) : Int) := i_nle (nI_toInt (n := na) (by omega)) rfl c_24
        refine ww_iload C dX2_whole_17 0 rfl ?_
        refine ww_if_eq_t (tgt := 107) C dX2_whole_19 (by decide) (rfl) ?_
        refine ww_iload C dX2_whole_107 0 rfl ?_
        refine ww_if_eq_t (tgt := 121) C dX2_whole_109 (by decide) (rfl) ?_
        refine ww_aload_n C dX2_whole_121 3 rfl rfl ?_
        refine ww_ci (wr := [(ja, .inl (E.2.1 5, 2, .inr (.inr (.inr (.inr fa))))), (la0q, .inl (E.2.1 1, 4, .inl la0fq)), (la0m, .inr (4, [.int (nI la0n), .int (nI la0r), .ref la0x, .ref la0y])), (la0x, .inl (E.2.1 1, 24, .inl la0gx)), (la0y, .inl (E.2.1 1, 96, .inl la0gy)), (la1, .inr (3, [.ref la1m, .int la1p, .int la1w, .ref la1c, .ref la1f, .ref la1q])), (la1c, .inl (E.2.1 1, 24, .inl la1fc)), (la1f, .inl (E.2.1 1, 24, .inl la1ff)), (la1q, .inl (E.2.1 1, 4, .inl la1fq)), (la1m, .inr (4, [.int (nI la1n), .int (nI la1r), .ref la1x, .ref la1y])), (la1x, .inl (E.2.1 1, 24, .inl la1gx)), (la1y, .inl (E.2.1 1, 96, .inl la1gy)), (la0, .inr (3, [.ref la0m, .int (nI Pp_13), .int (nI n), .ref la0c, .ref la0f, .ref la0q])), (la0c, .inl (E.2.1 1, 24, .inl cf2_14)), (la0f, .inl (E.2.1 1, 24, .inl ff2_15)), (a, .inl (E.2.1 1, 24, .inl f)), (b, .inl (E.2.1 1, 96, .inl gg)), (qj, .inr (2, [.ref jt, .ref je, .ref ju, .ref ja])), (ju, .inl (E.2.1 1, 32, .inl ft2_16))]) (k' := 0) (n' := 0) C (run_V (As := []) (rest := []) C (m_all X.2.1 E ro h n r a b (by omega)) mi_X4_all wl_X2_61 rfl 0 4 rfl rfl rfl rfl rfl dX2_whole_122) (roK hro) [15] [0, 1, 2, 3, 4, 5, 6, 7, 8, 9, 10, 11, 12, 13, 14, 16, 17, 18, 19] rfl (gqk (by eq_refl)) (plk (by decide +kernel)) rfl (fun r_25 uz hw => ?_)
        refine an1 hw ?_
        clear hw
        intro he_27 hw
        have h_26 := hw
        clear hw
        subst he_27
        refine ww_eq (ws' := [(ja, .inl (E.2.1 5, 2, .inr (.inr (.inr (.inr fa))))), (la0q, .inl (E.2.1 1, 4, .inl la0fq)), (la0m, .inr (4, [.int (nI la0n), .int (nI la0r), .ref la0x, .ref la0y])), (la0x, .inl (E.2.1 1, 24, .inl la0gx)), (la0y, .inl (E.2.1 1, 96, .inl la0gy)), (la1, .inr (3, [.ref la1m, .int la1p, .int la1w, .ref la1c, .ref la1f, .ref la1q])), (la1c, .inl (E.2.1 1, 24, .inl la1fc)), (la1f, .inl (E.2.1 1, 24, .inl la1ff)), (la1q, .inl (E.2.1 1, 4, .inl la1fq)), (la1m, .inr (4, [.int (nI la1n), .int (nI la1r), .ref la1x, .ref la1y])), (la1x, .inl (E.2.1 1, 24, .inl la1gx)), (la1y, .inl (E.2.1 1, 96, .inl la1gy)), (la0, .inr (3, [.ref la0m, .int (nI Pp_13), .int (nI n), .ref la0c, .ref la0f, .ref la0q])), (la0c, .inl (E.2.1 1, 24, .inl cf2_14)), (la0f, .inl (E.2.1 1, 24, .inl ff2_15)), (a, .inl (E.2.1 1, 24, .inl f)), (b, .inl (E.2.1 1, 96, .inl gg)), (qj, .inr (2, [.ref jt, .ref je, .ref ju, .ref ja])), (ju, .inl (E.2.1 1, 32, .inl ft2_16)), (h, .inr (4, [.int (nI n), .int (nI r), .ref a, .ref b]))]) ?_ rfl rfl rfl
        refine ww_istore (lv' := [(6, .int r_25), (5, .int 0), (4, .int 0), (3, .ref h), (0, .ref qj), (1, .ref h), (2, .ref sa)]) C dX2_whole_125 rfl rfl ?_
        refine ww_iload C dX2_whole_127 2 rfl ?_
        refine ww_iconst (v := 1) C dX2_whole_129 rfl ?_
        refine ww_isub (v := (-1)) C dX2_whole_130 (by decide) ?_
        refine ww_istore (lv' := [(7, .int (-1)), (6, .int r_25), (5, .int 0), (4, .int 0), (3, .ref h), (0, .ref qj), (1, .ref h), (2, .ref sa)]) C dX2_whole_131 rfl rfl ?_
        refine ww_iload C dX2_whole_133 0 rfl ?_
        refine ww_if_lt_t (tgt := 173) C dX2_whole_135 (by decide) (by decide) ?_
        refine ww_iload C dX2_whole_173 1 rfl ?_
        exact ww_iret (u := [(qj, .inr (2, [.ref jt, .ref je, .ref ju, .ref ja])), (ju, .inl (E.2.1 1, 32, .inl ft2_16)), (ja, .inl (E.2.1 5, 2, .inr (.inr (.inr (.inr fa))))), (la0, .inr (3, [.ref la0m, .int (nI Pp_13), .int (nI n), .ref la0c, .ref la0f, .ref la0q])), (la0c, .inl (E.2.1 1, 24, .inl cf2_14)), (la0f, .inl (E.2.1 1, 24, .inl ff2_15)), (la0q, .inl (E.2.1 1, 4, .inl la0fq)), (la0m, .inr (4, [.int (nI la0n), .int (nI la0r), .ref la0x, .ref la0y])), (la0x, .inl (E.2.1 1, 24, .inl la0gx)), (la0y, .inl (E.2.1 1, 96, .inl la0gy)), (la1, .inr (3, [.ref la1m, .int la1p, .int la1w, .ref la1c, .ref la1f, .ref la1q])), (la1c, .inl (E.2.1 1, 24, .inl la1fc)), (la1f, .inl (E.2.1 1, 24, .inl la1ff)), (la1q, .inl (E.2.1 1, 4, .inl la1fq)), (la1m, .inr (4, [.int (nI la1n), .int (nI la1r), .ref la1x, .ref la1y])), (la1x, .inl (E.2.1 1, 24, .inl la1gx)), (la1y, .inl (E.2.1 1, 96, .inl la1gy)), (h, .inr (4, [.int (nI n), .int (nI r), .ref a, .ref b])), (a, .inl (E.2.1 1, 24, .inl f)), (b, .inl (E.2.1 1, 96, .inl gg))]) C hT [17, 18, 0, 12, 13, 14, 1, 2, 3, 4, 5, 6, 7, 8, 9, 10, 11, 19, 15, 16] (gqk (by eq_refl)) (ndk (by decide +kernel)) rfl rfl dX2_whole_175 (⟨ft2_16, (nI Pp_13), (nI n), la0n, la0r, cf2_14, ff2_15, la0fq, la0gx, la0gy, la1p, la1w, la1n, la1r, la1fc, la1ff, la1fq, la1gx, la1gy, rfl, (by first | assumption | omega | decide), (by first | assumption | omega | decide), (by first | assumption | omega | decide), (by first | assumption | omega | decide), (w_n (S := (nn, so, sr, sf, tk, dp, nm, na)) (ev := (ev6 vc vr vi vs vn vp)) (show na ≠ 0 by omega) (cN_of ej_7 (by omega)) (show ¬ lyC (am n r f gg) ((ev6 vc vr vi vs vn vp) j_7) ≤ 24 from (show Pp_13 = lyC (am n r f gg) ((ev6 vc vr vi vs vn vp) j_7) from h_21) ▸ (show ¬ Pp_13 ≤ 24 by omega)) (show BS _ (vAll (am n r f gg)) from h_26))⟩)
    · have zc_23 : ((Pp_13 : Nat) : Int) ≤ 24 := i_nlt rfl (nI_toInt (n := Pp_13) (by omega)) c_23
      refine ww_iconst (v := 1) C dX2_whole_65 rfl ?_
      refine ww_goto (tgt := 70) C dX2_whole_66 (by decide) ?_
      refine ww_istore (lv' := [(5, .int 1), (6, .ref e_8), (4, .int 0), (3, .ref h), (0, .ref qj), (1, .ref h), (2, .ref sa)]) C dX2_whole_70 rfl rfl ?_
      refine ww_iload C dX2_whole_72 0 rfl ?_
      refine ww_if_eq_f (tgt := 104) C dX2_whole_74 (by decide) (by decide) ?_
      refine ww_aload_n C dX2_whole_77 4 rfl rfl ?_
      refine ww_get C fg_X2_29 18 rfl rfl dX2_whole_78 ?_
      refine ww_iload C dX2_whole_81 2 rfl ?_
      refine ww_ald (v := (some la0)) (t0 := 5) C 0 rfl rfl (vin rfl) k_fa_0 dX2_whole_83 ?_
      refine ww_eq (st' := [.ref la0]) ?_ rfl rfl rfl
      refine ww_aload_n C dX2_whole_84 3 rfl rfl ?_
      refine ww_aload C dX2_whole_85 1 rfl ?_
      refine ww_cv (wr := [(ja, .inl (E.2.1 5, 2, .inr (.inr (.inr (.inr fa))))), (la1, .inr (3, [.ref la1m, .int la1p, .int la1w, .ref la1c, .ref la1f, .ref la1q])), (la1c, .inl (E.2.1 1, 24, .inl la1fc)), (la1f, .inl (E.2.1 1, 24, .inl la1ff)), (la1q, .inl (E.2.1 1, 4, .inl la1fq)), (la1m, .inr (4, [.int (nI la1n), .int (nI la1r), .ref la1x, .ref la1y])), (la1x, .inl (E.2.1 1, 24, .inl la1gx)), (la1y, .inl (E.2.1 1, 96, .inl la1gy)), (qj, .inr (2, [.ref jt, .ref je, .ref ju, .ref ja])), (ju, .inl (E.2.1 1, 32, .inl ft2_16))]) (k' := 0) (n' := 0) C (run_V (As := [.ref h, .ref e_8]) (rest := []) C (l_build X.2.1 E ro la0 h e_8 la0m Pp_13 n la0c la0f la0q cf2_14 ff2_15 la0fq la0n la0r la0x la0y la0gx la0gy r a b f gg (vc j_7) (vr j_7) (vi j_7) (vs j_7) (vn j_7) (vp j_7) (by omega) (by omega) hev_10 h_17 (by omega) h_19 h_20) mi_X3_build wl_X2_49 rfl 0 3 rfl rfl rfl rfl rfl dX2_whole_87) (roK hro) [12, 13, 14, 1, 2, 3, 4, 15, 16, 17] [0, 5, 6, 7, 8, 9, 10, 11, 18, 19] (gqk (by eq_refl)) (gqk (by eq_refl)) (plk (by decide +kernel)) rfl (fun uz hw => ?_)
      refine ex5 hw ?_
      clear hw
      intro bn2_29 br2_30 fq2_31 bf2_32 bg2_33 hw
      refine an4 hw ?_
      clear hw
      intro he_38 h_34 h_35 h_36 hw
      have h_37 := hw
      clear hw
      subst he_38
      refine ww_eq (ws' := [(ja, .inl (E.2.1 5, 2, .inr (.inr (.inr (.inr fa))))), (la1, .inr (3, [.ref la1m, .int la1p, .int la1w, .ref la1c, .ref la1f, .ref la1q])), (la1c, .inl (E.2.1 1, 24, .inl la1fc)), (la1f, .inl (E.2.1 1, 24, .inl la1ff)), (la1q, .inl (E.2.1 1, 4, .inl la1fq)), (la1m, .inr (4, [.int (nI la1n), .int (nI la1r), .ref la1x, .ref la1y])), (la1x, .inl (E.2.1 1, 24, .inl la1gx)), (la1y, .inl (E.2.1 1, 96, .inl la1gy)), (qj, .inr (2, [.ref jt, .ref je, .ref ju, .ref ja])), (ju, .inl (E.2.1 1, 32, .inl ft2_16)), (la0, .inr (3, [.ref la0m, .int (nI Pp_13), .int (nI n), .ref la0c, .ref la0f, .ref la0q])), (la0c, .inl (E.2.1 1, 24, .inl cf2_14)), (la0f, .inl (E.2.1 1, 24, .inl ff2_15)), (la0q, .inl (E.2.1 1, 4, .inl fq2_31)), (la0m, .inr (4, [.int (nI bn2_29), .int (nI br2_30), .ref la0x, .ref la0y])), (la0x, .inl (E.2.1 1, 24, .inl bf2_32)), (la0y, .inl (E.2.1 1, 96, .inl bg2_33)), (h, .inr (4, [.int (nI n), .int (nI r), .ref a, .ref b])), (a, .inl (E.2.1 1, 24, .inl f)), (b, .inl (E.2.1 1, 96, .inl gg))]) ?_ rfl rfl rfl
      refine ww_aload_n C dX2_whole_90 4 rfl rfl ?_
      refine ww_get C fg_X2_29 8 rfl rfl dX2_whole_91 ?_
      refine ww_iload C dX2_whole_94 2 rfl ?_
      refine ww_ald (v := (some la0)) (t0 := 5) C 0 rfl rfl (vin rfl) k_fa_0 dX2_whole_96 ?_
      refine ww_eq (st' := [.ref la0]) ?_ rfl rfl rfl
      refine ww_get C fg_X2_53 10 rfl rfl dX2_whole_97 ?_
      refine ww_astore_n (lv' := [(3, .ref la0m), (5, .int 1), (6, .ref e_8), (4, .int 0), (0, .ref qj), (1, .ref h), (2, .ref sa)]) C dX2_whole_100 rfl rfl rfl ?_
      refine ww_iinc (j := 3) (v := 1) (lv' := [(4, .int 1), (3, .ref la0m), (5, .int 1), (6, .ref e_8), (0, .ref qj), (1, .ref h), (2, .ref sa)]) C dX2_whole_101 rfl rfl rfl rfl ?_
      refine ww_goto (tgt := 8) C dX2_whole_104 (by decide) ?_
      refine ww_iload C dX2_whole_8 0 rfl ?_
      refine ww_aload_n C dX2_whole_10 6 rfl rfl ?_
      refine ww_getR C hro fg_X2_35 i0 h0 rfl dX2_whole_11 ?_
      refine ww_icmp_ge (tgt := 107) C dX2_whole_14 (by decide) (fun c_39 => ?_) (fun c_39 => ?_)
      · have zc_39 : 1 ≥ ((na : Nat) : Int) := i_le (nI_toInt (n := na) (by omega)) rfl c_39
        refine ww_iload C dX2_whole_107 2 rfl ?_
        refine ww_if_eq_f (tgt := 121) C dX2_whole_109 (by decide) (by decide) ?_
        refine ww_aload_n C dX2_whole_112 4 rfl rfl ?_
        refine ww_aload_n C dX2_whole_113 1 rfl rfl ?_
        refine ww_aload_n C dX2_whole_114 6 rfl rfl ?_
        refine ww_ci (wr := [(ja, .inl (E.2.1 5, 2, .inr (.inr (.inr (.inr fa))))), (la1, .inr (3, [.ref la1m, .int la1p, .int la1w, .ref la1c, .ref la1f, .ref la1q])), (la1c, .inl (E.2.1 1, 24, .inl la1fc)), (la1f, .inl (E.2.1 1, 24, .inl la1ff)), (la1q, .inl (E.2.1 1, 4, .inl la1fq)), (la1m, .inr (4, [.int (nI la1n), .int (nI la1r), .ref la1x, .ref la1y])), (la1x, .inl (E.2.1 1, 24, .inl la1gx)), (la1y, .inl (E.2.1 1, 96, .inl la1gy)), (la0, .inr (3, [.ref la0m, .int (nI Pp_13), .int (nI n), .ref la0c, .ref la0f, .ref la0q])), (la0c, .inl (E.2.1 1, 24, .inl cf2_14)), (la0f, .inl (E.2.1 1, 24, .inl ff2_15)), (la0q, .inl (E.2.1 1, 4, .inl fq2_31)), (h, .inr (4, [.int (nI n), .int (nI r), .ref a, .ref b])), (a, .inl (E.2.1 1, 24, .inl f)), (b, .inl (E.2.1 1, 96, .inl gg))]) (k' := 0) (n' := 0) C (run_V (As := [.ref la0m, .ref sa]) (rest := []) C (j_plain X.2.1 E ro qj la0m sa jt je ju ja ft2_16 bn2_29 br2_30 la0x la0y bf2_32 bg2_33 (nn, so, sr, sf, tk, dp, nm, na) (by omega) (by omega) hsa (by rw [h_37]; exact cmp_wf)) mi_X2_plain wl_X2_57 rfl 0 2 rfl rfl rfl rfl rfl dX2_whole_115) (roK hro) [8, 9, 14, 15, 16] [0, 1, 2, 3, 4, 5, 6, 7, 10, 11, 12, 13, 17, 18, 19] rfl (gqk (by eq_refl)) (plk (by decide +kernel)) rfl (fun r_40 uz hw => ?_)
        refine ex1 hw ?_
        clear hw
        intro ft2_41 hw
        refine an1 hw ?_
        clear hw
        intro he_43 hw
        have h_42 := hw
        clear hw
        subst he_43
        refine ww_eq (ws' := [(ja, .inl (E.2.1 5, 2, .inr (.inr (.inr (.inr fa))))), (la1, .inr (3, [.ref la1m, .int la1p, .int la1w, .ref la1c, .ref la1f, .ref la1q])), (la1c, .inl (E.2.1 1, 24, .inl la1fc)), (la1f, .inl (E.2.1 1, 24, .inl la1ff)), (la1q, .inl (E.2.1 1, 4, .inl la1fq)), (la1m, .inr (4, [.int (nI la1n), .int (nI la1r), .ref la1x, .ref la1y])), (la1x, .inl (E.2.1 1, 24, .inl la1gx)), (la1y, .inl (E.2.1 1, 96, .inl la1gy)), (la0, .inr (3, [.ref la0m, .int (nI Pp_13), .int (nI n), .ref la0c, .ref la0f, .ref la0q])), (la0c, .inl (E.2.1 1, 24, .inl cf2_14)), (la0f, .inl (E.2.1 1, 24, .inl ff2_15)), (la0q, .inl (E.2.1 1, 4, .inl fq2_31)), (h, .inr (4, [.int (nI n), .int (nI r), .ref a, .ref b])), (a, .inl (E.2.1 1, 24, .inl f)), (b, .inl (E.2.1 1, 96, .inl gg)), (qj, .inr (2, [.ref jt, .ref je, .ref ju, .ref ja])), (ju, .inl (E.2.1 1, 32, .inl ft2_41)), (la0m, .inr (4, [.int (nI bn2_29), .int (nI br2_30), .ref la0x, .ref la0y])), (la0x, .inl (E.2.1 1, 24, .inl bf2_32)), (la0y, .inl (E.2.1 1, 96, .inl bg2_33))]) ?_ rfl rfl rfl
        refine ww_goto (tgt := 125) C dX2_whole_118 (by decide) ?_
        refine ww_istore (lv' := [(6, .int r_40), (4, .int 1), (3, .ref la0m), (5, .int 1), (0, .ref qj), (1, .ref h), (2, .ref sa)]) C dX2_whole_125 rfl rfl ?_
        refine ww_iload C dX2_whole_127 1 rfl ?_
        refine ww_iconst (v := 1) C dX2_whole_129 rfl ?_
        refine ww_isub (v := 0) C dX2_whole_130 (by decide) ?_
        refine ww_istore (lv' := [(7, .int 0), (6, .int r_40), (4, .int 1), (3, .ref la0m), (5, .int 1), (0, .ref qj), (1, .ref h), (2, .ref sa)]) C dX2_whole_131 rfl rfl ?_
        refine ww_iload C dX2_whole_133 0 rfl ?_
        refine ww_if_lt_f (tgt := 173) C dX2_whole_135 (by decide) (by decide) ?_
        refine ww_aload_n C dX2_whole_138 5 rfl rfl ?_
        refine ww_get C fg_X2_29 15 rfl rfl dX2_whole_139 ?_
        refine ww_iload C dX2_whole_142 0 rfl ?_
        refine ww_ald (v := (some la0)) (t0 := 5) C 0 rfl rfl (vin rfl) k_fa_0 dX2_whole_144 ?_
        refine ww_eq (st' := [.ref la0]) ?_ rfl rfl rfl
        refine ww_iload C dX2_whole_145 1 rfl ?_
        refine ww_aload_n C dX2_whole_147 5 rfl rfl ?_
        refine ww_get C fg_X2_19 15 rfl rfl dX2_whole_148 ?_
        refine ww_aload_n C dX2_whole_151 7 rfl rfl ?_
        refine ww_getR C hro fg_X2_39 i0 h0 rfl dX2_whole_152 ?_
        refine ww_iload C dX2_whole_155 0 rfl ?_
        refine ww_ialdR (v := (nI j_7)) C hro i3 h3 (vin rfl) ej_7 dX2_whole_157 ?_
        obtain ⟨e_44, he_45, hev_46⟩ := hall_ j_7 (by omega)
        refine ww_aldR (v := (some e_44)) (t0 := 4) C hro jei_ hje_ rfl (vp_in_nI (by omega) (by omega)) (ldn (by omega) he_45) dX2_whole_158 ?_
        obtain ⟨i0y_47, i1y_47, i2y_47, i3y_47, i4y_47, cay_47, cby_47, ccy_47, cdy_47, fiy_47, g0y_47, g1y_47, g2y_47, g3y_47, g4y_47, hcsy_47, hrcy_47, hfiy_47⟩ := id hev_46
        refine ww_eq (st' := [.ref e_44, .int r_40, .ref la0]) ?_ rfl rfl rfl
        refine ww_getR C hro fg_X2_67 i0y_47 g0y_47 rfl dX2_whole_159 ?_
        refine ww_ci (wr := [(ja, .inl (E.2.1 5, 2, .inr (.inr (.inr (.inr fa))))), (la1, .inr (3, [.ref la1m, .int la1p, .int la1w, .ref la1c, .ref la1f, .ref la1q])), (la1c, .inl (E.2.1 1, 24, .inl la1fc)), (la1f, .inl (E.2.1 1, 24, .inl la1ff)), (la1q, .inl (E.2.1 1, 4, .inl la1fq)), (la1m, .inr (4, [.int (nI la1n), .int (nI la1r), .ref la1x, .ref la1y])), (la1x, .inl (E.2.1 1, 24, .inl la1gx)), (la1y, .inl (E.2.1 1, 96, .inl la1gy)), (la0q, .inl (E.2.1 1, 4, .inl fq2_31)), (h, .inr (4, [.int (nI n), .int (nI r), .ref a, .ref b])), (a, .inl (E.2.1 1, 24, .inl f)), (b, .inl (E.2.1 1, 96, .inl gg)), (qj, .inr (2, [.ref jt, .ref je, .ref ju, .ref ja])), (ju, .inl (E.2.1 1, 32, .inl ft2_41)), (la0m, .inr (4, [.int (nI bn2_29), .int (nI br2_30), .ref la0x, .ref la0y])), (la0x, .inl (E.2.1 1, 24, .inl bf2_32)), (la0y, .inl (E.2.1 1, 96, .inl bg2_33))]) (k' := 0) (n' := 0) C (run_V (As := [.int r_40, .int (nI (vr j_7))]) (rest := []) C (l_comingTo X.2.1 E ro la0 r_40 (vr j_7) la0m Pp_13 n la0c la0f la0q cf2_14 ff2_15 (lyP (am n r f gg) ((vc j_7), (vr j_7), (vi j_7), (vs j_7), (vn j_7), (vp j_7))) (by omega) (by omega) h_17 h_20 (by omega)) mi_X3_comingTo wl_X2_70 rfl 0 3 rfl rfl rfl rfl rfl dX2_whole_162) (roK hro) [8, 9, 10] [0, 1, 2, 3, 4, 5, 6, 7, 11, 12, 13, 14, 15, 16, 17, 18, 19] rfl (gqk (by eq_refl)) (plk (by decide +kernel)) rfl (fun r_48 uz hw => ?_)
        refine an1 hw ?_
        clear hw
        intro he_50 hw
        have h_49 := hw
        clear hw
        subst he_50
        refine ww_eq (ws' := [(ja, .inl (E.2.1 5, 2, .inr (.inr (.inr (.inr fa))))), (la1, .inr (3, [.ref la1m, .int la1p, .int la1w, .ref la1c, .ref la1f, .ref la1q])), (la1c, .inl (E.2.1 1, 24, .inl la1fc)), (la1f, .inl (E.2.1 1, 24, .inl la1ff)), (la1q, .inl (E.2.1 1, 4, .inl la1fq)), (la1m, .inr (4, [.int (nI la1n), .int (nI la1r), .ref la1x, .ref la1y])), (la1x, .inl (E.2.1 1, 24, .inl la1gx)), (la1y, .inl (E.2.1 1, 96, .inl la1gy)), (la0q, .inl (E.2.1 1, 4, .inl fq2_31)), (h, .inr (4, [.int (nI n), .int (nI r), .ref a, .ref b])), (a, .inl (E.2.1 1, 24, .inl f)), (b, .inl (E.2.1 1, 96, .inl gg)), (qj, .inr (2, [.ref jt, .ref je, .ref ju, .ref ja])), (ju, .inl (E.2.1 1, 32, .inl ft2_41)), (la0m, .inr (4, [.int (nI bn2_29), .int (nI br2_30), .ref la0x, .ref la0y])), (la0x, .inl (E.2.1 1, 24, .inl bf2_32)), (la0y, .inl (E.2.1 1, 96, .inl bg2_33)), (la0, .inr (3, [.ref la0m, .int (nI Pp_13), .int (nI n), .ref la0c, .ref la0f, .ref la0q])), (la0c, .inl (E.2.1 1, 24, .inl cf2_14)), (la0f, .inl (E.2.1 1, 24, .inl ff2_15))]) ?_ rfl rfl rfl
        refine ww_istore (lv' := [(6, .int r_48), (7, .int 0), (4, .int 1), (3, .ref la0m), (5, .int 1), (0, .ref qj), (1, .ref h), (2, .ref sa)]) C dX2_whole_165 rfl rfl ?_
        refine ww_iinc (j := 1) (v := (-1)) (lv' := [(7, .int (-1)), (6, .int r_48), (4, .int 1), (3, .ref la0m), (5, .int 1), (0, .ref qj), (1, .ref h), (2, .ref sa)]) C dX2_whole_167 rfl rfl rfl rfl ?_
        refine ww_goto (tgt := 133) C dX2_whole_170 (by decide) ?_
        refine ww_iload C dX2_whole_133 0 rfl ?_
        refine ww_if_lt_t (tgt := 173) C dX2_whole_135 (by decide) (by decide) ?_
        refine ww_iload C dX2_whole_173 1 rfl ?_
        exact ww_iret (u := [(qj, .inr (2, [.ref jt, .ref je, .ref ju, .ref ja])), (ju, .inl (E.2.1 1, 32, .inl ft2_41)), (ja, .inl (E.2.1 5, 2, .inr (.inr (.inr (.inr fa))))), (la0, .inr (3, [.ref la0m, .int (nI Pp_13), .int (nI n), .ref la0c, .ref la0f, .ref la0q])), (la0c, .inl (E.2.1 1, 24, .inl cf2_14)), (la0f, .inl (E.2.1 1, 24, .inl ff2_15)), (la0q, .inl (E.2.1 1, 4, .inl fq2_31)), (la0m, .inr (4, [.int (nI bn2_29), .int (nI br2_30), .ref la0x, .ref la0y])), (la0x, .inl (E.2.1 1, 24, .inl bf2_32)), (la0y, .inl (E.2.1 1, 96, .inl bg2_33)), (la1, .inr (3, [.ref la1m, .int la1p, .int la1w, .ref la1c, .ref la1f, .ref la1q])), (la1c, .inl (E.2.1 1, 24, .inl la1fc)), (la1f, .inl (E.2.1 1, 24, .inl la1ff)), (la1q, .inl (E.2.1 1, 4, .inl la1fq)), (la1m, .inr (4, [.int (nI la1n), .int (nI la1r), .ref la1x, .ref la1y])), (la1x, .inl (E.2.1 1, 24, .inl la1gx)), (la1y, .inl (E.2.1 1, 96, .inl la1gy)), (h, .inr (4, [.int (nI n), .int (nI r), .ref a, .ref b])), (a, .inl (E.2.1 1, 24, .inl f)), (b, .inl (E.2.1 1, 96, .inl gg))]) C hT [12, 13, 0, 17, 18, 19, 8, 14, 15, 16, 1, 2, 3, 4, 5, 6, 7, 9, 10, 11] (gqk (by eq_refl)) (ndk (by decide +kernel)) rfl rfl dX2_whole_175 (⟨ft2_41, (nI Pp_13), (nI n), bn2_29, br2_30, cf2_14, ff2_15, fq2_31, bf2_32, bg2_33, la1p, la1w, la1n, la1r, la1fc, la1ff, la1fq, la1gx, la1gy, rfl, (by first | assumption | omega | decide), (by first | assumption | omega | decide), (by first | assumption | omega | decide), (by first | assumption | omega | decide), (w_1 (S := (nn, so, sr, sf, tk, dp, nm, na)) (ev := (ev6 vc vr vi vs vn vp)) (show na = 1 by omega) (cN_of ej_7 (by omega)) (show lyC (am n r f gg) ((ev6 vc vr vi vs vn vp) j_7) ≤ 24 from (show Pp_13 = lyC (am n r f gg) ((ev6 vc vr vi vs vn vp) j_7) from h_21) ▸ (show Pp_13 ≤ 24 by omega)) (show vr j_7 < 4 by have h9 := hrcy_47; omega) ((show (am bn2_29 br2_30 bf2_32 bg2_33) = aLay (am n r f gg) ((ev6 vc vr vi vs vn vp) j_7) from h_37) ▸ h_42) h_49)⟩)
      · have zc_39 : 1 < ((na : Nat) : Int) := i_nle (nI_toInt (n := na) (by omega)) rfl c_39
        refine ww_iload C dX2_whole_17 2 rfl ?_
        refine ww_if_eq_f (tgt := 107) C dX2_whole_19 (by decide) (by decide) ?_
        refine ww_aload_n C dX2_whole_22 4 rfl rfl ?_
        refine ww_get C fg_X2_19 8 rfl rfl dX2_whole_23 ?_
        refine ww_aload_n C dX2_whole_26 6 rfl rfl ?_
        refine ww_getR C hro fg_X2_39 i0 h0 rfl dX2_whole_27 ?_
        refine ww_iload C dX2_whole_30 0 rfl ?_
        obtain ⟨j_52, hj_52, ej_52⟩ := haf 1 (by omega)
        refine ww_ialdR (v := (nI j_52)) C hro i3 h3 (vin rfl) ej_52 dX2_whole_32 ?_
        obtain ⟨e_53, he_54, hev_55⟩ := hall_ j_52 (by omega)
        refine ww_aldR (v := (some e_53)) (t0 := 4) C hro jei_ hje_ rfl (vp_in_nI (by omega) (by omega)) (ldn (by omega) he_54) dX2_whole_33 ?_
        obtain ⟨i0y_56, i1y_56, i2y_56, i3y_56, i4y_56, cay_56, cby_56, ccy_56, cdy_56, fiy_56, g0y_56, g1y_56, g2y_56, g3y_56, g4y_56, hcsy_56, hrcy_56, hfiy_56⟩ := id hev_55
        refine ww_eq (st' := [.ref e_53]) ?_ rfl rfl rfl
        refine ww_astore (lv' := [(6, .ref e_53), (4, .int 1), (3, .ref la0m), (5, .int 1), (0, .ref qj), (1, .ref h), (2, .ref sa)]) C dX2_whole_34 rfl rfl ?_
        refine ww_aload_n C dX2_whole_36 4 rfl rfl ?_
        refine ww_get C fg_X2_29 8 rfl rfl dX2_whole_37 ?_
        refine ww_iload C dX2_whole_40 1 rfl ?_
        refine ww_ald (v := (some la1)) (t0 := 5) C 0 rfl rfl (vin rfl) k_fa_1 dX2_whole_42 ?_
        refine ww_eq (st' := [.ref la1]) ?_ rfl rfl rfl
        refine ww_aload_n C dX2_whole_43 2 rfl rfl ?_
        refine ww_aload C dX2_whole_44 0 rfl ?_
        refine ww_aload_n C dX2_whole_46 4 rfl rfl ?_
        refine ww_cv (wr := [(ja, .inl (E.2.1 5, 2, .inr (.inr (.inr (.inr fa))))), (la1q, .inl (E.2.1 1, 4, .inl la1fq)), (la1m, .inr (4, [.int (nI la1n), .int (nI la1r), .ref la1x, .ref la1y])), (la1x, .inl (E.2.1 1, 24, .inl la1gx)), (la1y, .inl (E.2.1 1, 96, .inl la1gy)), (la0, .inr (3, [.ref la0m, .int (nI Pp_13), .int (nI n), .ref la0c, .ref la0f, .ref la0q])), (la0c, .inl (E.2.1 1, 24, .inl cf2_14)), (la0f, .inl (E.2.1 1, 24, .inl ff2_15)), (la0q, .inl (E.2.1 1, 4, .inl fq2_31)), (h, .inr (4, [.int (nI n), .int (nI r), .ref a, .ref b])), (a, .inl (E.2.1 1, 24, .inl f)), (b, .inl (E.2.1 1, 96, .inl gg))]) (k' := 0) (n' := 0) C (run_V (As := [.ref la0m, .ref e_53, .ref qj]) (rest := []) C (l_measure X.2.1 E ro la1 la0m e_53 qj la1m la1p la1w la1c la1f la1q la1fc la1ff bn2_29 br2_30 la0x la0y bf2_32 bg2_33 jt je ju ja ft2_16 (vc j_52) (vr j_52) (vi j_52) (vs j_52) (vn j_52) (vp j_52) (by omega) (by omega) hev_55 (by rw [h_37]; exact cmp_wf)) mi_X3_measure wl_X2_42 rfl 0 3 rfl rfl rfl rfl rfl dX2_whole_47) (roK hro) [1, 2, 3, 14, 15, 16, 8, 9] [0, 4, 5, 6, 7, 10, 11, 12, 13, 17, 18, 19] (gqk (by eq_refl)) (gqk (by eq_refl)) (plk (by decide +kernel)) rfl (fun uz hw => ?_)
        refine ex4 hw ?_
        clear hw
        intro Pp_58 cf2_59 ff2_60 ft2_61 hw
        refine an5 hw ?_
        clear hw
        intro he_67 h_62 h_63 h_64 h_65 hw
        have h_66 := hw
        clear hw
        subst he_67
        refine ww_eq (ws' := [(ja, .inl (E.2.1 5, 2, .inr (.inr (.inr (.inr fa))))), (la1q, .inl (E.2.1 1, 4, .inl la1fq)), (la1m, .inr (4, [.int (nI la1n), .int (nI la1r), .ref la1x, .ref la1y])), (la1x, .inl (E.2.1 1, 24, .inl la1gx)), (la1y, .inl (E.2.1 1, 96, .inl la1gy)), (la0, .inr (3, [.ref la0m, .int (nI Pp_13), .int (nI n), .ref la0c, .ref la0f, .ref la0q])), (la0c, .inl (E.2.1 1, 24, .inl cf2_14)), (la0f, .inl (E.2.1 1, 24, .inl ff2_15)), (la0q, .inl (E.2.1 1, 4, .inl fq2_31)), (h, .inr (4, [.int (nI n), .int (nI r), .ref a, .ref b])), (a, .inl (E.2.1 1, 24, .inl f)), (b, .inl (E.2.1 1, 96, .inl gg)), (la1, .inr (3, [.ref la1m, .int (nI Pp_58), .int (nI bn2_29), .ref la1c, .ref la1f, .ref la1q])), (la1c, .inl (E.2.1 1, 24, .inl cf2_59)), (la1f, .inl (E.2.1 1, 24, .inl ff2_60)), (la0m, .inr (4, [.int (nI bn2_29), .int (nI br2_30), .ref la0x, .ref la0y])), (la0x, .inl (E.2.1 1, 24, .inl bf2_32)), (la0y, .inl (E.2.1 1, 96, .inl bg2_33)), (qj, .inr (2, [.ref jt, .ref je, .ref ju, .ref ja])), (ju, .inl (E.2.1 1, 32, .inl ft2_61))]) ?_ rfl rfl rfl
        refine ww_aload_n C dX2_whole_50 4 rfl rfl ?_
        refine ww_get C fg_X2_29 18 rfl rfl dX2_whole_51 ?_
        refine ww_iload C dX2_whole_54 1 rfl ?_
        refine ww_ald (v := (some la1)) (t0 := 5) C 0 rfl rfl (vin rfl) k_fa_1 dX2_whole_56 ?_
        refine ww_eq (st' := [.ref la1]) ?_ rfl rfl rfl
        refine ww_get C fg_X2_46 12 rfl rfl dX2_whole_57 ?_
        refine ww_bipush (v := 24) C dX2_whole_60 rfl ?_
        refine ww_icmp_gt (tgt := 69) C dX2_whole_62 (by decide) (fun c_68 => ?_) (fun c_68 => ?_)
        · have zc_68 : ((Pp_58 : Nat) : Int) > 24 := i_lt rfl (nI_toInt (n := Pp_58) (by omega)) c_68
          refine ww_iconst (v := 0) C dX2_whole_69 rfl ?_
          refine ww_istore (lv' := [(5, .int 0), (6, .ref e_53), (4, .int 1), (3, .ref la0m), (0, .ref qj), (1, .ref h), (2, .ref sa)]) C dX2_whole_70 rfl rfl ?_
          refine ww_iload C dX2_whole_72 0 rfl ?_
          refine ww_if_eq_t (tgt := 104) C dX2_whole_74 (by decide) (rfl) ?_
          refine ww_goto (tgt := 8) C dX2_whole_104 (by decide) ?_
          refine ww_iload C dX2_whole_8 2 rfl ?_
          refine ww_aload_n C dX2_whole_10 6 rfl rfl ?_
          refine ww_getR C hro fg_X2_35 i0 h0 rfl dX2_whole_11 ?_
          refine ww_icmp_ge (tgt := 107) C dX2_whole_14 (by decide) (fun c_69 => ?_) (fun c_69 => ?_)
          · have zc_69 : 1 ≥ ((na : Nat) : Int) := i_le (nI_toInt (n := na) (by omega)) rfl c_69
            omega
          · have zc_69 : 1 < ((na : Nat) : Int) := i_nle (nI_toInt (n := na) (by omega)) rfl c_69
            refine ww_iload C dX2_whole_17 0 rfl ?_
            refine ww_if_eq_t (tgt := 107) C dX2_whole_19 (by decide) (rfl) ?_
            refine ww_iload C dX2_whole_107 0 rfl ?_
            refine ww_if_eq_t (tgt := 121) C dX2_whole_109 (by decide) (rfl) ?_
            refine ww_aload_n C dX2_whole_121 3 rfl rfl ?_
            refine ww_ci (wr := [(ja, .inl (E.2.1 5, 2, .inr (.inr (.inr (.inr fa))))), (la1q, .inl (E.2.1 1, 4, .inl la1fq)), (la1m, .inr (4, [.int (nI la1n), .int (nI la1r), .ref la1x, .ref la1y])), (la1x, .inl (E.2.1 1, 24, .inl la1gx)), (la1y, .inl (E.2.1 1, 96, .inl la1gy)), (la0, .inr (3, [.ref la0m, .int (nI Pp_13), .int (nI n), .ref la0c, .ref la0f, .ref la0q])), (la0c, .inl (E.2.1 1, 24, .inl cf2_14)), (la0f, .inl (E.2.1 1, 24, .inl ff2_15)), (la0q, .inl (E.2.1 1, 4, .inl fq2_31)), (h, .inr (4, [.int (nI n), .int (nI r), .ref a, .ref b])), (a, .inl (E.2.1 1, 24, .inl f)), (b, .inl (E.2.1 1, 96, .inl gg)), (la1, .inr (3, [.ref la1m, .int (nI Pp_58), .int (nI bn2_29), .ref la1c, .ref la1f, .ref la1q])), (la1c, .inl (E.2.1 1, 24, .inl cf2_59)), (la1f, .inl (E.2.1 1, 24, .inl ff2_60)), (la0x, .inl (E.2.1 1, 24, .inl bf2_32)), (la0y, .inl (E.2.1 1, 96, .inl bg2_33)), (qj, .inr (2, [.ref jt, .ref je, .ref ju, .ref ja])), (ju, .inl (E.2.1 1, 32, .inl ft2_61))]) (k' := 0) (n' := 0) C (run_V (As := []) (rest := []) C (m_all X.2.1 E ro la0m bn2_29 br2_30 la0x la0y (by omega)) mi_X4_all wl_X2_61 rfl 0 4 rfl rfl rfl rfl rfl dX2_whole_122) (roK hro) [15] [0, 1, 2, 3, 4, 5, 6, 7, 8, 9, 10, 11, 12, 13, 14, 16, 17, 18, 19] rfl (gqk (by eq_refl)) (plk (by decide +kernel)) rfl (fun r_70 uz hw => ?_)
            refine an1 hw ?_
            clear hw
            intro he_72 hw
            have h_71 := hw
            clear hw
            subst he_72
            refine ww_eq (ws' := [(ja, .inl (E.2.1 5, 2, .inr (.inr (.inr (.inr fa))))), (la1q, .inl (E.2.1 1, 4, .inl la1fq)), (la1m, .inr (4, [.int (nI la1n), .int (nI la1r), .ref la1x, .ref la1y])), (la1x, .inl (E.2.1 1, 24, .inl la1gx)), (la1y, .inl (E.2.1 1, 96, .inl la1gy)), (la0, .inr (3, [.ref la0m, .int (nI Pp_13), .int (nI n), .ref la0c, .ref la0f, .ref la0q])), (la0c, .inl (E.2.1 1, 24, .inl cf2_14)), (la0f, .inl (E.2.1 1, 24, .inl ff2_15)), (la0q, .inl (E.2.1 1, 4, .inl fq2_31)), (h, .inr (4, [.int (nI n), .int (nI r), .ref a, .ref b])), (a, .inl (E.2.1 1, 24, .inl f)), (b, .inl (E.2.1 1, 96, .inl gg)), (la1, .inr (3, [.ref la1m, .int (nI Pp_58), .int (nI bn2_29), .ref la1c, .ref la1f, .ref la1q])), (la1c, .inl (E.2.1 1, 24, .inl cf2_59)), (la1f, .inl (E.2.1 1, 24, .inl ff2_60)), (la0x, .inl (E.2.1 1, 24, .inl bf2_32)), (la0y, .inl (E.2.1 1, 96, .inl bg2_33)), (qj, .inr (2, [.ref jt, .ref je, .ref ju, .ref ja])), (ju, .inl (E.2.1 1, 32, .inl ft2_61)), (la0m, .inr (4, [.int (nI bn2_29), .int (nI br2_30), .ref la0x, .ref la0y]))]) ?_ rfl rfl rfl
            refine ww_istore (lv' := [(6, .int r_70), (5, .int 0), (4, .int 1), (3, .ref la0m), (0, .ref qj), (1, .ref h), (2, .ref sa)]) C dX2_whole_125 rfl rfl ?_
            refine ww_iload C dX2_whole_127 2 rfl ?_
            refine ww_iconst (v := 1) C dX2_whole_129 rfl ?_
            refine ww_isub (v := 0) C dX2_whole_130 (by decide) ?_
            refine ww_istore (lv' := [(7, .int 0), (6, .int r_70), (5, .int 0), (4, .int 1), (3, .ref la0m), (0, .ref qj), (1, .ref h), (2, .ref sa)]) C dX2_whole_131 rfl rfl ?_
            refine ww_iload C dX2_whole_133 0 rfl ?_
            refine ww_if_lt_f (tgt := 173) C dX2_whole_135 (by decide) (by decide) ?_
            refine ww_aload_n C dX2_whole_138 5 rfl rfl ?_
            refine ww_get C fg_X2_29 17 rfl rfl dX2_whole_139 ?_
            refine ww_iload C dX2_whole_142 0 rfl ?_
            refine ww_ald (v := (some la0)) (t0 := 5) C 0 rfl rfl (vin rfl) k_fa_0 dX2_whole_144 ?_
            refine ww_eq (st' := [.ref la0]) ?_ rfl rfl rfl
            refine ww_iload C dX2_whole_145 1 rfl ?_
            refine ww_aload_n C dX2_whole_147 5 rfl rfl ?_
            refine ww_get C fg_X2_19 17 rfl rfl dX2_whole_148 ?_
            refine ww_aload_n C dX2_whole_151 7 rfl rfl ?_
            refine ww_getR C hro fg_X2_39 i0 h0 rfl dX2_whole_152 ?_
            refine ww_iload C dX2_whole_155 0 rfl ?_
            refine ww_ialdR (v := (nI j_7)) C hro i3 h3 (vin rfl) ej_7 dX2_whole_157 ?_
            obtain ⟨e_73, he_74, hev_75⟩ := hall_ j_7 (by omega)
            refine ww_aldR (v := (some e_73)) (t0 := 4) C hro jei_ hje_ rfl (vp_in_nI (by omega) (by omega)) (ldn (by omega) he_74) dX2_whole_158 ?_
            obtain ⟨i0y_76, i1y_76, i2y_76, i3y_76, i4y_76, cay_76, cby_76, ccy_76, cdy_76, fiy_76, g0y_76, g1y_76, g2y_76, g3y_76, g4y_76, hcsy_76, hrcy_76, hfiy_76⟩ := id hev_75
            refine ww_eq (st' := [.ref e_73, .int r_70, .ref la0]) ?_ rfl rfl rfl
            refine ww_getR C hro fg_X2_67 i0y_76 g0y_76 rfl dX2_whole_159 ?_
            refine ww_ci (wr := [(ja, .inl (E.2.1 5, 2, .inr (.inr (.inr (.inr fa))))), (la1q, .inl (E.2.1 1, 4, .inl la1fq)), (la1m, .inr (4, [.int (nI la1n), .int (nI la1r), .ref la1x, .ref la1y])), (la1x, .inl (E.2.1 1, 24, .inl la1gx)), (la1y, .inl (E.2.1 1, 96, .inl la1gy)), (la0q, .inl (E.2.1 1, 4, .inl fq2_31)), (h, .inr (4, [.int (nI n), .int (nI r), .ref a, .ref b])), (a, .inl (E.2.1 1, 24, .inl f)), (b, .inl (E.2.1 1, 96, .inl gg)), (la1, .inr (3, [.ref la1m, .int (nI Pp_58), .int (nI bn2_29), .ref la1c, .ref la1f, .ref la1q])), (la1c, .inl (E.2.1 1, 24, .inl cf2_59)), (la1f, .inl (E.2.1 1, 24, .inl ff2_60)), (la0x, .inl (E.2.1 1, 24, .inl bf2_32)), (la0y, .inl (E.2.1 1, 96, .inl bg2_33)), (qj, .inr (2, [.ref jt, .ref je, .ref ju, .ref ja])), (ju, .inl (E.2.1 1, 32, .inl ft2_61)), (la0m, .inr (4, [.int (nI bn2_29), .int (nI br2_30), .ref la0x, .ref la0y]))]) (k' := 0) (n' := 0) C (run_V (As := [.int r_70, .int (nI (vr j_7))]) (rest := []) C (l_comingTo X.2.1 E ro la0 r_70 (vr j_7) la0m Pp_13 n la0c la0f la0q cf2_14 ff2_15 (lyP (am n r f gg) ((vc j_7), (vr j_7), (vi j_7), (vs j_7), (vn j_7), (vp j_7))) (by omega) (by omega) h_17 h_20 (by omega)) mi_X3_comingTo wl_X2_70 rfl 0 3 rfl rfl rfl rfl rfl dX2_whole_162) (roK hro) [5, 6, 7] [0, 1, 2, 3, 4, 8, 9, 10, 11, 12, 13, 14, 15, 16, 17, 18, 19] rfl (gqk (by eq_refl)) (plk (by decide +kernel)) rfl (fun r_77 uz hw => ?_)
            refine an1 hw ?_
            clear hw
            intro he_79 hw
            have h_78 := hw
            clear hw
            subst he_79
            refine ww_eq (ws' := [(ja, .inl (E.2.1 5, 2, .inr (.inr (.inr (.inr fa))))), (la1q, .inl (E.2.1 1, 4, .inl la1fq)), (la1m, .inr (4, [.int (nI la1n), .int (nI la1r), .ref la1x, .ref la1y])), (la1x, .inl (E.2.1 1, 24, .inl la1gx)), (la1y, .inl (E.2.1 1, 96, .inl la1gy)), (la0q, .inl (E.2.1 1, 4, .inl fq2_31)), (h, .inr (4, [.int (nI n), .int (nI r), .ref a, .ref b])), (a, .inl (E.2.1 1, 24, .inl f)), (b, .inl (E.2.1 1, 96, .inl gg)), (la1, .inr (3, [.ref la1m, .int (nI Pp_58), .int (nI bn2_29), .ref la1c, .ref la1f, .ref la1q])), (la1c, .inl (E.2.1 1, 24, .inl cf2_59)), (la1f, .inl (E.2.1 1, 24, .inl ff2_60)), (la0x, .inl (E.2.1 1, 24, .inl bf2_32)), (la0y, .inl (E.2.1 1, 96, .inl bg2_33)), (qj, .inr (2, [.ref jt, .ref je, .ref ju, .ref ja])), (ju, .inl (E.2.1 1, 32, .inl ft2_61)), (la0m, .inr (4, [.int (nI bn2_29), .int (nI br2_30), .ref la0x, .ref la0y])), (la0, .inr (3, [.ref la0m, .int (nI Pp_13), .int (nI n), .ref la0c, .ref la0f, .ref la0q])), (la0c, .inl (E.2.1 1, 24, .inl cf2_14)), (la0f, .inl (E.2.1 1, 24, .inl ff2_15))]) ?_ rfl rfl rfl
            refine ww_istore (lv' := [(6, .int r_77), (7, .int 0), (5, .int 0), (4, .int 1), (3, .ref la0m), (0, .ref qj), (1, .ref h), (2, .ref sa)]) C dX2_whole_165 rfl rfl ?_
            refine ww_iinc (j := 1) (v := (-1)) (lv' := [(7, .int (-1)), (6, .int r_77), (5, .int 0), (4, .int 1), (3, .ref la0m), (0, .ref qj), (1, .ref h), (2, .ref sa)]) C dX2_whole_167 rfl rfl rfl rfl ?_
            refine ww_goto (tgt := 133) C dX2_whole_170 (by decide) ?_
            refine ww_iload C dX2_whole_133 0 rfl ?_
            refine ww_if_lt_t (tgt := 173) C dX2_whole_135 (by decide) (by decide) ?_
            refine ww_iload C dX2_whole_173 1 rfl ?_
            exact ww_iret (u := [(qj, .inr (2, [.ref jt, .ref je, .ref ju, .ref ja])), (ju, .inl (E.2.1 1, 32, .inl ft2_61)), (ja, .inl (E.2.1 5, 2, .inr (.inr (.inr (.inr fa))))), (la0, .inr (3, [.ref la0m, .int (nI Pp_13), .int (nI n), .ref la0c, .ref la0f, .ref la0q])), (la0c, .inl (E.2.1 1, 24, .inl cf2_14)), (la0f, .inl (E.2.1 1, 24, .inl ff2_15)), (la0q, .inl (E.2.1 1, 4, .inl fq2_31)), (la0m, .inr (4, [.int (nI bn2_29), .int (nI br2_30), .ref la0x, .ref la0y])), (la0x, .inl (E.2.1 1, 24, .inl bf2_32)), (la0y, .inl (E.2.1 1, 96, .inl bg2_33)), (la1, .inr (3, [.ref la1m, .int (nI Pp_58), .int (nI bn2_29), .ref la1c, .ref la1f, .ref la1q])), (la1c, .inl (E.2.1 1, 24, .inl cf2_59)), (la1f, .inl (E.2.1 1, 24, .inl ff2_60)), (la1q, .inl (E.2.1 1, 4, .inl la1fq)), (la1m, .inr (4, [.int (nI la1n), .int (nI la1r), .ref la1x, .ref la1y])), (la1x, .inl (E.2.1 1, 24, .inl la1gx)), (la1y, .inl (E.2.1 1, 96, .inl la1gy)), (h, .inr (4, [.int (nI n), .int (nI r), .ref a, .ref b])), (a, .inl (E.2.1 1, 24, .inl f)), (b, .inl (E.2.1 1, 96, .inl gg))]) C hT [14, 15, 0, 17, 18, 19, 5, 16, 12, 13, 9, 10, 11, 1, 2, 3, 4, 6, 7, 8] (gqk (by eq_refl)) (ndk (by decide +kernel)) rfl rfl dX2_whole_175 (⟨ft2_61, (nI Pp_13), (nI n), bn2_29, br2_30, cf2_14, ff2_15, fq2_31, bf2_32, bg2_33, (nI Pp_58), (nI bn2_29), la1n, la1r, cf2_59, ff2_60, la1fq, la1gx, la1gy, rfl, (by first | assumption | omega | decide), (by first | assumption | omega | decide), (by first | assumption | omega | decide), (by first | assumption | omega | decide), (w_2n (S := (nn, so, sr, sf, tk, dp, nm, na)) (ev := (ev6 vc vr vi vs vn vp)) (show na = 2 by omega) (cN_of ej_7 (by omega)) (cN_of ej_52 (by omega)) (show lyC (am n r f gg) ((ev6 vc vr vi vs vn vp) j_7) ≤ 24 from (show Pp_13 = lyC (am n r f gg) ((ev6 vc vr vi vs vn vp) j_7) from h_21) ▸ (show Pp_13 ≤ 24 by omega)) (show vr j_7 < 4 by have h9 := hrcy_76; omega) ((show (am bn2_29 br2_30 bf2_32 bg2_33) = aLay (am n r f gg) ((ev6 vc vr vi vs vn vp) j_7) from h_37) ▸ (show ¬ lyC (am bn2_29 br2_30 bf2_32 bg2_33) ((ev6 vc vr vi vs vn vp) j_52) ≤ 24 from (show Pp_58 = lyC (am bn2_29 br2_30 bf2_32 bg2_33) ((ev6 vc vr vi vs vn vp) j_52) from h_66) ▸ (show ¬ Pp_58 ≤ 24 by omega))) ((show (am bn2_29 br2_30 bf2_32 bg2_33) = aLay (am n r f gg) ((ev6 vc vr vi vs vn vp) j_7) from h_37) ▸ (show BS _ (vAll (am bn2_29 br2_30 bf2_32 bg2_33)) from h_71)) h_78)⟩)
        · have zc_68 : ((Pp_58 : Nat) : Int) ≤ 24 := i_nlt rfl (nI_toInt (n := Pp_58) (by omega)) c_68
          refine ww_iconst (v := 1) C dX2_whole_65 rfl ?_
          refine ww_goto (tgt := 70) C dX2_whole_66 (by decide) ?_
          refine ww_istore (lv' := [(5, .int 1), (6, .ref e_53), (4, .int 1), (3, .ref la0m), (0, .ref qj), (1, .ref h), (2, .ref sa)]) C dX2_whole_70 rfl rfl ?_
          refine ww_iload C dX2_whole_72 0 rfl ?_
          refine ww_if_eq_f (tgt := 104) C dX2_whole_74 (by decide) (by decide) ?_
          refine ww_aload_n C dX2_whole_77 4 rfl rfl ?_
          refine ww_get C fg_X2_29 18 rfl rfl dX2_whole_78 ?_
          refine ww_iload C dX2_whole_81 2 rfl ?_
          refine ww_ald (v := (some la1)) (t0 := 5) C 0 rfl rfl (vin rfl) k_fa_1 dX2_whole_83 ?_
          refine ww_eq (st' := [.ref la1]) ?_ rfl rfl rfl
          refine ww_aload_n C dX2_whole_84 3 rfl rfl ?_
          refine ww_aload C dX2_whole_85 1 rfl ?_
          refine ww_cv (wr := [(ja, .inl (E.2.1 5, 2, .inr (.inr (.inr (.inr fa))))), (la0, .inr (3, [.ref la0m, .int (nI Pp_13), .int (nI n), .ref la0c, .ref la0f, .ref la0q])), (la0c, .inl (E.2.1 1, 24, .inl cf2_14)), (la0f, .inl (E.2.1 1, 24, .inl ff2_15)), (la0q, .inl (E.2.1 1, 4, .inl fq2_31)), (h, .inr (4, [.int (nI n), .int (nI r), .ref a, .ref b])), (a, .inl (E.2.1 1, 24, .inl f)), (b, .inl (E.2.1 1, 96, .inl gg)), (qj, .inr (2, [.ref jt, .ref je, .ref ju, .ref ja])), (ju, .inl (E.2.1 1, 32, .inl ft2_61))]) (k' := 0) (n' := 0) C (run_V (As := [.ref la0m, .ref e_53]) (rest := []) C (l_build X.2.1 E ro la1 la0m e_53 la1m Pp_58 bn2_29 la1c la1f la1q cf2_59 ff2_60 la1fq la1n la1r la1x la1y la1gx la1gy br2_30 la0x la0y bf2_32 bg2_33 (vc j_52) (vr j_52) (vi j_52) (vs j_52) (vn j_52) (vp j_52) (by omega) (by omega) hev_55 h_62 (by omega) h_64 h_65) mi_X3_build wl_X2_49 rfl 0 3 rfl rfl rfl rfl rfl dX2_whole_87) (roK hro) [12, 13, 14, 1, 2, 3, 4, 15, 16, 17] [0, 5, 6, 7, 8, 9, 10, 11, 18, 19] (gqk (by eq_refl)) (gqk (by eq_refl)) (plk (by decide +kernel)) rfl (fun uz hw => ?_)
          refine ex5 hw ?_
          clear hw
          intro bn2_81 br2_82 fq2_83 bf2_84 bg2_85 hw
          refine an4 hw ?_
          clear hw
          intro he_90 h_86 h_87 h_88 hw
          have h_89 := hw
          clear hw
          subst he_90
          refine ww_eq (ws' := [(ja, .inl (E.2.1 5, 2, .inr (.inr (.inr (.inr fa))))), (la0, .inr (3, [.ref la0m, .int (nI Pp_13), .int (nI n), .ref la0c, .ref la0f, .ref la0q])), (la0c, .inl (E.2.1 1, 24, .inl cf2_14)), (la0f, .inl (E.2.1 1, 24, .inl ff2_15)), (la0q, .inl (E.2.1 1, 4, .inl fq2_31)), (h, .inr (4, [.int (nI n), .int (nI r), .ref a, .ref b])), (a, .inl (E.2.1 1, 24, .inl f)), (b, .inl (E.2.1 1, 96, .inl gg)), (qj, .inr (2, [.ref jt, .ref je, .ref ju, .ref ja])), (ju, .inl (E.2.1 1, 32, .inl ft2_61)), (la1, .inr (3, [.ref la1m, .int (nI Pp_58), .int (nI bn2_29), .ref la1c, .ref la1f, .ref la1q])), (la1c, .inl (E.2.1 1, 24, .inl cf2_59)), (la1f, .inl (E.2.1 1, 24, .inl ff2_60)), (la1q, .inl (E.2.1 1, 4, .inl fq2_83)), (la1m, .inr (4, [.int (nI bn2_81), .int (nI br2_82), .ref la1x, .ref la1y])), (la1x, .inl (E.2.1 1, 24, .inl bf2_84)), (la1y, .inl (E.2.1 1, 96, .inl bg2_85)), (la0m, .inr (4, [.int (nI bn2_29), .int (nI br2_30), .ref la0x, .ref la0y])), (la0x, .inl (E.2.1 1, 24, .inl bf2_32)), (la0y, .inl (E.2.1 1, 96, .inl bg2_33))]) ?_ rfl rfl rfl
          refine ww_aload_n C dX2_whole_90 4 rfl rfl ?_
          refine ww_get C fg_X2_29 8 rfl rfl dX2_whole_91 ?_
          refine ww_iload C dX2_whole_94 2 rfl ?_
          refine ww_ald (v := (some la1)) (t0 := 5) C 0 rfl rfl (vin rfl) k_fa_1 dX2_whole_96 ?_
          refine ww_eq (st' := [.ref la1]) ?_ rfl rfl rfl
          refine ww_get C fg_X2_53 10 rfl rfl dX2_whole_97 ?_
          refine ww_astore_n (lv' := [(3, .ref la1m), (5, .int 1), (6, .ref e_53), (4, .int 1), (0, .ref qj), (1, .ref h), (2, .ref sa)]) C dX2_whole_100 rfl rfl rfl ?_
          refine ww_iinc (j := 3) (v := 2) (lv' := [(4, .int 2), (3, .ref la1m), (5, .int 1), (6, .ref e_53), (0, .ref qj), (1, .ref h), (2, .ref sa)]) C dX2_whole_101 rfl rfl rfl rfl ?_
          refine ww_goto (tgt := 8) C dX2_whole_104 (by decide) ?_
          refine ww_iload C dX2_whole_8 0 rfl ?_
          refine ww_aload_n C dX2_whole_10 6 rfl rfl ?_
          refine ww_getR C hro fg_X2_35 i0 h0 rfl dX2_whole_11 ?_
          refine ww_icmp_ge (tgt := 107) C dX2_whole_14 (by decide) (fun c_91 => ?_) (fun c_91 => ?_)
          · have zc_91 : 2 ≥ ((na : Nat) : Int) := i_le (nI_toInt (n := na) (by omega)) rfl c_91
            refine ww_iload C dX2_whole_107 2 rfl ?_
            refine ww_if_eq_f (tgt := 121) C dX2_whole_109 (by decide) (by decide) ?_
            refine ww_aload_n C dX2_whole_112 4 rfl rfl ?_
            refine ww_aload_n C dX2_whole_113 1 rfl rfl ?_
            refine ww_aload_n C dX2_whole_114 6 rfl rfl ?_
            refine ww_ci (wr := [(ja, .inl (E.2.1 5, 2, .inr (.inr (.inr (.inr fa))))), (la0, .inr (3, [.ref la0m, .int (nI Pp_13), .int (nI n), .ref la0c, .ref la0f, .ref la0q])), (la0c, .inl (E.2.1 1, 24, .inl cf2_14)), (la0f, .inl (E.2.1 1, 24, .inl ff2_15)), (la0q, .inl (E.2.1 1, 4, .inl fq2_31)), (h, .inr (4, [.int (nI n), .int (nI r), .ref a, .ref b])), (a, .inl (E.2.1 1, 24, .inl f)), (b, .inl (E.2.1 1, 96, .inl gg)), (la1, .inr (3, [.ref la1m, .int (nI Pp_58), .int (nI bn2_29), .ref la1c, .ref la1f, .ref la1q])), (la1c, .inl (E.2.1 1, 24, .inl cf2_59)), (la1f, .inl (E.2.1 1, 24, .inl ff2_60)), (la1q, .inl (E.2.1 1, 4, .inl fq2_83)), (la0m, .inr (4, [.int (nI bn2_29), .int (nI br2_30), .ref la0x, .ref la0y])), (la0x, .inl (E.2.1 1, 24, .inl bf2_32)), (la0y, .inl (E.2.1 1, 96, .inl bg2_33))]) (k' := 0) (n' := 0) C (run_V (As := [.ref la1m, .ref sa]) (rest := []) C (j_plain X.2.1 E ro qj la1m sa jt je ju ja ft2_61 bn2_81 br2_82 la1x la1y bf2_84 bg2_85 (nn, so, sr, sf, tk, dp, nm, na) (by omega) (by omega) hsa (by rw [h_89]; exact cmp_wf)) mi_X2_plain wl_X2_57 rfl 0 2 rfl rfl rfl rfl rfl dX2_whole_115) (roK hro) [8, 9, 14, 15, 16] [0, 1, 2, 3, 4, 5, 6, 7, 10, 11, 12, 13, 17, 18, 19] rfl (gqk (by eq_refl)) (plk (by decide +kernel)) rfl (fun r_92 uz hw => ?_)
            refine ex1 hw ?_
            clear hw
            intro ft2_93 hw
            refine an1 hw ?_
            clear hw
            intro he_95 hw
            have h_94 := hw
            clear hw
            subst he_95
            refine ww_eq (ws' := [(ja, .inl (E.2.1 5, 2, .inr (.inr (.inr (.inr fa))))), (la0, .inr (3, [.ref la0m, .int (nI Pp_13), .int (nI n), .ref la0c, .ref la0f, .ref la0q])), (la0c, .inl (E.2.1 1, 24, .inl cf2_14)), (la0f, .inl (E.2.1 1, 24, .inl ff2_15)), (la0q, .inl (E.2.1 1, 4, .inl fq2_31)), (h, .inr (4, [.int (nI n), .int (nI r), .ref a, .ref b])), (a, .inl (E.2.1 1, 24, .inl f)), (b, .inl (E.2.1 1, 96, .inl gg)), (la1, .inr (3, [.ref la1m, .int (nI Pp_58), .int (nI bn2_29), .ref la1c, .ref la1f, .ref la1q])), (la1c, .inl (E.2.1 1, 24, .inl cf2_59)), (la1f, .inl (E.2.1 1, 24, .inl ff2_60)), (la1q, .inl (E.2.1 1, 4, .inl fq2_83)), (la0m, .inr (4, [.int (nI bn2_29), .int (nI br2_30), .ref la0x, .ref la0y])), (la0x, .inl (E.2.1 1, 24, .inl bf2_32)), (la0y, .inl (E.2.1 1, 96, .inl bg2_33)), (qj, .inr (2, [.ref jt, .ref je, .ref ju, .ref ja])), (ju, .inl (E.2.1 1, 32, .inl ft2_93)), (la1m, .inr (4, [.int (nI bn2_81), .int (nI br2_82), .ref la1x, .ref la1y])), (la1x, .inl (E.2.1 1, 24, .inl bf2_84)), (la1y, .inl (E.2.1 1, 96, .inl bg2_85))]) ?_ rfl rfl rfl
            refine ww_goto (tgt := 125) C dX2_whole_118 (by decide) ?_
            refine ww_istore (lv' := [(6, .int r_92), (4, .int 2), (3, .ref la1m), (5, .int 1), (0, .ref qj), (1, .ref h), (2, .ref sa)]) C dX2_whole_125 rfl rfl ?_
            refine ww_iload C dX2_whole_127 1 rfl ?_
            refine ww_iconst (v := 1) C dX2_whole_129 rfl ?_
            refine ww_isub (v := 1) C dX2_whole_130 (by decide) ?_
            refine ww_istore (lv' := [(7, .int 1), (6, .int r_92), (4, .int 2), (3, .ref la1m), (5, .int 1), (0, .ref qj), (1, .ref h), (2, .ref sa)]) C dX2_whole_131 rfl rfl ?_
            refine ww_iload C dX2_whole_133 0 rfl ?_
            refine ww_if_lt_f (tgt := 173) C dX2_whole_135 (by decide) (by decide) ?_
            refine ww_aload_n C dX2_whole_138 5 rfl rfl ?_
            refine ww_get C fg_X2_29 15 rfl rfl dX2_whole_139 ?_
            refine ww_iload C dX2_whole_142 0 rfl ?_
            refine ww_ald (v := (some la1)) (t0 := 5) C 0 rfl rfl (vin rfl) k_fa_1 dX2_whole_144 ?_
            refine ww_eq (st' := [.ref la1]) ?_ rfl rfl rfl
            refine ww_iload C dX2_whole_145 1 rfl ?_
            refine ww_aload_n C dX2_whole_147 5 rfl rfl ?_
            refine ww_get C fg_X2_19 15 rfl rfl dX2_whole_148 ?_
            refine ww_aload_n C dX2_whole_151 7 rfl rfl ?_
            refine ww_getR C hro fg_X2_39 i0 h0 rfl dX2_whole_152 ?_
            refine ww_iload C dX2_whole_155 0 rfl ?_
            refine ww_ialdR (v := (nI j_52)) C hro i3 h3 (vin rfl) ej_52 dX2_whole_157 ?_
            obtain ⟨e_96, he_97, hev_98⟩ := hall_ j_52 (by omega)
            refine ww_aldR (v := (some e_96)) (t0 := 4) C hro jei_ hje_ rfl (vp_in_nI (by omega) (by omega)) (ldn (by omega) he_97) dX2_whole_158 ?_
            obtain ⟨i0y_99, i1y_99, i2y_99, i3y_99, i4y_99, cay_99, cby_99, ccy_99, cdy_99, fiy_99, g0y_99, g1y_99, g2y_99, g3y_99, g4y_99, hcsy_99, hrcy_99, hfiy_99⟩ := id hev_98
            refine ww_eq (st' := [.ref e_96, .int r_92, .ref la1]) ?_ rfl rfl rfl
            refine ww_getR C hro fg_X2_67 i0y_99 g0y_99 rfl dX2_whole_159 ?_
            refine ww_ci (wr := [(ja, .inl (E.2.1 5, 2, .inr (.inr (.inr (.inr fa))))), (la0, .inr (3, [.ref la0m, .int (nI Pp_13), .int (nI n), .ref la0c, .ref la0f, .ref la0q])), (la0c, .inl (E.2.1 1, 24, .inl cf2_14)), (la0f, .inl (E.2.1 1, 24, .inl ff2_15)), (la0q, .inl (E.2.1 1, 4, .inl fq2_31)), (h, .inr (4, [.int (nI n), .int (nI r), .ref a, .ref b])), (a, .inl (E.2.1 1, 24, .inl f)), (b, .inl (E.2.1 1, 96, .inl gg)), (la1q, .inl (E.2.1 1, 4, .inl fq2_83)), (la0m, .inr (4, [.int (nI bn2_29), .int (nI br2_30), .ref la0x, .ref la0y])), (la0x, .inl (E.2.1 1, 24, .inl bf2_32)), (la0y, .inl (E.2.1 1, 96, .inl bg2_33)), (qj, .inr (2, [.ref jt, .ref je, .ref ju, .ref ja])), (ju, .inl (E.2.1 1, 32, .inl ft2_93)), (la1m, .inr (4, [.int (nI bn2_81), .int (nI br2_82), .ref la1x, .ref la1y])), (la1x, .inl (E.2.1 1, 24, .inl bf2_84)), (la1y, .inl (E.2.1 1, 96, .inl bg2_85))]) (k' := 0) (n' := 0) C (run_V (As := [.int r_92, .int (nI (vr j_52))]) (rest := []) C (l_comingTo X.2.1 E ro la1 r_92 (vr j_52) la1m Pp_58 bn2_29 la1c la1f la1q cf2_59 ff2_60 (lyP (am bn2_29 br2_30 bf2_32 bg2_33) ((vc j_52), (vr j_52), (vi j_52), (vs j_52), (vn j_52), (vp j_52))) (by omega) (by omega) h_62 h_65 (by omega)) mi_X3_comingTo wl_X2_70 rfl 0 3 rfl rfl rfl rfl rfl dX2_whole_162) (roK hro) [8, 9, 10] [0, 1, 2, 3, 4, 5, 6, 7, 11, 12, 13, 14, 15, 16, 17, 18, 19] rfl (gqk (by eq_refl)) (plk (by decide +kernel)) rfl (fun r_100 uz hw => ?_)
            refine an1 hw ?_
            clear hw
            intro he_102 hw
            have h_101 := hw
            clear hw
            subst he_102
            refine ww_eq (ws' := [(ja, .inl (E.2.1 5, 2, .inr (.inr (.inr (.inr fa))))), (la0, .inr (3, [.ref la0m, .int (nI Pp_13), .int (nI n), .ref la0c, .ref la0f, .ref la0q])), (la0c, .inl (E.2.1 1, 24, .inl cf2_14)), (la0f, .inl (E.2.1 1, 24, .inl ff2_15)), (la0q, .inl (E.2.1 1, 4, .inl fq2_31)), (h, .inr (4, [.int (nI n), .int (nI r), .ref a, .ref b])), (a, .inl (E.2.1 1, 24, .inl f)), (b, .inl (E.2.1 1, 96, .inl gg)), (la1q, .inl (E.2.1 1, 4, .inl fq2_83)), (la0m, .inr (4, [.int (nI bn2_29), .int (nI br2_30), .ref la0x, .ref la0y])), (la0x, .inl (E.2.1 1, 24, .inl bf2_32)), (la0y, .inl (E.2.1 1, 96, .inl bg2_33)), (qj, .inr (2, [.ref jt, .ref je, .ref ju, .ref ja])), (ju, .inl (E.2.1 1, 32, .inl ft2_93)), (la1m, .inr (4, [.int (nI bn2_81), .int (nI br2_82), .ref la1x, .ref la1y])), (la1x, .inl (E.2.1 1, 24, .inl bf2_84)), (la1y, .inl (E.2.1 1, 96, .inl bg2_85)), (la1, .inr (3, [.ref la1m, .int (nI Pp_58), .int (nI bn2_29), .ref la1c, .ref la1f, .ref la1q])), (la1c, .inl (E.2.1 1, 24, .inl cf2_59)), (la1f, .inl (E.2.1 1, 24, .inl ff2_60))]) ?_ rfl rfl rfl
            refine ww_istore (lv' := [(6, .int r_100), (7, .int 1), (4, .int 2), (3, .ref la1m), (5, .int 1), (0, .ref qj), (1, .ref h), (2, .ref sa)]) C dX2_whole_165 rfl rfl ?_
            refine ww_iinc (j := 1) (v := 0) (lv' := [(7, .int 0), (6, .int r_100), (4, .int 2), (3, .ref la1m), (5, .int 1), (0, .ref qj), (1, .ref h), (2, .ref sa)]) C dX2_whole_167 rfl rfl rfl rfl ?_
            refine ww_goto (tgt := 133) C dX2_whole_170 (by decide) ?_
            refine ww_iload C dX2_whole_133 0 rfl ?_
            refine ww_if_lt_f (tgt := 173) C dX2_whole_135 (by decide) (by decide) ?_
            refine ww_aload_n C dX2_whole_138 5 rfl rfl ?_
            refine ww_get C fg_X2_29 12 rfl rfl dX2_whole_139 ?_
            refine ww_iload C dX2_whole_142 0 rfl ?_
            refine ww_ald (v := (some la0)) (t0 := 5) C 0 rfl rfl (vin rfl) k_fa_0 dX2_whole_144 ?_
            refine ww_eq (st' := [.ref la0]) ?_ rfl rfl rfl
            refine ww_iload C dX2_whole_145 1 rfl ?_
            refine ww_aload_n C dX2_whole_147 5 rfl rfl ?_
            refine ww_get C fg_X2_19 12 rfl rfl dX2_whole_148 ?_
            refine ww_aload_n C dX2_whole_151 7 rfl rfl ?_
            refine ww_getR C hro fg_X2_39 i0 h0 rfl dX2_whole_152 ?_
            refine ww_iload C dX2_whole_155 0 rfl ?_
            refine ww_ialdR (v := (nI j_7)) C hro i3 h3 (vin rfl) ej_7 dX2_whole_157 ?_
            obtain ⟨e_103, he_104, hev_105⟩ := hall_ j_7 (by omega)
            refine ww_aldR (v := (some e_103)) (t0 := 4) C hro jei_ hje_ rfl (vp_in_nI (by omega) (by omega)) (ldn (by omega) he_104) dX2_whole_158 ?_
            obtain ⟨i0y_106, i1y_106, i2y_106, i3y_106, i4y_106, cay_106, cby_106, ccy_106, cdy_106, fiy_106, g0y_106, g1y_106, g2y_106, g3y_106, g4y_106, hcsy_106, hrcy_106, hfiy_106⟩ := id hev_105
            refine ww_eq (st' := [.ref e_103, .int r_100, .ref la0]) ?_ rfl rfl rfl
            refine ww_getR C hro fg_X2_67 i0y_106 g0y_106 rfl dX2_whole_159 ?_
            refine ww_ci (wr := [(ja, .inl (E.2.1 5, 2, .inr (.inr (.inr (.inr fa))))), (la0q, .inl (E.2.1 1, 4, .inl fq2_31)), (h, .inr (4, [.int (nI n), .int (nI r), .ref a, .ref b])), (a, .inl (E.2.1 1, 24, .inl f)), (b, .inl (E.2.1 1, 96, .inl gg)), (la1q, .inl (E.2.1 1, 4, .inl fq2_83)), (la0m, .inr (4, [.int (nI bn2_29), .int (nI br2_30), .ref la0x, .ref la0y])), (la0x, .inl (E.2.1 1, 24, .inl bf2_32)), (la0y, .inl (E.2.1 1, 96, .inl bg2_33)), (qj, .inr (2, [.ref jt, .ref je, .ref ju, .ref ja])), (ju, .inl (E.2.1 1, 32, .inl ft2_93)), (la1m, .inr (4, [.int (nI bn2_81), .int (nI br2_82), .ref la1x, .ref la1y])), (la1x, .inl (E.2.1 1, 24, .inl bf2_84)), (la1y, .inl (E.2.1 1, 96, .inl bg2_85)), (la1, .inr (3, [.ref la1m, .int (nI Pp_58), .int (nI bn2_29), .ref la1c, .ref la1f, .ref la1q])), (la1c, .inl (E.2.1 1, 24, .inl cf2_59)), (la1f, .inl (E.2.1 1, 24, .inl ff2_60))]) (k' := 0) (n' := 0) C (run_V (As := [.int r_100, .int (nI (vr j_7))]) (rest := []) C (l_comingTo X.2.1 E ro la0 r_100 (vr j_7) la0m Pp_13 n la0c la0f la0q cf2_14 ff2_15 (lyP (am n r f gg) ((vc j_7), (vr j_7), (vi j_7), (vs j_7), (vn j_7), (vp j_7))) (by omega) (by omega) h_17 h_20 (by omega)) mi_X3_comingTo wl_X2_70 rfl 0 3 rfl rfl rfl rfl rfl dX2_whole_162) (roK hro) [1, 2, 3] [0, 4, 5, 6, 7, 8, 9, 10, 11, 12, 13, 14, 15, 16, 17, 18, 19] rfl (gqk (by eq_refl)) (plk (by decide +kernel)) rfl (fun r_107 uz hw => ?_)
            refine an1 hw ?_
            clear hw
            intro he_109 hw
            have h_108 := hw
            clear hw
            subst he_109
            refine ww_eq (ws' := [(ja, .inl (E.2.1 5, 2, .inr (.inr (.inr (.inr fa))))), (la0q, .inl (E.2.1 1, 4, .inl fq2_31)), (h, .inr (4, [.int (nI n), .int (nI r), .ref a, .ref b])), (a, .inl (E.2.1 1, 24, .inl f)), (b, .inl (E.2.1 1, 96, .inl gg)), (la1q, .inl (E.2.1 1, 4, .inl fq2_83)), (la0m, .inr (4, [.int (nI bn2_29), .int (nI br2_30), .ref la0x, .ref la0y])), (la0x, .inl (E.2.1 1, 24, .inl bf2_32)), (la0y, .inl (E.2.1 1, 96, .inl bg2_33)), (qj, .inr (2, [.ref jt, .ref je, .ref ju, .ref ja])), (ju, .inl (E.2.1 1, 32, .inl ft2_93)), (la1m, .inr (4, [.int (nI bn2_81), .int (nI br2_82), .ref la1x, .ref la1y])), (la1x, .inl (E.2.1 1, 24, .inl bf2_84)), (la1y, .inl (E.2.1 1, 96, .inl bg2_85)), (la1, .inr (3, [.ref la1m, .int (nI Pp_58), .int (nI bn2_29), .ref la1c, .ref la1f, .ref la1q])), (la1c, .inl (E.2.1 1, 24, .inl cf2_59)), (la1f, .inl (E.2.1 1, 24, .inl ff2_60)), (la0, .inr (3, [.ref la0m, .int (nI Pp_13), .int (nI n), .ref la0c, .ref la0f, .ref la0q])), (la0c, .inl (E.2.1 1, 24, .inl cf2_14)), (la0f, .inl (E.2.1 1, 24, .inl ff2_15))]) ?_ rfl rfl rfl
            refine ww_istore (lv' := [(6, .int r_107), (7, .int 0), (4, .int 2), (3, .ref la1m), (5, .int 1), (0, .ref qj), (1, .ref h), (2, .ref sa)]) C dX2_whole_165 rfl rfl ?_
            refine ww_iinc (j := 1) (v := (-1)) (lv' := [(7, .int (-1)), (6, .int r_107), (4, .int 2), (3, .ref la1m), (5, .int 1), (0, .ref qj), (1, .ref h), (2, .ref sa)]) C dX2_whole_167 rfl rfl rfl rfl ?_
            refine ww_goto (tgt := 133) C dX2_whole_170 (by decide) ?_
            refine ww_iload C dX2_whole_133 0 rfl ?_
            refine ww_if_lt_t (tgt := 173) C dX2_whole_135 (by decide) (by decide) ?_
            refine ww_iload C dX2_whole_173 1 rfl ?_
            exact ww_iret (u := [(qj, .inr (2, [.ref jt, .ref je, .ref ju, .ref ja])), (ju, .inl (E.2.1 1, 32, .inl ft2_93)), (ja, .inl (E.2.1 5, 2, .inr (.inr (.inr (.inr fa))))), (la0, .inr (3, [.ref la0m, .int (nI Pp_13), .int (nI n), .ref la0c, .ref la0f, .ref la0q])), (la0c, .inl (E.2.1 1, 24, .inl cf2_14)), (la0f, .inl (E.2.1 1, 24, .inl ff2_15)), (la0q, .inl (E.2.1 1, 4, .inl fq2_31)), (la0m, .inr (4, [.int (nI bn2_29), .int (nI br2_30), .ref la0x, .ref la0y])), (la0x, .inl (E.2.1 1, 24, .inl bf2_32)), (la0y, .inl (E.2.1 1, 96, .inl bg2_33)), (la1, .inr (3, [.ref la1m, .int (nI Pp_58), .int (nI bn2_29), .ref la1c, .ref la1f, .ref la1q])), (la1c, .inl (E.2.1 1, 24, .inl cf2_59)), (la1f, .inl (E.2.1 1, 24, .inl ff2_60)), (la1q, .inl (E.2.1 1, 4, .inl fq2_83)), (la1m, .inr (4, [.int (nI bn2_81), .int (nI br2_82), .ref la1x, .ref la1y])), (la1x, .inl (E.2.1 1, 24, .inl bf2_84)), (la1y, .inl (E.2.1 1, 96, .inl bg2_85)), (h, .inr (4, [.int (nI n), .int (nI r), .ref a, .ref b])), (a, .inl (E.2.1 1, 24, .inl f)), (b, .inl (E.2.1 1, 96, .inl gg))]) C hT [9, 10, 0, 17, 18, 19, 1, 6, 7, 8, 14, 15, 16, 5, 11, 12, 13, 2, 3, 4] (gqk (by eq_refl)) (ndk (by decide +kernel)) rfl rfl dX2_whole_175 (⟨ft2_93, (nI Pp_13), (nI n), bn2_29, br2_30, cf2_14, ff2_15, fq2_31, bf2_32, bg2_33, (nI Pp_58), (nI bn2_29), bn2_81, br2_82, cf2_59, ff2_60, fq2_83, bf2_84, bg2_85, rfl, (by first | assumption | omega | decide), (by first | assumption | omega | decide), (by first | assumption | omega | decide), (by first | assumption | omega | decide), (w_2 (S := (nn, so, sr, sf, tk, dp, nm, na)) (ev := (ev6 vc vr vi vs vn vp)) (show na = 2 by omega) (cN_of ej_7 (by omega)) (cN_of ej_52 (by omega)) (show lyC (am n r f gg) ((ev6 vc vr vi vs vn vp) j_7) ≤ 24 from (show Pp_13 = lyC (am n r f gg) ((ev6 vc vr vi vs vn vp) j_7) from h_21) ▸ (show Pp_13 ≤ 24 by omega)) (show vr j_7 < 4 by have h9 := hrcy_106; omega) ((show (am bn2_29 br2_30 bf2_32 bg2_33) = aLay (am n r f gg) ((ev6 vc vr vi vs vn vp) j_7) from h_37) ▸ (show lyC (am bn2_29 br2_30 bf2_32 bg2_33) ((ev6 vc vr vi vs vn vp) j_52) ≤ 24 from (show Pp_58 = lyC (am bn2_29 br2_30 bf2_32 bg2_33) ((ev6 vc vr vi vs vn vp) j_52) from h_66) ▸ (show Pp_58 ≤ 24 by omega))) (show vr j_52 < 4 by have h9 := hrcy_99; omega) ((show (am bn2_29 br2_30 bf2_32 bg2_33) = aLay (am n r f gg) ((ev6 vc vr vi vs vn vp) j_7) from h_37) ▸ (show (am bn2_81 br2_82 bf2_84 bg2_85) = aLay (am bn2_29 br2_30 bf2_32 bg2_33) ((ev6 vc vr vi vs vn vp) j_52) from h_89) ▸ h_94) ((show (am bn2_29 br2_30 bf2_32 bg2_33) = aLay (am n r f gg) ((ev6 vc vr vi vs vn vp) j_7) from h_37) ▸ (show BS _ (vBack (am bn2_29 br2_30 bf2_32 bg2_33) ((ev6 vc vr vi vs vn vp) j_52) (bt _)) from h_101)) h_108)⟩)
          · have zc_91 : 2 < ((na : Nat) : Int) := i_nle (nI_toInt (n := na) (by omega)) rfl c_91
            omega
end
section
/-! heaps of worlds: the least world of each one's heap -/
def RNG (N B : Nat) (f : Nat → Int32) : Prop := ∀ i, i < N → ∃ j : Nat, j < B ∧ f i = nI j
theorem RNG.put {N B k t : Nat} {f g : Nat → Int32} (h : RNG N B f) (ht : t < B) (e : upd f k (nI t) = g) : RNG N B g := by
  intro i hi
  rw [← e]
  by_cases hk : i = k
  · rw [hk, pk_us]; exact ⟨t, ht, rfl⟩
  · rw [pk_un hk]; exact h i hi
theorem RNG.zero {N B : Nat} (h : 0 < B) : RNG N B (fun _ => 0) := fun i _ => ⟨0, h, rfl⟩
/-- each one's least is no greater, and its own least -/
def LI (n : Nat) (f : Nat → Int32) : Prop := ∀ i, i < n → ∃ j : Nat, j ≤ i ∧ f i = nI j ∧ f j = nI j
def fxM (n : Nat) (f g : Nat → Int32) (i : Nat) : Int32 := if i < n then f i else g (i - n)
theorem fxM_l {n i : Nat} {f g : Nat → Int32} (h : i < n) : f i = fxM n f g i := by unfold fxM; rw [if_pos h]
theorem fxM_r {n i : Nat} {f g : Nat → Int32} (h : n ≤ i) : g (i - n) = fxM n f g i := by unfold fxM; rw [if_neg (by omega)]
def HBx (n : Nat) (fx fl : Nat → Int32) : Prop := ∀ i, i < n → ∃ j : Nat, j ≤ i ∧ fl i = nI j ∧ fx j = fx i ∧ ∀ v, v < j → fx v ≠ fx i
theorem HBx.zero {fx fl : Nat → Int32} : HBx 0 fx fl := fun v h => absurd h (Nat.not_lt_zero _)
theorem HBx.ext {i j : Nat} {fx fl g : Nat → Int32} (h : HBx i fx fl) (hj : j ≤ i) (hv : ∀ v, v < j → fx v ≠ fx i) (he : fx j = fx i) (e : upd fl i (nI j) = g) : HBx (i + 1) fx g := by
  intro m hm
  rw [← e]
  by_cases hk : m = i
  · rw [hk, pk_us]; exact ⟨j, hj, rfl, he, hv⟩
  · rw [pk_un hk]; exact h m (by omega)
theorem HBx.LI {n : Nat} {fx fl : Nat → Int32} (h : HBx n fx fl) (hn : n ≤ 48) : LI n fl := by
  intro i hi
  obtain ⟨j, h1, h2, h3, h4⟩ := h i hi
  obtain ⟨j2, g1, g2, g3, g4⟩ := h j (by omega)
  have e : j2 = j := by
    rcases Nat.lt_or_ge j2 j with q | q
    · exact absurd (g3.trans h3) (h4 j2 q)
    · omega
  rw [e] at g2
  exact ⟨j, h1, h2, g2⟩
def ALx (fl : Nat → Int32) (fs : Nat → Int64) (i j : Nat) : Prop := fl i = fl j ∧ ∀ k, k < 4 → fs (k * 2 * 24 + i) = fs (k * 2 * 24 + j)
theorem ALx.rf {fl : Nat → Int32} {fs : Nat → Int64} {i : Nat} : ALx fl fs i i := ⟨rfl, fun _ _ => rfl⟩
def SEx (fs : Nat → Int64) (i j k : Nat) : Prop := ∀ m, m < k → fs (m * 2 * 24 + i) = fs (m * 2 * 24 + j)
theorem SEx.zero {fs : Nat → Int64} {i j : Nat} : SEx fs i j 0 := fun v h => absurd h (Nat.not_lt_zero _)
theorem SEx.ext {fs : Nat → Int64} {i j k : Nat} {x y : Int64} (h : SEx fs i j k) (ex : fs (k * 2 * 24 + i) = x) (ey : fs (k * 2 * 24 + j) = y) (e : x.toInt = y.toInt) : SEx fs i j (k + 1) := by
  intro m hm
  by_cases hk : m = k
  · rw [hk, ex, ey]; exact Int64.toInt_inj.mp e
  · exact h m (by omega)
theorem ALx.no1 {fl : Nat → Int32} {fs : Nat → Int64} {i j : Nat} {x y : Int32} (ex : fl i = x) (ey : fl j = y) (h : ¬ x = y) : ¬ ALx fl fs i j := fun q => h (by rw [← ex, ← ey]; exact q.1)
theorem ALx.no2 {fl : Nat → Int32} {fs : Nat → Int64} {i j k : Nat} {x y : Int64} (hk : k < 4) (ex : fs (k * 2 * 24 + i) = x) (ey : fs (k * 2 * 24 + j) = y) (h : x.toInt ≠ y.toInt) : ¬ ALx fl fs i j := fun q => h (by rw [← ex, ← ey, q.2 k hk])
def HPx (n : Nat) (fl : Nat → Int32) (fs : Nat → Int64) (fn : Nat → Int32) : Prop := ∀ i, i < n → ∃ lo j : Nat, fl i = nI lo ∧ lo ≤ j ∧ j ≤ i ∧ fn i = nI j ∧ ALx fl fs i j ∧ ∀ v, lo ≤ v → v < j → ¬ ALx fl fs i v
theorem HPx.zero {fl : Nat → Int32} {fs : Nat → Int64} {fn : Nat → Int32} : HPx 0 fl fs fn := fun v h => absurd h (Nat.not_lt_zero _)
theorem HPx.ext {i lo j : Nat} {fl : Nat → Int32} {fs : Nat → Int64} {fn g : Nat → Int32} (h : HPx i fl fs fn) (hl : fl i = nI lo) (h1 : lo ≤ j) (h2 : j ≤ i) (ha : ALx fl fs i j) (hv : ∀ v, lo ≤ v → v < j → ¬ ALx fl fs i v) (e : upd fn i (nI j) = g) : HPx (i + 1) fl fs g := by
  intro m hm
  rw [← e]
  by_cases hk : m = i
  · rw [hk, pk_us]; exact ⟨lo, j, hl, h1, h2, rfl, ha, hv⟩
  · rw [pk_un hk]; exact h m (by omega)
theorem HPx.LI {n : Nat} {fl : Nat → Int32} {fs : Nat → Int64} {fn : Nat → Int32} (h : HPx n fl fs fn) (hn : n ≤ 48) : LI n fn := by
  intro i hi
  obtain ⟨lo, j, h0, h1, h2, h3, h4, h5⟩ := h i hi
  obtain ⟨lo2, j2, g0, g1, g2, g3, g4, g5⟩ := h j (by omega)
  have el : lo2 = lo := by
    have := g0.symm.trans (h4.1.symm.trans h0)
    exact (nI_eq (by omega) (by omega)).mp this
  have e : j2 = j := by
    rcases Nat.lt_or_ge j2 j with q | q
    · exact absurd (show ALx fl fs i j2 from ⟨h4.1.trans g4.1, fun k hk => (h4.2 k hk).trans (g4.2 k hk)⟩) (h5 j2 (by omega) q)
    · omega
  rw [e] at g3
  exact ⟨j, h2, h3, g3⟩
def CPx (i : Nat) (fn f : Nat → Int32) : Prop := ∀ v, v < i → f v = fn v
theorem CPx.zero {fn f : Nat → Int32} : CPx 0 fn f := fun v h => absurd h (Nat.not_lt_zero _)
theorem CPx.ext {i : Nat} {fn f g : Nat → Int32} {x : Int32} (h : CPx i fn f) (ex : fn i = x) (e : upd f i x = g) : CPx (i + 1) fn g := by
  intro v hv
  rw [← e]
  by_cases hk : v = i
  · rw [hk, pk_us]; exact ex.symm
  · rw [pk_un hk]; exact h v (by omega)
theorem LI.cp {n : Nat} {fn f : Nat → Int32} (h : LI n fn) (hc : CPx n fn f) : LI n f := by
  intro i hi
  obtain ⟨j, h1, h2, h3⟩ := h i hi
  exact ⟨j, h1, (hc i hi).trans h2, (hc j (by omega)).trans h3⟩
theorem LI.at {n i : Nat} {f : Nat → Int32} (h : LI n f) (hi : i < n) : ∃ j : Nat, j ≤ i ∧ f i = nI j := by
  obtain ⟨j, h1, h2, -⟩ := h i hi; exact ⟨j, h1, h2⟩
theorem HPx.at {n i : Nat} {fl : Nat → Int32} {fs : Nat → Int64} {fn : Nat → Int32} (h : HPx n fl fs fn) (hi : i < n) : ∃ j : Nat, j ≤ i ∧ fn i = nI j := by
  obtain ⟨lo, j, -, -, h2, h3, -⟩ := h i hi; exact ⟨j, h2, h3⟩
def MDx (fl : Nat → Int32) (i c : Nat) (fn : Nat → Int32) : Prop := ∀ v, v < i → fl v = nI v → ∃ t : Nat, t < c ∧ fn v = nI t
theorem MDx.zero {fl fn : Nat → Int32} {c : Nat} : MDx fl 0 c fn := fun v h => absurd h (Nat.not_lt_zero _)
theorem MDx.yes {fl fn g : Nat → Int32} {i c : Nat} (h : MDx fl i c fn) (e : upd fn i (nI c) = g) : MDx fl (i + 1) (c + 1) g := by
  intro v hv hf
  rw [← e]
  by_cases hk : v = i
  · rw [hk, pk_us]; exact ⟨c, by omega, rfl⟩
  · rw [pk_un hk]; obtain ⟨t, h1, h2⟩ := h v (by omega) hf; exact ⟨t, by omega, h2⟩
theorem MDx.no {fl fn : Nat → Int32} {i c : Nat} {x : Int32} (h : MDx fl i c fn) (ex : fl i = x) (hn : ¬ x = nI i) : MDx fl (i + 1) c fn := by
  intro v hv hf
  by_cases hk : v = i
  · rw [hk] at hf; exact absurd (ex.symm.trans hf) hn
  · exact h v (by omega) hf
/-! heaps of worlds, round by round: of one model, or of two beside one another -/
abbrev CMl : Type := Nat × (Nat → Int32) × (Nat → Nat → Nat → Bool)
def cm1 (a : AM) : CMl := (a.1, a.2.2.1, a.2.2.2)
def cm2 (a b : AM) : CMl := (a.1 + b.1, fun i => if i < a.1 then a.2.2.1 i else b.2.2.1 (i - a.1), fun k i j => if i < a.1 then a.2.2.2 k i j else (decide (a.1 ≤ j) && b.2.2.2 k (i - a.1) (j - a.1)))
def lst (p : Nat → Bool) : Nat → Nat → Nat
  | 0, j => j
  | f + 1, j => if p j = true then j else lst p f (j + 1)
theorem lst_u {p : Nat → Bool} : ∀ (f j i : Nat), j ≤ i → i ≤ j + f → (∀ v, j ≤ v → v < i → p v = false) → p i = true → lst p f j = i
  | 0, j, i, h1, h2, _, _ => by show j = i; omega
  | f + 1, j, i, h1, h2, h3, h4 => by
    show (if p j = true then j else lst p f (j + 1)) = i
    by_cases q : j = i
    · rw [q, if_pos h4]
    · rw [if_neg (by rw [h3 j (Nat.le_refl _) (by omega)]; decide)]
      exact lst_u f (j + 1) i (by omega) (by omega) (fun v a b => h3 v (by omega) b) h4
theorem lst_in' {p : Nat → Bool} : ∀ (f j : Nat), (∃ i, j ≤ i ∧ i ≤ j + f ∧ p i = true) → j ≤ lst p f j ∧ lst p f j ≤ j + f ∧ p (lst p f j) = true ∧ ∀ v, j ≤ v → v < lst p f j → p v = false
  | 0, j, ⟨i, h1, h2, h3⟩ => by
    have e : i = j := by omega
    subst e
    exact ⟨Nat.le_refl _, Nat.le_refl _, h3, fun v a b => by have b2 : v < i := b; omega⟩
  | f + 1, j, ⟨i, h1, h2, h3⟩ => by
    show j ≤ (if p j = true then j else lst p f (j + 1)) ∧ (if p j = true then j else lst p f (j + 1)) ≤ j + (f + 1) ∧ p (if p j = true then j else lst p f (j + 1)) = true ∧ ∀ v, j ≤ v → v < (if p j = true then j else lst p f (j + 1)) → p v = false
    by_cases q : p j = true
    · rw [if_pos q]; exact ⟨Nat.le_refl _, by omega, q, fun v a b => by omega⟩
    · rw [if_neg q]
      have hne : i ≠ j := fun e => q (by rw [← e]; exact h3)
      have h4 := lst_in' f (j + 1) ⟨i, by omega, by omega, h3⟩
      refine ⟨by omega, by omega, h4.2.2.1, fun v a b => ?_⟩
      by_cases z : v = j
      · rw [z]; rw [Bool.not_eq_true] at q; exact q
      · exact h4.2.2.2 v (by omega) b
theorem lst_in {p : Nat → Bool} (i : Nat) (h : p i = true) : lst p i 0 ≤ i ∧ p (lst p i 0) = true ∧ ∀ v, v < lst p i 0 → p v = false := by
  have h1 := lst_in' (p := p) i 0 ⟨i, Nat.zero_le _, by omega, h⟩
  exact ⟨by omega, h1.2.2.1, fun v hv => h1.2.2.2 v (Nat.zero_le _) hv⟩
/-- the names of the heaps that a row leads to -/
def HSt (c : CMl) (rk : Nat → Nat) (k i : Nat) : Nat → Bool := fun t => anyN (fun v => c.2.2 k i v && decide (rk v = t)) 48
/-- both are of one heap, and lead to the same heaps: as a test -/
def alkB (c : CMl) (rk : Nat → Nat) (i j : Nat) : Bool := decide (rk j = rk i) && !anyN (fun k => anyN (fun t => HSt c rk k j t != HSt c rk k i t) 48) 4
def rkS (c : CMl) (rk : Nat → Nat) (i : Nat) : Nat := lst (alkB c rk i) i 0
def rk0 (c : CMl) (i : Nat) : Nat := lst (fun j => decide (c.2.1 j = c.2.1 i)) i 0
/-- the least world of the heap, by rounds -/
def rk (c : CMl) : Nat → Nat → Nat
  | 0 => rk0 c
  | r + 1 => rkS c (rk c r)
/-- both are of one heap, and lead to the same heaps -/
def ALK (c : CMl) (rk : Nat → Nat) (i j : Nat) : Prop := rk j = rk i ∧ ∀ k, k < 4 → ∀ t, t < 48 → HSt c rk k j t = HSt c rk k i t
theorem ALK.dec {c : CMl} {rk : Nat → Nat} {i j : Nat} : alkB c rk i j = true ↔ ALK c rk i j := by
  unfold alkB
  rw [Bool.and_eq_true, decide_eq_true_eq, Bool.not_eq_true']
  constructor
  · rintro ⟨h1, h2⟩
    refine ⟨h1, fun k hk t ht => ?_⟩
    have h3 : anyN (fun t => HSt c rk k j t != HSt c rk k i t) 48 = false := anyN_f (p := fun k => anyN (fun t => HSt c rk k j t != HSt c rk k i t) 48) h2 hk
    have h4 : (HSt c rk k j t != HSt c rk k i t) = false := anyN_f h3 ht
    simpa using h4
  · rintro ⟨h1, h2⟩
    refine ⟨h1, anyN_no (fun k hk => anyN_no (fun t ht => ?_))⟩
    show (HSt c rk k j t != HSt c rk k i t) = false
    rw [h2 k hk t ht]; cases HSt c rk k i t <;> rfl
theorem rkS_u {c : CMl} {rk : Nat → Nat} {i j : Nat} (hj : j ≤ i) (hv : ∀ v, v < j → ¬ ALK c rk i v) (ha : ALK c rk i j) : rkS c rk i = j :=
  lst_u i 0 j (Nat.zero_le _) (by omega) (fun v _ h => by
    have h1 := hv v h
    rw [← ALK.dec, Bool.not_eq_true] at h1; exact h1) (ALK.dec.mpr ha)
theorem rk0_u {c : CMl} {i j : Nat} (hj : j ≤ i) (hv : ∀ v, v < j → c.2.1 v ≠ c.2.1 i) (ha : c.2.1 j = c.2.1 i) : rk0 c i = j :=
  lst_u i 0 j (Nat.zero_le _) (by omega) (fun v _ h => decide_eq_false (hv v h)) (decide_eq_true ha)
/-- the heaps of a round, as they are held -/
def RKx (c : CMl) (n r : Nat) (fl : Nat → Int32) : Prop := ∀ i, i < n → fl i = nI (rk c r i)
theorem rk_le (c : CMl) : ∀ r i, rk c r i ≤ i ∧ rk c r (rk c r i) = rk c r i
  | 0, i => by
    have h := lst_in (p := fun j => decide (c.2.1 j = c.2.1 i)) i (decide_eq_true rfl)
    refine ⟨h.1, ?_⟩
    have h2 := of_decide_eq_true h.2.1
    show rk0 c (rk0 c i) = rk0 c i
    exact rk0_u (Nat.le_refl _) (fun v hv e => by
      have h3 := h.2.2 v hv
      rw [decide_eq_false_iff_not] at h3
      exact h3 (e.trans h2)) rfl
  | r + 1, i => by
    have h := lst_in (p := alkB c (rk c r) i) i (ALK.dec.mpr ⟨rfl, fun _ _ _ _ => rfl⟩)
    refine ⟨h.1, ?_⟩
    have h2 := ALK.dec.mp h.2.1
    show rkS c (rk c r) (rkS c (rk c r) i) = rkS c (rk c r) i
    exact rkS_u (Nat.le_refl _) (fun v hv e => by
      have h3 := h.2.2 v hv
      rw [← Bool.not_eq_true, ALK.dec] at h3
      exact h3 ⟨e.1.trans h2.1, fun k hk t ht => (e.2 k hk t ht).trans (h2.2 k hk t ht)⟩) ⟨rfl, fun _ _ _ _ => rfl⟩
/-! long rows of bits -/
def lb (x : Int64) (i : Nat) : Bool := x.toBitVec.getLsbD i
def LSx (x : Int64) (P : Nat → Bool) : Prop := ∀ i, i < 64 → lb x i = (decide (i < 48) && P i)
theorem LSx.z : LSx 0 (fun _ => false) := fun i _ => by
  rw [Bool.and_false]; exact BitVec.getLsbD_zero
theorem LSx.cg {x : Int64} {P Q : Nat → Bool} (h : LSx x P) (e : ∀ i, i < 48 → P i = Q i) : LSx x Q := fun i hi => by
  rw [h i hi]
  by_cases q : i < 48
  · rw [e i q]
  · rw [decide_eq_false q, Bool.false_and, Bool.false_and]
theorem LSx.eq {x y : Int64} {P Q : Nat → Bool} (h : LSx x P) (k : LSx y Q) : x = y ↔ ∀ t, t < 48 → P t = Q t := by
  constructor
  · intro e t ht
    have h1 := h t (by omega)
    have h2 := k t (by omega)
    rw [decide_eq_true ht, Bool.true_and] at h1 h2
    rw [← h1, ← h2, e]
  · intro e
    apply Int64.toBitVec_inj.mp
    refine BitVec.eq_of_getLsbD_eq (fun i hi => ?_)
    have h1 := h i hi
    have h2 := (k.cg (fun t ht => (e t ht).symm)) i hi
    exact h1.trans h2.symm
theorem l1_b : ∀ j, j < 48 → ((1 : Int64) <<< ((nI j).toInt64 &&& 63)).toBitVec = BitVec.ofNat 64 (2 ^ j) := by decide +kernel
theorem LSx.or1 {x y z : Int64} {P : Nat → Bool} {t : Nat} (h : LSx x P) (ht : t < 48) (e1 : (1 : Int64) <<< ((nI t).toInt64 &&& 63) = y) (e : x ||| y = z) : LSx z (fun i => P i || decide (i = t)) := by
  intro i hi
  have hy : lb y i = decide (i = t) := by
    unfold lb
    rw [← e1, l1_b t ht, BitVec.getLsbD_ofNat, Nat.testBit_two_pow, decide_eq_true hi, Bool.true_and]
    exact dec_cg ⟨fun q => q.symm, fun q => q.symm⟩
  have ho : lb z i = (lb x i || lb y i) := by unfold lb; rw [← e, Int64.toBitVec_or, BitVec.getLsbD_or]
  rw [ho, h i hi, hy]
  by_cases q : i < 48
  · rw [decide_eq_true q, Bool.true_and, Bool.true_and]
  · rw [decide_eq_false q, Bool.false_and, Bool.false_and, decide_eq_false (show ¬ i = t by omega), Bool.false_or]
/-- the heaps of a row's worlds, the first i of them -/
def HOx (bs : Int32) (R : Nat → Nat) (sf i : Nat) (x : Int64) : Prop := LSx x (fun t => anyN (fun w => bt bs w && decide (R (sf + w) = t)) i)
theorem HOx.nil {bs : Int32} {R : Nat → Nat} {sf : Nat} : HOx bs R sf 0 0 := LSx.z
theorem HOx.f {bs : Int32} {R : Nat → Nat} {sf i : Nat} {x : Int64} (h : HOx bs R sf i x) (hb : bt bs i = false) : HOx bs R sf (i + 1) x := h.cg (fun t _ => by
  show anyN _ i = (anyN _ i || (bt bs i && decide (R (sf + i) = t)))
  rw [hb, Bool.false_and, Bool.or_false])
theorem HOx.t {bs : Int32} {R : Nat → Nat} {sf i : Nat} {x y z : Int64} (h : HOx bs R sf i x) (hb : bt bs i = true) (hr : R (sf + i) < 48) (e1 : (1 : Int64) <<< ((nI (R (sf + i))).toInt64 &&& 63) = y) (e : x ||| y = z) : HOx bs R sf (i + 1) z := (LSx.or1 h hr e1 e).cg (fun t _ => by
  show (anyN _ i || decide (t = R (sf + i))) = (anyN _ i || (bt bs i && decide (R (sf + i) = t)))
  rw [hb, Bool.true_and, dec_cg (show t = R (sf + i) ↔ R (sf + i) = t from ⟨fun q => q.symm, fun q => q.symm⟩)])
theorem shz_b {bs x : Int32} {i : Nat} (hi : i < 24) (e : bs >>> (nI i &&& 31) = x) (h : x.toInt = 0) : ∀ w, i ≤ w → w < 24 → bt bs w = false := by
  intro w h1 h2
  have hx := i_z h
  have hb := b_sshr i (by omega) bs (i := w - i) (by omega)
  rw [e, hx, b_0, if_pos (by omega), show i + (w - i) = w by omega] at hb
  exact hb.symm
theorem HOx.fin {bs : Int32} {R : Nat → Nat} {sf i : Nat} {x : Int64} (h : HOx bs R sf i x) (hi : i ≤ 24) (hb : ∀ w, i ≤ w → w < 24 → bt bs w = false) : HOx bs R sf 24 x := by
  obtain ⟨d, hd⟩ : ∃ d, i + d = 24 := ⟨24 - i, by omega⟩
  have key : ∀ d, i + d ≤ 24 → HOx bs R sf (i + d) x := by
    intro d
    induction d with
    | zero => intro _; exact h
    | succ d ih => intro hd; exact HOx.f (ih (by omega)) (hb (i + d) (by omega) (by omega))
  have := key d (by omega)
  rw [hd] at this; exact this
/-- all worlds' rows, as heaps: of knowers below k, of knower k those of worlds below i -/
def LKx (c : CMl) (rk : Nat → Nat) (k i : Nat) (fs : Nat → Int64) : Prop := ∀ k' j, k' < 4 → j < c.1 → (k' < k ∨ k' = k ∧ j < i) → LSx (fs (k' * 2 * 24 + j)) (HSt c rk k' j)
theorem LKx.nil {c : CMl} {rk : Nat → Nat} {fs : Nat → Int64} : LKx c rk 0 0 fs := fun k j _ _ h => absurd h (by omega)
theorem LKx.up {c : CMl} {rk : Nat → Nat} {k i : Nat} {fs : Nat → Int64} (h : LKx c rk k i fs) (e : c.1 ≤ i) : LKx c rk (k + 1) 0 fs := fun k' j a b d => h k' j a b (by omega)
theorem LKx.t {c : CMl} {rk : Nat → Nat} {k i : Nat} {fs fs' : Nat → Int64} {x : Int64} (h : LKx c rk k i fs) (h48 : c.1 ≤ 48) (hi : i < c.1) (hx : LSx x (HSt c rk k i)) (e : vp_updL fs (k * 2 * 24 + i) x = fs') : LKx c rk k (i + 1) fs' := by
  intro k' j a b d
  rw [← e]
  by_cases q : k' * 2 * 24 + j = k * 2 * 24 + i
  · have e1 : k' = k := by omega
    have e2 : j = i := by omega
    rw [q, pk_uLs, e1, e2]; exact hx
  · rw [pk_uLn q]; exact h k' j a b (by omega)
theorem anyN_up {p : Nat → Bool} {n N : Nat} (hn : n ≤ N) (h : ∀ i, n ≤ i → i < N → p i = false) : anyN p N = anyN p n := by
  obtain ⟨d, rfl⟩ : ∃ d, N = n + d := ⟨N - n, by omega⟩
  induction d with
  | zero => rfl
  | succ d ih =>
    show (anyN p (n + d) || p (n + d)) = anyN p n
    rw [ih (by omega) (fun i a b => h i a (by omega)), h (n + d) (by omega) (by omega), Bool.or_false]
theorem hs_1 {n r k w : Nat} {f g : Nat → Int32} {rk : Nat → Nat} {x : Int64} (h24 : n ≤ 24) (hw : WFm (am n r f g)) (hk : k < 4) (hl : w < n) (h : HOx (g (k * 24 + w)) rk 0 24 x) : LSx x (HSt (cm1 (am n r f g)) rk k w) := h.cg (fun t _ => by
  unfold HSt
  rw [anyN_up (n := 24) (N := 48) (by omega) (fun v h1 h2 => by
    cases hb : (cm1 (am n r f g)).2.2 k w v with
    | false => rfl
    | true =>
      have h3 : v < n := hw k w v hb
      omega)]
  refine anyN_cg (fun v hv => ?_)
  show (bt (g (k * 24 + w)) v && decide (rk (0 + v) = t)) = ((am n r f g).2.2.2 k w v && decide (rk v = t))
  rw [am_S hk hl, Nat.zero_add])
theorem hs_l {n r k w n2 r2 : Nat} {f g f2 g2 : Nat → Int32} {rk : Nat → Nat} {x : Int64} (h24 : n ≤ 24) (hw : WFm (am n r f g)) (hk : k < 4) (hl : w < n) (h : HOx (g (k * 24 + w)) rk 0 24 x) : LSx x (HSt (cm2 (am n r f g) (am n2 r2 f2 g2)) rk k w) := (hs_1 (r := r) (f := f) h24 hw hk hl h).cg (fun t _ => by
  unfold HSt
  refine anyN_cg (fun v _ => ?_)
  show _ = ((if w < n then (am n r f g).2.2.2 k w v else _) && _)
  rw [if_pos hl]; rfl)
theorem hs_r {n r k i n2 r2 : Nat} {f g f2 g2 : Nat → Int32} {rk : Nat → Nat} {x : Int64} (h24 : n ≤ 24) (h24' : n2 ≤ 24) (hw : WFm (am n2 r2 f2 g2)) (hk : k < 4) (hl : n ≤ i) (hl2 : i < n + n2) (h : HOx (g2 (k * 24 + (i - n))) rk n 24 x) : LSx x (HSt (cm2 (am n r f g) (am n2 r2 f2 g2)) rk k i) := h.cg (fun t _ => by
  apply bool_iff
  unfold HSt
  rw [anyN_iff, anyN_iff]
  constructor
  · rintro ⟨w, h1, h2⟩
    rw [Bool.and_eq_true] at h2
    refine ⟨n + w, by omega, ?_⟩
    show ((if i < n then _ else (decide (n ≤ n + w) && (am n2 r2 f2 g2).2.2.2 k (i - n) (n + w - n))) && decide (rk (n + w) = t)) = true
    rw [if_neg (by omega), decide_eq_true (show n ≤ n + w by omega), Bool.true_and, am_S hk (by omega), show n + w - n = w by omega, h2.1, h2.2]; rfl
  · rintro ⟨v, h1, h2⟩
    have h3 : ((if i < n then (am n r f g).2.2.2 k i v else (decide (n ≤ v) && (am n2 r2 f2 g2).2.2.2 k (i - n) (v - n))) && decide (rk v = t)) = true := h2
    rw [if_neg (by omega), Bool.and_eq_true, Bool.and_eq_true, decide_eq_true_eq] at h3
    have h4 : v - n < n2 := hw k (i - n) (v - n) h3.1.2
    refine ⟨v - n, by omega, ?_⟩
    rw [am_S hk (by omega)] at h3
    rw [show n + (v - n) = v by omega, h3.1.2, h3.2]; rfl)
/-- a model's heaps, of rows that lead to its own worlds alone -/
def CWF (c : CMl) : Prop := ∀ k i v, i < c.1 → c.2.2 k i v = true → v < c.1
theorem cm1_wf {a : AM} (h : WFm a) : CWF (cm1 a) := fun k i v _ hv => h k i v hv
theorem cm2_wf {a b : AM} (h : WFm a) (h2 : WFm b) : CWF (cm2 a b) := fun k i v hi hv => by
  have h3 : (if i < a.1 then a.2.2.2 k i v else (decide (a.1 ≤ v) && b.2.2.2 k (i - a.1) (v - a.1))) = true := hv
  show v < a.1 + b.1
  by_cases q : i < a.1
  · rw [if_pos q] at h3; have := h k i v h3; omega
  · rw [if_neg q, Bool.and_eq_true, decide_eq_true_eq] at h3; have := h2 k _ _ h3.2; omega
theorem alk_al {c : CMl} {r i j : Nat} {fl : Nat → Int32} {fs : Nat → Int64} (h48 : c.1 ≤ 48) (h : RKx c c.1 r fl) (hs : LKx c (rk c r) 4 0 fs) (hi : i < c.1) (hj : j < c.1) : ALx fl fs i j ↔ ALK c (rk c r) i j := by
  have h1 := (rk_le c r i).1
  have h2 := (rk_le c r j).1
  unfold ALx ALK
  rw [h i hi, h j hj]
  constructor
  · rintro ⟨a, b⟩
    exact ⟨((nI_eq (by omega) (by omega)).mp a).symm, fun k hk t ht => (((LSx.eq (hs k i hk hi (by omega)) (hs k j hk hj (by omega))).mp (b k hk)) t ht).symm⟩
  · rintro ⟨a, b⟩
    exact ⟨by rw [a], fun k hk => (LSx.eq (hs k i hk hi (by omega)) (hs k j hk hj (by omega))).mpr (fun t ht => (b k hk t ht).symm)⟩
theorem hp_rk {c : CMl} {r : Nat} {fl fn : Nat → Int32} {fs : Nat → Int64} (h48 : c.1 ≤ 48) (h : RKx c c.1 r fl) (hs : LKx c (rk c r) 4 0 fs) (hp : HPx c.1 fl fs fn) : RKx c c.1 (r + 1) fn := by
  intro i hi
  obtain ⟨lo, j, a0, a1, a2, a3, a4, a5⟩ := hp i hi
  have hl := rk_le c r i
  have e0 : rk c r i = lo := (nI_eq (by omega) (by omega)).mp ((h i hi).symm.trans a0)
  rw [a3]
  congr 1
  symm
  show rkS c (rk c r) i = j
  refine rkS_u a2 (fun v hv ha => ?_) ((alk_al h48 h hs hi (by omega)).mp a4)
  rcases Nat.lt_or_ge v lo with q | q
  · have h3 := (rk_le c r v).1
    have h4 := ha.1
    omega
  · exact a5 v q hv ((alk_al h48 h hs hi (by omega)).mpr ha)
theorem hb_rk {c : CMl} {fx fl : Nat → Int32} (hf : ∀ i, i < c.1 → c.2.1 i = fx i) (h : HBx c.1 fx fl) : RKx c c.1 0 fl := by
  intro i hi
  obtain ⟨j, a1, a2, a3, a4⟩ := h i hi
  rw [a2]
  congr 1
  symm
  exact rk0_u a1 (fun v hv => by rw [hf v (by omega), hf i hi]; exact a4 v hv) (by rw [hf j (by omega), hf i hi]; exact a3)
/-- a round that parts none is the last -/
theorem rk_rest {c : CMl} (hw : CWF c) {r : Nat} (h : ∀ i, i < c.1 → rk c (r + 1) i = rk c r i) : ∀ d i, i < c.1 → rk c (r + d) i = rk c r i := by
  intro d
  induction d with
  | zero => intro i _; rfl
  | succ d ih =>
    intro i hi
    rw [← h i hi]
    show rkS c (rk c (r + d)) i = rkS c (rk c r) i
    have hs : ∀ k j, j < c.1 → ∀ t, HSt c (rk c (r + d)) k j t = HSt c (rk c r) k j t := by
      intro k j hj t
      unfold HSt
      refine anyN_cg (fun v _ => ?_)
      cases hb : c.2.2 k j v with
      | false => rfl
      | true => rw [ih v (hw k j v hj hb)]
    have hr := rk_le c (r + 1) i
    refine rkS_u hr.1 (fun v hv ha => ?_) ?_
    · have e : rkS c (rk c r) i = rkS c (rk c r) i := rfl
      have hv2 : v < rkS c (rk c r) i := hv
      have h1 := lst_in (p := alkB c (rk c r) i) i (ALK.dec.mpr ⟨rfl, fun _ _ _ _ => rfl⟩)
      have h2 := h1.2.2 v hv2
      rw [← Bool.not_eq_true, ALK.dec] at h2
      have hle9 : rkS c (rk c r) i ≤ i := h1.1
      exact h2 ⟨by rw [← ih v (by omega), ← ih i hi]; exact ha.1, fun k hk t ht => by rw [← hs k v (by omega), ← hs k i hi]; exact ha.2 k hk t ht⟩
    · have h1 := lst_in (p := alkB c (rk c r) i) i (ALK.dec.mpr ⟨rfl, fun _ _ _ _ => rfl⟩)
      have h2 := ALK.dec.mp h1.2.1
      have hlt : rkS c (rk c r) i < c.1 := by have h3 : rkS c (rk c r) i ≤ i := h1.1; omega
      exact ⟨by rw [ih _ hlt, ih i hi]; exact h2.1, fun k hk t ht => by rw [hs k _ hlt, hs k i hi]; exact h2.2 k hk t ht⟩
/-- the least world of a class -/
def clsS (c : CMl) : Nat → Nat := rk c c.1
theorem rk_end {c : CMl} (hw : CWF c) {r : Nat} {fl : Nat → Int32} (hr : r ≤ c.1) (h : ∀ i, i < c.1 → rk c (r + 1) i = rk c r i) (hx : RKx c c.1 (r + 1) fl) : RKx c c.1 c.1 fl := by
  intro i hi
  obtain ⟨d, hd⟩ : ∃ d, r + d = c.1 := ⟨c.1 - r, by omega⟩
  have h1 := rk_rest hw h d i hi
  rw [hd] at h1
  rw [hx i hi, h i hi, h1]
/-- the depth of two worlds: the first round by which they are parted -/
def DEPr (c : CMl) (u v d : Nat) : Prop := rk c d u ≠ rk c d v ∧ ∀ r, r < d → rk c r u = rk c r v
def DEPn (c : CMl) (u v : Nat) : Prop := ∀ r, rk c r u = rk c r v
theorem DEPr.uniq {c : CMl} {u v d e : Nat} (h1 : DEPr c u v d) (h2 : DEPr c u v e) : d = e := by
  rcases Nat.lt_trichotomy d e with h | h | h
  · exact absurd (h2.2 d h) h1.1
  · exact h
  · exact absurd (h1.2 e h) h2.1
/-- melted: each class becomes its least world -/
def mlP (m : AM) : Nat → Bool := fun w => decide (clsS (cm1 m) w = w)
def aMelt (m : AM) : AM := cmpS (mlP m) m.1 (cb (mlP m) (clsS (cm1 m) m.2.1)) m.2.2.1 (fun k p q => anyN (fun v => m.2.2.2 k p v && decide (clsS (cm1 m) v = q)) 24)
theorem rk_eqv {c : CMl} {n r u v : Nat} {fl : Nat → Int32} (h : RKx c n r fl) (hu : u < n) (hv : v < n) (h48 : n ≤ 48) : fl u = fl v ↔ rk c r u = rk c r v := by
  have l1 := (rk_le c r u).1
  have l2 := (rk_le c r v).1
  rw [h u hu, h v hv]
  exact nI_eq (by omega) (by omega)
theorem dep_s {c : CMl} {n r u v : Nat} {fl : Nat → Int32} (h : ∀ s, s < r → rk c s u = rk c s v) (hx : RKx c n r fl) (hu : u < n) (hv : v < n) (h48 : n ≤ 48) (e : fl u = fl v) : ∀ s, s < r + 1 → rk c s u = rk c s v := fun s hs => by
  by_cases q : s = r
  · rw [q]; exact (rk_eqv hx hu hv h48).mp e
  · exact h s (by omega)
def DEPx (c : CMl) (u v : Nat) (x : Int32) : Prop := (x = -4 ∧ ∀ r, r ≤ c.1 → rk c r u = rk c r v) ∨ ∃ d, x = nI d ∧ d ≤ c.1 ∧ DEPr c u v d
theorem DEPx.uniq {c : CMl} {u v : Nat} {x y : Int32} (h1 : DEPx c u v x) (h2 : DEPx c u v y) : x = y := by
  rcases h1 with ⟨a, b⟩ | ⟨d, a, b, e⟩
  · rcases h2 with ⟨a', b'⟩ | ⟨d', a', b', e'⟩
    · rw [a, a']
    · exact absurd (b d' b') e'.1
  · rcases h2 with ⟨a', b'⟩ | ⟨d', a', b', e'⟩
    · exact absurd (b' d b) e.1
    · rw [a, a', DEPr.uniq e e']
theorem dep_a {c : CMl} {u v r : Nat} {fl : Nat → Int32} (hr : r = c.1) (h : ∀ s, s < r → rk c s u = rk c s v) (hx : RKx c c.1 r fl) (hu : u < c.1) (hv : v < c.1) (h48 : c.1 ≤ 48) (e : fl u = fl v) : DEPx c u v (-4) :=
  Or.inl ⟨rfl, fun s hs => dep_s h hx hu hv h48 e s (by omega)⟩
theorem dep_d {c : CMl} {u v r : Nat} {fl : Nat → Int32} (hr : r ≤ c.1) (h : ∀ s, s < r → rk c s u = rk c s v) (hx : RKx c c.1 r fl) (hu : u < c.1) (hv : v < c.1) (h48 : c.1 ≤ 48) (e : ¬ fl u = fl v) : DEPx c u v (nI r) :=
  Or.inr ⟨r, rfl, hr, fun q => e ((rk_eqv hx hu hv h48).mpr q), h⟩
theorem dep_c {c : CMl} (hw : CWF c) {u v r : Nat} {fl : Nat → Int32} (h : ∀ s, s < r → rk c s u = rk c s v) (hx : RKx c c.1 r fl) (hu : u < c.1) (hv : v < c.1) (h48 : c.1 ≤ 48) (e : fl u = fl v) (hp : ∀ i, i < c.1 → rk c (r + 1) i = rk c r i) : ∀ s, rk c s u = rk c s v := fun s => by
  have h1 := dep_s h hx hu hv h48 e
  rcases Nat.lt_or_ge s r with q | q
  · exact h s q
  · obtain ⟨d, rfl⟩ : ∃ d, s = r + d := ⟨s - r, by omega⟩
    rw [rk_rest hw hp d u hu, rk_rest hw hp d v hv]; exact h1 r (by omega)
/-- the classes of a row's worlds, by their new places -/
def CLx (bs : Int32) (NN : Nat → Nat) (i : Nat) (x : Int32) : Prop := BS x (fun j => anyN (fun v => bt bs v && decide (NN v = j)) i)
theorem CLx.nil {bs : Int32} {NN : Nat → Nat} : CLx bs NN 0 0 := BS.z
theorem CLx.f {bs x : Int32} {NN : Nat → Nat} {i : Nat} (h : CLx bs NN i x) (hb : bt bs i = false) : CLx bs NN (i + 1) x := h.cg (fun j _ => by
  show anyN _ i = (anyN _ i || (bt bs i && decide (NN i = j)))
  rw [hb, Bool.false_and, Bool.or_false])
theorem CLx.t {bs x y z : Int32} {NN : Nat → Nat} {i : Nat} (h : CLx bs NN i x) (hb : bt bs i = true) (hN : NN i ≤ 30) (e1 : (1 : Int32) <<< (nI (NN i) &&& 31) = y) (e : x ||| y = z) : CLx bs NN (i + 1) z := fun j hj => by
  show bt z j = (anyN _ i || (bt bs i && decide (NN i = j)))
  rw [← e, b_or, h j hj, ← e1, one_b hN j hj, hb, Bool.true_and, dec_cg (show j = NN i ↔ NN i = j from ⟨fun q => q.symm, fun q => q.symm⟩)]
theorem CLx.fin {bs x : Int32} {NN : Nat → Nat} {i : Nat} (h : CLx bs NN i x) (hi : i ≤ 24) (hb : ∀ w, i ≤ w → w < 24 → bt bs w = false) : CLx bs NN 24 x := h.cg (fun j _ => (anyN_up hi (fun v a b => by rw [hb v a b, Bool.false_and])).symm)
theorem mlP_1 {n r w : Nat} {f g fl : Nat → Int32} {x : Int32} (h48 : n ≤ 48) (hx : RKx (cm1 (am n r f g)) n n fl) (hw : w < n) (e : fl w = x) (hz : x.toInt = (w : Int)) : mlP (am n r f g) w = true := by
  have l1 := (rk_le (cm1 (am n r f g)) n w).1
  have h1 := hx w hw
  rw [e] at h1
  rw [h1, nI_toInt (by omega)] at hz
  exact decide_eq_true (show rk (cm1 (am n r f g)) n w = w by omega)
theorem mlP_0 {n r w : Nat} {f g fl : Nat → Int32} {x : Int32} (h48 : n ≤ 48) (hx : RKx (cm1 (am n r f g)) n n fl) (hw : w < n) (e : fl w = x) (hz : x.toInt ≠ (w : Int)) : mlP (am n r f g) w = false := by
  have l1 := (rk_le (cm1 (am n r f g)) n w).1
  have h1 := hx w hw
  rw [e] at h1
  rw [h1, nI_toInt (by omega)] at hz
  exact decide_eq_false (show ¬ rk (cm1 (am n r f g)) n w = w by omega)
theorem ml_cls {m : AM} (w : Nat) : mlP m (clsS (cm1 m) w) = true := decide_eq_true (rk_le (cm1 m) (cm1 m).1 w).2
theorem ml_le {m : AM} (w : Nat) : clsS (cm1 m) w ≤ w := (rk_le (cm1 m) (cm1 m).1 w).1
/-- where the classes' least worlds come to stand: the first i are numbered -/
def MNx (P : Nat → Bool) (i : Nat) (fn : Nat → Int32) : Prop := ∀ v, v < i → P v = true → fn v = nI (cb P v)
theorem MNx.nil {P : Nat → Bool} {fn : Nat → Int32} : MNx P 0 fn := fun v h => absurd h (Nat.not_lt_zero _)
theorem MNx.f {P : Nat → Bool} {i : Nat} {fn : Nat → Int32} (h : MNx P i fn) (hb : P i = false) : MNx P (i + 1) fn := fun v hv hP => h v (Nat.lt_of_le_of_ne (by omega) (fun z => by rw [z, hb] at hP; cases hP)) hP
theorem MNx.t {P : Nat → Bool} {i c : Nat} {fn g : Nat → Int32} (h : MNx P i fn) (hc : c = cb P i) (e : upd fn i (nI c) = g) : MNx P (i + 1) g := fun v hv hP => by
  rw [← e]
  by_cases q : v = i
  · rw [q, pk_us, hc]
  · rw [pk_un q]; exact h v (by omega) hP
abbrev MLw (m : AM) (g : Nat → Int32) : Nat → Nat → Nat → Bool := fun k p j => anyN (fun v => bt (g (k * 24 + p)) v && decide (cb (mlP m) (clsS (cm1 m) v) = j)) 24
theorem am_melt {n r n2 r2 i : Nat} {f g f2 g2 : Nat → Int32} (h24 : n ≤ 24) (hw : WFm (am n r f g)) (h1 : CUf n i (mlP (am n r f g)) f f2) (h2 : CUG n i 0 (mlP (am n r f g)) (MLw (am n r f g) g) g g2) (hi : i = n) (hn : n2 = cb (mlP (am n r f g)) n) (hr : r2 = cb (mlP (am n r f g)) (clsS (cm1 (am n r f g)) r)) : am n2 r2 f2 g2 = aMelt (am n r f g) := by
  subst hi
  have hc := cb_le (mlP (am i r f g)) i
  unfold aMelt
  rw [hr]
  refine cmp_am hn (by omega) (fun p hp hP => ?_) (fun k p hk hp hP => (h2.1 k p hk hp (Or.inl hp) hP).cg (fun j _ => ?_))
  · rw [am_F (show p < i from hp)]; exact h1.1 p hp hP
  · have hp2 : p < i := hp
    apply bool_iff
    show anyN (fun v => bt (g (k * 24 + p)) v && decide (cb (mlP (am i r f g)) (clsS (cm1 (am i r f g)) v) = j)) 24 = true ↔ (decide (j < cb (mlP (am i r f g)) i) && anyN (fun v => (am i r f g).2.2.2 k p v && decide (clsS (cm1 (am i r f g)) v = nth (mlP (am i r f g)) i j)) 24) = true
    rw [Bool.and_eq_true, anyN_iff, anyN_iff, decide_eq_true_eq]
    constructor
    · rintro ⟨v, hv, h3⟩
      rw [Bool.and_eq_true, decide_eq_true_eq] at h3
      have h4 : v < i := hw k p v (by rw [am_S hk hp2]; exact h3.1)
      have h5 := ml_le (m := am i r f g) v
      have h6 := ml_cls (m := am i r f g) v
      refine ⟨by rw [← h3.2]; exact cb_lt (show clsS (cm1 (am i r f g)) v < i by omega) h6, v, hv, ?_⟩
      rw [am_S hk hp2, h3.1, Bool.true_and, ← h3.2, nth_cb (show clsS (cm1 (am i r f g)) v < i by omega) h6]
      exact decide_eq_true rfl
    · rintro ⟨hj, v, hv, h3⟩
      rw [am_S hk hp2, Bool.and_eq_true, decide_eq_true_eq] at h3
      refine ⟨v, hv, ?_⟩
      rw [h3.1, Bool.true_and, h3.2, (nth_in hj).2.2]
      exact decide_eq_true rfl
end
