theorem dX3_pair_0 : decode cX3_pair 0 = .ok (.aload_n 0, 1) := by decide +kernel
theorem dX3_pair_1 : decode cX3_pair 1 = .ok (.getfield 22, 3) := by decide +kernel
theorem dX3_pair_4 : decode cX3_pair 4 = .ok (.iload_n 1, 1) := by decide +kernel
theorem dX3_pair_5 : decode cX3_pair 5 = .ok (.iaload, 1) := by decide +kernel
theorem dX3_pair_6 : decode cX3_pair 6 = .ok (.aload_n 0, 1) := by decide +kernel
theorem dX3_pair_7 : decode cX3_pair 7 = .ok (.getfield 18, 3) := by decide +kernel
theorem dX3_pair_10 : decode cX3_pair 10 = .ok (.iload_n 1, 1) := by decide +kernel
theorem dX3_pair_11 : decode cX3_pair 11 = .ok (.iaload, 1) := by decide +kernel
theorem dX3_pair_12 : decode cX3_pair 12 = .ok (.iconst 1, 1) := by decide +kernel
theorem dX3_pair_13 : decode cX3_pair 13 = .ok (.iload_n 2, 1) := by decide +kernel
theorem dX3_pair_14 : decode cX3_pair 14 = .ok (.ishl, 1) := by decide +kernel
theorem dX3_pair_15 : decode cX3_pair 15 = .ok (.iconst 1, 1) := by decide +kernel
theorem dX3_pair_16 : decode cX3_pair 16 = .ok (.isub, 1) := by decide +kernel
theorem dX3_pair_17 : decode cX3_pair 17 = .ok (.iand, 1) := by decide +kernel
theorem dX3_pair_18 : decode cX3_pair 18 = .ok (.invokestatic 57, 3) := by decide +kernel
theorem dX3_pair_21 : decode cX3_pair 21 = .ok (.iadd, 1) := by decide +kernel
theorem dX3_pair_22 : decode cX3_pair 22 = .ok (.ireturn, 1) := by decide +kernel
set_option maxRecDepth 100000 in
set_option maxHeartbeats 4000000 in
theorem l_pair (l : Launch) (E : EV) (ro : va_W) (ly : Nat) (w : Nat) (c : Nat) (lym : Nat) (Pp : Nat) (n : Nat) (lyc : Nat) (lyf : Nat) (lyq : Nat) (cf : Nat → Int32) (ff : Nat → Int32) (hn : n ≤ 24) (hw : w < n) (hc : c < 4) (hL : LYR n cf ff Pp) : CT l yX3_pair (Cond.code yX3_pair cX3_pair 3 (some .int) :: TB) ({ frames := 1, cells := 0, slots := 0, locals := 20 }) E ro [.ref ly, .int (nI w), .int (nI c)] [(ly, .inr (3, [.ref lym, .int (nI Pp), .int (nI n), .ref lyc, .ref lyf, .ref lyq])), (lyc, .inl (E.2.1 1, 24, .inl cf)), (lyf, .inl (E.2.1 1, 24, .inl ff))] (Qi E (fun (rz : Int32) uz => (rz = (nI (pcs cf w + bi cf w c)) ∧ uz = [(ly, .inr (3, [.ref lym, .int (nI Pp), .int (nI n), .ref lyc, .ref lyf, .ref lyq])), (lyc, .inl (E.2.1 1, 24, .inl cf)), (lyf, .inl (E.2.1 1, 24, .inl ff))]))) 0 0 := by
  refine ct_of rfl rfl ?_
  intro X C hT hin hro
  show WW X 3 E 0 [(0, .ref ly), (1, .int (nI w)), (2, .int (nI c))] [] [(ly, .inr (3, [.ref lym, .int (nI Pp), .int (nI n), .ref lyc, .ref lyf, .ref lyq])), (lyc, .inl (E.2.1 1, 24, .inl cf)), (lyf, .inl (E.2.1 1, 24, .inl ff))] 0 0
  refine ww_aload_n C dX3_pair_0 0 rfl rfl ?_
  refine ww_get C fg_X3_22 0 rfl rfl dX3_pair_1 ?_
  refine ww_iload_n C dX3_pair_4 1 rfl rfl ?_
  refine ww_iald (v := (nI (pcs cf w))) C 2 rfl (vp_in_nI (by omega) (by omega)) (ldn (by omega) (hL.2.1 w (by omega))) dX3_pair_5 ?_
  refine ww_aload_n C dX3_pair_6 0 rfl rfl ?_
  refine ww_get C fg_X3_18 0 rfl rfl dX3_pair_7 ?_
  refine ww_iload_n C dX3_pair_10 1 rfl rfl ?_
  have hbx_2 := CBx.lt hL.1 (by omega) (show w < n by omega)
  refine ww_iald (v := (nI (cN cf w))) C 1 rfl (vp_in_nI (by omega) (by omega)) (ldn (by omega) (hL.1 w (by omega)).1) dX3_pair_11 ?_
  refine ww_iconst (v := 1) C dX3_pair_12 rfl ?_
  refine ww_iload_n C dX3_pair_13 2 rfl rfl ?_
  obtain ⟨x_3, ex_3⟩ : ∃ z : Int32, (1 : Int32) <<< ((nI c) &&& 31) = z := ⟨_, rfl⟩
  refine ww_ishl (v := x_3) C dX3_pair_14 ex_3 ?_
  refine ww_iconst (v := 1) C dX3_pair_15 rfl ?_
  obtain ⟨x_4, ex_4⟩ : ∃ z : Int32, x_3 - (1 : Int32) = z := ⟨_, rfl⟩
  refine ww_isub (v := x_4) C dX3_pair_16 ex_4 ?_
  obtain ⟨x_5, ex_5⟩ : ∃ z : Int32, (nI (cN cf w)) &&& x_4 = z := ⟨_, rfl⟩
  refine ww_iand (v := x_5) C dX3_pair_17 ex_5 ?_
  refine ww_ci (wr := [(ly, .inr (3, [.ref lym, .int (nI Pp), .int (nI n), .ref lyc, .ref lyf, .ref lyq])), (lyc, .inl (E.2.1 1, 24, .inl cf)), (lyf, .inl (E.2.1 1, 24, .inl ff))]) (k' := 0) (n' := 0) C (run_S (As := [.int x_5]) (rest := [.int (nI (pcs cf w))]) C (c_bitCount X.2.1 E ro x_5) ms_J6_bitCount_0f7a4 wl_X3_57 rfl rfl rfl rfl dX3_pair_18) (roK hro) [] [0, 1, 2] rfl rfl rfl rfl (fun r_6 uz hw => ?_)
  refine an1 hw ?_
  clear hw
  intro he_7 hw
  have he_8 := hw
  clear hw
  have he_7 := he_7.symm
  subst he_7
  subst he_8
  refine ww_eq (ws' := [(ly, .inr (3, [.ref lym, .int (nI Pp), .int (nI n), .ref lyc, .ref lyf, .ref lyq])), (lyc, .inl (E.2.1 1, 24, .inl cf)), (lyf, .inl (E.2.1 1, 24, .inl ff))]) ?_ rfl rfl rfl
  obtain ⟨x_9, ex_9⟩ : ∃ z : Int32, (nI (pcs cf w)) + (bcf x_5) = z := ⟨_, rfl⟩
  refine ww_iadd (v := x_9) C dX3_pair_21 ex_9 ?_
  exact ww_iret (u := [(ly, .inr (3, [.ref lym, .int (nI Pp), .int (nI n), .ref lyc, .ref lyf, .ref lyq])), (lyc, .inl (E.2.1 1, 24, .inl cf)), (lyf, .inl (E.2.1 1, 24, .inl ff))]) C hT [0, 1, 2] rfl rfl rfl rfl dX3_pair_22 (⟨(pair_v hL hw hc (by assumption) (by assumption) (by assumption) (by assumption)), rfl⟩)
theorem dX3_pairsOfWorlds_0 : decode cX3_pairsOfWorlds 0 = .ok (.iconst 0, 1) := by decide +kernel
theorem dX3_pairsOfWorlds_1 : decode cX3_pairsOfWorlds 1 = .ok (.istore_n 2, 1) := by decide +kernel
theorem dX3_pairsOfWorlds_2 : decode cX3_pairsOfWorlds 2 = .ok (.iconst 0, 1) := by decide +kernel
theorem dX3_pairsOfWorlds_3 : decode cX3_pairsOfWorlds 3 = .ok (.istore_n 3, 1) := by decide +kernel
theorem dX3_pairsOfWorlds_4 : decode cX3_pairsOfWorlds 4 = .ok (.iload_n 3, 1) := by decide +kernel
theorem dX3_pairsOfWorlds_5 : decode cX3_pairsOfWorlds 5 = .ok (.aload_n 0, 1) := by decide +kernel
theorem dX3_pairsOfWorlds_6 : decode cX3_pairsOfWorlds 6 = .ok (.getfield 32, 3) := by decide +kernel
theorem dX3_pairsOfWorlds_9 : decode cX3_pairsOfWorlds 9 = .ok (.if_icmp .ge 40, 3) := by decide +kernel
theorem dX3_pairsOfWorlds_49 : decode cX3_pairsOfWorlds 49 = .ok (.iload_n 2, 1) := by decide +kernel
theorem dX3_pairsOfWorlds_50 : decode cX3_pairsOfWorlds 50 = .ok (.ireturn, 1) := by decide +kernel
theorem dX3_pairsOfWorlds_12 : decode cX3_pairsOfWorlds 12 = .ok (.iload_n 1, 1) := by decide +kernel
theorem dX3_pairsOfWorlds_13 : decode cX3_pairsOfWorlds 13 = .ok (.iload_n 3, 1) := by decide +kernel
theorem dX3_pairsOfWorlds_14 : decode cX3_pairsOfWorlds 14 = .ok (.invokestatic 63, 3) := by decide +kernel
theorem dX3_pairsOfWorlds_17 : decode cX3_pairsOfWorlds 17 = .ok (.ifCond .eq 26, 3) := by decide +kernel
theorem dX3_pairsOfWorlds_20 : decode cX3_pairsOfWorlds 20 = .ok (.iload_n 2, 1) := by decide +kernel
theorem dX3_pairsOfWorlds_21 : decode cX3_pairsOfWorlds 21 = .ok (.iconst 1, 1) := by decide +kernel
theorem dX3_pairsOfWorlds_22 : decode cX3_pairsOfWorlds 22 = .ok (.aload_n 0, 1) := by decide +kernel
theorem dX3_pairsOfWorlds_23 : decode cX3_pairsOfWorlds 23 = .ok (.getfield 18, 3) := by decide +kernel
theorem dX3_pairsOfWorlds_26 : decode cX3_pairsOfWorlds 26 = .ok (.iload_n 3, 1) := by decide +kernel
theorem dX3_pairsOfWorlds_27 : decode cX3_pairsOfWorlds 27 = .ok (.iaload, 1) := by decide +kernel
theorem dX3_pairsOfWorlds_28 : decode cX3_pairsOfWorlds 28 = .ok (.invokestatic 57, 3) := by decide +kernel
theorem dX3_pairsOfWorlds_31 : decode cX3_pairsOfWorlds 31 = .ok (.ishl, 1) := by decide +kernel
theorem dX3_pairsOfWorlds_32 : decode cX3_pairsOfWorlds 32 = .ok (.iconst 1, 1) := by decide +kernel
theorem dX3_pairsOfWorlds_33 : decode cX3_pairsOfWorlds 33 = .ok (.isub, 1) := by decide +kernel
theorem dX3_pairsOfWorlds_34 : decode cX3_pairsOfWorlds 34 = .ok (.aload_n 0, 1) := by decide +kernel
theorem dX3_pairsOfWorlds_35 : decode cX3_pairsOfWorlds 35 = .ok (.getfield 22, 3) := by decide +kernel
theorem dX3_pairsOfWorlds_38 : decode cX3_pairsOfWorlds 38 = .ok (.iload_n 3, 1) := by decide +kernel
theorem dX3_pairsOfWorlds_39 : decode cX3_pairsOfWorlds 39 = .ok (.iaload, 1) := by decide +kernel
theorem dX3_pairsOfWorlds_40 : decode cX3_pairsOfWorlds 40 = .ok (.ishl, 1) := by decide +kernel
theorem dX3_pairsOfWorlds_41 : decode cX3_pairsOfWorlds 41 = .ok (.ior, 1) := by decide +kernel
theorem dX3_pairsOfWorlds_42 : decode cX3_pairsOfWorlds 42 = .ok (.istore_n 2, 1) := by decide +kernel
theorem dX3_pairsOfWorlds_43 : decode cX3_pairsOfWorlds 43 = .ok (.iinc 3 1, 3) := by decide +kernel
theorem dX3_pairsOfWorlds_46 : decode cX3_pairsOfWorlds 46 = .ok (.goto (-42), 3) := by decide +kernel
set_option maxRecDepth 100000 in
set_option maxHeartbeats 4000000 in
theorem l_pairsOfWorlds (l : Launch) (E : EV) (ro : va_W) (ly : Nat) (bs : Int32) (lym : Nat) (Pp : Nat) (n : Nat) (lyc : Nat) (lyf : Nat) (lyq : Nat) (cf : Nat → Int32) (ff : Nat → Int32) (PP : Nat → Bool) (hn : n ≤ 24) (hL : LYR n cf ff Pp) (hM : LYM n PP cf) (hP : Pp ≤ 24) : CT l yX3_pairsOfWorlds (Cond.code yX3_pairsOfWorlds cX3_pairsOfWorlds 4 (some .int) :: TB) ({ frames := 1, cells := 0, slots := 0, locals := 21 }) E ro [.ref ly, .int bs] [(ly, .inr (3, [.ref lym, .int (nI Pp), .int (nI n), .ref lyc, .ref lyf, .ref lyq])), (lyc, .inl (E.2.1 1, 24, .inl cf)), (lyf, .inl (E.2.1 1, 24, .inl ff))] (Qi E (fun (rz : Int32) uz => (uz = [(ly, .inr (3, [.ref lym, .int (nI Pp), .int (nI n), .ref lyc, .ref lyf, .ref lyq])), (lyc, .inl (E.2.1 1, 24, .inl cf)), (lyf, .inl (E.2.1 1, 24, .inl ff))] ∧ (PWx PP (4 * n) n bs n rz)))) 0 0 := by
  refine ct_of rfl rfl ?_
  intro X C hT hin hro
  show WW X 4 E 0 [(0, .ref ly), (1, .int bs)] [] [(ly, .inr (3, [.ref lym, .int (nI Pp), .int (nI n), .ref lyc, .ref lyf, .ref lyq])), (lyc, .inl (E.2.1 1, 24, .inl cf)), (lyf, .inl (E.2.1 1, 24, .inl ff))] 0 0
  refine ww_iconst (v := 0) C dX3_pairsOfWorlds_0 rfl ?_
  refine ww_istore_n (lv' := [(2, .int 0), (0, .ref ly), (1, .int bs)]) C dX3_pairsOfWorlds_1 rfl rfl rfl ?_
  refine ww_iconst (v := 0) C dX3_pairsOfWorlds_2 rfl ?_
  refine ww_istore_n (lv' := [(3, .int 0), (2, .int 0), (0, .ref ly), (1, .int bs)]) C dX3_pairsOfWorlds_3 rfl rfl rfl ?_
  have loop_4 : ∀ (fu : Nat) (i1 : Nat) (ac : Int32), (i1 ≤ n) → (PWx PP (4 * n) n bs i1 ac) → n - i1 < fu → WW X 4 E 4 [(3, .int (nI i1)), (2, .int ac), (0, .ref ly), (1, .int bs)] [] [(ly, .inr (3, [.ref lym, .int (nI Pp), .int (nI n), .ref lyc, .ref lyf, .ref lyq])), (lyc, .inl (E.2.1 1, 24, .inl cf)), (lyf, .inl (E.2.1 1, 24, .inl ff))] 0 0 := by
    intro fu
    induction fu with
    | zero => intro i1 ac hi1 hpw hmeas; exact absurd hmeas (Nat.not_lt_zero _)
    | succ fu ih_4 =>
      intro i1 ac hi1 hpw hmeas
      refine ww_iload_n C dX3_pairsOfWorlds_4 0 rfl rfl ?_
      refine ww_aload_n C dX3_pairsOfWorlds_5 2 rfl rfl ?_
      refine ww_get C fg_X3_32 0 rfl rfl dX3_pairsOfWorlds_6 ?_
      refine ww_icmp_ge (tgt := 49) C dX3_pairsOfWorlds_9 (by decide) (fun c_1 => ?_) (fun c_1 => ?_)
      · have zc_1 : ((i1 : Nat) : Int) ≥ ((n : Nat) : Int) := i_le (nI_toInt (n := n) (by omega)) (nI_toInt (n := i1) (by omega)) c_1
        refine ww_iload_n C dX3_pairsOfWorlds_49 1 rfl rfl ?_
        exact ww_iret (u := [(ly, .inr (3, [.ref lym, .int (nI Pp), .int (nI n), .ref lyc, .ref lyf, .ref lyq])), (lyc, .inl (E.2.1 1, 24, .inl cf)), (lyf, .inl (E.2.1 1, 24, .inl ff))]) C hT [0, 1, 2] rfl rfl rfl rfl dX3_pairsOfWorlds_50 (⟨rfl, (by have h9 : i1 = n := (by omega); rw [h9] at hpw; exact hpw)⟩)
      · have zc_1 : ((i1 : Nat) : Int) < ((n : Nat) : Int) := i_nle (nI_toInt (n := n) (by omega)) (nI_toInt (n := i1) (by omega)) c_1
        refine ww_iload_n C dX3_pairsOfWorlds_12 3 rfl rfl ?_
        refine ww_iload_n C dX3_pairsOfWorlds_13 0 rfl rfl ?_
        refine ww_ci (wr := [(ly, .inr (3, [.ref lym, .int (nI Pp), .int (nI n), .ref lyc, .ref lyf, .ref lyq])), (lyc, .inl (E.2.1 1, 24, .inl cf)), (lyf, .inl (E.2.1 1, 24, .inl ff))]) (k' := 0) (n' := 0) C (run_SN (As := [.int bs, .int (nI i1)]) (rest := []) C (c_hasN X.2.1 E ro bs i1 (by omega)) ms_X11_has (List.mem_of_getElem? (i := 16) rfl) rfl rfl rfl rfl dX3_pairsOfWorlds_14) (roK hro) [] [0, 1, 2] rfl rfl rfl rfl (fun r_2 uz hw => ?_)
        rcases hw with hw | hw
        · refine an2 hw ?_
          clear hw
          intro he_4 he_5 hw
          have h_3 := hw
          clear hw
          have he_4 := he_4.symm
          subst he_4
          subst he_5
          refine ww_eq (ws' := [(ly, .inr (3, [.ref lym, .int (nI Pp), .int (nI n), .ref lyc, .ref lyf, .ref lyq])), (lyc, .inl (E.2.1 1, 24, .inl cf)), (lyf, .inl (E.2.1 1, 24, .inl ff))]) ?_ rfl rfl rfl
          refine ww_if_eq_f (tgt := 43) C dX3_pairsOfWorlds_17 (by decide) (by decide) ?_
          refine ww_iload_n C dX3_pairsOfWorlds_20 1 rfl rfl ?_
          refine ww_iconst (v := 1) C dX3_pairsOfWorlds_21 rfl ?_
          refine ww_aload_n C dX3_pairsOfWorlds_22 2 rfl rfl ?_
          refine ww_get C fg_X3_18 0 rfl rfl dX3_pairsOfWorlds_23 ?_
          refine ww_iload_n C dX3_pairsOfWorlds_26 0 rfl rfl ?_
          have hbx_9 := CBx.lt hL.1 (by omega) (show i1 < n by omega)
          refine ww_iald (v := (nI (cN cf i1))) C 1 rfl (vp_in_nI (by omega) (by omega)) (ldn (by omega) (hL.1 i1 (by omega)).1) dX3_pairsOfWorlds_27 ?_
          refine ww_ci (wr := [(ly, .inr (3, [.ref lym, .int (nI Pp), .int (nI n), .ref lyc, .ref lyf, .ref lyq])), (lyc, .inl (E.2.1 1, 24, .inl cf)), (lyf, .inl (E.2.1 1, 24, .inl ff))]) (k' := 0) (n' := 0) C (run_S (As := [.int (nI (cN cf i1))]) (rest := [.int 1, .int ac]) C (c_bitCount X.2.1 E ro (nI (cN cf i1))) ms_J6_bitCount_0f7a4 wl_X3_57 rfl rfl rfl rfl dX3_pairsOfWorlds_28) (roK hro) [] [0, 1, 2] rfl rfl rfl rfl (fun r_10 uz hw => ?_)
          refine an1 hw ?_
          clear hw
          intro he_11 hw
          have he_12 := hw
          clear hw
          have he_11 := he_11.symm
          subst he_11
          subst he_12
          refine ww_eq (ws' := [(ly, .inr (3, [.ref lym, .int (nI Pp), .int (nI n), .ref lyc, .ref lyf, .ref lyq])), (lyc, .inl (E.2.1 1, 24, .inl cf)), (lyf, .inl (E.2.1 1, 24, .inl ff))]) ?_ rfl rfl rfl
          have hbc : bcf (nI (cN cf i1)) = nI (bi cf i1 4) := bcf16 (by omega)
          refine ww_eq (st' := [.int (nI (bi cf i1 4)), .int 1, .int ac]) ?_ rfl (by rw [hbc]) rfl
          obtain ⟨x_13, ex_13⟩ : ∃ z : Int32, (1 : Int32) <<< ((nI (bi cf i1 4)) &&& 31) = z := ⟨_, rfl⟩
          refine ww_ishl (v := x_13) C dX3_pairsOfWorlds_31 ex_13 ?_
          refine ww_iconst (v := 1) C dX3_pairsOfWorlds_32 rfl ?_
          obtain ⟨x_14, ex_14⟩ : ∃ z : Int32, x_13 - (1 : Int32) = z := ⟨_, rfl⟩
          refine ww_isub (v := x_14) C dX3_pairsOfWorlds_33 ex_14 ?_
          refine ww_aload_n C dX3_pairsOfWorlds_34 2 rfl rfl ?_
          refine ww_get C fg_X3_22 0 rfl rfl dX3_pairsOfWorlds_35 ?_
          refine ww_iload_n C dX3_pairsOfWorlds_38 0 rfl rfl ?_
          refine ww_iald (v := (nI (pcs cf i1))) C 2 rfl (vp_in_nI (by omega) (by omega)) (ldn (by omega) (hL.2.1 i1 (by omega))) dX3_pairsOfWorlds_39 ?_
          obtain ⟨x_16, ex_16⟩ : ∃ z : Int32, x_14 <<< ((nI (pcs cf i1)) &&& 31) = z := ⟨_, rfl⟩
          refine ww_ishl (v := x_16) C dX3_pairsOfWorlds_40 ex_16 ?_
          obtain ⟨x_17, ex_17⟩ : ∃ z : Int32, ac ||| x_16 = z := ⟨_, rfl⟩
          refine ww_ior (v := x_17) C dX3_pairsOfWorlds_41 ex_17 ?_
          refine ww_istore_n (lv' := [(2, .int x_17), (3, .int (nI i1)), (0, .ref ly), (1, .int bs)]) C dX3_pairsOfWorlds_42 rfl rfl rfl ?_
          refine ww_iinc (j := 1) (v := (nI (i1 + 1))) (lv' := [(3, .int (nI (i1 + 1))), (2, .int x_17), (0, .ref ly), (1, .int bs)]) C dX3_pairsOfWorlds_43 rfl (nI_add i1 1) rfl rfl ?_
          refine ww_goto (tgt := 4) C dX3_pairsOfWorlds_46 (by decide) ?_
          exact ww_lv [0, 1, 2, 3] rfl (ww_sub [0, 1, 2] rfl rfl (ih_4 (i1 + 1) x_17 (by omega) (PWx.t hpw (by omega) h_3 (by have h9 := cb_mono PP (show 4 * i1 + 4 ≤ 4 * n by omega); have h8 := hL.2.2; have h7 := ly_w hM n (Nat.le_refl _); omega) (ly_w hM i1 (by omega)) (ly_cb hM (by omega) (by omega)) (cb_le _ _) ex_13 ex_14 ex_16 ex_17) (by omega)))
        · refine an2 hw ?_
          clear hw
          intro he_7 he_8 hw
          have h_6 := hw
          clear hw
          have he_7 := he_7.symm
          subst he_7
          subst he_8
          refine ww_eq (ws' := [(ly, .inr (3, [.ref lym, .int (nI Pp), .int (nI n), .ref lyc, .ref lyf, .ref lyq])), (lyc, .inl (E.2.1 1, 24, .inl cf)), (lyf, .inl (E.2.1 1, 24, .inl ff))]) ?_ rfl rfl rfl
          refine ww_if_eq_t (tgt := 43) C dX3_pairsOfWorlds_17 (by decide) (rfl) ?_
          refine ww_iinc (j := 0) (v := (nI (i1 + 1))) (lv' := [(3, .int (nI (i1 + 1))), (2, .int ac), (0, .ref ly), (1, .int bs)]) C dX3_pairsOfWorlds_43 rfl (nI_add i1 1) rfl rfl ?_
          refine ww_goto (tgt := 4) C dX3_pairsOfWorlds_46 (by decide) ?_
          exact ww_lv [0, 1, 2, 3] rfl (ww_sub [0, 1, 2] rfl rfl (ih_4 (i1 + 1) ac (by omega) (PWx.f hpw (by omega) h_6) (by omega)))
  exact ww_lv [0, 1, 2, 3] rfl (ww_sub [0, 1, 2] rfl rfl (loop_4 _ 0 0 (by omega) (PWx.nil (M := n)) (Nat.lt_succ_self _)))
theorem dX3_pairsOfCases_0 : decode cX3_pairsOfCases 0 = .ok (.iconst 0, 1) := by decide +kernel
theorem dX3_pairsOfCases_1 : decode cX3_pairsOfCases 1 = .ok (.istore_n 2, 1) := by decide +kernel
theorem dX3_pairsOfCases_2 : decode cX3_pairsOfCases 2 = .ok (.iconst 0, 1) := by decide +kernel
theorem dX3_pairsOfCases_3 : decode cX3_pairsOfCases 3 = .ok (.istore_n 3, 1) := by decide +kernel
theorem dX3_pairsOfCases_4 : decode cX3_pairsOfCases 4 = .ok (.iload_n 3, 1) := by decide +kernel
theorem dX3_pairsOfCases_5 : decode cX3_pairsOfCases 5 = .ok (.iconst 4, 1) := by decide +kernel
theorem dX3_pairsOfCases_6 : decode cX3_pairsOfCases 6 = .ok (.if_icmp .ge 26, 3) := by decide +kernel
theorem dX3_pairsOfCases_32 : decode cX3_pairsOfCases 32 = .ok (.iload_n 2, 1) := by decide +kernel
theorem dX3_pairsOfCases_33 : decode cX3_pairsOfCases 33 = .ok (.ireturn, 1) := by decide +kernel
theorem dX3_pairsOfCases_9 : decode cX3_pairsOfCases 9 = .ok (.iload_n 1, 1) := by decide +kernel
theorem dX3_pairsOfCases_10 : decode cX3_pairsOfCases 10 = .ok (.iload_n 3, 1) := by decide +kernel
theorem dX3_pairsOfCases_11 : decode cX3_pairsOfCases 11 = .ok (.invokestatic 63, 3) := by decide +kernel
theorem dX3_pairsOfCases_14 : decode cX3_pairsOfCases 14 = .ok (.ifCond .eq 12, 3) := by decide +kernel
theorem dX3_pairsOfCases_17 : decode cX3_pairsOfCases 17 = .ok (.iload_n 2, 1) := by decide +kernel
theorem dX3_pairsOfCases_18 : decode cX3_pairsOfCases 18 = .ok (.aload_n 0, 1) := by decide +kernel
theorem dX3_pairsOfCases_19 : decode cX3_pairsOfCases 19 = .ok (.getfield 25, 3) := by decide +kernel
theorem wf_X3_25 : Cond.fieldLink RX3 25 RX3 "pairsOfCase" "[I" ∈ TB := tbm (tq1 (List.mem_of_getElem? (i := 198) (by decide +kernel))) (by decide +kernel)
theorem fg_X3_25 : FG RX3 25 3 5 := ⟨RX3, TX3, 6, uw_X3, wf_X3_25, rfl, by decide, rfl⟩
theorem dX3_pairsOfCases_22 : decode cX3_pairsOfCases 22 = .ok (.iload_n 3, 1) := by decide +kernel
theorem dX3_pairsOfCases_23 : decode cX3_pairsOfCases 23 = .ok (.iaload, 1) := by decide +kernel
theorem dX3_pairsOfCases_24 : decode cX3_pairsOfCases 24 = .ok (.ior, 1) := by decide +kernel
theorem dX3_pairsOfCases_25 : decode cX3_pairsOfCases 25 = .ok (.istore_n 2, 1) := by decide +kernel
theorem dX3_pairsOfCases_26 : decode cX3_pairsOfCases 26 = .ok (.iinc 3 1, 3) := by decide +kernel
theorem dX3_pairsOfCases_29 : decode cX3_pairsOfCases 29 = .ok (.goto (-25), 3) := by decide +kernel
set_option maxRecDepth 100000 in
set_option maxHeartbeats 4000000 in
theorem l_pairsOfCases (l : Launch) (E : EV) (ro : va_W) (ly : Nat) (bs : Int32) (lym : Nat) (Pp : Nat) (n : Nat) (lyc : Nat) (lyf : Nat) (lyq : Nat) (fq : Nat → Int32) (PP : Nat → Bool) (hQ : PQx PP (4 * n) (4 * n) fq) : CT l yX3_pairsOfCases (Cond.code yX3_pairsOfCases cX3_pairsOfCases 4 (some .int) :: TB) ({ frames := 1, cells := 0, slots := 0, locals := 21 }) E ro [.ref ly, .int bs] [(ly, .inr (3, [.ref lym, .int (nI Pp), .int (nI n), .ref lyc, .ref lyf, .ref lyq])), (lyq, .inl (E.2.1 1, 4, .inl fq))] (Qi E (fun (rz : Int32) uz => (uz = [(ly, .inr (3, [.ref lym, .int (nI Pp), .int (nI n), .ref lyc, .ref lyf, .ref lyq])), (lyq, .inl (E.2.1 1, 4, .inl fq))] ∧ (PCx PP (4 * n) (4 * n) bs 4 rz)))) 0 0 := by
  refine ct_of rfl rfl ?_
  intro X C hT hin hro
  show WW X 4 E 0 [(0, .ref ly), (1, .int bs)] [] [(ly, .inr (3, [.ref lym, .int (nI Pp), .int (nI n), .ref lyc, .ref lyf, .ref lyq])), (lyq, .inl (E.2.1 1, 4, .inl fq))] 0 0
  refine ww_iconst (v := 0) C dX3_pairsOfCases_0 rfl ?_
  refine ww_istore_n (lv' := [(2, .int 0), (0, .ref ly), (1, .int bs)]) C dX3_pairsOfCases_1 rfl rfl rfl ?_
  refine ww_iconst (v := 0) C dX3_pairsOfCases_2 rfl ?_
  refine ww_istore_n (lv' := [(3, .int 0), (2, .int 0), (0, .ref ly), (1, .int bs)]) C dX3_pairsOfCases_3 rfl rfl rfl ?_
  have loop_4 : ∀ (fu : Nat) (i1 : Nat) (ac : Int32), (i1 ≤ 4) → (PCx PP (4 * n) (4 * n) bs i1 ac) → 4 - i1 < fu → WW X 4 E 4 [(3, .int (nI i1)), (2, .int ac), (0, .ref ly), (1, .int bs)] [] [(ly, .inr (3, [.ref lym, .int (nI Pp), .int (nI n), .ref lyc, .ref lyf, .ref lyq])), (lyq, .inl (E.2.1 1, 4, .inl fq))] 0 0 := by
    intro fu
    induction fu with
    | zero => intro i1 ac hi1 hpc hmeas; exact absurd hmeas (Nat.not_lt_zero _)
    | succ fu ih_4 =>
      intro i1 ac hi1 hpc hmeas
      refine ww_iload_n C dX3_pairsOfCases_4 0 rfl rfl ?_
      refine ww_iconst (v := 4) C dX3_pairsOfCases_5 rfl ?_
      refine ww_icmp_ge (tgt := 32) C dX3_pairsOfCases_6 (by decide) (fun c_1 => ?_) (fun c_1 => ?_)
      · have zc_1 : ((i1 : Nat) : Int) ≥ 4 := i_le rfl (nI_toInt (n := i1) (by omega)) c_1
        refine ww_iload_n C dX3_pairsOfCases_32 1 rfl rfl ?_
        exact ww_iret (u := [(ly, .inr (3, [.ref lym, .int (nI Pp), .int (nI n), .ref lyc, .ref lyf, .ref lyq])), (lyq, .inl (E.2.1 1, 4, .inl fq))]) C hT [0, 1] rfl rfl rfl rfl dX3_pairsOfCases_33 (⟨rfl, (by have h9 : i1 = 4 := (by omega); rw [h9] at hpc; exact hpc)⟩)
      · have zc_1 : ((i1 : Nat) : Int) < 4 := i_nle rfl (nI_toInt (n := i1) (by omega)) c_1
        refine ww_iload_n C dX3_pairsOfCases_9 3 rfl rfl ?_
        refine ww_iload_n C dX3_pairsOfCases_10 0 rfl rfl ?_
        refine ww_ci (wr := [(ly, .inr (3, [.ref lym, .int (nI Pp), .int (nI n), .ref lyc, .ref lyf, .ref lyq])), (lyq, .inl (E.2.1 1, 4, .inl fq))]) (k' := 0) (n' := 0) C (run_SN (As := [.int bs, .int (nI i1)]) (rest := []) C (c_hasN X.2.1 E ro bs i1 (by omega)) ms_X11_has (List.mem_of_getElem? (i := 16) rfl) rfl rfl rfl rfl dX3_pairsOfCases_11) (roK hro) [] [0, 1] rfl rfl rfl rfl (fun r_2 uz hw => ?_)
        rcases hw with hw | hw
        · refine an2 hw ?_
          clear hw
          intro he_4 he_5 hw
          have h_3 := hw
          clear hw
          have he_4 := he_4.symm
          subst he_4
          subst he_5
          refine ww_eq (ws' := [(ly, .inr (3, [.ref lym, .int (nI Pp), .int (nI n), .ref lyc, .ref lyf, .ref lyq])), (lyq, .inl (E.2.1 1, 4, .inl fq))]) ?_ rfl rfl rfl
          refine ww_if_eq_f (tgt := 26) C dX3_pairsOfCases_14 (by decide) (by decide) ?_
          refine ww_iload_n C dX3_pairsOfCases_17 1 rfl rfl ?_
          refine ww_aload_n C dX3_pairsOfCases_18 2 rfl rfl ?_
          refine ww_get C fg_X3_25 0 rfl rfl dX3_pairsOfCases_19 ?_
          refine ww_iload_n C dX3_pairsOfCases_22 0 rfl rfl ?_
          obtain ⟨x_9, ex_9⟩ : ∃ z : Int32, fq i1 = z := ⟨_, rfl⟩
          refine ww_iald (v := x_9) C 1 rfl (vp_in_nI (by omega) (by omega)) (ldn (by omega) ex_9) dX3_pairsOfCases_23 ?_
          obtain ⟨x_10, ex_10⟩ : ∃ z : Int32, ac ||| x_9 = z := ⟨_, rfl⟩
          refine ww_ior (v := x_10) C dX3_pairsOfCases_24 ex_10 ?_
          refine ww_istore_n (lv' := [(2, .int x_10), (3, .int (nI i1)), (0, .ref ly), (1, .int bs)]) C dX3_pairsOfCases_25 rfl rfl rfl ?_
          refine ww_iinc (j := 1) (v := (nI (i1 + 1))) (lv' := [(3, .int (nI (i1 + 1))), (2, .int x_10), (0, .ref ly), (1, .int bs)]) C dX3_pairsOfCases_26 rfl (nI_add i1 1) rfl rfl ?_
          refine ww_goto (tgt := 4) C dX3_pairsOfCases_29 (by decide) ?_
          exact ww_lv [0, 1, 2, 3] rfl (ww_sub [0, 1] rfl rfl (ih_4 (i1 + 1) x_10 (by omega) (PCx.t hpc hQ (by omega) h_3 ex_9 ex_10) (by omega)))
        · refine an2 hw ?_
          clear hw
          intro he_7 he_8 hw
          have h_6 := hw
          clear hw
          have he_7 := he_7.symm
          subst he_7
          subst he_8
          refine ww_eq (ws' := [(ly, .inr (3, [.ref lym, .int (nI Pp), .int (nI n), .ref lyc, .ref lyf, .ref lyq])), (lyq, .inl (E.2.1 1, 4, .inl fq))]) ?_ rfl rfl rfl
          refine ww_if_eq_t (tgt := 26) C dX3_pairsOfCases_14 (by decide) (rfl) ?_
          refine ww_iinc (j := 0) (v := (nI (i1 + 1))) (lv' := [(3, .int (nI (i1 + 1))), (2, .int ac), (0, .ref ly), (1, .int bs)]) C dX3_pairsOfCases_26 rfl (nI_add i1 1) rfl rfl ?_
          refine ww_goto (tgt := 4) C dX3_pairsOfCases_29 (by decide) ?_
          exact ww_lv [0, 1, 2, 3] rfl (ww_sub [0, 1] rfl rfl (ih_4 (i1 + 1) ac (by omega) (PCx.f hpc h_6) (by omega)))
  exact ww_lv [0, 1, 2, 3] rfl (ww_sub [0, 1] rfl rfl (loop_4 _ 0 0 (by omega) (PCx.nil (M := 4 * n)) (Nat.lt_succ_self _)))
theorem dX3_holdPairs_0 : decode cX3_holdPairs 0 = .ok (.aload_n 0, 1) := by decide +kernel
theorem dX3_holdPairs_1 : decode cX3_holdPairs 1 = .ok (.aload_n 1, 1) := by decide +kernel
theorem dX3_holdPairs_2 : decode cX3_holdPairs 2 = .ok (.iload_n 3, 1) := by decide +kernel
theorem dX3_holdPairs_3 : decode cX3_holdPairs 3 = .ok (.iload 4, 2) := by decide +kernel
theorem dX3_holdPairs_5 : decode cX3_holdPairs 5 = .ok (.invokevirtual 96, 3) := by decide +kernel
theorem wl_X3_96 : Cond.methodLink RX3 96 yX4_held ∈ TB := tbm (tq4 (List.mem_of_getElem? (i := 25) (by decide +kernel))) (by decide +kernel)
theorem dX3_holdPairs_8 : decode cX3_holdPairs 8 = .ok (.invokevirtual 99, 3) := by decide +kernel
theorem wl_X3_99 : Cond.methodLink RX3 99 yX3_pairsOfWorlds ∈ TB := tbm (tq4 (List.mem_of_getElem? (i := 26) (by decide +kernel))) (by decide +kernel)
theorem wc_X3_pairsOfWorlds : Cond.code yX3_pairsOfWorlds cX3_pairsOfWorlds 4 (some .int) ∈ TB := tbm (tq4 (List.mem_of_getElem? (i := 29) (rfl))) (by decide +kernel)
theorem wn_X3 : Cond.initialized RX3 ∈ TB := tbm (tq1 (List.mem_of_getElem? (i := 7) (by decide +kernel))) (by decide +kernel)
theorem wi_X3_pairsOfWorlds : Cond.instanceMethod yX3_pairsOfWorlds ∈ TB := tbm (tq4 (List.mem_of_getElem? (i := 28) (by decide +kernel))) (by decide +kernel)
theorem ws_X3_pairsOfWorlds : Cond.selects RX3 yX3_pairsOfWorlds yX3_pairsOfWorlds ∈ TB := tbm (tq0 (List.mem_of_getElem? (i := 18) (by decide +kernel))) (by decide +kernel)
theorem mi_X3_pairsOfWorlds : MI yX3_pairsOfWorlds cX3_pairsOfWorlds 4 (some .int) 1 := ⟨wc_X3_pairsOfWorlds, wn_X3, ⟨by decide +kernel, by decide +kernel, by decide +kernel⟩, wi_X3_pairsOfWorlds, ws_X3_pairsOfWorlds⟩
theorem dX3_holdPairs_11 : decode cX3_holdPairs 11 = .ok (.istore 5, 2) := by decide +kernel
theorem dX3_holdPairs_13 : decode cX3_holdPairs 13 = .ok (.iconst 0, 1) := by decide +kernel
theorem dX3_holdPairs_14 : decode cX3_holdPairs 14 = .ok (.istore 6, 2) := by decide +kernel
theorem dX3_holdPairs_16 : decode cX3_holdPairs 16 = .ok (.iload 6, 2) := by decide +kernel
theorem dX3_holdPairs_18 : decode cX3_holdPairs 18 = .ok (.aload_n 2, 1) := by decide +kernel
theorem dX3_holdPairs_19 : decode cX3_holdPairs 19 = .ok (.getfield 35, 3) := by decide +kernel
theorem dX3_holdPairs_22 : decode cX3_holdPairs 22 = .ok (.if_icmp .ge 63, 3) := by decide +kernel
theorem dX3_holdPairs_85 : decode cX3_holdPairs 85 = .ok (.return_, 1) := by decide +kernel
theorem dX3_holdPairs_25 : decode cX3_holdPairs 25 = .ok (.aload_n 0, 1) := by decide +kernel
theorem dX3_holdPairs_26 : decode cX3_holdPairs 26 = .ok (.iload 4, 2) := by decide +kernel
theorem dX3_holdPairs_28 : decode cX3_holdPairs 28 = .ok (.iload 6, 2) := by decide +kernel
theorem dX3_holdPairs_30 : decode cX3_holdPairs 30 = .ok (.invokevirtual 70, 3) := by decide +kernel
theorem wl_X3_70 : Cond.methodLink RX3 70 yX3_lets ∈ TB := tbm (tq4 (List.mem_of_getElem? (i := 11) (by decide +kernel))) (by decide +kernel)
theorem wc_X3_lets : Cond.code yX3_lets cX3_lets 3 (some .boolean) ∈ TB := tbm (tq4 (List.mem_of_getElem? (i := 14) (rfl))) (by decide +kernel)
theorem wi_X3_lets : Cond.instanceMethod yX3_lets ∈ TB := tbm (tq4 (List.mem_of_getElem? (i := 12) (by decide +kernel))) (by decide +kernel)
theorem ws_X3_lets : Cond.selects RX3 yX3_lets yX3_lets ∈ TB := tbm (tq4 (List.mem_of_getElem? (i := 13) (by decide +kernel))) (by decide +kernel)
theorem mi_X3_lets : MI yX3_lets cX3_lets 3 (some .boolean) 2 := ⟨wc_X3_lets, wn_X3, ⟨by decide +kernel, by decide +kernel, by decide +kernel⟩, wi_X3_lets, ws_X3_lets⟩
theorem dX3_holdPairs_33 : decode cX3_holdPairs 33 = .ok (.ifCond .eq 46, 3) := by decide +kernel
theorem dX3_holdPairs_36 : decode cX3_holdPairs 36 = .ok (.aload_n 0, 1) := by decide +kernel
theorem dX3_holdPairs_37 : decode cX3_holdPairs 37 = .ok (.aload_n 2, 1) := by decide +kernel
theorem dX3_holdPairs_38 : decode cX3_holdPairs 38 = .ok (.getfield 102, 3) := by decide +kernel
theorem wf_X3_102 : Cond.fieldLink RX3 102 RX0 "possible" "[I" ∈ TB := tbm (tq1 (List.mem_of_getElem? (i := 166) (by decide +kernel))) (by decide +kernel)
theorem fg_X3_102 : FG RX3 102 0 5 := ⟨RX0, TX0, 6, uw_X0, wf_X3_102, rfl, by decide, rfl⟩
theorem dX3_holdPairs_41 : decode cX3_holdPairs 41 = .ok (.iload_n 3, 1) := by decide +kernel
theorem dX3_holdPairs_42 : decode cX3_holdPairs 42 = .ok (.iconst 4, 1) := by decide +kernel
theorem dX3_holdPairs_43 : decode cX3_holdPairs 43 = .ok (.imul, 1) := by decide +kernel
theorem dX3_holdPairs_44 : decode cX3_holdPairs 44 = .ok (.iload 6, 2) := by decide +kernel
theorem dX3_holdPairs_46 : decode cX3_holdPairs 46 = .ok (.iadd, 1) := by decide +kernel
theorem dX3_holdPairs_47 : decode cX3_holdPairs 47 = .ok (.iaload, 1) := by decide +kernel
theorem dX3_holdPairs_48 : decode cX3_holdPairs 48 = .ok (.invokevirtual 105, 3) := by decide +kernel
theorem wl_X3_105 : Cond.methodLink RX3 105 yX3_pairsOfCases ∈ TB := tbm (tq4 (List.mem_of_getElem? (i := 30) (by decide +kernel))) (by decide +kernel)
theorem wc_X3_pairsOfCases : Cond.code yX3_pairsOfCases cX3_pairsOfCases 4 (some .int) ∈ TB := tbm (tq4 (List.mem_of_getElem? (i := 33) (rfl))) (by decide +kernel)
theorem wi_X3_pairsOfCases : Cond.instanceMethod yX3_pairsOfCases ∈ TB := tbm (tq4 (List.mem_of_getElem? (i := 32) (by decide +kernel))) (by decide +kernel)
theorem ws_X3_pairsOfCases : Cond.selects RX3 yX3_pairsOfCases yX3_pairsOfCases ∈ TB := tbm (tq0 (List.mem_of_getElem? (i := 19) (by decide +kernel))) (by decide +kernel)
theorem mi_X3_pairsOfCases : MI yX3_pairsOfCases cX3_pairsOfCases 4 (some .int) 1 := ⟨wc_X3_pairsOfCases, wn_X3, ⟨by decide +kernel, by decide +kernel, by decide +kernel⟩, wi_X3_pairsOfCases, ws_X3_pairsOfCases⟩
theorem dX3_holdPairs_51 : decode cX3_holdPairs 51 = .ok (.istore 7, 2) := by decide +kernel
theorem dX3_holdPairs_53 : decode cX3_holdPairs 53 = .ok (.aload_n 0, 1) := by decide +kernel
theorem dX3_holdPairs_54 : decode cX3_holdPairs 54 = .ok (.getfield 12, 3) := by decide +kernel
theorem wf_X3_12 : Cond.fieldLink RX3 12 RX3 "behind" "LWhoKnows$Model;" ∈ TB := tbm (tq1 (List.mem_of_getElem? (i := 187) (by decide +kernel))) (by decide +kernel)
theorem fg_X3_12 : FG RX3 12 3 0 := ⟨RX3, TX3, 6, uw_X3, wf_X3_12, rfl, by decide, rfl⟩
theorem dX3_holdPairs_57 : decode cX3_holdPairs 57 = .ok (.getfield 108, 3) := by decide +kernel
theorem wf_X3_108 : Cond.fieldLink RX3 108 RX4 "possible" "[I" ∈ TB := tbm (tq1 (List.mem_of_getElem? (i := 50) (by decide +kernel))) (by decide +kernel)
theorem fg_X3_108 : FG RX3 108 4 3 := ⟨RX4, TX4, 4, uw_X4, wf_X3_108, rfl, by decide, rfl⟩
theorem dX3_holdPairs_60 : decode cX3_holdPairs 60 = .ok (.iload_n 3, 1) := by decide +kernel
theorem dX3_holdPairs_61 : decode cX3_holdPairs 61 = .ok (.bipush 24, 2) := by decide +kernel
theorem dX3_holdPairs_63 : decode cX3_holdPairs 63 = .ok (.imul, 1) := by decide +kernel
theorem dX3_holdPairs_64 : decode cX3_holdPairs 64 = .ok (.aload_n 0, 1) := by decide +kernel
theorem dX3_holdPairs_65 : decode cX3_holdPairs 65 = .ok (.iload 4, 2) := by decide +kernel
theorem dX3_holdPairs_67 : decode cX3_holdPairs 67 = .ok (.iload 6, 2) := by decide +kernel
theorem dX3_holdPairs_69 : decode cX3_holdPairs 69 = .ok (.invokevirtual 93, 3) := by decide +kernel
theorem wl_X3_93 : Cond.methodLink RX3 93 yX3_pair ∈ TB := tbm (tq4 (List.mem_of_getElem? (i := 34) (by decide +kernel))) (by decide +kernel)
theorem wc_X3_pair : Cond.code yX3_pair cX3_pair 3 (some .int) ∈ TB := tbm (tq4 (List.mem_of_getElem? (i := 37) (rfl))) (by decide +kernel)
theorem wi_X3_pair : Cond.instanceMethod yX3_pair ∈ TB := tbm (tq4 (List.mem_of_getElem? (i := 36) (by decide +kernel))) (by decide +kernel)
theorem ws_X3_pair : Cond.selects RX3 yX3_pair yX3_pair ∈ TB := tbm (tq0 (List.mem_of_getElem? (i := 20) (by decide +kernel))) (by decide +kernel)
theorem mi_X3_pair : MI yX3_pair cX3_pair 3 (some .int) 2 := ⟨wc_X3_pair, wn_X3, ⟨by decide +kernel, by decide +kernel, by decide +kernel⟩, wi_X3_pair, ws_X3_pair⟩
theorem dX3_holdPairs_72 : decode cX3_holdPairs 72 = .ok (.iadd, 1) := by decide +kernel
theorem dX3_holdPairs_73 : decode cX3_holdPairs 73 = .ok (.iload 5, 2) := by decide +kernel
theorem dX3_holdPairs_75 : decode cX3_holdPairs 75 = .ok (.iload 7, 2) := by decide +kernel
theorem dX3_holdPairs_77 : decode cX3_holdPairs 77 = .ok (.iand, 1) := by decide +kernel
theorem dX3_holdPairs_78 : decode cX3_holdPairs 78 = .ok (.iastore, 1) := by decide +kernel
theorem dX3_holdPairs_79 : decode cX3_holdPairs 79 = .ok (.iinc 6 1, 3) := by decide +kernel
theorem dX3_holdPairs_82 : decode cX3_holdPairs 82 = .ok (.goto (-66), 3) := by decide +kernel
set_option maxRecDepth 100000 in
set_option maxHeartbeats 4000000 in
theorem l_holdPairs (l : Launch) (E : EV) (ro : va_W) (ly : Nat) (h : Nat) (e : Nat) (k : Nat) (w : Nat) (lym : Nat) (Pp : Nat) (n : Nat) (lyc : Nat) (lyf : Nat) (lyq : Nat) (cf : Nat → Int32) (ff : Nat → Int32) (fq : Nat → Int32) (bn : Nat) (br : Nat) (lyx : Nat) (lyy : Nat) (bf : Nat → Int32) (bg : Nat → Int32) (r : Nat) (a : Nat) (b : Nat) (f : Nat → Int32) (gg : Nat → Int32) (ecs : Nat) (erc : Nat) (eT : Nat → Option SVal) (efb : Nat → Int32) (efc : Nat → Int32) (efd : Nat → Int32) (hn : n ≤ 24) (hr : r < n ∨ r = 0) (hev : EVr E ro e ecs erc eT efb efc efd) (hL : LYR n cf ff Pp) (hP : Pp ≤ 24) (hk : k < 4) (hw : w < n) (hM : LYM n (lyP (am n r f gg) (ecs, erc, eT, efb, efc, efd)) cf) (hQ : PQx (lyP (am n r f gg) (ecs, erc, eT, efb, efc, efd)) (4 * n) (4 * n) fq) (hPR : PRx (lyP (am n r f gg) (ecs, erc, eT, efb, efc, efd)) (4 * n) k (4 * w) (lyR (am n r f gg) (ecs, erc, eT, efb, efc, efd)) bg) : CT l yX3_holdPairs (Cond.code yX3_holdPairs cX3_holdPairs 8 none :: TB) ({ frames := 2, cells := 0, slots := 0, locals := 44 }) E ro [.ref ly, .ref h, .ref e, .int (nI k), .int (nI w)] [(ly, .inr (3, [.ref lym, .int (nI Pp), .int (nI n), .ref lyc, .ref lyf, .ref lyq])), (lyc, .inl (E.2.1 1, 24, .inl cf)), (lyf, .inl (E.2.1 1, 24, .inl ff)), (lyq, .inl (E.2.1 1, 4, .inl fq)), (lym, .inr (4, [.int (nI bn), .int (nI br), .ref lyx, .ref lyy])), (lyx, .inl (E.2.1 1, 24, .inl bf)), (lyy, .inl (E.2.1 1, 96, .inl bg)), (h, .inr (4, [.int (nI n), .int (nI r), .ref a, .ref b])), (a, .inl (E.2.1 1, 24, .inl f)), (b, .inl (E.2.1 1, 96, .inl gg))] (Qv E (fun uz => (∃ (bg2 : Nat → Int32), uz = [(ly, .inr (3, [.ref lym, .int (nI Pp), .int (nI n), .ref lyc, .ref lyf, .ref lyq])), (lyc, .inl (E.2.1 1, 24, .inl cf)), (lyf, .inl (E.2.1 1, 24, .inl ff)), (lyq, .inl (E.2.1 1, 4, .inl fq)), (lym, .inr (4, [.int (nI bn), .int (nI br), .ref lyx, .ref lyy])), (lyx, .inl (E.2.1 1, 24, .inl bf)), (lyy, .inl (E.2.1 1, 96, .inl bg2)), (h, .inr (4, [.int (nI n), .int (nI r), .ref a, .ref b])), (a, .inl (E.2.1 1, 24, .inl f)), (b, .inl (E.2.1 1, 96, .inl gg))] ∧ (PRx (lyP (am n r f gg) (ecs, erc, eT, efb, efc, efd)) (4 * n) k (4 * w + 4) (lyR (am n r f gg) (ecs, erc, eT, efb, efc, efd)) bg2)))) 0 0 := by
  refine ct_of rfl rfl ?_
  intro X C hT hin hro
  show WW X 8 E 0 [(0, .ref ly), (1, .ref h), (2, .ref e), (3, .int (nI k)), (4, .int (nI w))] [] [(ly, .inr (3, [.ref lym, .int (nI Pp), .int (nI n), .ref lyc, .ref lyf, .ref lyq])), (lyc, .inl (E.2.1 1, 24, .inl cf)), (lyf, .inl (E.2.1 1, 24, .inl ff)), (lyq, .inl (E.2.1 1, 4, .inl fq)), (lym, .inr (4, [.int (nI bn), .int (nI br), .ref lyx, .ref lyy])), (lyx, .inl (E.2.1 1, 24, .inl bf)), (lyy, .inl (E.2.1 1, 96, .inl bg)), (h, .inr (4, [.int (nI n), .int (nI r), .ref a, .ref b])), (a, .inl (E.2.1 1, 24, .inl f)), (b, .inl (E.2.1 1, 96, .inl gg))] 0 0
  obtain ⟨i0y_1, i1y_1, i2y_1, i3y_1, i4y_1, cay_1, cby_1, ccy_1, cdy_1, fiy_1, g0y_1, g1y_1, g2y_1, g3y_1, g4y_1, hcsy_1, hrcy_1, hfiy_1⟩ := id hev
  have hecs := hev.cs
  have herc := hev.rc
  refine ww_aload_n C dX3_holdPairs_0 0 rfl rfl ?_
  refine ww_aload_n C dX3_holdPairs_1 1 rfl rfl ?_
  refine ww_iload_n C dX3_holdPairs_2 3 rfl rfl ?_
  refine ww_iload C dX3_holdPairs_3 4 rfl ?_
  refine ww_ci (wr := [(ly, .inr (3, [.ref lym, .int (nI Pp), .int (nI n), .ref lyc, .ref lyf, .ref lyq])), (lyc, .inl (E.2.1 1, 24, .inl cf)), (lyf, .inl (E.2.1 1, 24, .inl ff)), (lyq, .inl (E.2.1 1, 4, .inl fq)), (lym, .inr (4, [.int (nI bn), .int (nI br), .ref lyx, .ref lyy])), (lyx, .inl (E.2.1 1, 24, .inl bf)), (lyy, .inl (E.2.1 1, 96, .inl bg))]) (k' := 0) (n' := 0) C (run_V (As := [.int (nI k), .int (nI w)]) (rest := [.ref ly]) C (m_held X.2.1 E ro h k w n r a b f gg (by omega) (by omega)) mi_X4_held wl_X3_96 rfl 0 4 rfl rfl rfl rfl rfl dX3_holdPairs_5) (roK hro) [7, 8, 9] [0, 1, 2, 3, 4, 5, 6] rfl rfl rfl rfl (fun r_2 uz hw => ?_)
  refine an1 hw ?_
  clear hw
  intro he_3 hw
  have he_4 := hw
  clear hw
  have he_3 := he_3.symm
  subst he_3
  subst he_4
  refine ww_eq (ws' := [(ly, .inr (3, [.ref lym, .int (nI Pp), .int (nI n), .ref lyc, .ref lyf, .ref lyq])), (lyc, .inl (E.2.1 1, 24, .inl cf)), (lyf, .inl (E.2.1 1, 24, .inl ff)), (lyq, .inl (E.2.1 1, 4, .inl fq)), (lym, .inr (4, [.int (nI bn), .int (nI br), .ref lyx, .ref lyy])), (lyx, .inl (E.2.1 1, 24, .inl bf)), (lyy, .inl (E.2.1 1, 96, .inl bg)), (h, .inr (4, [.int (nI n), .int (nI r), .ref a, .ref b])), (a, .inl (E.2.1 1, 24, .inl f)), (b, .inl (E.2.1 1, 96, .inl gg))]) ?_ rfl rfl rfl
  refine ww_ci (wr := [(lyq, .inl (E.2.1 1, 4, .inl fq)), (lym, .inr (4, [.int (nI bn), .int (nI br), .ref lyx, .ref lyy])), (lyx, .inl (E.2.1 1, 24, .inl bf)), (lyy, .inl (E.2.1 1, 96, .inl bg)), (h, .inr (4, [.int (nI n), .int (nI r), .ref a, .ref b])), (a, .inl (E.2.1 1, 24, .inl f)), (b, .inl (E.2.1 1, 96, .inl gg))]) (k' := 0) (n' := 0) C (run_V (As := [.int (gg (k * 24 + w))]) (rest := []) C (l_pairsOfWorlds X.2.1 E ro ly (gg (k * 24 + w)) lym Pp n lyc lyf lyq cf ff (lyP (am n r f gg) (ecs, erc, eT, efb, efc, efd)) (by omega) hL hM (by omega)) mi_X3_pairsOfWorlds wl_X3_99 rfl 0 3 rfl rfl rfl rfl rfl dX3_holdPairs_8) (roK hro) [0, 1, 2] [3, 4, 5, 6, 7, 8, 9] rfl rfl rfl rfl (fun r_5 uz hw => ?_)
  refine an1 hw ?_
  clear hw
  intro he_7 hw
  have h_6 := hw
  clear hw
  subst he_7
  refine ww_eq (ws' := [(lyq, .inl (E.2.1 1, 4, .inl fq)), (lym, .inr (4, [.int (nI bn), .int (nI br), .ref lyx, .ref lyy])), (lyx, .inl (E.2.1 1, 24, .inl bf)), (lyy, .inl (E.2.1 1, 96, .inl bg)), (h, .inr (4, [.int (nI n), .int (nI r), .ref a, .ref b])), (a, .inl (E.2.1 1, 24, .inl f)), (b, .inl (E.2.1 1, 96, .inl gg)), (ly, .inr (3, [.ref lym, .int (nI Pp), .int (nI n), .ref lyc, .ref lyf, .ref lyq])), (lyc, .inl (E.2.1 1, 24, .inl cf)), (lyf, .inl (E.2.1 1, 24, .inl ff))]) ?_ rfl rfl rfl
  refine ww_istore (lv' := [(5, .int r_5), (0, .ref ly), (1, .ref h), (2, .ref e), (3, .int (nI k)), (4, .int (nI w))]) C dX3_holdPairs_11 rfl rfl ?_
  refine ww_iconst (v := 0) C dX3_holdPairs_13 rfl ?_
  refine ww_istore (lv' := [(6, .int 0), (5, .int r_5), (0, .ref ly), (1, .ref h), (2, .ref e), (3, .int (nI k)), (4, .int (nI w))]) C dX3_holdPairs_14 rfl rfl ?_
  have loop_16 : ∀ (fu : Nat) (i1 : Nat) (g1 : Nat → Int32), (i1 ≤ ecs) → (PRx (lyP (am n r f gg) (ecs, erc, eT, efb, efc, efd)) (4 * n) k (4 * w + i1) (lyR (am n r f gg) (ecs, erc, eT, efb, efc, efd)) g1) → ecs - i1 < fu → WW X 8 E 16 [(6, .int (nI i1)), (5, .int r_5), (0, .ref ly), (1, .ref h), (2, .ref e), (3, .int (nI k)), (4, .int (nI w))] [] [(lyq, .inl (E.2.1 1, 4, .inl fq)), (lym, .inr (4, [.int (nI bn), .int (nI br), .ref lyx, .ref lyy])), (lyx, .inl (E.2.1 1, 24, .inl bf)), (lyy, .inl (E.2.1 1, 96, .inl g1)), (h, .inr (4, [.int (nI n), .int (nI r), .ref a, .ref b])), (a, .inl (E.2.1 1, 24, .inl f)), (b, .inl (E.2.1 1, 96, .inl gg)), (ly, .inr (3, [.ref lym, .int (nI Pp), .int (nI n), .ref lyc, .ref lyf, .ref lyq])), (lyc, .inl (E.2.1 1, 24, .inl cf)), (lyf, .inl (E.2.1 1, 24, .inl ff))] 0 0 := by
    intro fu
    induction fu with
    | zero => intro i1 g1 hi1 hpr1 hmeas; exact absurd hmeas (Nat.not_lt_zero _)
    | succ fu ih_16 =>
      intro i1 g1 hi1 hpr1 hmeas
      refine ww_iload C dX3_holdPairs_16 0 rfl ?_
      refine ww_aload_n C dX3_holdPairs_18 4 rfl rfl ?_
      refine ww_getR C hro fg_X3_35 i0y_1 g0y_1 rfl dX3_holdPairs_19 ?_
      refine ww_icmp_ge (tgt := 85) C dX3_holdPairs_22 (by decide) (fun c_8 => ?_) (fun c_8 => ?_)
      · have zc_8 : ((i1 : Nat) : Int) ≥ ((ecs : Nat) : Int) := i_le (nI_toInt (n := ecs) (by omega)) (nI_toInt (n := i1) (by omega)) c_8
        exact ww_vret (u := [(ly, .inr (3, [.ref lym, .int (nI Pp), .int (nI n), .ref lyc, .ref lyf, .ref lyq])), (lyc, .inl (E.2.1 1, 24, .inl cf)), (lyf, .inl (E.2.1 1, 24, .inl ff)), (lyq, .inl (E.2.1 1, 4, .inl fq)), (lym, .inr (4, [.int (nI bn), .int (nI br), .ref lyx, .ref lyy])), (lyx, .inl (E.2.1 1, 24, .inl bf)), (lyy, .inl (E.2.1 1, 96, .inl g1)), (h, .inr (4, [.int (nI n), .int (nI r), .ref a, .ref b])), (a, .inl (E.2.1 1, 24, .inl f)), (b, .inl (E.2.1 1, 96, .inl gg))]) C hT [7, 8, 9, 0, 1, 2, 3, 4, 5, 6] rfl rfl rfl rfl dX3_holdPairs_85 (⟨g1, rfl, (PRx.fs hpr1 (by omega) (lyP_nos (by show ecs ≤ i1; omega)))⟩)
      · have zc_8 : ((i1 : Nat) : Int) < ((ecs : Nat) : Int) := i_nle (nI_toInt (n := ecs) (by omega)) (nI_toInt (n := i1) (by omega)) c_8
        refine ww_aload_n C dX3_holdPairs_25 2 rfl rfl ?_
        refine ww_iload C dX3_holdPairs_26 6 rfl ?_
        refine ww_iload C dX3_holdPairs_28 0 rfl ?_
        refine ww_ci (wr := [(lyq, .inl (E.2.1 1, 4, .inl fq)), (lym, .inr (4, [.int (nI bn), .int (nI br), .ref lyx, .ref lyy])), (lyx, .inl (E.2.1 1, 24, .inl bf)), (lyy, .inl (E.2.1 1, 96, .inl g1)), (h, .inr (4, [.int (nI n), .int (nI r), .ref a, .ref b])), (a, .inl (E.2.1 1, 24, .inl f)), (b, .inl (E.2.1 1, 96, .inl gg)), (lyf, .inl (E.2.1 1, 24, .inl ff))]) (k' := 0) (n' := 0) C (run_V (As := [.int (nI w), .int (nI i1)]) (rest := []) C (l_lets X.2.1 E ro ly w i1 lym Pp n lyc lyf lyq cf (by omega) (by omega) (by omega) hL.1) mi_X3_lets wl_X3_70 rfl 0 3 rfl rfl rfl rfl rfl dX3_holdPairs_30) (roK hro) [7, 8] [0, 1, 2, 3, 4, 5, 6, 9] rfl rfl rfl rfl (fun r_9 uz hw => ?_)
        rcases hw with hw | hw
        · refine an3 hw ?_
          clear hw
          intro he_12 he_13 h_10 hw
          have h_11 := hw
          clear hw
          have he_12 := he_12.symm
          subst he_12
          subst he_13
          refine ww_eq (ws' := [(lyq, .inl (E.2.1 1, 4, .inl fq)), (lym, .inr (4, [.int (nI bn), .int (nI br), .ref lyx, .ref lyy])), (lyx, .inl (E.2.1 1, 24, .inl bf)), (lyy, .inl (E.2.1 1, 96, .inl g1)), (h, .inr (4, [.int (nI n), .int (nI r), .ref a, .ref b])), (a, .inl (E.2.1 1, 24, .inl f)), (b, .inl (E.2.1 1, 96, .inl gg)), (lyf, .inl (E.2.1 1, 24, .inl ff)), (ly, .inr (3, [.ref lym, .int (nI Pp), .int (nI n), .ref lyc, .ref lyf, .ref lyq])), (lyc, .inl (E.2.1 1, 24, .inl cf))]) ?_ rfl rfl rfl
          refine ww_if_eq_f (tgt := 79) C dX3_holdPairs_33 (by decide) (by decide) ?_
          have hlt_k_17 := LYR.lt hL (w := w) (c := i1) (by omega) (by omega) (by assumption)
          refine ww_aload_n C dX3_holdPairs_36 2 rfl rfl ?_
          refine ww_aload_n C dX3_holdPairs_37 4 rfl rfl ?_
          refine ww_getR C hro fg_X3_102 i0y_1 g0y_1 rfl dX3_holdPairs_38 ?_
          refine ww_iload_n C dX3_holdPairs_41 5 rfl rfl ?_
          refine ww_iconst (v := 4) C dX3_holdPairs_42 rfl ?_
          refine ww_imul (v := (nI (k * 4))) C dX3_holdPairs_43 (pk_mul k 4) ?_
          refine ww_iload C dX3_holdPairs_44 0 rfl ?_
          refine ww_iadd (v := (nI ((k * 4) + i1))) C dX3_holdPairs_46 (nI_add (k * 4) i1) ?_
          obtain ⟨x_18, ex_18⟩ : ∃ z : Int32, efd ((k * 4) + i1) = z := ⟨_, rfl⟩
          refine ww_ialdR (v := x_18) C hro i4y_1 g4y_1 (vp_in_nI (by omega) (by omega)) (ldn (by omega) ex_18) dX3_holdPairs_47 ?_
          refine ww_ci (wr := [(lym, .inr (4, [.int (nI bn), .int (nI br), .ref lyx, .ref lyy])), (lyx, .inl (E.2.1 1, 24, .inl bf)), (lyy, .inl (E.2.1 1, 96, .inl g1)), (h, .inr (4, [.int (nI n), .int (nI r), .ref a, .ref b])), (a, .inl (E.2.1 1, 24, .inl f)), (b, .inl (E.2.1 1, 96, .inl gg)), (lyf, .inl (E.2.1 1, 24, .inl ff)), (lyc, .inl (E.2.1 1, 24, .inl cf))]) (k' := 0) (n' := 0) C (run_V (As := [.int x_18]) (rest := []) C (l_pairsOfCases X.2.1 E ro ly x_18 lym Pp n lyc lyf lyq fq (lyP (am n r f gg) (ecs, erc, eT, efb, efc, efd)) hQ) mi_X3_pairsOfCases wl_X3_105 rfl 0 3 rfl rfl rfl rfl rfl dX3_holdPairs_48) (roK hro) [8, 0] [1, 2, 3, 4, 5, 6, 7, 9] rfl rfl rfl rfl (fun r_19 uz hw => ?_)
          refine an1 hw ?_
          clear hw
          intro he_21 hw
          have h_20 := hw
          clear hw
          subst he_21
          refine ww_eq (ws' := [(lym, .inr (4, [.int (nI bn), .int (nI br), .ref lyx, .ref lyy])), (lyx, .inl (E.2.1 1, 24, .inl bf)), (lyy, .inl (E.2.1 1, 96, .inl g1)), (h, .inr (4, [.int (nI n), .int (nI r), .ref a, .ref b])), (a, .inl (E.2.1 1, 24, .inl f)), (b, .inl (E.2.1 1, 96, .inl gg)), (lyf, .inl (E.2.1 1, 24, .inl ff)), (lyc, .inl (E.2.1 1, 24, .inl cf)), (ly, .inr (3, [.ref lym, .int (nI Pp), .int (nI n), .ref lyc, .ref lyf, .ref lyq])), (lyq, .inl (E.2.1 1, 4, .inl fq))]) ?_ rfl rfl rfl
          refine ww_istore (lv' := [(7, .int r_19), (6, .int (nI i1)), (5, .int r_5), (0, .ref ly), (1, .ref h), (2, .ref e), (3, .int (nI k)), (4, .int (nI w))]) C dX3_holdPairs_51 rfl rfl ?_
          refine ww_aload_n C dX3_holdPairs_53 3 rfl rfl ?_
          refine ww_get C fg_X3_12 8 rfl rfl dX3_holdPairs_54 ?_
          refine ww_get C fg_X3_108 0 rfl rfl dX3_holdPairs_57 ?_
          refine ww_iload_n C dX3_holdPairs_60 6 rfl rfl ?_
          refine ww_bipush (v := 24) C dX3_holdPairs_61 rfl ?_
          refine ww_imul (v := (nI (k * 24))) C dX3_holdPairs_63 (pk_mul k 24) ?_
          refine ww_aload_n C dX3_holdPairs_64 3 rfl rfl ?_
          refine ww_iload C dX3_holdPairs_65 7 rfl ?_
          refine ww_iload C dX3_holdPairs_67 1 rfl ?_
          refine ww_ci (wr := [(lym, .inr (4, [.int (nI bn), .int (nI br), .ref lyx, .ref lyy])), (lyx, .inl (E.2.1 1, 24, .inl bf)), (lyy, .inl (E.2.1 1, 96, .inl g1)), (h, .inr (4, [.int (nI n), .int (nI r), .ref a, .ref b])), (a, .inl (E.2.1 1, 24, .inl f)), (b, .inl (E.2.1 1, 96, .inl gg)), (lyq, .inl (E.2.1 1, 4, .inl fq))]) (k' := 0) (n' := 0) C (run_V (As := [.int (nI w), .int (nI i1)]) (rest := [.int (nI (k * 24)), .ref lyy]) C (l_pair X.2.1 E ro ly w i1 lym Pp n lyc lyf lyq cf ff (by omega) (by omega) (by omega) hL) mi_X3_pair wl_X3_93 rfl 0 3 rfl rfl rfl rfl rfl dX3_holdPairs_69) (roK hro) [8, 7, 6] [0, 1, 2, 3, 4, 5, 9] rfl rfl rfl rfl (fun r_22 uz hw => ?_)
          refine an1 hw ?_
          clear hw
          intro he_23 hw
          have he_24 := hw
          clear hw
          have he_23 := he_23.symm
          subst he_23
          subst he_24
          refine ww_eq (ws' := [(lym, .inr (4, [.int (nI bn), .int (nI br), .ref lyx, .ref lyy])), (lyx, .inl (E.2.1 1, 24, .inl bf)), (lyy, .inl (E.2.1 1, 96, .inl g1)), (h, .inr (4, [.int (nI n), .int (nI r), .ref a, .ref b])), (a, .inl (E.2.1 1, 24, .inl f)), (b, .inl (E.2.1 1, 96, .inl gg)), (lyq, .inl (E.2.1 1, 4, .inl fq)), (ly, .inr (3, [.ref lym, .int (nI Pp), .int (nI n), .ref lyc, .ref lyf, .ref lyq])), (lyc, .inl (E.2.1 1, 24, .inl cf)), (lyf, .inl (E.2.1 1, 24, .inl ff))]) ?_ rfl rfl rfl
          refine ww_iadd (v := (nI ((k * 24) + (pcs cf w + bi cf w i1)))) C dX3_holdPairs_72 (nI_add (k * 24) (pcs cf w + bi cf w i1)) ?_
          refine ww_iload C dX3_holdPairs_73 2 rfl ?_
          refine ww_iload C dX3_holdPairs_75 0 rfl ?_
          obtain ⟨x_25, ex_25⟩ : ∃ z : Int32, r_5 &&& r_19 = z := ⟨_, rfl⟩
          refine ww_iand (v := x_25) C dX3_holdPairs_77 ex_25 ?_
          obtain ⟨f_26, ef_26⟩ : ∃ z : Nat → Int32, upd g1 ((k * 24) + (pcs cf w + bi cf w i1)) x_25 = z := ⟨_, rfl⟩
          refine ww_iast (ws' := [(lym, .inr (4, [.int (nI bn), .int (nI br), .ref lyx, .ref lyy])), (lyx, .inl (E.2.1 1, 24, .inl bf)), (lyy, .inl (E.2.1 1, 96, .inl f_26)), (h, .inr (4, [.int (nI n), .int (nI r), .ref a, .ref b])), (a, .inl (E.2.1 1, 24, .inl f)), (b, .inl (E.2.1 1, 96, .inl gg)), (lyq, .inl (E.2.1 1, 4, .inl fq)), (ly, .inr (3, [.ref lym, .int (nI Pp), .int (nI n), .ref lyc, .ref lyf, .ref lyq])), (lyc, .inl (E.2.1 1, 24, .inl cf)), (lyf, .inl (E.2.1 1, 24, .inl ff))]) C 2 rfl (vp_in_nI (by omega) (by omega)) (ldn2 (by omega) ef_26) rfl dX3_holdPairs_78 ?_
          refine ww_iinc (j := 1) (v := (nI (i1 + 1))) (lv' := [(6, .int (nI (i1 + 1))), (7, .int r_19), (5, .int r_5), (0, .ref ly), (1, .ref h), (2, .ref e), (3, .int (nI k)), (4, .int (nI w))]) C dX3_holdPairs_79 rfl (nI_add i1 1) rfl rfl ?_
          refine ww_goto (tgt := 16) C dX3_holdPairs_82 (by decide) ?_
          exact ww_lv [0, 2, 3, 4, 5, 6, 7] rfl (ww_sub [6, 0, 1, 2, 3, 4, 5, 7, 8, 9] rfl rfl (ih_16 (i1 + 1) f_26 (by omega) (PRx.t (i := 4 * w + i1) hpr1 (by have h8 := hL.2.2; have h7 := ly_w hM n (Nat.le_refl _); omega) (by omega) hk (by rw [← hM w i1 (by omega) (by omega)]; exact h_11) (ly_cb hM (by omega) (by omega)) (hp_row (by omega) (by omega) hk h_6 rfl h_20 ex_18 ex_25) ef_26) (by omega)))
        · refine an2 hw ?_
          clear hw
          intro he_15 he_16 hw
          have h_14 := hw
          clear hw
          have he_15 := he_15.symm
          subst he_15
          subst he_16
          refine ww_eq (ws' := [(lyq, .inl (E.2.1 1, 4, .inl fq)), (lym, .inr (4, [.int (nI bn), .int (nI br), .ref lyx, .ref lyy])), (lyx, .inl (E.2.1 1, 24, .inl bf)), (lyy, .inl (E.2.1 1, 96, .inl g1)), (h, .inr (4, [.int (nI n), .int (nI r), .ref a, .ref b])), (a, .inl (E.2.1 1, 24, .inl f)), (b, .inl (E.2.1 1, 96, .inl gg)), (lyf, .inl (E.2.1 1, 24, .inl ff)), (ly, .inr (3, [.ref lym, .int (nI Pp), .int (nI n), .ref lyc, .ref lyf, .ref lyq])), (lyc, .inl (E.2.1 1, 24, .inl cf))]) ?_ rfl rfl rfl
          refine ww_if_eq_t (tgt := 79) C dX3_holdPairs_33 (by decide) (rfl) ?_
          refine ww_iinc (j := 0) (v := (nI (i1 + 1))) (lv' := [(6, .int (nI (i1 + 1))), (5, .int r_5), (0, .ref ly), (1, .ref h), (2, .ref e), (3, .int (nI k)), (4, .int (nI w))]) C dX3_holdPairs_79 rfl (nI_add i1 1) rfl rfl ?_
          refine ww_goto (tgt := 16) C dX3_holdPairs_82 (by decide) ?_
          exact ww_lv [0, 1, 2, 3, 4, 5, 6] rfl (ww_sub [0, 1, 2, 3, 4, 5, 6, 8, 9, 7] rfl rfl (ih_16 (i1 + 1) g1 (by omega) (PRx.f (i := 4 * w + i1) hpr1 (by rw [← hM w i1 (by omega) (by omega)]; exact h_14 (by omega))) (by omega)))
  exact ww_lv [0, 1, 2, 3, 4, 5, 6] rfl (ww_sub [0, 1, 2, 3, 4, 5, 6, 7, 8, 9] rfl rfl (loop_16 _ 0 bg (by omega) hPR (Nat.lt_succ_self _)))
theorem dX3_build_0 : decode cX3_build 0 = .ok (.aload_n 0, 1) := by decide +kernel
theorem dX3_build_1 : decode cX3_build 1 = .ok (.getfield 12, 3) := by decide +kernel
theorem dX3_build_4 : decode cX3_build 4 = .ok (.invokevirtual 67, 3) := by decide +kernel
theorem wl_X3_67 : Cond.methodLink RX3 67 yX4_clear ∈ TB := tbm (tq4 (List.mem_of_getElem? (i := 7) (by decide +kernel))) (by decide +kernel)
theorem wc_X4_clear : Cond.code yX4_clear cX4_clear 1 none ∈ TB := tbm (tq4 (List.mem_of_getElem? (i := 10) (rfl))) (by decide +kernel)
theorem wi_X4_clear : Cond.instanceMethod yX4_clear ∈ TB := tbm (tq4 (List.mem_of_getElem? (i := 8) (by decide +kernel))) (by decide +kernel)
theorem ws_X4_clear : Cond.selects RX4 yX4_clear yX4_clear ∈ TB := tbm (tq4 (List.mem_of_getElem? (i := 9) (by decide +kernel))) (by decide +kernel)
theorem mi_X4_clear : MI yX4_clear cX4_clear 1 none 0 := ⟨wc_X4_clear, wn_X4, ⟨by decide +kernel, by decide +kernel, by decide +kernel⟩, wi_X4_clear, ws_X4_clear⟩
theorem dX3_build_7 : decode cX3_build 7 = .ok (.iconst 0, 1) := by decide +kernel
theorem dX3_build_8 : decode cX3_build 8 = .ok (.istore_n 3, 1) := by decide +kernel
theorem dX3_build_9 : decode cX3_build 9 = .ok (.iload_n 3, 1) := by decide +kernel
theorem dX3_build_10 : decode cX3_build 10 = .ok (.iconst 4, 1) := by decide +kernel
theorem dX3_build_11 : decode cX3_build 11 = .ok (.if_icmp .ge 16, 3) := by decide +kernel
theorem dX3_build_27 : decode cX3_build 27 = .ok (.iconst 0, 1) := by decide +kernel
theorem dX3_build_28 : decode cX3_build 28 = .ok (.istore_n 3, 1) := by decide +kernel
theorem dX3_build_29 : decode cX3_build 29 = .ok (.iload_n 3, 1) := by decide +kernel
theorem dX3_build_30 : decode cX3_build 30 = .ok (.aload_n 0, 1) := by decide +kernel
theorem dX3_build_31 : decode cX3_build 31 = .ok (.getfield 32, 3) := by decide +kernel
theorem dX3_build_34 : decode cX3_build 34 = .ok (.if_icmp .ge 68, 3) := by decide +kernel
theorem dX3_build_102 : decode cX3_build 102 = .ok (.iconst 0, 1) := by decide +kernel
theorem dX3_build_103 : decode cX3_build 103 = .ok (.istore_n 3, 1) := by decide +kernel
theorem dX3_build_104 : decode cX3_build 104 = .ok (.iload_n 3, 1) := by decide +kernel
theorem dX3_build_105 : decode cX3_build 105 = .ok (.iconst 4, 1) := by decide +kernel
theorem dX3_build_106 : decode cX3_build 106 = .ok (.if_icmp .ge 46, 3) := by decide +kernel
theorem dX3_build_152 : decode cX3_build 152 = .ok (.aload_n 0, 1) := by decide +kernel
theorem dX3_build_153 : decode cX3_build 153 = .ok (.getfield 12, 3) := by decide +kernel
theorem dX3_build_156 : decode cX3_build 156 = .ok (.aload_n 0, 1) := by decide +kernel
theorem dX3_build_157 : decode cX3_build 157 = .ok (.aload_n 1, 1) := by decide +kernel
theorem dX3_build_158 : decode cX3_build 158 = .ok (.getfield 87, 3) := by decide +kernel
theorem wf_X3_87 : Cond.fieldLink RX3 87 RX4 "realOne" "I" ∈ TB := tbm (tq1 (List.mem_of_getElem? (i := 42) (by decide +kernel))) (by decide +kernel)
theorem fg_X3_87 : FG RX3 87 4 1 := ⟨RX4, TX4, 4, uw_X4, wf_X3_87, rfl, by decide, rfl⟩
theorem dX3_build_161 : decode cX3_build 161 = .ok (.aload_n 2, 1) := by decide +kernel
theorem dX3_build_162 : decode cX3_build 162 = .ok (.getfield 90, 3) := by decide +kernel
theorem wf_X3_90 : Cond.fieldLink RX3 90 RX0 "realCase" "I" ∈ TB := tbm (tq1 (List.mem_of_getElem? (i := 156) (by decide +kernel))) (by decide +kernel)
theorem fg_X3_90 : FG RX3 90 0 1 := ⟨RX0, TX0, 6, uw_X0, wf_X3_90, rfl, by decide, rfl⟩
theorem dX3_build_165 : decode cX3_build 165 = .ok (.invokevirtual 70, 3) := by decide +kernel
theorem dX3_build_168 : decode cX3_build 168 = .ok (.ifCond .eq 18, 3) := by decide +kernel
theorem dX3_build_171 : decode cX3_build 171 = .ok (.aload_n 0, 1) := by decide +kernel
theorem dX3_build_172 : decode cX3_build 172 = .ok (.aload_n 1, 1) := by decide +kernel
theorem dX3_build_173 : decode cX3_build 173 = .ok (.getfield 87, 3) := by decide +kernel
theorem dX3_build_176 : decode cX3_build 176 = .ok (.aload_n 2, 1) := by decide +kernel
theorem dX3_build_177 : decode cX3_build 177 = .ok (.getfield 90, 3) := by decide +kernel
theorem dX3_build_180 : decode cX3_build 180 = .ok (.invokevirtual 93, 3) := by decide +kernel
theorem dX3_build_183 : decode cX3_build 183 = .ok (.goto 4, 3) := by decide +kernel
theorem dX3_build_187 : decode cX3_build 187 = .ok (.putfield 87, 3) := by decide +kernel
theorem fp_X3_87 : FP RX3 87 4 1 .int false := ⟨RX4, TX4, 4, tyX4, uw_X4, wf_X3_87, rfl, by decide, rfl, tyX4_ok, nmX4, rfl, by decide +kernel⟩
theorem dX3_build_190 : decode cX3_build 190 = .ok (.return_, 1) := by decide +kernel
theorem dX3_build_186 : decode cX3_build 186 = .ok (.iconst 0, 1) := by decide +kernel
theorem dX3_build_109 : decode cX3_build 109 = .ok (.iconst 0, 1) := by decide +kernel
theorem dX3_build_110 : decode cX3_build 110 = .ok (.istore 4, 2) := by decide +kernel
theorem dX3_build_112 : decode cX3_build 112 = .ok (.iload 4, 2) := by decide +kernel
theorem dX3_build_114 : decode cX3_build 114 = .ok (.aload_n 0, 1) := by decide +kernel
theorem dX3_build_115 : decode cX3_build 115 = .ok (.getfield 32, 3) := by decide +kernel
theorem dX3_build_118 : decode cX3_build 118 = .ok (.if_icmp .ge 28, 3) := by decide +kernel
theorem dX3_build_146 : decode cX3_build 146 = .ok (.iinc 3 1, 3) := by decide +kernel
theorem dX3_build_149 : decode cX3_build 149 = .ok (.goto (-45), 3) := by decide +kernel
theorem dX3_build_121 : decode cX3_build 121 = .ok (.aload_n 0, 1) := by decide +kernel
theorem dX3_build_122 : decode cX3_build 122 = .ok (.getfield 18, 3) := by decide +kernel
theorem dX3_build_125 : decode cX3_build 125 = .ok (.iload 4, 2) := by decide +kernel
theorem dX3_build_127 : decode cX3_build 127 = .ok (.iaload, 1) := by decide +kernel
theorem dX3_build_128 : decode cX3_build 128 = .ok (.ifCond .eq 12, 3) := by decide +kernel
theorem dX3_build_140 : decode cX3_build 140 = .ok (.iinc 4 1, 3) := by decide +kernel
theorem dX3_build_143 : decode cX3_build 143 = .ok (.goto (-31), 3) := by decide +kernel
theorem dX3_build_131 : decode cX3_build 131 = .ok (.aload_n 0, 1) := by decide +kernel
theorem dX3_build_132 : decode cX3_build 132 = .ok (.aload_n 1, 1) := by decide +kernel
theorem dX3_build_133 : decode cX3_build 133 = .ok (.aload_n 2, 1) := by decide +kernel
theorem dX3_build_134 : decode cX3_build 134 = .ok (.iload_n 3, 1) := by decide +kernel
theorem dX3_build_135 : decode cX3_build 135 = .ok (.iload 4, 2) := by decide +kernel
theorem dX3_build_137 : decode cX3_build 137 = .ok (.invokevirtual 83, 3) := by decide +kernel
theorem wl_X3_83 : Cond.methodLink RX3 83 yX3_holdPairs ∈ TB := tbm (tq4 (List.mem_of_getElem? (i := 21) (by decide +kernel))) (by decide +kernel)
theorem wc_X3_holdPairs : Cond.code yX3_holdPairs cX3_holdPairs 8 none ∈ TB := tbm (tq4 (List.mem_of_getElem? (i := 24) (rfl))) (by decide +kernel)
theorem wi_X3_holdPairs : Cond.instanceMethod yX3_holdPairs ∈ TB := tbm (tq4 (List.mem_of_getElem? (i := 23) (by decide +kernel))) (by decide +kernel)
theorem ws_X3_holdPairs : Cond.selects RX3 yX3_holdPairs yX3_holdPairs ∈ TB := tbm (tq0 (List.mem_of_getElem? (i := 17) (by decide +kernel))) (by decide +kernel)
theorem mi_X3_holdPairs : MI yX3_holdPairs cX3_holdPairs 8 none 4 := ⟨wc_X3_holdPairs, wn_X3, ⟨by decide +kernel, by decide +kernel, by decide +kernel⟩, wi_X3_holdPairs, ws_X3_holdPairs⟩
theorem dX3_build_37 : decode cX3_build 37 = .ok (.iconst 0, 1) := by decide +kernel
theorem dX3_build_38 : decode cX3_build 38 = .ok (.istore 4, 2) := by decide +kernel
theorem dX3_build_40 : decode cX3_build 40 = .ok (.iload 4, 2) := by decide +kernel
theorem dX3_build_42 : decode cX3_build 42 = .ok (.aload_n 2, 1) := by decide +kernel
theorem dX3_build_43 : decode cX3_build 43 = .ok (.getfield 35, 3) := by decide +kernel
theorem dX3_build_46 : decode cX3_build 46 = .ok (.if_icmp .ge 50, 3) := by decide +kernel
theorem dX3_build_96 : decode cX3_build 96 = .ok (.iinc 3 1, 3) := by decide +kernel
theorem dX3_build_99 : decode cX3_build 99 = .ok (.goto (-70), 3) := by decide +kernel
theorem dX3_build_49 : decode cX3_build 49 = .ok (.aload_n 0, 1) := by decide +kernel
theorem dX3_build_50 : decode cX3_build 50 = .ok (.iload_n 3, 1) := by decide +kernel
theorem dX3_build_51 : decode cX3_build 51 = .ok (.iload 4, 2) := by decide +kernel
theorem dX3_build_53 : decode cX3_build 53 = .ok (.invokevirtual 70, 3) := by decide +kernel
theorem dX3_build_56 : decode cX3_build 56 = .ok (.ifCond .eq 34, 3) := by decide +kernel
theorem dX3_build_59 : decode cX3_build 59 = .ok (.aload_n 0, 1) := by decide +kernel
theorem dX3_build_60 : decode cX3_build 60 = .ok (.getfield 25, 3) := by decide +kernel
theorem dX3_build_63 : decode cX3_build 63 = .ok (.iload 4, 2) := by decide +kernel
theorem dX3_build_65 : decode cX3_build 65 = .ok (.dup2, 1) := by decide +kernel
theorem dX3_build_66 : decode cX3_build 66 = .ok (.iaload, 1) := by decide +kernel
theorem dX3_build_67 : decode cX3_build 67 = .ok (.iconst 1, 1) := by decide +kernel
theorem dX3_build_68 : decode cX3_build 68 = .ok (.aload_n 0, 1) := by decide +kernel
theorem dX3_build_69 : decode cX3_build 69 = .ok (.getfield 12, 3) := by decide +kernel
theorem dX3_build_72 : decode cX3_build 72 = .ok (.aload_n 2, 1) := by decide +kernel
theorem dX3_build_73 : decode cX3_build 73 = .ok (.aload_n 1, 1) := by decide +kernel
theorem dX3_build_74 : decode cX3_build 74 = .ok (.getfield 73, 3) := by decide +kernel
theorem wf_X3_73 : Cond.fieldLink RX3 73 RX4 "facts" "[I" ∈ TB := tbm (tq1 (List.mem_of_getElem? (i := 47) (by decide +kernel))) (by decide +kernel)
theorem fg_X3_73 : FG RX3 73 4 2 := ⟨RX4, TX4, 4, uw_X4, wf_X3_73, rfl, by decide, rfl⟩
theorem dX3_build_77 : decode cX3_build 77 = .ok (.iload_n 3, 1) := by decide +kernel
theorem dX3_build_78 : decode cX3_build 78 = .ok (.iaload, 1) := by decide +kernel
theorem dX3_build_79 : decode cX3_build 79 = .ok (.iload 4, 2) := by decide +kernel
theorem dX3_build_81 : decode cX3_build 81 = .ok (.invokevirtual 76, 3) := by decide +kernel
theorem wl_X3_76 : Cond.methodLink RX3 76 yX0_changed ∈ TB := tbm (tq4 (List.mem_of_getElem? (i := 16) (by decide +kernel))) (by decide +kernel)
theorem wc_X0_changed : Cond.code yX0_changed cX0_changed 3 (some .int) ∈ TB := tbm (tq4 (List.mem_of_getElem? (i := 19) (rfl))) (by decide +kernel)
theorem wi_X0_changed : Cond.instanceMethod yX0_changed ∈ TB := tbm (tq4 (List.mem_of_getElem? (i := 17) (by decide +kernel))) (by decide +kernel)
theorem ws_X0_changed : Cond.selects RX0 yX0_changed yX0_changed ∈ TB := tbm (tq4 (List.mem_of_getElem? (i := 18) (by decide +kernel))) (by decide +kernel)
theorem mi_X0_changed : MI yX0_changed cX0_changed 3 (some .int) 2 := ⟨wc_X0_changed, wn_X0, ⟨by decide +kernel, by decide +kernel, by decide +kernel⟩, wi_X0_changed, ws_X0_changed⟩
theorem dX3_build_84 : decode cX3_build 84 = .ok (.invokevirtual 80, 3) := by decide +kernel
theorem wl_X3_80 : Cond.methodLink RX3 80 yX4_add ∈ TB := tbm (tq4 (List.mem_of_getElem? (i := 20) (by decide +kernel))) (by decide +kernel)
theorem wc_X4_add : Cond.code yX4_add cX4_add 3 (some .int) ∈ TB := tbm (tq2 (List.mem_of_getElem? (i := 166) (rfl))) (by decide +kernel)
theorem wi_X4_add : Cond.instanceMethod yX4_add ∈ TB := tbm (tq2 (List.mem_of_getElem? (i := 164) (by decide +kernel))) (by decide +kernel)
theorem ws_X4_add : Cond.selects RX4 yX4_add yX4_add ∈ TB := tbm (tq2 (List.mem_of_getElem? (i := 165) (by decide +kernel))) (by decide +kernel)
theorem mi_X4_add : MI yX4_add cX4_add 3 (some .int) 1 := ⟨wc_X4_add, wn_X4, ⟨by decide +kernel, by decide +kernel, by decide +kernel⟩, wi_X4_add, ws_X4_add⟩
theorem dX3_build_87 : decode cX3_build 87 = .ok (.ishl, 1) := by decide +kernel
theorem dX3_build_88 : decode cX3_build 88 = .ok (.ior, 1) := by decide +kernel
theorem dX3_build_89 : decode cX3_build 89 = .ok (.iastore, 1) := by decide +kernel
theorem dX3_build_90 : decode cX3_build 90 = .ok (.iinc 4 1, 3) := by decide +kernel
theorem dX3_build_93 : decode cX3_build 93 = .ok (.goto (-53), 3) := by decide +kernel
theorem dX3_build_14 : decode cX3_build 14 = .ok (.aload_n 0, 1) := by decide +kernel
theorem dX3_build_15 : decode cX3_build 15 = .ok (.getfield 25, 3) := by decide +kernel
theorem dX3_build_18 : decode cX3_build 18 = .ok (.iload_n 3, 1) := by decide +kernel
theorem dX3_build_19 : decode cX3_build 19 = .ok (.iconst 0, 1) := by decide +kernel
theorem dX3_build_20 : decode cX3_build 20 = .ok (.iastore, 1) := by decide +kernel
theorem dX3_build_21 : decode cX3_build 21 = .ok (.iinc 3 1, 3) := by decide +kernel
theorem dX3_build_24 : decode cX3_build 24 = .ok (.goto (-15), 3) := by decide +kernel
set_option maxRecDepth 100000 in
set_option maxHeartbeats 4000000 in
theorem l_build (l : Launch) (E : EV) (ro : va_W) (ly : Nat) (h : Nat) (e : Nat) (lym : Nat) (Pp : Nat) (n : Nat) (lyc : Nat) (lyf : Nat) (lyq : Nat) (cf : Nat → Int32) (ff : Nat → Int32) (fq : Nat → Int32) (bn : Nat) (br : Nat) (lyx : Nat) (lyy : Nat) (bf : Nat → Int32) (bg : Nat → Int32) (r : Nat) (a : Nat) (b : Nat) (f : Nat → Int32) (gg : Nat → Int32) (ecs : Nat) (erc : Nat) (eT : Nat → Option SVal) (efb : Nat → Int32) (efc : Nat → Int32) (efd : Nat → Int32) (hn : n ≤ 24) (hr : r < n ∨ r = 0) (hev : EVr E ro e ecs erc eT efb efc efd) (hL : LYR n cf ff Pp) (hP : Pp ≤ 24) (hB : CBx n ecs cf) (hM : LYM n (lyP (am n r f gg) (ecs, erc, eT, efb, efc, efd)) cf) : CT l yX3_build (Cond.code yX3_build cX3_build 5 none :: TB) ({ frames := 3, cells := 0, slots := 0, locals := 71 }) E ro [.ref ly, .ref h, .ref e] [(ly, .inr (3, [.ref lym, .int (nI Pp), .int (nI n), .ref lyc, .ref lyf, .ref lyq])), (lyc, .inl (E.2.1 1, 24, .inl cf)), (lyf, .inl (E.2.1 1, 24, .inl ff)), (lyq, .inl (E.2.1 1, 4, .inl fq)), (lym, .inr (4, [.int (nI bn), .int (nI br), .ref lyx, .ref lyy])), (lyx, .inl (E.2.1 1, 24, .inl bf)), (lyy, .inl (E.2.1 1, 96, .inl bg)), (h, .inr (4, [.int (nI n), .int (nI r), .ref a, .ref b])), (a, .inl (E.2.1 1, 24, .inl f)), (b, .inl (E.2.1 1, 96, .inl gg))] (Qv E (fun uz => (∃ (bn2 : Nat) (br2 : Nat) (fq2 : Nat → Int32) (bf2 : Nat → Int32) (bg2 : Nat → Int32), uz = [(ly, .inr (3, [.ref lym, .int (nI Pp), .int (nI n), .ref lyc, .ref lyf, .ref lyq])), (lyc, .inl (E.2.1 1, 24, .inl cf)), (lyf, .inl (E.2.1 1, 24, .inl ff)), (lyq, .inl (E.2.1 1, 4, .inl fq2)), (lym, .inr (4, [.int (nI bn2), .int (nI br2), .ref lyx, .ref lyy])), (lyx, .inl (E.2.1 1, 24, .inl bf2)), (lyy, .inl (E.2.1 1, 96, .inl bg2)), (h, .inr (4, [.int (nI n), .int (nI r), .ref a, .ref b])), (a, .inl (E.2.1 1, 24, .inl f)), (b, .inl (E.2.1 1, 96, .inl gg))] ∧ (bn2 = Pp) ∧ (br2 < bn2 ∨ br2 = 0) ∧ (br2 = (if (lyP (am n r f gg) (ecs, erc, eT, efb, efc, efd)) (4 * r + erc) = true then cb (lyP (am n r f gg) (ecs, erc, eT, efb, efc, efd)) (4 * r + erc) else 0)) ∧ (am bn2 br2 bf2 bg2 = aLay (am n r f gg) (ecs, erc, eT, efb, efc, efd))))) 0 0 := by
  refine ct_of rfl rfl ?_
  intro X C hT hin hro
  show WW X 5 E 0 [(0, .ref ly), (1, .ref h), (2, .ref e)] [] [(ly, .inr (3, [.ref lym, .int (nI Pp), .int (nI n), .ref lyc, .ref lyf, .ref lyq])), (lyc, .inl (E.2.1 1, 24, .inl cf)), (lyf, .inl (E.2.1 1, 24, .inl ff)), (lyq, .inl (E.2.1 1, 4, .inl fq)), (lym, .inr (4, [.int (nI bn), .int (nI br), .ref lyx, .ref lyy])), (lyx, .inl (E.2.1 1, 24, .inl bf)), (lyy, .inl (E.2.1 1, 96, .inl bg)), (h, .inr (4, [.int (nI n), .int (nI r), .ref a, .ref b])), (a, .inl (E.2.1 1, 24, .inl f)), (b, .inl (E.2.1 1, 96, .inl gg))] 0 0
  obtain ⟨i0y_1, i1y_1, i2y_1, i3y_1, i4y_1, cay_1, cby_1, ccy_1, cdy_1, fiy_1, g0y_1, g1y_1, g2y_1, g3y_1, g4y_1, hcsy_1, hrcy_1, hfiy_1⟩ := id hev
  have hecs := hev.cs
  have herc := hev.rc
  refine ww_aload_n C dX3_build_0 0 rfl rfl ?_
  refine ww_get C fg_X3_12 0 rfl rfl dX3_build_1 ?_
  refine ww_cv (wr := [(ly, .inr (3, [.ref lym, .int (nI Pp), .int (nI n), .ref lyc, .ref lyf, .ref lyq])), (lyc, .inl (E.2.1 1, 24, .inl cf)), (lyf, .inl (E.2.1 1, 24, .inl ff)), (lyq, .inl (E.2.1 1, 4, .inl fq)), (h, .inr (4, [.int (nI n), .int (nI r), .ref a, .ref b])), (a, .inl (E.2.1 1, 24, .inl f)), (b, .inl (E.2.1 1, 96, .inl gg))]) (k' := 0) (n' := 0) C (run_V (As := []) (rest := []) C (m_clear X.2.1 E ro lym bn br lyx lyy bf bg) mi_X4_clear wl_X3_67 rfl 0 4 rfl rfl rfl rfl rfl dX3_build_4) (roK hro) [4, 5, 6] [0, 1, 2, 3, 7, 8, 9] rfl rfl rfl rfl (fun uz hw => ?_)
  have he_3 := hw
  clear hw
  subst he_3
  refine ww_eq (ws' := [(ly, .inr (3, [.ref lym, .int (nI Pp), .int (nI n), .ref lyc, .ref lyf, .ref lyq])), (lyc, .inl (E.2.1 1, 24, .inl cf)), (lyf, .inl (E.2.1 1, 24, .inl ff)), (lyq, .inl (E.2.1 1, 4, .inl fq)), (h, .inr (4, [.int (nI n), .int (nI r), .ref a, .ref b])), (a, .inl (E.2.1 1, 24, .inl f)), (b, .inl (E.2.1 1, 96, .inl gg)), (lym, .inr (4, [.int 0, .int 0, .ref lyx, .ref lyy])), (lyx, .inl (E.2.1 1, 24, .inl bf)), (lyy, .inl (E.2.1 1, 96, .inl bg))]) ?_ rfl rfl rfl
  refine ww_iconst (v := 0) C dX3_build_7 rfl ?_
  refine ww_istore_n (lv' := [(3, .int 0), (0, .ref ly), (1, .ref h), (2, .ref e)]) C dX3_build_8 rfl rfl rfl ?_
  have loop_9 : ∀ (fu : Nat) (i0 : Nat) (q0 : Nat → Int32), (i0 ≤ 4) → (Z0x i0 q0) → 4 - i0 < fu → WW X 5 E 9 [(3, .int (nI i0)), (0, .ref ly), (1, .ref h), (2, .ref e)] [] [(ly, .inr (3, [.ref lym, .int (nI Pp), .int (nI n), .ref lyc, .ref lyf, .ref lyq])), (lyc, .inl (E.2.1 1, 24, .inl cf)), (lyf, .inl (E.2.1 1, 24, .inl ff)), (lyq, .inl (E.2.1 1, 4, .inl q0)), (h, .inr (4, [.int (nI n), .int (nI r), .ref a, .ref b])), (a, .inl (E.2.1 1, 24, .inl f)), (b, .inl (E.2.1 1, 96, .inl gg)), (lym, .inr (4, [.int 0, .int 0, .ref lyx, .ref lyy])), (lyx, .inl (E.2.1 1, 24, .inl bf)), (lyy, .inl (E.2.1 1, 96, .inl bg))] 0 0 := by
    intro fu
    induction fu with
    | zero => intro i0 q0 hi0 hz0 hmeas; exact absurd hmeas (Nat.not_lt_zero _)
    | succ fu ih_9 =>
      intro i0 q0 hi0 hz0 hmeas
      refine ww_iload_n C dX3_build_9 0 rfl rfl ?_
      refine ww_iconst (v := 4) C dX3_build_10 rfl ?_
      refine ww_icmp_ge (tgt := 27) C dX3_build_11 (by decide) (fun c_4 => ?_) (fun c_4 => ?_)
      · have zc_4 : ((i0 : Nat) : Int) ≥ 4 := i_le rfl (nI_toInt (n := i0) (by omega)) c_4
        refine ww_iconst (v := 0) C dX3_build_27 rfl ?_
        refine ww_istore_n (lv' := [(3, .int 0), (0, .ref ly), (1, .ref h), (2, .ref e)]) C dX3_build_28 rfl rfl rfl ?_
        have loop_29 : ∀ (fu : Nat) (i1 : Nat) (t1 : Nat) (f1 : Nat → Int32) (g1 : Nat → Int32) (q1 : Nat → Int32), (i1 ≤ n) → (t1 = pcs cf i1) → (PQx (lyP (am n r f gg) (ecs, erc, eT, efb, efc, efd)) (4 * n) (4 * i1) q1) → (PFx (lyP (am n r f gg) (ecs, erc, eT, efb, efc, efd)) (4 * i1) (lyF (am n r f gg) (ecs, erc, eT, efb, efc, efd)) f1) → n - i1 < fu → WW X 5 E 29 [(3, .int (nI i1)), (0, .ref ly), (1, .ref h), (2, .ref e)] [] [(ly, .inr (3, [.ref lym, .int (nI Pp), .int (nI n), .ref lyc, .ref lyf, .ref lyq])), (lyc, .inl (E.2.1 1, 24, .inl cf)), (lyf, .inl (E.2.1 1, 24, .inl ff)), (lyq, .inl (E.2.1 1, 4, .inl q1)), (h, .inr (4, [.int (nI n), .int (nI r), .ref a, .ref b])), (a, .inl (E.2.1 1, 24, .inl f)), (b, .inl (E.2.1 1, 96, .inl gg)), (lym, .inr (4, [.int (nI t1), .int 0, .ref lyx, .ref lyy])), (lyx, .inl (E.2.1 1, 24, .inl f1)), (lyy, .inl (E.2.1 1, 96, .inl g1))] 0 0 := by
          intro fu
          induction fu with
          | zero => intro i1 t1 f1 g1 q1 hi1 ht1 hpq1 hpf1 hmeas; exact absurd hmeas (Nat.not_lt_zero _)
          | succ fu ih_29 =>
            intro i1 t1 f1 g1 q1 hi1 ht1 hpq1 hpf1 hmeas
            refine ww_iload_n C dX3_build_29 0 rfl rfl ?_
            refine ww_aload_n C dX3_build_30 1 rfl rfl ?_
            refine ww_get C fg_X3_32 0 rfl rfl dX3_build_31 ?_
            refine ww_icmp_ge (tgt := 102) C dX3_build_34 (by decide) (fun c_5 => ?_) (fun c_5 => ?_)
            · have zc_5 : ((i1 : Nat) : Int) ≥ ((n : Nat) : Int) := i_le (nI_toInt (n := n) (by omega)) (nI_toInt (n := i1) (by omega)) c_5
              refine ww_iconst (v := 0) C dX3_build_102 rfl ?_
              refine ww_istore_n (lv' := [(3, .int 0), (0, .ref ly), (1, .ref h), (2, .ref e)]) C dX3_build_103 rfl rfl rfl ?_
              have hi1n : i1 = n := by omega
              rw [hi1n] at hpq1 hpf1
              have ht1n : t1 = pcs cf n := by rw [ht1, hi1n]
              have loop_104 : ∀ (fu : Nat) (k5 : Nat) (g5 : Nat → Int32), (k5 ≤ 4) → (PRx (lyP (am n r f gg) (ecs, erc, eT, efb, efc, efd)) (4 * n) k5 0 (lyR (am n r f gg) (ecs, erc, eT, efb, efc, efd)) g5) → 4 - k5 < fu → WW X 5 E 104 [(3, .int (nI k5)), (0, .ref ly), (1, .ref h), (2, .ref e)] [] [(ly, .inr (3, [.ref lym, .int (nI Pp), .int (nI n), .ref lyc, .ref lyf, .ref lyq])), (lyc, .inl (E.2.1 1, 24, .inl cf)), (lyf, .inl (E.2.1 1, 24, .inl ff)), (lyq, .inl (E.2.1 1, 4, .inl q1)), (h, .inr (4, [.int (nI n), .int (nI r), .ref a, .ref b])), (a, .inl (E.2.1 1, 24, .inl f)), (b, .inl (E.2.1 1, 96, .inl gg)), (lym, .inr (4, [.int (nI t1), .int 0, .ref lyx, .ref lyy])), (lyx, .inl (E.2.1 1, 24, .inl f1)), (lyy, .inl (E.2.1 1, 96, .inl g5))] 0 0 := by
                intro fu
                induction fu with
                | zero => intro k5 g5 hk5 hpr5 hmeas; exact absurd hmeas (Nat.not_lt_zero _)
                | succ fu ih_104 =>
                  intro k5 g5 hk5 hpr5 hmeas
                  refine ww_iload_n C dX3_build_104 0 rfl rfl ?_
                  refine ww_iconst (v := 4) C dX3_build_105 rfl ?_
                  refine ww_icmp_ge (tgt := 152) C dX3_build_106 (by decide) (fun c_6 => ?_) (fun c_6 => ?_)
                  · have zc_6 : ((k5 : Nat) : Int) ≥ 4 := i_le rfl (nI_toInt (n := k5) (by omega)) c_6
                    refine ww_aload_n C dX3_build_152 1 rfl rfl ?_
                    refine ww_get C fg_X3_12 0 rfl rfl dX3_build_153 ?_
                    refine ww_aload_n C dX3_build_156 1 rfl rfl ?_
                    refine ww_aload_n C dX3_build_157 2 rfl rfl ?_
                    refine ww_get C fg_X3_87 4 rfl rfl dX3_build_158 ?_
                    refine ww_aload_n C dX3_build_161 3 rfl rfl ?_
                    refine ww_getR C hro fg_X3_90 i0y_1 g0y_1 rfl dX3_build_162 ?_
                    refine ww_ci (wr := [(lyf, .inl (E.2.1 1, 24, .inl ff)), (lyq, .inl (E.2.1 1, 4, .inl q1)), (h, .inr (4, [.int (nI n), .int (nI r), .ref a, .ref b])), (a, .inl (E.2.1 1, 24, .inl f)), (b, .inl (E.2.1 1, 96, .inl gg)), (lym, .inr (4, [.int (nI t1), .int 0, .ref lyx, .ref lyy])), (lyx, .inl (E.2.1 1, 24, .inl f1)), (lyy, .inl (E.2.1 1, 96, .inl g5))]) (k' := 0) (n' := 0) C (run_V (As := [.int (nI r), .int (nI erc)]) (rest := [.ref lym]) C (l_lets X.2.1 E ro ly r erc lym Pp n lyc lyf lyq cf (by omega) (by omega) (by omega) hL.1) mi_X3_lets wl_X3_70 rfl 0 3 rfl rfl rfl rfl rfl dX3_build_165) (roK hro) [0, 1] [2, 3, 4, 5, 6, 7, 8, 9] rfl rfl rfl rfl (fun r_7 uz hw => ?_)
                    rcases hw with hw | hw
                    · refine an3 hw ?_
                      clear hw
                      intro he_10 he_11 h_8 hw
                      have h_9 := hw
                      clear hw
                      have he_10 := he_10.symm
                      subst he_10
                      subst he_11
                      refine ww_eq (ws' := [(lyf, .inl (E.2.1 1, 24, .inl ff)), (lyq, .inl (E.2.1 1, 4, .inl q1)), (h, .inr (4, [.int (nI n), .int (nI r), .ref a, .ref b])), (a, .inl (E.2.1 1, 24, .inl f)), (b, .inl (E.2.1 1, 96, .inl gg)), (lym, .inr (4, [.int (nI t1), .int 0, .ref lyx, .ref lyy])), (lyx, .inl (E.2.1 1, 24, .inl f1)), (lyy, .inl (E.2.1 1, 96, .inl g5)), (ly, .inr (3, [.ref lym, .int (nI Pp), .int (nI n), .ref lyc, .ref lyf, .ref lyq])), (lyc, .inl (E.2.1 1, 24, .inl cf))]) ?_ rfl rfl rfl
                      refine ww_if_eq_f (tgt := 186) C dX3_build_168 (by decide) (by decide) ?_
                      have hlt_k_15 := LYR.lt hL (w := r) (c := erc) (by omega) (by omega) (by assumption)
                      refine ww_aload_n C dX3_build_171 1 rfl rfl ?_
                      refine ww_aload_n C dX3_build_172 2 rfl rfl ?_
                      refine ww_get C fg_X3_87 2 rfl rfl dX3_build_173 ?_
                      refine ww_aload_n C dX3_build_176 3 rfl rfl ?_
                      refine ww_getR C hro fg_X3_90 i0y_1 g0y_1 rfl dX3_build_177 ?_
                      refine ww_ci (wr := [(lyq, .inl (E.2.1 1, 4, .inl q1)), (h, .inr (4, [.int (nI n), .int (nI r), .ref a, .ref b])), (a, .inl (E.2.1 1, 24, .inl f)), (b, .inl (E.2.1 1, 96, .inl gg)), (lym, .inr (4, [.int (nI t1), .int 0, .ref lyx, .ref lyy])), (lyx, .inl (E.2.1 1, 24, .inl f1)), (lyy, .inl (E.2.1 1, 96, .inl g5))]) (k' := 0) (n' := 0) C (run_V (As := [.int (nI r), .int (nI erc)]) (rest := [.ref lym]) C (l_pair X.2.1 E ro ly r erc lym Pp n lyc lyf lyq cf ff (by omega) (by omega) (by omega) hL) mi_X3_pair wl_X3_93 rfl 0 3 rfl rfl rfl rfl rfl dX3_build_180) (roK hro) [8, 9, 0] [1, 2, 3, 4, 5, 6, 7] rfl rfl rfl rfl (fun r_16 uz hw => ?_)
                      refine an1 hw ?_
                      clear hw
                      intro he_17 hw
                      have he_18 := hw
                      clear hw
                      have he_17 := he_17.symm
                      subst he_17
                      subst he_18
                      refine ww_eq (ws' := [(lyq, .inl (E.2.1 1, 4, .inl q1)), (h, .inr (4, [.int (nI n), .int (nI r), .ref a, .ref b])), (a, .inl (E.2.1 1, 24, .inl f)), (b, .inl (E.2.1 1, 96, .inl gg)), (lym, .inr (4, [.int (nI t1), .int 0, .ref lyx, .ref lyy])), (lyx, .inl (E.2.1 1, 24, .inl f1)), (lyy, .inl (E.2.1 1, 96, .inl g5)), (ly, .inr (3, [.ref lym, .int (nI Pp), .int (nI n), .ref lyc, .ref lyf, .ref lyq])), (lyc, .inl (E.2.1 1, 24, .inl cf)), (lyf, .inl (E.2.1 1, 24, .inl ff))]) ?_ rfl rfl rfl
                      refine ww_goto (tgt := 187) C dX3_build_183 (by decide) ?_
                      refine ww_put (ws' := [(lyq, .inl (E.2.1 1, 4, .inl q1)), (h, .inr (4, [.int (nI n), .int (nI r), .ref a, .ref b])), (a, .inl (E.2.1 1, 24, .inl f)), (b, .inl (E.2.1 1, 96, .inl gg)), (lym, .inr (4, [.int (nI t1), .int (nI (pcs cf r + bi cf r erc)), .ref lyx, .ref lyy])), (lyx, .inl (E.2.1 1, 24, .inl f1)), (lyy, .inl (E.2.1 1, 96, .inl g5)), (ly, .inr (3, [.ref lym, .int (nI Pp), .int (nI n), .ref lyc, .ref lyf, .ref lyq])), (lyc, .inl (E.2.1 1, 24, .inl cf)), (lyf, .inl (E.2.1 1, 24, .inl ff))]) C fp_X3_87 4 rfl rfl rfl rfl rfl dX3_build_187 ?_
                      exact ww_vret (u := [(ly, .inr (3, [.ref lym, .int (nI Pp), .int (nI n), .ref lyc, .ref lyf, .ref lyq])), (lyc, .inl (E.2.1 1, 24, .inl cf)), (lyf, .inl (E.2.1 1, 24, .inl ff)), (lyq, .inl (E.2.1 1, 4, .inl q1)), (lym, .inr (4, [.int (nI t1), .int (nI (pcs cf r + bi cf r erc)), .ref lyx, .ref lyy])), (lyx, .inl (E.2.1 1, 24, .inl f1)), (lyy, .inl (E.2.1 1, 96, .inl g5)), (h, .inr (4, [.int (nI n), .int (nI r), .ref a, .ref b])), (a, .inl (E.2.1 1, 24, .inl f)), (b, .inl (E.2.1 1, 96, .inl gg))]) C hT [7, 8, 9, 0, 4, 5, 6, 1, 2, 3] rfl rfl rfl rfl dX3_build_190 (⟨t1, (pcs cf r + bi cf r erc), q1, f1, g5, rfl, (by rw [hL.2.2, ht1n]), (by have h8 := hL.2.2; omega), (by rw [if_pos (by rw [← hM r erc (by omega) (by omega)]; exact h_9)]; exact ly_cb hM (by omega) (by omega)), (by rw [show pcs cf r + bi cf r erc = (if (lyP (am n r f gg) (ecs, erc, eT, efb, efc, efd)) (4 * r + erc) = true then cb (lyP (am n r f gg) (ecs, erc, eT, efb, efc, efd)) (4 * r + erc) else 0) from (by rw [if_pos (by rw [← hM r erc (by omega) (by omega)]; exact h_9)]; exact ly_cb hM (by omega) (by omega))]; exact (cmp_am (by rw [ht1n]; exact ly_w hM n (Nat.le_refl _)) (by have h8 := hL.2.2; have h7 := ly_w hM n (Nat.le_refl _); omega) hpf1 (fun k p hk hp hP => hpr5 k p hk hp hP (by omega))))⟩)
                    · refine an2 hw ?_
                      clear hw
                      intro he_13 he_14 hw
                      have h_12 := hw
                      clear hw
                      have he_13 := he_13.symm
                      subst he_13
                      subst he_14
                      refine ww_eq (ws' := [(lyf, .inl (E.2.1 1, 24, .inl ff)), (lyq, .inl (E.2.1 1, 4, .inl q1)), (h, .inr (4, [.int (nI n), .int (nI r), .ref a, .ref b])), (a, .inl (E.2.1 1, 24, .inl f)), (b, .inl (E.2.1 1, 96, .inl gg)), (lym, .inr (4, [.int (nI t1), .int 0, .ref lyx, .ref lyy])), (lyx, .inl (E.2.1 1, 24, .inl f1)), (lyy, .inl (E.2.1 1, 96, .inl g5)), (ly, .inr (3, [.ref lym, .int (nI Pp), .int (nI n), .ref lyc, .ref lyf, .ref lyq])), (lyc, .inl (E.2.1 1, 24, .inl cf))]) ?_ rfl rfl rfl
                      refine ww_if_eq_t (tgt := 186) C dX3_build_168 (by decide) (rfl) ?_
                      refine ww_iconst (v := 0) C dX3_build_186 rfl ?_
                      refine ww_put (ws' := [(lyf, .inl (E.2.1 1, 24, .inl ff)), (lyq, .inl (E.2.1 1, 4, .inl q1)), (h, .inr (4, [.int (nI n), .int (nI r), .ref a, .ref b])), (a, .inl (E.2.1 1, 24, .inl f)), (b, .inl (E.2.1 1, 96, .inl gg)), (lym, .inr (4, [.int (nI t1), .int 0, .ref lyx, .ref lyy])), (lyx, .inl (E.2.1 1, 24, .inl f1)), (lyy, .inl (E.2.1 1, 96, .inl g5)), (ly, .inr (3, [.ref lym, .int (nI Pp), .int (nI n), .ref lyc, .ref lyf, .ref lyq])), (lyc, .inl (E.2.1 1, 24, .inl cf))]) C fp_X3_87 5 rfl rfl rfl rfl rfl dX3_build_187 ?_
                      exact ww_vret (u := [(ly, .inr (3, [.ref lym, .int (nI Pp), .int (nI n), .ref lyc, .ref lyf, .ref lyq])), (lyc, .inl (E.2.1 1, 24, .inl cf)), (lyf, .inl (E.2.1 1, 24, .inl ff)), (lyq, .inl (E.2.1 1, 4, .inl q1)), (lym, .inr (4, [.int (nI t1), .int 0, .ref lyx, .ref lyy])), (lyx, .inl (E.2.1 1, 24, .inl f1)), (lyy, .inl (E.2.1 1, 96, .inl g5)), (h, .inr (4, [.int (nI n), .int (nI r), .ref a, .ref b])), (a, .inl (E.2.1 1, 24, .inl f)), (b, .inl (E.2.1 1, 96, .inl gg))]) C hT [8, 9, 0, 1, 5, 6, 7, 2, 3, 4] rfl rfl rfl rfl dX3_build_190 (⟨t1, 0, q1, f1, g5, rfl, (by rw [hL.2.2, ht1n]), (by have h8 := hL.2.2; omega), (by rw [if_neg (by rcases Nat.lt_or_ge r n with h9 | h9; rw [← hM r erc h9 (by omega), h_12 h9]; exact Bool.false_ne_true; rw [lyP_at (by omega)]; show ¬ (decide (r < n) && _) = true; rw [decide_eq_false (show ¬ r < n by omega)]; exact Bool.false_ne_true)]), (by rw [show 0 = (if (lyP (am n r f gg) (ecs, erc, eT, efb, efc, efd)) (4 * r + erc) = true then cb (lyP (am n r f gg) (ecs, erc, eT, efb, efc, efd)) (4 * r + erc) else 0) from (by rw [if_neg (by rcases Nat.lt_or_ge r n with h9 | h9; rw [← hM r erc h9 (by omega), h_12 h9]; exact Bool.false_ne_true; rw [lyP_at (by omega)]; show ¬ (decide (r < n) && _) = true; rw [decide_eq_false (show ¬ r < n by omega)]; exact Bool.false_ne_true)])]; exact (cmp_am (by rw [ht1n]; exact ly_w hM n (Nat.le_refl _)) (by have h8 := hL.2.2; have h7 := ly_w hM n (Nat.le_refl _); omega) hpf1 (fun k p hk hp hP => hpr5 k p hk hp hP (by omega))))⟩)
                  · have zc_6 : ((k5 : Nat) : Int) < 4 := i_nle rfl (nI_toInt (n := k5) (by omega)) c_6
                    refine ww_iconst (v := 0) C dX3_build_109 rfl ?_
                    refine ww_istore (lv' := [(4, .int 0), (3, .int (nI k5)), (0, .ref ly), (1, .ref h), (2, .ref e)]) C dX3_build_110 rfl rfl ?_
                    have loop_112 : ∀ (fu : Nat) (i6 : Nat) (g6 : Nat → Int32), (i6 ≤ n) → (PRx (lyP (am n r f gg) (ecs, erc, eT, efb, efc, efd)) (4 * n) k5 (4 * i6) (lyR (am n r f gg) (ecs, erc, eT, efb, efc, efd)) g6) → n - i6 < fu → WW X 5 E 112 [(4, .int (nI i6)), (3, .int (nI k5)), (0, .ref ly), (1, .ref h), (2, .ref e)] [] [(ly, .inr (3, [.ref lym, .int (nI Pp), .int (nI n), .ref lyc, .ref lyf, .ref lyq])), (lyc, .inl (E.2.1 1, 24, .inl cf)), (lyf, .inl (E.2.1 1, 24, .inl ff)), (lyq, .inl (E.2.1 1, 4, .inl q1)), (h, .inr (4, [.int (nI n), .int (nI r), .ref a, .ref b])), (a, .inl (E.2.1 1, 24, .inl f)), (b, .inl (E.2.1 1, 96, .inl gg)), (lym, .inr (4, [.int (nI t1), .int 0, .ref lyx, .ref lyy])), (lyx, .inl (E.2.1 1, 24, .inl f1)), (lyy, .inl (E.2.1 1, 96, .inl g6))] 0 0 := by
                      intro fu
                      induction fu with
                      | zero => intro i6 g6 hi6 hpr6 hmeas; exact absurd hmeas (Nat.not_lt_zero _)
                      | succ fu ih_112 =>
                        intro i6 g6 hi6 hpr6 hmeas
                        refine ww_iload C dX3_build_112 0 rfl ?_
                        refine ww_aload_n C dX3_build_114 2 rfl rfl ?_
                        refine ww_get C fg_X3_32 0 rfl rfl dX3_build_115 ?_
                        refine ww_icmp_ge (tgt := 146) C dX3_build_118 (by decide) (fun c_19 => ?_) (fun c_19 => ?_)
                        · have zc_19 : ((i6 : Nat) : Int) ≥ ((n : Nat) : Int) := i_le (nI_toInt (n := n) (by omega)) (nI_toInt (n := i6) (by omega)) c_19
                          refine ww_iinc (j := 1) (v := (nI (k5 + 1))) (lv' := [(3, .int (nI (k5 + 1))), (4, .int (nI i6)), (0, .ref ly), (1, .ref h), (2, .ref e)]) C dX3_build_146 rfl (nI_add k5 1) rfl rfl ?_
                          refine ww_goto (tgt := 104) C dX3_build_149 (by decide) ?_
                          exact ww_lv [0, 2, 3, 4] rfl (ww_sub [0, 1, 2, 3, 4, 5, 6, 7, 8, 9] rfl rfl (ih_104 (k5 + 1) g6 (by omega) (PRx.up hpr6 (by omega)) (by omega)))
                        · have zc_19 : ((i6 : Nat) : Int) < ((n : Nat) : Int) := i_nle (nI_toInt (n := n) (by omega)) (nI_toInt (n := i6) (by omega)) c_19
                          refine ww_aload_n C dX3_build_121 2 rfl rfl ?_
                          refine ww_get C fg_X3_18 0 rfl rfl dX3_build_122 ?_
                          refine ww_iload C dX3_build_125 0 rfl ?_
                          have hbx_20 := CBx.lt hL.1 (by omega) (show i6 < n by omega)
                          refine ww_iald (v := (nI (cN cf i6))) C 1 rfl (vp_in_nI (by omega) (by omega)) (ldn (by omega) (hL.1 i6 (by omega)).1) dX3_build_127 ?_
                          refine ww_if_eq (tgt := 140) C dX3_build_128 (by decide) (fun c_21 => ?_) (fun c_21 => ?_)
                          · have zc_21 : ((cN cf i6 : Nat) : Int) = 0 := i_eq (nI_toInt (n := cN cf i6) (by omega)) rfl c_21
                            refine ww_iinc (j := 0) (v := (nI (i6 + 1))) (lv' := [(4, .int (nI (i6 + 1))), (3, .int (nI k5)), (0, .ref ly), (1, .ref h), (2, .ref e)]) C dX3_build_140 rfl (nI_add i6 1) rfl rfl ?_
                            refine ww_goto (tgt := 112) C dX3_build_143 (by decide) ?_
                            exact ww_lv [0, 1, 2, 3, 4] rfl (ww_sub [0, 1, 2, 3, 4, 5, 6, 7, 8, 9] rfl rfl (ih_112 (i6 + 1) g6 (by omega) (PRx.f4 hpr6 (fun c hc => by rw [← hM i6 c (by omega) hc]; exact cN_0b (by omega) c)) (by omega)))
                          · have zc_21 : ((cN cf i6 : Nat) : Int) ≠ 0 := i_ne (nI_toInt (n := cN cf i6) (by omega)) rfl c_21
                            refine ww_aload_n C dX3_build_131 2 rfl rfl ?_
                            refine ww_aload_n C dX3_build_132 3 rfl rfl ?_
                            refine ww_aload_n C dX3_build_133 4 rfl rfl ?_
                            refine ww_iload_n C dX3_build_134 1 rfl rfl ?_
                            refine ww_iload C dX3_build_135 0 rfl ?_
                            refine ww_cv (wr := []) (k' := 0) (n' := 0) C (run_V (As := [.ref h, .ref e, .int (nI k5), .int (nI i6)]) (rest := []) C (l_holdPairs X.2.1 E ro ly h e k5 i6 lym Pp n lyc lyf lyq cf ff q1 t1 0 lyx lyy f1 g6 r a b f gg ecs erc eT efb efc efd (by omega) (by omega) hev hL (by omega) (by omega) (by omega) hM hpq1 hpr6) mi_X3_holdPairs wl_X3_83 rfl 0 3 rfl rfl rfl rfl rfl dX3_build_137) (roK hro) [0, 1, 2, 3, 7, 8, 9, 4, 5, 6] [] rfl rfl rfl rfl (fun uz hw => ?_)
                            refine ex1 hw ?_
                            clear hw
                            intro bg2_23 hw
                            refine an1 hw ?_
                            clear hw
                            intro he_25 hw
                            have h_24 := hw
                            clear hw
                            subst he_25
                            refine ww_eq (ws' := [(ly, .inr (3, [.ref lym, .int (nI Pp), .int (nI n), .ref lyc, .ref lyf, .ref lyq])), (lyc, .inl (E.2.1 1, 24, .inl cf)), (lyf, .inl (E.2.1 1, 24, .inl ff)), (lyq, .inl (E.2.1 1, 4, .inl q1)), (lym, .inr (4, [.int (nI t1), .int 0, .ref lyx, .ref lyy])), (lyx, .inl (E.2.1 1, 24, .inl f1)), (lyy, .inl (E.2.1 1, 96, .inl bg2_23)), (h, .inr (4, [.int (nI n), .int (nI r), .ref a, .ref b])), (a, .inl (E.2.1 1, 24, .inl f)), (b, .inl (E.2.1 1, 96, .inl gg))]) ?_ rfl rfl rfl
                            refine ww_iinc (j := 0) (v := (nI (i6 + 1))) (lv' := [(4, .int (nI (i6 + 1))), (3, .int (nI k5)), (0, .ref ly), (1, .ref h), (2, .ref e)]) C dX3_build_140 rfl (nI_add i6 1) rfl rfl ?_
                            refine ww_goto (tgt := 112) C dX3_build_143 (by decide) ?_
                            exact ww_lv [0, 1, 2, 3, 4] rfl (ww_sub [0, 1, 2, 3, 7, 8, 9, 4, 5, 6] rfl rfl (ih_112 (i6 + 1) bg2_23 (by omega) h_24 (by omega)))
                    exact ww_lv [0, 1, 2, 3, 4] rfl (ww_sub [0, 1, 2, 3, 4, 5, 6, 7, 8, 9] rfl rfl (loop_112 _ 0 g5 (by omega) hpr5 (Nat.lt_succ_self _)))
              exact ww_lv [0, 1, 2, 3] rfl (ww_sub [0, 1, 2, 3, 4, 5, 6, 7, 8, 9] rfl rfl (loop_104 _ 0 g1 (by omega) PRx.nil (Nat.lt_succ_self _)))
            · have zc_5 : ((i1 : Nat) : Int) < ((n : Nat) : Int) := i_nle (nI_toInt (n := n) (by omega)) (nI_toInt (n := i1) (by omega)) c_5
              refine ww_iconst (v := 0) C dX3_build_37 rfl ?_
              refine ww_istore (lv' := [(4, .int 0), (3, .int (nI i1)), (0, .ref ly), (1, .ref h), (2, .ref e)]) C dX3_build_38 rfl rfl ?_
              have loop_40 : ∀ (fu : Nat) (i2 : Nat) (t2 : Nat) (f2 : Nat → Int32) (g2 : Nat → Int32) (q2 : Nat → Int32), (i2 ≤ ecs) → (t2 = pcs cf i1 + bi cf i1 i2) → (PQx (lyP (am n r f gg) (ecs, erc, eT, efb, efc, efd)) (4 * n) (4 * i1 + i2) q2) → (PFx (lyP (am n r f gg) (ecs, erc, eT, efb, efc, efd)) (4 * i1 + i2) (lyF (am n r f gg) (ecs, erc, eT, efb, efc, efd)) f2) → ecs - i2 < fu → WW X 5 E 40 [(4, .int (nI i2)), (3, .int (nI i1)), (0, .ref ly), (1, .ref h), (2, .ref e)] [] [(ly, .inr (3, [.ref lym, .int (nI Pp), .int (nI n), .ref lyc, .ref lyf, .ref lyq])), (lyc, .inl (E.2.1 1, 24, .inl cf)), (lyf, .inl (E.2.1 1, 24, .inl ff)), (lyq, .inl (E.2.1 1, 4, .inl q2)), (h, .inr (4, [.int (nI n), .int (nI r), .ref a, .ref b])), (a, .inl (E.2.1 1, 24, .inl f)), (b, .inl (E.2.1 1, 96, .inl gg)), (lym, .inr (4, [.int (nI t2), .int 0, .ref lyx, .ref lyy])), (lyx, .inl (E.2.1 1, 24, .inl f2)), (lyy, .inl (E.2.1 1, 96, .inl g2))] 0 0 := by
                intro fu
                induction fu with
                | zero => intro i2 t2 f2 g2 q2 hi2 ht2 hpq2 hpf2 hmeas; exact absurd hmeas (Nat.not_lt_zero _)
                | succ fu ih_40 =>
                  intro i2 t2 f2 g2 q2 hi2 ht2 hpq2 hpf2 hmeas
                  refine ww_iload C dX3_build_40 0 rfl ?_
                  refine ww_aload_n C dX3_build_42 4 rfl rfl ?_
                  refine ww_getR C hro fg_X3_35 i0y_1 g0y_1 rfl dX3_build_43 ?_
                  refine ww_icmp_ge (tgt := 96) C dX3_build_46 (by decide) (fun c_26 => ?_) (fun c_26 => ?_)
                  · have zc_26 : ((i2 : Nat) : Int) ≥ ((ecs : Nat) : Int) := i_le (nI_toInt (n := ecs) (by omega)) (nI_toInt (n := i2) (by omega)) c_26
                    have hbm := CBx.bi hB (by omega) (show i1 < n by omega)
                    have hps := pcs_s cf i1
                    have hie : i2 = ecs := by omega
                    rw [hie] at ht2
                    refine ww_iinc (j := 1) (v := (nI (i1 + 1))) (lv' := [(3, .int (nI (i1 + 1))), (4, .int (nI i2)), (0, .ref ly), (1, .ref h), (2, .ref e)]) C dX3_build_96 rfl (nI_add i1 1) rfl rfl ?_
                    refine ww_goto (tgt := 29) C dX3_build_99 (by decide) ?_
                    exact ww_lv [0, 2, 3, 4] rfl (ww_sub [0, 1, 2, 3, 4, 5, 6, 7, 8, 9] rfl rfl (ih_29 (i1 + 1) t2 f2 g2 q2 (by omega) (by omega) (PQx.fs hpq2 (by omega) (lyP_nos (c := i2) (by show ecs ≤ i2; omega))) (PFx.fs hpf2 (by omega) (lyP_nos (c := i2) (by show ecs ≤ i2; omega))) (by omega)))
                  · have zc_26 : ((i2 : Nat) : Int) < ((ecs : Nat) : Int) := i_nle (nI_toInt (n := ecs) (by omega)) (nI_toInt (n := i2) (by omega)) c_26
                    have hbs := bi_s cf i1 i2
                    refine ww_aload_n C dX3_build_49 2 rfl rfl ?_
                    refine ww_iload_n C dX3_build_50 1 rfl rfl ?_
                    refine ww_iload C dX3_build_51 0 rfl ?_
                    refine ww_ci (wr := [(lyf, .inl (E.2.1 1, 24, .inl ff)), (lyq, .inl (E.2.1 1, 4, .inl q2)), (h, .inr (4, [.int (nI n), .int (nI r), .ref a, .ref b])), (a, .inl (E.2.1 1, 24, .inl f)), (b, .inl (E.2.1 1, 96, .inl gg)), (lym, .inr (4, [.int (nI t2), .int 0, .ref lyx, .ref lyy])), (lyx, .inl (E.2.1 1, 24, .inl f2)), (lyy, .inl (E.2.1 1, 96, .inl g2))]) (k' := 0) (n' := 0) C (run_V (As := [.int (nI i1), .int (nI i2)]) (rest := []) C (l_lets X.2.1 E ro ly i1 i2 lym Pp n lyc lyf lyq cf (by omega) (by omega) (by omega) hL.1) mi_X3_lets wl_X3_70 rfl 0 3 rfl rfl rfl rfl rfl dX3_build_53) (roK hro) [0, 1] [2, 3, 4, 5, 6, 7, 8, 9] rfl rfl rfl rfl (fun r_27 uz hw => ?_)
                    rcases hw with hw | hw
                    · refine an3 hw ?_
                      clear hw
                      intro he_30 he_31 h_28 hw
                      have h_29 := hw
                      clear hw
                      have he_30 := he_30.symm
                      subst he_30
                      subst he_31
                      refine ww_eq (ws' := [(lyf, .inl (E.2.1 1, 24, .inl ff)), (lyq, .inl (E.2.1 1, 4, .inl q2)), (h, .inr (4, [.int (nI n), .int (nI r), .ref a, .ref b])), (a, .inl (E.2.1 1, 24, .inl f)), (b, .inl (E.2.1 1, 96, .inl gg)), (lym, .inr (4, [.int (nI t2), .int 0, .ref lyx, .ref lyy])), (lyx, .inl (E.2.1 1, 24, .inl f2)), (lyy, .inl (E.2.1 1, 96, .inl g2)), (ly, .inr (3, [.ref lym, .int (nI Pp), .int (nI n), .ref lyc, .ref lyf, .ref lyq])), (lyc, .inl (E.2.1 1, 24, .inl cf))]) ?_ rfl rfl rfl
                      refine ww_if_eq_f (tgt := 90) C dX3_build_56 (by decide) (by decide) ?_
                      have hlt_k_35 := LYR.lt hL (w := i1) (c := i2) (by omega) (by omega) (by assumption)
                      rw [if_pos (by assumption)] at hbs
                      refine ww_aload_n C dX3_build_59 2 rfl rfl ?_
                      refine ww_get C fg_X3_25 8 rfl rfl dX3_build_60 ?_
                      refine ww_iload C dX3_build_63 0 rfl ?_
                      refine ww_dup2 C dX3_build_65 rfl rfl ?_
                      obtain ⟨x_36, ex_36⟩ : ∃ z : Int32, q2 i2 = z := ⟨_, rfl⟩
                      refine ww_iald (v := x_36) C 1 rfl (vp_in_nI (by omega) (by omega)) (ldn (by omega) ex_36) dX3_build_66 ?_
                      refine ww_iconst (v := 1) C dX3_build_67 rfl ?_
                      refine ww_aload_n C dX3_build_68 2 rfl rfl ?_
                      refine ww_get C fg_X3_12 8 rfl rfl dX3_build_69 ?_
                      refine ww_aload_n C dX3_build_72 4 rfl rfl ?_
                      refine ww_aload_n C dX3_build_73 3 rfl rfl ?_
                      refine ww_get C fg_X3_73 2 rfl rfl dX3_build_74 ?_
                      refine ww_iload_n C dX3_build_77 1 rfl rfl ?_
                      obtain ⟨x_37, ex_37⟩ : ∃ z : Int32, f i1 = z := ⟨_, rfl⟩
                      refine ww_iald (v := x_37) C 3 rfl (vp_in_nI (by omega) (by omega)) (ldn (by omega) ex_37) dX3_build_78 ?_
                      refine ww_iload C dX3_build_79 0 rfl ?_
                      refine ww_ci (wr := [(lyf, .inl (E.2.1 1, 24, .inl ff)), (lyq, .inl (E.2.1 1, 4, .inl q2)), (h, .inr (4, [.int (nI n), .int (nI r), .ref a, .ref b])), (a, .inl (E.2.1 1, 24, .inl f)), (b, .inl (E.2.1 1, 96, .inl gg)), (lym, .inr (4, [.int (nI t2), .int 0, .ref lyx, .ref lyy])), (lyx, .inl (E.2.1 1, 24, .inl f2)), (lyy, .inl (E.2.1 1, 96, .inl g2)), (ly, .inr (3, [.ref lym, .int (nI Pp), .int (nI n), .ref lyc, .ref lyf, .ref lyq])), (lyc, .inl (E.2.1 1, 24, .inl cf))]) (k' := 0) (n' := 0) C (run_VR (As := [.int x_37, .int (nI i2)]) (rest := [.ref lym, .int 1, .int x_36, .int (nI i2), .ref lyq]) C (e_changed X.2.1 E ro e x_37 i2 ecs erc eT efb efc efd (by omega) hev) mi_X0_changed wl_X3_76 rfl i0y_1 0 g0y_1 rfl rfl rfl rfl dX3_build_81) (roK hro) [] [0, 1, 2, 3, 4, 5, 6, 7, 8, 9] rfl rfl rfl rfl (fun r_38 uz hw => ?_)
                      refine an1 hw ?_
                      clear hw
                      intro he_39 hw
                      have he_40 := hw
                      clear hw
                      have he_39 := he_39.symm
                      subst he_39
                      subst he_40
                      refine ww_eq (ws' := [(lyf, .inl (E.2.1 1, 24, .inl ff)), (lyq, .inl (E.2.1 1, 4, .inl q2)), (h, .inr (4, [.int (nI n), .int (nI r), .ref a, .ref b])), (a, .inl (E.2.1 1, 24, .inl f)), (b, .inl (E.2.1 1, 96, .inl gg)), (lym, .inr (4, [.int (nI t2), .int 0, .ref lyx, .ref lyy])), (lyx, .inl (E.2.1 1, 24, .inl f2)), (lyy, .inl (E.2.1 1, 96, .inl g2)), (ly, .inr (3, [.ref lym, .int (nI Pp), .int (nI n), .ref lyc, .ref lyf, .ref lyq])), (lyc, .inl (E.2.1 1, 24, .inl cf))]) ?_ rfl rfl rfl
                      refine ww_ci (wr := [(lyf, .inl (E.2.1 1, 24, .inl ff)), (lyq, .inl (E.2.1 1, 4, .inl q2)), (h, .inr (4, [.int (nI n), .int (nI r), .ref a, .ref b])), (a, .inl (E.2.1 1, 24, .inl f)), (b, .inl (E.2.1 1, 96, .inl gg)), (ly, .inr (3, [.ref lym, .int (nI Pp), .int (nI n), .ref lyc, .ref lyf, .ref lyq])), (lyc, .inl (E.2.1 1, 24, .inl cf))]) (k' := 0) (n' := 0) C (run_V (As := [.int (chg efb efc x_37 i2)]) (rest := [.int 1, .int x_36, .int (nI i2), .ref lyq]) C (m_add X.2.1 E ro lym (chg efb efc x_37 i2) t2 0 lyx lyy f2 g2 (by omega)) mi_X4_add wl_X3_80 rfl 0 4 rfl rfl rfl rfl rfl dX3_build_84) (roK hro) [5, 6, 7] [0, 1, 2, 3, 4, 8, 9] rfl rfl rfl rfl (fun r_41 uz hw => ?_)
                      refine ex2 hw ?_
                      clear hw
                      intro f2_42 g2_43 hw
                      refine an3 hw ?_
                      clear hw
                      intro he_46 he_47 h_44 hw
                      have h_45 := hw
                      clear hw
                      have he_46 := he_46.symm
                      subst he_46
                      subst he_47
                      refine ww_eq (ws' := [(lyf, .inl (E.2.1 1, 24, .inl ff)), (lyq, .inl (E.2.1 1, 4, .inl q2)), (h, .inr (4, [.int (nI n), .int (nI r), .ref a, .ref b])), (a, .inl (E.2.1 1, 24, .inl f)), (b, .inl (E.2.1 1, 96, .inl gg)), (ly, .inr (3, [.ref lym, .int (nI Pp), .int (nI n), .ref lyc, .ref lyf, .ref lyq])), (lyc, .inl (E.2.1 1, 24, .inl cf)), (lym, .inr (4, [.int (nI (t2 + 1)), .int 0, .ref lyx, .ref lyy])), (lyx, .inl (E.2.1 1, 24, .inl f2_42)), (lyy, .inl (E.2.1 1, 96, .inl g2_43))]) ?_ rfl rfl rfl
                      obtain ⟨x_48, ex_48⟩ : ∃ z : Int32, (1 : Int32) <<< ((nI t2) &&& 31) = z := ⟨_, rfl⟩
                      refine ww_ishl (v := x_48) C dX3_build_87 ex_48 ?_
                      obtain ⟨x_49, ex_49⟩ : ∃ z : Int32, x_36 ||| x_48 = z := ⟨_, rfl⟩
                      refine ww_ior (v := x_49) C dX3_build_88 ex_49 ?_
                      obtain ⟨f_50, ef_50⟩ : ∃ z : Nat → Int32, upd q2 i2 x_49 = z := ⟨_, rfl⟩
                      refine ww_iast (ws' := [(lyf, .inl (E.2.1 1, 24, .inl ff)), (lyq, .inl (E.2.1 1, 4, .inl f_50)), (h, .inr (4, [.int (nI n), .int (nI r), .ref a, .ref b])), (a, .inl (E.2.1 1, 24, .inl f)), (b, .inl (E.2.1 1, 96, .inl gg)), (ly, .inr (3, [.ref lym, .int (nI Pp), .int (nI n), .ref lyc, .ref lyf, .ref lyq])), (lyc, .inl (E.2.1 1, 24, .inl cf)), (lym, .inr (4, [.int (nI (t2 + 1)), .int 0, .ref lyx, .ref lyy])), (lyx, .inl (E.2.1 1, 24, .inl f2_42)), (lyy, .inl (E.2.1 1, 96, .inl g2_43))]) C 1 rfl (vp_in_nI (by omega) (by omega)) (ldn2 (by omega) ef_50) rfl dX3_build_89 ?_
                      refine ww_iinc (j := 0) (v := (nI (i2 + 1))) (lv' := [(4, .int (nI (i2 + 1))), (3, .int (nI i1)), (0, .ref ly), (1, .ref h), (2, .ref e)]) C dX3_build_90 rfl (nI_add i2 1) rfl rfl ?_
                      refine ww_goto (tgt := 40) C dX3_build_93 (by decide) ?_
                      exact ww_lv [0, 1, 2, 3, 4] rfl (ww_sub [5, 6, 0, 1, 2, 3, 4, 7, 8, 9] rfl rfl (ih_40 (i2 + 1) (t2 + 1) f2_42 g2_43 f_50 (by omega) (by omega) (PQx.t (i := 4 * i1 + i2) hpq2 (by omega) (by have h9 := ly_cb hM (w := i1) (c := i2) (by omega) (by omega); omega) (by rw [← hM i1 i2 (by omega) (by omega)]; exact h_29) (by omega) (by have h9 := ly_cb hM (w := i1) (c := i2) (by omega) (by omega); omega) ex_36 ex_48 ex_49 ef_50) (PFx.t (i := 4 * i1 + i2) hpf2 (by rw [← hM i1 i2 (by omega) (by omega)]; exact h_29) (by have h9 := ly_cb hM (w := i1) (c := i2) (by omega) (by omega); omega) (by rw [lyF_at (by omega) (by omega), ex_37]) h_45) (by omega)))
                    · refine an2 hw ?_
                      clear hw
                      intro he_33 he_34 hw
                      have h_32 := hw
                      clear hw
                      have he_33 := he_33.symm
                      subst he_33
                      subst he_34
                      refine ww_eq (ws' := [(lyf, .inl (E.2.1 1, 24, .inl ff)), (lyq, .inl (E.2.1 1, 4, .inl q2)), (h, .inr (4, [.int (nI n), .int (nI r), .ref a, .ref b])), (a, .inl (E.2.1 1, 24, .inl f)), (b, .inl (E.2.1 1, 96, .inl gg)), (lym, .inr (4, [.int (nI t2), .int 0, .ref lyx, .ref lyy])), (lyx, .inl (E.2.1 1, 24, .inl f2)), (lyy, .inl (E.2.1 1, 96, .inl g2)), (ly, .inr (3, [.ref lym, .int (nI Pp), .int (nI n), .ref lyc, .ref lyf, .ref lyq])), (lyc, .inl (E.2.1 1, 24, .inl cf))]) ?_ rfl rfl rfl
                      refine ww_if_eq_t (tgt := 90) C dX3_build_56 (by decide) (rfl) ?_
                      rw [(show i1 < n → (cN cf i1).testBit i2 = false by assumption) (by omega)] at hbs
                      simp only [Bool.false_eq_true, if_false] at hbs
                      refine ww_iinc (j := 0) (v := (nI (i2 + 1))) (lv' := [(4, .int (nI (i2 + 1))), (3, .int (nI i1)), (0, .ref ly), (1, .ref h), (2, .ref e)]) C dX3_build_90 rfl (nI_add i2 1) rfl rfl ?_
                      refine ww_goto (tgt := 40) C dX3_build_93 (by decide) ?_
                      exact ww_lv [0, 1, 2, 3, 4] rfl (ww_sub [8, 9, 0, 1, 2, 3, 4, 5, 6, 7] rfl rfl (ih_40 (i2 + 1) t2 f2 g2 q2 (by omega) (by omega) (PQx.f (i := 4 * i1 + i2) hpq2 (by rw [← hM i1 i2 (by omega) (by omega)]; exact h_32 (by omega))) (PFx.f (i := 4 * i1 + i2) hpf2 (by rw [← hM i1 i2 (by omega) (by omega)]; exact h_32 (by omega))) (by omega)))
              exact ww_lv [0, 1, 2, 3, 4] rfl (ww_sub [0, 1, 2, 3, 4, 5, 6, 7, 8, 9] rfl rfl (loop_40 _ 0 t1 f1 g1 q1 (by omega) ht1 hpq1 hpf1 (Nat.lt_succ_self _)))
        exact ww_lv [0, 1, 2, 3] rfl (ww_sub [0, 1, 2, 3, 4, 5, 6, 7, 8, 9] rfl rfl (loop_29 _ 0 0 bf bg q0 (by omega) rfl (PQx.nil (fun c hc => hz0 c (by omega))) PFx.nil (Nat.lt_succ_self _)))
      · have zc_4 : ((i0 : Nat) : Int) < 4 := i_nle rfl (nI_toInt (n := i0) (by omega)) c_4
        refine ww_aload_n C dX3_build_14 1 rfl rfl ?_
        refine ww_get C fg_X3_25 0 rfl rfl dX3_build_15 ?_
        refine ww_iload_n C dX3_build_18 0 rfl rfl ?_
        refine ww_iconst (v := 0) C dX3_build_19 rfl ?_
        obtain ⟨f_51, ef_51⟩ : ∃ z : Nat → Int32, upd q0 i0 0 = z := ⟨_, rfl⟩
        refine ww_iast (ws' := [(ly, .inr (3, [.ref lym, .int (nI Pp), .int (nI n), .ref lyc, .ref lyf, .ref lyq])), (lyc, .inl (E.2.1 1, 24, .inl cf)), (lyf, .inl (E.2.1 1, 24, .inl ff)), (lyq, .inl (E.2.1 1, 4, .inl f_51)), (h, .inr (4, [.int (nI n), .int (nI r), .ref a, .ref b])), (a, .inl (E.2.1 1, 24, .inl f)), (b, .inl (E.2.1 1, 96, .inl gg)), (lym, .inr (4, [.int 0, .int 0, .ref lyx, .ref lyy])), (lyx, .inl (E.2.1 1, 24, .inl bf)), (lyy, .inl (E.2.1 1, 96, .inl bg))]) C 3 rfl (vp_in_nI (by omega) (by omega)) (ldn2 (by omega) ef_51) rfl dX3_build_20 ?_
        refine ww_iinc (j := 0) (v := (nI (i0 + 1))) (lv' := [(3, .int (nI (i0 + 1))), (0, .ref ly), (1, .ref h), (2, .ref e)]) C dX3_build_21 rfl (nI_add i0 1) rfl rfl ?_
        refine ww_goto (tgt := 9) C dX3_build_24 (by decide) ?_
        exact ww_lv [0, 1, 2, 3] rfl (ww_sub [0, 1, 2, 3, 4, 5, 6, 7, 8, 9] rfl rfl (ih_9 (i0 + 1) f_51 (by omega) (Z0x.ext hz0 ef_51) (by omega)))
  exact ww_lv [0, 1, 2, 3] rfl (ww_sub [0, 1, 2, 3, 4, 5, 6, 7, 8, 9] rfl rfl (loop_9 _ 0 fq (by omega) Z0x.nil (Nat.lt_succ_self _)))
theorem dX3_becomes_0 : decode cX3_becomes 0 = .ok (.aload_n 0, 1) := by decide +kernel
theorem dX3_becomes_1 : decode cX3_becomes 1 = .ok (.iload_n 1, 1) := by decide +kernel
theorem dX3_becomes_2 : decode cX3_becomes 2 = .ok (.iload_n 2, 1) := by decide +kernel
theorem dX3_becomes_3 : decode cX3_becomes 3 = .ok (.invokevirtual 70, 3) := by decide +kernel
theorem dX3_becomes_6 : decode cX3_becomes 6 = .ok (.ifCond .eq 12, 3) := by decide +kernel
theorem dX3_becomes_9 : decode cX3_becomes 9 = .ok (.aload_n 0, 1) := by decide +kernel
theorem dX3_becomes_10 : decode cX3_becomes 10 = .ok (.iload_n 1, 1) := by decide +kernel
theorem dX3_becomes_11 : decode cX3_becomes 11 = .ok (.iload_n 2, 1) := by decide +kernel
theorem dX3_becomes_12 : decode cX3_becomes 12 = .ok (.invokevirtual 93, 3) := by decide +kernel
theorem dX3_becomes_15 : decode cX3_becomes 15 = .ok (.goto 9, 3) := by decide +kernel
theorem dX3_becomes_24 : decode cX3_becomes 24 = .ok (.ireturn, 1) := by decide +kernel
theorem dX3_becomes_18 : decode cX3_becomes 18 = .ok (.aload_n 0, 1) := by decide +kernel
theorem dX3_becomes_19 : decode cX3_becomes 19 = .ok (.getfield 22, 3) := by decide +kernel
theorem dX3_becomes_22 : decode cX3_becomes 22 = .ok (.iload_n 1, 1) := by decide +kernel
theorem dX3_becomes_23 : decode cX3_becomes 23 = .ok (.iaload, 1) := by decide +kernel
set_option maxRecDepth 100000 in
set_option maxHeartbeats 4000000 in
theorem l_becomes (l : Launch) (E : EV) (ro : va_W) (ly : Nat) (w : Nat) (c : Nat) (lym : Nat) (Pp : Nat) (n : Nat) (lyc : Nat) (lyf : Nat) (lyq : Nat) (cf : Nat → Int32) (ff : Nat → Int32) (PP : Nat → Bool) (hn : n ≤ 24) (hw : w < n) (hc : c < 4) (hL : LYR n cf ff Pp) (hM : LYM n PP cf) : CT l yX3_becomes (Cond.code yX3_becomes cX3_becomes 3 (some .int) :: TB) ({ frames := 2, cells := 0, slots := 0, locals := 43 }) E ro [.ref ly, .int (nI w), .int (nI c)] [(ly, .inr (3, [.ref lym, .int (nI Pp), .int (nI n), .ref lyc, .ref lyf, .ref lyq])), (lyc, .inl (E.2.1 1, 24, .inl cf)), (lyf, .inl (E.2.1 1, 24, .inl ff))] (Qi E (fun (rz : Int32) uz => (rz = (nI (bcm PP w c)) ∧ uz = [(ly, .inr (3, [.ref lym, .int (nI Pp), .int (nI n), .ref lyc, .ref lyf, .ref lyq])), (lyc, .inl (E.2.1 1, 24, .inl cf)), (lyf, .inl (E.2.1 1, 24, .inl ff))] ∧ (bcm PP w c ≤ Pp)))) 0 0 := by
  refine ct_of rfl rfl ?_
  intro X C hT hin hro
  show WW X 3 E 0 [(0, .ref ly), (1, .int (nI w)), (2, .int (nI c))] [] [(ly, .inr (3, [.ref lym, .int (nI Pp), .int (nI n), .ref lyc, .ref lyf, .ref lyq])), (lyc, .inl (E.2.1 1, 24, .inl cf)), (lyf, .inl (E.2.1 1, 24, .inl ff))] 0 0
  refine ww_aload_n C dX3_becomes_0 0 rfl rfl ?_
  refine ww_iload_n C dX3_becomes_1 1 rfl rfl ?_
  refine ww_iload_n C dX3_becomes_2 2 rfl rfl ?_
  refine ww_ci (wr := [(lyf, .inl (E.2.1 1, 24, .inl ff))]) (k' := 0) (n' := 0) C (run_V (As := [.int (nI w), .int (nI c)]) (rest := []) C (l_lets X.2.1 E ro ly w c lym Pp n lyc lyf lyq cf (by omega) (by omega) (by omega) hL.1) mi_X3_lets wl_X3_70 rfl 0 3 rfl rfl rfl rfl rfl dX3_becomes_3) (roK hro) [0, 1] [2] rfl rfl rfl rfl (fun r_1 uz hw => ?_)
  rcases hw with hw | hw
  · refine an3 hw ?_
    clear hw
    intro he_4 he_5 h_2 hw
    have h_3 := hw
    clear hw
    have he_4 := he_4.symm
    subst he_4
    subst he_5
    refine ww_eq (ws' := [(lyf, .inl (E.2.1 1, 24, .inl ff)), (ly, .inr (3, [.ref lym, .int (nI Pp), .int (nI n), .ref lyc, .ref lyf, .ref lyq])), (lyc, .inl (E.2.1 1, 24, .inl cf))]) ?_ rfl rfl rfl
    refine ww_if_eq_f (tgt := 18) C dX3_becomes_6 (by decide) (by decide) ?_
    refine ww_aload_n C dX3_becomes_9 0 rfl rfl ?_
    refine ww_iload_n C dX3_becomes_10 1 rfl rfl ?_
    refine ww_iload_n C dX3_becomes_11 2 rfl rfl ?_
    refine ww_ci (wr := []) (k' := 0) (n' := 0) C (run_V (As := [.int (nI w), .int (nI c)]) (rest := []) C (l_pair X.2.1 E ro ly w c lym Pp n lyc lyf lyq cf ff (by omega) (by omega) (by omega) hL) mi_X3_pair wl_X3_93 rfl 0 3 rfl rfl rfl rfl rfl dX3_becomes_12) (roK hro) [1, 2, 0] [] rfl rfl rfl rfl (fun r_9 uz hw => ?_)
    refine an1 hw ?_
    clear hw
    intro he_10 hw
    have he_11 := hw
    clear hw
    have he_10 := he_10.symm
    subst he_10
    subst he_11
    refine ww_eq (ws' := [(ly, .inr (3, [.ref lym, .int (nI Pp), .int (nI n), .ref lyc, .ref lyf, .ref lyq])), (lyc, .inl (E.2.1 1, 24, .inl cf)), (lyf, .inl (E.2.1 1, 24, .inl ff))]) ?_ rfl rfl rfl
    refine ww_goto (tgt := 24) C dX3_becomes_15 (by decide) ?_
    exact ww_iret (u := [(ly, .inr (3, [.ref lym, .int (nI Pp), .int (nI n), .ref lyc, .ref lyf, .ref lyq])), (lyc, .inl (E.2.1 1, 24, .inl cf)), (lyf, .inl (E.2.1 1, 24, .inl ff))]) C hT [0, 1, 2] rfl rfl rfl rfl dX3_becomes_24 (⟨(by unfold bcm; rw [if_pos (by rw [← hM w c (by omega) (by omega)]; exact h_3), ← ly_cb hM hw (by omega)]), rfl, (by have h8 := hL.2.2; have h7 := ly_w hM n (Nat.le_refl _); have h9 := bcm_lt (P := PP) (w := w) (rc := c) (N := 4 * n) hc (by omega); omega)⟩)
  · refine an2 hw ?_
    clear hw
    intro he_7 he_8 hw
    have h_6 := hw
    clear hw
    have he_7 := he_7.symm
    subst he_7
    subst he_8
    refine ww_eq (ws' := [(lyf, .inl (E.2.1 1, 24, .inl ff)), (ly, .inr (3, [.ref lym, .int (nI Pp), .int (nI n), .ref lyc, .ref lyf, .ref lyq])), (lyc, .inl (E.2.1 1, 24, .inl cf))]) ?_ rfl rfl rfl
    refine ww_if_eq_t (tgt := 18) C dX3_becomes_6 (by decide) (rfl) ?_
    refine ww_aload_n C dX3_becomes_18 0 rfl rfl ?_
    refine ww_get C fg_X3_22 1 rfl rfl dX3_becomes_19 ?_
    refine ww_iload_n C dX3_becomes_22 1 rfl rfl ?_
    refine ww_iald (v := (nI (pcs cf w))) C 0 rfl (vp_in_nI (by omega) (by omega)) (ldn (by omega) (hL.2.1 w (by omega))) dX3_becomes_23 ?_
    exact ww_iret (u := [(ly, .inr (3, [.ref lym, .int (nI Pp), .int (nI n), .ref lyc, .ref lyf, .ref lyq])), (lyc, .inl (E.2.1 1, 24, .inl cf)), (lyf, .inl (E.2.1 1, 24, .inl ff))]) C hT [1, 2, 0] rfl rfl rfl rfl dX3_becomes_24 (⟨(by unfold bcm; rw [if_neg (by rw [← hM w c (by omega) (by omega), h_6 (by omega)]; decide), ← ly_w hM w (by omega)]), rfl, (by have h8 := hL.2.2; have h7 := ly_w hM n (Nat.le_refl _); have h9 := bcm_lt (P := PP) (w := w) (rc := c) (N := 4 * n) hc (by omega); omega)⟩)
theorem dX3_comingTo_0 : decode cX3_comingTo 0 = .ok (.iconst 0, 1) := by decide +kernel
theorem dX3_comingTo_1 : decode cX3_comingTo 1 = .ok (.istore_n 3, 1) := by decide +kernel
theorem dX3_comingTo_2 : decode cX3_comingTo 2 = .ok (.iconst 0, 1) := by decide +kernel
theorem dX3_comingTo_3 : decode cX3_comingTo 3 = .ok (.istore 4, 2) := by decide +kernel
theorem dX3_comingTo_5 : decode cX3_comingTo 5 = .ok (.iload 4, 2) := by decide +kernel
theorem dX3_comingTo_7 : decode cX3_comingTo 7 = .ok (.aload_n 0, 1) := by decide +kernel
theorem dX3_comingTo_8 : decode cX3_comingTo 8 = .ok (.getfield 32, 3) := by decide +kernel
theorem dX3_comingTo_11 : decode cX3_comingTo 11 = .ok (.if_icmp .ge 40, 3) := by decide +kernel
theorem dX3_comingTo_51 : decode cX3_comingTo 51 = .ok (.iload_n 3, 1) := by decide +kernel
theorem dX3_comingTo_52 : decode cX3_comingTo 52 = .ok (.ireturn, 1) := by decide +kernel
theorem dX3_comingTo_14 : decode cX3_comingTo 14 = .ok (.aload_n 0, 1) := by decide +kernel
theorem dX3_comingTo_15 : decode cX3_comingTo 15 = .ok (.getfield 18, 3) := by decide +kernel
theorem dX3_comingTo_18 : decode cX3_comingTo 18 = .ok (.iload 4, 2) := by decide +kernel
theorem dX3_comingTo_20 : decode cX3_comingTo 20 = .ok (.iaload, 1) := by decide +kernel
theorem dX3_comingTo_21 : decode cX3_comingTo 21 = .ok (.ifCond .eq 17, 3) := by decide +kernel
theorem dX3_comingTo_38 : decode cX3_comingTo 38 = .ok (.iload_n 3, 1) := by decide +kernel
theorem dX3_comingTo_39 : decode cX3_comingTo 39 = .ok (.iconst 1, 1) := by decide +kernel
theorem dX3_comingTo_40 : decode cX3_comingTo 40 = .ok (.iload 4, 2) := by decide +kernel
theorem dX3_comingTo_42 : decode cX3_comingTo 42 = .ok (.ishl, 1) := by decide +kernel
theorem dX3_comingTo_43 : decode cX3_comingTo 43 = .ok (.ior, 1) := by decide +kernel
theorem dX3_comingTo_44 : decode cX3_comingTo 44 = .ok (.istore_n 3, 1) := by decide +kernel
theorem dX3_comingTo_45 : decode cX3_comingTo 45 = .ok (.iinc 4 1, 3) := by decide +kernel
theorem dX3_comingTo_48 : decode cX3_comingTo 48 = .ok (.goto (-43), 3) := by decide +kernel
theorem dX3_comingTo_24 : decode cX3_comingTo 24 = .ok (.iload_n 1, 1) := by decide +kernel
theorem dX3_comingTo_25 : decode cX3_comingTo 25 = .ok (.aload_n 0, 1) := by decide +kernel
theorem dX3_comingTo_26 : decode cX3_comingTo 26 = .ok (.iload 4, 2) := by decide +kernel
theorem dX3_comingTo_28 : decode cX3_comingTo 28 = .ok (.iload_n 2, 1) := by decide +kernel
theorem dX3_comingTo_29 : decode cX3_comingTo 29 = .ok (.invokevirtual 109, 3) := by decide +kernel
theorem wl_X3_109 : Cond.methodLink RX3 109 yX3_becomes ∈ TB := tbm (tq4 (List.mem_of_getElem? (i := 43) (by decide +kernel))) (by decide +kernel)
theorem wc_X3_becomes : Cond.code yX3_becomes cX3_becomes 3 (some .int) ∈ TB := tbm (tq4 (List.mem_of_getElem? (i := 46) (rfl))) (by decide +kernel)
theorem wi_X3_becomes : Cond.instanceMethod yX3_becomes ∈ TB := tbm (tq4 (List.mem_of_getElem? (i := 45) (by decide +kernel))) (by decide +kernel)
theorem ws_X3_becomes : Cond.selects RX3 yX3_becomes yX3_becomes ∈ TB := tbm (tq0 (List.mem_of_getElem? (i := 21) (by decide +kernel))) (by decide +kernel)
theorem mi_X3_becomes : MI yX3_becomes cX3_becomes 3 (some .int) 2 := ⟨wc_X3_becomes, wn_X3, ⟨by decide +kernel, by decide +kernel, by decide +kernel⟩, wi_X3_becomes, ws_X3_becomes⟩
theorem dX3_comingTo_32 : decode cX3_comingTo 32 = .ok (.invokestatic 63, 3) := by decide +kernel
theorem dX3_comingTo_35 : decode cX3_comingTo 35 = .ok (.ifCond .eq 10, 3) := by decide +kernel
set_option maxRecDepth 100000 in
set_option maxHeartbeats 4000000 in
theorem l_comingTo (l : Launch) (E : EV) (ro : va_W) (ly : Nat) (wb : Int32) (c : Nat) (lym : Nat) (Pp : Nat) (n : Nat) (lyc : Nat) (lyf : Nat) (lyq : Nat) (cf : Nat → Int32) (ff : Nat → Int32) (PP : Nat → Bool) (hn : n ≤ 24) (hc : c < 4) (hL : LYR n cf ff Pp) (hM : LYM n PP cf) (hP : Pp ≤ 24) : CT l yX3_comingTo (Cond.code yX3_comingTo cX3_comingTo 5 (some .int) :: TB) ({ frames := 3, cells := 0, slots := 0, locals := 65 }) E ro [.ref ly, .int wb, .int (nI c)] [(ly, .inr (3, [.ref lym, .int (nI Pp), .int (nI n), .ref lyc, .ref lyf, .ref lyq])), (lyc, .inl (E.2.1 1, 24, .inl cf)), (lyf, .inl (E.2.1 1, 24, .inl ff))] (Qi E (fun (rz : Int32) uz => (uz = [(ly, .inr (3, [.ref lym, .int (nI Pp), .int (nI n), .ref lyc, .ref lyf, .ref lyq])), (lyc, .inl (E.2.1 1, 24, .inl cf)), (lyf, .inl (E.2.1 1, 24, .inl ff))] ∧ (BS rz (fun w => decide (w < n) && (decide (cb PP (4 * w + 4) = cb PP (4 * w)) || bt wb (bcm PP w c))))))) 0 0 := by
  refine ct_of rfl rfl ?_
  intro X C hT hin hro
  show WW X 5 E 0 [(0, .ref ly), (1, .int wb), (2, .int (nI c))] [] [(ly, .inr (3, [.ref lym, .int (nI Pp), .int (nI n), .ref lyc, .ref lyf, .ref lyq])), (lyc, .inl (E.2.1 1, 24, .inl cf)), (lyf, .inl (E.2.1 1, 24, .inl ff))] 0 0
  refine ww_iconst (v := 0) C dX3_comingTo_0 rfl ?_
  refine ww_istore_n (lv' := [(3, .int 0), (0, .ref ly), (1, .int wb), (2, .int (nI c))]) C dX3_comingTo_1 rfl rfl rfl ?_
  refine ww_iconst (v := 0) C dX3_comingTo_2 rfl ?_
  refine ww_istore (lv' := [(4, .int 0), (3, .int 0), (0, .ref ly), (1, .int wb), (2, .int (nI c))]) C dX3_comingTo_3 rfl rfl ?_
  have loop_5 : ∀ (fu : Nat) (i1 : Nat) (ac : Int32), (i1 ≤ n) → (AC ac no_ i1 (fun w => decide (cb PP (4 * w + 4) = cb PP (4 * w)) || bt wb (bcm PP w c))) → n - i1 < fu → WW X 5 E 5 [(4, .int (nI i1)), (3, .int ac), (0, .ref ly), (1, .int wb), (2, .int (nI c))] [] [(ly, .inr (3, [.ref lym, .int (nI Pp), .int (nI n), .ref lyc, .ref lyf, .ref lyq])), (lyc, .inl (E.2.1 1, 24, .inl cf)), (lyf, .inl (E.2.1 1, 24, .inl ff))] 0 0 := by
    intro fu
    induction fu with
    | zero => intro i1 ac hi1 hac hmeas; exact absurd hmeas (Nat.not_lt_zero _)
    | succ fu ih_5 =>
      intro i1 ac hi1 hac hmeas
      refine ww_iload C dX3_comingTo_5 0 rfl ?_
      refine ww_aload_n C dX3_comingTo_7 2 rfl rfl ?_
      refine ww_get C fg_X3_32 0 rfl rfl dX3_comingTo_8 ?_
      refine ww_icmp_ge (tgt := 51) C dX3_comingTo_11 (by decide) (fun c_1 => ?_) (fun c_1 => ?_)
      · have zc_1 : ((i1 : Nat) : Int) ≥ ((n : Nat) : Int) := i_le (nI_toInt (n := n) (by omega)) (nI_toInt (n := i1) (by omega)) c_1
        refine ww_iload_n C dX3_comingTo_51 1 rfl rfl ?_
        exact ww_iret (u := [(ly, .inr (3, [.ref lym, .int (nI Pp), .int (nI n), .ref lyc, .ref lyf, .ref lyq])), (lyc, .inl (E.2.1 1, 24, .inl cf)), (lyf, .inl (E.2.1 1, 24, .inl ff))]) C hT [0, 1, 2] rfl rfl rfl rfl dX3_comingTo_52 (⟨rfl, (AC.fin hac (by omega))⟩)
      · have zc_1 : ((i1 : Nat) : Int) < ((n : Nat) : Int) := i_nle (nI_toInt (n := n) (by omega)) (nI_toInt (n := i1) (by omega)) c_1
        refine ww_aload_n C dX3_comingTo_14 2 rfl rfl ?_
        refine ww_get C fg_X3_18 0 rfl rfl dX3_comingTo_15 ?_
        refine ww_iload C dX3_comingTo_18 0 rfl ?_
        have hbx_2 := CBx.lt hL.1 (by omega) (show i1 < n by omega)
        refine ww_iald (v := (nI (cN cf i1))) C 1 rfl (vp_in_nI (by omega) (by omega)) (ldn (by omega) (hL.1 i1 (by omega)).1) dX3_comingTo_20 ?_
        refine ww_if_eq (tgt := 38) C dX3_comingTo_21 (by decide) (fun c_3 => ?_) (fun c_3 => ?_)
        · have zc_3 : ((cN cf i1 : Nat) : Int) = 0 := i_eq (nI_toInt (n := cN cf i1) (by omega)) rfl c_3
          refine ww_iload_n C dX3_comingTo_38 1 rfl rfl ?_
          refine ww_iconst (v := 1) C dX3_comingTo_39 rfl ?_
          refine ww_iload C dX3_comingTo_40 0 rfl ?_
          obtain ⟨x_4, ex_4⟩ : ∃ z : Int32, (1 : Int32) <<< ((nI i1) &&& 31) = z := ⟨_, rfl⟩
          refine ww_ishl (v := x_4) C dX3_comingTo_42 ex_4 ?_
          obtain ⟨x_5, ex_5⟩ : ∃ z : Int32, ac ||| x_4 = z := ⟨_, rfl⟩
          refine ww_ior (v := x_5) C dX3_comingTo_43 ex_5 ?_
          refine ww_istore_n (lv' := [(3, .int x_5), (4, .int (nI i1)), (0, .ref ly), (1, .int wb), (2, .int (nI c))]) C dX3_comingTo_44 rfl rfl rfl ?_
          refine ww_iinc (j := 1) (v := (nI (i1 + 1))) (lv' := [(4, .int (nI (i1 + 1))), (3, .int x_5), (0, .ref ly), (1, .int wb), (2, .int (nI c))]) C dX3_comingTo_45 rfl (nI_add i1 1) rfl rfl ?_
          refine ww_goto (tgt := 5) C dX3_comingTo_48 (by decide) ?_
          exact ww_lv [0, 1, 2, 3, 4] rfl (ww_sub [0, 1, 2] rfl rfl (ih_5 (i1 + 1) x_5 (by omega) (AC.t hac (by omega) (by rw [show decide (cb PP (4 * i1 + 4) = cb PP (4 * i1)) = true from decide_eq_true (by have h8 := bi_0 (cf := cf) (w := i1) (by omega); have h7 := ly_cb hM (w := i1) (c := 4) (by omega) (by omega); have h6 := ly_w hM i1 (by omega); omega)]; rfl) ex_5 ex_4) (by omega)))
        · have zc_3 : ((cN cf i1 : Nat) : Int) ≠ 0 := i_ne (nI_toInt (n := cN cf i1) (by omega)) rfl c_3
          refine ww_iload_n C dX3_comingTo_24 3 rfl rfl ?_
          refine ww_aload_n C dX3_comingTo_25 2 rfl rfl ?_
          refine ww_iload C dX3_comingTo_26 0 rfl ?_
          refine ww_iload_n C dX3_comingTo_28 4 rfl rfl ?_
          refine ww_ci (wr := []) (k' := 0) (n' := 0) C (run_V (As := [.int (nI i1), .int (nI c)]) (rest := [.int wb]) C (l_becomes X.2.1 E ro ly i1 c lym Pp n lyc lyf lyq cf ff PP (by omega) (by omega) (by omega) hL hM) mi_X3_becomes wl_X3_109 rfl 0 3 rfl rfl rfl rfl rfl dX3_comingTo_29) (roK hro) [0, 1, 2] [] rfl rfl rfl rfl (fun r_6 uz hw => ?_)
          refine an2 hw ?_
          clear hw
          intro he_8 he_9 hw
          have h_7 := hw
          clear hw
          have he_8 := he_8.symm
          subst he_8
          subst he_9
          refine ww_eq (ws' := [(ly, .inr (3, [.ref lym, .int (nI Pp), .int (nI n), .ref lyc, .ref lyf, .ref lyq])), (lyc, .inl (E.2.1 1, 24, .inl cf)), (lyf, .inl (E.2.1 1, 24, .inl ff))]) ?_ rfl rfl rfl
          refine ww_ci (wr := [(ly, .inr (3, [.ref lym, .int (nI Pp), .int (nI n), .ref lyc, .ref lyf, .ref lyq])), (lyc, .inl (E.2.1 1, 24, .inl cf)), (lyf, .inl (E.2.1 1, 24, .inl ff))]) (k' := 0) (n' := 0) C (run_SN (As := [.int wb, .int (nI (bcm PP i1 c))]) (rest := []) C (c_hasN X.2.1 E ro wb (bcm PP i1 c) (by omega)) ms_X11_has (List.mem_of_getElem? (i := 16) rfl) rfl rfl rfl rfl dX3_comingTo_32) (roK hro) [] [0, 1, 2] rfl rfl rfl rfl (fun r_10 uz hw => ?_)
          rcases hw with hw | hw
          · refine an2 hw ?_
            clear hw
            intro he_12 he_13 hw
            have h_11 := hw
            clear hw
            have he_12 := he_12.symm
            subst he_12
            subst he_13
            refine ww_eq (ws' := [(ly, .inr (3, [.ref lym, .int (nI Pp), .int (nI n), .ref lyc, .ref lyf, .ref lyq])), (lyc, .inl (E.2.1 1, 24, .inl cf)), (lyf, .inl (E.2.1 1, 24, .inl ff))]) ?_ rfl rfl rfl
            refine ww_if_eq_f (tgt := 45) C dX3_comingTo_35 (by decide) (by decide) ?_
            refine ww_iload_n C dX3_comingTo_38 1 rfl rfl ?_
            refine ww_iconst (v := 1) C dX3_comingTo_39 rfl ?_
            refine ww_iload C dX3_comingTo_40 0 rfl ?_
            obtain ⟨x_17, ex_17⟩ : ∃ z : Int32, (1 : Int32) <<< ((nI i1) &&& 31) = z := ⟨_, rfl⟩
            refine ww_ishl (v := x_17) C dX3_comingTo_42 ex_17 ?_
            obtain ⟨x_18, ex_18⟩ : ∃ z : Int32, ac ||| x_17 = z := ⟨_, rfl⟩
            refine ww_ior (v := x_18) C dX3_comingTo_43 ex_18 ?_
            refine ww_istore_n (lv' := [(3, .int x_18), (4, .int (nI i1)), (0, .ref ly), (1, .int wb), (2, .int (nI c))]) C dX3_comingTo_44 rfl rfl rfl ?_
            refine ww_iinc (j := 1) (v := (nI (i1 + 1))) (lv' := [(4, .int (nI (i1 + 1))), (3, .int x_18), (0, .ref ly), (1, .int wb), (2, .int (nI c))]) C dX3_comingTo_45 rfl (nI_add i1 1) rfl rfl ?_
            refine ww_goto (tgt := 5) C dX3_comingTo_48 (by decide) ?_
            exact ww_lv [0, 1, 2, 3, 4] rfl (ww_sub [0, 1, 2] rfl rfl (ih_5 (i1 + 1) x_18 (by omega) (AC.t hac (by omega) (by rw [show bt wb (bcm PP i1 c) = true from h_11, Bool.or_true]) ex_18 ex_17) (by omega)))
          · refine an2 hw ?_
            clear hw
            intro he_15 he_16 hw
            have h_14 := hw
            clear hw
            have he_15 := he_15.symm
            subst he_15
            subst he_16
            refine ww_eq (ws' := [(ly, .inr (3, [.ref lym, .int (nI Pp), .int (nI n), .ref lyc, .ref lyf, .ref lyq])), (lyc, .inl (E.2.1 1, 24, .inl cf)), (lyf, .inl (E.2.1 1, 24, .inl ff))]) ?_ rfl rfl rfl
            refine ww_if_eq_t (tgt := 45) C dX3_comingTo_35 (by decide) (rfl) ?_
            refine ww_iinc (j := 0) (v := (nI (i1 + 1))) (lv' := [(4, .int (nI (i1 + 1))), (3, .int ac), (0, .ref ly), (1, .int wb), (2, .int (nI c))]) C dX3_comingTo_45 rfl (nI_add i1 1) rfl rfl ?_
            refine ww_goto (tgt := 5) C dX3_comingTo_48 (by decide) ?_
            exact ww_lv [0, 1, 2, 3, 4] rfl (ww_sub [0, 1, 2] rfl rfl (ih_5 (i1 + 1) ac (by omega) (AC.f hac (by rw [show bt wb (bcm PP i1 c) = false from h_14, Bool.or_false]; exact decide_eq_false (by have h8 := bi_0 (cf := cf) (w := i1) (by omega); have h7 := ly_cb hM (w := i1) (c := 4) (by omega) (by omega); have h6 := ly_w hM i1 (by omega); omega))) (by omega)))
  exact ww_lv [0, 1, 2, 3, 4] rfl (ww_sub [0, 1, 2] rfl rfl (loop_5 _ 0 0 (by omega) AC.nil (Nat.lt_succ_self _)))
