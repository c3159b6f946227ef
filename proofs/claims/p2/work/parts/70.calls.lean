/-- the secrets of a person, and what a call makes of them -/
def sc (kn : Int32) (i : Nat) : Int32 := kn >>> (nI (4 * i) &&& 31) &&& 15
def cl (kn : Int32) (i j : Nat) : Int32 := kn ||| (sc kn i ||| sc kn j) <<< (nI (4 * i) &&& 31) ||| (sc kn i ||| sc kn j) <<< (nI (4 * j) &&& 31)
theorem dX11_secretsOf_0 : decode cX11_secretsOf 0 = .ok (.iload_n 0, 1) := by decide +kernel
theorem dX11_secretsOf_1 : decode cX11_secretsOf 1 = .ok (.iconst 4, 1) := by decide +kernel
theorem dX11_secretsOf_2 : decode cX11_secretsOf 2 = .ok (.iload_n 1, 1) := by decide +kernel
theorem dX11_secretsOf_3 : decode cX11_secretsOf 3 = .ok (.imul, 1) := by decide +kernel
theorem dX11_secretsOf_4 : decode cX11_secretsOf 4 = .ok (.ishr, 1) := by decide +kernel
theorem dX11_secretsOf_5 : decode cX11_secretsOf 5 = .ok (.bipush 15, 2) := by decide +kernel
theorem dX11_secretsOf_7 : decode cX11_secretsOf 7 = .ok (.iand, 1) := by decide +kernel
theorem dX11_secretsOf_8 : decode cX11_secretsOf 8 = .ok (.ireturn, 1) := by decide +kernel
set_option maxRecDepth 100000 in
set_option maxHeartbeats 4000000 in
theorem c_secretsOf (l : Launch) (E : EV) (ro : va_W) (kn : Int32) (i : Nat)  : CT l yX11_secretsOf (Cond.code yX11_secretsOf cX11_secretsOf 2 (some .int) :: TB) ({ frames := 0, cells := 0, slots := 0, locals := 0 }) E ro [.int kn, .int (nI i)] [] (Qi E (fun (rz : Int32) uz => (rz = (sc kn i) ∧ uz = []))) 0 0 := by
  refine ct_of rfl rfl ?_
  intro X C hT hin hro
  show WW X 2 E 0 [(0, .int kn), (1, .int (nI i))] [] [] 0 0
  refine ww_iload_n C dX11_secretsOf_0 0 rfl rfl ?_
  refine ww_iconst (v := 4) C dX11_secretsOf_1 rfl ?_
  refine ww_iload_n C dX11_secretsOf_2 1 rfl rfl ?_
  refine ww_imul (v := (nI (4 * i))) C dX11_secretsOf_3 (pk_mul 4 i) ?_
  obtain ⟨x_1, ex_1⟩ : ∃ z : Int32, kn >>> ((nI (4 * i)) &&& 31) = z := ⟨_, rfl⟩
  refine ww_ishr (v := x_1) C dX11_secretsOf_4 ex_1 ?_
  refine ww_bipush (v := 15) C dX11_secretsOf_5 rfl ?_
  obtain ⟨x_2, ex_2⟩ : ∃ z : Int32, x_1 &&& (15 : Int32) = z := ⟨_, rfl⟩
  refine ww_iand (v := x_2) C dX11_secretsOf_7 ex_2 ?_
  exact ww_iret (u := []) C hT [] rfl rfl rfl rfl dX11_secretsOf_8 (⟨(by subst_vars; rfl), rfl⟩)
theorem dX11_called_0 : decode cX11_called 0 = .ok (.iload_n 0, 1) := by decide +kernel
theorem dX11_called_1 : decode cX11_called 1 = .ok (.iload_n 1, 1) := by decide +kernel
theorem dX11_called_2 : decode cX11_called 2 = .ok (.invokestatic 308, 3) := by decide +kernel
theorem wl_X11_308 : Cond.methodLink RX11 308 yX11_secretsOf ∈ TB := tbm (tq5 (List.mem_of_getElem? (i := 9) (by decide +kernel))) (by decide +kernel)
theorem wc_X11_secretsOf : Cond.code yX11_secretsOf cX11_secretsOf 2 (some .int) ∈ TB := tbm (tq5 (List.mem_of_getElem? (i := 11) (rfl))) (by decide +kernel)
theorem wt_X11_secretsOf : Cond.static yX11_secretsOf ∈ TB := tbm (tq5 (List.mem_of_getElem? (i := 10) (by decide +kernel))) (by decide +kernel)
theorem ms_X11_secretsOf : MS yX11_secretsOf cX11_secretsOf 2 (some .int) 2 := ⟨wc_X11_secretsOf, wn_X11, ⟨by decide +kernel, by decide +kernel, by decide +kernel⟩, wt_X11_secretsOf⟩
theorem dX11_called_5 : decode cX11_called 5 = .ok (.iload_n 0, 1) := by decide +kernel
theorem dX11_called_6 : decode cX11_called 6 = .ok (.iload_n 2, 1) := by decide +kernel
theorem dX11_called_7 : decode cX11_called 7 = .ok (.invokestatic 308, 3) := by decide +kernel
theorem dX11_called_10 : decode cX11_called 10 = .ok (.ior, 1) := by decide +kernel
theorem dX11_called_11 : decode cX11_called 11 = .ok (.istore_n 3, 1) := by decide +kernel
theorem dX11_called_12 : decode cX11_called 12 = .ok (.iload_n 0, 1) := by decide +kernel
theorem dX11_called_13 : decode cX11_called 13 = .ok (.iload_n 3, 1) := by decide +kernel
theorem dX11_called_14 : decode cX11_called 14 = .ok (.iconst 4, 1) := by decide +kernel
theorem dX11_called_15 : decode cX11_called 15 = .ok (.iload_n 1, 1) := by decide +kernel
theorem dX11_called_16 : decode cX11_called 16 = .ok (.imul, 1) := by decide +kernel
theorem dX11_called_17 : decode cX11_called 17 = .ok (.ishl, 1) := by decide +kernel
theorem dX11_called_18 : decode cX11_called 18 = .ok (.ior, 1) := by decide +kernel
theorem dX11_called_19 : decode cX11_called 19 = .ok (.iload_n 3, 1) := by decide +kernel
theorem dX11_called_20 : decode cX11_called 20 = .ok (.iconst 4, 1) := by decide +kernel
theorem dX11_called_21 : decode cX11_called 21 = .ok (.iload_n 2, 1) := by decide +kernel
theorem dX11_called_22 : decode cX11_called 22 = .ok (.imul, 1) := by decide +kernel
theorem dX11_called_23 : decode cX11_called 23 = .ok (.ishl, 1) := by decide +kernel
theorem dX11_called_24 : decode cX11_called 24 = .ok (.ior, 1) := by decide +kernel
theorem dX11_called_25 : decode cX11_called 25 = .ok (.ireturn, 1) := by decide +kernel
set_option maxRecDepth 100000 in
set_option maxHeartbeats 4000000 in
theorem c_called (l : Launch) (E : EV) (ro : va_W) (kn : Int32) (i : Nat) (j : Nat)  : CT l yX11_called (Cond.code yX11_called cX11_called 4 (some .int) :: TB) ({ frames := 1, cells := 0, slots := 0, locals := 21 }) E ro [.int kn, .int (nI i), .int (nI j)] [] (Qi E (fun (rz : Int32) uz => (rz = (cl kn i j) ∧ uz = []))) 0 0 := by
  refine ct_of rfl rfl ?_
  intro X C hT hin hro
  show WW X 4 E 0 [(0, .int kn), (1, .int (nI i)), (2, .int (nI j))] [] [] 0 0
  refine ww_iload_n C dX11_called_0 0 rfl rfl ?_
  refine ww_iload_n C dX11_called_1 1 rfl rfl ?_
  refine ww_ci (wr := []) (k' := 0) (n' := 0) C (run_S (As := [.int kn, .int (nI i)]) (rest := []) C (c_secretsOf X.2.1 E ro kn i) ms_X11_secretsOf wl_X11_308 rfl rfl rfl rfl dX11_called_2) (roK hro) [] [] rfl rfl rfl rfl (fun r_1 uz hw => ?_)
  refine an1 hw ?_
  clear hw
  intro he_2 hw
  have he_3 := hw
  clear hw
  have he_2 := he_2.symm
  subst he_2
  subst he_3
  refine ww_eq (ws' := []) ?_ rfl rfl rfl
  refine ww_iload_n C dX11_called_5 0 rfl rfl ?_
  refine ww_iload_n C dX11_called_6 2 rfl rfl ?_
  refine ww_ci (wr := []) (k' := 0) (n' := 0) C (run_S (As := [.int kn, .int (nI j)]) (rest := [.int (sc kn i)]) C (c_secretsOf X.2.1 E ro kn j) ms_X11_secretsOf wl_X11_308 rfl rfl rfl rfl dX11_called_7) (roK hro) [] [] rfl rfl rfl rfl (fun r_4 uz hw => ?_)
  refine an1 hw ?_
  clear hw
  intro he_5 hw
  have he_6 := hw
  clear hw
  have he_5 := he_5.symm
  subst he_5
  subst he_6
  refine ww_eq (ws' := []) ?_ rfl rfl rfl
  obtain ⟨x_7, ex_7⟩ : ∃ z : Int32, (sc kn i) ||| (sc kn j) = z := ⟨_, rfl⟩
  refine ww_ior (v := x_7) C dX11_called_10 ex_7 ?_
  refine ww_istore_n (lv' := [(3, .int x_7), (0, .int kn), (1, .int (nI i)), (2, .int (nI j))]) C dX11_called_11 rfl rfl rfl ?_
  refine ww_iload_n C dX11_called_12 1 rfl rfl ?_
  refine ww_iload_n C dX11_called_13 0 rfl rfl ?_
  refine ww_iconst (v := 4) C dX11_called_14 rfl ?_
  refine ww_iload_n C dX11_called_15 2 rfl rfl ?_
  refine ww_imul (v := (nI (4 * i))) C dX11_called_16 (pk_mul 4 i) ?_
  obtain ⟨x_8, ex_8⟩ : ∃ z : Int32, x_7 <<< ((nI (4 * i)) &&& 31) = z := ⟨_, rfl⟩
  refine ww_ishl (v := x_8) C dX11_called_17 ex_8 ?_
  obtain ⟨x_9, ex_9⟩ : ∃ z : Int32, kn ||| x_8 = z := ⟨_, rfl⟩
  refine ww_ior (v := x_9) C dX11_called_18 ex_9 ?_
  refine ww_iload_n C dX11_called_19 0 rfl rfl ?_
  refine ww_iconst (v := 4) C dX11_called_20 rfl ?_
  refine ww_iload_n C dX11_called_21 3 rfl rfl ?_
  refine ww_imul (v := (nI (4 * j))) C dX11_called_22 (pk_mul 4 j) ?_
  obtain ⟨x_10, ex_10⟩ : ∃ z : Int32, x_7 <<< ((nI (4 * j)) &&& 31) = z := ⟨_, rfl⟩
  refine ww_ishl (v := x_10) C dX11_called_23 ex_10 ?_
  obtain ⟨x_11, ex_11⟩ : ∃ z : Int32, x_9 ||| x_10 = z := ⟨_, rfl⟩
  refine ww_ior (v := x_11) C dX11_called_24 ex_11 ?_
  exact ww_iret (u := []) C hT [] rfl rfl rfl rfl dX11_called_25 (⟨(by subst_vars; rfl), rfl⟩)
theorem dX11_allKnowAll_0 : decode cX11_allKnowAll 0 = .ok (.iconst 0, 1) := by decide +kernel
theorem dX11_allKnowAll_1 : decode cX11_allKnowAll 1 = .ok (.istore_n 2, 1) := by decide +kernel
theorem dX11_allKnowAll_2 : decode cX11_allKnowAll 2 = .ok (.iload_n 2, 1) := by decide +kernel
theorem dX11_allKnowAll_3 : decode cX11_allKnowAll 3 = .ok (.iload_n 1, 1) := by decide +kernel
theorem dX11_allKnowAll_4 : decode cX11_allKnowAll 4 = .ok (.if_icmp .ge 24, 3) := by decide +kernel
theorem dX11_allKnowAll_28 : decode cX11_allKnowAll 28 = .ok (.iconst 1, 1) := by decide +kernel
theorem dX11_allKnowAll_29 : decode cX11_allKnowAll 29 = .ok (.ireturn, 1) := by decide +kernel
theorem dX11_allKnowAll_7 : decode cX11_allKnowAll 7 = .ok (.iload_n 0, 1) := by decide +kernel
theorem dX11_allKnowAll_8 : decode cX11_allKnowAll 8 = .ok (.iload_n 2, 1) := by decide +kernel
theorem dX11_allKnowAll_9 : decode cX11_allKnowAll 9 = .ok (.invokestatic 308, 3) := by decide +kernel
theorem dX11_allKnowAll_12 : decode cX11_allKnowAll 12 = .ok (.iconst 1, 1) := by decide +kernel
theorem dX11_allKnowAll_13 : decode cX11_allKnowAll 13 = .ok (.iload_n 1, 1) := by decide +kernel
theorem dX11_allKnowAll_14 : decode cX11_allKnowAll 14 = .ok (.ishl, 1) := by decide +kernel
theorem dX11_allKnowAll_15 : decode cX11_allKnowAll 15 = .ok (.iconst 1, 1) := by decide +kernel
theorem dX11_allKnowAll_16 : decode cX11_allKnowAll 16 = .ok (.isub, 1) := by decide +kernel
theorem dX11_allKnowAll_17 : decode cX11_allKnowAll 17 = .ok (.if_icmp .eq 5, 3) := by decide +kernel
theorem dX11_allKnowAll_22 : decode cX11_allKnowAll 22 = .ok (.iinc 2 1, 3) := by decide +kernel
theorem dX11_allKnowAll_25 : decode cX11_allKnowAll 25 = .ok (.goto (-23), 3) := by decide +kernel
theorem dX11_allKnowAll_20 : decode cX11_allKnowAll 20 = .ok (.iconst 0, 1) := by decide +kernel
theorem dX11_allKnowAll_21 : decode cX11_allKnowAll 21 = .ok (.ireturn, 1) := by decide +kernel
set_option maxRecDepth 100000 in
set_option maxHeartbeats 4000000 in
theorem c_allKnowAll (l : Launch) (E : EV) (ro : va_W) (kn : Int32) (n : Nat) (hn : n ≤ 4) : CT l yX11_allKnowAll (Cond.code yX11_allKnowAll cX11_allKnowAll 3 (some .boolean) :: TB) ({ frames := 1, cells := 0, slots := 0, locals := 21 }) E ro [.int kn, .int (nI n)] [] (Qi E (fun (rz : Int32) uz => (rz = 1 ∧ uz = []) ∨ (rz = 0 ∧ uz = []))) 0 0 := by
  refine ct_of rfl rfl ?_
  intro X C hT hin hro
  show WW X 3 E 0 [(0, .int kn), (1, .int (nI n))] [] [] 0 0
  refine ww_iconst (v := 0) C dX11_allKnowAll_0 rfl ?_
  refine ww_istore_n (lv' := [(2, .int 0), (0, .int kn), (1, .int (nI n))]) C dX11_allKnowAll_1 rfl rfl rfl ?_
  have loop_2 : ∀ (fu : Nat) (i1 : Nat), (i1 ≤ n) → n - i1 < fu → WW X 3 E 2 [(2, .int (nI i1)), (0, .int kn), (1, .int (nI n))] [] [] 0 0 := by
    intro fu
    induction fu with
    | zero => intro i1 hi1 hmeas; exact absurd hmeas (Nat.not_lt_zero _)
    | succ fu ih_2 =>
      intro i1 hi1 hmeas
      refine ww_iload_n C dX11_allKnowAll_2 0 rfl rfl ?_
      refine ww_iload_n C dX11_allKnowAll_3 2 rfl rfl ?_
      refine ww_icmp_ge (tgt := 28) C dX11_allKnowAll_4 (by decide) (fun c_1 => ?_) (fun c_1 => ?_)
      · have zc_1 : ((i1 : Nat) : Int) ≥ ((n : Nat) : Int) := i_le (nI_toInt (n := n) (by omega)) (nI_toInt (n := i1) (by omega)) c_1
        refine ww_iconst (v := 1) C dX11_allKnowAll_28 rfl ?_
        exact ww_zret (u := []) C hT [] rfl rfl rfl rfl rfl dX11_allKnowAll_29 (Or.inl ⟨rfl, rfl⟩)
      · have zc_1 : ((i1 : Nat) : Int) < ((n : Nat) : Int) := i_nle (nI_toInt (n := n) (by omega)) (nI_toInt (n := i1) (by omega)) c_1
        refine ww_iload_n C dX11_allKnowAll_7 1 rfl rfl ?_
        refine ww_iload_n C dX11_allKnowAll_8 0 rfl rfl ?_
        refine ww_ci (wr := []) (k' := 0) (n' := 0) C (run_S (As := [.int kn, .int (nI i1)]) (rest := []) C (c_secretsOf X.2.1 E ro kn i1) ms_X11_secretsOf wl_X11_308 rfl rfl rfl rfl dX11_allKnowAll_9) (roK hro) [] [] rfl rfl rfl rfl (fun r_2 uz hw => ?_)
        refine an1 hw ?_
        clear hw
        intro he_3 hw
        have he_4 := hw
        clear hw
        have he_3 := he_3.symm
        subst he_3
        subst he_4
        refine ww_eq (ws' := []) ?_ rfl rfl rfl
        refine ww_iconst (v := 1) C dX11_allKnowAll_12 rfl ?_
        refine ww_iload_n C dX11_allKnowAll_13 2 rfl rfl ?_
        obtain ⟨x_5, ex_5⟩ : ∃ z : Int32, (1 : Int32) <<< ((nI n) &&& 31) = z := ⟨_, rfl⟩
        refine ww_ishl (v := x_5) C dX11_allKnowAll_14 ex_5 ?_
        refine ww_iconst (v := 1) C dX11_allKnowAll_15 rfl ?_
        obtain ⟨x_6, ex_6⟩ : ∃ z : Int32, x_5 - (1 : Int32) = z := ⟨_, rfl⟩
        refine ww_isub (v := x_6) C dX11_allKnowAll_16 ex_6 ?_
        refine ww_icmp_eq (tgt := 22) C dX11_allKnowAll_17 (by decide) (fun c_7 => ?_) (fun c_7 => ?_)
        · have zc_7 : (sc kn i1).toInt = x_6.toInt := i_eq rfl rfl c_7
          refine ww_iinc (j := 0) (v := (nI (i1 + 1))) (lv' := [(2, .int (nI (i1 + 1))), (0, .int kn), (1, .int (nI n))]) C dX11_allKnowAll_22 rfl (nI_add i1 1) rfl rfl ?_
          refine ww_goto (tgt := 2) C dX11_allKnowAll_25 (by decide) ?_
          exact ww_lv [0, 1, 2] rfl (ww_sub [] rfl rfl (ih_2 (i1 + 1) (by omega) (by omega)))
        · have zc_7 : (sc kn i1).toInt ≠ x_6.toInt := i_ne rfl rfl c_7
          refine ww_iconst (v := 0) C dX11_allKnowAll_20 rfl ?_
          exact ww_zret (u := []) C hT [] rfl rfl rfl rfl rfl dX11_allKnowAll_21 (Or.inr ⟨rfl, rfl⟩)
  exact ww_lv [0, 1, 2] rfl (ww_sub [] rfl rfl (loop_2 _ 0 (by omega) (Nat.lt_succ_self _)))
theorem dX11_canEnd_0 : decode cX11_canEnd 0 = .ok (.iload_n 0, 1) := by decide +kernel
theorem dX11_canEnd_1 : decode cX11_canEnd 1 = .ok (.iload_n 1, 1) := by decide +kernel
theorem dX11_canEnd_2 : decode cX11_canEnd 2 = .ok (.invokestatic 311, 3) := by decide +kernel
theorem wl_X11_311 : Cond.methodLink RX11 311 yX11_allKnowAll ∈ TB := tbm (tq5 (List.mem_of_getElem? (i := 24) (by decide +kernel))) (by decide +kernel)
theorem wc_X11_allKnowAll : Cond.code yX11_allKnowAll cX11_allKnowAll 3 (some .boolean) ∈ TB := tbm (tq5 (List.mem_of_getElem? (i := 26) (rfl))) (by decide +kernel)
theorem wt_X11_allKnowAll : Cond.static yX11_allKnowAll ∈ TB := tbm (tq5 (List.mem_of_getElem? (i := 25) (by decide +kernel))) (by decide +kernel)
theorem ms_X11_allKnowAll : MS yX11_allKnowAll cX11_allKnowAll 3 (some .boolean) 2 := ⟨wc_X11_allKnowAll, wn_X11, ⟨by decide +kernel, by decide +kernel, by decide +kernel⟩, wt_X11_allKnowAll⟩
theorem dX11_canEnd_5 : decode cX11_canEnd 5 = .ok (.ifCond .ne 18, 3) := by decide +kernel
theorem dX11_canEnd_23 : decode cX11_canEnd 23 = .ok (.iconst 1, 1) := by decide +kernel
theorem dX11_canEnd_24 : decode cX11_canEnd 24 = .ok (.goto 4, 3) := by decide +kernel
theorem dX11_canEnd_28 : decode cX11_canEnd 28 = .ok (.ireturn, 1) := by decide +kernel
theorem dX11_canEnd_8 : decode cX11_canEnd 8 = .ok (.iload_n 2, 1) := by decide +kernel
theorem dX11_canEnd_9 : decode cX11_canEnd 9 = .ok (.ifCond .le 18, 3) := by decide +kernel
theorem dX11_canEnd_27 : decode cX11_canEnd 27 = .ok (.iconst 0, 1) := by decide +kernel
set_option maxRecDepth 100000 in
set_option maxHeartbeats 4000000 in
theorem c_canEnd0 (l : Launch) (E : EV) (ro : va_W) (kn : Int32) (n : Nat) (hn : n ≤ 4) : CT l yX11_canEnd (Cond.code yX11_canEnd cX11_canEnd 3 (some .boolean) :: TB) ({ frames := 2, cells := 0, slots := 0, locals := 43 }) E ro [.int kn, .int (nI n), .int 0] [] (Qi E (fun (rz : Int32) uz => (rz = 1 ∧ uz = []) ∨ (rz = 0 ∧ uz = []))) 0 0 := by
  refine ct_of rfl rfl ?_
  intro X C hT hin hro
  show WW X 3 E 0 [(0, .int kn), (1, .int (nI n)), (2, .int 0)] [] [] 0 0
  refine ww_iload_n C dX11_canEnd_0 0 rfl rfl ?_
  refine ww_iload_n C dX11_canEnd_1 1 rfl rfl ?_
  refine ww_ci (wr := []) (k' := 0) (n' := 0) C (run_S (As := [.int kn, .int (nI n)]) (rest := []) C (c_allKnowAll X.2.1 E ro kn n (by omega)) ms_X11_allKnowAll wl_X11_311 rfl rfl rfl rfl dX11_canEnd_2) (roK hro) [] [] rfl rfl rfl rfl (fun r_1 uz hw => ?_)
  rcases hw with hw | hw
  · refine an1 hw ?_
    clear hw
    intro he_2 hw
    have he_3 := hw
    clear hw
    have he_2 := he_2.symm
    subst he_2
    subst he_3
    refine ww_eq (ws' := []) ?_ rfl rfl rfl
    refine ww_if_ne_t (tgt := 23) C dX11_canEnd_5 (by decide) (by decide) ?_
    refine ww_iconst (v := 1) C dX11_canEnd_23 rfl ?_
    refine ww_goto (tgt := 28) C dX11_canEnd_24 (by decide) ?_
    exact ww_zret (u := []) C hT [] rfl rfl rfl rfl rfl dX11_canEnd_28 (Or.inl ⟨rfl, rfl⟩)
  · refine an1 hw ?_
    clear hw
    intro he_4 hw
    have he_5 := hw
    clear hw
    have he_4 := he_4.symm
    subst he_4
    subst he_5
    refine ww_eq (ws' := []) ?_ rfl rfl rfl
    refine ww_if_ne_f (tgt := 23) C dX11_canEnd_5 (by decide) (rfl) ?_
    refine ww_iload_n C dX11_canEnd_8 2 rfl rfl ?_
    refine ww_if_le_t (tgt := 27) C dX11_canEnd_9 (by decide) (by decide) ?_
    refine ww_iconst (v := 0) C dX11_canEnd_27 rfl ?_
    exact ww_zret (u := []) C hT [] rfl rfl rfl rfl rfl dX11_canEnd_28 (Or.inr ⟨rfl, rfl⟩)
theorem dX11_firstCall_0 : decode cX11_firstCall 0 = .ok (.iconst 0, 1) := by decide +kernel
theorem dX11_firstCall_1 : decode cX11_firstCall 1 = .ok (.istore_n 3, 1) := by decide +kernel
theorem dX11_firstCall_2 : decode cX11_firstCall 2 = .ok (.iload_n 3, 1) := by decide +kernel
theorem dX11_firstCall_3 : decode cX11_firstCall 3 = .ok (.iload_n 1, 1) := by decide +kernel
theorem dX11_firstCall_4 : decode cX11_firstCall 4 = .ok (.if_icmp .ge 51, 3) := by decide +kernel
theorem dX11_firstCall_55 : decode cX11_firstCall 55 = .ok (.bipush (-4), 2) := by decide +kernel
theorem dX11_firstCall_57 : decode cX11_firstCall 57 = .ok (.ireturn, 1) := by decide +kernel
theorem dX11_firstCall_7 : decode cX11_firstCall 7 = .ok (.iload_n 3, 1) := by decide +kernel
theorem dX11_firstCall_8 : decode cX11_firstCall 8 = .ok (.iconst 1, 1) := by decide +kernel
theorem dX11_firstCall_9 : decode cX11_firstCall 9 = .ok (.iadd, 1) := by decide +kernel
theorem dX11_firstCall_10 : decode cX11_firstCall 10 = .ok (.istore 4, 2) := by decide +kernel
theorem dX11_firstCall_12 : decode cX11_firstCall 12 = .ok (.iload 4, 2) := by decide +kernel
theorem dX11_firstCall_14 : decode cX11_firstCall 14 = .ok (.iload_n 1, 1) := by decide +kernel
theorem dX11_firstCall_15 : decode cX11_firstCall 15 = .ok (.if_icmp .ge 34, 3) := by decide +kernel
theorem dX11_firstCall_49 : decode cX11_firstCall 49 = .ok (.iinc 3 1, 3) := by decide +kernel
theorem dX11_firstCall_52 : decode cX11_firstCall 52 = .ok (.goto (-50), 3) := by decide +kernel
theorem dX11_firstCall_18 : decode cX11_firstCall 18 = .ok (.iload_n 0, 1) := by decide +kernel
theorem dX11_firstCall_19 : decode cX11_firstCall 19 = .ok (.iload_n 3, 1) := by decide +kernel
theorem dX11_firstCall_20 : decode cX11_firstCall 20 = .ok (.iload 4, 2) := by decide +kernel
theorem dX11_firstCall_22 : decode cX11_firstCall 22 = .ok (.invokestatic 318, 3) := by decide +kernel
theorem wl_X11_318 : Cond.methodLink RX11 318 yX11_called ∈ TB := tbm (tq5 (List.mem_of_getElem? (i := 6) (by decide +kernel))) (by decide +kernel)
theorem wc_X11_called : Cond.code yX11_called cX11_called 4 (some .int) ∈ TB := tbm (tq5 (List.mem_of_getElem? (i := 8) (rfl))) (by decide +kernel)
theorem wt_X11_called : Cond.static yX11_called ∈ TB := tbm (tq5 (List.mem_of_getElem? (i := 7) (by decide +kernel))) (by decide +kernel)
theorem ms_X11_called : MS yX11_called cX11_called 4 (some .int) 3 := ⟨wc_X11_called, wn_X11, ⟨by decide +kernel, by decide +kernel, by decide +kernel⟩, wt_X11_called⟩
theorem dX11_firstCall_25 : decode cX11_firstCall 25 = .ok (.iload_n 1, 1) := by decide +kernel
theorem dX11_firstCall_26 : decode cX11_firstCall 26 = .ok (.iload_n 2, 1) := by decide +kernel
theorem dX11_firstCall_27 : decode cX11_firstCall 27 = .ok (.iconst 1, 1) := by decide +kernel
theorem dX11_firstCall_28 : decode cX11_firstCall 28 = .ok (.isub, 1) := by decide +kernel
theorem dX11_firstCall_29 : decode cX11_firstCall 29 = .ok (.invokestatic 321, 3) := by decide +kernel
theorem wl_X11_321 : Cond.methodLink RX11 321 yX11_canEnd ∈ TB := tbm (tq5 (List.mem_of_getElem? (i := 21) (by decide +kernel))) (by decide +kernel)
theorem wc_X11_canEnd : Cond.code yX11_canEnd cX11_canEnd 3 (some .boolean) ∈ TB := tbm (tq5 (List.mem_of_getElem? (i := 23) (rfl))) (by decide +kernel)
theorem wt_X11_canEnd : Cond.static yX11_canEnd ∈ TB := tbm (tq5 (List.mem_of_getElem? (i := 22) (by decide +kernel))) (by decide +kernel)
theorem ms_X11_canEnd : MS yX11_canEnd cX11_canEnd 3 (some .boolean) 3 := ⟨wc_X11_canEnd, wn_X11, ⟨by decide +kernel, by decide +kernel, by decide +kernel⟩, wt_X11_canEnd⟩
theorem dX11_firstCall_32 : decode cX11_firstCall 32 = .ok (.ifCond .eq 11, 3) := by decide +kernel
theorem dX11_firstCall_35 : decode cX11_firstCall 35 = .ok (.bipush 10, 2) := by decide +kernel
theorem dX11_firstCall_37 : decode cX11_firstCall 37 = .ok (.iload_n 3, 1) := by decide +kernel
theorem dX11_firstCall_38 : decode cX11_firstCall 38 = .ok (.imul, 1) := by decide +kernel
theorem dX11_firstCall_39 : decode cX11_firstCall 39 = .ok (.iload 4, 2) := by decide +kernel
theorem dX11_firstCall_41 : decode cX11_firstCall 41 = .ok (.iadd, 1) := by decide +kernel
theorem dX11_firstCall_42 : decode cX11_firstCall 42 = .ok (.ireturn, 1) := by decide +kernel
theorem dX11_firstCall_43 : decode cX11_firstCall 43 = .ok (.iinc 4 1, 3) := by decide +kernel
theorem dX11_firstCall_46 : decode cX11_firstCall 46 = .ok (.goto (-34), 3) := by decide +kernel
set_option maxRecDepth 100000 in
set_option maxHeartbeats 4000000 in
theorem c_firstCall1 (l : Launch) (E : EV) (ro : va_W) (kn : Int32) (n : Nat) (hn : n ≤ 4) : CT l yX11_firstCall (Cond.code yX11_firstCall cX11_firstCall 5 (some .int) :: TB) ({ frames := 3, cells := 0, slots := 0, locals := 65 }) E ro [.int kn, .int (nI n), .int 1] [] (Qi E (fun (rz : Int32) uz => (uz = []))) 0 0 := by
  refine ct_of rfl rfl ?_
  intro X C hT hin hro
  show WW X 5 E 0 [(0, .int kn), (1, .int (nI n)), (2, .int 1)] [] [] 0 0
  refine ww_iconst (v := 0) C dX11_firstCall_0 rfl ?_
  refine ww_istore_n (lv' := [(3, .int 0), (0, .int kn), (1, .int (nI n)), (2, .int 1)]) C dX11_firstCall_1 rfl rfl rfl ?_
  have loop_2 : ∀ (fu : Nat) (i1 : Nat), (i1 ≤ n) → n - i1 < fu → WW X 5 E 2 [(3, .int (nI i1)), (0, .int kn), (1, .int (nI n)), (2, .int 1)] [] [] 0 0 := by
    intro fu
    induction fu with
    | zero => intro i1 hi1 hmeas; exact absurd hmeas (Nat.not_lt_zero _)
    | succ fu ih_2 =>
      intro i1 hi1 hmeas
      refine ww_iload_n C dX11_firstCall_2 0 rfl rfl ?_
      refine ww_iload_n C dX11_firstCall_3 2 rfl rfl ?_
      refine ww_icmp_ge (tgt := 55) C dX11_firstCall_4 (by decide) (fun c_1 => ?_) (fun c_1 => ?_)
      · have zc_1 : ((i1 : Nat) : Int) ≥ ((n : Nat) : Int) := i_le (nI_toInt (n := n) (by omega)) (nI_toInt (n := i1) (by omega)) c_1
        refine ww_bipush (v := (-4)) C dX11_firstCall_55 rfl ?_
        exact ww_iret (u := []) C hT [] rfl rfl rfl rfl dX11_firstCall_57 (rfl)
      · have zc_1 : ((i1 : Nat) : Int) < ((n : Nat) : Int) := i_nle (nI_toInt (n := n) (by omega)) (nI_toInt (n := i1) (by omega)) c_1
        refine ww_iload_n C dX11_firstCall_7 0 rfl rfl ?_
        refine ww_iconst (v := 1) C dX11_firstCall_8 rfl ?_
        refine ww_iadd (v := (nI (i1 + 1))) C dX11_firstCall_9 (nI_add i1 1) ?_
        refine ww_istore (lv' := [(4, .int (nI (i1 + 1))), (3, .int (nI i1)), (0, .int kn), (1, .int (nI n)), (2, .int 1)]) C dX11_firstCall_10 rfl rfl ?_
        have loop_12 : ∀ (fu : Nat) (i2 : Nat), (i2 ≤ n) → n - i2 < fu → WW X 5 E 12 [(4, .int (nI i2)), (3, .int (nI i1)), (0, .int kn), (1, .int (nI n)), (2, .int 1)] [] [] 0 0 := by
          intro fu
          induction fu with
          | zero => intro i2 hi2 hmeas; exact absurd hmeas (Nat.not_lt_zero _)
          | succ fu ih_12 =>
            intro i2 hi2 hmeas
            refine ww_iload C dX11_firstCall_12 0 rfl ?_
            refine ww_iload_n C dX11_firstCall_14 3 rfl rfl ?_
            refine ww_icmp_ge (tgt := 49) C dX11_firstCall_15 (by decide) (fun c_2 => ?_) (fun c_2 => ?_)
            · have zc_2 : ((i2 : Nat) : Int) ≥ ((n : Nat) : Int) := i_le (nI_toInt (n := n) (by omega)) (nI_toInt (n := i2) (by omega)) c_2
              refine ww_iinc (j := 1) (v := (nI (i1 + 1))) (lv' := [(3, .int (nI (i1 + 1))), (4, .int (nI i2)), (0, .int kn), (1, .int (nI n)), (2, .int 1)]) C dX11_firstCall_49 rfl (nI_add i1 1) rfl rfl ?_
              refine ww_goto (tgt := 2) C dX11_firstCall_52 (by decide) ?_
              exact ww_lv [0, 2, 3, 4] rfl (ww_sub [] rfl rfl (ih_2 (i1 + 1) (by omega) (by omega)))
            · have zc_2 : ((i2 : Nat) : Int) < ((n : Nat) : Int) := i_nle (nI_toInt (n := n) (by omega)) (nI_toInt (n := i2) (by omega)) c_2
              refine ww_iload_n C dX11_firstCall_18 2 rfl rfl ?_
              refine ww_iload_n C dX11_firstCall_19 1 rfl rfl ?_
              refine ww_iload C dX11_firstCall_20 0 rfl ?_
              refine ww_ci (wr := []) (k' := 0) (n' := 0) C (run_S (As := [.int kn, .int (nI i1), .int (nI i2)]) (rest := []) C (c_called X.2.1 E ro kn i1 i2) ms_X11_called wl_X11_318 rfl rfl rfl rfl dX11_firstCall_22) (roK hro) [] [] rfl rfl rfl rfl (fun r_3 uz hw => ?_)
              refine an1 hw ?_
              clear hw
              intro he_4 hw
              have he_5 := hw
              clear hw
              have he_4 := he_4.symm
              subst he_4
              subst he_5
              refine ww_eq (ws' := []) ?_ rfl rfl rfl
              refine ww_iload_n C dX11_firstCall_25 3 rfl rfl ?_
              refine ww_iload_n C dX11_firstCall_26 4 rfl rfl ?_
              refine ww_iconst (v := 1) C dX11_firstCall_27 rfl ?_
              refine ww_isub (v := 0) C dX11_firstCall_28 (by decide) ?_
              refine ww_ci (wr := []) (k' := 0) (n' := 0) C (run_S (As := [.int (cl kn i1 i2), .int (nI n), .int 0]) (rest := []) C (c_canEnd0 X.2.1 E ro (cl kn i1 i2) n (by omega)) ms_X11_canEnd wl_X11_321 rfl rfl rfl rfl dX11_firstCall_29) (roK hro) [] [] rfl rfl rfl rfl (fun r_6 uz hw => ?_)
              rcases hw with hw | hw
              · refine an1 hw ?_
                clear hw
                intro he_7 hw
                have he_8 := hw
                clear hw
                have he_7 := he_7.symm
                subst he_7
                subst he_8
                refine ww_eq (ws' := []) ?_ rfl rfl rfl
                refine ww_if_eq_f (tgt := 43) C dX11_firstCall_32 (by decide) (by decide) ?_
                refine ww_bipush (v := 10) C dX11_firstCall_35 rfl ?_
                refine ww_iload_n C dX11_firstCall_37 1 rfl rfl ?_
                refine ww_imul (v := (nI (10 * i1))) C dX11_firstCall_38 (pk_mul 10 i1) ?_
                refine ww_iload C dX11_firstCall_39 0 rfl ?_
                refine ww_iadd (v := (nI ((10 * i1) + i2))) C dX11_firstCall_41 (nI_add (10 * i1) i2) ?_
                exact ww_iret (u := []) C hT [] rfl rfl rfl rfl dX11_firstCall_42 (rfl)
              · refine an1 hw ?_
                clear hw
                intro he_9 hw
                have he_10 := hw
                clear hw
                have he_9 := he_9.symm
                subst he_9
                subst he_10
                refine ww_eq (ws' := []) ?_ rfl rfl rfl
                refine ww_if_eq_t (tgt := 43) C dX11_firstCall_32 (by decide) (rfl) ?_
                refine ww_iinc (j := 0) (v := (nI (i2 + 1))) (lv' := [(4, .int (nI (i2 + 1))), (3, .int (nI i1)), (0, .int kn), (1, .int (nI n)), (2, .int 1)]) C dX11_firstCall_43 rfl (nI_add i2 1) rfl rfl ?_
                refine ww_goto (tgt := 12) C dX11_firstCall_46 (by decide) ?_
                exact ww_lv [0, 1, 2, 3, 4] rfl (ww_sub [] rfl rfl (ih_12 (i2 + 1) (by omega) (by omega)))
        exact ww_lv [0, 1, 2, 3, 4] rfl (ww_sub [] rfl rfl (loop_12 _ (i1 + 1) (by omega) (Nat.lt_succ_self _)))
  exact ww_lv [0, 1, 2, 3] rfl (ww_sub [] rfl rfl (loop_2 _ 0 (by omega) (Nat.lt_succ_self _)))
theorem dX11_canEnd_12 : decode cX11_canEnd 12 = .ok (.iload_n 0, 1) := by decide +kernel
theorem dX11_canEnd_13 : decode cX11_canEnd 13 = .ok (.iload_n 1, 1) := by decide +kernel
theorem dX11_canEnd_14 : decode cX11_canEnd 14 = .ok (.iload_n 2, 1) := by decide +kernel
theorem dX11_canEnd_15 : decode cX11_canEnd 15 = .ok (.invokestatic 314, 3) := by decide +kernel
theorem wl_X11_314 : Cond.methodLink RX11 314 yX11_firstCall ∈ TB := tbm (tq5 (List.mem_of_getElem? (i := 27) (by decide +kernel))) (by decide +kernel)
theorem wc_X11_firstCall : Cond.code yX11_firstCall cX11_firstCall 5 (some .int) ∈ TB := tbm (tq5 (List.mem_of_getElem? (i := 29) (rfl))) (by decide +kernel)
theorem wt_X11_firstCall : Cond.static yX11_firstCall ∈ TB := tbm (tq5 (List.mem_of_getElem? (i := 28) (by decide +kernel))) (by decide +kernel)
theorem ms_X11_firstCall : MS yX11_firstCall cX11_firstCall 5 (some .int) 3 := ⟨wc_X11_firstCall, wn_X11, ⟨by decide +kernel, by decide +kernel, by decide +kernel⟩, wt_X11_firstCall⟩
theorem dX11_canEnd_18 : decode cX11_canEnd 18 = .ok (.bipush (-4), 2) := by decide +kernel
theorem dX11_canEnd_20 : decode cX11_canEnd 20 = .ok (.if_icmp .eq 7, 3) := by decide +kernel
set_option maxRecDepth 100000 in
set_option maxHeartbeats 4000000 in
theorem c_canEnd1 (l : Launch) (E : EV) (ro : va_W) (kn : Int32) (n : Nat) (hn : n ≤ 4) : CT l yX11_canEnd (Cond.code yX11_canEnd cX11_canEnd 3 (some .boolean) :: TB) ({ frames := 4, cells := 0, slots := 0, locals := 89 }) E ro [.int kn, .int (nI n), .int 1] [] (Qi E (fun (rz : Int32) uz => (rz = 1 ∧ uz = []) ∨ (rz = 0 ∧ uz = []))) 0 0 := by
  refine ct_of rfl rfl ?_
  intro X C hT hin hro
  show WW X 3 E 0 [(0, .int kn), (1, .int (nI n)), (2, .int 1)] [] [] 0 0
  refine ww_iload_n C dX11_canEnd_0 0 rfl rfl ?_
  refine ww_iload_n C dX11_canEnd_1 1 rfl rfl ?_
  refine ww_ci (wr := []) (k' := 0) (n' := 0) C (run_S (As := [.int kn, .int (nI n)]) (rest := []) C (c_allKnowAll X.2.1 E ro kn n (by omega)) ms_X11_allKnowAll wl_X11_311 rfl rfl rfl rfl dX11_canEnd_2) (roK hro) [] [] rfl rfl rfl rfl (fun r_1 uz hw => ?_)
  rcases hw with hw | hw
  · refine an1 hw ?_
    clear hw
    intro he_2 hw
    have he_3 := hw
    clear hw
    have he_2 := he_2.symm
    subst he_2
    subst he_3
    refine ww_eq (ws' := []) ?_ rfl rfl rfl
    refine ww_if_ne_t (tgt := 23) C dX11_canEnd_5 (by decide) (by decide) ?_
    refine ww_iconst (v := 1) C dX11_canEnd_23 rfl ?_
    refine ww_goto (tgt := 28) C dX11_canEnd_24 (by decide) ?_
    exact ww_zret (u := []) C hT [] rfl rfl rfl rfl rfl dX11_canEnd_28 (Or.inl ⟨rfl, rfl⟩)
  · refine an1 hw ?_
    clear hw
    intro he_4 hw
    have he_5 := hw
    clear hw
    have he_4 := he_4.symm
    subst he_4
    subst he_5
    refine ww_eq (ws' := []) ?_ rfl rfl rfl
    refine ww_if_ne_f (tgt := 23) C dX11_canEnd_5 (by decide) (rfl) ?_
    refine ww_iload_n C dX11_canEnd_8 2 rfl rfl ?_
    refine ww_if_le_f (tgt := 27) C dX11_canEnd_9 (by decide) (by decide) ?_
    refine ww_iload_n C dX11_canEnd_12 0 rfl rfl ?_
    refine ww_iload_n C dX11_canEnd_13 1 rfl rfl ?_
    refine ww_iload_n C dX11_canEnd_14 2 rfl rfl ?_
    refine ww_ci (wr := []) (k' := 0) (n' := 0) C (run_S (As := [.int kn, .int (nI n), .int 1]) (rest := []) C (c_firstCall1 X.2.1 E ro kn n (by omega)) ms_X11_firstCall wl_X11_314 rfl rfl rfl rfl dX11_canEnd_15) (roK hro) [] [] rfl rfl rfl rfl (fun r_6 uz hw => ?_)
    have he_7 := hw
    clear hw
    subst he_7
    refine ww_eq (ws' := []) ?_ rfl rfl rfl
    refine ww_bipush (v := (-4)) C dX11_canEnd_18 rfl ?_
    refine ww_icmp_eq (tgt := 27) C dX11_canEnd_20 (by decide) (fun c_8 => ?_) (fun c_8 => ?_)
    · have zc_8 : r_6.toInt = (-4) := i_eq rfl rfl c_8
      refine ww_iconst (v := 0) C dX11_canEnd_27 rfl ?_
      exact ww_zret (u := []) C hT [] rfl rfl rfl rfl rfl dX11_canEnd_28 (Or.inr ⟨rfl, rfl⟩)
    · have zc_8 : r_6.toInt ≠ (-4) := i_ne rfl rfl c_8
      refine ww_iconst (v := 1) C dX11_canEnd_23 rfl ?_
      refine ww_goto (tgt := 28) C dX11_canEnd_24 (by decide) ?_
      exact ww_zret (u := []) C hT [] rfl rfl rfl rfl rfl dX11_canEnd_28 (Or.inl ⟨rfl, rfl⟩)
set_option maxRecDepth 100000 in
set_option maxHeartbeats 4000000 in
theorem c_firstCall2 (l : Launch) (E : EV) (ro : va_W) (kn : Int32) (n : Nat) (hn : n ≤ 4) : CT l yX11_firstCall (Cond.code yX11_firstCall cX11_firstCall 5 (some .int) :: TB) ({ frames := 5, cells := 0, slots := 0, locals := 111 }) E ro [.int kn, .int (nI n), .int 2] [] (Qi E (fun (rz : Int32) uz => (uz = []))) 0 0 := by
  refine ct_of rfl rfl ?_
  intro X C hT hin hro
  show WW X 5 E 0 [(0, .int kn), (1, .int (nI n)), (2, .int 2)] [] [] 0 0
  refine ww_iconst (v := 0) C dX11_firstCall_0 rfl ?_
  refine ww_istore_n (lv' := [(3, .int 0), (0, .int kn), (1, .int (nI n)), (2, .int 2)]) C dX11_firstCall_1 rfl rfl rfl ?_
  have loop_2 : ∀ (fu : Nat) (i1 : Nat), (i1 ≤ n) → n - i1 < fu → WW X 5 E 2 [(3, .int (nI i1)), (0, .int kn), (1, .int (nI n)), (2, .int 2)] [] [] 0 0 := by
    intro fu
    induction fu with
    | zero => intro i1 hi1 hmeas; exact absurd hmeas (Nat.not_lt_zero _)
    | succ fu ih_2 =>
      intro i1 hi1 hmeas
      refine ww_iload_n C dX11_firstCall_2 0 rfl rfl ?_
      refine ww_iload_n C dX11_firstCall_3 2 rfl rfl ?_
      refine ww_icmp_ge (tgt := 55) C dX11_firstCall_4 (by decide) (fun c_1 => ?_) (fun c_1 => ?_)
      · have zc_1 : ((i1 : Nat) : Int) ≥ ((n : Nat) : Int) := i_le (nI_toInt (n := n) (by omega)) (nI_toInt (n := i1) (by omega)) c_1
        refine ww_bipush (v := (-4)) C dX11_firstCall_55 rfl ?_
        exact ww_iret (u := []) C hT [] rfl rfl rfl rfl dX11_firstCall_57 (rfl)
      · have zc_1 : ((i1 : Nat) : Int) < ((n : Nat) : Int) := i_nle (nI_toInt (n := n) (by omega)) (nI_toInt (n := i1) (by omega)) c_1
        refine ww_iload_n C dX11_firstCall_7 0 rfl rfl ?_
        refine ww_iconst (v := 1) C dX11_firstCall_8 rfl ?_
        refine ww_iadd (v := (nI (i1 + 1))) C dX11_firstCall_9 (nI_add i1 1) ?_
        refine ww_istore (lv' := [(4, .int (nI (i1 + 1))), (3, .int (nI i1)), (0, .int kn), (1, .int (nI n)), (2, .int 2)]) C dX11_firstCall_10 rfl rfl ?_
        have loop_12 : ∀ (fu : Nat) (i2 : Nat), (i2 ≤ n) → n - i2 < fu → WW X 5 E 12 [(4, .int (nI i2)), (3, .int (nI i1)), (0, .int kn), (1, .int (nI n)), (2, .int 2)] [] [] 0 0 := by
          intro fu
          induction fu with
          | zero => intro i2 hi2 hmeas; exact absurd hmeas (Nat.not_lt_zero _)
          | succ fu ih_12 =>
            intro i2 hi2 hmeas
            refine ww_iload C dX11_firstCall_12 0 rfl ?_
            refine ww_iload_n C dX11_firstCall_14 3 rfl rfl ?_
            refine ww_icmp_ge (tgt := 49) C dX11_firstCall_15 (by decide) (fun c_2 => ?_) (fun c_2 => ?_)
            · have zc_2 : ((i2 : Nat) : Int) ≥ ((n : Nat) : Int) := i_le (nI_toInt (n := n) (by omega)) (nI_toInt (n := i2) (by omega)) c_2
              refine ww_iinc (j := 1) (v := (nI (i1 + 1))) (lv' := [(3, .int (nI (i1 + 1))), (4, .int (nI i2)), (0, .int kn), (1, .int (nI n)), (2, .int 2)]) C dX11_firstCall_49 rfl (nI_add i1 1) rfl rfl ?_
              refine ww_goto (tgt := 2) C dX11_firstCall_52 (by decide) ?_
              exact ww_lv [0, 2, 3, 4] rfl (ww_sub [] rfl rfl (ih_2 (i1 + 1) (by omega) (by omega)))
            · have zc_2 : ((i2 : Nat) : Int) < ((n : Nat) : Int) := i_nle (nI_toInt (n := n) (by omega)) (nI_toInt (n := i2) (by omega)) c_2
              refine ww_iload_n C dX11_firstCall_18 2 rfl rfl ?_
              refine ww_iload_n C dX11_firstCall_19 1 rfl rfl ?_
              refine ww_iload C dX11_firstCall_20 0 rfl ?_
              refine ww_ci (wr := []) (k' := 0) (n' := 0) C (run_S (As := [.int kn, .int (nI i1), .int (nI i2)]) (rest := []) C (c_called X.2.1 E ro kn i1 i2) ms_X11_called wl_X11_318 rfl rfl rfl rfl dX11_firstCall_22) (roK hro) [] [] rfl rfl rfl rfl (fun r_3 uz hw => ?_)
              refine an1 hw ?_
              clear hw
              intro he_4 hw
              have he_5 := hw
              clear hw
              have he_4 := he_4.symm
              subst he_4
              subst he_5
              refine ww_eq (ws' := []) ?_ rfl rfl rfl
              refine ww_iload_n C dX11_firstCall_25 3 rfl rfl ?_
              refine ww_iload_n C dX11_firstCall_26 4 rfl rfl ?_
              refine ww_iconst (v := 1) C dX11_firstCall_27 rfl ?_
              refine ww_isub (v := 1) C dX11_firstCall_28 (by decide) ?_
              refine ww_ci (wr := []) (k' := 0) (n' := 0) C (run_S (As := [.int (cl kn i1 i2), .int (nI n), .int 1]) (rest := []) C (c_canEnd1 X.2.1 E ro (cl kn i1 i2) n (by omega)) ms_X11_canEnd wl_X11_321 rfl rfl rfl rfl dX11_firstCall_29) (roK hro) [] [] rfl rfl rfl rfl (fun r_6 uz hw => ?_)
              rcases hw with hw | hw
              · refine an1 hw ?_
                clear hw
                intro he_7 hw
                have he_8 := hw
                clear hw
                have he_7 := he_7.symm
                subst he_7
                subst he_8
                refine ww_eq (ws' := []) ?_ rfl rfl rfl
                refine ww_if_eq_f (tgt := 43) C dX11_firstCall_32 (by decide) (by decide) ?_
                refine ww_bipush (v := 10) C dX11_firstCall_35 rfl ?_
                refine ww_iload_n C dX11_firstCall_37 1 rfl rfl ?_
                refine ww_imul (v := (nI (10 * i1))) C dX11_firstCall_38 (pk_mul 10 i1) ?_
                refine ww_iload C dX11_firstCall_39 0 rfl ?_
                refine ww_iadd (v := (nI ((10 * i1) + i2))) C dX11_firstCall_41 (nI_add (10 * i1) i2) ?_
                exact ww_iret (u := []) C hT [] rfl rfl rfl rfl dX11_firstCall_42 (rfl)
              · refine an1 hw ?_
                clear hw
                intro he_9 hw
                have he_10 := hw
                clear hw
                have he_9 := he_9.symm
                subst he_9
                subst he_10
                refine ww_eq (ws' := []) ?_ rfl rfl rfl
                refine ww_if_eq_t (tgt := 43) C dX11_firstCall_32 (by decide) (rfl) ?_
                refine ww_iinc (j := 0) (v := (nI (i2 + 1))) (lv' := [(4, .int (nI (i2 + 1))), (3, .int (nI i1)), (0, .int kn), (1, .int (nI n)), (2, .int 2)]) C dX11_firstCall_43 rfl (nI_add i2 1) rfl rfl ?_
                refine ww_goto (tgt := 12) C dX11_firstCall_46 (by decide) ?_
                exact ww_lv [0, 1, 2, 3, 4] rfl (ww_sub [] rfl rfl (ih_12 (i2 + 1) (by omega) (by omega)))
        exact ww_lv [0, 1, 2, 3, 4] rfl (ww_sub [] rfl rfl (loop_12 _ (i1 + 1) (by omega) (Nat.lt_succ_self _)))
  exact ww_lv [0, 1, 2, 3] rfl (ww_sub [] rfl rfl (loop_2 _ 0 (by omega) (Nat.lt_succ_self _)))
set_option maxRecDepth 100000 in
set_option maxHeartbeats 4000000 in
theorem c_canEnd2 (l : Launch) (E : EV) (ro : va_W) (kn : Int32) (n : Nat) (hn : n ≤ 4) : CT l yX11_canEnd (Cond.code yX11_canEnd cX11_canEnd 3 (some .boolean) :: TB) ({ frames := 6, cells := 0, slots := 0, locals := 135 }) E ro [.int kn, .int (nI n), .int 2] [] (Qi E (fun (rz : Int32) uz => (rz = 1 ∧ uz = []) ∨ (rz = 0 ∧ uz = []))) 0 0 := by
  refine ct_of rfl rfl ?_
  intro X C hT hin hro
  show WW X 3 E 0 [(0, .int kn), (1, .int (nI n)), (2, .int 2)] [] [] 0 0
  refine ww_iload_n C dX11_canEnd_0 0 rfl rfl ?_
  refine ww_iload_n C dX11_canEnd_1 1 rfl rfl ?_
  refine ww_ci (wr := []) (k' := 0) (n' := 0) C (run_S (As := [.int kn, .int (nI n)]) (rest := []) C (c_allKnowAll X.2.1 E ro kn n (by omega)) ms_X11_allKnowAll wl_X11_311 rfl rfl rfl rfl dX11_canEnd_2) (roK hro) [] [] rfl rfl rfl rfl (fun r_1 uz hw => ?_)
  rcases hw with hw | hw
  · refine an1 hw ?_
    clear hw
    intro he_2 hw
    have he_3 := hw
    clear hw
    have he_2 := he_2.symm
    subst he_2
    subst he_3
    refine ww_eq (ws' := []) ?_ rfl rfl rfl
    refine ww_if_ne_t (tgt := 23) C dX11_canEnd_5 (by decide) (by decide) ?_
    refine ww_iconst (v := 1) C dX11_canEnd_23 rfl ?_
    refine ww_goto (tgt := 28) C dX11_canEnd_24 (by decide) ?_
    exact ww_zret (u := []) C hT [] rfl rfl rfl rfl rfl dX11_canEnd_28 (Or.inl ⟨rfl, rfl⟩)
  · refine an1 hw ?_
    clear hw
    intro he_4 hw
    have he_5 := hw
    clear hw
    have he_4 := he_4.symm
    subst he_4
    subst he_5
    refine ww_eq (ws' := []) ?_ rfl rfl rfl
    refine ww_if_ne_f (tgt := 23) C dX11_canEnd_5 (by decide) (rfl) ?_
    refine ww_iload_n C dX11_canEnd_8 2 rfl rfl ?_
    refine ww_if_le_f (tgt := 27) C dX11_canEnd_9 (by decide) (by decide) ?_
    refine ww_iload_n C dX11_canEnd_12 0 rfl rfl ?_
    refine ww_iload_n C dX11_canEnd_13 1 rfl rfl ?_
    refine ww_iload_n C dX11_canEnd_14 2 rfl rfl ?_
    refine ww_ci (wr := []) (k' := 0) (n' := 0) C (run_S (As := [.int kn, .int (nI n), .int 2]) (rest := []) C (c_firstCall2 X.2.1 E ro kn n (by omega)) ms_X11_firstCall wl_X11_314 rfl rfl rfl rfl dX11_canEnd_15) (roK hro) [] [] rfl rfl rfl rfl (fun r_6 uz hw => ?_)
    have he_7 := hw
    clear hw
    subst he_7
    refine ww_eq (ws' := []) ?_ rfl rfl rfl
    refine ww_bipush (v := (-4)) C dX11_canEnd_18 rfl ?_
    refine ww_icmp_eq (tgt := 27) C dX11_canEnd_20 (by decide) (fun c_8 => ?_) (fun c_8 => ?_)
    · have zc_8 : r_6.toInt = (-4) := i_eq rfl rfl c_8
      refine ww_iconst (v := 0) C dX11_canEnd_27 rfl ?_
      exact ww_zret (u := []) C hT [] rfl rfl rfl rfl rfl dX11_canEnd_28 (Or.inr ⟨rfl, rfl⟩)
    · have zc_8 : r_6.toInt ≠ (-4) := i_ne rfl rfl c_8
      refine ww_iconst (v := 1) C dX11_canEnd_23 rfl ?_
      refine ww_goto (tgt := 28) C dX11_canEnd_24 (by decide) ?_
      exact ww_zret (u := []) C hT [] rfl rfl rfl rfl rfl dX11_canEnd_28 (Or.inl ⟨rfl, rfl⟩)
set_option maxRecDepth 100000 in
set_option maxHeartbeats 4000000 in
theorem c_firstCall3 (l : Launch) (E : EV) (ro : va_W) (kn : Int32) (n : Nat) (hn : n ≤ 4) : CT l yX11_firstCall (Cond.code yX11_firstCall cX11_firstCall 5 (some .int) :: TB) ({ frames := 7, cells := 0, slots := 0, locals := 157 }) E ro [.int kn, .int (nI n), .int 3] [] (Qi E (fun (rz : Int32) uz => (uz = []))) 0 0 := by
  refine ct_of rfl rfl ?_
  intro X C hT hin hro
  show WW X 5 E 0 [(0, .int kn), (1, .int (nI n)), (2, .int 3)] [] [] 0 0
  refine ww_iconst (v := 0) C dX11_firstCall_0 rfl ?_
  refine ww_istore_n (lv' := [(3, .int 0), (0, .int kn), (1, .int (nI n)), (2, .int 3)]) C dX11_firstCall_1 rfl rfl rfl ?_
  have loop_2 : ∀ (fu : Nat) (i1 : Nat), (i1 ≤ n) → n - i1 < fu → WW X 5 E 2 [(3, .int (nI i1)), (0, .int kn), (1, .int (nI n)), (2, .int 3)] [] [] 0 0 := by
    intro fu
    induction fu with
    | zero => intro i1 hi1 hmeas; exact absurd hmeas (Nat.not_lt_zero _)
    | succ fu ih_2 =>
      intro i1 hi1 hmeas
      refine ww_iload_n C dX11_firstCall_2 0 rfl rfl ?_
      refine ww_iload_n C dX11_firstCall_3 2 rfl rfl ?_
      refine ww_icmp_ge (tgt := 55) C dX11_firstCall_4 (by decide) (fun c_1 => ?_) (fun c_1 => ?_)
      · have zc_1 : ((i1 : Nat) : Int) ≥ ((n : Nat) : Int) := i_le (nI_toInt (n := n) (by omega)) (nI_toInt (n := i1) (by omega)) c_1
        refine ww_bipush (v := (-4)) C dX11_firstCall_55 rfl ?_
        exact ww_iret (u := []) C hT [] rfl rfl rfl rfl dX11_firstCall_57 (rfl)
      · have zc_1 : ((i1 : Nat) : Int) < ((n : Nat) : Int) := i_nle (nI_toInt (n := n) (by omega)) (nI_toInt (n := i1) (by omega)) c_1
        refine ww_iload_n C dX11_firstCall_7 0 rfl rfl ?_
        refine ww_iconst (v := 1) C dX11_firstCall_8 rfl ?_
        refine ww_iadd (v := (nI (i1 + 1))) C dX11_firstCall_9 (nI_add i1 1) ?_
        refine ww_istore (lv' := [(4, .int (nI (i1 + 1))), (3, .int (nI i1)), (0, .int kn), (1, .int (nI n)), (2, .int 3)]) C dX11_firstCall_10 rfl rfl ?_
        have loop_12 : ∀ (fu : Nat) (i2 : Nat), (i2 ≤ n) → n - i2 < fu → WW X 5 E 12 [(4, .int (nI i2)), (3, .int (nI i1)), (0, .int kn), (1, .int (nI n)), (2, .int 3)] [] [] 0 0 := by
          intro fu
          induction fu with
          | zero => intro i2 hi2 hmeas; exact absurd hmeas (Nat.not_lt_zero _)
          | succ fu ih_12 =>
            intro i2 hi2 hmeas
            refine ww_iload C dX11_firstCall_12 0 rfl ?_
            refine ww_iload_n C dX11_firstCall_14 3 rfl rfl ?_
            refine ww_icmp_ge (tgt := 49) C dX11_firstCall_15 (by decide) (fun c_2 => ?_) (fun c_2 => ?_)
            · have zc_2 : ((i2 : Nat) : Int) ≥ ((n : Nat) : Int) := i_le (nI_toInt (n := n) (by omega)) (nI_toInt (n := i2) (by omega)) c_2
              refine ww_iinc (j := 1) (v := (nI (i1 + 1))) (lv' := [(3, .int (nI (i1 + 1))), (4, .int (nI i2)), (0, .int kn), (1, .int (nI n)), (2, .int 3)]) C dX11_firstCall_49 rfl (nI_add i1 1) rfl rfl ?_
              refine ww_goto (tgt := 2) C dX11_firstCall_52 (by decide) ?_
              exact ww_lv [0, 2, 3, 4] rfl (ww_sub [] rfl rfl (ih_2 (i1 + 1) (by omega) (by omega)))
            · have zc_2 : ((i2 : Nat) : Int) < ((n : Nat) : Int) := i_nle (nI_toInt (n := n) (by omega)) (nI_toInt (n := i2) (by omega)) c_2
              refine ww_iload_n C dX11_firstCall_18 2 rfl rfl ?_
              refine ww_iload_n C dX11_firstCall_19 1 rfl rfl ?_
              refine ww_iload C dX11_firstCall_20 0 rfl ?_
              refine ww_ci (wr := []) (k' := 0) (n' := 0) C (run_S (As := [.int kn, .int (nI i1), .int (nI i2)]) (rest := []) C (c_called X.2.1 E ro kn i1 i2) ms_X11_called wl_X11_318 rfl rfl rfl rfl dX11_firstCall_22) (roK hro) [] [] rfl rfl rfl rfl (fun r_3 uz hw => ?_)
              refine an1 hw ?_
              clear hw
              intro he_4 hw
              have he_5 := hw
              clear hw
              have he_4 := he_4.symm
              subst he_4
              subst he_5
              refine ww_eq (ws' := []) ?_ rfl rfl rfl
              refine ww_iload_n C dX11_firstCall_25 3 rfl rfl ?_
              refine ww_iload_n C dX11_firstCall_26 4 rfl rfl ?_
              refine ww_iconst (v := 1) C dX11_firstCall_27 rfl ?_
              refine ww_isub (v := 2) C dX11_firstCall_28 (by decide) ?_
              refine ww_ci (wr := []) (k' := 0) (n' := 0) C (run_S (As := [.int (cl kn i1 i2), .int (nI n), .int 2]) (rest := []) C (c_canEnd2 X.2.1 E ro (cl kn i1 i2) n (by omega)) ms_X11_canEnd wl_X11_321 rfl rfl rfl rfl dX11_firstCall_29) (roK hro) [] [] rfl rfl rfl rfl (fun r_6 uz hw => ?_)
              rcases hw with hw | hw
              · refine an1 hw ?_
                clear hw
                intro he_7 hw
                have he_8 := hw
                clear hw
                have he_7 := he_7.symm
                subst he_7
                subst he_8
                refine ww_eq (ws' := []) ?_ rfl rfl rfl
                refine ww_if_eq_f (tgt := 43) C dX11_firstCall_32 (by decide) (by decide) ?_
                refine ww_bipush (v := 10) C dX11_firstCall_35 rfl ?_
                refine ww_iload_n C dX11_firstCall_37 1 rfl rfl ?_
                refine ww_imul (v := (nI (10 * i1))) C dX11_firstCall_38 (pk_mul 10 i1) ?_
                refine ww_iload C dX11_firstCall_39 0 rfl ?_
                refine ww_iadd (v := (nI ((10 * i1) + i2))) C dX11_firstCall_41 (nI_add (10 * i1) i2) ?_
                exact ww_iret (u := []) C hT [] rfl rfl rfl rfl dX11_firstCall_42 (rfl)
              · refine an1 hw ?_
                clear hw
                intro he_9 hw
                have he_10 := hw
                clear hw
                have he_9 := he_9.symm
                subst he_9
                subst he_10
                refine ww_eq (ws' := []) ?_ rfl rfl rfl
                refine ww_if_eq_t (tgt := 43) C dX11_firstCall_32 (by decide) (rfl) ?_
                refine ww_iinc (j := 0) (v := (nI (i2 + 1))) (lv' := [(4, .int (nI (i2 + 1))), (3, .int (nI i1)), (0, .int kn), (1, .int (nI n)), (2, .int 3)]) C dX11_firstCall_43 rfl (nI_add i2 1) rfl rfl ?_
                refine ww_goto (tgt := 12) C dX11_firstCall_46 (by decide) ?_
                exact ww_lv [0, 1, 2, 3, 4] rfl (ww_sub [] rfl rfl (ih_12 (i2 + 1) (by omega) (by omega)))
        exact ww_lv [0, 1, 2, 3, 4] rfl (ww_sub [] rfl rfl (loop_12 _ (i1 + 1) (by omega) (Nat.lt_succ_self _)))
  exact ww_lv [0, 1, 2, 3] rfl (ww_sub [] rfl rfl (loop_2 _ 0 (by omega) (Nat.lt_succ_self _)))
set_option maxRecDepth 100000 in
set_option maxHeartbeats 4000000 in
theorem c_canEnd3 (l : Launch) (E : EV) (ro : va_W) (kn : Int32) (n : Nat) (hn : n ≤ 4) : CT l yX11_canEnd (Cond.code yX11_canEnd cX11_canEnd 3 (some .boolean) :: TB) ({ frames := 8, cells := 0, slots := 0, locals := 181 }) E ro [.int kn, .int (nI n), .int 3] [] (Qi E (fun (rz : Int32) uz => (rz = 1 ∧ uz = []) ∨ (rz = 0 ∧ uz = []))) 0 0 := by
  refine ct_of rfl rfl ?_
  intro X C hT hin hro
  show WW X 3 E 0 [(0, .int kn), (1, .int (nI n)), (2, .int 3)] [] [] 0 0
  refine ww_iload_n C dX11_canEnd_0 0 rfl rfl ?_
  refine ww_iload_n C dX11_canEnd_1 1 rfl rfl ?_
  refine ww_ci (wr := []) (k' := 0) (n' := 0) C (run_S (As := [.int kn, .int (nI n)]) (rest := []) C (c_allKnowAll X.2.1 E ro kn n (by omega)) ms_X11_allKnowAll wl_X11_311 rfl rfl rfl rfl dX11_canEnd_2) (roK hro) [] [] rfl rfl rfl rfl (fun r_1 uz hw => ?_)
  rcases hw with hw | hw
  · refine an1 hw ?_
    clear hw
    intro he_2 hw
    have he_3 := hw
    clear hw
    have he_2 := he_2.symm
    subst he_2
    subst he_3
    refine ww_eq (ws' := []) ?_ rfl rfl rfl
    refine ww_if_ne_t (tgt := 23) C dX11_canEnd_5 (by decide) (by decide) ?_
    refine ww_iconst (v := 1) C dX11_canEnd_23 rfl ?_
    refine ww_goto (tgt := 28) C dX11_canEnd_24 (by decide) ?_
    exact ww_zret (u := []) C hT [] rfl rfl rfl rfl rfl dX11_canEnd_28 (Or.inl ⟨rfl, rfl⟩)
  · refine an1 hw ?_
    clear hw
    intro he_4 hw
    have he_5 := hw
    clear hw
    have he_4 := he_4.symm
    subst he_4
    subst he_5
    refine ww_eq (ws' := []) ?_ rfl rfl rfl
    refine ww_if_ne_f (tgt := 23) C dX11_canEnd_5 (by decide) (rfl) ?_
    refine ww_iload_n C dX11_canEnd_8 2 rfl rfl ?_
    refine ww_if_le_f (tgt := 27) C dX11_canEnd_9 (by decide) (by decide) ?_
    refine ww_iload_n C dX11_canEnd_12 0 rfl rfl ?_
    refine ww_iload_n C dX11_canEnd_13 1 rfl rfl ?_
    refine ww_iload_n C dX11_canEnd_14 2 rfl rfl ?_
    refine ww_ci (wr := []) (k' := 0) (n' := 0) C (run_S (As := [.int kn, .int (nI n), .int 3]) (rest := []) C (c_firstCall3 X.2.1 E ro kn n (by omega)) ms_X11_firstCall wl_X11_314 rfl rfl rfl rfl dX11_canEnd_15) (roK hro) [] [] rfl rfl rfl rfl (fun r_6 uz hw => ?_)
    have he_7 := hw
    clear hw
    subst he_7
    refine ww_eq (ws' := []) ?_ rfl rfl rfl
    refine ww_bipush (v := (-4)) C dX11_canEnd_18 rfl ?_
    refine ww_icmp_eq (tgt := 27) C dX11_canEnd_20 (by decide) (fun c_8 => ?_) (fun c_8 => ?_)
    · have zc_8 : r_6.toInt = (-4) := i_eq rfl rfl c_8
      refine ww_iconst (v := 0) C dX11_canEnd_27 rfl ?_
      exact ww_zret (u := []) C hT [] rfl rfl rfl rfl rfl dX11_canEnd_28 (Or.inr ⟨rfl, rfl⟩)
    · have zc_8 : r_6.toInt ≠ (-4) := i_ne rfl rfl c_8
      refine ww_iconst (v := 1) C dX11_canEnd_23 rfl ?_
      refine ww_goto (tgt := 28) C dX11_canEnd_24 (by decide) ?_
      exact ww_zret (u := []) C hT [] rfl rfl rfl rfl rfl dX11_canEnd_28 (Or.inl ⟨rfl, rfl⟩)
set_option maxRecDepth 100000 in
set_option maxHeartbeats 4000000 in
theorem c_firstCall4 (l : Launch) (E : EV) (ro : va_W) (kn : Int32) (n : Nat) (hn : n ≤ 4) : CT l yX11_firstCall (Cond.code yX11_firstCall cX11_firstCall 5 (some .int) :: TB) ({ frames := 9, cells := 0, slots := 0, locals := 203 }) E ro [.int kn, .int (nI n), .int 4] [] (Qi E (fun (rz : Int32) uz => (uz = []))) 0 0 := by
  refine ct_of rfl rfl ?_
  intro X C hT hin hro
  show WW X 5 E 0 [(0, .int kn), (1, .int (nI n)), (2, .int 4)] [] [] 0 0
  refine ww_iconst (v := 0) C dX11_firstCall_0 rfl ?_
  refine ww_istore_n (lv' := [(3, .int 0), (0, .int kn), (1, .int (nI n)), (2, .int 4)]) C dX11_firstCall_1 rfl rfl rfl ?_
  have loop_2 : ∀ (fu : Nat) (i1 : Nat), (i1 ≤ n) → n - i1 < fu → WW X 5 E 2 [(3, .int (nI i1)), (0, .int kn), (1, .int (nI n)), (2, .int 4)] [] [] 0 0 := by
    intro fu
    induction fu with
    | zero => intro i1 hi1 hmeas; exact absurd hmeas (Nat.not_lt_zero _)
    | succ fu ih_2 =>
      intro i1 hi1 hmeas
      refine ww_iload_n C dX11_firstCall_2 0 rfl rfl ?_
      refine ww_iload_n C dX11_firstCall_3 2 rfl rfl ?_
      refine ww_icmp_ge (tgt := 55) C dX11_firstCall_4 (by decide) (fun c_1 => ?_) (fun c_1 => ?_)
      · have zc_1 : ((i1 : Nat) : Int) ≥ ((n : Nat) : Int) := i_le (nI_toInt (n := n) (by omega)) (nI_toInt (n := i1) (by omega)) c_1
        refine ww_bipush (v := (-4)) C dX11_firstCall_55 rfl ?_
        exact ww_iret (u := []) C hT [] rfl rfl rfl rfl dX11_firstCall_57 (rfl)
      · have zc_1 : ((i1 : Nat) : Int) < ((n : Nat) : Int) := i_nle (nI_toInt (n := n) (by omega)) (nI_toInt (n := i1) (by omega)) c_1
        refine ww_iload_n C dX11_firstCall_7 0 rfl rfl ?_
        refine ww_iconst (v := 1) C dX11_firstCall_8 rfl ?_
        refine ww_iadd (v := (nI (i1 + 1))) C dX11_firstCall_9 (nI_add i1 1) ?_
        refine ww_istore (lv' := [(4, .int (nI (i1 + 1))), (3, .int (nI i1)), (0, .int kn), (1, .int (nI n)), (2, .int 4)]) C dX11_firstCall_10 rfl rfl ?_
        have loop_12 : ∀ (fu : Nat) (i2 : Nat), (i2 ≤ n) → n - i2 < fu → WW X 5 E 12 [(4, .int (nI i2)), (3, .int (nI i1)), (0, .int kn), (1, .int (nI n)), (2, .int 4)] [] [] 0 0 := by
          intro fu
          induction fu with
          | zero => intro i2 hi2 hmeas; exact absurd hmeas (Nat.not_lt_zero _)
          | succ fu ih_12 =>
            intro i2 hi2 hmeas
            refine ww_iload C dX11_firstCall_12 0 rfl ?_
            refine ww_iload_n C dX11_firstCall_14 3 rfl rfl ?_
            refine ww_icmp_ge (tgt := 49) C dX11_firstCall_15 (by decide) (fun c_2 => ?_) (fun c_2 => ?_)
            · have zc_2 : ((i2 : Nat) : Int) ≥ ((n : Nat) : Int) := i_le (nI_toInt (n := n) (by omega)) (nI_toInt (n := i2) (by omega)) c_2
              refine ww_iinc (j := 1) (v := (nI (i1 + 1))) (lv' := [(3, .int (nI (i1 + 1))), (4, .int (nI i2)), (0, .int kn), (1, .int (nI n)), (2, .int 4)]) C dX11_firstCall_49 rfl (nI_add i1 1) rfl rfl ?_
              refine ww_goto (tgt := 2) C dX11_firstCall_52 (by decide) ?_
              exact ww_lv [0, 2, 3, 4] rfl (ww_sub [] rfl rfl (ih_2 (i1 + 1) (by omega) (by omega)))
            · have zc_2 : ((i2 : Nat) : Int) < ((n : Nat) : Int) := i_nle (nI_toInt (n := n) (by omega)) (nI_toInt (n := i2) (by omega)) c_2
              refine ww_iload_n C dX11_firstCall_18 2 rfl rfl ?_
              refine ww_iload_n C dX11_firstCall_19 1 rfl rfl ?_
              refine ww_iload C dX11_firstCall_20 0 rfl ?_
              refine ww_ci (wr := []) (k' := 0) (n' := 0) C (run_S (As := [.int kn, .int (nI i1), .int (nI i2)]) (rest := []) C (c_called X.2.1 E ro kn i1 i2) ms_X11_called wl_X11_318 rfl rfl rfl rfl dX11_firstCall_22) (roK hro) [] [] rfl rfl rfl rfl (fun r_3 uz hw => ?_)
              refine an1 hw ?_
              clear hw
              intro he_4 hw
              have he_5 := hw
              clear hw
              have he_4 := he_4.symm
              subst he_4
              subst he_5
              refine ww_eq (ws' := []) ?_ rfl rfl rfl
              refine ww_iload_n C dX11_firstCall_25 3 rfl rfl ?_
              refine ww_iload_n C dX11_firstCall_26 4 rfl rfl ?_
              refine ww_iconst (v := 1) C dX11_firstCall_27 rfl ?_
              refine ww_isub (v := 3) C dX11_firstCall_28 (by decide) ?_
              refine ww_ci (wr := []) (k' := 0) (n' := 0) C (run_S (As := [.int (cl kn i1 i2), .int (nI n), .int 3]) (rest := []) C (c_canEnd3 X.2.1 E ro (cl kn i1 i2) n (by omega)) ms_X11_canEnd wl_X11_321 rfl rfl rfl rfl dX11_firstCall_29) (roK hro) [] [] rfl rfl rfl rfl (fun r_6 uz hw => ?_)
              rcases hw with hw | hw
              · refine an1 hw ?_
                clear hw
                intro he_7 hw
                have he_8 := hw
                clear hw
                have he_7 := he_7.symm
                subst he_7
                subst he_8
                refine ww_eq (ws' := []) ?_ rfl rfl rfl
                refine ww_if_eq_f (tgt := 43) C dX11_firstCall_32 (by decide) (by decide) ?_
                refine ww_bipush (v := 10) C dX11_firstCall_35 rfl ?_
                refine ww_iload_n C dX11_firstCall_37 1 rfl rfl ?_
                refine ww_imul (v := (nI (10 * i1))) C dX11_firstCall_38 (pk_mul 10 i1) ?_
                refine ww_iload C dX11_firstCall_39 0 rfl ?_
                refine ww_iadd (v := (nI ((10 * i1) + i2))) C dX11_firstCall_41 (nI_add (10 * i1) i2) ?_
                exact ww_iret (u := []) C hT [] rfl rfl rfl rfl dX11_firstCall_42 (rfl)
              · refine an1 hw ?_
                clear hw
                intro he_9 hw
                have he_10 := hw
                clear hw
                have he_9 := he_9.symm
                subst he_9
                subst he_10
                refine ww_eq (ws' := []) ?_ rfl rfl rfl
                refine ww_if_eq_t (tgt := 43) C dX11_firstCall_32 (by decide) (rfl) ?_
                refine ww_iinc (j := 0) (v := (nI (i2 + 1))) (lv' := [(4, .int (nI (i2 + 1))), (3, .int (nI i1)), (0, .int kn), (1, .int (nI n)), (2, .int 4)]) C dX11_firstCall_43 rfl (nI_add i2 1) rfl rfl ?_
                refine ww_goto (tgt := 12) C dX11_firstCall_46 (by decide) ?_
                exact ww_lv [0, 1, 2, 3, 4] rfl (ww_sub [] rfl rfl (ih_12 (i2 + 1) (by omega) (by omega)))
        exact ww_lv [0, 1, 2, 3, 4] rfl (ww_sub [] rfl rfl (loop_12 _ (i1 + 1) (by omega) (Nat.lt_succ_self _)))
  exact ww_lv [0, 1, 2, 3] rfl (ww_sub [] rfl rfl (loop_2 _ 0 (by omega) (Nat.lt_succ_self _)))
set_option maxRecDepth 100000 in
set_option maxHeartbeats 4000000 in
theorem c_canEnd4 (l : Launch) (E : EV) (ro : va_W) (kn : Int32) (n : Nat) (hn : n ≤ 4) : CT l yX11_canEnd (Cond.code yX11_canEnd cX11_canEnd 3 (some .boolean) :: TB) ({ frames := 10, cells := 0, slots := 0, locals := 227 }) E ro [.int kn, .int (nI n), .int 4] [] (Qi E (fun (rz : Int32) uz => (rz = 1 ∧ uz = []) ∨ (rz = 0 ∧ uz = []))) 0 0 := by
  refine ct_of rfl rfl ?_
  intro X C hT hin hro
  show WW X 3 E 0 [(0, .int kn), (1, .int (nI n)), (2, .int 4)] [] [] 0 0
  refine ww_iload_n C dX11_canEnd_0 0 rfl rfl ?_
  refine ww_iload_n C dX11_canEnd_1 1 rfl rfl ?_
  refine ww_ci (wr := []) (k' := 0) (n' := 0) C (run_S (As := [.int kn, .int (nI n)]) (rest := []) C (c_allKnowAll X.2.1 E ro kn n (by omega)) ms_X11_allKnowAll wl_X11_311 rfl rfl rfl rfl dX11_canEnd_2) (roK hro) [] [] rfl rfl rfl rfl (fun r_1 uz hw => ?_)
  rcases hw with hw | hw
  · refine an1 hw ?_
    clear hw
    intro he_2 hw
    have he_3 := hw
    clear hw
    have he_2 := he_2.symm
    subst he_2
    subst he_3
    refine ww_eq (ws' := []) ?_ rfl rfl rfl
    refine ww_if_ne_t (tgt := 23) C dX11_canEnd_5 (by decide) (by decide) ?_
    refine ww_iconst (v := 1) C dX11_canEnd_23 rfl ?_
    refine ww_goto (tgt := 28) C dX11_canEnd_24 (by decide) ?_
    exact ww_zret (u := []) C hT [] rfl rfl rfl rfl rfl dX11_canEnd_28 (Or.inl ⟨rfl, rfl⟩)
  · refine an1 hw ?_
    clear hw
    intro he_4 hw
    have he_5 := hw
    clear hw
    have he_4 := he_4.symm
    subst he_4
    subst he_5
    refine ww_eq (ws' := []) ?_ rfl rfl rfl
    refine ww_if_ne_f (tgt := 23) C dX11_canEnd_5 (by decide) (rfl) ?_
    refine ww_iload_n C dX11_canEnd_8 2 rfl rfl ?_
    refine ww_if_le_f (tgt := 27) C dX11_canEnd_9 (by decide) (by decide) ?_
    refine ww_iload_n C dX11_canEnd_12 0 rfl rfl ?_
    refine ww_iload_n C dX11_canEnd_13 1 rfl rfl ?_
    refine ww_iload_n C dX11_canEnd_14 2 rfl rfl ?_
    refine ww_ci (wr := []) (k' := 0) (n' := 0) C (run_S (As := [.int kn, .int (nI n), .int 4]) (rest := []) C (c_firstCall4 X.2.1 E ro kn n (by omega)) ms_X11_firstCall wl_X11_314 rfl rfl rfl rfl dX11_canEnd_15) (roK hro) [] [] rfl rfl rfl rfl (fun r_6 uz hw => ?_)
    have he_7 := hw
    clear hw
    subst he_7
    refine ww_eq (ws' := []) ?_ rfl rfl rfl
    refine ww_bipush (v := (-4)) C dX11_canEnd_18 rfl ?_
    refine ww_icmp_eq (tgt := 27) C dX11_canEnd_20 (by decide) (fun c_8 => ?_) (fun c_8 => ?_)
    · have zc_8 : r_6.toInt = (-4) := i_eq rfl rfl c_8
      refine ww_iconst (v := 0) C dX11_canEnd_27 rfl ?_
      exact ww_zret (u := []) C hT [] rfl rfl rfl rfl rfl dX11_canEnd_28 (Or.inr ⟨rfl, rfl⟩)
    · have zc_8 : r_6.toInt ≠ (-4) := i_ne rfl rfl c_8
      refine ww_iconst (v := 1) C dX11_canEnd_23 rfl ?_
      refine ww_goto (tgt := 28) C dX11_canEnd_24 (by decide) ?_
      exact ww_zret (u := []) C hT [] rfl rfl rfl rfl rfl dX11_canEnd_28 (Or.inl ⟨rfl, rfl⟩)
theorem dX11_isPerson_0 : decode cX11_isPerson 0 = .ok (.iload_n 1, 1) := by decide +kernel
theorem dX11_isPerson_1 : decode cX11_isPerson 1 = .ok (.iconst 0, 1) := by decide +kernel
theorem dX11_isPerson_2 : decode cX11_isPerson 2 = .ok (.aload_n 0, 1) := by decide +kernel
theorem dX11_isPerson_3 : decode cX11_isPerson 3 = .ok (.getfield 106, 3) := by decide +kernel
theorem wf_X11_106 : Cond.fieldLink RX11 106 RX11 "persons" "I" ∈ TB := tbm (tq2 (List.mem_of_getElem? (i := 108) (by decide +kernel))) (by decide +kernel)
theorem fg_X11_106 : FG RX11 106 11 12 := ⟨RX11, TX11, 15, uw_X11, wf_X11_106, rfl, by decide, rfl⟩
theorem dX11_isPerson_6 : decode cX11_isPerson 6 = .ok (.iconst 1, 1) := by decide +kernel
theorem dX11_isPerson_7 : decode cX11_isPerson 7 = .ok (.isub, 1) := by decide +kernel
theorem dX11_isPerson_8 : decode cX11_isPerson 8 = .ok (.invokestatic 76, 3) := by decide +kernel
theorem dX11_isPerson_11 : decode cX11_isPerson 11 = .ok (.ireturn, 1) := by decide +kernel
set_option maxRecDepth 100000 in
set_option maxHeartbeats 4000000 in
theorem x_isPerson (l : Launch) (E : EV) (ro : va_W) (hx : Nat) (k : Int32) (h : Nat) (qp : Nat) (ac : Nat) (np : Nat) (qs : Nat) (qj : Nat) (ly : Nat) (qh : Nat) (kk : Nat) (kc : Nat) (rd : Nat) (pg : Nat) (pe : Nat) (kn : Int32) (ss : Nat) (hpe : pe ≤ 4) : CT l yX11_isPerson (Cond.code yX11_isPerson cX11_isPerson 2 (some .boolean) :: TB) ({ frames := 1, cells := 0, slots := 0, locals := 22 }) E ro [.ref hx, .int k] [(hx, .inr (11, [.ref h, .ref qp, .int (nI ac), .int (nI np), .ref qs, .ref qj, .ref ly, .ref qh, .ref kk, .int (nI kc), .ref rd, .ref pg, .int (nI pe), .int kn, .ref ss]))] (Qi E (fun (rz : Int32) uz => (rz = 1 ∧ uz = [(hx, .inr (11, [.ref h, .ref qp, .int (nI ac), .int (nI np), .ref qs, .ref qj, .ref ly, .ref qh, .ref kk, .int (nI kc), .ref rd, .ref pg, .int (nI pe), .int kn, .ref ss]))] ∧ (0 ≤ k.toInt) ∧ (k.toInt < pe)) ∨ (rz = 0 ∧ uz = [(hx, .inr (11, [.ref h, .ref qp, .int (nI ac), .int (nI np), .ref qs, .ref qj, .ref ly, .ref qh, .ref kk, .int (nI kc), .ref rd, .ref pg, .int (nI pe), .int kn, .ref ss]))] ∧ (k.toInt < 0 ∨ (pe : Int) ≤ k.toInt)))) 0 0 := by
  refine ct_of rfl rfl ?_
  intro X C hT hin hro
  show WW X 2 E 0 [(0, .ref hx), (1, .int k)] [] [(hx, .inr (11, [.ref h, .ref qp, .int (nI ac), .int (nI np), .ref qs, .ref qj, .ref ly, .ref qh, .ref kk, .int (nI kc), .ref rd, .ref pg, .int (nI pe), .int kn, .ref ss]))] 0 0
  refine ww_iload_n C dX11_isPerson_0 1 rfl rfl ?_
  refine ww_iconst (v := 0) C dX11_isPerson_1 rfl ?_
  refine ww_aload_n C dX11_isPerson_2 0 rfl rfl ?_
  refine ww_get C fg_X11_106 0 rfl rfl dX11_isPerson_3 ?_
  refine ww_iconst (v := 1) C dX11_isPerson_6 rfl ?_
  obtain ⟨x_1, ex_1⟩ : ∃ z : Int32, (nI pe) - (1 : Int32) = z := ⟨_, rfl⟩
  have zx_1 : x_1.toInt = ((pe : Nat) : Int) - 1 := by rw [← ex_1]; exact i_sub (nI_toInt (n := pe) (by omega)) rfl (by omega) (by omega)
  refine ww_isub (v := x_1) C dX11_isPerson_7 ex_1 ?_
  refine ww_ci (wr := [(hx, .inr (11, [.ref h, .ref qp, .int (nI ac), .int (nI np), .ref qs, .ref qj, .ref ly, .ref qh, .ref kk, .int (nI kc), .ref rd, .ref pg, .int (nI pe), .int kn, .ref ss]))]) (k' := 0) (n' := 0) C (run_S (As := [.int k, .int 0, .int x_1]) (rest := []) C (c_within X.2.1 E ro k 0 x_1 k.toInt 0 (((pe : Nat) : Int) - 1) rfl rfl zx_1) ms_X11_within wl_X11_76 rfl rfl rfl rfl dX11_isPerson_8) (roK hro) [] [0] rfl rfl rfl rfl (fun r_2 uz hw => ?_)
  rcases hw with hw | hw
  · refine an3 hw ?_
    clear hw
    intro he_5 he_6 h_3 hw
    have h_4 := hw
    clear hw
    have he_5 := he_5.symm
    subst he_5
    subst he_6
    refine ww_eq (ws' := [(hx, .inr (11, [.ref h, .ref qp, .int (nI ac), .int (nI np), .ref qs, .ref qj, .ref ly, .ref qh, .ref kk, .int (nI kc), .ref rd, .ref pg, .int (nI pe), .int kn, .ref ss]))]) ?_ rfl rfl rfl
    exact ww_zret (u := [(hx, .inr (11, [.ref h, .ref qp, .int (nI ac), .int (nI np), .ref qs, .ref qj, .ref ly, .ref qh, .ref kk, .int (nI kc), .ref rd, .ref pg, .int (nI pe), .int kn, .ref ss]))]) C hT [0] rfl rfl rfl rfl rfl dX11_isPerson_11 (Or.inl ⟨rfl, rfl, (by first | assumption | omega | decide), (by first | assumption | omega | decide)⟩)
  · refine an2 hw ?_
    clear hw
    intro he_8 he_9 hw
    have h_7 := hw
    clear hw
    have he_8 := he_8.symm
    subst he_8
    subst he_9
    refine ww_eq (ws' := [(hx, .inr (11, [.ref h, .ref qp, .int (nI ac), .int (nI np), .ref qs, .ref qj, .ref ly, .ref qh, .ref kk, .int (nI kc), .ref rd, .ref pg, .int (nI pe), .int kn, .ref ss]))]) ?_ rfl rfl rfl
    exact ww_zret (u := [(hx, .inr (11, [.ref h, .ref qp, .int (nI ac), .int (nI np), .ref qs, .ref qj, .ref ly, .ref qh, .ref kk, .int (nI kc), .ref rd, .ref pg, .int (nI pe), .int kn, .ref ss]))]) C hT [0] rfl rfl rfl rfl rfl dX11_isPerson_11 (Or.inr ⟨rfl, rfl, (by first | assumption | omega | decide)⟩)
theorem dX11_people_0 : decode cX11_people 0 = .ok (.iload_n 1, 1) := by decide +kernel
theorem dX11_people_1 : decode cX11_people 1 = .ok (.iconst 2, 1) := by decide +kernel
theorem dX11_people_2 : decode cX11_people 2 = .ok (.iconst 4, 1) := by decide +kernel
theorem dX11_people_3 : decode cX11_people 3 = .ok (.invokestatic 76, 3) := by decide +kernel
theorem dX11_people_6 : decode cX11_people 6 = .ok (.ifCond .ne 5, 3) := by decide +kernel
theorem dX11_people_11 : decode cX11_people 11 = .ok (.aload_n 0, 1) := by decide +kernel
theorem dX11_people_12 : decode cX11_people 12 = .ok (.iload_n 1, 1) := by decide +kernel
theorem dX11_people_13 : decode cX11_people 13 = .ok (.putfield 106, 3) := by decide +kernel
theorem fp_X11_106 : FP RX11 106 11 12 .int false := ⟨RX11, TX11, 15, tyX11, uw_X11, wf_X11_106, rfl, by decide, rfl, tyX11_ok, nmX11, rfl, by decide +kernel⟩
theorem dX11_people_16 : decode cX11_people 16 = .ok (.aload_n 0, 1) := by decide +kernel
theorem dX11_people_17 : decode cX11_people 17 = .ok (.iconst 0, 1) := by decide +kernel
theorem dX11_people_18 : decode cX11_people 18 = .ok (.putfield 324, 3) := by decide +kernel
theorem wf_X11_324 : Cond.fieldLink RX11 324 RX11 "known" "I" ∈ TB := tbm (tq2 (List.mem_of_getElem? (i := 109) (by decide +kernel))) (by decide +kernel)
theorem fp_X11_324 : FP RX11 324 11 13 .int false := ⟨RX11, TX11, 15, tyX11, uw_X11, wf_X11_324, rfl, by decide, rfl, tyX11_ok, nmX11, rfl, by decide +kernel⟩
theorem dX11_people_21 : decode cX11_people 21 = .ok (.iconst 0, 1) := by decide +kernel
theorem dX11_people_22 : decode cX11_people 22 = .ok (.istore_n 2, 1) := by decide +kernel
theorem dX11_people_23 : decode cX11_people 23 = .ok (.iload_n 2, 1) := by decide +kernel
theorem dX11_people_24 : decode cX11_people 24 = .ok (.iload_n 1, 1) := by decide +kernel
theorem dX11_people_25 : decode cX11_people 25 = .ok (.if_icmp .ge 25, 3) := by decide +kernel
theorem dX11_people_28 : decode cX11_people 28 = .ok (.aload_n 0, 1) := by decide +kernel
theorem dX11_people_29 : decode cX11_people 29 = .ok (.dup, 1) := by decide +kernel
theorem dX11_people_30 : decode cX11_people 30 = .ok (.getfield 324, 3) := by decide +kernel
theorem fg_X11_324 : FG RX11 324 11 13 := ⟨RX11, TX11, 15, uw_X11, wf_X11_324, rfl, by decide, rfl⟩
theorem dX11_people_33 : decode cX11_people 33 = .ok (.iconst 1, 1) := by decide +kernel
theorem dX11_people_34 : decode cX11_people 34 = .ok (.iload_n 2, 1) := by decide +kernel
theorem dX11_people_35 : decode cX11_people 35 = .ok (.ishl, 1) := by decide +kernel
theorem dX11_people_36 : decode cX11_people 36 = .ok (.iconst 4, 1) := by decide +kernel
theorem dX11_people_37 : decode cX11_people 37 = .ok (.iload_n 2, 1) := by decide +kernel
theorem dX11_people_38 : decode cX11_people 38 = .ok (.imul, 1) := by decide +kernel
theorem dX11_people_39 : decode cX11_people 39 = .ok (.ishl, 1) := by decide +kernel
theorem dX11_people_40 : decode cX11_people 40 = .ok (.ior, 1) := by decide +kernel
theorem dX11_people_41 : decode cX11_people 41 = .ok (.putfield 324, 3) := by decide +kernel
theorem dX11_people_44 : decode cX11_people 44 = .ok (.iinc 2 1, 3) := by decide +kernel
theorem dX11_people_47 : decode cX11_people 47 = .ok (.goto (-24), 3) := by decide +kernel
theorem dX11_people_50 : decode cX11_people 50 = .ok (.iload_n 1, 1) := by decide +kernel
theorem dX11_people_51 : decode cX11_people 51 = .ok (.ireturn, 1) := by decide +kernel
theorem dX11_people_9 : decode cX11_people 9 = .ok (.iconst (-1), 1) := by decide +kernel
theorem dX11_people_10 : decode cX11_people 10 = .ok (.ireturn, 1) := by decide +kernel
set_option maxRecDepth 100000 in
set_option maxHeartbeats 4000000 in
theorem x_people (l : Launch) (E : EV) (ro : va_W) (hx : Nat) (v0 : Int32) (h : Nat) (qp : Nat) (ac : Nat) (np : Nat) (qs : Nat) (qj : Nat) (ly : Nat) (qh : Nat) (kk : Nat) (kc : Nat) (rd : Nat) (pg : Nat) (pe : Nat) (kn : Int32) (ss : Nat) (hpe : pe ≤ 4) : CT l yX11_people (Cond.code yX11_people cX11_people 3 (some .int) :: TB) ({ frames := 1, cells := 0, slots := 0, locals := 22 }) E ro [.ref hx, .int v0] [(hx, .inr (11, [.ref h, .ref qp, .int (nI ac), .int (nI np), .ref qs, .ref qj, .ref ly, .ref qh, .ref kk, .int (nI kc), .ref rd, .ref pg, .int (nI pe), .int kn, .ref ss]))] (Qi E (fun (rz : Int32) uz => (rz = (-1) ∧ uz = [(hx, .inr (11, [.ref h, .ref qp, .int (nI ac), .int (nI np), .ref qs, .ref qj, .ref ly, .ref qh, .ref kk, .int (nI kc), .ref rd, .ref pg, .int (nI pe), .int kn, .ref ss]))] ∧ (v0.toInt < 2 ∨ 4 < v0.toInt)) ∨ (rz = 2 ∧ uz = [(hx, .inr (11, [.ref h, .ref qp, .int (nI ac), .int (nI np), .ref qs, .ref qj, .ref ly, .ref qh, .ref kk, .int (nI kc), .ref rd, .ref pg, .int 2, .int 33, .ref ss]))] ∧ (v0.toInt = 2)) ∨ (rz = 3 ∧ uz = [(hx, .inr (11, [.ref h, .ref qp, .int (nI ac), .int (nI np), .ref qs, .ref qj, .ref ly, .ref qh, .ref kk, .int (nI kc), .ref rd, .ref pg, .int 3, .int 1057, .ref ss]))] ∧ (v0.toInt = 3)) ∨ (rz = 4 ∧ uz = [(hx, .inr (11, [.ref h, .ref qp, .int (nI ac), .int (nI np), .ref qs, .ref qj, .ref ly, .ref qh, .ref kk, .int (nI kc), .ref rd, .ref pg, .int 4, .int 33825, .ref ss]))] ∧ (v0.toInt = 4)))) 0 0 := by
  refine ct_of rfl rfl ?_
  intro X C hT hin hro
  show WW X 3 E 0 [(0, .ref hx), (1, .int v0)] [] [(hx, .inr (11, [.ref h, .ref qp, .int (nI ac), .int (nI np), .ref qs, .ref qj, .ref ly, .ref qh, .ref kk, .int (nI kc), .ref rd, .ref pg, .int (nI pe), .int kn, .ref ss]))] 0 0
  refine ww_iload_n C dX11_people_0 1 rfl rfl ?_
  refine ww_iconst (v := 2) C dX11_people_1 rfl ?_
  refine ww_iconst (v := 4) C dX11_people_2 rfl ?_
  refine ww_ci (wr := [(hx, .inr (11, [.ref h, .ref qp, .int (nI ac), .int (nI np), .ref qs, .ref qj, .ref ly, .ref qh, .ref kk, .int (nI kc), .ref rd, .ref pg, .int (nI pe), .int kn, .ref ss]))]) (k' := 0) (n' := 0) C (run_S (As := [.int v0, .int 2, .int 4]) (rest := []) C (c_within X.2.1 E ro v0 2 4 v0.toInt 2 4 rfl rfl rfl) ms_X11_within wl_X11_76 rfl rfl rfl rfl dX11_people_3) (roK hro) [] [0] rfl rfl rfl rfl (fun r_1 uz hw => ?_)
  rcases hw with hw | hw
  · refine an3 hw ?_
    clear hw
    intro he_4 he_5 h_2 hw
    have h_3 := hw
    clear hw
    have he_4 := he_4.symm
    subst he_4
    subst he_5
    refine ww_eq (ws' := [(hx, .inr (11, [.ref h, .ref qp, .int (nI ac), .int (nI np), .ref qs, .ref qj, .ref ly, .ref qh, .ref kk, .int (nI kc), .ref rd, .ref pg, .int (nI pe), .int kn, .ref ss]))]) ?_ rfl rfl rfl
    refine ww_if_ne_t (tgt := 11) C dX11_people_6 (by decide) (by decide) ?_
    rcases sp_2_4 (x := v0) (by omega) (by omega) with rfl | rfl | rfl
    · refine ww_aload_n C dX11_people_11 0 rfl rfl ?_
      refine ww_iload_n C dX11_people_12 1 rfl rfl ?_
      refine ww_put (ws' := [(hx, .inr (11, [.ref h, .ref qp, .int (nI ac), .int (nI np), .ref qs, .ref qj, .ref ly, .ref qh, .ref kk, .int (nI kc), .ref rd, .ref pg, .int 2, .int kn, .ref ss]))]) C fp_X11_106 0 rfl rfl rfl rfl rfl dX11_people_13 ?_
      refine ww_aload_n C dX11_people_16 0 rfl rfl ?_
      refine ww_iconst (v := 0) C dX11_people_17 rfl ?_
      refine ww_put (ws' := [(hx, .inr (11, [.ref h, .ref qp, .int (nI ac), .int (nI np), .ref qs, .ref qj, .ref ly, .ref qh, .ref kk, .int (nI kc), .ref rd, .ref pg, .int 2, .int 0, .ref ss]))]) C fp_X11_324 0 rfl rfl rfl rfl rfl dX11_people_18 ?_
      refine ww_iconst (v := 0) C dX11_people_21 rfl ?_
      refine ww_istore_n (lv' := [(2, .int 0), (0, .ref hx), (1, .int 2)]) C dX11_people_22 rfl rfl rfl ?_
      refine ww_iload_n C dX11_people_23 0 rfl rfl ?_
      refine ww_iload_n C dX11_people_24 2 rfl rfl ?_
      refine ww_icmp_ge_f (tgt := 50) C dX11_people_25 (by decide) (by decide) ?_
      refine ww_aload_n C dX11_people_28 1 rfl rfl ?_
      refine ww_dup C dX11_people_29 rfl ?_
      refine ww_get C fg_X11_324 0 rfl rfl dX11_people_30 ?_
      refine ww_iconst (v := 1) C dX11_people_33 rfl ?_
      refine ww_iload_n C dX11_people_34 0 rfl rfl ?_
      refine ww_ishl (v := 1) C dX11_people_35 (by decide) ?_
      refine ww_iconst (v := 4) C dX11_people_36 rfl ?_
      refine ww_iload_n C dX11_people_37 0 rfl rfl ?_
      refine ww_imul (v := 0) C dX11_people_38 (by decide) ?_
      refine ww_ishl (v := 1) C dX11_people_39 (by decide) ?_
      refine ww_ior (v := 1) C dX11_people_40 (by decide) ?_
      refine ww_put (ws' := [(hx, .inr (11, [.ref h, .ref qp, .int (nI ac), .int (nI np), .ref qs, .ref qj, .ref ly, .ref qh, .ref kk, .int (nI kc), .ref rd, .ref pg, .int 2, .int 1, .ref ss]))]) C fp_X11_324 0 rfl rfl rfl rfl rfl dX11_people_41 ?_
      refine ww_iinc (j := 0) (v := 1) (lv' := [(2, .int 1), (0, .ref hx), (1, .int 2)]) C dX11_people_44 rfl rfl rfl rfl ?_
      refine ww_goto (tgt := 23) C dX11_people_47 (by decide) ?_
      refine ww_iload_n C dX11_people_23 0 rfl rfl ?_
      refine ww_iload_n C dX11_people_24 2 rfl rfl ?_
      refine ww_icmp_ge_f (tgt := 50) C dX11_people_25 (by decide) (by decide) ?_
      refine ww_aload_n C dX11_people_28 1 rfl rfl ?_
      refine ww_dup C dX11_people_29 rfl ?_
      refine ww_get C fg_X11_324 0 rfl rfl dX11_people_30 ?_
      refine ww_iconst (v := 1) C dX11_people_33 rfl ?_
      refine ww_iload_n C dX11_people_34 0 rfl rfl ?_
      refine ww_ishl (v := 2) C dX11_people_35 (by decide) ?_
      refine ww_iconst (v := 4) C dX11_people_36 rfl ?_
      refine ww_iload_n C dX11_people_37 0 rfl rfl ?_
      refine ww_imul (v := 4) C dX11_people_38 (by decide) ?_
      refine ww_ishl (v := 32) C dX11_people_39 (by decide) ?_
      refine ww_ior (v := 33) C dX11_people_40 (by decide) ?_
      refine ww_put (ws' := [(hx, .inr (11, [.ref h, .ref qp, .int (nI ac), .int (nI np), .ref qs, .ref qj, .ref ly, .ref qh, .ref kk, .int (nI kc), .ref rd, .ref pg, .int 2, .int 33, .ref ss]))]) C fp_X11_324 0 rfl rfl rfl rfl rfl dX11_people_41 ?_
      refine ww_iinc (j := 0) (v := 2) (lv' := [(2, .int 2), (0, .ref hx), (1, .int 2)]) C dX11_people_44 rfl rfl rfl rfl ?_
      refine ww_goto (tgt := 23) C dX11_people_47 (by decide) ?_
      refine ww_iload_n C dX11_people_23 0 rfl rfl ?_
      refine ww_iload_n C dX11_people_24 2 rfl rfl ?_
      refine ww_icmp_ge_t (tgt := 50) C dX11_people_25 (by decide) (by decide) ?_
      refine ww_iload_n C dX11_people_50 2 rfl rfl ?_
      exact ww_iret (u := [(hx, .inr (11, [.ref h, .ref qp, .int (nI ac), .int (nI np), .ref qs, .ref qj, .ref ly, .ref qh, .ref kk, .int (nI kc), .ref rd, .ref pg, .int 2, .int 33, .ref ss]))]) C hT [0] rfl rfl rfl rfl dX11_people_51 (Or.inr (Or.inl ⟨rfl, rfl, (by first | assumption | omega | decide)⟩))
    · refine ww_aload_n C dX11_people_11 0 rfl rfl ?_
      refine ww_iload_n C dX11_people_12 1 rfl rfl ?_
      refine ww_put (ws' := [(hx, .inr (11, [.ref h, .ref qp, .int (nI ac), .int (nI np), .ref qs, .ref qj, .ref ly, .ref qh, .ref kk, .int (nI kc), .ref rd, .ref pg, .int 3, .int kn, .ref ss]))]) C fp_X11_106 0 rfl rfl rfl rfl rfl dX11_people_13 ?_
      refine ww_aload_n C dX11_people_16 0 rfl rfl ?_
      refine ww_iconst (v := 0) C dX11_people_17 rfl ?_
      refine ww_put (ws' := [(hx, .inr (11, [.ref h, .ref qp, .int (nI ac), .int (nI np), .ref qs, .ref qj, .ref ly, .ref qh, .ref kk, .int (nI kc), .ref rd, .ref pg, .int 3, .int 0, .ref ss]))]) C fp_X11_324 0 rfl rfl rfl rfl rfl dX11_people_18 ?_
      refine ww_iconst (v := 0) C dX11_people_21 rfl ?_
      refine ww_istore_n (lv' := [(2, .int 0), (0, .ref hx), (1, .int 3)]) C dX11_people_22 rfl rfl rfl ?_
      refine ww_iload_n C dX11_people_23 0 rfl rfl ?_
      refine ww_iload_n C dX11_people_24 2 rfl rfl ?_
      refine ww_icmp_ge_f (tgt := 50) C dX11_people_25 (by decide) (by decide) ?_
      refine ww_aload_n C dX11_people_28 1 rfl rfl ?_
      refine ww_dup C dX11_people_29 rfl ?_
      refine ww_get C fg_X11_324 0 rfl rfl dX11_people_30 ?_
      refine ww_iconst (v := 1) C dX11_people_33 rfl ?_
      refine ww_iload_n C dX11_people_34 0 rfl rfl ?_
      refine ww_ishl (v := 1) C dX11_people_35 (by decide) ?_
      refine ww_iconst (v := 4) C dX11_people_36 rfl ?_
      refine ww_iload_n C dX11_people_37 0 rfl rfl ?_
      refine ww_imul (v := 0) C dX11_people_38 (by decide) ?_
      refine ww_ishl (v := 1) C dX11_people_39 (by decide) ?_
      refine ww_ior (v := 1) C dX11_people_40 (by decide) ?_
      refine ww_put (ws' := [(hx, .inr (11, [.ref h, .ref qp, .int (nI ac), .int (nI np), .ref qs, .ref qj, .ref ly, .ref qh, .ref kk, .int (nI kc), .ref rd, .ref pg, .int 3, .int 1, .ref ss]))]) C fp_X11_324 0 rfl rfl rfl rfl rfl dX11_people_41 ?_
      refine ww_iinc (j := 0) (v := 1) (lv' := [(2, .int 1), (0, .ref hx), (1, .int 3)]) C dX11_people_44 rfl rfl rfl rfl ?_
      refine ww_goto (tgt := 23) C dX11_people_47 (by decide) ?_
      refine ww_iload_n C dX11_people_23 0 rfl rfl ?_
      refine ww_iload_n C dX11_people_24 2 rfl rfl ?_
      refine ww_icmp_ge_f (tgt := 50) C dX11_people_25 (by decide) (by decide) ?_
      refine ww_aload_n C dX11_people_28 1 rfl rfl ?_
      refine ww_dup C dX11_people_29 rfl ?_
      refine ww_get C fg_X11_324 0 rfl rfl dX11_people_30 ?_
      refine ww_iconst (v := 1) C dX11_people_33 rfl ?_
      refine ww_iload_n C dX11_people_34 0 rfl rfl ?_
      refine ww_ishl (v := 2) C dX11_people_35 (by decide) ?_
      refine ww_iconst (v := 4) C dX11_people_36 rfl ?_
      refine ww_iload_n C dX11_people_37 0 rfl rfl ?_
      refine ww_imul (v := 4) C dX11_people_38 (by decide) ?_
      refine ww_ishl (v := 32) C dX11_people_39 (by decide) ?_
      refine ww_ior (v := 33) C dX11_people_40 (by decide) ?_
      refine ww_put (ws' := [(hx, .inr (11, [.ref h, .ref qp, .int (nI ac), .int (nI np), .ref qs, .ref qj, .ref ly, .ref qh, .ref kk, .int (nI kc), .ref rd, .ref pg, .int 3, .int 33, .ref ss]))]) C fp_X11_324 0 rfl rfl rfl rfl rfl dX11_people_41 ?_
      refine ww_iinc (j := 0) (v := 2) (lv' := [(2, .int 2), (0, .ref hx), (1, .int 3)]) C dX11_people_44 rfl rfl rfl rfl ?_
      refine ww_goto (tgt := 23) C dX11_people_47 (by decide) ?_
      refine ww_iload_n C dX11_people_23 0 rfl rfl ?_
      refine ww_iload_n C dX11_people_24 2 rfl rfl ?_
      refine ww_icmp_ge_f (tgt := 50) C dX11_people_25 (by decide) (by decide) ?_
      refine ww_aload_n C dX11_people_28 1 rfl rfl ?_
      refine ww_dup C dX11_people_29 rfl ?_
      refine ww_get C fg_X11_324 0 rfl rfl dX11_people_30 ?_
      refine ww_iconst (v := 1) C dX11_people_33 rfl ?_
      refine ww_iload_n C dX11_people_34 0 rfl rfl ?_
      refine ww_ishl (v := 4) C dX11_people_35 (by decide) ?_
      refine ww_iconst (v := 4) C dX11_people_36 rfl ?_
      refine ww_iload_n C dX11_people_37 0 rfl rfl ?_
      refine ww_imul (v := 8) C dX11_people_38 (by decide) ?_
      refine ww_ishl (v := 1024) C dX11_people_39 (by decide) ?_
      refine ww_ior (v := 1057) C dX11_people_40 (by decide) ?_
      refine ww_put (ws' := [(hx, .inr (11, [.ref h, .ref qp, .int (nI ac), .int (nI np), .ref qs, .ref qj, .ref ly, .ref qh, .ref kk, .int (nI kc), .ref rd, .ref pg, .int 3, .int 1057, .ref ss]))]) C fp_X11_324 0 rfl rfl rfl rfl rfl dX11_people_41 ?_
      refine ww_iinc (j := 0) (v := 3) (lv' := [(2, .int 3), (0, .ref hx), (1, .int 3)]) C dX11_people_44 rfl rfl rfl rfl ?_
      refine ww_goto (tgt := 23) C dX11_people_47 (by decide) ?_
      refine ww_iload_n C dX11_people_23 0 rfl rfl ?_
      refine ww_iload_n C dX11_people_24 2 rfl rfl ?_
      refine ww_icmp_ge_t (tgt := 50) C dX11_people_25 (by decide) (by decide) ?_
      refine ww_iload_n C dX11_people_50 2 rfl rfl ?_
      exact ww_iret (u := [(hx, .inr (11, [.ref h, .ref qp, .int (nI ac), .int (nI np), .ref qs, .ref qj, .ref ly, .ref qh, .ref kk, .int (nI kc), .ref rd, .ref pg, .int 3, .int 1057, .ref ss]))]) C hT [0] rfl rfl rfl rfl dX11_people_51 (Or.inr (Or.inr (Or.inl ⟨rfl, rfl, (by first | assumption | omega | decide)⟩)))
    · refine ww_aload_n C dX11_people_11 0 rfl rfl ?_
      refine ww_iload_n C dX11_people_12 1 rfl rfl ?_
      refine ww_put (ws' := [(hx, .inr (11, [.ref h, .ref qp, .int (nI ac), .int (nI np), .ref qs, .ref qj, .ref ly, .ref qh, .ref kk, .int (nI kc), .ref rd, .ref pg, .int 4, .int kn, .ref ss]))]) C fp_X11_106 0 rfl rfl rfl rfl rfl dX11_people_13 ?_
      refine ww_aload_n C dX11_people_16 0 rfl rfl ?_
      refine ww_iconst (v := 0) C dX11_people_17 rfl ?_
      refine ww_put (ws' := [(hx, .inr (11, [.ref h, .ref qp, .int (nI ac), .int (nI np), .ref qs, .ref qj, .ref ly, .ref qh, .ref kk, .int (nI kc), .ref rd, .ref pg, .int 4, .int 0, .ref ss]))]) C fp_X11_324 0 rfl rfl rfl rfl rfl dX11_people_18 ?_
      refine ww_iconst (v := 0) C dX11_people_21 rfl ?_
      refine ww_istore_n (lv' := [(2, .int 0), (0, .ref hx), (1, .int 4)]) C dX11_people_22 rfl rfl rfl ?_
      refine ww_iload_n C dX11_people_23 0 rfl rfl ?_
      refine ww_iload_n C dX11_people_24 2 rfl rfl ?_
      refine ww_icmp_ge_f (tgt := 50) C dX11_people_25 (by decide) (by decide) ?_
      refine ww_aload_n C dX11_people_28 1 rfl rfl ?_
      refine ww_dup C dX11_people_29 rfl ?_
      refine ww_get C fg_X11_324 0 rfl rfl dX11_people_30 ?_
      refine ww_iconst (v := 1) C dX11_people_33 rfl ?_
      refine ww_iload_n C dX11_people_34 0 rfl rfl ?_
      refine ww_ishl (v := 1) C dX11_people_35 (by decide) ?_
      refine ww_iconst (v := 4) C dX11_people_36 rfl ?_
      refine ww_iload_n C dX11_people_37 0 rfl rfl ?_
      refine ww_imul (v := 0) C dX11_people_38 (by decide) ?_
      refine ww_ishl (v := 1) C dX11_people_39 (by decide) ?_
      refine ww_ior (v := 1) C dX11_people_40 (by decide) ?_
      refine ww_put (ws' := [(hx, .inr (11, [.ref h, .ref qp, .int (nI ac), .int (nI np), .ref qs, .ref qj, .ref ly, .ref qh, .ref kk, .int (nI kc), .ref rd, .ref pg, .int 4, .int 1, .ref ss]))]) C fp_X11_324 0 rfl rfl rfl rfl rfl dX11_people_41 ?_
      refine ww_iinc (j := 0) (v := 1) (lv' := [(2, .int 1), (0, .ref hx), (1, .int 4)]) C dX11_people_44 rfl rfl rfl rfl ?_
      refine ww_goto (tgt := 23) C dX11_people_47 (by decide) ?_
      refine ww_iload_n C dX11_people_23 0 rfl rfl ?_
      refine ww_iload_n C dX11_people_24 2 rfl rfl ?_
      refine ww_icmp_ge_f (tgt := 50) C dX11_people_25 (by decide) (by decide) ?_
      refine ww_aload_n C dX11_people_28 1 rfl rfl ?_
      refine ww_dup C dX11_people_29 rfl ?_
      refine ww_get C fg_X11_324 0 rfl rfl dX11_people_30 ?_
      refine ww_iconst (v := 1) C dX11_people_33 rfl ?_
      refine ww_iload_n C dX11_people_34 0 rfl rfl ?_
      refine ww_ishl (v := 2) C dX11_people_35 (by decide) ?_
      refine ww_iconst (v := 4) C dX11_people_36 rfl ?_
      refine ww_iload_n C dX11_people_37 0 rfl rfl ?_
      refine ww_imul (v := 4) C dX11_people_38 (by decide) ?_
      refine ww_ishl (v := 32) C dX11_people_39 (by decide) ?_
      refine ww_ior (v := 33) C dX11_people_40 (by decide) ?_
      refine ww_put (ws' := [(hx, .inr (11, [.ref h, .ref qp, .int (nI ac), .int (nI np), .ref qs, .ref qj, .ref ly, .ref qh, .ref kk, .int (nI kc), .ref rd, .ref pg, .int 4, .int 33, .ref ss]))]) C fp_X11_324 0 rfl rfl rfl rfl rfl dX11_people_41 ?_
      refine ww_iinc (j := 0) (v := 2) (lv' := [(2, .int 2), (0, .ref hx), (1, .int 4)]) C dX11_people_44 rfl rfl rfl rfl ?_
      refine ww_goto (tgt := 23) C dX11_people_47 (by decide) ?_
      refine ww_iload_n C dX11_people_23 0 rfl rfl ?_
      refine ww_iload_n C dX11_people_24 2 rfl rfl ?_
      refine ww_icmp_ge_f (tgt := 50) C dX11_people_25 (by decide) (by decide) ?_
      refine ww_aload_n C dX11_people_28 1 rfl rfl ?_
      refine ww_dup C dX11_people_29 rfl ?_
      refine ww_get C fg_X11_324 0 rfl rfl dX11_people_30 ?_
      refine ww_iconst (v := 1) C dX11_people_33 rfl ?_
      refine ww_iload_n C dX11_people_34 0 rfl rfl ?_
      refine ww_ishl (v := 4) C dX11_people_35 (by decide) ?_
      refine ww_iconst (v := 4) C dX11_people_36 rfl ?_
      refine ww_iload_n C dX11_people_37 0 rfl rfl ?_
      refine ww_imul (v := 8) C dX11_people_38 (by decide) ?_
      refine ww_ishl (v := 1024) C dX11_people_39 (by decide) ?_
      refine ww_ior (v := 1057) C dX11_people_40 (by decide) ?_
      refine ww_put (ws' := [(hx, .inr (11, [.ref h, .ref qp, .int (nI ac), .int (nI np), .ref qs, .ref qj, .ref ly, .ref qh, .ref kk, .int (nI kc), .ref rd, .ref pg, .int 4, .int 1057, .ref ss]))]) C fp_X11_324 0 rfl rfl rfl rfl rfl dX11_people_41 ?_
      refine ww_iinc (j := 0) (v := 3) (lv' := [(2, .int 3), (0, .ref hx), (1, .int 4)]) C dX11_people_44 rfl rfl rfl rfl ?_
      refine ww_goto (tgt := 23) C dX11_people_47 (by decide) ?_
      refine ww_iload_n C dX11_people_23 0 rfl rfl ?_
      refine ww_iload_n C dX11_people_24 2 rfl rfl ?_
      refine ww_icmp_ge_f (tgt := 50) C dX11_people_25 (by decide) (by decide) ?_
      refine ww_aload_n C dX11_people_28 1 rfl rfl ?_
      refine ww_dup C dX11_people_29 rfl ?_
      refine ww_get C fg_X11_324 0 rfl rfl dX11_people_30 ?_
      refine ww_iconst (v := 1) C dX11_people_33 rfl ?_
      refine ww_iload_n C dX11_people_34 0 rfl rfl ?_
      refine ww_ishl (v := 8) C dX11_people_35 (by decide) ?_
      refine ww_iconst (v := 4) C dX11_people_36 rfl ?_
      refine ww_iload_n C dX11_people_37 0 rfl rfl ?_
      refine ww_imul (v := 12) C dX11_people_38 (by decide) ?_
      refine ww_ishl (v := 32768) C dX11_people_39 (by decide) ?_
      refine ww_ior (v := 33825) C dX11_people_40 (by decide) ?_
      refine ww_put (ws' := [(hx, .inr (11, [.ref h, .ref qp, .int (nI ac), .int (nI np), .ref qs, .ref qj, .ref ly, .ref qh, .ref kk, .int (nI kc), .ref rd, .ref pg, .int 4, .int 33825, .ref ss]))]) C fp_X11_324 0 rfl rfl rfl rfl rfl dX11_people_41 ?_
      refine ww_iinc (j := 0) (v := 4) (lv' := [(2, .int 4), (0, .ref hx), (1, .int 4)]) C dX11_people_44 rfl rfl rfl rfl ?_
      refine ww_goto (tgt := 23) C dX11_people_47 (by decide) ?_
      refine ww_iload_n C dX11_people_23 0 rfl rfl ?_
      refine ww_iload_n C dX11_people_24 2 rfl rfl ?_
      refine ww_icmp_ge_t (tgt := 50) C dX11_people_25 (by decide) (by decide) ?_
      refine ww_iload_n C dX11_people_50 2 rfl rfl ?_
      exact ww_iret (u := [(hx, .inr (11, [.ref h, .ref qp, .int (nI ac), .int (nI np), .ref qs, .ref qj, .ref ly, .ref qh, .ref kk, .int (nI kc), .ref rd, .ref pg, .int 4, .int 33825, .ref ss]))]) C hT [0] rfl rfl rfl rfl dX11_people_51 (Or.inr (Or.inr (Or.inr ⟨rfl, rfl, (by first | assumption | omega | decide)⟩)))
  · refine an2 hw ?_
    clear hw
    intro he_7 he_8 hw
    have h_6 := hw
    clear hw
    have he_7 := he_7.symm
    subst he_7
    subst he_8
    refine ww_eq (ws' := [(hx, .inr (11, [.ref h, .ref qp, .int (nI ac), .int (nI np), .ref qs, .ref qj, .ref ly, .ref qh, .ref kk, .int (nI kc), .ref rd, .ref pg, .int (nI pe), .int kn, .ref ss]))]) ?_ rfl rfl rfl
    refine ww_if_ne_f (tgt := 11) C dX11_people_6 (by decide) (rfl) ?_
    refine ww_iconst (v := (-1)) C dX11_people_9 rfl ?_
    exact ww_iret (u := [(hx, .inr (11, [.ref h, .ref qp, .int (nI ac), .int (nI np), .ref qs, .ref qj, .ref ly, .ref qh, .ref kk, .int (nI kc), .ref rd, .ref pg, .int (nI pe), .int kn, .ref ss]))]) C hT [0] rfl rfl rfl rfl dX11_people_10 (Or.inl ⟨rfl, rfl, (by first | assumption | omega | decide)⟩)
theorem dX11_call_0 : decode cX11_call 0 = .ok (.aload_n 0, 1) := by decide +kernel
theorem dX11_call_1 : decode cX11_call 1 = .ok (.iload_n 1, 1) := by decide +kernel
theorem dX11_call_2 : decode cX11_call 2 = .ok (.invokevirtual 327, 3) := by decide +kernel
theorem wl_X11_327 : Cond.methodLink RX11 327 yX11_isPerson ∈ TB := tbm (tq5 (List.mem_of_getElem? (i := 2) (by decide +kernel))) (by decide +kernel)
theorem wc_X11_isPerson : Cond.code yX11_isPerson cX11_isPerson 2 (some .boolean) ∈ TB := tbm (tq5 (List.mem_of_getElem? (i := 5) (rfl))) (by decide +kernel)
theorem wi_X11_isPerson : Cond.instanceMethod yX11_isPerson ∈ TB := tbm (tq5 (List.mem_of_getElem? (i := 4) (by decide +kernel))) (by decide +kernel)
theorem ws_X11_isPerson : Cond.selects RX11 yX11_isPerson yX11_isPerson ∈ TB := tbm (tq0 (List.mem_of_getElem? (i := 33) (by decide +kernel))) (by decide +kernel)
theorem mi_X11_isPerson : MI yX11_isPerson cX11_isPerson 2 (some .boolean) 1 := ⟨wc_X11_isPerson, wn_X11, ⟨by decide +kernel, by decide +kernel, by decide +kernel⟩, wi_X11_isPerson, ws_X11_isPerson⟩
theorem dX11_call_5 : decode cX11_call 5 = .ok (.ifCond .eq 16, 3) := by decide +kernel
theorem dX11_call_8 : decode cX11_call 8 = .ok (.aload_n 0, 1) := by decide +kernel
theorem dX11_call_9 : decode cX11_call 9 = .ok (.iload_n 2, 1) := by decide +kernel
theorem dX11_call_10 : decode cX11_call 10 = .ok (.invokevirtual 327, 3) := by decide +kernel
theorem dX11_call_13 : decode cX11_call 13 = .ok (.ifCond .eq 8, 3) := by decide +kernel
theorem dX11_call_16 : decode cX11_call 16 = .ok (.iload_n 1, 1) := by decide +kernel
theorem dX11_call_17 : decode cX11_call 17 = .ok (.iload_n 2, 1) := by decide +kernel
theorem dX11_call_18 : decode cX11_call 18 = .ok (.if_icmp .ne 5, 3) := by decide +kernel
theorem dX11_call_23 : decode cX11_call 23 = .ok (.aload_n 0, 1) := by decide +kernel
theorem dX11_call_24 : decode cX11_call 24 = .ok (.aload_n 0, 1) := by decide +kernel
theorem dX11_call_25 : decode cX11_call 25 = .ok (.getfield 324, 3) := by decide +kernel
theorem dX11_call_28 : decode cX11_call 28 = .ok (.iload_n 1, 1) := by decide +kernel
theorem dX11_call_29 : decode cX11_call 29 = .ok (.iload_n 2, 1) := by decide +kernel
theorem dX11_call_30 : decode cX11_call 30 = .ok (.invokestatic 318, 3) := by decide +kernel
theorem dX11_call_33 : decode cX11_call 33 = .ok (.putfield 324, 3) := by decide +kernel
theorem dX11_call_36 : decode cX11_call 36 = .ok (.aload_n 0, 1) := by decide +kernel
theorem dX11_call_37 : decode cX11_call 37 = .ok (.getfield 324, 3) := by decide +kernel
theorem dX11_call_40 : decode cX11_call 40 = .ok (.iload_n 1, 1) := by decide +kernel
theorem dX11_call_41 : decode cX11_call 41 = .ok (.invokestatic 308, 3) := by decide +kernel
theorem dX11_call_44 : decode cX11_call 44 = .ok (.invokestatic 330, 3) := by decide +kernel
theorem wl_X11_330 : Cond.methodLink RX11 330 yJ6_bitCount_0f7a4 ∈ TB := tbm (tq5 (List.mem_of_getElem? (i := 12) (by decide +kernel))) (by decide +kernel)
theorem dX11_call_47 : decode cX11_call 47 = .ok (.ireturn, 1) := by decide +kernel
theorem dX11_call_21 : decode cX11_call 21 = .ok (.iconst (-1), 1) := by decide +kernel
theorem dX11_call_22 : decode cX11_call 22 = .ok (.ireturn, 1) := by decide +kernel
set_option maxRecDepth 100000 in
set_option maxHeartbeats 4000000 in
theorem x_call (l : Launch) (E : EV) (ro : va_W) (hx : Nat) (v0 : Int32) (v1 : Int32) (h : Nat) (qp : Nat) (ac : Nat) (np : Nat) (qs : Nat) (qj : Nat) (ly : Nat) (qh : Nat) (kk : Nat) (kc : Nat) (rd : Nat) (pg : Nat) (pe : Nat) (kn : Int32) (ss : Nat) (hpe : pe ≤ 4) : CT l yX11_call (Cond.code yX11_call cX11_call 3 (some .int) :: TB) ({ frames := 2, cells := 0, slots := 0, locals := 44 }) E ro [.ref hx, .int v0, .int v1] [(hx, .inr (11, [.ref h, .ref qp, .int (nI ac), .int (nI np), .ref qs, .ref qj, .ref ly, .ref qh, .ref kk, .int (nI kc), .ref rd, .ref pg, .int (nI pe), .int kn, .ref ss]))] (Qi E (fun (rz : Int32) uz => (rz = (-1) ∧ uz = [(hx, .inr (11, [.ref h, .ref qp, .int (nI ac), .int (nI np), .ref qs, .ref qj, .ref ly, .ref qh, .ref kk, .int (nI kc), .ref rd, .ref pg, .int (nI pe), .int kn, .ref ss]))] ∧ (v0.toInt < 0 ∨ (pe : Int) ≤ v0.toInt ∨ v1.toInt < 0 ∨ (pe : Int) ≤ v1.toInt ∨ v0.toInt = v1.toInt)) ∨ (∃ (i_ : Nat) (j_ : Nat), rz = (bcf (sc (cl kn i_ j_) i_)) ∧ uz = [(hx, .inr (11, [.ref h, .ref qp, .int (nI ac), .int (nI np), .ref qs, .ref qj, .ref ly, .ref qh, .ref kk, .int (nI kc), .ref rd, .ref pg, .int (nI pe), .int (cl kn i_ j_), .ref ss]))] ∧ (v0 = nI i_) ∧ (v1 = nI j_) ∧ (i_ < pe) ∧ (j_ < pe) ∧ (i_ ≠ j_)))) 0 0 := by
  refine ct_of rfl rfl ?_
  intro X C hT hin hro
  show WW X 3 E 0 [(0, .ref hx), (1, .int v0), (2, .int v1)] [] [(hx, .inr (11, [.ref h, .ref qp, .int (nI ac), .int (nI np), .ref qs, .ref qj, .ref ly, .ref qh, .ref kk, .int (nI kc), .ref rd, .ref pg, .int (nI pe), .int kn, .ref ss]))] 0 0
  refine ww_aload_n C dX11_call_0 0 rfl rfl ?_
  refine ww_iload_n C dX11_call_1 1 rfl rfl ?_
  refine ww_ci (wr := []) (k' := 0) (n' := 0) C (run_V (As := [.int v0]) (rest := []) C (x_isPerson X.2.1 E ro hx v0 h qp ac np qs qj ly qh kk kc rd pg pe kn ss (by omega)) mi_X11_isPerson wl_X11_327 rfl 0 11 rfl rfl rfl rfl rfl dX11_call_2) (roK hro) [0] [] rfl rfl rfl rfl (fun r_1 uz hw => ?_)
  rcases hw with hw | hw
  · refine an3 hw ?_
    clear hw
    intro he_4 he_5 h_2 hw
    have h_3 := hw
    clear hw
    have he_4 := he_4.symm
    subst he_4
    subst he_5
    refine ww_eq (ws' := [(hx, .inr (11, [.ref h, .ref qp, .int (nI ac), .int (nI np), .ref qs, .ref qj, .ref ly, .ref qh, .ref kk, .int (nI kc), .ref rd, .ref pg, .int (nI pe), .int kn, .ref ss]))]) ?_ rfl rfl rfl
    refine ww_if_eq_f (tgt := 21) C dX11_call_5 (by decide) (by decide) ?_
    refine ww_aload_n C dX11_call_8 0 rfl rfl ?_
    refine ww_iload_n C dX11_call_9 2 rfl rfl ?_
    refine ww_ci (wr := []) (k' := 0) (n' := 0) C (run_V (As := [.int v1]) (rest := []) C (x_isPerson X.2.1 E ro hx v1 h qp ac np qs qj ly qh kk kc rd pg pe kn ss (by omega)) mi_X11_isPerson wl_X11_327 rfl 0 11 rfl rfl rfl rfl rfl dX11_call_10) (roK hro) [0] [] rfl rfl rfl rfl (fun r_9 uz hw => ?_)
    rcases hw with hw | hw
    · refine an3 hw ?_
      clear hw
      intro he_12 he_13 h_10 hw
      have h_11 := hw
      clear hw
      have he_12 := he_12.symm
      subst he_12
      subst he_13
      refine ww_eq (ws' := [(hx, .inr (11, [.ref h, .ref qp, .int (nI ac), .int (nI np), .ref qs, .ref qj, .ref ly, .ref qh, .ref kk, .int (nI kc), .ref rd, .ref pg, .int (nI pe), .int kn, .ref ss]))]) ?_ rfl rfl rfl
      refine ww_if_eq_f (tgt := 21) C dX11_call_13 (by decide) (by decide) ?_
      refine ww_iload_n C dX11_call_16 1 rfl rfl ?_
      refine ww_iload_n C dX11_call_17 2 rfl rfl ?_
      refine ww_icmp_ne (tgt := 23) C dX11_call_18 (by decide) (fun c_17 => ?_) (fun c_17 => ?_)
      · have zc_17 : v0.toInt ≠ v1.toInt := i_ne rfl rfl c_17
        obtain ⟨j_18, hj_18, rfl⟩ := i_nat (x := v0) (N := 3) (by omega) (by omega)
        have hzj_18 := nI_toInt (n := j_18) (by omega)
        obtain ⟨j_19, hj_19, rfl⟩ := i_nat (x := v1) (N := 3) (by omega) (by omega)
        have hzj_19 := nI_toInt (n := j_19) (by omega)
        refine ww_aload_n C dX11_call_23 0 rfl rfl ?_
        refine ww_aload_n C dX11_call_24 0 rfl rfl ?_
        refine ww_get C fg_X11_324 0 rfl rfl dX11_call_25 ?_
        refine ww_iload_n C dX11_call_28 1 rfl rfl ?_
        refine ww_iload_n C dX11_call_29 2 rfl rfl ?_
        refine ww_ci (wr := [(hx, .inr (11, [.ref h, .ref qp, .int (nI ac), .int (nI np), .ref qs, .ref qj, .ref ly, .ref qh, .ref kk, .int (nI kc), .ref rd, .ref pg, .int (nI pe), .int kn, .ref ss]))]) (k' := 0) (n' := 0) C (run_S (As := [.int kn, .int (nI j_18), .int (nI j_19)]) (rest := [.ref hx]) C (c_called X.2.1 E ro kn j_18 j_19) ms_X11_called wl_X11_318 rfl rfl rfl rfl dX11_call_30) (roK hro) [] [0] rfl rfl rfl rfl (fun r_20 uz hw => ?_)
        refine an1 hw ?_
        clear hw
        intro he_21 hw
        have he_22 := hw
        clear hw
        have he_21 := he_21.symm
        subst he_21
        subst he_22
        refine ww_eq (ws' := [(hx, .inr (11, [.ref h, .ref qp, .int (nI ac), .int (nI np), .ref qs, .ref qj, .ref ly, .ref qh, .ref kk, .int (nI kc), .ref rd, .ref pg, .int (nI pe), .int kn, .ref ss]))]) ?_ rfl rfl rfl
        refine ww_put (ws' := [(hx, .inr (11, [.ref h, .ref qp, .int (nI ac), .int (nI np), .ref qs, .ref qj, .ref ly, .ref qh, .ref kk, .int (nI kc), .ref rd, .ref pg, .int (nI pe), .int (cl kn j_18 j_19), .ref ss]))]) C fp_X11_324 0 rfl rfl rfl rfl rfl dX11_call_33 ?_
        refine ww_aload_n C dX11_call_36 0 rfl rfl ?_
        refine ww_get C fg_X11_324 0 rfl rfl dX11_call_37 ?_
        refine ww_iload_n C dX11_call_40 1 rfl rfl ?_
        refine ww_ci (wr := [(hx, .inr (11, [.ref h, .ref qp, .int (nI ac), .int (nI np), .ref qs, .ref qj, .ref ly, .ref qh, .ref kk, .int (nI kc), .ref rd, .ref pg, .int (nI pe), .int (cl kn j_18 j_19), .ref ss]))]) (k' := 0) (n' := 0) C (run_S (As := [.int (cl kn j_18 j_19), .int (nI j_18)]) (rest := []) C (c_secretsOf X.2.1 E ro (cl kn j_18 j_19) j_18) ms_X11_secretsOf wl_X11_308 rfl rfl rfl rfl dX11_call_41) (roK hro) [] [0] rfl rfl rfl rfl (fun r_23 uz hw => ?_)
        refine an1 hw ?_
        clear hw
        intro he_24 hw
        have he_25 := hw
        clear hw
        have he_24 := he_24.symm
        subst he_24
        subst he_25
        refine ww_eq (ws' := [(hx, .inr (11, [.ref h, .ref qp, .int (nI ac), .int (nI np), .ref qs, .ref qj, .ref ly, .ref qh, .ref kk, .int (nI kc), .ref rd, .ref pg, .int (nI pe), .int (cl kn j_18 j_19), .ref ss]))]) ?_ rfl rfl rfl
        refine ww_ci (wr := [(hx, .inr (11, [.ref h, .ref qp, .int (nI ac), .int (nI np), .ref qs, .ref qj, .ref ly, .ref qh, .ref kk, .int (nI kc), .ref rd, .ref pg, .int (nI pe), .int (cl kn j_18 j_19), .ref ss]))]) (k' := 0) (n' := 0) C (run_S (As := [.int (sc (cl kn j_18 j_19) j_18)]) (rest := []) C (c_bitCount X.2.1 E ro (sc (cl kn j_18 j_19) j_18)) ms_J6_bitCount_0f7a4 wl_X11_330 rfl rfl rfl rfl dX11_call_44) (roK hro) [] [0] rfl rfl rfl rfl (fun r_26 uz hw => ?_)
        refine an1 hw ?_
        clear hw
        intro he_27 hw
        have he_28 := hw
        clear hw
        have he_27 := he_27.symm
        subst he_27
        subst he_28
        refine ww_eq (ws' := [(hx, .inr (11, [.ref h, .ref qp, .int (nI ac), .int (nI np), .ref qs, .ref qj, .ref ly, .ref qh, .ref kk, .int (nI kc), .ref rd, .ref pg, .int (nI pe), .int (cl kn j_18 j_19), .ref ss]))]) ?_ rfl rfl rfl
        exact ww_iret (u := [(hx, .inr (11, [.ref h, .ref qp, .int (nI ac), .int (nI np), .ref qs, .ref qj, .ref ly, .ref qh, .ref kk, .int (nI kc), .ref rd, .ref pg, .int (nI pe), .int (cl kn j_18 j_19), .ref ss]))]) C hT [0] rfl rfl rfl rfl dX11_call_47 (Or.inr ⟨_, _, rfl, rfl, rfl, rfl, (by omega), (by omega), (by omega)⟩)
      · have zc_17 : v0.toInt = v1.toInt := i_eq rfl rfl c_17
        refine ww_iconst (v := (-1)) C dX11_call_21 rfl ?_
        exact ww_iret (u := [(hx, .inr (11, [.ref h, .ref qp, .int (nI ac), .int (nI np), .ref qs, .ref qj, .ref ly, .ref qh, .ref kk, .int (nI kc), .ref rd, .ref pg, .int (nI pe), .int kn, .ref ss]))]) C hT [0] rfl rfl rfl rfl dX11_call_22 (Or.inl ⟨rfl, rfl, (by first | assumption | omega | decide)⟩)
    · refine an2 hw ?_
      clear hw
      intro he_15 he_16 hw
      have h_14 := hw
      clear hw
      have he_15 := he_15.symm
      subst he_15
      subst he_16
      refine ww_eq (ws' := [(hx, .inr (11, [.ref h, .ref qp, .int (nI ac), .int (nI np), .ref qs, .ref qj, .ref ly, .ref qh, .ref kk, .int (nI kc), .ref rd, .ref pg, .int (nI pe), .int kn, .ref ss]))]) ?_ rfl rfl rfl
      refine ww_if_eq_t (tgt := 21) C dX11_call_13 (by decide) (rfl) ?_
      refine ww_iconst (v := (-1)) C dX11_call_21 rfl ?_
      exact ww_iret (u := [(hx, .inr (11, [.ref h, .ref qp, .int (nI ac), .int (nI np), .ref qs, .ref qj, .ref ly, .ref qh, .ref kk, .int (nI kc), .ref rd, .ref pg, .int (nI pe), .int kn, .ref ss]))]) C hT [0] rfl rfl rfl rfl dX11_call_22 (Or.inl ⟨rfl, rfl, (by first | assumption | omega | decide)⟩)
  · refine an2 hw ?_
    clear hw
    intro he_7 he_8 hw
    have h_6 := hw
    clear hw
    have he_7 := he_7.symm
    subst he_7
    subst he_8
    refine ww_eq (ws' := [(hx, .inr (11, [.ref h, .ref qp, .int (nI ac), .int (nI np), .ref qs, .ref qj, .ref ly, .ref qh, .ref kk, .int (nI kc), .ref rd, .ref pg, .int (nI pe), .int kn, .ref ss]))]) ?_ rfl rfl rfl
    refine ww_if_eq_t (tgt := 21) C dX11_call_5 (by decide) (rfl) ?_
    refine ww_iconst (v := (-1)) C dX11_call_21 rfl ?_
    exact ww_iret (u := [(hx, .inr (11, [.ref h, .ref qp, .int (nI ac), .int (nI np), .ref qs, .ref qj, .ref ly, .ref qh, .ref kk, .int (nI kc), .ref rd, .ref pg, .int (nI pe), .int kn, .ref ss]))]) C hT [0] rfl rfl rfl rfl dX11_call_22 (Or.inl ⟨rfl, rfl, (by first | assumption | omega | decide)⟩)
theorem dX11_secrets_0 : decode cX11_secrets 0 = .ok (.aload_n 0, 1) := by decide +kernel
theorem dX11_secrets_1 : decode cX11_secrets 1 = .ok (.iload_n 1, 1) := by decide +kernel
theorem dX11_secrets_2 : decode cX11_secrets 2 = .ok (.invokevirtual 327, 3) := by decide +kernel
theorem dX11_secrets_5 : decode cX11_secrets 5 = .ok (.ifCond .eq 14, 3) := by decide +kernel
theorem dX11_secrets_8 : decode cX11_secrets 8 = .ok (.aload_n 0, 1) := by decide +kernel
theorem dX11_secrets_9 : decode cX11_secrets 9 = .ok (.getfield 324, 3) := by decide +kernel
theorem dX11_secrets_12 : decode cX11_secrets 12 = .ok (.iload_n 1, 1) := by decide +kernel
theorem dX11_secrets_13 : decode cX11_secrets 13 = .ok (.invokestatic 308, 3) := by decide +kernel
theorem dX11_secrets_16 : decode cX11_secrets 16 = .ok (.goto 4, 3) := by decide +kernel
theorem dX11_secrets_20 : decode cX11_secrets 20 = .ok (.ireturn, 1) := by decide +kernel
theorem dX11_secrets_19 : decode cX11_secrets 19 = .ok (.iconst (-1), 1) := by decide +kernel
set_option maxRecDepth 100000 in
set_option maxHeartbeats 4000000 in
theorem x_secrets (l : Launch) (E : EV) (ro : va_W) (hx : Nat) (v0 : Int32) (h : Nat) (qp : Nat) (ac : Nat) (np : Nat) (qs : Nat) (qj : Nat) (ly : Nat) (qh : Nat) (kk : Nat) (kc : Nat) (rd : Nat) (pg : Nat) (pe : Nat) (kn : Int32) (ss : Nat) (hpe : pe ≤ 4) : CT l yX11_secrets (Cond.code yX11_secrets cX11_secrets 2 (some .int) :: TB) ({ frames := 2, cells := 0, slots := 0, locals := 43 }) E ro [.ref hx, .int v0] [(hx, .inr (11, [.ref h, .ref qp, .int (nI ac), .int (nI np), .ref qs, .ref qj, .ref ly, .ref qh, .ref kk, .int (nI kc), .ref rd, .ref pg, .int (nI pe), .int kn, .ref ss]))] (Qi E (fun (rz : Int32) uz => (rz = (-1) ∧ uz = [(hx, .inr (11, [.ref h, .ref qp, .int (nI ac), .int (nI np), .ref qs, .ref qj, .ref ly, .ref qh, .ref kk, .int (nI kc), .ref rd, .ref pg, .int (nI pe), .int kn, .ref ss]))] ∧ (v0.toInt < 0 ∨ (pe : Int) ≤ v0.toInt)) ∨ (∃ (i_ : Nat), rz = (sc kn i_) ∧ uz = [(hx, .inr (11, [.ref h, .ref qp, .int (nI ac), .int (nI np), .ref qs, .ref qj, .ref ly, .ref qh, .ref kk, .int (nI kc), .ref rd, .ref pg, .int (nI pe), .int kn, .ref ss]))] ∧ (v0 = nI i_) ∧ (i_ < pe)))) 0 0 := by
  refine ct_of rfl rfl ?_
  intro X C hT hin hro
  show WW X 2 E 0 [(0, .ref hx), (1, .int v0)] [] [(hx, .inr (11, [.ref h, .ref qp, .int (nI ac), .int (nI np), .ref qs, .ref qj, .ref ly, .ref qh, .ref kk, .int (nI kc), .ref rd, .ref pg, .int (nI pe), .int kn, .ref ss]))] 0 0
  refine ww_aload_n C dX11_secrets_0 0 rfl rfl ?_
  refine ww_iload_n C dX11_secrets_1 1 rfl rfl ?_
  refine ww_ci (wr := []) (k' := 0) (n' := 0) C (run_V (As := [.int v0]) (rest := []) C (x_isPerson X.2.1 E ro hx v0 h qp ac np qs qj ly qh kk kc rd pg pe kn ss (by omega)) mi_X11_isPerson wl_X11_327 rfl 0 11 rfl rfl rfl rfl rfl dX11_secrets_2) (roK hro) [0] [] rfl rfl rfl rfl (fun r_1 uz hw => ?_)
  rcases hw with hw | hw
  · refine an3 hw ?_
    clear hw
    intro he_4 he_5 h_2 hw
    have h_3 := hw
    clear hw
    have he_4 := he_4.symm
    subst he_4
    subst he_5
    refine ww_eq (ws' := [(hx, .inr (11, [.ref h, .ref qp, .int (nI ac), .int (nI np), .ref qs, .ref qj, .ref ly, .ref qh, .ref kk, .int (nI kc), .ref rd, .ref pg, .int (nI pe), .int kn, .ref ss]))]) ?_ rfl rfl rfl
    refine ww_if_eq_f (tgt := 19) C dX11_secrets_5 (by decide) (by decide) ?_
    obtain ⟨j_9, hj_9, rfl⟩ := i_nat (x := v0) (N := 3) (by omega) (by omega)
    have hzj_9 := nI_toInt (n := j_9) (by omega)
    refine ww_aload_n C dX11_secrets_8 0 rfl rfl ?_
    refine ww_get C fg_X11_324 0 rfl rfl dX11_secrets_9 ?_
    refine ww_iload_n C dX11_secrets_12 1 rfl rfl ?_
    refine ww_ci (wr := [(hx, .inr (11, [.ref h, .ref qp, .int (nI ac), .int (nI np), .ref qs, .ref qj, .ref ly, .ref qh, .ref kk, .int (nI kc), .ref rd, .ref pg, .int (nI pe), .int kn, .ref ss]))]) (k' := 0) (n' := 0) C (run_S (As := [.int kn, .int (nI j_9)]) (rest := []) C (c_secretsOf X.2.1 E ro kn j_9) ms_X11_secretsOf wl_X11_308 rfl rfl rfl rfl dX11_secrets_13) (roK hro) [] [0] rfl rfl rfl rfl (fun r_10 uz hw => ?_)
    refine an1 hw ?_
    clear hw
    intro he_11 hw
    have he_12 := hw
    clear hw
    have he_11 := he_11.symm
    subst he_11
    subst he_12
    refine ww_eq (ws' := [(hx, .inr (11, [.ref h, .ref qp, .int (nI ac), .int (nI np), .ref qs, .ref qj, .ref ly, .ref qh, .ref kk, .int (nI kc), .ref rd, .ref pg, .int (nI pe), .int kn, .ref ss]))]) ?_ rfl rfl rfl
    refine ww_goto (tgt := 20) C dX11_secrets_16 (by decide) ?_
    exact ww_iret (u := [(hx, .inr (11, [.ref h, .ref qp, .int (nI ac), .int (nI np), .ref qs, .ref qj, .ref ly, .ref qh, .ref kk, .int (nI kc), .ref rd, .ref pg, .int (nI pe), .int kn, .ref ss]))]) C hT [0] rfl rfl rfl rfl dX11_secrets_20 (Or.inr ⟨_, rfl, rfl, rfl, (by omega)⟩)
  · refine an2 hw ?_
    clear hw
    intro he_7 he_8 hw
    have h_6 := hw
    clear hw
    have he_7 := he_7.symm
    subst he_7
    subst he_8
    refine ww_eq (ws' := [(hx, .inr (11, [.ref h, .ref qp, .int (nI ac), .int (nI np), .ref qs, .ref qj, .ref ly, .ref qh, .ref kk, .int (nI kc), .ref rd, .ref pg, .int (nI pe), .int kn, .ref ss]))]) ?_ rfl rfl rfl
    refine ww_if_eq_t (tgt := 19) C dX11_secrets_5 (by decide) (rfl) ?_
    refine ww_iconst (v := (-1)) C dX11_secrets_19 rfl ?_
    exact ww_iret (u := [(hx, .inr (11, [.ref h, .ref qp, .int (nI ac), .int (nI np), .ref qs, .ref qj, .ref ly, .ref qh, .ref kk, .int (nI kc), .ref rd, .ref pg, .int (nI pe), .int kn, .ref ss]))]) C hT [0] rfl rfl rfl rfl dX11_secrets_20 (Or.inl ⟨rfl, rfl, (by first | assumption | omega | decide)⟩)
theorem dX11_fewest_0 : decode cX11_fewest 0 = .ok (.iload_n 1, 1) := by decide +kernel
theorem dX11_fewest_1 : decode cX11_fewest 1 = .ok (.iconst 0, 1) := by decide +kernel
theorem dX11_fewest_2 : decode cX11_fewest 2 = .ok (.iconst 1, 1) := by decide +kernel
theorem dX11_fewest_3 : decode cX11_fewest 3 = .ok (.invokestatic 76, 3) := by decide +kernel
theorem dX11_fewest_6 : decode cX11_fewest 6 = .ok (.ifCond .ne 5, 3) := by decide +kernel
theorem dX11_fewest_11 : decode cX11_fewest 11 = .ok (.aload_n 0, 1) := by decide +kernel
theorem dX11_fewest_12 : decode cX11_fewest 12 = .ok (.getfield 106, 3) := by decide +kernel
theorem dX11_fewest_15 : decode cX11_fewest 15 = .ok (.ifCond .ne 6, 3) := by decide +kernel
theorem dX11_fewest_21 : decode cX11_fewest 21 = .ok (.iconst 0, 1) := by decide +kernel
theorem dX11_fewest_22 : decode cX11_fewest 22 = .ok (.istore_n 2, 1) := by decide +kernel
theorem dX11_fewest_23 : decode cX11_fewest 23 = .ok (.iload_n 2, 1) := by decide +kernel
theorem dX11_fewest_24 : decode cX11_fewest 24 = .ok (.iconst 4, 1) := by decide +kernel
theorem dX11_fewest_25 : decode cX11_fewest 25 = .ok (.if_icmp .ge 24, 3) := by decide +kernel
theorem dX11_fewest_49 : decode cX11_fewest 49 = .ok (.iload_n 1, 1) := by decide +kernel
theorem dX11_fewest_50 : decode cX11_fewest 50 = .ok (.ifCond .ne 5, 3) := by decide +kernel
theorem dX11_fewest_55 : decode cX11_fewest 55 = .ok (.iload_n 2, 1) := by decide +kernel
theorem dX11_fewest_56 : decode cX11_fewest 56 = .ok (.ifCond .ne 8, 3) := by decide +kernel
theorem dX11_fewest_59 : decode cX11_fewest 59 = .ok (.bipush (-4), 2) := by decide +kernel
theorem dX11_fewest_61 : decode cX11_fewest 61 = .ok (.goto 15, 3) := by decide +kernel
theorem dX11_fewest_76 : decode cX11_fewest 76 = .ok (.ireturn, 1) := by decide +kernel
theorem dX11_fewest_64 : decode cX11_fewest 64 = .ok (.aload_n 0, 1) := by decide +kernel
theorem dX11_fewest_65 : decode cX11_fewest 65 = .ok (.getfield 324, 3) := by decide +kernel
theorem dX11_fewest_68 : decode cX11_fewest 68 = .ok (.aload_n 0, 1) := by decide +kernel
theorem dX11_fewest_69 : decode cX11_fewest 69 = .ok (.getfield 106, 3) := by decide +kernel
theorem dX11_fewest_72 : decode cX11_fewest 72 = .ok (.iload_n 2, 1) := by decide +kernel
theorem dX11_fewest_73 : decode cX11_fewest 73 = .ok (.invokestatic 314, 3) := by decide +kernel
theorem dX11_fewest_53 : decode cX11_fewest 53 = .ok (.iload_n 2, 1) := by decide +kernel
theorem dX11_fewest_54 : decode cX11_fewest 54 = .ok (.ireturn, 1) := by decide +kernel
theorem dX11_fewest_28 : decode cX11_fewest 28 = .ok (.aload_n 0, 1) := by decide +kernel
theorem dX11_fewest_29 : decode cX11_fewest 29 = .ok (.getfield 324, 3) := by decide +kernel
theorem dX11_fewest_32 : decode cX11_fewest 32 = .ok (.aload_n 0, 1) := by decide +kernel
theorem dX11_fewest_33 : decode cX11_fewest 33 = .ok (.getfield 106, 3) := by decide +kernel
theorem dX11_fewest_36 : decode cX11_fewest 36 = .ok (.iload_n 2, 1) := by decide +kernel
theorem dX11_fewest_37 : decode cX11_fewest 37 = .ok (.invokestatic 321, 3) := by decide +kernel
theorem dX11_fewest_40 : decode cX11_fewest 40 = .ok (.ifCond .ne 9, 3) := by decide +kernel
theorem dX11_fewest_43 : decode cX11_fewest 43 = .ok (.iinc 2 1, 3) := by decide +kernel
theorem dX11_fewest_46 : decode cX11_fewest 46 = .ok (.goto (-23), 3) := by decide +kernel
theorem dX11_fewest_18 : decode cX11_fewest 18 = .ok (.bipush (-2), 2) := by decide +kernel
theorem dX11_fewest_20 : decode cX11_fewest 20 = .ok (.ireturn, 1) := by decide +kernel
theorem dX11_fewest_9 : decode cX11_fewest 9 = .ok (.iconst (-1), 1) := by decide +kernel
theorem dX11_fewest_10 : decode cX11_fewest 10 = .ok (.ireturn, 1) := by decide +kernel
set_option maxRecDepth 100000 in
set_option maxHeartbeats 4000000 in
theorem x_fewest (l : Launch) (E : EV) (ro : va_W) (hx : Nat) (v0 : Int32) (h : Nat) (qp : Nat) (ac : Nat) (np : Nat) (qs : Nat) (qj : Nat) (ly : Nat) (qh : Nat) (kk : Nat) (kc : Nat) (rd : Nat) (pg : Nat) (pe : Nat) (kn : Int32) (ss : Nat) (hpe : pe ≤ 4) : CT l yX11_fewest (Cond.code yX11_fewest cX11_fewest 3 (some .int) :: TB) ({ frames := 10, cells := 0, slots := 0, locals := 227 }) E ro [.ref hx, .int v0] [(hx, .inr (11, [.ref h, .ref qp, .int (nI ac), .int (nI np), .ref qs, .ref qj, .ref ly, .ref qh, .ref kk, .int (nI kc), .ref rd, .ref pg, .int (nI pe), .int kn, .ref ss]))] (Qi E (fun (rz : Int32) uz => (uz = [(hx, .inr (11, [.ref h, .ref qp, .int (nI ac), .int (nI np), .ref qs, .ref qj, .ref ly, .ref qh, .ref kk, .int (nI kc), .ref rd, .ref pg, .int (nI pe), .int kn, .ref ss]))]))) 0 0 := by
  refine ct_of rfl rfl ?_
  intro X C hT hin hro
  show WW X 3 E 0 [(0, .ref hx), (1, .int v0)] [] [(hx, .inr (11, [.ref h, .ref qp, .int (nI ac), .int (nI np), .ref qs, .ref qj, .ref ly, .ref qh, .ref kk, .int (nI kc), .ref rd, .ref pg, .int (nI pe), .int kn, .ref ss]))] 0 0
  refine ww_iload_n C dX11_fewest_0 1 rfl rfl ?_
  refine ww_iconst (v := 0) C dX11_fewest_1 rfl ?_
  refine ww_iconst (v := 1) C dX11_fewest_2 rfl ?_
  refine ww_ci (wr := [(hx, .inr (11, [.ref h, .ref qp, .int (nI ac), .int (nI np), .ref qs, .ref qj, .ref ly, .ref qh, .ref kk, .int (nI kc), .ref rd, .ref pg, .int (nI pe), .int kn, .ref ss]))]) (k' := 0) (n' := 0) C (run_S (As := [.int v0, .int 0, .int 1]) (rest := []) C (c_within X.2.1 E ro v0 0 1 v0.toInt 0 1 rfl rfl rfl) ms_X11_within wl_X11_76 rfl rfl rfl rfl dX11_fewest_3) (roK hro) [] [0] rfl rfl rfl rfl (fun r_1 uz hw => ?_)
  rcases hw with hw | hw
  · refine an3 hw ?_
    clear hw
    intro he_4 he_5 h_2 hw
    have h_3 := hw
    clear hw
    have he_4 := he_4.symm
    subst he_4
    subst he_5
    refine ww_eq (ws' := [(hx, .inr (11, [.ref h, .ref qp, .int (nI ac), .int (nI np), .ref qs, .ref qj, .ref ly, .ref qh, .ref kk, .int (nI kc), .ref rd, .ref pg, .int (nI pe), .int kn, .ref ss]))]) ?_ rfl rfl rfl
    refine ww_if_ne_t (tgt := 11) C dX11_fewest_6 (by decide) (by decide) ?_
    refine ww_aload_n C dX11_fewest_11 0 rfl rfl ?_
    refine ww_get C fg_X11_106 0 rfl rfl dX11_fewest_12 ?_
    refine ww_if_ne (tgt := 21) C dX11_fewest_15 (by decide) (fun c_9 => ?_) (fun c_9 => ?_)
    · have zc_9 : ((pe : Nat) : Int) ≠ 0 := i_ne (nI_toInt (n := pe) (by omega)) rfl c_9
      refine ww_iconst (v := 0) C dX11_fewest_21 rfl ?_
      refine ww_istore_n (lv' := [(2, .int 0), (0, .ref hx), (1, .int v0)]) C dX11_fewest_22 rfl rfl rfl ?_
      have loop_23 : ∀ (fu : Nat) (i1 : Nat), (i1 ≤ 4) → 4 - i1 < fu → WW X 3 E 23 [(2, .int (nI i1)), (0, .ref hx), (1, .int v0)] [] [(hx, .inr (11, [.ref h, .ref qp, .int (nI ac), .int (nI np), .ref qs, .ref qj, .ref ly, .ref qh, .ref kk, .int (nI kc), .ref rd, .ref pg, .int (nI pe), .int kn, .ref ss]))] 0 0 := by
        intro fu
        induction fu with
        | zero => intro i1 hi1 hmeas; exact absurd hmeas (Nat.not_lt_zero _)
        | succ fu ih_23 =>
          intro i1 hi1 hmeas
          refine ww_iload_n C dX11_fewest_23 0 rfl rfl ?_
          refine ww_iconst (v := 4) C dX11_fewest_24 rfl ?_
          refine ww_icmp_ge (tgt := 49) C dX11_fewest_25 (by decide) (fun c_10 => ?_) (fun c_10 => ?_)
          · have zc_10 : ((i1 : Nat) : Int) ≥ 4 := i_le rfl (nI_toInt (n := i1) (by omega)) c_10
            refine ww_iload_n C dX11_fewest_49 2 rfl rfl ?_
            refine ww_if_ne (tgt := 55) C dX11_fewest_50 (by decide) (fun c_11 => ?_) (fun c_11 => ?_)
            · have zc_11 : v0.toInt ≠ 0 := i_ne rfl rfl c_11
              rcases (show i1 = 0 ∨ i1 = 1 ∨ i1 = 2 ∨ i1 = 3 ∨ i1 = 4 by omega) with rfl | rfl | rfl | rfl | rfl
              · refine ww_iload_n C dX11_fewest_55 0 rfl rfl ?_
                refine ww_if_ne_f (tgt := 64) C dX11_fewest_56 (by decide) (rfl) ?_
                refine ww_bipush (v := (-4)) C dX11_fewest_59 rfl ?_
                refine ww_goto (tgt := 76) C dX11_fewest_61 (by decide) ?_
                exact ww_iret (u := [(hx, .inr (11, [.ref h, .ref qp, .int (nI ac), .int (nI np), .ref qs, .ref qj, .ref ly, .ref qh, .ref kk, .int (nI kc), .ref rd, .ref pg, .int (nI pe), .int kn, .ref ss]))]) C hT [0] rfl rfl rfl rfl dX11_fewest_76 (rfl)
              · refine ww_iload_n C dX11_fewest_55 0 rfl rfl ?_
                refine ww_if_ne_t (tgt := 64) C dX11_fewest_56 (by decide) (by decide) ?_
                refine ww_aload_n C dX11_fewest_64 1 rfl rfl ?_
                refine ww_get C fg_X11_324 0 rfl rfl dX11_fewest_65 ?_
                refine ww_aload_n C dX11_fewest_68 1 rfl rfl ?_
                refine ww_get C fg_X11_106 0 rfl rfl dX11_fewest_69 ?_
                refine ww_iload_n C dX11_fewest_72 0 rfl rfl ?_
                refine ww_ci (wr := [(hx, .inr (11, [.ref h, .ref qp, .int (nI ac), .int (nI np), .ref qs, .ref qj, .ref ly, .ref qh, .ref kk, .int (nI kc), .ref rd, .ref pg, .int (nI pe), .int kn, .ref ss]))]) (k' := 0) (n' := 0) C (run_S (As := [.int kn, .int (nI pe), .int 1]) (rest := []) C (c_firstCall1 X.2.1 E ro kn pe (by omega)) ms_X11_firstCall wl_X11_314 rfl rfl rfl rfl dX11_fewest_73) (roK hro) [] [0] rfl rfl rfl rfl (fun r_12 uz hw => ?_)
                have he_13 := hw
                clear hw
                subst he_13
                refine ww_eq (ws' := [(hx, .inr (11, [.ref h, .ref qp, .int (nI ac), .int (nI np), .ref qs, .ref qj, .ref ly, .ref qh, .ref kk, .int (nI kc), .ref rd, .ref pg, .int (nI pe), .int kn, .ref ss]))]) ?_ rfl rfl rfl
                exact ww_iret (u := [(hx, .inr (11, [.ref h, .ref qp, .int (nI ac), .int (nI np), .ref qs, .ref qj, .ref ly, .ref qh, .ref kk, .int (nI kc), .ref rd, .ref pg, .int (nI pe), .int kn, .ref ss]))]) C hT [0] rfl rfl rfl rfl dX11_fewest_76 (rfl)
              · refine ww_iload_n C dX11_fewest_55 0 rfl rfl ?_
                refine ww_if_ne_t (tgt := 64) C dX11_fewest_56 (by decide) (by decide) ?_
                refine ww_aload_n C dX11_fewest_64 1 rfl rfl ?_
                refine ww_get C fg_X11_324 0 rfl rfl dX11_fewest_65 ?_
                refine ww_aload_n C dX11_fewest_68 1 rfl rfl ?_
                refine ww_get C fg_X11_106 0 rfl rfl dX11_fewest_69 ?_
                refine ww_iload_n C dX11_fewest_72 0 rfl rfl ?_
                refine ww_ci (wr := [(hx, .inr (11, [.ref h, .ref qp, .int (nI ac), .int (nI np), .ref qs, .ref qj, .ref ly, .ref qh, .ref kk, .int (nI kc), .ref rd, .ref pg, .int (nI pe), .int kn, .ref ss]))]) (k' := 0) (n' := 0) C (run_S (As := [.int kn, .int (nI pe), .int 2]) (rest := []) C (c_firstCall2 X.2.1 E ro kn pe (by omega)) ms_X11_firstCall wl_X11_314 rfl rfl rfl rfl dX11_fewest_73) (roK hro) [] [0] rfl rfl rfl rfl (fun r_14 uz hw => ?_)
                have he_15 := hw
                clear hw
                subst he_15
                refine ww_eq (ws' := [(hx, .inr (11, [.ref h, .ref qp, .int (nI ac), .int (nI np), .ref qs, .ref qj, .ref ly, .ref qh, .ref kk, .int (nI kc), .ref rd, .ref pg, .int (nI pe), .int kn, .ref ss]))]) ?_ rfl rfl rfl
                exact ww_iret (u := [(hx, .inr (11, [.ref h, .ref qp, .int (nI ac), .int (nI np), .ref qs, .ref qj, .ref ly, .ref qh, .ref kk, .int (nI kc), .ref rd, .ref pg, .int (nI pe), .int kn, .ref ss]))]) C hT [0] rfl rfl rfl rfl dX11_fewest_76 (rfl)
              · refine ww_iload_n C dX11_fewest_55 0 rfl rfl ?_
                refine ww_if_ne_t (tgt := 64) C dX11_fewest_56 (by decide) (by decide) ?_
                refine ww_aload_n C dX11_fewest_64 1 rfl rfl ?_
                refine ww_get C fg_X11_324 0 rfl rfl dX11_fewest_65 ?_
                refine ww_aload_n C dX11_fewest_68 1 rfl rfl ?_
                refine ww_get C fg_X11_106 0 rfl rfl dX11_fewest_69 ?_
                refine ww_iload_n C dX11_fewest_72 0 rfl rfl ?_
                refine ww_ci (wr := [(hx, .inr (11, [.ref h, .ref qp, .int (nI ac), .int (nI np), .ref qs, .ref qj, .ref ly, .ref qh, .ref kk, .int (nI kc), .ref rd, .ref pg, .int (nI pe), .int kn, .ref ss]))]) (k' := 0) (n' := 0) C (run_S (As := [.int kn, .int (nI pe), .int 3]) (rest := []) C (c_firstCall3 X.2.1 E ro kn pe (by omega)) ms_X11_firstCall wl_X11_314 rfl rfl rfl rfl dX11_fewest_73) (roK hro) [] [0] rfl rfl rfl rfl (fun r_16 uz hw => ?_)
                have he_17 := hw
                clear hw
                subst he_17
                refine ww_eq (ws' := [(hx, .inr (11, [.ref h, .ref qp, .int (nI ac), .int (nI np), .ref qs, .ref qj, .ref ly, .ref qh, .ref kk, .int (nI kc), .ref rd, .ref pg, .int (nI pe), .int kn, .ref ss]))]) ?_ rfl rfl rfl
                exact ww_iret (u := [(hx, .inr (11, [.ref h, .ref qp, .int (nI ac), .int (nI np), .ref qs, .ref qj, .ref ly, .ref qh, .ref kk, .int (nI kc), .ref rd, .ref pg, .int (nI pe), .int kn, .ref ss]))]) C hT [0] rfl rfl rfl rfl dX11_fewest_76 (rfl)
              · refine ww_iload_n C dX11_fewest_55 0 rfl rfl ?_
                refine ww_if_ne_t (tgt := 64) C dX11_fewest_56 (by decide) (by decide) ?_
                refine ww_aload_n C dX11_fewest_64 1 rfl rfl ?_
                refine ww_get C fg_X11_324 0 rfl rfl dX11_fewest_65 ?_
                refine ww_aload_n C dX11_fewest_68 1 rfl rfl ?_
                refine ww_get C fg_X11_106 0 rfl rfl dX11_fewest_69 ?_
                refine ww_iload_n C dX11_fewest_72 0 rfl rfl ?_
                refine ww_ci (wr := [(hx, .inr (11, [.ref h, .ref qp, .int (nI ac), .int (nI np), .ref qs, .ref qj, .ref ly, .ref qh, .ref kk, .int (nI kc), .ref rd, .ref pg, .int (nI pe), .int kn, .ref ss]))]) (k' := 0) (n' := 0) C (run_S (As := [.int kn, .int (nI pe), .int 4]) (rest := []) C (c_firstCall4 X.2.1 E ro kn pe (by omega)) ms_X11_firstCall wl_X11_314 rfl rfl rfl rfl dX11_fewest_73) (roK hro) [] [0] rfl rfl rfl rfl (fun r_18 uz hw => ?_)
                have he_19 := hw
                clear hw
                subst he_19
                refine ww_eq (ws' := [(hx, .inr (11, [.ref h, .ref qp, .int (nI ac), .int (nI np), .ref qs, .ref qj, .ref ly, .ref qh, .ref kk, .int (nI kc), .ref rd, .ref pg, .int (nI pe), .int kn, .ref ss]))]) ?_ rfl rfl rfl
                exact ww_iret (u := [(hx, .inr (11, [.ref h, .ref qp, .int (nI ac), .int (nI np), .ref qs, .ref qj, .ref ly, .ref qh, .ref kk, .int (nI kc), .ref rd, .ref pg, .int (nI pe), .int kn, .ref ss]))]) C hT [0] rfl rfl rfl rfl dX11_fewest_76 (rfl)
            · have zc_11 : v0.toInt = 0 := i_eq rfl rfl c_11
              refine ww_iload_n C dX11_fewest_53 0 rfl rfl ?_
              exact ww_iret (u := [(hx, .inr (11, [.ref h, .ref qp, .int (nI ac), .int (nI np), .ref qs, .ref qj, .ref ly, .ref qh, .ref kk, .int (nI kc), .ref rd, .ref pg, .int (nI pe), .int kn, .ref ss]))]) C hT [0] rfl rfl rfl rfl dX11_fewest_54 (rfl)
          · have zc_10 : ((i1 : Nat) : Int) < 4 := i_nle rfl (nI_toInt (n := i1) (by omega)) c_10
            rcases (show i1 = 0 ∨ i1 = 1 ∨ i1 = 2 ∨ i1 = 3 by omega) with rfl | rfl | rfl | rfl
            · refine ww_aload_n C dX11_fewest_28 1 rfl rfl ?_
              refine ww_get C fg_X11_324 0 rfl rfl dX11_fewest_29 ?_
              refine ww_aload_n C dX11_fewest_32 1 rfl rfl ?_
              refine ww_get C fg_X11_106 0 rfl rfl dX11_fewest_33 ?_
              refine ww_iload_n C dX11_fewest_36 0 rfl rfl ?_
              refine ww_ci (wr := [(hx, .inr (11, [.ref h, .ref qp, .int (nI ac), .int (nI np), .ref qs, .ref qj, .ref ly, .ref qh, .ref kk, .int (nI kc), .ref rd, .ref pg, .int (nI pe), .int kn, .ref ss]))]) (k' := 0) (n' := 0) C (run_S (As := [.int kn, .int (nI pe), .int 0]) (rest := []) C (c_canEnd0 X.2.1 E ro kn pe (by omega)) ms_X11_canEnd wl_X11_321 rfl rfl rfl rfl dX11_fewest_37) (roK hro) [] [0] rfl rfl rfl rfl (fun r_20 uz hw => ?_)
              rcases hw with hw | hw
              · refine an1 hw ?_
                clear hw
                intro he_21 hw
                have he_22 := hw
                clear hw
                have he_21 := he_21.symm
                subst he_21
                subst he_22
                refine ww_eq (ws' := [(hx, .inr (11, [.ref h, .ref qp, .int (nI ac), .int (nI np), .ref qs, .ref qj, .ref ly, .ref qh, .ref kk, .int (nI kc), .ref rd, .ref pg, .int (nI pe), .int kn, .ref ss]))]) ?_ rfl rfl rfl
                refine ww_if_ne_t (tgt := 49) C dX11_fewest_40 (by decide) (by decide) ?_
                refine ww_iload_n C dX11_fewest_49 2 rfl rfl ?_
                refine ww_if_ne (tgt := 55) C dX11_fewest_50 (by decide) (fun c_25 => ?_) (fun c_25 => ?_)
                · have zc_25 : v0.toInt ≠ 0 := i_ne rfl rfl c_25
                  refine ww_iload_n C dX11_fewest_55 0 rfl rfl ?_
                  refine ww_if_ne_f (tgt := 64) C dX11_fewest_56 (by decide) (rfl) ?_
                  refine ww_bipush (v := (-4)) C dX11_fewest_59 rfl ?_
                  refine ww_goto (tgt := 76) C dX11_fewest_61 (by decide) ?_
                  exact ww_iret (u := [(hx, .inr (11, [.ref h, .ref qp, .int (nI ac), .int (nI np), .ref qs, .ref qj, .ref ly, .ref qh, .ref kk, .int (nI kc), .ref rd, .ref pg, .int (nI pe), .int kn, .ref ss]))]) C hT [0] rfl rfl rfl rfl dX11_fewest_76 (rfl)
                · have zc_25 : v0.toInt = 0 := i_eq rfl rfl c_25
                  refine ww_iload_n C dX11_fewest_53 0 rfl rfl ?_
                  exact ww_iret (u := [(hx, .inr (11, [.ref h, .ref qp, .int (nI ac), .int (nI np), .ref qs, .ref qj, .ref ly, .ref qh, .ref kk, .int (nI kc), .ref rd, .ref pg, .int (nI pe), .int kn, .ref ss]))]) C hT [0] rfl rfl rfl rfl dX11_fewest_54 (rfl)
              · refine an1 hw ?_
                clear hw
                intro he_23 hw
                have he_24 := hw
                clear hw
                have he_23 := he_23.symm
                subst he_23
                subst he_24
                refine ww_eq (ws' := [(hx, .inr (11, [.ref h, .ref qp, .int (nI ac), .int (nI np), .ref qs, .ref qj, .ref ly, .ref qh, .ref kk, .int (nI kc), .ref rd, .ref pg, .int (nI pe), .int kn, .ref ss]))]) ?_ rfl rfl rfl
                refine ww_if_ne_f (tgt := 49) C dX11_fewest_40 (by decide) (rfl) ?_
                refine ww_iinc (j := 0) (v := 1) (lv' := [(2, .int 1), (0, .ref hx), (1, .int v0)]) C dX11_fewest_43 rfl rfl rfl rfl ?_
                refine ww_goto (tgt := 23) C dX11_fewest_46 (by decide) ?_
                exact ww_lv [0, 1, 2] rfl (ww_sub [0] rfl rfl (ih_23 1 (by omega) (by omega)))
            · refine ww_aload_n C dX11_fewest_28 1 rfl rfl ?_
              refine ww_get C fg_X11_324 0 rfl rfl dX11_fewest_29 ?_
              refine ww_aload_n C dX11_fewest_32 1 rfl rfl ?_
              refine ww_get C fg_X11_106 0 rfl rfl dX11_fewest_33 ?_
              refine ww_iload_n C dX11_fewest_36 0 rfl rfl ?_
              refine ww_ci (wr := [(hx, .inr (11, [.ref h, .ref qp, .int (nI ac), .int (nI np), .ref qs, .ref qj, .ref ly, .ref qh, .ref kk, .int (nI kc), .ref rd, .ref pg, .int (nI pe), .int kn, .ref ss]))]) (k' := 0) (n' := 0) C (run_S (As := [.int kn, .int (nI pe), .int 1]) (rest := []) C (c_canEnd1 X.2.1 E ro kn pe (by omega)) ms_X11_canEnd wl_X11_321 rfl rfl rfl rfl dX11_fewest_37) (roK hro) [] [0] rfl rfl rfl rfl (fun r_26 uz hw => ?_)
              rcases hw with hw | hw
              · refine an1 hw ?_
                clear hw
                intro he_27 hw
                have he_28 := hw
                clear hw
                have he_27 := he_27.symm
                subst he_27
                subst he_28
                refine ww_eq (ws' := [(hx, .inr (11, [.ref h, .ref qp, .int (nI ac), .int (nI np), .ref qs, .ref qj, .ref ly, .ref qh, .ref kk, .int (nI kc), .ref rd, .ref pg, .int (nI pe), .int kn, .ref ss]))]) ?_ rfl rfl rfl
                refine ww_if_ne_t (tgt := 49) C dX11_fewest_40 (by decide) (by decide) ?_
                refine ww_iload_n C dX11_fewest_49 2 rfl rfl ?_
                refine ww_if_ne (tgt := 55) C dX11_fewest_50 (by decide) (fun c_31 => ?_) (fun c_31 => ?_)
                · have zc_31 : v0.toInt ≠ 0 := i_ne rfl rfl c_31
                  refine ww_iload_n C dX11_fewest_55 0 rfl rfl ?_
                  refine ww_if_ne_t (tgt := 64) C dX11_fewest_56 (by decide) (by decide) ?_
                  refine ww_aload_n C dX11_fewest_64 1 rfl rfl ?_
                  refine ww_get C fg_X11_324 0 rfl rfl dX11_fewest_65 ?_
                  refine ww_aload_n C dX11_fewest_68 1 rfl rfl ?_
                  refine ww_get C fg_X11_106 0 rfl rfl dX11_fewest_69 ?_
                  refine ww_iload_n C dX11_fewest_72 0 rfl rfl ?_
                  refine ww_ci (wr := [(hx, .inr (11, [.ref h, .ref qp, .int (nI ac), .int (nI np), .ref qs, .ref qj, .ref ly, .ref qh, .ref kk, .int (nI kc), .ref rd, .ref pg, .int (nI pe), .int kn, .ref ss]))]) (k' := 0) (n' := 0) C (run_S (As := [.int kn, .int (nI pe), .int 1]) (rest := []) C (c_firstCall1 X.2.1 E ro kn pe (by omega)) ms_X11_firstCall wl_X11_314 rfl rfl rfl rfl dX11_fewest_73) (roK hro) [] [0] rfl rfl rfl rfl (fun r_32 uz hw => ?_)
                  have he_33 := hw
                  clear hw
                  subst he_33
                  refine ww_eq (ws' := [(hx, .inr (11, [.ref h, .ref qp, .int (nI ac), .int (nI np), .ref qs, .ref qj, .ref ly, .ref qh, .ref kk, .int (nI kc), .ref rd, .ref pg, .int (nI pe), .int kn, .ref ss]))]) ?_ rfl rfl rfl
                  exact ww_iret (u := [(hx, .inr (11, [.ref h, .ref qp, .int (nI ac), .int (nI np), .ref qs, .ref qj, .ref ly, .ref qh, .ref kk, .int (nI kc), .ref rd, .ref pg, .int (nI pe), .int kn, .ref ss]))]) C hT [0] rfl rfl rfl rfl dX11_fewest_76 (rfl)
                · have zc_31 : v0.toInt = 0 := i_eq rfl rfl c_31
                  refine ww_iload_n C dX11_fewest_53 0 rfl rfl ?_
                  exact ww_iret (u := [(hx, .inr (11, [.ref h, .ref qp, .int (nI ac), .int (nI np), .ref qs, .ref qj, .ref ly, .ref qh, .ref kk, .int (nI kc), .ref rd, .ref pg, .int (nI pe), .int kn, .ref ss]))]) C hT [0] rfl rfl rfl rfl dX11_fewest_54 (rfl)
              · refine an1 hw ?_
                clear hw
                intro he_29 hw
                have he_30 := hw
                clear hw
                have he_29 := he_29.symm
                subst he_29
                subst he_30
                refine ww_eq (ws' := [(hx, .inr (11, [.ref h, .ref qp, .int (nI ac), .int (nI np), .ref qs, .ref qj, .ref ly, .ref qh, .ref kk, .int (nI kc), .ref rd, .ref pg, .int (nI pe), .int kn, .ref ss]))]) ?_ rfl rfl rfl
                refine ww_if_ne_f (tgt := 49) C dX11_fewest_40 (by decide) (rfl) ?_
                refine ww_iinc (j := 0) (v := 2) (lv' := [(2, .int 2), (0, .ref hx), (1, .int v0)]) C dX11_fewest_43 rfl rfl rfl rfl ?_
                refine ww_goto (tgt := 23) C dX11_fewest_46 (by decide) ?_
                exact ww_lv [0, 1, 2] rfl (ww_sub [0] rfl rfl (ih_23 2 (by omega) (by omega)))
            · refine ww_aload_n C dX11_fewest_28 1 rfl rfl ?_
              refine ww_get C fg_X11_324 0 rfl rfl dX11_fewest_29 ?_
              refine ww_aload_n C dX11_fewest_32 1 rfl rfl ?_
              refine ww_get C fg_X11_106 0 rfl rfl dX11_fewest_33 ?_
              refine ww_iload_n C dX11_fewest_36 0 rfl rfl ?_
              refine ww_ci (wr := [(hx, .inr (11, [.ref h, .ref qp, .int (nI ac), .int (nI np), .ref qs, .ref qj, .ref ly, .ref qh, .ref kk, .int (nI kc), .ref rd, .ref pg, .int (nI pe), .int kn, .ref ss]))]) (k' := 0) (n' := 0) C (run_S (As := [.int kn, .int (nI pe), .int 2]) (rest := []) C (c_canEnd2 X.2.1 E ro kn pe (by omega)) ms_X11_canEnd wl_X11_321 rfl rfl rfl rfl dX11_fewest_37) (roK hro) [] [0] rfl rfl rfl rfl (fun r_34 uz hw => ?_)
              rcases hw with hw | hw
              · refine an1 hw ?_
                clear hw
                intro he_35 hw
                have he_36 := hw
                clear hw
                have he_35 := he_35.symm
                subst he_35
                subst he_36
                refine ww_eq (ws' := [(hx, .inr (11, [.ref h, .ref qp, .int (nI ac), .int (nI np), .ref qs, .ref qj, .ref ly, .ref qh, .ref kk, .int (nI kc), .ref rd, .ref pg, .int (nI pe), .int kn, .ref ss]))]) ?_ rfl rfl rfl
                refine ww_if_ne_t (tgt := 49) C dX11_fewest_40 (by decide) (by decide) ?_
                refine ww_iload_n C dX11_fewest_49 2 rfl rfl ?_
                refine ww_if_ne (tgt := 55) C dX11_fewest_50 (by decide) (fun c_39 => ?_) (fun c_39 => ?_)
                · have zc_39 : v0.toInt ≠ 0 := i_ne rfl rfl c_39
                  refine ww_iload_n C dX11_fewest_55 0 rfl rfl ?_
                  refine ww_if_ne_t (tgt := 64) C dX11_fewest_56 (by decide) (by decide) ?_
                  refine ww_aload_n C dX11_fewest_64 1 rfl rfl ?_
                  refine ww_get C fg_X11_324 0 rfl rfl dX11_fewest_65 ?_
                  refine ww_aload_n C dX11_fewest_68 1 rfl rfl ?_
                  refine ww_get C fg_X11_106 0 rfl rfl dX11_fewest_69 ?_
                  refine ww_iload_n C dX11_fewest_72 0 rfl rfl ?_
                  refine ww_ci (wr := [(hx, .inr (11, [.ref h, .ref qp, .int (nI ac), .int (nI np), .ref qs, .ref qj, .ref ly, .ref qh, .ref kk, .int (nI kc), .ref rd, .ref pg, .int (nI pe), .int kn, .ref ss]))]) (k' := 0) (n' := 0) C (run_S (As := [.int kn, .int (nI pe), .int 2]) (rest := []) C (c_firstCall2 X.2.1 E ro kn pe (by omega)) ms_X11_firstCall wl_X11_314 rfl rfl rfl rfl dX11_fewest_73) (roK hro) [] [0] rfl rfl rfl rfl (fun r_40 uz hw => ?_)
                  have he_41 := hw
                  clear hw
                  subst he_41
                  refine ww_eq (ws' := [(hx, .inr (11, [.ref h, .ref qp, .int (nI ac), .int (nI np), .ref qs, .ref qj, .ref ly, .ref qh, .ref kk, .int (nI kc), .ref rd, .ref pg, .int (nI pe), .int kn, .ref ss]))]) ?_ rfl rfl rfl
                  exact ww_iret (u := [(hx, .inr (11, [.ref h, .ref qp, .int (nI ac), .int (nI np), .ref qs, .ref qj, .ref ly, .ref qh, .ref kk, .int (nI kc), .ref rd, .ref pg, .int (nI pe), .int kn, .ref ss]))]) C hT [0] rfl rfl rfl rfl dX11_fewest_76 (rfl)
                · have zc_39 : v0.toInt = 0 := i_eq rfl rfl c_39
                  refine ww_iload_n C dX11_fewest_53 0 rfl rfl ?_
                  exact ww_iret (u := [(hx, .inr (11, [.ref h, .ref qp, .int (nI ac), .int (nI np), .ref qs, .ref qj, .ref ly, .ref qh, .ref kk, .int (nI kc), .ref rd, .ref pg, .int (nI pe), .int kn, .ref ss]))]) C hT [0] rfl rfl rfl rfl dX11_fewest_54 (rfl)
              · refine an1 hw ?_
                clear hw
                intro he_37 hw
                have he_38 := hw
                clear hw
                have he_37 := he_37.symm
                subst he_37
                subst he_38
                refine ww_eq (ws' := [(hx, .inr (11, [.ref h, .ref qp, .int (nI ac), .int (nI np), .ref qs, .ref qj, .ref ly, .ref qh, .ref kk, .int (nI kc), .ref rd, .ref pg, .int (nI pe), .int kn, .ref ss]))]) ?_ rfl rfl rfl
                refine ww_if_ne_f (tgt := 49) C dX11_fewest_40 (by decide) (rfl) ?_
                refine ww_iinc (j := 0) (v := 3) (lv' := [(2, .int 3), (0, .ref hx), (1, .int v0)]) C dX11_fewest_43 rfl rfl rfl rfl ?_
                refine ww_goto (tgt := 23) C dX11_fewest_46 (by decide) ?_
                exact ww_lv [0, 1, 2] rfl (ww_sub [0] rfl rfl (ih_23 3 (by omega) (by omega)))
            · refine ww_aload_n C dX11_fewest_28 1 rfl rfl ?_
              refine ww_get C fg_X11_324 0 rfl rfl dX11_fewest_29 ?_
              refine ww_aload_n C dX11_fewest_32 1 rfl rfl ?_
              refine ww_get C fg_X11_106 0 rfl rfl dX11_fewest_33 ?_
              refine ww_iload_n C dX11_fewest_36 0 rfl rfl ?_
              refine ww_ci (wr := [(hx, .inr (11, [.ref h, .ref qp, .int (nI ac), .int (nI np), .ref qs, .ref qj, .ref ly, .ref qh, .ref kk, .int (nI kc), .ref rd, .ref pg, .int (nI pe), .int kn, .ref ss]))]) (k' := 0) (n' := 0) C (run_S (As := [.int kn, .int (nI pe), .int 3]) (rest := []) C (c_canEnd3 X.2.1 E ro kn pe (by omega)) ms_X11_canEnd wl_X11_321 rfl rfl rfl rfl dX11_fewest_37) (roK hro) [] [0] rfl rfl rfl rfl (fun r_42 uz hw => ?_)
              rcases hw with hw | hw
              · refine an1 hw ?_
                clear hw
                intro he_43 hw
                have he_44 := hw
                clear hw
                have he_43 := he_43.symm
                subst he_43
                subst he_44
                refine ww_eq (ws' := [(hx, .inr (11, [.ref h, .ref qp, .int (nI ac), .int (nI np), .ref qs, .ref qj, .ref ly, .ref qh, .ref kk, .int (nI kc), .ref rd, .ref pg, .int (nI pe), .int kn, .ref ss]))]) ?_ rfl rfl rfl
                refine ww_if_ne_t (tgt := 49) C dX11_fewest_40 (by decide) (by decide) ?_
                refine ww_iload_n C dX11_fewest_49 2 rfl rfl ?_
                refine ww_if_ne (tgt := 55) C dX11_fewest_50 (by decide) (fun c_47 => ?_) (fun c_47 => ?_)
                · have zc_47 : v0.toInt ≠ 0 := i_ne rfl rfl c_47
                  refine ww_iload_n C dX11_fewest_55 0 rfl rfl ?_
                  refine ww_if_ne_t (tgt := 64) C dX11_fewest_56 (by decide) (by decide) ?_
                  refine ww_aload_n C dX11_fewest_64 1 rfl rfl ?_
                  refine ww_get C fg_X11_324 0 rfl rfl dX11_fewest_65 ?_
                  refine ww_aload_n C dX11_fewest_68 1 rfl rfl ?_
                  refine ww_get C fg_X11_106 0 rfl rfl dX11_fewest_69 ?_
                  refine ww_iload_n C dX11_fewest_72 0 rfl rfl ?_
                  refine ww_ci (wr := [(hx, .inr (11, [.ref h, .ref qp, .int (nI ac), .int (nI np), .ref qs, .ref qj, .ref ly, .ref qh, .ref kk, .int (nI kc), .ref rd, .ref pg, .int (nI pe), .int kn, .ref ss]))]) (k' := 0) (n' := 0) C (run_S (As := [.int kn, .int (nI pe), .int 3]) (rest := []) C (c_firstCall3 X.2.1 E ro kn pe (by omega)) ms_X11_firstCall wl_X11_314 rfl rfl rfl rfl dX11_fewest_73) (roK hro) [] [0] rfl rfl rfl rfl (fun r_48 uz hw => ?_)
                  have he_49 := hw
                  clear hw
                  subst he_49
                  refine ww_eq (ws' := [(hx, .inr (11, [.ref h, .ref qp, .int (nI ac), .int (nI np), .ref qs, .ref qj, .ref ly, .ref qh, .ref kk, .int (nI kc), .ref rd, .ref pg, .int (nI pe), .int kn, .ref ss]))]) ?_ rfl rfl rfl
                  exact ww_iret (u := [(hx, .inr (11, [.ref h, .ref qp, .int (nI ac), .int (nI np), .ref qs, .ref qj, .ref ly, .ref qh, .ref kk, .int (nI kc), .ref rd, .ref pg, .int (nI pe), .int kn, .ref ss]))]) C hT [0] rfl rfl rfl rfl dX11_fewest_76 (rfl)
                · have zc_47 : v0.toInt = 0 := i_eq rfl rfl c_47
                  refine ww_iload_n C dX11_fewest_53 0 rfl rfl ?_
                  exact ww_iret (u := [(hx, .inr (11, [.ref h, .ref qp, .int (nI ac), .int (nI np), .ref qs, .ref qj, .ref ly, .ref qh, .ref kk, .int (nI kc), .ref rd, .ref pg, .int (nI pe), .int kn, .ref ss]))]) C hT [0] rfl rfl rfl rfl dX11_fewest_54 (rfl)
              · refine an1 hw ?_
                clear hw
                intro he_45 hw
                have he_46 := hw
                clear hw
                have he_45 := he_45.symm
                subst he_45
                subst he_46
                refine ww_eq (ws' := [(hx, .inr (11, [.ref h, .ref qp, .int (nI ac), .int (nI np), .ref qs, .ref qj, .ref ly, .ref qh, .ref kk, .int (nI kc), .ref rd, .ref pg, .int (nI pe), .int kn, .ref ss]))]) ?_ rfl rfl rfl
                refine ww_if_ne_f (tgt := 49) C dX11_fewest_40 (by decide) (rfl) ?_
                refine ww_iinc (j := 0) (v := 4) (lv' := [(2, .int 4), (0, .ref hx), (1, .int v0)]) C dX11_fewest_43 rfl rfl rfl rfl ?_
                refine ww_goto (tgt := 23) C dX11_fewest_46 (by decide) ?_
                exact ww_lv [0, 1, 2] rfl (ww_sub [0] rfl rfl (ih_23 4 (by omega) (by omega)))
      exact ww_lv [0, 1, 2] rfl (ww_sub [0] rfl rfl (loop_23 _ 0 (by omega) (Nat.lt_succ_self _)))
    · have zc_9 : ((pe : Nat) : Int) = 0 := i_eq (nI_toInt (n := pe) (by omega)) rfl c_9
      refine ww_bipush (v := (-2)) C dX11_fewest_18 rfl ?_
      exact ww_iret (u := [(hx, .inr (11, [.ref h, .ref qp, .int (nI ac), .int (nI np), .ref qs, .ref qj, .ref ly, .ref qh, .ref kk, .int (nI kc), .ref rd, .ref pg, .int (nI pe), .int kn, .ref ss]))]) C hT [0] rfl rfl rfl rfl dX11_fewest_20 (rfl)
  · refine an2 hw ?_
    clear hw
    intro he_7 he_8 hw
    have h_6 := hw
    clear hw
    have he_7 := he_7.symm
    subst he_7
    subst he_8
    refine ww_eq (ws' := [(hx, .inr (11, [.ref h, .ref qp, .int (nI ac), .int (nI np), .ref qs, .ref qj, .ref ly, .ref qh, .ref kk, .int (nI kc), .ref rd, .ref pg, .int (nI pe), .int kn, .ref ss]))]) ?_ rfl rfl rfl
    refine ww_if_ne_f (tgt := 11) C dX11_fewest_6 (by decide) (rfl) ?_
    refine ww_iconst (v := (-1)) C dX11_fewest_9 rfl ?_
    exact ww_iret (u := [(hx, .inr (11, [.ref h, .ref qp, .int (nI ac), .int (nI np), .ref qs, .ref qj, .ref ly, .ref qh, .ref kk, .int (nI kc), .ref rd, .ref pg, .int (nI pe), .int kn, .ref ss]))]) C hT [0] rfl rfl rfl rfl dX11_fewest_10 (rfl)
