theorem dX11_sheet_0 : decode cX11_sheet 0 = .ok (.iload_n 1, 1) := by decide +kernel
theorem dX11_sheet_1 : decode cX11_sheet 1 = .ok (.iconst 0, 1) := by decide +kernel
theorem dX11_sheet_2 : decode cX11_sheet 2 = .ok (.iconst 3, 1) := by decide +kernel
theorem dX11_sheet_3 : decode cX11_sheet 3 = .ok (.invokestatic 76, 3) := by decide +kernel
theorem dX11_sheet_6 : decode cX11_sheet 6 = .ok (.ifCond .eq 18, 3) := by decide +kernel
theorem dX11_sheet_9 : decode cX11_sheet 9 = .ok (.iload_n 2, 1) := by decide +kernel
theorem dX11_sheet_10 : decode cX11_sheet 10 = .ok (.iconst 0, 1) := by decide +kernel
theorem dX11_sheet_11 : decode cX11_sheet 11 = .ok (.iconst 2, 1) := by decide +kernel
theorem dX11_sheet_12 : decode cX11_sheet 12 = .ok (.invokestatic 76, 3) := by decide +kernel
theorem dX11_sheet_15 : decode cX11_sheet 15 = .ok (.ifCond .eq 9, 3) := by decide +kernel
theorem dX11_sheet_18 : decode cX11_sheet 18 = .ok (.iload_n 3, 1) := by decide +kernel
theorem dX11_sheet_19 : decode cX11_sheet 19 = .ok (.bipush 48, 2) := by decide +kernel
theorem dX11_sheet_21 : decode cX11_sheet 21 = .ok (.if_icmp .le 5, 3) := by decide +kernel
theorem dX11_sheet_26 : decode cX11_sheet 26 = .ok (.iload_n 3, 1) := by decide +kernel
theorem dX11_sheet_27 : decode cX11_sheet 27 = .ok (.ifCond .ge 6, 3) := by decide +kernel
theorem dX11_sheet_33 : decode cX11_sheet 33 = .ok (.aload_n 0, 1) := by decide +kernel
theorem dX11_sheet_34 : decode cX11_sheet 34 = .ok (.getfield 71, 3) := by decide +kernel
theorem wf_X11_71 : Cond.fieldLink RX11 71 RX11 "sheets" "[LWhoKnows$Sheet;" ∈ TB := tbm (tq2 (List.mem_of_getElem? (i := 110) (by decide +kernel))) (by decide +kernel)
theorem fg_X11_71 : FG RX11 71 11 14 := ⟨RX11, TX11, 15, uw_X11, wf_X11_71, rfl, by decide, rfl⟩
theorem dX11_sheet_37 : decode cX11_sheet 37 = .ok (.iload_n 1, 1) := by decide +kernel
theorem dX11_sheet_38 : decode cX11_sheet 38 = .ok (.aaload, 1) := by decide +kernel
theorem dX11_sheet_39 : decode cX11_sheet 39 = .ok (.iload_n 2, 1) := by decide +kernel
theorem dX11_sheet_40 : decode cX11_sheet 40 = .ok (.iload_n 3, 1) := by decide +kernel
theorem dX11_sheet_41 : decode cX11_sheet 41 = .ok (.invokevirtual 335, 3) := by decide +kernel
theorem wl_X11_335 : Cond.methodLink RX11 335 yX9_begin ∈ TB := tbm (tq5 (List.mem_of_getElem? (i := 34) (by decide +kernel))) (by decide +kernel)
theorem wc_X9_begin : Cond.code yX9_begin cX9_begin 4 none ∈ TB := tbm (tq5 (List.mem_of_getElem? (i := 37) (rfl))) (by decide +kernel)
theorem wn_X9 : Cond.initialized RX9 ∈ TB := tbm (tq1 (List.mem_of_getElem? (i := 11) (by decide +kernel))) (by decide +kernel)
theorem wi_X9_begin : Cond.instanceMethod yX9_begin ∈ TB := tbm (tq5 (List.mem_of_getElem? (i := 35) (by decide +kernel))) (by decide +kernel)
theorem ws_X9_begin : Cond.selects RX9 yX9_begin yX9_begin ∈ TB := tbm (tq5 (List.mem_of_getElem? (i := 36) (by decide +kernel))) (by decide +kernel)
theorem mi_X9_begin : MI yX9_begin cX9_begin 4 none 2 := ⟨wc_X9_begin, wn_X9, ⟨by decide +kernel, by decide +kernel, by decide +kernel⟩, wi_X9_begin, ws_X9_begin⟩
theorem dX11_sheet_44 : decode cX11_sheet 44 = .ok (.iconst 1, 1) := by decide +kernel
theorem dX11_sheet_45 : decode cX11_sheet 45 = .ok (.ireturn, 1) := by decide +kernel
theorem dX11_sheet_30 : decode cX11_sheet 30 = .ok (.bipush (-14), 2) := by decide +kernel
theorem dX11_sheet_32 : decode cX11_sheet 32 = .ok (.ireturn, 1) := by decide +kernel
theorem dX11_sheet_24 : decode cX11_sheet 24 = .ok (.iconst (-1), 1) := by decide +kernel
theorem dX11_sheet_25 : decode cX11_sheet 25 = .ok (.ireturn, 1) := by decide +kernel
set_option maxRecDepth 100000 in
set_option maxHeartbeats 4000000 in
theorem x_sheet (l : Launch) (E : EV) (ro : va_W) (hx : Nat) (v0 : Int32) (v1 : Int32) (v2 : Int32) (h : Nat) (qp : Nat) (ac : Nat) (np : Nat) (qs : Nat) (qj : Nat) (ly : Nat) (qh : Nat) (kk : Nat) (kc : Nat) (rd : Nat) (pg : Nat) (pe : Nat) (kn : Int32) (ss : Nat) (fss : Nat → Option Nat) (s0 : Nat) (s1 : Nat) (s2 : Nat) (s3 : Nat) (s0t : Nat) (s0n : Nat) (s0l : Nat) (s0c : Nat) (s0f : Nat → Int32) (s1t : Nat) (s1n : Nat) (s1l : Nat) (s1c : Nat) (s1f : Nat → Int32) (s2t : Nat) (s2n : Nat) (s2l : Nat) (s2c : Nat) (s2f : Nat → Int32) (s3t : Nat) (s3n : Nat) (s3l : Nat) (s3c : Nat) (s3f : Nat → Int32) (k_fss_0 : fss 0 = some s0) (k_fss_1 : fss 1 = some s1) (k_fss_2 : fss 2 = some s2) (k_fss_3 : fss 3 = some s3) (hs0t : s0t ≤ 1) (hs0n : s0n ≤ 48) (hs0l : s0l ≤ 2) (hs1t : s1t ≤ 1) (hs1n : s1n ≤ 48) (hs1l : s1l ≤ 2) (hs2t : s2t ≤ 1) (hs2n : s2n ≤ 48) (hs2l : s2l ≤ 2) (hs3t : s3t ≤ 1) (hs3n : s3n ≤ 48) (hs3l : s3l ≤ 2) : CT l yX11_sheet (Cond.code yX11_sheet cX11_sheet 4 (some .int) :: TB) ({ frames := 1, cells := 0, slots := 0, locals := 23 }) E ro [.ref hx, .int v0, .int v1, .int v2] [(hx, .inr (11, [.ref h, .ref qp, .int (nI ac), .int (nI np), .ref qs, .ref qj, .ref ly, .ref qh, .ref kk, .int (nI kc), .ref rd, .ref pg, .int (nI pe), .int kn, .ref ss])), (ss, .inl (E.2.1 8, 4, .inr (.inr (.inr (.inr fss))))), (s0, .inr (9, [.int (nI s0t), .int (nI s0n), .int (nI s0l), .ref s0c])), (s0c, .inl (E.2.1 1, 48, .inl s0f)), (s1, .inr (9, [.int (nI s1t), .int (nI s1n), .int (nI s1l), .ref s1c])), (s1c, .inl (E.2.1 1, 48, .inl s1f)), (s2, .inr (9, [.int (nI s2t), .int (nI s2n), .int (nI s2l), .ref s2c])), (s2c, .inl (E.2.1 1, 48, .inl s2f)), (s3, .inr (9, [.int (nI s3t), .int (nI s3n), .int (nI s3l), .ref s3c])), (s3c, .inl (E.2.1 1, 48, .inl s3f))] (Qi E (fun (rz : Int32) uz => (rz = (-1) ∧ uz = [(hx, .inr (11, [.ref h, .ref qp, .int (nI ac), .int (nI np), .ref qs, .ref qj, .ref ly, .ref qh, .ref kk, .int (nI kc), .ref rd, .ref pg, .int (nI pe), .int kn, .ref ss])), (ss, .inl (E.2.1 8, 4, .inr (.inr (.inr (.inr fss))))), (s0, .inr (9, [.int (nI s0t), .int (nI s0n), .int (nI s0l), .ref s0c])), (s0c, .inl (E.2.1 1, 48, .inl s0f)), (s1, .inr (9, [.int (nI s1t), .int (nI s1n), .int (nI s1l), .ref s1c])), (s1c, .inl (E.2.1 1, 48, .inl s1f)), (s2, .inr (9, [.int (nI s2t), .int (nI s2n), .int (nI s2l), .ref s2c])), (s2c, .inl (E.2.1 1, 48, .inl s2f)), (s3, .inr (9, [.int (nI s3t), .int (nI s3n), .int (nI s3l), .ref s3c])), (s3c, .inl (E.2.1 1, 48, .inl s3f))] ∧ (v0.toInt < 0 ∨ 3 < v0.toInt ∨ v1.toInt < 0 ∨ 2 < v1.toInt ∨ 48 < v2.toInt)) ∨ (rz = (-14) ∧ uz = [(hx, .inr (11, [.ref h, .ref qp, .int (nI ac), .int (nI np), .ref qs, .ref qj, .ref ly, .ref qh, .ref kk, .int (nI kc), .ref rd, .ref pg, .int (nI pe), .int kn, .ref ss])), (ss, .inl (E.2.1 8, 4, .inr (.inr (.inr (.inr fss))))), (s0, .inr (9, [.int (nI s0t), .int (nI s0n), .int (nI s0l), .ref s0c])), (s0c, .inl (E.2.1 1, 48, .inl s0f)), (s1, .inr (9, [.int (nI s1t), .int (nI s1n), .int (nI s1l), .ref s1c])), (s1c, .inl (E.2.1 1, 48, .inl s1f)), (s2, .inr (9, [.int (nI s2t), .int (nI s2n), .int (nI s2l), .ref s2c])), (s2c, .inl (E.2.1 1, 48, .inl s2f)), (s3, .inr (9, [.int (nI s3t), .int (nI s3n), .int (nI s3l), .ref s3c])), (s3c, .inl (E.2.1 1, 48, .inl s3f))] ∧ (0 ≤ v0.toInt) ∧ (v0.toInt ≤ 3) ∧ (0 ≤ v1.toInt) ∧ (v1.toInt ≤ 2) ∧ (v2.toInt < 0)) ∨ (∃ (k_ : Nat) (l_ : Nat) (n_ : Nat) (s0tz : Nat) (s0nz : Nat) (s0lz : Nat) (s1tz : Nat) (s1nz : Nat) (s1lz : Nat) (s2tz : Nat) (s2nz : Nat) (s2lz : Nat) (s3tz : Nat) (s3nz : Nat) (s3lz : Nat) (s0fz : Nat → Int32) (s1fz : Nat → Int32) (s2fz : Nat → Int32) (s3fz : Nat → Int32), rz = 1 ∧ uz = [(hx, .inr (11, [.ref h, .ref qp, .int (nI ac), .int (nI np), .ref qs, .ref qj, .ref ly, .ref qh, .ref kk, .int (nI kc), .ref rd, .ref pg, .int (nI pe), .int kn, .ref ss])), (ss, .inl (E.2.1 8, 4, .inr (.inr (.inr (.inr fss))))), (s0, .inr (9, [.int (nI s0tz), .int (nI s0nz), .int (nI s0lz), .ref s0c])), (s0c, .inl (E.2.1 1, 48, .inl s0fz)), (s1, .inr (9, [.int (nI s1tz), .int (nI s1nz), .int (nI s1lz), .ref s1c])), (s1c, .inl (E.2.1 1, 48, .inl s1fz)), (s2, .inr (9, [.int (nI s2tz), .int (nI s2nz), .int (nI s2lz), .ref s2c])), (s2c, .inl (E.2.1 1, 48, .inl s2fz)), (s3, .inr (9, [.int (nI s3tz), .int (nI s3nz), .int (nI s3lz), .ref s3c])), (s3c, .inl (E.2.1 1, 48, .inl s3fz))] ∧ (v0 = nI k_) ∧ (v1 = nI l_) ∧ (v2 = nI n_) ∧ (k_ ≤ 3) ∧ (l_ ≤ 2) ∧ (n_ ≤ 48) ∧ (∀ i, i < 4 → pick4 s0tz s1tz s2tz s3tz i = if i = k_ then 1 else pick4 s0t s1t s2t s3t i) ∧ (∀ i, i < 4 → pick4 s0nz s1nz s2nz s3nz i = if i = k_ then n_ else pick4 s0n s1n s2n s3n i) ∧ (∀ i, i < 4 → pick4 s0lz s1lz s2lz s3lz i = if i = k_ then l_ else pick4 s0l s1l s2l s3l i) ∧ (∀ i, i < 4 → i ≠ k_ → pick4 s0fz s1fz s2fz s3fz i = pick4 s0f s1f s2f s3f i) ∧ (Z0x n_ (pick4 s0fz s1fz s2fz s3fz k_))))) 0 0 := by
  refine ct_of rfl rfl ?_
  intro X C hT hin hro
  show WW X 4 E 0 [(0, .ref hx), (1, .int v0), (2, .int v1), (3, .int v2)] [] [(hx, .inr (11, [.ref h, .ref qp, .int (nI ac), .int (nI np), .ref qs, .ref qj, .ref ly, .ref qh, .ref kk, .int (nI kc), .ref rd, .ref pg, .int (nI pe), .int kn, .ref ss])), (ss, .inl (E.2.1 8, 4, .inr (.inr (.inr (.inr fss))))), (s0, .inr (9, [.int (nI s0t), .int (nI s0n), .int (nI s0l), .ref s0c])), (s0c, .inl (E.2.1 1, 48, .inl s0f)), (s1, .inr (9, [.int (nI s1t), .int (nI s1n), .int (nI s1l), .ref s1c])), (s1c, .inl (E.2.1 1, 48, .inl s1f)), (s2, .inr (9, [.int (nI s2t), .int (nI s2n), .int (nI s2l), .ref s2c])), (s2c, .inl (E.2.1 1, 48, .inl s2f)), (s3, .inr (9, [.int (nI s3t), .int (nI s3n), .int (nI s3l), .ref s3c])), (s3c, .inl (E.2.1 1, 48, .inl s3f))] 0 0
  refine ww_iload_n C dX11_sheet_0 1 rfl rfl ?_
  refine ww_iconst (v := 0) C dX11_sheet_1 rfl ?_
  refine ww_iconst (v := 3) C dX11_sheet_2 rfl ?_
  refine ww_ci (wr := [(hx, .inr (11, [.ref h, .ref qp, .int (nI ac), .int (nI np), .ref qs, .ref qj, .ref ly, .ref qh, .ref kk, .int (nI kc), .ref rd, .ref pg, .int (nI pe), .int kn, .ref ss])), (ss, .inl (E.2.1 8, 4, .inr (.inr (.inr (.inr fss))))), (s0, .inr (9, [.int (nI s0t), .int (nI s0n), .int (nI s0l), .ref s0c])), (s0c, .inl (E.2.1 1, 48, .inl s0f)), (s1, .inr (9, [.int (nI s1t), .int (nI s1n), .int (nI s1l), .ref s1c])), (s1c, .inl (E.2.1 1, 48, .inl s1f)), (s2, .inr (9, [.int (nI s2t), .int (nI s2n), .int (nI s2l), .ref s2c])), (s2c, .inl (E.2.1 1, 48, .inl s2f)), (s3, .inr (9, [.int (nI s3t), .int (nI s3n), .int (nI s3l), .ref s3c])), (s3c, .inl (E.2.1 1, 48, .inl s3f))]) (k' := 0) (n' := 0) C (run_S (As := [.int v0, .int 0, .int 3]) (rest := []) C (c_within X.2.1 E ro v0 0 3 v0.toInt 0 3 rfl rfl rfl) ms_X11_within wl_X11_76 rfl rfl rfl rfl dX11_sheet_3) (roK hro) [] [0, 1, 2, 3, 4, 5, 6, 7, 8, 9] rfl rfl rfl rfl (fun r_1 uz hw => ?_)
  rcases hw with hw | hw
  · refine an3 hw ?_
    clear hw
    intro he_4 he_5 h_2 hw
    have h_3 := hw
    clear hw
    have he_4 := he_4.symm
    subst he_4
    subst he_5
    refine ww_eq (ws' := [(hx, .inr (11, [.ref h, .ref qp, .int (nI ac), .int (nI np), .ref qs, .ref qj, .ref ly, .ref qh, .ref kk, .int (nI kc), .ref rd, .ref pg, .int (nI pe), .int kn, .ref ss])), (ss, .inl (E.2.1 8, 4, .inr (.inr (.inr (.inr fss))))), (s0, .inr (9, [.int (nI s0t), .int (nI s0n), .int (nI s0l), .ref s0c])), (s0c, .inl (E.2.1 1, 48, .inl s0f)), (s1, .inr (9, [.int (nI s1t), .int (nI s1n), .int (nI s1l), .ref s1c])), (s1c, .inl (E.2.1 1, 48, .inl s1f)), (s2, .inr (9, [.int (nI s2t), .int (nI s2n), .int (nI s2l), .ref s2c])), (s2c, .inl (E.2.1 1, 48, .inl s2f)), (s3, .inr (9, [.int (nI s3t), .int (nI s3n), .int (nI s3l), .ref s3c])), (s3c, .inl (E.2.1 1, 48, .inl s3f))]) ?_ rfl rfl rfl
    refine ww_if_eq_f (tgt := 24) C dX11_sheet_6 (by decide) (by decide) ?_
    refine ww_iload_n C dX11_sheet_9 2 rfl rfl ?_
    refine ww_iconst (v := 0) C dX11_sheet_10 rfl ?_
    refine ww_iconst (v := 2) C dX11_sheet_11 rfl ?_
    refine ww_ci (wr := [(hx, .inr (11, [.ref h, .ref qp, .int (nI ac), .int (nI np), .ref qs, .ref qj, .ref ly, .ref qh, .ref kk, .int (nI kc), .ref rd, .ref pg, .int (nI pe), .int kn, .ref ss])), (ss, .inl (E.2.1 8, 4, .inr (.inr (.inr (.inr fss))))), (s0, .inr (9, [.int (nI s0t), .int (nI s0n), .int (nI s0l), .ref s0c])), (s0c, .inl (E.2.1 1, 48, .inl s0f)), (s1, .inr (9, [.int (nI s1t), .int (nI s1n), .int (nI s1l), .ref s1c])), (s1c, .inl (E.2.1 1, 48, .inl s1f)), (s2, .inr (9, [.int (nI s2t), .int (nI s2n), .int (nI s2l), .ref s2c])), (s2c, .inl (E.2.1 1, 48, .inl s2f)), (s3, .inr (9, [.int (nI s3t), .int (nI s3n), .int (nI s3l), .ref s3c])), (s3c, .inl (E.2.1 1, 48, .inl s3f))]) (k' := 0) (n' := 0) C (run_S (As := [.int v1, .int 0, .int 2]) (rest := []) C (c_within X.2.1 E ro v1 0 2 v1.toInt 0 2 rfl rfl rfl) ms_X11_within wl_X11_76 rfl rfl rfl rfl dX11_sheet_12) (roK hro) [] [0, 1, 2, 3, 4, 5, 6, 7, 8, 9] rfl rfl rfl rfl (fun r_9 uz hw => ?_)
    rcases hw with hw | hw
    · refine an3 hw ?_
      clear hw
      intro he_12 he_13 h_10 hw
      have h_11 := hw
      clear hw
      have he_12 := he_12.symm
      subst he_12
      subst he_13
      refine ww_eq (ws' := [(hx, .inr (11, [.ref h, .ref qp, .int (nI ac), .int (nI np), .ref qs, .ref qj, .ref ly, .ref qh, .ref kk, .int (nI kc), .ref rd, .ref pg, .int (nI pe), .int kn, .ref ss])), (ss, .inl (E.2.1 8, 4, .inr (.inr (.inr (.inr fss))))), (s0, .inr (9, [.int (nI s0t), .int (nI s0n), .int (nI s0l), .ref s0c])), (s0c, .inl (E.2.1 1, 48, .inl s0f)), (s1, .inr (9, [.int (nI s1t), .int (nI s1n), .int (nI s1l), .ref s1c])), (s1c, .inl (E.2.1 1, 48, .inl s1f)), (s2, .inr (9, [.int (nI s2t), .int (nI s2n), .int (nI s2l), .ref s2c])), (s2c, .inl (E.2.1 1, 48, .inl s2f)), (s3, .inr (9, [.int (nI s3t), .int (nI s3n), .int (nI s3l), .ref s3c])), (s3c, .inl (E.2.1 1, 48, .inl s3f))]) ?_ rfl rfl rfl
      refine ww_if_eq_f (tgt := 24) C dX11_sheet_15 (by decide) (by decide) ?_
      refine ww_iload_n C dX11_sheet_18 3 rfl rfl ?_
      refine ww_bipush (v := 48) C dX11_sheet_19 rfl ?_
      refine ww_icmp_le (tgt := 26) C dX11_sheet_21 (by decide) (fun c_17 => ?_) (fun c_17 => ?_)
      · have zc_17 : v2.toInt ≤ 48 := i_le rfl rfl c_17
        refine ww_iload_n C dX11_sheet_26 3 rfl rfl ?_
        refine ww_if_ge (tgt := 33) C dX11_sheet_27 (by decide) (fun c_18 => ?_) (fun c_18 => ?_)
        · have zc_18 : v2.toInt ≥ 0 := i_le rfl rfl c_18
          obtain ⟨j_19, hj_19, rfl⟩ := i_nat (x := v1) (N := 2) (by omega) (by omega)
          have hzj_19 := nI_toInt (n := j_19) (by omega)
          obtain ⟨j_20, hj_20, rfl⟩ := i_nat (x := v2) (N := 48) (by omega) (by omega)
          have hzj_20 := nI_toInt (n := j_20) (by omega)
          refine ww_aload_n C dX11_sheet_33 0 rfl rfl ?_
          refine ww_get C fg_X11_71 0 rfl rfl dX11_sheet_34 ?_
          rcases sp_0_3 (x := v0) (by omega) (by omega) with rfl | rfl | rfl | rfl
          · refine ww_iload_n C dX11_sheet_37 1 rfl rfl ?_
            refine ww_ald (v := (some s0)) (t0 := 8) C 1 rfl rfl (vin rfl) k_fss_0 dX11_sheet_38 ?_
            refine ww_eq (st' := [.ref s0]) ?_ rfl rfl rfl
            refine ww_iload_n C dX11_sheet_39 2 rfl rfl ?_
            refine ww_iload_n C dX11_sheet_40 3 rfl rfl ?_
            refine ww_cv (wr := [(hx, .inr (11, [.ref h, .ref qp, .int (nI ac), .int (nI np), .ref qs, .ref qj, .ref ly, .ref qh, .ref kk, .int (nI kc), .ref rd, .ref pg, .int (nI pe), .int kn, .ref ss])), (ss, .inl (E.2.1 8, 4, .inr (.inr (.inr (.inr fss))))), (s1, .inr (9, [.int (nI s1t), .int (nI s1n), .int (nI s1l), .ref s1c])), (s1c, .inl (E.2.1 1, 48, .inl s1f)), (s2, .inr (9, [.int (nI s2t), .int (nI s2n), .int (nI s2l), .ref s2c])), (s2c, .inl (E.2.1 1, 48, .inl s2f)), (s3, .inr (9, [.int (nI s3t), .int (nI s3n), .int (nI s3l), .ref s3c])), (s3c, .inl (E.2.1 1, 48, .inl s3f))]) (k' := 0) (n' := 0) C (run_V (As := [.int (nI j_19), .int (nI j_20)]) (rest := []) C (s_begin X.2.1 E ro s0 (nI j_19) j_20 (nI s0t) (nI s0n) (nI s0l) s0c s0f (by omega)) mi_X9_begin wl_X11_335 rfl 0 9 rfl rfl rfl rfl rfl dX11_sheet_41) (roK hro) [2, 3] [0, 1, 4, 5, 6, 7, 8, 9] rfl rfl rfl rfl (fun uz hw => ?_)
            refine ex1 hw ?_
            clear hw
            intro f2_22 hw
            refine an1 hw ?_
            clear hw
            intro he_24 hw
            have h_23 := hw
            clear hw
            subst he_24
            refine ww_eq (ws' := [(hx, .inr (11, [.ref h, .ref qp, .int (nI ac), .int (nI np), .ref qs, .ref qj, .ref ly, .ref qh, .ref kk, .int (nI kc), .ref rd, .ref pg, .int (nI pe), .int kn, .ref ss])), (ss, .inl (E.2.1 8, 4, .inr (.inr (.inr (.inr fss))))), (s1, .inr (9, [.int (nI s1t), .int (nI s1n), .int (nI s1l), .ref s1c])), (s1c, .inl (E.2.1 1, 48, .inl s1f)), (s2, .inr (9, [.int (nI s2t), .int (nI s2n), .int (nI s2l), .ref s2c])), (s2c, .inl (E.2.1 1, 48, .inl s2f)), (s3, .inr (9, [.int (nI s3t), .int (nI s3n), .int (nI s3l), .ref s3c])), (s3c, .inl (E.2.1 1, 48, .inl s3f)), (s0, .inr (9, [.int 1, .int (nI j_20), .int (nI j_19), .ref s0c])), (s0c, .inl (E.2.1 1, 48, .inl f2_22))]) ?_ rfl rfl rfl
            refine ww_iconst (v := 1) C dX11_sheet_44 rfl ?_
            exact ww_iret (u := [(hx, .inr (11, [.ref h, .ref qp, .int (nI ac), .int (nI np), .ref qs, .ref qj, .ref ly, .ref qh, .ref kk, .int (nI kc), .ref rd, .ref pg, .int (nI pe), .int kn, .ref ss])), (ss, .inl (E.2.1 8, 4, .inr (.inr (.inr (.inr fss))))), (s0, .inr (9, [.int 1, .int (nI j_20), .int (nI j_19), .ref s0c])), (s0c, .inl (E.2.1 1, 48, .inl f2_22)), (s1, .inr (9, [.int (nI s1t), .int (nI s1n), .int (nI s1l), .ref s1c])), (s1c, .inl (E.2.1 1, 48, .inl s1f)), (s2, .inr (9, [.int (nI s2t), .int (nI s2n), .int (nI s2l), .ref s2c])), (s2c, .inl (E.2.1 1, 48, .inl s2f)), (s3, .inr (9, [.int (nI s3t), .int (nI s3n), .int (nI s3l), .ref s3c])), (s3c, .inl (E.2.1 1, 48, .inl s3f))]) C hT [0, 1, 8, 9, 2, 3, 4, 5, 6, 7] rfl rfl rfl rfl dX11_sheet_45 (Or.inr (Or.inr ⟨0, j_19, j_20, 1, j_20, j_19, s1t, s1n, s1l, s2t, s2n, s2l, s3t, s3n, s3l, f2_22, s1f, s2f, s3f, rfl, rfl, rfl, rfl, rfl, (by omega), (by omega), (by omega), (fun i hi => by rcases (show i = 0 ∨ i = 1 ∨ i = 2 ∨ i = 3 by omega) with rfl | rfl | rfl | rfl <;> rfl), (fun i hi => by rcases (show i = 0 ∨ i = 1 ∨ i = 2 ∨ i = 3 by omega) with rfl | rfl | rfl | rfl <;> rfl), (fun i hi => by rcases (show i = 0 ∨ i = 1 ∨ i = 2 ∨ i = 3 by omega) with rfl | rfl | rfl | rfl <;> rfl), (fun i hi hne => by rcases (show i = 0 ∨ i = 1 ∨ i = 2 ∨ i = 3 by omega) with rfl | rfl | rfl | rfl <;> first | rfl | exact absurd rfl hne), h_23⟩))
          · refine ww_iload_n C dX11_sheet_37 1 rfl rfl ?_
            refine ww_ald (v := (some s1)) (t0 := 8) C 1 rfl rfl (vin rfl) k_fss_1 dX11_sheet_38 ?_
            refine ww_eq (st' := [.ref s1]) ?_ rfl rfl rfl
            refine ww_iload_n C dX11_sheet_39 2 rfl rfl ?_
            refine ww_iload_n C dX11_sheet_40 3 rfl rfl ?_
            refine ww_cv (wr := [(hx, .inr (11, [.ref h, .ref qp, .int (nI ac), .int (nI np), .ref qs, .ref qj, .ref ly, .ref qh, .ref kk, .int (nI kc), .ref rd, .ref pg, .int (nI pe), .int kn, .ref ss])), (ss, .inl (E.2.1 8, 4, .inr (.inr (.inr (.inr fss))))), (s0, .inr (9, [.int (nI s0t), .int (nI s0n), .int (nI s0l), .ref s0c])), (s0c, .inl (E.2.1 1, 48, .inl s0f)), (s2, .inr (9, [.int (nI s2t), .int (nI s2n), .int (nI s2l), .ref s2c])), (s2c, .inl (E.2.1 1, 48, .inl s2f)), (s3, .inr (9, [.int (nI s3t), .int (nI s3n), .int (nI s3l), .ref s3c])), (s3c, .inl (E.2.1 1, 48, .inl s3f))]) (k' := 0) (n' := 0) C (run_V (As := [.int (nI j_19), .int (nI j_20)]) (rest := []) C (s_begin X.2.1 E ro s1 (nI j_19) j_20 (nI s1t) (nI s1n) (nI s1l) s1c s1f (by omega)) mi_X9_begin wl_X11_335 rfl 0 9 rfl rfl rfl rfl rfl dX11_sheet_41) (roK hro) [4, 5] [0, 1, 2, 3, 6, 7, 8, 9] rfl rfl rfl rfl (fun uz hw => ?_)
            refine ex1 hw ?_
            clear hw
            intro f2_26 hw
            refine an1 hw ?_
            clear hw
            intro he_28 hw
            have h_27 := hw
            clear hw
            subst he_28
            refine ww_eq (ws' := [(hx, .inr (11, [.ref h, .ref qp, .int (nI ac), .int (nI np), .ref qs, .ref qj, .ref ly, .ref qh, .ref kk, .int (nI kc), .ref rd, .ref pg, .int (nI pe), .int kn, .ref ss])), (ss, .inl (E.2.1 8, 4, .inr (.inr (.inr (.inr fss))))), (s0, .inr (9, [.int (nI s0t), .int (nI s0n), .int (nI s0l), .ref s0c])), (s0c, .inl (E.2.1 1, 48, .inl s0f)), (s2, .inr (9, [.int (nI s2t), .int (nI s2n), .int (nI s2l), .ref s2c])), (s2c, .inl (E.2.1 1, 48, .inl s2f)), (s3, .inr (9, [.int (nI s3t), .int (nI s3n), .int (nI s3l), .ref s3c])), (s3c, .inl (E.2.1 1, 48, .inl s3f)), (s1, .inr (9, [.int 1, .int (nI j_20), .int (nI j_19), .ref s1c])), (s1c, .inl (E.2.1 1, 48, .inl f2_26))]) ?_ rfl rfl rfl
            refine ww_iconst (v := 1) C dX11_sheet_44 rfl ?_
            exact ww_iret (u := [(hx, .inr (11, [.ref h, .ref qp, .int (nI ac), .int (nI np), .ref qs, .ref qj, .ref ly, .ref qh, .ref kk, .int (nI kc), .ref rd, .ref pg, .int (nI pe), .int kn, .ref ss])), (ss, .inl (E.2.1 8, 4, .inr (.inr (.inr (.inr fss))))), (s0, .inr (9, [.int (nI s0t), .int (nI s0n), .int (nI s0l), .ref s0c])), (s0c, .inl (E.2.1 1, 48, .inl s0f)), (s1, .inr (9, [.int 1, .int (nI j_20), .int (nI j_19), .ref s1c])), (s1c, .inl (E.2.1 1, 48, .inl f2_26)), (s2, .inr (9, [.int (nI s2t), .int (nI s2n), .int (nI s2l), .ref s2c])), (s2c, .inl (E.2.1 1, 48, .inl s2f)), (s3, .inr (9, [.int (nI s3t), .int (nI s3n), .int (nI s3l), .ref s3c])), (s3c, .inl (E.2.1 1, 48, .inl s3f))]) C hT [0, 1, 2, 3, 8, 9, 4, 5, 6, 7] rfl rfl rfl rfl dX11_sheet_45 (Or.inr (Or.inr ⟨1, j_19, j_20, s0t, s0n, s0l, 1, j_20, j_19, s2t, s2n, s2l, s3t, s3n, s3l, s0f, f2_26, s2f, s3f, rfl, rfl, rfl, rfl, rfl, (by omega), (by omega), (by omega), (fun i hi => by rcases (show i = 0 ∨ i = 1 ∨ i = 2 ∨ i = 3 by omega) with rfl | rfl | rfl | rfl <;> rfl), (fun i hi => by rcases (show i = 0 ∨ i = 1 ∨ i = 2 ∨ i = 3 by omega) with rfl | rfl | rfl | rfl <;> rfl), (fun i hi => by rcases (show i = 0 ∨ i = 1 ∨ i = 2 ∨ i = 3 by omega) with rfl | rfl | rfl | rfl <;> rfl), (fun i hi hne => by rcases (show i = 0 ∨ i = 1 ∨ i = 2 ∨ i = 3 by omega) with rfl | rfl | rfl | rfl <;> first | rfl | exact absurd rfl hne), h_27⟩))
          · refine ww_iload_n C dX11_sheet_37 1 rfl rfl ?_
            refine ww_ald (v := (some s2)) (t0 := 8) C 1 rfl rfl (vin rfl) k_fss_2 dX11_sheet_38 ?_
            refine ww_eq (st' := [.ref s2]) ?_ rfl rfl rfl
            refine ww_iload_n C dX11_sheet_39 2 rfl rfl ?_
            refine ww_iload_n C dX11_sheet_40 3 rfl rfl ?_
            refine ww_cv (wr := [(hx, .inr (11, [.ref h, .ref qp, .int (nI ac), .int (nI np), .ref qs, .ref qj, .ref ly, .ref qh, .ref kk, .int (nI kc), .ref rd, .ref pg, .int (nI pe), .int kn, .ref ss])), (ss, .inl (E.2.1 8, 4, .inr (.inr (.inr (.inr fss))))), (s0, .inr (9, [.int (nI s0t), .int (nI s0n), .int (nI s0l), .ref s0c])), (s0c, .inl (E.2.1 1, 48, .inl s0f)), (s1, .inr (9, [.int (nI s1t), .int (nI s1n), .int (nI s1l), .ref s1c])), (s1c, .inl (E.2.1 1, 48, .inl s1f)), (s3, .inr (9, [.int (nI s3t), .int (nI s3n), .int (nI s3l), .ref s3c])), (s3c, .inl (E.2.1 1, 48, .inl s3f))]) (k' := 0) (n' := 0) C (run_V (As := [.int (nI j_19), .int (nI j_20)]) (rest := []) C (s_begin X.2.1 E ro s2 (nI j_19) j_20 (nI s2t) (nI s2n) (nI s2l) s2c s2f (by omega)) mi_X9_begin wl_X11_335 rfl 0 9 rfl rfl rfl rfl rfl dX11_sheet_41) (roK hro) [6, 7] [0, 1, 2, 3, 4, 5, 8, 9] rfl rfl rfl rfl (fun uz hw => ?_)
            refine ex1 hw ?_
            clear hw
            intro f2_30 hw
            refine an1 hw ?_
            clear hw
            intro he_32 hw
            have h_31 := hw
            clear hw
            subst he_32
            refine ww_eq (ws' := [(hx, .inr (11, [.ref h, .ref qp, .int (nI ac), .int (nI np), .ref qs, .ref qj, .ref ly, .ref qh, .ref kk, .int (nI kc), .ref rd, .ref pg, .int (nI pe), .int kn, .ref ss])), (ss, .inl (E.2.1 8, 4, .inr (.inr (.inr (.inr fss))))), (s0, .inr (9, [.int (nI s0t), .int (nI s0n), .int (nI s0l), .ref s0c])), (s0c, .inl (E.2.1 1, 48, .inl s0f)), (s1, .inr (9, [.int (nI s1t), .int (nI s1n), .int (nI s1l), .ref s1c])), (s1c, .inl (E.2.1 1, 48, .inl s1f)), (s3, .inr (9, [.int (nI s3t), .int (nI s3n), .int (nI s3l), .ref s3c])), (s3c, .inl (E.2.1 1, 48, .inl s3f)), (s2, .inr (9, [.int 1, .int (nI j_20), .int (nI j_19), .ref s2c])), (s2c, .inl (E.2.1 1, 48, .inl f2_30))]) ?_ rfl rfl rfl
            refine ww_iconst (v := 1) C dX11_sheet_44 rfl ?_
            exact ww_iret (u := [(hx, .inr (11, [.ref h, .ref qp, .int (nI ac), .int (nI np), .ref qs, .ref qj, .ref ly, .ref qh, .ref kk, .int (nI kc), .ref rd, .ref pg, .int (nI pe), .int kn, .ref ss])), (ss, .inl (E.2.1 8, 4, .inr (.inr (.inr (.inr fss))))), (s0, .inr (9, [.int (nI s0t), .int (nI s0n), .int (nI s0l), .ref s0c])), (s0c, .inl (E.2.1 1, 48, .inl s0f)), (s1, .inr (9, [.int (nI s1t), .int (nI s1n), .int (nI s1l), .ref s1c])), (s1c, .inl (E.2.1 1, 48, .inl s1f)), (s2, .inr (9, [.int 1, .int (nI j_20), .int (nI j_19), .ref s2c])), (s2c, .inl (E.2.1 1, 48, .inl f2_30)), (s3, .inr (9, [.int (nI s3t), .int (nI s3n), .int (nI s3l), .ref s3c])), (s3c, .inl (E.2.1 1, 48, .inl s3f))]) C hT [0, 1, 2, 3, 4, 5, 8, 9, 6, 7] rfl rfl rfl rfl dX11_sheet_45 (Or.inr (Or.inr ⟨2, j_19, j_20, s0t, s0n, s0l, s1t, s1n, s1l, 1, j_20, j_19, s3t, s3n, s3l, s0f, s1f, f2_30, s3f, rfl, rfl, rfl, rfl, rfl, (by omega), (by omega), (by omega), (fun i hi => by rcases (show i = 0 ∨ i = 1 ∨ i = 2 ∨ i = 3 by omega) with rfl | rfl | rfl | rfl <;> rfl), (fun i hi => by rcases (show i = 0 ∨ i = 1 ∨ i = 2 ∨ i = 3 by omega) with rfl | rfl | rfl | rfl <;> rfl), (fun i hi => by rcases (show i = 0 ∨ i = 1 ∨ i = 2 ∨ i = 3 by omega) with rfl | rfl | rfl | rfl <;> rfl), (fun i hi hne => by rcases (show i = 0 ∨ i = 1 ∨ i = 2 ∨ i = 3 by omega) with rfl | rfl | rfl | rfl <;> first | rfl | exact absurd rfl hne), h_31⟩))
          · refine ww_iload_n C dX11_sheet_37 1 rfl rfl ?_
            refine ww_ald (v := (some s3)) (t0 := 8) C 1 rfl rfl (vin rfl) k_fss_3 dX11_sheet_38 ?_
            refine ww_eq (st' := [.ref s3]) ?_ rfl rfl rfl
            refine ww_iload_n C dX11_sheet_39 2 rfl rfl ?_
            refine ww_iload_n C dX11_sheet_40 3 rfl rfl ?_
            refine ww_cv (wr := [(hx, .inr (11, [.ref h, .ref qp, .int (nI ac), .int (nI np), .ref qs, .ref qj, .ref ly, .ref qh, .ref kk, .int (nI kc), .ref rd, .ref pg, .int (nI pe), .int kn, .ref ss])), (ss, .inl (E.2.1 8, 4, .inr (.inr (.inr (.inr fss))))), (s0, .inr (9, [.int (nI s0t), .int (nI s0n), .int (nI s0l), .ref s0c])), (s0c, .inl (E.2.1 1, 48, .inl s0f)), (s1, .inr (9, [.int (nI s1t), .int (nI s1n), .int (nI s1l), .ref s1c])), (s1c, .inl (E.2.1 1, 48, .inl s1f)), (s2, .inr (9, [.int (nI s2t), .int (nI s2n), .int (nI s2l), .ref s2c])), (s2c, .inl (E.2.1 1, 48, .inl s2f))]) (k' := 0) (n' := 0) C (run_V (As := [.int (nI j_19), .int (nI j_20)]) (rest := []) C (s_begin X.2.1 E ro s3 (nI j_19) j_20 (nI s3t) (nI s3n) (nI s3l) s3c s3f (by omega)) mi_X9_begin wl_X11_335 rfl 0 9 rfl rfl rfl rfl rfl dX11_sheet_41) (roK hro) [8, 9] [0, 1, 2, 3, 4, 5, 6, 7] rfl rfl rfl rfl (fun uz hw => ?_)
            refine ex1 hw ?_
            clear hw
            intro f2_34 hw
            refine an1 hw ?_
            clear hw
            intro he_36 hw
            have h_35 := hw
            clear hw
            subst he_36
            refine ww_eq (ws' := [(hx, .inr (11, [.ref h, .ref qp, .int (nI ac), .int (nI np), .ref qs, .ref qj, .ref ly, .ref qh, .ref kk, .int (nI kc), .ref rd, .ref pg, .int (nI pe), .int kn, .ref ss])), (ss, .inl (E.2.1 8, 4, .inr (.inr (.inr (.inr fss))))), (s0, .inr (9, [.int (nI s0t), .int (nI s0n), .int (nI s0l), .ref s0c])), (s0c, .inl (E.2.1 1, 48, .inl s0f)), (s1, .inr (9, [.int (nI s1t), .int (nI s1n), .int (nI s1l), .ref s1c])), (s1c, .inl (E.2.1 1, 48, .inl s1f)), (s2, .inr (9, [.int (nI s2t), .int (nI s2n), .int (nI s2l), .ref s2c])), (s2c, .inl (E.2.1 1, 48, .inl s2f)), (s3, .inr (9, [.int 1, .int (nI j_20), .int (nI j_19), .ref s3c])), (s3c, .inl (E.2.1 1, 48, .inl f2_34))]) ?_ rfl rfl rfl
            refine ww_iconst (v := 1) C dX11_sheet_44 rfl ?_
            exact ww_iret (u := [(hx, .inr (11, [.ref h, .ref qp, .int (nI ac), .int (nI np), .ref qs, .ref qj, .ref ly, .ref qh, .ref kk, .int (nI kc), .ref rd, .ref pg, .int (nI pe), .int kn, .ref ss])), (ss, .inl (E.2.1 8, 4, .inr (.inr (.inr (.inr fss))))), (s0, .inr (9, [.int (nI s0t), .int (nI s0n), .int (nI s0l), .ref s0c])), (s0c, .inl (E.2.1 1, 48, .inl s0f)), (s1, .inr (9, [.int (nI s1t), .int (nI s1n), .int (nI s1l), .ref s1c])), (s1c, .inl (E.2.1 1, 48, .inl s1f)), (s2, .inr (9, [.int (nI s2t), .int (nI s2n), .int (nI s2l), .ref s2c])), (s2c, .inl (E.2.1 1, 48, .inl s2f)), (s3, .inr (9, [.int 1, .int (nI j_20), .int (nI j_19), .ref s3c])), (s3c, .inl (E.2.1 1, 48, .inl f2_34))]) C hT [0, 1, 2, 3, 4, 5, 6, 7, 8, 9] rfl rfl rfl rfl dX11_sheet_45 (Or.inr (Or.inr ⟨3, j_19, j_20, s0t, s0n, s0l, s1t, s1n, s1l, s2t, s2n, s2l, 1, j_20, j_19, s0f, s1f, s2f, f2_34, rfl, rfl, rfl, rfl, rfl, (by omega), (by omega), (by omega), (fun i hi => by rcases (show i = 0 ∨ i = 1 ∨ i = 2 ∨ i = 3 by omega) with rfl | rfl | rfl | rfl <;> rfl), (fun i hi => by rcases (show i = 0 ∨ i = 1 ∨ i = 2 ∨ i = 3 by omega) with rfl | rfl | rfl | rfl <;> rfl), (fun i hi => by rcases (show i = 0 ∨ i = 1 ∨ i = 2 ∨ i = 3 by omega) with rfl | rfl | rfl | rfl <;> rfl), (fun i hi hne => by rcases (show i = 0 ∨ i = 1 ∨ i = 2 ∨ i = 3 by omega) with rfl | rfl | rfl | rfl <;> first | rfl | exact absurd rfl hne), h_35⟩))
        · have zc_18 : v2.toInt < 0 := i_nle rfl rfl c_18
          refine ww_bipush (v := (-14)) C dX11_sheet_30 rfl ?_
          exact ww_iret (u := [(hx, .inr (11, [.ref h, .ref qp, .int (nI ac), .int (nI np), .ref qs, .ref qj, .ref ly, .ref qh, .ref kk, .int (nI kc), .ref rd, .ref pg, .int (nI pe), .int kn, .ref ss])), (ss, .inl (E.2.1 8, 4, .inr (.inr (.inr (.inr fss))))), (s0, .inr (9, [.int (nI s0t), .int (nI s0n), .int (nI s0l), .ref s0c])), (s0c, .inl (E.2.1 1, 48, .inl s0f)), (s1, .inr (9, [.int (nI s1t), .int (nI s1n), .int (nI s1l), .ref s1c])), (s1c, .inl (E.2.1 1, 48, .inl s1f)), (s2, .inr (9, [.int (nI s2t), .int (nI s2n), .int (nI s2l), .ref s2c])), (s2c, .inl (E.2.1 1, 48, .inl s2f)), (s3, .inr (9, [.int (nI s3t), .int (nI s3n), .int (nI s3l), .ref s3c])), (s3c, .inl (E.2.1 1, 48, .inl s3f))]) C hT [0, 1, 2, 3, 4, 5, 6, 7, 8, 9] rfl rfl rfl rfl dX11_sheet_32 (Or.inr (Or.inl ⟨rfl, rfl, (by first | assumption | omega | decide), (by first | assumption | omega | decide), (by first | assumption | omega | decide), (by first | assumption | omega | decide), (by first | assumption | omega | decide)⟩))
      · have zc_17 : v2.toInt > 48 := i_nle rfl rfl c_17
        refine ww_iconst (v := (-1)) C dX11_sheet_24 rfl ?_
        exact ww_iret (u := [(hx, .inr (11, [.ref h, .ref qp, .int (nI ac), .int (nI np), .ref qs, .ref qj, .ref ly, .ref qh, .ref kk, .int (nI kc), .ref rd, .ref pg, .int (nI pe), .int kn, .ref ss])), (ss, .inl (E.2.1 8, 4, .inr (.inr (.inr (.inr fss))))), (s0, .inr (9, [.int (nI s0t), .int (nI s0n), .int (nI s0l), .ref s0c])), (s0c, .inl (E.2.1 1, 48, .inl s0f)), (s1, .inr (9, [.int (nI s1t), .int (nI s1n), .int (nI s1l), .ref s1c])), (s1c, .inl (E.2.1 1, 48, .inl s1f)), (s2, .inr (9, [.int (nI s2t), .int (nI s2n), .int (nI s2l), .ref s2c])), (s2c, .inl (E.2.1 1, 48, .inl s2f)), (s3, .inr (9, [.int (nI s3t), .int (nI s3n), .int (nI s3l), .ref s3c])), (s3c, .inl (E.2.1 1, 48, .inl s3f))]) C hT [0, 1, 2, 3, 4, 5, 6, 7, 8, 9] rfl rfl rfl rfl dX11_sheet_25 (Or.inl ⟨rfl, rfl, (by first | assumption | omega | decide)⟩)
    · refine an2 hw ?_
      clear hw
      intro he_15 he_16 hw
      have h_14 := hw
      clear hw
      have he_15 := he_15.symm
      subst he_15
      subst he_16
      refine ww_eq (ws' := [(hx, .inr (11, [.ref h, .ref qp, .int (nI ac), .int (nI np), .ref qs, .ref qj, .ref ly, .ref qh, .ref kk, .int (nI kc), .ref rd, .ref pg, .int (nI pe), .int kn, .ref ss])), (ss, .inl (E.2.1 8, 4, .inr (.inr (.inr (.inr fss))))), (s0, .inr (9, [.int (nI s0t), .int (nI s0n), .int (nI s0l), .ref s0c])), (s0c, .inl (E.2.1 1, 48, .inl s0f)), (s1, .inr (9, [.int (nI s1t), .int (nI s1n), .int (nI s1l), .ref s1c])), (s1c, .inl (E.2.1 1, 48, .inl s1f)), (s2, .inr (9, [.int (nI s2t), .int (nI s2n), .int (nI s2l), .ref s2c])), (s2c, .inl (E.2.1 1, 48, .inl s2f)), (s3, .inr (9, [.int (nI s3t), .int (nI s3n), .int (nI s3l), .ref s3c])), (s3c, .inl (E.2.1 1, 48, .inl s3f))]) ?_ rfl rfl rfl
      refine ww_if_eq_t (tgt := 24) C dX11_sheet_15 (by decide) (rfl) ?_
      refine ww_iconst (v := (-1)) C dX11_sheet_24 rfl ?_
      exact ww_iret (u := [(hx, .inr (11, [.ref h, .ref qp, .int (nI ac), .int (nI np), .ref qs, .ref qj, .ref ly, .ref qh, .ref kk, .int (nI kc), .ref rd, .ref pg, .int (nI pe), .int kn, .ref ss])), (ss, .inl (E.2.1 8, 4, .inr (.inr (.inr (.inr fss))))), (s0, .inr (9, [.int (nI s0t), .int (nI s0n), .int (nI s0l), .ref s0c])), (s0c, .inl (E.2.1 1, 48, .inl s0f)), (s1, .inr (9, [.int (nI s1t), .int (nI s1n), .int (nI s1l), .ref s1c])), (s1c, .inl (E.2.1 1, 48, .inl s1f)), (s2, .inr (9, [.int (nI s2t), .int (nI s2n), .int (nI s2l), .ref s2c])), (s2c, .inl (E.2.1 1, 48, .inl s2f)), (s3, .inr (9, [.int (nI s3t), .int (nI s3n), .int (nI s3l), .ref s3c])), (s3c, .inl (E.2.1 1, 48, .inl s3f))]) C hT [0, 1, 2, 3, 4, 5, 6, 7, 8, 9] rfl rfl rfl rfl dX11_sheet_25 (Or.inl ⟨rfl, rfl, (by first | assumption | omega | decide)⟩)
  · refine an2 hw ?_
    clear hw
    intro he_7 he_8 hw
    have h_6 := hw
    clear hw
    have he_7 := he_7.symm
    subst he_7
    subst he_8
    refine ww_eq (ws' := [(hx, .inr (11, [.ref h, .ref qp, .int (nI ac), .int (nI np), .ref qs, .ref qj, .ref ly, .ref qh, .ref kk, .int (nI kc), .ref rd, .ref pg, .int (nI pe), .int kn, .ref ss])), (ss, .inl (E.2.1 8, 4, .inr (.inr (.inr (.inr fss))))), (s0, .inr (9, [.int (nI s0t), .int (nI s0n), .int (nI s0l), .ref s0c])), (s0c, .inl (E.2.1 1, 48, .inl s0f)), (s1, .inr (9, [.int (nI s1t), .int (nI s1n), .int (nI s1l), .ref s1c])), (s1c, .inl (E.2.1 1, 48, .inl s1f)), (s2, .inr (9, [.int (nI s2t), .int (nI s2n), .int (nI s2l), .ref s2c])), (s2c, .inl (E.2.1 1, 48, .inl s2f)), (s3, .inr (9, [.int (nI s3t), .int (nI s3n), .int (nI s3l), .ref s3c])), (s3c, .inl (E.2.1 1, 48, .inl s3f))]) ?_ rfl rfl rfl
    refine ww_if_eq_t (tgt := 24) C dX11_sheet_6 (by decide) (rfl) ?_
    refine ww_iconst (v := (-1)) C dX11_sheet_24 rfl ?_
    exact ww_iret (u := [(hx, .inr (11, [.ref h, .ref qp, .int (nI ac), .int (nI np), .ref qs, .ref qj, .ref ly, .ref qh, .ref kk, .int (nI kc), .ref rd, .ref pg, .int (nI pe), .int kn, .ref ss])), (ss, .inl (E.2.1 8, 4, .inr (.inr (.inr (.inr fss))))), (s0, .inr (9, [.int (nI s0t), .int (nI s0n), .int (nI s0l), .ref s0c])), (s0c, .inl (E.2.1 1, 48, .inl s0f)), (s1, .inr (9, [.int (nI s1t), .int (nI s1n), .int (nI s1l), .ref s1c])), (s1c, .inl (E.2.1 1, 48, .inl s1f)), (s2, .inr (9, [.int (nI s2t), .int (nI s2n), .int (nI s2l), .ref s2c])), (s2c, .inl (E.2.1 1, 48, .inl s2f)), (s3, .inr (9, [.int (nI s3t), .int (nI s3n), .int (nI s3l), .ref s3c])), (s3c, .inl (E.2.1 1, 48, .inl s3f))]) C hT [0, 1, 2, 3, 4, 5, 6, 7, 8, 9] rfl rfl rfl rfl dX11_sheet_25 (Or.inl ⟨rfl, rfl, (by first | assumption | omega | decide)⟩)
theorem dX11_write_0 : decode cX11_write 0 = .ok (.iload_n 1, 1) := by decide +kernel
theorem dX11_write_1 : decode cX11_write 1 = .ok (.iconst 0, 1) := by decide +kernel
theorem dX11_write_2 : decode cX11_write 2 = .ok (.iconst 3, 1) := by decide +kernel
theorem dX11_write_3 : decode cX11_write 3 = .ok (.invokestatic 76, 3) := by decide +kernel
theorem dX11_write_6 : decode cX11_write 6 = .ok (.ifCond .ne 5, 3) := by decide +kernel
theorem dX11_write_11 : decode cX11_write 11 = .ok (.aload_n 0, 1) := by decide +kernel
theorem dX11_write_12 : decode cX11_write 12 = .ok (.getfield 71, 3) := by decide +kernel
theorem dX11_write_15 : decode cX11_write 15 = .ok (.iload_n 1, 1) := by decide +kernel
theorem dX11_write_16 : decode cX11_write 16 = .ok (.aaload, 1) := by decide +kernel
theorem dX11_write_17 : decode cX11_write 17 = .ok (.getfield 338, 3) := by decide +kernel
theorem wf_X11_338 : Cond.fieldLink RX11 338 RX9 "isThere" "Z" ∈ TB := tbm (tq2 (List.mem_of_getElem? (i := 81) (by decide +kernel))) (by decide +kernel)
theorem fg_X11_338 : FG RX11 338 9 0 := ⟨RX9, TX9, 4, uw_X9, wf_X11_338, rfl, by decide, rfl⟩
theorem dX11_write_20 : decode cX11_write 20 = .ok (.ifCond .ne 6, 3) := by decide +kernel
theorem dX11_write_23 : decode cX11_write 23 = .ok (.bipush (-11), 2) := by decide +kernel
theorem dX11_write_25 : decode cX11_write 25 = .ok (.ireturn, 1) := by decide +kernel
theorem dX11_write_26 : decode cX11_write 26 = .ok (.iload_n 2, 1) := by decide +kernel
theorem dX11_write_27 : decode cX11_write 27 = .ok (.iconst 0, 1) := by decide +kernel
theorem dX11_write_28 : decode cX11_write 28 = .ok (.aload_n 0, 1) := by decide +kernel
theorem dX11_write_29 : decode cX11_write 29 = .ok (.getfield 71, 3) := by decide +kernel
theorem dX11_write_32 : decode cX11_write 32 = .ok (.iload_n 1, 1) := by decide +kernel
theorem dX11_write_33 : decode cX11_write 33 = .ok (.aaload, 1) := by decide +kernel
theorem dX11_write_34 : decode cX11_write 34 = .ok (.getfield 342, 3) := by decide +kernel
theorem wf_X11_342 : Cond.fieldLink RX11 342 RX9 "size" "I" ∈ TB := tbm (tq2 (List.mem_of_getElem? (i := 83) (by decide +kernel))) (by decide +kernel)
theorem fg_X11_342 : FG RX11 342 9 1 := ⟨RX9, TX9, 4, uw_X9, wf_X11_342, rfl, by decide, rfl⟩
theorem dX11_write_37 : decode cX11_write 37 = .ok (.iconst 1, 1) := by decide +kernel
theorem dX11_write_38 : decode cX11_write 38 = .ok (.isub, 1) := by decide +kernel
theorem dX11_write_39 : decode cX11_write 39 = .ok (.invokestatic 76, 3) := by decide +kernel
theorem dX11_write_42 : decode cX11_write 42 = .ok (.ifCond .ne 6, 3) := by decide +kernel
theorem dX11_write_48 : decode cX11_write 48 = .ok (.aload_n 0, 1) := by decide +kernel
theorem dX11_write_49 : decode cX11_write 49 = .ok (.getfield 71, 3) := by decide +kernel
theorem dX11_write_52 : decode cX11_write 52 = .ok (.iload_n 1, 1) := by decide +kernel
theorem dX11_write_53 : decode cX11_write 53 = .ok (.aaload, 1) := by decide +kernel
theorem dX11_write_54 : decode cX11_write 54 = .ok (.iload_n 2, 1) := by decide +kernel
theorem dX11_write_55 : decode cX11_write 55 = .ok (.iload_n 3, 1) := by decide +kernel
theorem dX11_write_56 : decode cX11_write 56 = .ok (.invokevirtual 343, 3) := by decide +kernel
theorem wl_X11_343 : Cond.methodLink RX11 343 yX9_put ∈ TB := tbm (tq5 (List.mem_of_getElem? (i := 42) (by decide +kernel))) (by decide +kernel)
theorem wc_X9_put : Cond.code yX9_put cX9_put 3 none ∈ TB := tbm (tq5 (List.mem_of_getElem? (i := 45) (rfl))) (by decide +kernel)
theorem wi_X9_put : Cond.instanceMethod yX9_put ∈ TB := tbm (tq5 (List.mem_of_getElem? (i := 43) (by decide +kernel))) (by decide +kernel)
theorem ws_X9_put : Cond.selects RX9 yX9_put yX9_put ∈ TB := tbm (tq5 (List.mem_of_getElem? (i := 44) (by decide +kernel))) (by decide +kernel)
theorem mi_X9_put : MI yX9_put cX9_put 3 none 2 := ⟨wc_X9_put, wn_X9, ⟨by decide +kernel, by decide +kernel, by decide +kernel⟩, wi_X9_put, ws_X9_put⟩
theorem dX11_write_59 : decode cX11_write 59 = .ok (.iconst 1, 1) := by decide +kernel
theorem dX11_write_60 : decode cX11_write 60 = .ok (.ireturn, 1) := by decide +kernel
theorem dX11_write_45 : decode cX11_write 45 = .ok (.bipush (-12), 2) := by decide +kernel
theorem dX11_write_47 : decode cX11_write 47 = .ok (.ireturn, 1) := by decide +kernel
theorem dX11_write_9 : decode cX11_write 9 = .ok (.iconst (-1), 1) := by decide +kernel
theorem dX11_write_10 : decode cX11_write 10 = .ok (.ireturn, 1) := by decide +kernel
set_option maxRecDepth 100000 in
set_option maxHeartbeats 4000000 in
theorem x_write (l : Launch) (E : EV) (ro : va_W) (hx : Nat) (v0 : Int32) (v1 : Int32) (v2 : Int32) (h : Nat) (qp : Nat) (ac : Nat) (np : Nat) (qs : Nat) (qj : Nat) (ly : Nat) (qh : Nat) (kk : Nat) (kc : Nat) (rd : Nat) (pg : Nat) (pe : Nat) (kn : Int32) (ss : Nat) (fss : Nat → Option Nat) (s0 : Nat) (s1 : Nat) (s2 : Nat) (s3 : Nat) (s0t : Nat) (s0n : Nat) (s0l : Nat) (s0c : Nat) (s0f : Nat → Int32) (s1t : Nat) (s1n : Nat) (s1l : Nat) (s1c : Nat) (s1f : Nat → Int32) (s2t : Nat) (s2n : Nat) (s2l : Nat) (s2c : Nat) (s2f : Nat → Int32) (s3t : Nat) (s3n : Nat) (s3l : Nat) (s3c : Nat) (s3f : Nat → Int32) (k_fss_0 : fss 0 = some s0) (k_fss_1 : fss 1 = some s1) (k_fss_2 : fss 2 = some s2) (k_fss_3 : fss 3 = some s3) (hs0t : s0t ≤ 1) (hs0n : s0n ≤ 48) (hs0l : s0l ≤ 2) (hs1t : s1t ≤ 1) (hs1n : s1n ≤ 48) (hs1l : s1l ≤ 2) (hs2t : s2t ≤ 1) (hs2n : s2n ≤ 48) (hs2l : s2l ≤ 2) (hs3t : s3t ≤ 1) (hs3n : s3n ≤ 48) (hs3l : s3l ≤ 2) : CT l yX11_write (Cond.code yX11_write cX11_write 4 (some .int) :: TB) ({ frames := 1, cells := 0, slots := 0, locals := 22 }) E ro [.ref hx, .int v0, .int v1, .int v2] [(hx, .inr (11, [.ref h, .ref qp, .int (nI ac), .int (nI np), .ref qs, .ref qj, .ref ly, .ref qh, .ref kk, .int (nI kc), .ref rd, .ref pg, .int (nI pe), .int kn, .ref ss])), (ss, .inl (E.2.1 8, 4, .inr (.inr (.inr (.inr fss))))), (s0, .inr (9, [.int (nI s0t), .int (nI s0n), .int (nI s0l), .ref s0c])), (s0c, .inl (E.2.1 1, 48, .inl s0f)), (s1, .inr (9, [.int (nI s1t), .int (nI s1n), .int (nI s1l), .ref s1c])), (s1c, .inl (E.2.1 1, 48, .inl s1f)), (s2, .inr (9, [.int (nI s2t), .int (nI s2n), .int (nI s2l), .ref s2c])), (s2c, .inl (E.2.1 1, 48, .inl s2f)), (s3, .inr (9, [.int (nI s3t), .int (nI s3n), .int (nI s3l), .ref s3c])), (s3c, .inl (E.2.1 1, 48, .inl s3f))] (Qi E (fun (rz : Int32) uz => (rz = (-1) ∧ uz = [(hx, .inr (11, [.ref h, .ref qp, .int (nI ac), .int (nI np), .ref qs, .ref qj, .ref ly, .ref qh, .ref kk, .int (nI kc), .ref rd, .ref pg, .int (nI pe), .int kn, .ref ss])), (ss, .inl (E.2.1 8, 4, .inr (.inr (.inr (.inr fss))))), (s0, .inr (9, [.int (nI s0t), .int (nI s0n), .int (nI s0l), .ref s0c])), (s0c, .inl (E.2.1 1, 48, .inl s0f)), (s1, .inr (9, [.int (nI s1t), .int (nI s1n), .int (nI s1l), .ref s1c])), (s1c, .inl (E.2.1 1, 48, .inl s1f)), (s2, .inr (9, [.int (nI s2t), .int (nI s2n), .int (nI s2l), .ref s2c])), (s2c, .inl (E.2.1 1, 48, .inl s2f)), (s3, .inr (9, [.int (nI s3t), .int (nI s3n), .int (nI s3l), .ref s3c])), (s3c, .inl (E.2.1 1, 48, .inl s3f))] ∧ (v0.toInt < 0 ∨ 3 < v0.toInt)) ∨ (∃ (k_ : Nat), rz = (-11) ∧ uz = [(hx, .inr (11, [.ref h, .ref qp, .int (nI ac), .int (nI np), .ref qs, .ref qj, .ref ly, .ref qh, .ref kk, .int (nI kc), .ref rd, .ref pg, .int (nI pe), .int kn, .ref ss])), (ss, .inl (E.2.1 8, 4, .inr (.inr (.inr (.inr fss))))), (s0, .inr (9, [.int (nI s0t), .int (nI s0n), .int (nI s0l), .ref s0c])), (s0c, .inl (E.2.1 1, 48, .inl s0f)), (s1, .inr (9, [.int (nI s1t), .int (nI s1n), .int (nI s1l), .ref s1c])), (s1c, .inl (E.2.1 1, 48, .inl s1f)), (s2, .inr (9, [.int (nI s2t), .int (nI s2n), .int (nI s2l), .ref s2c])), (s2c, .inl (E.2.1 1, 48, .inl s2f)), (s3, .inr (9, [.int (nI s3t), .int (nI s3n), .int (nI s3l), .ref s3c])), (s3c, .inl (E.2.1 1, 48, .inl s3f))] ∧ (v0 = nI k_) ∧ (k_ ≤ 3) ∧ (pick4 s0t s1t s2t s3t k_ = 0)) ∨ (∃ (k_ : Nat), rz = (-12) ∧ uz = [(hx, .inr (11, [.ref h, .ref qp, .int (nI ac), .int (nI np), .ref qs, .ref qj, .ref ly, .ref qh, .ref kk, .int (nI kc), .ref rd, .ref pg, .int (nI pe), .int kn, .ref ss])), (ss, .inl (E.2.1 8, 4, .inr (.inr (.inr (.inr fss))))), (s0, .inr (9, [.int (nI s0t), .int (nI s0n), .int (nI s0l), .ref s0c])), (s0c, .inl (E.2.1 1, 48, .inl s0f)), (s1, .inr (9, [.int (nI s1t), .int (nI s1n), .int (nI s1l), .ref s1c])), (s1c, .inl (E.2.1 1, 48, .inl s1f)), (s2, .inr (9, [.int (nI s2t), .int (nI s2n), .int (nI s2l), .ref s2c])), (s2c, .inl (E.2.1 1, 48, .inl s2f)), (s3, .inr (9, [.int (nI s3t), .int (nI s3n), .int (nI s3l), .ref s3c])), (s3c, .inl (E.2.1 1, 48, .inl s3f))] ∧ (v0 = nI k_) ∧ (k_ ≤ 3) ∧ (pick4 s0t s1t s2t s3t k_ = 1) ∧ (v1.toInt < 0 ∨ ((pick4 s0n s1n s2n s3n k_ : Nat) : Int) ≤ v1.toInt)) ∨ (∃ (k_ : Nat) (i_ : Nat) (s0fz : Nat → Int32) (s1fz : Nat → Int32) (s2fz : Nat → Int32) (s3fz : Nat → Int32), rz = 1 ∧ uz = [(hx, .inr (11, [.ref h, .ref qp, .int (nI ac), .int (nI np), .ref qs, .ref qj, .ref ly, .ref qh, .ref kk, .int (nI kc), .ref rd, .ref pg, .int (nI pe), .int kn, .ref ss])), (ss, .inl (E.2.1 8, 4, .inr (.inr (.inr (.inr fss))))), (s0, .inr (9, [.int (nI s0t), .int (nI s0n), .int (nI s0l), .ref s0c])), (s0c, .inl (E.2.1 1, 48, .inl s0fz)), (s1, .inr (9, [.int (nI s1t), .int (nI s1n), .int (nI s1l), .ref s1c])), (s1c, .inl (E.2.1 1, 48, .inl s1fz)), (s2, .inr (9, [.int (nI s2t), .int (nI s2n), .int (nI s2l), .ref s2c])), (s2c, .inl (E.2.1 1, 48, .inl s2fz)), (s3, .inr (9, [.int (nI s3t), .int (nI s3n), .int (nI s3l), .ref s3c])), (s3c, .inl (E.2.1 1, 48, .inl s3fz))] ∧ (v0 = nI k_) ∧ (k_ ≤ 3) ∧ (pick4 s0t s1t s2t s3t k_ = 1) ∧ (0 ≤ v1.toInt ∧ v1.toInt < ((pick4 s0n s1n s2n s3n k_ : Nat) : Int)) ∧ (v1 = nI i_) ∧ (i_ < 48) ∧ (∀ i, i < 4 → i ≠ k_ → pick4 s0fz s1fz s2fz s3fz i = pick4 s0f s1f s2f s3f i) ∧ (upd (pick4 s0f s1f s2f s3f k_) i_ (putv (pick4 s0l s1l s2l s3l k_) v2) = pick4 s0fz s1fz s2fz s3fz k_)))) 0 0 := by
  refine ct_of rfl rfl ?_
  intro X C hT hin hro
  show WW X 4 E 0 [(0, .ref hx), (1, .int v0), (2, .int v1), (3, .int v2)] [] [(hx, .inr (11, [.ref h, .ref qp, .int (nI ac), .int (nI np), .ref qs, .ref qj, .ref ly, .ref qh, .ref kk, .int (nI kc), .ref rd, .ref pg, .int (nI pe), .int kn, .ref ss])), (ss, .inl (E.2.1 8, 4, .inr (.inr (.inr (.inr fss))))), (s0, .inr (9, [.int (nI s0t), .int (nI s0n), .int (nI s0l), .ref s0c])), (s0c, .inl (E.2.1 1, 48, .inl s0f)), (s1, .inr (9, [.int (nI s1t), .int (nI s1n), .int (nI s1l), .ref s1c])), (s1c, .inl (E.2.1 1, 48, .inl s1f)), (s2, .inr (9, [.int (nI s2t), .int (nI s2n), .int (nI s2l), .ref s2c])), (s2c, .inl (E.2.1 1, 48, .inl s2f)), (s3, .inr (9, [.int (nI s3t), .int (nI s3n), .int (nI s3l), .ref s3c])), (s3c, .inl (E.2.1 1, 48, .inl s3f))] 0 0
  refine ww_iload_n C dX11_write_0 1 rfl rfl ?_
  refine ww_iconst (v := 0) C dX11_write_1 rfl ?_
  refine ww_iconst (v := 3) C dX11_write_2 rfl ?_
  refine ww_ci (wr := [(hx, .inr (11, [.ref h, .ref qp, .int (nI ac), .int (nI np), .ref qs, .ref qj, .ref ly, .ref qh, .ref kk, .int (nI kc), .ref rd, .ref pg, .int (nI pe), .int kn, .ref ss])), (ss, .inl (E.2.1 8, 4, .inr (.inr (.inr (.inr fss))))), (s0, .inr (9, [.int (nI s0t), .int (nI s0n), .int (nI s0l), .ref s0c])), (s0c, .inl (E.2.1 1, 48, .inl s0f)), (s1, .inr (9, [.int (nI s1t), .int (nI s1n), .int (nI s1l), .ref s1c])), (s1c, .inl (E.2.1 1, 48, .inl s1f)), (s2, .inr (9, [.int (nI s2t), .int (nI s2n), .int (nI s2l), .ref s2c])), (s2c, .inl (E.2.1 1, 48, .inl s2f)), (s3, .inr (9, [.int (nI s3t), .int (nI s3n), .int (nI s3l), .ref s3c])), (s3c, .inl (E.2.1 1, 48, .inl s3f))]) (k' := 0) (n' := 0) C (run_S (As := [.int v0, .int 0, .int 3]) (rest := []) C (c_within X.2.1 E ro v0 0 3 v0.toInt 0 3 rfl rfl rfl) ms_X11_within wl_X11_76 rfl rfl rfl rfl dX11_write_3) (roK hro) [] [0, 1, 2, 3, 4, 5, 6, 7, 8, 9] rfl rfl rfl rfl (fun r_1 uz hw => ?_)
  rcases hw with hw | hw
  · refine an3 hw ?_
    clear hw
    intro he_4 he_5 h_2 hw
    have h_3 := hw
    clear hw
    have he_4 := he_4.symm
    subst he_4
    subst he_5
    refine ww_eq (ws' := [(hx, .inr (11, [.ref h, .ref qp, .int (nI ac), .int (nI np), .ref qs, .ref qj, .ref ly, .ref qh, .ref kk, .int (nI kc), .ref rd, .ref pg, .int (nI pe), .int kn, .ref ss])), (ss, .inl (E.2.1 8, 4, .inr (.inr (.inr (.inr fss))))), (s0, .inr (9, [.int (nI s0t), .int (nI s0n), .int (nI s0l), .ref s0c])), (s0c, .inl (E.2.1 1, 48, .inl s0f)), (s1, .inr (9, [.int (nI s1t), .int (nI s1n), .int (nI s1l), .ref s1c])), (s1c, .inl (E.2.1 1, 48, .inl s1f)), (s2, .inr (9, [.int (nI s2t), .int (nI s2n), .int (nI s2l), .ref s2c])), (s2c, .inl (E.2.1 1, 48, .inl s2f)), (s3, .inr (9, [.int (nI s3t), .int (nI s3n), .int (nI s3l), .ref s3c])), (s3c, .inl (E.2.1 1, 48, .inl s3f))]) ?_ rfl rfl rfl
    refine ww_if_ne_t (tgt := 11) C dX11_write_6 (by decide) (by decide) ?_
    refine ww_aload_n C dX11_write_11 0 rfl rfl ?_
    refine ww_get C fg_X11_71 0 rfl rfl dX11_write_12 ?_
    rcases sp_0_3 (x := v0) (by omega) (by omega) with rfl | rfl | rfl | rfl
    · refine ww_iload_n C dX11_write_15 1 rfl rfl ?_
      refine ww_ald (v := (some s0)) (t0 := 8) C 1 rfl rfl (vin rfl) k_fss_0 dX11_write_16 ?_
      refine ww_eq (st' := [.ref s0]) ?_ rfl rfl rfl
      refine ww_get C fg_X11_338 2 rfl rfl dX11_write_17 ?_
      rcases (show s0t = 0 ∨ s0t = 1 by omega) with rfl | rfl
      · refine ww_if_ne_f (tgt := 26) C dX11_write_20 (by decide) (rfl) ?_
        refine ww_bipush (v := (-11)) C dX11_write_23 rfl ?_
        exact ww_iret (u := [(hx, .inr (11, [.ref h, .ref qp, .int (nI ac), .int (nI np), .ref qs, .ref qj, .ref ly, .ref qh, .ref kk, .int (nI kc), .ref rd, .ref pg, .int (nI pe), .int kn, .ref ss])), (ss, .inl (E.2.1 8, 4, .inr (.inr (.inr (.inr fss))))), (s0, .inr (9, [.int 0, .int (nI s0n), .int (nI s0l), .ref s0c])), (s0c, .inl (E.2.1 1, 48, .inl s0f)), (s1, .inr (9, [.int (nI s1t), .int (nI s1n), .int (nI s1l), .ref s1c])), (s1c, .inl (E.2.1 1, 48, .inl s1f)), (s2, .inr (9, [.int (nI s2t), .int (nI s2n), .int (nI s2l), .ref s2c])), (s2c, .inl (E.2.1 1, 48, .inl s2f)), (s3, .inr (9, [.int (nI s3t), .int (nI s3n), .int (nI s3l), .ref s3c])), (s3c, .inl (E.2.1 1, 48, .inl s3f))]) C hT [0, 1, 2, 3, 4, 5, 6, 7, 8, 9] rfl rfl rfl rfl dX11_write_25 (Or.inr (Or.inl ⟨0, rfl, rfl, rfl, (by omega), rfl⟩))
      · refine ww_if_ne_t (tgt := 26) C dX11_write_20 (by decide) (by decide) ?_
        refine ww_iload_n C dX11_write_26 2 rfl rfl ?_
        refine ww_iconst (v := 0) C dX11_write_27 rfl ?_
        refine ww_aload_n C dX11_write_28 0 rfl rfl ?_
        refine ww_get C fg_X11_71 0 rfl rfl dX11_write_29 ?_
        refine ww_iload_n C dX11_write_32 1 rfl rfl ?_
        refine ww_ald (v := (some s0)) (t0 := 8) C 1 rfl rfl (vin rfl) k_fss_0 dX11_write_33 ?_
        refine ww_eq (st' := [.ref s0, .int 0, .int v1]) ?_ rfl rfl rfl
        refine ww_get C fg_X11_342 2 rfl rfl dX11_write_34 ?_
        refine ww_iconst (v := 1) C dX11_write_37 rfl ?_
        obtain ⟨x_9, ex_9⟩ : ∃ z : Int32, (nI s0n) - (1 : Int32) = z := ⟨_, rfl⟩
        have zx_9 : x_9.toInt = ((s0n : Nat) : Int) - 1 := by rw [← ex_9]; exact i_sub (nI_toInt (n := s0n) (by omega)) rfl (by omega) (by omega)
        refine ww_isub (v := x_9) C dX11_write_38 ex_9 ?_
        refine ww_ci (wr := [(hx, .inr (11, [.ref h, .ref qp, .int (nI ac), .int (nI np), .ref qs, .ref qj, .ref ly, .ref qh, .ref kk, .int (nI kc), .ref rd, .ref pg, .int (nI pe), .int kn, .ref ss])), (ss, .inl (E.2.1 8, 4, .inr (.inr (.inr (.inr fss))))), (s0, .inr (9, [.int 1, .int (nI s0n), .int (nI s0l), .ref s0c])), (s0c, .inl (E.2.1 1, 48, .inl s0f)), (s1, .inr (9, [.int (nI s1t), .int (nI s1n), .int (nI s1l), .ref s1c])), (s1c, .inl (E.2.1 1, 48, .inl s1f)), (s2, .inr (9, [.int (nI s2t), .int (nI s2n), .int (nI s2l), .ref s2c])), (s2c, .inl (E.2.1 1, 48, .inl s2f)), (s3, .inr (9, [.int (nI s3t), .int (nI s3n), .int (nI s3l), .ref s3c])), (s3c, .inl (E.2.1 1, 48, .inl s3f))]) (k' := 0) (n' := 0) C (run_S (As := [.int v1, .int 0, .int x_9]) (rest := []) C (c_within X.2.1 E ro v1 0 x_9 v1.toInt 0 (((s0n : Nat) : Int) - 1) rfl rfl zx_9) ms_X11_within wl_X11_76 rfl rfl rfl rfl dX11_write_39) (roK hro) [] [0, 1, 2, 3, 4, 5, 6, 7, 8, 9] rfl rfl rfl rfl (fun r_10 uz hw => ?_)
        rcases hw with hw | hw
        · refine an3 hw ?_
          clear hw
          intro he_13 he_14 h_11 hw
          have h_12 := hw
          clear hw
          have he_13 := he_13.symm
          subst he_13
          subst he_14
          refine ww_eq (ws' := [(hx, .inr (11, [.ref h, .ref qp, .int (nI ac), .int (nI np), .ref qs, .ref qj, .ref ly, .ref qh, .ref kk, .int (nI kc), .ref rd, .ref pg, .int (nI pe), .int kn, .ref ss])), (ss, .inl (E.2.1 8, 4, .inr (.inr (.inr (.inr fss))))), (s0, .inr (9, [.int 1, .int (nI s0n), .int (nI s0l), .ref s0c])), (s0c, .inl (E.2.1 1, 48, .inl s0f)), (s1, .inr (9, [.int (nI s1t), .int (nI s1n), .int (nI s1l), .ref s1c])), (s1c, .inl (E.2.1 1, 48, .inl s1f)), (s2, .inr (9, [.int (nI s2t), .int (nI s2n), .int (nI s2l), .ref s2c])), (s2c, .inl (E.2.1 1, 48, .inl s2f)), (s3, .inr (9, [.int (nI s3t), .int (nI s3n), .int (nI s3l), .ref s3c])), (s3c, .inl (E.2.1 1, 48, .inl s3f))]) ?_ rfl rfl rfl
          refine ww_if_ne_t (tgt := 48) C dX11_write_42 (by decide) (by decide) ?_
          obtain ⟨j_18, hj_18, rfl⟩ := i_nat (x := v1) (N := 47) (by omega) (by omega)
          have hzj_18 := nI_toInt (n := j_18) (by omega)
          refine ww_aload_n C dX11_write_48 0 rfl rfl ?_
          refine ww_get C fg_X11_71 0 rfl rfl dX11_write_49 ?_
          refine ww_iload_n C dX11_write_52 1 rfl rfl ?_
          refine ww_ald (v := (some s0)) (t0 := 8) C 1 rfl rfl (vin rfl) k_fss_0 dX11_write_53 ?_
          refine ww_eq (st' := [.ref s0]) ?_ rfl rfl rfl
          refine ww_iload_n C dX11_write_54 2 rfl rfl ?_
          refine ww_iload_n C dX11_write_55 3 rfl rfl ?_
          refine ww_cv (wr := [(hx, .inr (11, [.ref h, .ref qp, .int (nI ac), .int (nI np), .ref qs, .ref qj, .ref ly, .ref qh, .ref kk, .int (nI kc), .ref rd, .ref pg, .int (nI pe), .int kn, .ref ss])), (ss, .inl (E.2.1 8, 4, .inr (.inr (.inr (.inr fss))))), (s1, .inr (9, [.int (nI s1t), .int (nI s1n), .int (nI s1l), .ref s1c])), (s1c, .inl (E.2.1 1, 48, .inl s1f)), (s2, .inr (9, [.int (nI s2t), .int (nI s2n), .int (nI s2l), .ref s2c])), (s2c, .inl (E.2.1 1, 48, .inl s2f)), (s3, .inr (9, [.int (nI s3t), .int (nI s3n), .int (nI s3l), .ref s3c])), (s3c, .inl (E.2.1 1, 48, .inl s3f))]) (k' := 0) (n' := 0) C (run_V (As := [.int (nI j_18), .int v2]) (rest := []) C (s_put X.2.1 E ro s0 j_18 v2 s0n s0l s0c s0f (by omega) (by omega)) mi_X9_put wl_X11_343 rfl 0 9 rfl rfl rfl rfl rfl dX11_write_56) (roK hro) [2, 3] [0, 1, 4, 5, 6, 7, 8, 9] rfl rfl rfl rfl (fun uz hw => ?_)
          refine ex1 hw ?_
          clear hw
          intro f2_20 hw
          refine an1 hw ?_
          clear hw
          intro he_22 hw
          have h_21 := hw
          clear hw
          subst he_22
          refine ww_eq (ws' := [(hx, .inr (11, [.ref h, .ref qp, .int (nI ac), .int (nI np), .ref qs, .ref qj, .ref ly, .ref qh, .ref kk, .int (nI kc), .ref rd, .ref pg, .int (nI pe), .int kn, .ref ss])), (ss, .inl (E.2.1 8, 4, .inr (.inr (.inr (.inr fss))))), (s1, .inr (9, [.int (nI s1t), .int (nI s1n), .int (nI s1l), .ref s1c])), (s1c, .inl (E.2.1 1, 48, .inl s1f)), (s2, .inr (9, [.int (nI s2t), .int (nI s2n), .int (nI s2l), .ref s2c])), (s2c, .inl (E.2.1 1, 48, .inl s2f)), (s3, .inr (9, [.int (nI s3t), .int (nI s3n), .int (nI s3l), .ref s3c])), (s3c, .inl (E.2.1 1, 48, .inl s3f)), (s0, .inr (9, [.int 1, .int (nI s0n), .int (nI s0l), .ref s0c])), (s0c, .inl (E.2.1 1, 48, .inl f2_20))]) ?_ rfl rfl rfl
          refine ww_iconst (v := 1) C dX11_write_59 rfl ?_
          exact ww_iret (u := [(hx, .inr (11, [.ref h, .ref qp, .int (nI ac), .int (nI np), .ref qs, .ref qj, .ref ly, .ref qh, .ref kk, .int (nI kc), .ref rd, .ref pg, .int (nI pe), .int kn, .ref ss])), (ss, .inl (E.2.1 8, 4, .inr (.inr (.inr (.inr fss))))), (s0, .inr (9, [.int 1, .int (nI s0n), .int (nI s0l), .ref s0c])), (s0c, .inl (E.2.1 1, 48, .inl f2_20)), (s1, .inr (9, [.int (nI s1t), .int (nI s1n), .int (nI s1l), .ref s1c])), (s1c, .inl (E.2.1 1, 48, .inl s1f)), (s2, .inr (9, [.int (nI s2t), .int (nI s2n), .int (nI s2l), .ref s2c])), (s2c, .inl (E.2.1 1, 48, .inl s2f)), (s3, .inr (9, [.int (nI s3t), .int (nI s3n), .int (nI s3l), .ref s3c])), (s3c, .inl (E.2.1 1, 48, .inl s3f))]) C hT [0, 1, 8, 9, 2, 3, 4, 5, 6, 7] rfl rfl rfl rfl dX11_write_60 (Or.inr (Or.inr (Or.inr ⟨0, j_18, f2_20, s1f, s2f, s3f, rfl, rfl, rfl, (by omega), rfl, (by simp only [pick4]; omega), rfl, (by omega), (fun i hi hne => by rcases (show i = 0 ∨ i = 1 ∨ i = 2 ∨ i = 3 by omega) with rfl | rfl | rfl | rfl <;> first | rfl | exact absurd rfl hne), h_21⟩)))
        · refine an2 hw ?_
          clear hw
          intro he_16 he_17 hw
          have h_15 := hw
          clear hw
          have he_16 := he_16.symm
          subst he_16
          subst he_17
          refine ww_eq (ws' := [(hx, .inr (11, [.ref h, .ref qp, .int (nI ac), .int (nI np), .ref qs, .ref qj, .ref ly, .ref qh, .ref kk, .int (nI kc), .ref rd, .ref pg, .int (nI pe), .int kn, .ref ss])), (ss, .inl (E.2.1 8, 4, .inr (.inr (.inr (.inr fss))))), (s0, .inr (9, [.int 1, .int (nI s0n), .int (nI s0l), .ref s0c])), (s0c, .inl (E.2.1 1, 48, .inl s0f)), (s1, .inr (9, [.int (nI s1t), .int (nI s1n), .int (nI s1l), .ref s1c])), (s1c, .inl (E.2.1 1, 48, .inl s1f)), (s2, .inr (9, [.int (nI s2t), .int (nI s2n), .int (nI s2l), .ref s2c])), (s2c, .inl (E.2.1 1, 48, .inl s2f)), (s3, .inr (9, [.int (nI s3t), .int (nI s3n), .int (nI s3l), .ref s3c])), (s3c, .inl (E.2.1 1, 48, .inl s3f))]) ?_ rfl rfl rfl
          refine ww_if_ne_f (tgt := 48) C dX11_write_42 (by decide) (rfl) ?_
          refine ww_bipush (v := (-12)) C dX11_write_45 rfl ?_
          exact ww_iret (u := [(hx, .inr (11, [.ref h, .ref qp, .int (nI ac), .int (nI np), .ref qs, .ref qj, .ref ly, .ref qh, .ref kk, .int (nI kc), .ref rd, .ref pg, .int (nI pe), .int kn, .ref ss])), (ss, .inl (E.2.1 8, 4, .inr (.inr (.inr (.inr fss))))), (s0, .inr (9, [.int 1, .int (nI s0n), .int (nI s0l), .ref s0c])), (s0c, .inl (E.2.1 1, 48, .inl s0f)), (s1, .inr (9, [.int (nI s1t), .int (nI s1n), .int (nI s1l), .ref s1c])), (s1c, .inl (E.2.1 1, 48, .inl s1f)), (s2, .inr (9, [.int (nI s2t), .int (nI s2n), .int (nI s2l), .ref s2c])), (s2c, .inl (E.2.1 1, 48, .inl s2f)), (s3, .inr (9, [.int (nI s3t), .int (nI s3n), .int (nI s3l), .ref s3c])), (s3c, .inl (E.2.1 1, 48, .inl s3f))]) C hT [0, 1, 2, 3, 4, 5, 6, 7, 8, 9] rfl rfl rfl rfl dX11_write_47 (Or.inr (Or.inr (Or.inl ⟨0, rfl, rfl, rfl, (by omega), rfl, (by simp only [pick4]; omega)⟩)))
    · refine ww_iload_n C dX11_write_15 1 rfl rfl ?_
      refine ww_ald (v := (some s1)) (t0 := 8) C 1 rfl rfl (vin rfl) k_fss_1 dX11_write_16 ?_
      refine ww_eq (st' := [.ref s1]) ?_ rfl rfl rfl
      refine ww_get C fg_X11_338 4 rfl rfl dX11_write_17 ?_
      rcases (show s1t = 0 ∨ s1t = 1 by omega) with rfl | rfl
      · refine ww_if_ne_f (tgt := 26) C dX11_write_20 (by decide) (rfl) ?_
        refine ww_bipush (v := (-11)) C dX11_write_23 rfl ?_
        exact ww_iret (u := [(hx, .inr (11, [.ref h, .ref qp, .int (nI ac), .int (nI np), .ref qs, .ref qj, .ref ly, .ref qh, .ref kk, .int (nI kc), .ref rd, .ref pg, .int (nI pe), .int kn, .ref ss])), (ss, .inl (E.2.1 8, 4, .inr (.inr (.inr (.inr fss))))), (s0, .inr (9, [.int (nI s0t), .int (nI s0n), .int (nI s0l), .ref s0c])), (s0c, .inl (E.2.1 1, 48, .inl s0f)), (s1, .inr (9, [.int 0, .int (nI s1n), .int (nI s1l), .ref s1c])), (s1c, .inl (E.2.1 1, 48, .inl s1f)), (s2, .inr (9, [.int (nI s2t), .int (nI s2n), .int (nI s2l), .ref s2c])), (s2c, .inl (E.2.1 1, 48, .inl s2f)), (s3, .inr (9, [.int (nI s3t), .int (nI s3n), .int (nI s3l), .ref s3c])), (s3c, .inl (E.2.1 1, 48, .inl s3f))]) C hT [0, 1, 2, 3, 4, 5, 6, 7, 8, 9] rfl rfl rfl rfl dX11_write_25 (Or.inr (Or.inl ⟨1, rfl, rfl, rfl, (by omega), rfl⟩))
      · refine ww_if_ne_t (tgt := 26) C dX11_write_20 (by decide) (by decide) ?_
        refine ww_iload_n C dX11_write_26 2 rfl rfl ?_
        refine ww_iconst (v := 0) C dX11_write_27 rfl ?_
        refine ww_aload_n C dX11_write_28 0 rfl rfl ?_
        refine ww_get C fg_X11_71 0 rfl rfl dX11_write_29 ?_
        refine ww_iload_n C dX11_write_32 1 rfl rfl ?_
        refine ww_ald (v := (some s1)) (t0 := 8) C 1 rfl rfl (vin rfl) k_fss_1 dX11_write_33 ?_
        refine ww_eq (st' := [.ref s1, .int 0, .int v1]) ?_ rfl rfl rfl
        refine ww_get C fg_X11_342 4 rfl rfl dX11_write_34 ?_
        refine ww_iconst (v := 1) C dX11_write_37 rfl ?_
        obtain ⟨x_23, ex_23⟩ : ∃ z : Int32, (nI s1n) - (1 : Int32) = z := ⟨_, rfl⟩
        have zx_23 : x_23.toInt = ((s1n : Nat) : Int) - 1 := by rw [← ex_23]; exact i_sub (nI_toInt (n := s1n) (by omega)) rfl (by omega) (by omega)
        refine ww_isub (v := x_23) C dX11_write_38 ex_23 ?_
        refine ww_ci (wr := [(hx, .inr (11, [.ref h, .ref qp, .int (nI ac), .int (nI np), .ref qs, .ref qj, .ref ly, .ref qh, .ref kk, .int (nI kc), .ref rd, .ref pg, .int (nI pe), .int kn, .ref ss])), (ss, .inl (E.2.1 8, 4, .inr (.inr (.inr (.inr fss))))), (s0, .inr (9, [.int (nI s0t), .int (nI s0n), .int (nI s0l), .ref s0c])), (s0c, .inl (E.2.1 1, 48, .inl s0f)), (s1, .inr (9, [.int 1, .int (nI s1n), .int (nI s1l), .ref s1c])), (s1c, .inl (E.2.1 1, 48, .inl s1f)), (s2, .inr (9, [.int (nI s2t), .int (nI s2n), .int (nI s2l), .ref s2c])), (s2c, .inl (E.2.1 1, 48, .inl s2f)), (s3, .inr (9, [.int (nI s3t), .int (nI s3n), .int (nI s3l), .ref s3c])), (s3c, .inl (E.2.1 1, 48, .inl s3f))]) (k' := 0) (n' := 0) C (run_S (As := [.int v1, .int 0, .int x_23]) (rest := []) C (c_within X.2.1 E ro v1 0 x_23 v1.toInt 0 (((s1n : Nat) : Int) - 1) rfl rfl zx_23) ms_X11_within wl_X11_76 rfl rfl rfl rfl dX11_write_39) (roK hro) [] [0, 1, 2, 3, 4, 5, 6, 7, 8, 9] rfl rfl rfl rfl (fun r_24 uz hw => ?_)
        rcases hw with hw | hw
        · refine an3 hw ?_
          clear hw
          intro he_27 he_28 h_25 hw
          have h_26 := hw
          clear hw
          have he_27 := he_27.symm
          subst he_27
          subst he_28
          refine ww_eq (ws' := [(hx, .inr (11, [.ref h, .ref qp, .int (nI ac), .int (nI np), .ref qs, .ref qj, .ref ly, .ref qh, .ref kk, .int (nI kc), .ref rd, .ref pg, .int (nI pe), .int kn, .ref ss])), (ss, .inl (E.2.1 8, 4, .inr (.inr (.inr (.inr fss))))), (s0, .inr (9, [.int (nI s0t), .int (nI s0n), .int (nI s0l), .ref s0c])), (s0c, .inl (E.2.1 1, 48, .inl s0f)), (s1, .inr (9, [.int 1, .int (nI s1n), .int (nI s1l), .ref s1c])), (s1c, .inl (E.2.1 1, 48, .inl s1f)), (s2, .inr (9, [.int (nI s2t), .int (nI s2n), .int (nI s2l), .ref s2c])), (s2c, .inl (E.2.1 1, 48, .inl s2f)), (s3, .inr (9, [.int (nI s3t), .int (nI s3n), .int (nI s3l), .ref s3c])), (s3c, .inl (E.2.1 1, 48, .inl s3f))]) ?_ rfl rfl rfl
          refine ww_if_ne_t (tgt := 48) C dX11_write_42 (by decide) (by decide) ?_
          obtain ⟨j_32, hj_32, rfl⟩ := i_nat (x := v1) (N := 47) (by omega) (by omega)
          have hzj_32 := nI_toInt (n := j_32) (by omega)
          refine ww_aload_n C dX11_write_48 0 rfl rfl ?_
          refine ww_get C fg_X11_71 0 rfl rfl dX11_write_49 ?_
          refine ww_iload_n C dX11_write_52 1 rfl rfl ?_
          refine ww_ald (v := (some s1)) (t0 := 8) C 1 rfl rfl (vin rfl) k_fss_1 dX11_write_53 ?_
          refine ww_eq (st' := [.ref s1]) ?_ rfl rfl rfl
          refine ww_iload_n C dX11_write_54 2 rfl rfl ?_
          refine ww_iload_n C dX11_write_55 3 rfl rfl ?_
          refine ww_cv (wr := [(hx, .inr (11, [.ref h, .ref qp, .int (nI ac), .int (nI np), .ref qs, .ref qj, .ref ly, .ref qh, .ref kk, .int (nI kc), .ref rd, .ref pg, .int (nI pe), .int kn, .ref ss])), (ss, .inl (E.2.1 8, 4, .inr (.inr (.inr (.inr fss))))), (s0, .inr (9, [.int (nI s0t), .int (nI s0n), .int (nI s0l), .ref s0c])), (s0c, .inl (E.2.1 1, 48, .inl s0f)), (s2, .inr (9, [.int (nI s2t), .int (nI s2n), .int (nI s2l), .ref s2c])), (s2c, .inl (E.2.1 1, 48, .inl s2f)), (s3, .inr (9, [.int (nI s3t), .int (nI s3n), .int (nI s3l), .ref s3c])), (s3c, .inl (E.2.1 1, 48, .inl s3f))]) (k' := 0) (n' := 0) C (run_V (As := [.int (nI j_32), .int v2]) (rest := []) C (s_put X.2.1 E ro s1 j_32 v2 s1n s1l s1c s1f (by omega) (by omega)) mi_X9_put wl_X11_343 rfl 0 9 rfl rfl rfl rfl rfl dX11_write_56) (roK hro) [4, 5] [0, 1, 2, 3, 6, 7, 8, 9] rfl rfl rfl rfl (fun uz hw => ?_)
          refine ex1 hw ?_
          clear hw
          intro f2_34 hw
          refine an1 hw ?_
          clear hw
          intro he_36 hw
          have h_35 := hw
          clear hw
          subst he_36
          refine ww_eq (ws' := [(hx, .inr (11, [.ref h, .ref qp, .int (nI ac), .int (nI np), .ref qs, .ref qj, .ref ly, .ref qh, .ref kk, .int (nI kc), .ref rd, .ref pg, .int (nI pe), .int kn, .ref ss])), (ss, .inl (E.2.1 8, 4, .inr (.inr (.inr (.inr fss))))), (s0, .inr (9, [.int (nI s0t), .int (nI s0n), .int (nI s0l), .ref s0c])), (s0c, .inl (E.2.1 1, 48, .inl s0f)), (s2, .inr (9, [.int (nI s2t), .int (nI s2n), .int (nI s2l), .ref s2c])), (s2c, .inl (E.2.1 1, 48, .inl s2f)), (s3, .inr (9, [.int (nI s3t), .int (nI s3n), .int (nI s3l), .ref s3c])), (s3c, .inl (E.2.1 1, 48, .inl s3f)), (s1, .inr (9, [.int 1, .int (nI s1n), .int (nI s1l), .ref s1c])), (s1c, .inl (E.2.1 1, 48, .inl f2_34))]) ?_ rfl rfl rfl
          refine ww_iconst (v := 1) C dX11_write_59 rfl ?_
          exact ww_iret (u := [(hx, .inr (11, [.ref h, .ref qp, .int (nI ac), .int (nI np), .ref qs, .ref qj, .ref ly, .ref qh, .ref kk, .int (nI kc), .ref rd, .ref pg, .int (nI pe), .int kn, .ref ss])), (ss, .inl (E.2.1 8, 4, .inr (.inr (.inr (.inr fss))))), (s0, .inr (9, [.int (nI s0t), .int (nI s0n), .int (nI s0l), .ref s0c])), (s0c, .inl (E.2.1 1, 48, .inl s0f)), (s1, .inr (9, [.int 1, .int (nI s1n), .int (nI s1l), .ref s1c])), (s1c, .inl (E.2.1 1, 48, .inl f2_34)), (s2, .inr (9, [.int (nI s2t), .int (nI s2n), .int (nI s2l), .ref s2c])), (s2c, .inl (E.2.1 1, 48, .inl s2f)), (s3, .inr (9, [.int (nI s3t), .int (nI s3n), .int (nI s3l), .ref s3c])), (s3c, .inl (E.2.1 1, 48, .inl s3f))]) C hT [0, 1, 2, 3, 8, 9, 4, 5, 6, 7] rfl rfl rfl rfl dX11_write_60 (Or.inr (Or.inr (Or.inr ⟨1, j_32, s0f, f2_34, s2f, s3f, rfl, rfl, rfl, (by omega), rfl, (by simp only [pick4]; omega), rfl, (by omega), (fun i hi hne => by rcases (show i = 0 ∨ i = 1 ∨ i = 2 ∨ i = 3 by omega) with rfl | rfl | rfl | rfl <;> first | rfl | exact absurd rfl hne), h_35⟩)))
        · refine an2 hw ?_
          clear hw
          intro he_30 he_31 hw
          have h_29 := hw
          clear hw
          have he_30 := he_30.symm
          subst he_30
          subst he_31
          refine ww_eq (ws' := [(hx, .inr (11, [.ref h, .ref qp, .int (nI ac), .int (nI np), .ref qs, .ref qj, .ref ly, .ref qh, .ref kk, .int (nI kc), .ref rd, .ref pg, .int (nI pe), .int kn, .ref ss])), (ss, .inl (E.2.1 8, 4, .inr (.inr (.inr (.inr fss))))), (s0, .inr (9, [.int (nI s0t), .int (nI s0n), .int (nI s0l), .ref s0c])), (s0c, .inl (E.2.1 1, 48, .inl s0f)), (s1, .inr (9, [.int 1, .int (nI s1n), .int (nI s1l), .ref s1c])), (s1c, .inl (E.2.1 1, 48, .inl s1f)), (s2, .inr (9, [.int (nI s2t), .int (nI s2n), .int (nI s2l), .ref s2c])), (s2c, .inl (E.2.1 1, 48, .inl s2f)), (s3, .inr (9, [.int (nI s3t), .int (nI s3n), .int (nI s3l), .ref s3c])), (s3c, .inl (E.2.1 1, 48, .inl s3f))]) ?_ rfl rfl rfl
          refine ww_if_ne_f (tgt := 48) C dX11_write_42 (by decide) (rfl) ?_
          refine ww_bipush (v := (-12)) C dX11_write_45 rfl ?_
          exact ww_iret (u := [(hx, .inr (11, [.ref h, .ref qp, .int (nI ac), .int (nI np), .ref qs, .ref qj, .ref ly, .ref qh, .ref kk, .int (nI kc), .ref rd, .ref pg, .int (nI pe), .int kn, .ref ss])), (ss, .inl (E.2.1 8, 4, .inr (.inr (.inr (.inr fss))))), (s0, .inr (9, [.int (nI s0t), .int (nI s0n), .int (nI s0l), .ref s0c])), (s0c, .inl (E.2.1 1, 48, .inl s0f)), (s1, .inr (9, [.int 1, .int (nI s1n), .int (nI s1l), .ref s1c])), (s1c, .inl (E.2.1 1, 48, .inl s1f)), (s2, .inr (9, [.int (nI s2t), .int (nI s2n), .int (nI s2l), .ref s2c])), (s2c, .inl (E.2.1 1, 48, .inl s2f)), (s3, .inr (9, [.int (nI s3t), .int (nI s3n), .int (nI s3l), .ref s3c])), (s3c, .inl (E.2.1 1, 48, .inl s3f))]) C hT [0, 1, 2, 3, 4, 5, 6, 7, 8, 9] rfl rfl rfl rfl dX11_write_47 (Or.inr (Or.inr (Or.inl ⟨1, rfl, rfl, rfl, (by omega), rfl, (by simp only [pick4]; omega)⟩)))
    · refine ww_iload_n C dX11_write_15 1 rfl rfl ?_
      refine ww_ald (v := (some s2)) (t0 := 8) C 1 rfl rfl (vin rfl) k_fss_2 dX11_write_16 ?_
      refine ww_eq (st' := [.ref s2]) ?_ rfl rfl rfl
      refine ww_get C fg_X11_338 6 rfl rfl dX11_write_17 ?_
      rcases (show s2t = 0 ∨ s2t = 1 by omega) with rfl | rfl
      · refine ww_if_ne_f (tgt := 26) C dX11_write_20 (by decide) (rfl) ?_
        refine ww_bipush (v := (-11)) C dX11_write_23 rfl ?_
        exact ww_iret (u := [(hx, .inr (11, [.ref h, .ref qp, .int (nI ac), .int (nI np), .ref qs, .ref qj, .ref ly, .ref qh, .ref kk, .int (nI kc), .ref rd, .ref pg, .int (nI pe), .int kn, .ref ss])), (ss, .inl (E.2.1 8, 4, .inr (.inr (.inr (.inr fss))))), (s0, .inr (9, [.int (nI s0t), .int (nI s0n), .int (nI s0l), .ref s0c])), (s0c, .inl (E.2.1 1, 48, .inl s0f)), (s1, .inr (9, [.int (nI s1t), .int (nI s1n), .int (nI s1l), .ref s1c])), (s1c, .inl (E.2.1 1, 48, .inl s1f)), (s2, .inr (9, [.int 0, .int (nI s2n), .int (nI s2l), .ref s2c])), (s2c, .inl (E.2.1 1, 48, .inl s2f)), (s3, .inr (9, [.int (nI s3t), .int (nI s3n), .int (nI s3l), .ref s3c])), (s3c, .inl (E.2.1 1, 48, .inl s3f))]) C hT [0, 1, 2, 3, 4, 5, 6, 7, 8, 9] rfl rfl rfl rfl dX11_write_25 (Or.inr (Or.inl ⟨2, rfl, rfl, rfl, (by omega), rfl⟩))
      · refine ww_if_ne_t (tgt := 26) C dX11_write_20 (by decide) (by decide) ?_
        refine ww_iload_n C dX11_write_26 2 rfl rfl ?_
        refine ww_iconst (v := 0) C dX11_write_27 rfl ?_
        refine ww_aload_n C dX11_write_28 0 rfl rfl ?_
        refine ww_get C fg_X11_71 0 rfl rfl dX11_write_29 ?_
        refine ww_iload_n C dX11_write_32 1 rfl rfl ?_
        refine ww_ald (v := (some s2)) (t0 := 8) C 1 rfl rfl (vin rfl) k_fss_2 dX11_write_33 ?_
        refine ww_eq (st' := [.ref s2, .int 0, .int v1]) ?_ rfl rfl rfl
        refine ww_get C fg_X11_342 6 rfl rfl dX11_write_34 ?_
        refine ww_iconst (v := 1) C dX11_write_37 rfl ?_
        obtain ⟨x_37, ex_37⟩ : ∃ z : Int32, (nI s2n) - (1 : Int32) = z := ⟨_, rfl⟩
        have zx_37 : x_37.toInt = ((s2n : Nat) : Int) - 1 := by rw [← ex_37]; exact i_sub (nI_toInt (n := s2n) (by omega)) rfl (by omega) (by omega)
        refine ww_isub (v := x_37) C dX11_write_38 ex_37 ?_
        refine ww_ci (wr := [(hx, .inr (11, [.ref h, .ref qp, .int (nI ac), .int (nI np), .ref qs, .ref qj, .ref ly, .ref qh, .ref kk, .int (nI kc), .ref rd, .ref pg, .int (nI pe), .int kn, .ref ss])), (ss, .inl (E.2.1 8, 4, .inr (.inr (.inr (.inr fss))))), (s0, .inr (9, [.int (nI s0t), .int (nI s0n), .int (nI s0l), .ref s0c])), (s0c, .inl (E.2.1 1, 48, .inl s0f)), (s1, .inr (9, [.int (nI s1t), .int (nI s1n), .int (nI s1l), .ref s1c])), (s1c, .inl (E.2.1 1, 48, .inl s1f)), (s2, .inr (9, [.int 1, .int (nI s2n), .int (nI s2l), .ref s2c])), (s2c, .inl (E.2.1 1, 48, .inl s2f)), (s3, .inr (9, [.int (nI s3t), .int (nI s3n), .int (nI s3l), .ref s3c])), (s3c, .inl (E.2.1 1, 48, .inl s3f))]) (k' := 0) (n' := 0) C (run_S (As := [.int v1, .int 0, .int x_37]) (rest := []) C (c_within X.2.1 E ro v1 0 x_37 v1.toInt 0 (((s2n : Nat) : Int) - 1) rfl rfl zx_37) ms_X11_within wl_X11_76 rfl rfl rfl rfl dX11_write_39) (roK hro) [] [0, 1, 2, 3, 4, 5, 6, 7, 8, 9] rfl rfl rfl rfl (fun r_38 uz hw => ?_)
        rcases hw with hw | hw
        · refine an3 hw ?_
          clear hw
          intro he_41 he_42 h_39 hw
          have h_40 := hw
          clear hw
          have he_41 := he_41.symm
          subst he_41
          subst he_42
          refine ww_eq (ws' := [(hx, .inr (11, [.ref h, .ref qp, .int (nI ac), .int (nI np), .ref qs, .ref qj, .ref ly, .ref qh, .ref kk, .int (nI kc), .ref rd, .ref pg, .int (nI pe), .int kn, .ref ss])), (ss, .inl (E.2.1 8, 4, .inr (.inr (.inr (.inr fss))))), (s0, .inr (9, [.int (nI s0t), .int (nI s0n), .int (nI s0l), .ref s0c])), (s0c, .inl (E.2.1 1, 48, .inl s0f)), (s1, .inr (9, [.int (nI s1t), .int (nI s1n), .int (nI s1l), .ref s1c])), (s1c, .inl (E.2.1 1, 48, .inl s1f)), (s2, .inr (9, [.int 1, .int (nI s2n), .int (nI s2l), .ref s2c])), (s2c, .inl (E.2.1 1, 48, .inl s2f)), (s3, .inr (9, [.int (nI s3t), .int (nI s3n), .int (nI s3l), .ref s3c])), (s3c, .inl (E.2.1 1, 48, .inl s3f))]) ?_ rfl rfl rfl
          refine ww_if_ne_t (tgt := 48) C dX11_write_42 (by decide) (by decide) ?_
          obtain ⟨j_46, hj_46, rfl⟩ := i_nat (x := v1) (N := 47) (by omega) (by omega)
          have hzj_46 := nI_toInt (n := j_46) (by omega)
          refine ww_aload_n C dX11_write_48 0 rfl rfl ?_
          refine ww_get C fg_X11_71 0 rfl rfl dX11_write_49 ?_
          refine ww_iload_n C dX11_write_52 1 rfl rfl ?_
          refine ww_ald (v := (some s2)) (t0 := 8) C 1 rfl rfl (vin rfl) k_fss_2 dX11_write_53 ?_
          refine ww_eq (st' := [.ref s2]) ?_ rfl rfl rfl
          refine ww_iload_n C dX11_write_54 2 rfl rfl ?_
          refine ww_iload_n C dX11_write_55 3 rfl rfl ?_
          refine ww_cv (wr := [(hx, .inr (11, [.ref h, .ref qp, .int (nI ac), .int (nI np), .ref qs, .ref qj, .ref ly, .ref qh, .ref kk, .int (nI kc), .ref rd, .ref pg, .int (nI pe), .int kn, .ref ss])), (ss, .inl (E.2.1 8, 4, .inr (.inr (.inr (.inr fss))))), (s0, .inr (9, [.int (nI s0t), .int (nI s0n), .int (nI s0l), .ref s0c])), (s0c, .inl (E.2.1 1, 48, .inl s0f)), (s1, .inr (9, [.int (nI s1t), .int (nI s1n), .int (nI s1l), .ref s1c])), (s1c, .inl (E.2.1 1, 48, .inl s1f)), (s3, .inr (9, [.int (nI s3t), .int (nI s3n), .int (nI s3l), .ref s3c])), (s3c, .inl (E.2.1 1, 48, .inl s3f))]) (k' := 0) (n' := 0) C (run_V (As := [.int (nI j_46), .int v2]) (rest := []) C (s_put X.2.1 E ro s2 j_46 v2 s2n s2l s2c s2f (by omega) (by omega)) mi_X9_put wl_X11_343 rfl 0 9 rfl rfl rfl rfl rfl dX11_write_56) (roK hro) [6, 7] [0, 1, 2, 3, 4, 5, 8, 9] rfl rfl rfl rfl (fun uz hw => ?_)
          refine ex1 hw ?_
          clear hw
          intro f2_48 hw
          refine an1 hw ?_
          clear hw
          intro he_50 hw
          have h_49 := hw
          clear hw
          subst he_50
          refine ww_eq (ws' := [(hx, .inr (11, [.ref h, .ref qp, .int (nI ac), .int (nI np), .ref qs, .ref qj, .ref ly, .ref qh, .ref kk, .int (nI kc), .ref rd, .ref pg, .int (nI pe), .int kn, .ref ss])), (ss, .inl (E.2.1 8, 4, .inr (.inr (.inr (.inr fss))))), (s0, .inr (9, [.int (nI s0t), .int (nI s0n), .int (nI s0l), .ref s0c])), (s0c, .inl (E.2.1 1, 48, .inl s0f)), (s1, .inr (9, [.int (nI s1t), .int (nI s1n), .int (nI s1l), .ref s1c])), (s1c, .inl (E.2.1 1, 48, .inl s1f)), (s3, .inr (9, [.int (nI s3t), .int (nI s3n), .int (nI s3l), .ref s3c])), (s3c, .inl (E.2.1 1, 48, .inl s3f)), (s2, .inr (9, [.int 1, .int (nI s2n), .int (nI s2l), .ref s2c])), (s2c, .inl (E.2.1 1, 48, .inl f2_48))]) ?_ rfl rfl rfl
          refine ww_iconst (v := 1) C dX11_write_59 rfl ?_
          exact ww_iret (u := [(hx, .inr (11, [.ref h, .ref qp, .int (nI ac), .int (nI np), .ref qs, .ref qj, .ref ly, .ref qh, .ref kk, .int (nI kc), .ref rd, .ref pg, .int (nI pe), .int kn, .ref ss])), (ss, .inl (E.2.1 8, 4, .inr (.inr (.inr (.inr fss))))), (s0, .inr (9, [.int (nI s0t), .int (nI s0n), .int (nI s0l), .ref s0c])), (s0c, .inl (E.2.1 1, 48, .inl s0f)), (s1, .inr (9, [.int (nI s1t), .int (nI s1n), .int (nI s1l), .ref s1c])), (s1c, .inl (E.2.1 1, 48, .inl s1f)), (s2, .inr (9, [.int 1, .int (nI s2n), .int (nI s2l), .ref s2c])), (s2c, .inl (E.2.1 1, 48, .inl f2_48)), (s3, .inr (9, [.int (nI s3t), .int (nI s3n), .int (nI s3l), .ref s3c])), (s3c, .inl (E.2.1 1, 48, .inl s3f))]) C hT [0, 1, 2, 3, 4, 5, 8, 9, 6, 7] rfl rfl rfl rfl dX11_write_60 (Or.inr (Or.inr (Or.inr ⟨2, j_46, s0f, s1f, f2_48, s3f, rfl, rfl, rfl, (by omega), rfl, (by simp only [pick4]; omega), rfl, (by omega), (fun i hi hne => by rcases (show i = 0 ∨ i = 1 ∨ i = 2 ∨ i = 3 by omega) with rfl | rfl | rfl | rfl <;> first | rfl | exact absurd rfl hne), h_49⟩)))
        · refine an2 hw ?_
          clear hw
          intro he_44 he_45 hw
          have h_43 := hw
          clear hw
          have he_44 := he_44.symm
          subst he_44
          subst he_45
          refine ww_eq (ws' := [(hx, .inr (11, [.ref h, .ref qp, .int (nI ac), .int (nI np), .ref qs, .ref qj, .ref ly, .ref qh, .ref kk, .int (nI kc), .ref rd, .ref pg, .int (nI pe), .int kn, .ref ss])), (ss, .inl (E.2.1 8, 4, .inr (.inr (.inr (.inr fss))))), (s0, .inr (9, [.int (nI s0t), .int (nI s0n), .int (nI s0l), .ref s0c])), (s0c, .inl (E.2.1 1, 48, .inl s0f)), (s1, .inr (9, [.int (nI s1t), .int (nI s1n), .int (nI s1l), .ref s1c])), (s1c, .inl (E.2.1 1, 48, .inl s1f)), (s2, .inr (9, [.int 1, .int (nI s2n), .int (nI s2l), .ref s2c])), (s2c, .inl (E.2.1 1, 48, .inl s2f)), (s3, .inr (9, [.int (nI s3t), .int (nI s3n), .int (nI s3l), .ref s3c])), (s3c, .inl (E.2.1 1, 48, .inl s3f))]) ?_ rfl rfl rfl
          refine ww_if_ne_f (tgt := 48) C dX11_write_42 (by decide) (rfl) ?_
          refine ww_bipush (v := (-12)) C dX11_write_45 rfl ?_
          exact ww_iret (u := [(hx, .inr (11, [.ref h, .ref qp, .int (nI ac), .int (nI np), .ref qs, .ref qj, .ref ly, .ref qh, .ref kk, .int (nI kc), .ref rd, .ref pg, .int (nI pe), .int kn, .ref ss])), (ss, .inl (E.2.1 8, 4, .inr (.inr (.inr (.inr fss))))), (s0, .inr (9, [.int (nI s0t), .int (nI s0n), .int (nI s0l), .ref s0c])), (s0c, .inl (E.2.1 1, 48, .inl s0f)), (s1, .inr (9, [.int (nI s1t), .int (nI s1n), .int (nI s1l), .ref s1c])), (s1c, .inl (E.2.1 1, 48, .inl s1f)), (s2, .inr (9, [.int 1, .int (nI s2n), .int (nI s2l), .ref s2c])), (s2c, .inl (E.2.1 1, 48, .inl s2f)), (s3, .inr (9, [.int (nI s3t), .int (nI s3n), .int (nI s3l), .ref s3c])), (s3c, .inl (E.2.1 1, 48, .inl s3f))]) C hT [0, 1, 2, 3, 4, 5, 6, 7, 8, 9] rfl rfl rfl rfl dX11_write_47 (Or.inr (Or.inr (Or.inl ⟨2, rfl, rfl, rfl, (by omega), rfl, (by simp only [pick4]; omega)⟩)))
    · refine ww_iload_n C dX11_write_15 1 rfl rfl ?_
      refine ww_ald (v := (some s3)) (t0 := 8) C 1 rfl rfl (vin rfl) k_fss_3 dX11_write_16 ?_
      refine ww_eq (st' := [.ref s3]) ?_ rfl rfl rfl
      refine ww_get C fg_X11_338 8 rfl rfl dX11_write_17 ?_
      rcases (show s3t = 0 ∨ s3t = 1 by omega) with rfl | rfl
      · refine ww_if_ne_f (tgt := 26) C dX11_write_20 (by decide) (rfl) ?_
        refine ww_bipush (v := (-11)) C dX11_write_23 rfl ?_
        exact ww_iret (u := [(hx, .inr (11, [.ref h, .ref qp, .int (nI ac), .int (nI np), .ref qs, .ref qj, .ref ly, .ref qh, .ref kk, .int (nI kc), .ref rd, .ref pg, .int (nI pe), .int kn, .ref ss])), (ss, .inl (E.2.1 8, 4, .inr (.inr (.inr (.inr fss))))), (s0, .inr (9, [.int (nI s0t), .int (nI s0n), .int (nI s0l), .ref s0c])), (s0c, .inl (E.2.1 1, 48, .inl s0f)), (s1, .inr (9, [.int (nI s1t), .int (nI s1n), .int (nI s1l), .ref s1c])), (s1c, .inl (E.2.1 1, 48, .inl s1f)), (s2, .inr (9, [.int (nI s2t), .int (nI s2n), .int (nI s2l), .ref s2c])), (s2c, .inl (E.2.1 1, 48, .inl s2f)), (s3, .inr (9, [.int 0, .int (nI s3n), .int (nI s3l), .ref s3c])), (s3c, .inl (E.2.1 1, 48, .inl s3f))]) C hT [0, 1, 2, 3, 4, 5, 6, 7, 8, 9] rfl rfl rfl rfl dX11_write_25 (Or.inr (Or.inl ⟨3, rfl, rfl, rfl, (by omega), rfl⟩))
      · refine ww_if_ne_t (tgt := 26) C dX11_write_20 (by decide) (by decide) ?_
        refine ww_iload_n C dX11_write_26 2 rfl rfl ?_
        refine ww_iconst (v := 0) C dX11_write_27 rfl ?_
        refine ww_aload_n C dX11_write_28 0 rfl rfl ?_
        refine ww_get C fg_X11_71 0 rfl rfl dX11_write_29 ?_
        refine ww_iload_n C dX11_write_32 1 rfl rfl ?_
        refine ww_ald (v := (some s3)) (t0 := 8) C 1 rfl rfl (vin rfl) k_fss_3 dX11_write_33 ?_
        refine ww_eq (st' := [.ref s3, .int 0, .int v1]) ?_ rfl rfl rfl
        refine ww_get C fg_X11_342 8 rfl rfl dX11_write_34 ?_
        refine ww_iconst (v := 1) C dX11_write_37 rfl ?_
        obtain ⟨x_51, ex_51⟩ : ∃ z : Int32, (nI s3n) - (1 : Int32) = z := ⟨_, rfl⟩
        have zx_51 : x_51.toInt = ((s3n : Nat) : Int) - 1 := by rw [← ex_51]; exact i_sub (nI_toInt (n := s3n) (by omega)) rfl (by omega) (by omega)
        refine ww_isub (v := x_51) C dX11_write_38 ex_51 ?_
        refine ww_ci (wr := [(hx, .inr (11, [.ref h, .ref qp, .int (nI ac), .int (nI np), .ref qs, .ref qj, .ref ly, .ref qh, .ref kk, .int (nI kc), .ref rd, .ref pg, .int (nI pe), .int kn, .ref ss])), (ss, .inl (E.2.1 8, 4, .inr (.inr (.inr (.inr fss))))), (s0, .inr (9, [.int (nI s0t), .int (nI s0n), .int (nI s0l), .ref s0c])), (s0c, .inl (E.2.1 1, 48, .inl s0f)), (s1, .inr (9, [.int (nI s1t), .int (nI s1n), .int (nI s1l), .ref s1c])), (s1c, .inl (E.2.1 1, 48, .inl s1f)), (s2, .inr (9, [.int (nI s2t), .int (nI s2n), .int (nI s2l), .ref s2c])), (s2c, .inl (E.2.1 1, 48, .inl s2f)), (s3, .inr (9, [.int 1, .int (nI s3n), .int (nI s3l), .ref s3c])), (s3c, .inl (E.2.1 1, 48, .inl s3f))]) (k' := 0) (n' := 0) C (run_S (As := [.int v1, .int 0, .int x_51]) (rest := []) C (c_within X.2.1 E ro v1 0 x_51 v1.toInt 0 (((s3n : Nat) : Int) - 1) rfl rfl zx_51) ms_X11_within wl_X11_76 rfl rfl rfl rfl dX11_write_39) (roK hro) [] [0, 1, 2, 3, 4, 5, 6, 7, 8, 9] rfl rfl rfl rfl (fun r_52 uz hw => ?_)
        rcases hw with hw | hw
        · refine an3 hw ?_
          clear hw
          intro he_55 he_56 h_53 hw
          have h_54 := hw
          clear hw
          have he_55 := he_55.symm
          subst he_55
          subst he_56
          refine ww_eq (ws' := [(hx, .inr (11, [.ref h, .ref qp, .int (nI ac), .int (nI np), .ref qs, .ref qj, .ref ly, .ref qh, .ref kk, .int (nI kc), .ref rd, .ref pg, .int (nI pe), .int kn, .ref ss])), (ss, .inl (E.2.1 8, 4, .inr (.inr (.inr (.inr fss))))), (s0, .inr (9, [.int (nI s0t), .int (nI s0n), .int (nI s0l), .ref s0c])), (s0c, .inl (E.2.1 1, 48, .inl s0f)), (s1, .inr (9, [.int (nI s1t), .int (nI s1n), .int (nI s1l), .ref s1c])), (s1c, .inl (E.2.1 1, 48, .inl s1f)), (s2, .inr (9, [.int (nI s2t), .int (nI s2n), .int (nI s2l), .ref s2c])), (s2c, .inl (E.2.1 1, 48, .inl s2f)), (s3, .inr (9, [.int 1, .int (nI s3n), .int (nI s3l), .ref s3c])), (s3c, .inl (E.2.1 1, 48, .inl s3f))]) ?_ rfl rfl rfl
          refine ww_if_ne_t (tgt := 48) C dX11_write_42 (by decide) (by decide) ?_
          obtain ⟨j_60, hj_60, rfl⟩ := i_nat (x := v1) (N := 47) (by omega) (by omega)
          have hzj_60 := nI_toInt (n := j_60) (by omega)
          refine ww_aload_n C dX11_write_48 0 rfl rfl ?_
          refine ww_get C fg_X11_71 0 rfl rfl dX11_write_49 ?_
          refine ww_iload_n C dX11_write_52 1 rfl rfl ?_
          refine ww_ald (v := (some s3)) (t0 := 8) C 1 rfl rfl (vin rfl) k_fss_3 dX11_write_53 ?_
          refine ww_eq (st' := [.ref s3]) ?_ rfl rfl rfl
          refine ww_iload_n C dX11_write_54 2 rfl rfl ?_
          refine ww_iload_n C dX11_write_55 3 rfl rfl ?_
          refine ww_cv (wr := [(hx, .inr (11, [.ref h, .ref qp, .int (nI ac), .int (nI np), .ref qs, .ref qj, .ref ly, .ref qh, .ref kk, .int (nI kc), .ref rd, .ref pg, .int (nI pe), .int kn, .ref ss])), (ss, .inl (E.2.1 8, 4, .inr (.inr (.inr (.inr fss))))), (s0, .inr (9, [.int (nI s0t), .int (nI s0n), .int (nI s0l), .ref s0c])), (s0c, .inl (E.2.1 1, 48, .inl s0f)), (s1, .inr (9, [.int (nI s1t), .int (nI s1n), .int (nI s1l), .ref s1c])), (s1c, .inl (E.2.1 1, 48, .inl s1f)), (s2, .inr (9, [.int (nI s2t), .int (nI s2n), .int (nI s2l), .ref s2c])), (s2c, .inl (E.2.1 1, 48, .inl s2f))]) (k' := 0) (n' := 0) C (run_V (As := [.int (nI j_60), .int v2]) (rest := []) C (s_put X.2.1 E ro s3 j_60 v2 s3n s3l s3c s3f (by omega) (by omega)) mi_X9_put wl_X11_343 rfl 0 9 rfl rfl rfl rfl rfl dX11_write_56) (roK hro) [8, 9] [0, 1, 2, 3, 4, 5, 6, 7] rfl rfl rfl rfl (fun uz hw => ?_)
          refine ex1 hw ?_
          clear hw
          intro f2_62 hw
          refine an1 hw ?_
          clear hw
          intro he_64 hw
          have h_63 := hw
          clear hw
          subst he_64
          refine ww_eq (ws' := [(hx, .inr (11, [.ref h, .ref qp, .int (nI ac), .int (nI np), .ref qs, .ref qj, .ref ly, .ref qh, .ref kk, .int (nI kc), .ref rd, .ref pg, .int (nI pe), .int kn, .ref ss])), (ss, .inl (E.2.1 8, 4, .inr (.inr (.inr (.inr fss))))), (s0, .inr (9, [.int (nI s0t), .int (nI s0n), .int (nI s0l), .ref s0c])), (s0c, .inl (E.2.1 1, 48, .inl s0f)), (s1, .inr (9, [.int (nI s1t), .int (nI s1n), .int (nI s1l), .ref s1c])), (s1c, .inl (E.2.1 1, 48, .inl s1f)), (s2, .inr (9, [.int (nI s2t), .int (nI s2n), .int (nI s2l), .ref s2c])), (s2c, .inl (E.2.1 1, 48, .inl s2f)), (s3, .inr (9, [.int 1, .int (nI s3n), .int (nI s3l), .ref s3c])), (s3c, .inl (E.2.1 1, 48, .inl f2_62))]) ?_ rfl rfl rfl
          refine ww_iconst (v := 1) C dX11_write_59 rfl ?_
          exact ww_iret (u := [(hx, .inr (11, [.ref h, .ref qp, .int (nI ac), .int (nI np), .ref qs, .ref qj, .ref ly, .ref qh, .ref kk, .int (nI kc), .ref rd, .ref pg, .int (nI pe), .int kn, .ref ss])), (ss, .inl (E.2.1 8, 4, .inr (.inr (.inr (.inr fss))))), (s0, .inr (9, [.int (nI s0t), .int (nI s0n), .int (nI s0l), .ref s0c])), (s0c, .inl (E.2.1 1, 48, .inl s0f)), (s1, .inr (9, [.int (nI s1t), .int (nI s1n), .int (nI s1l), .ref s1c])), (s1c, .inl (E.2.1 1, 48, .inl s1f)), (s2, .inr (9, [.int (nI s2t), .int (nI s2n), .int (nI s2l), .ref s2c])), (s2c, .inl (E.2.1 1, 48, .inl s2f)), (s3, .inr (9, [.int 1, .int (nI s3n), .int (nI s3l), .ref s3c])), (s3c, .inl (E.2.1 1, 48, .inl f2_62))]) C hT [0, 1, 2, 3, 4, 5, 6, 7, 8, 9] rfl rfl rfl rfl dX11_write_60 (Or.inr (Or.inr (Or.inr ⟨3, j_60, s0f, s1f, s2f, f2_62, rfl, rfl, rfl, (by omega), rfl, (by simp only [pick4]; omega), rfl, (by omega), (fun i hi hne => by rcases (show i = 0 ∨ i = 1 ∨ i = 2 ∨ i = 3 by omega) with rfl | rfl | rfl | rfl <;> first | rfl | exact absurd rfl hne), h_63⟩)))
        · refine an2 hw ?_
          clear hw
          intro he_58 he_59 hw
          have h_57 := hw
          clear hw
          have he_58 := he_58.symm
          subst he_58
          subst he_59
          refine ww_eq (ws' := [(hx, .inr (11, [.ref h, .ref qp, .int (nI ac), .int (nI np), .ref qs, .ref qj, .ref ly, .ref qh, .ref kk, .int (nI kc), .ref rd, .ref pg, .int (nI pe), .int kn, .ref ss])), (ss, .inl (E.2.1 8, 4, .inr (.inr (.inr (.inr fss))))), (s0, .inr (9, [.int (nI s0t), .int (nI s0n), .int (nI s0l), .ref s0c])), (s0c, .inl (E.2.1 1, 48, .inl s0f)), (s1, .inr (9, [.int (nI s1t), .int (nI s1n), .int (nI s1l), .ref s1c])), (s1c, .inl (E.2.1 1, 48, .inl s1f)), (s2, .inr (9, [.int (nI s2t), .int (nI s2n), .int (nI s2l), .ref s2c])), (s2c, .inl (E.2.1 1, 48, .inl s2f)), (s3, .inr (9, [.int 1, .int (nI s3n), .int (nI s3l), .ref s3c])), (s3c, .inl (E.2.1 1, 48, .inl s3f))]) ?_ rfl rfl rfl
          refine ww_if_ne_f (tgt := 48) C dX11_write_42 (by decide) (rfl) ?_
          refine ww_bipush (v := (-12)) C dX11_write_45 rfl ?_
          exact ww_iret (u := [(hx, .inr (11, [.ref h, .ref qp, .int (nI ac), .int (nI np), .ref qs, .ref qj, .ref ly, .ref qh, .ref kk, .int (nI kc), .ref rd, .ref pg, .int (nI pe), .int kn, .ref ss])), (ss, .inl (E.2.1 8, 4, .inr (.inr (.inr (.inr fss))))), (s0, .inr (9, [.int (nI s0t), .int (nI s0n), .int (nI s0l), .ref s0c])), (s0c, .inl (E.2.1 1, 48, .inl s0f)), (s1, .inr (9, [.int (nI s1t), .int (nI s1n), .int (nI s1l), .ref s1c])), (s1c, .inl (E.2.1 1, 48, .inl s1f)), (s2, .inr (9, [.int (nI s2t), .int (nI s2n), .int (nI s2l), .ref s2c])), (s2c, .inl (E.2.1 1, 48, .inl s2f)), (s3, .inr (9, [.int 1, .int (nI s3n), .int (nI s3l), .ref s3c])), (s3c, .inl (E.2.1 1, 48, .inl s3f))]) C hT [0, 1, 2, 3, 4, 5, 6, 7, 8, 9] rfl rfl rfl rfl dX11_write_47 (Or.inr (Or.inr (Or.inl ⟨3, rfl, rfl, rfl, (by omega), rfl, (by simp only [pick4]; omega)⟩)))
  · refine an2 hw ?_
    clear hw
    intro he_7 he_8 hw
    have h_6 := hw
    clear hw
    have he_7 := he_7.symm
    subst he_7
    subst he_8
    refine ww_eq (ws' := [(hx, .inr (11, [.ref h, .ref qp, .int (nI ac), .int (nI np), .ref qs, .ref qj, .ref ly, .ref qh, .ref kk, .int (nI kc), .ref rd, .ref pg, .int (nI pe), .int kn, .ref ss])), (ss, .inl (E.2.1 8, 4, .inr (.inr (.inr (.inr fss))))), (s0, .inr (9, [.int (nI s0t), .int (nI s0n), .int (nI s0l), .ref s0c])), (s0c, .inl (E.2.1 1, 48, .inl s0f)), (s1, .inr (9, [.int (nI s1t), .int (nI s1n), .int (nI s1l), .ref s1c])), (s1c, .inl (E.2.1 1, 48, .inl s1f)), (s2, .inr (9, [.int (nI s2t), .int (nI s2n), .int (nI s2l), .ref s2c])), (s2c, .inl (E.2.1 1, 48, .inl s2f)), (s3, .inr (9, [.int (nI s3t), .int (nI s3n), .int (nI s3l), .ref s3c])), (s3c, .inl (E.2.1 1, 48, .inl s3f))]) ?_ rfl rfl rfl
    refine ww_if_ne_f (tgt := 11) C dX11_write_6 (by decide) (rfl) ?_
    refine ww_iconst (v := (-1)) C dX11_write_9 rfl ?_
    exact ww_iret (u := [(hx, .inr (11, [.ref h, .ref qp, .int (nI ac), .int (nI np), .ref qs, .ref qj, .ref ly, .ref qh, .ref kk, .int (nI kc), .ref rd, .ref pg, .int (nI pe), .int kn, .ref ss])), (ss, .inl (E.2.1 8, 4, .inr (.inr (.inr (.inr fss))))), (s0, .inr (9, [.int (nI s0t), .int (nI s0n), .int (nI s0l), .ref s0c])), (s0c, .inl (E.2.1 1, 48, .inl s0f)), (s1, .inr (9, [.int (nI s1t), .int (nI s1n), .int (nI s1l), .ref s1c])), (s1c, .inl (E.2.1 1, 48, .inl s1f)), (s2, .inr (9, [.int (nI s2t), .int (nI s2n), .int (nI s2l), .ref s2c])), (s2c, .inl (E.2.1 1, 48, .inl s2f)), (s3, .inr (9, [.int (nI s3t), .int (nI s3n), .int (nI s3l), .ref s3c])), (s3c, .inl (E.2.1 1, 48, .inl s3f))]) C hT [0, 1, 2, 3, 4, 5, 6, 7, 8, 9] rfl rfl rfl rfl dX11_write_10 (Or.inl ⟨rfl, rfl, (by first | assumption | omega | decide)⟩)
