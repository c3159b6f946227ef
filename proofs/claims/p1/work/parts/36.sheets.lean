theorem dX11_isPerson_0 : decode cX11_isPerson 0 = .ok (.iload_n 1, 1) := by decide +kernel
theorem dX11_isPerson_1 : decode cX11_isPerson 1 = .ok (.iconst 0, 1) := by decide +kernel
theorem dX11_isPerson_2 : decode cX11_isPerson 2 = .ok (.aload_n 0, 1) := by decide +kernel
theorem dX11_isPerson_3 : decode cX11_isPerson 3 = .ok (.getfield 106, 3) := by decide +kernel
theorem wf_X11_106 : Cond.fieldLink RX11 106 RX11 "persons" "I" ∈ TB := tbm (tq2 (List.mem_of_getElem? (i := 108) (by decide +kernel))) (by decide +kernel)
theorem fg_X11_106 : FG RX11 106 11 12 := ⟨RX11, TX11, 15, uw_X11, wf_X11_106, rfl, by decide, rfl⟩
theorem dX11_isPerson_6 : decode cX11_isPerson 6 = .ok (.iconst 1, 1) := by decide +kernel
theorem dX11_isPerson_7 : decode cX11_isPerson 7 = .ok (.isub, 1) := by decide +kernel
theorem dX11_isPerson_8 : decode cX11_isPerson 8 = .ok (.invokestatic 76, 3) := by decide +kernel
theorem dX11_isPerson_11 : decode cX11_isPerson 11 = .ok (.ireturn, 1) := by decide +kernel
set_option maxRecDepth 100000 in
set_option maxHeartbeats 4000000 in
theorem c_isPerson (l : Launch) (E : EV) (hx : Nat) (p0 : Int32) (qn : Nat) (qp : Nat) (qs : Nat) (qj : Nat) (ql : Nat) (qh : Nat) (qk : Nat) (qr : Nat) (qg : Nat) (qsh : Nat)  : CT l yX11_isPerson (Cond.code yX11_isPerson cX11_isPerson 2 (some .boolean) :: TB) ({ frames := 1, cells := 0, slots := 0, locals := 22 }) E [.ref hx, .int p0] [(hx, .inr (11, [.ref qn, .ref qp, .int 0, .int 0, .ref qs, .ref qj, .ref ql, .ref qh, .ref qk, .int 0, .ref qr, .ref qg, .int 0, .int 0, .ref qsh]))] (Qi E (fun (r : Int32) u => (r = 0 ∧ u = [(hx, .inr (11, [.ref qn, .ref qp, .int 0, .int 0, .ref qs, .ref qj, .ref ql, .ref qh, .ref qk, .int 0, .ref qr, .ref qg, .int 0, .int 0, .ref qsh]))]))) 0 0 := by
  refine ct_of rfl rfl ?_
  intro X C hT hin
  show WW X 2 E 0 [(0, .ref hx), (1, .int p0)] [] [(hx, .inr (11, [.ref qn, .ref qp, .int 0, .int 0, .ref qs, .ref qj, .ref ql, .ref qh, .ref qk, .int 0, .ref qr, .ref qg, .int 0, .int 0, .ref qsh]))] 0 0
  refine ww_iload_n C dX11_isPerson_0 1 rfl rfl ?_
  refine ww_iconst (v := 0) C dX11_isPerson_1 rfl ?_
  refine ww_aload_n C dX11_isPerson_2 0 rfl rfl ?_
  refine ww_get C fg_X11_106 0 rfl rfl dX11_isPerson_3 ?_
  refine ww_iconst (v := 1) C dX11_isPerson_6 rfl ?_
  refine ww_isub (v := (-1)) C dX11_isPerson_7 (by decide) ?_
  refine ww_ci (wr := [(hx, .inr (11, [.ref qn, .ref qp, .int 0, .int 0, .ref qs, .ref qj, .ref ql, .ref qh, .ref qk, .int 0, .ref qr, .ref qg, .int 0, .int 0, .ref qsh]))]) (k' := 0) (n' := 0) C (run_S (As := [.int p0, .int 0, .int (-1)]) (rest := []) C (c_within X.2.1 E p0 0 (-1) p0.toInt 0 (-1) rfl rfl rfl) ms_X11_within wl_X11_76 rfl rfl rfl rfl dX11_isPerson_8) [] [0] rfl rfl rfl rfl (fun r u hw => ?_)
  rcases hw with ⟨rfl, rfl, h_1, h_2⟩ | ⟨rfl, rfl, h_3⟩
  · omega
  · refine ww_eq (ws' := [(hx, .inr (11, [.ref qn, .ref qp, .int 0, .int 0, .ref qs, .ref qj, .ref ql, .ref qh, .ref qk, .int 0, .ref qr, .ref qg, .int 0, .int 0, .ref qsh]))]) ?_ rfl rfl rfl
    exact ww_zret (u := [(hx, .inr (11, [.ref qn, .ref qp, .int 0, .int 0, .ref qs, .ref qj, .ref ql, .ref qh, .ref qk, .int 0, .ref qr, .ref qg, .int 0, .int 0, .ref qsh]))]) C hT [0] rfl rfl rfl rfl rfl dX11_isPerson_11 (⟨rfl, rfl⟩)
theorem dX11_people_0 : decode cX11_people 0 = .ok (.iload_n 1, 1) := by decide +kernel
theorem dX11_people_1 : decode cX11_people 1 = .ok (.iconst 2, 1) := by decide +kernel
theorem dX11_people_2 : decode cX11_people 2 = .ok (.iconst 4, 1) := by decide +kernel
theorem dX11_people_3 : decode cX11_people 3 = .ok (.invokestatic 76, 3) := by decide +kernel
theorem dX11_people_6 : decode cX11_people 6 = .ok (.ifCond .ne 5, 3) := by decide +kernel
theorem dX11_people_11 : decode cX11_people 11 = .ok (.aload_n 0, 1) := by decide +kernel
theorem dX11_people_12 : decode cX11_people 12 = .ok (.iload_n 1, 1) := by decide +kernel
theorem dX11_people_13 : decode cX11_people 13 = .ok (.putfield 106, 3) := by decide +kernel
theorem fp_X11_106 : FP RX11 106 11 12 .int false := ⟨RX11, TX11, 15, tyX11, uw_X11, wf_X11_106, rfl, by decide, rfl, tyX11_ok, nmX11, rfl, by decide +kernel⟩
theorem dX11_people_16 : decode cX11_people 16 = .ok (.aload_n 0, 1) := by decide +kernel
theorem dX11_people_17 : decode cX11_people 17 = .ok (.iconst 0, 1) := by decide +kernel
theorem dX11_people_18 : decode cX11_people 18 = .ok (.putfield 324, 3) := by decide +kernel
theorem wf_X11_324 : Cond.fieldLink RX11 324 RX11 "known" "I" ∈ TB := tbm (tq2 (List.mem_of_getElem? (i := 109) (by decide +kernel))) (by decide +kernel)
theorem fp_X11_324 : FP RX11 324 11 13 .int false := ⟨RX11, TX11, 15, tyX11, uw_X11, wf_X11_324, rfl, by decide, rfl, tyX11_ok, nmX11, rfl, by decide +kernel⟩
theorem dX11_people_21 : decode cX11_people 21 = .ok (.iconst 0, 1) := by decide +kernel
theorem dX11_people_22 : decode cX11_people 22 = .ok (.istore_n 2, 1) := by decide +kernel
theorem dX11_people_23 : decode cX11_people 23 = .ok (.iload_n 2, 1) := by decide +kernel
theorem dX11_people_24 : decode cX11_people 24 = .ok (.iload_n 1, 1) := by decide +kernel
theorem dX11_people_25 : decode cX11_people 25 = .ok (.if_icmp .ge 25, 3) := by decide +kernel
theorem dX11_people_28 : decode cX11_people 28 = .ok (.aload_n 0, 1) := by decide +kernel
theorem dX11_people_29 : decode cX11_people 29 = .ok (.dup, 1) := by decide +kernel
theorem dX11_people_30 : decode cX11_people 30 = .ok (.getfield 324, 3) := by decide +kernel
theorem fg_X11_324 : FG RX11 324 11 13 := ⟨RX11, TX11, 15, uw_X11, wf_X11_324, rfl, by decide, rfl⟩
theorem dX11_people_33 : decode cX11_people 33 = .ok (.iconst 1, 1) := by decide +kernel
theorem dX11_people_34 : decode cX11_people 34 = .ok (.iload_n 2, 1) := by decide +kernel
theorem dX11_people_35 : decode cX11_people 35 = .ok (.ishl, 1) := by decide +kernel
theorem dX11_people_36 : decode cX11_people 36 = .ok (.iconst 4, 1) := by decide +kernel
theorem dX11_people_37 : decode cX11_people 37 = .ok (.iload_n 2, 1) := by decide +kernel
theorem dX11_people_38 : decode cX11_people 38 = .ok (.imul, 1) := by decide +kernel
theorem dX11_people_39 : decode cX11_people 39 = .ok (.ishl, 1) := by decide +kernel
theorem dX11_people_40 : decode cX11_people 40 = .ok (.ior, 1) := by decide +kernel
theorem dX11_people_41 : decode cX11_people 41 = .ok (.putfield 324, 3) := by decide +kernel
theorem dX11_people_44 : decode cX11_people 44 = .ok (.iinc 2 1, 3) := by decide +kernel
theorem dX11_people_47 : decode cX11_people 47 = .ok (.goto (-24), 3) := by decide +kernel
theorem dX11_people_50 : decode cX11_people 50 = .ok (.iload_n 1, 1) := by decide +kernel
theorem dX11_people_51 : decode cX11_people 51 = .ok (.ireturn, 1) := by decide +kernel
theorem dX11_people_9 : decode cX11_people 9 = .ok (.iconst (-1), 1) := by decide +kernel
theorem dX11_people_10 : decode cX11_people 10 = .ok (.ireturn, 1) := by decide +kernel
set_option maxRecDepth 100000 in
set_option maxHeartbeats 4000000 in
theorem x_people (l : Launch) (E : EV) (hx : Nat) (p0 : Int32) (qn : Nat) (qp : Nat) (qs : Nat) (qj : Nat) (ql : Nat) (qh : Nat) (qk : Nat) (qr : Nat) (qg : Nat) (qsh : Nat)  : CT l yX11_people (Cond.code yX11_people cX11_people 3 (some .int) :: TB) ({ frames := 1, cells := 0, slots := 0, locals := 22 }) E [.ref hx, .int p0] [(hx, .inr (11, [.ref qn, .ref qp, .int 0, .int 0, .ref qs, .ref qj, .ref ql, .ref qh, .ref qk, .int 0, .ref qr, .ref qg, .int 0, .int 0, .ref qsh]))] (Qi E (fun (r : Int32) u => (r = (-1) ∧ u = [] ∧ (p0.toInt < 2 ∨ 4 < p0.toInt)) ∨ (r = 2 ∧ u = [] ∧ (p0.toInt = 2)) ∨ (r = 3 ∧ u = [] ∧ (p0.toInt = 3)) ∨ (r = 4 ∧ u = [] ∧ (p0.toInt = 4)))) 0 0 := by
  refine ct_of rfl rfl ?_
  intro X C hT hin
  show WW X 3 E 0 [(0, .ref hx), (1, .int p0)] [] [(hx, .inr (11, [.ref qn, .ref qp, .int 0, .int 0, .ref qs, .ref qj, .ref ql, .ref qh, .ref qk, .int 0, .ref qr, .ref qg, .int 0, .int 0, .ref qsh]))] 0 0
  refine ww_iload_n C dX11_people_0 1 rfl rfl ?_
  refine ww_iconst (v := 2) C dX11_people_1 rfl ?_
  refine ww_iconst (v := 4) C dX11_people_2 rfl ?_
  refine ww_ci (wr := [(hx, .inr (11, [.ref qn, .ref qp, .int 0, .int 0, .ref qs, .ref qj, .ref ql, .ref qh, .ref qk, .int 0, .ref qr, .ref qg, .int 0, .int 0, .ref qsh]))]) (k' := 0) (n' := 0) C (run_S (As := [.int p0, .int 2, .int 4]) (rest := []) C (c_within X.2.1 E p0 2 4 p0.toInt 2 4 rfl rfl rfl) ms_X11_within wl_X11_76 rfl rfl rfl rfl dX11_people_3) [] [0] rfl rfl rfl rfl (fun r u hw => ?_)
  rcases hw with ⟨rfl, rfl, h_1, h_2⟩ | ⟨rfl, rfl, h_3⟩
  · refine ww_eq (ws' := [(hx, .inr (11, [.ref qn, .ref qp, .int 0, .int 0, .ref qs, .ref qj, .ref ql, .ref qh, .ref qk, .int 0, .ref qr, .ref qg, .int 0, .int 0, .ref qsh]))]) ?_ rfl rfl rfl
    refine ww_if_ne_t (tgt := 11) C dX11_people_6 (by decide) (by decide) ?_
    rcases sp_2_4 (x := p0) (by omega) (by omega) with rfl | rfl | rfl
    · refine ww_aload_n C dX11_people_11 0 rfl rfl ?_
      refine ww_iload_n C dX11_people_12 1 rfl rfl ?_
      refine ww_put (ws' := [(hx, .inr (11, [.ref qn, .ref qp, .int 0, .int 0, .ref qs, .ref qj, .ref ql, .ref qh, .ref qk, .int 0, .ref qr, .ref qg, .int 2, .int 0, .ref qsh]))]) C fp_X11_106 0 rfl rfl rfl rfl rfl dX11_people_13 ?_
      refine ww_aload_n C dX11_people_16 0 rfl rfl ?_
      refine ww_iconst (v := 0) C dX11_people_17 rfl ?_
      refine ww_put (ws' := [(hx, .inr (11, [.ref qn, .ref qp, .int 0, .int 0, .ref qs, .ref qj, .ref ql, .ref qh, .ref qk, .int 0, .ref qr, .ref qg, .int 2, .int 0, .ref qsh]))]) C fp_X11_324 0 rfl rfl rfl rfl rfl dX11_people_18 ?_
      refine ww_iconst (v := 0) C dX11_people_21 rfl ?_
      refine ww_istore_n (lv' := [(2, .int 0), (0, .ref hx), (1, .int 2)]) C dX11_people_22 rfl rfl rfl ?_
      refine ww_iload_n C dX11_people_23 0 rfl rfl ?_
      refine ww_iload_n C dX11_people_24 2 rfl rfl ?_
      refine ww_icmp_ge_f (tgt := 50) C dX11_people_25 (by decide) (by decide) ?_
      refine ww_aload_n C dX11_people_28 1 rfl rfl ?_
      refine ww_dup C dX11_people_29 rfl ?_
      refine ww_get C fg_X11_324 0 rfl rfl dX11_people_30 ?_
      refine ww_iconst (v := 1) C dX11_people_33 rfl ?_
      refine ww_iload_n C dX11_people_34 0 rfl rfl ?_
      refine ww_ishl (v := 1) C dX11_people_35 (by decide) ?_
      refine ww_iconst (v := 4) C dX11_people_36 rfl ?_
      refine ww_iload_n C dX11_people_37 0 rfl rfl ?_
      refine ww_imul (v := 0) C dX11_people_38 (by decide) ?_
      refine ww_ishl (v := 1) C dX11_people_39 (by decide) ?_
      refine ww_ior (v := 1) C dX11_people_40 (by decide) ?_
      refine ww_put (ws' := [(hx, .inr (11, [.ref qn, .ref qp, .int 0, .int 0, .ref qs, .ref qj, .ref ql, .ref qh, .ref qk, .int 0, .ref qr, .ref qg, .int 2, .int 1, .ref qsh]))]) C fp_X11_324 0 rfl rfl rfl rfl rfl dX11_people_41 ?_
      refine ww_iinc (j := 0) (v := 1) (lv' := [(2, .int 1), (0, .ref hx), (1, .int 2)]) C dX11_people_44 rfl rfl rfl rfl ?_
      refine ww_goto (tgt := 23) C dX11_people_47 (by decide) ?_
      refine ww_iload_n C dX11_people_23 0 rfl rfl ?_
      refine ww_iload_n C dX11_people_24 2 rfl rfl ?_
      refine ww_icmp_ge_f (tgt := 50) C dX11_people_25 (by decide) (by decide) ?_
      refine ww_aload_n C dX11_people_28 1 rfl rfl ?_
      refine ww_dup C dX11_people_29 rfl ?_
      refine ww_get C fg_X11_324 0 rfl rfl dX11_people_30 ?_
      refine ww_iconst (v := 1) C dX11_people_33 rfl ?_
      refine ww_iload_n C dX11_people_34 0 rfl rfl ?_
      refine ww_ishl (v := 2) C dX11_people_35 (by decide) ?_
      refine ww_iconst (v := 4) C dX11_people_36 rfl ?_
      refine ww_iload_n C dX11_people_37 0 rfl rfl ?_
      refine ww_imul (v := 4) C dX11_people_38 (by decide) ?_
      refine ww_ishl (v := 32) C dX11_people_39 (by decide) ?_
      refine ww_ior (v := 33) C dX11_people_40 (by decide) ?_
      refine ww_put (ws' := [(hx, .inr (11, [.ref qn, .ref qp, .int 0, .int 0, .ref qs, .ref qj, .ref ql, .ref qh, .ref qk, .int 0, .ref qr, .ref qg, .int 2, .int 33, .ref qsh]))]) C fp_X11_324 0 rfl rfl rfl rfl rfl dX11_people_41 ?_
      refine ww_iinc (j := 0) (v := 2) (lv' := [(2, .int 2), (0, .ref hx), (1, .int 2)]) C dX11_people_44 rfl rfl rfl rfl ?_
      refine ww_goto (tgt := 23) C dX11_people_47 (by decide) ?_
      refine ww_iload_n C dX11_people_23 0 rfl rfl ?_
      refine ww_iload_n C dX11_people_24 2 rfl rfl ?_
      refine ww_icmp_ge_t (tgt := 50) C dX11_people_25 (by decide) (by decide) ?_
      refine ww_iload_n C dX11_people_50 2 rfl rfl ?_
      exact ww_iret (u := []) C hT [] rfl rfl rfl rfl dX11_people_51 (Or.inr (Or.inl ⟨rfl, rfl, (by first | assumption | omega | decide)⟩))
    · refine ww_aload_n C dX11_people_11 0 rfl rfl ?_
      refine ww_iload_n C dX11_people_12 1 rfl rfl ?_
      refine ww_put (ws' := [(hx, .inr (11, [.ref qn, .ref qp, .int 0, .int 0, .ref qs, .ref qj, .ref ql, .ref qh, .ref qk, .int 0, .ref qr, .ref qg, .int 3, .int 0, .ref qsh]))]) C fp_X11_106 0 rfl rfl rfl rfl rfl dX11_people_13 ?_
      refine ww_aload_n C dX11_people_16 0 rfl rfl ?_
      refine ww_iconst (v := 0) C dX11_people_17 rfl ?_
      refine ww_put (ws' := [(hx, .inr (11, [.ref qn, .ref qp, .int 0, .int 0, .ref qs, .ref qj, .ref ql, .ref qh, .ref qk, .int 0, .ref qr, .ref qg, .int 3, .int 0, .ref qsh]))]) C fp_X11_324 0 rfl rfl rfl rfl rfl dX11_people_18 ?_
      refine ww_iconst (v := 0) C dX11_people_21 rfl ?_
      refine ww_istore_n (lv' := [(2, .int 0), (0, .ref hx), (1, .int 3)]) C dX11_people_22 rfl rfl rfl ?_
      refine ww_iload_n C dX11_people_23 0 rfl rfl ?_
      refine ww_iload_n C dX11_people_24 2 rfl rfl ?_
      refine ww_icmp_ge_f (tgt := 50) C dX11_people_25 (by decide) (by decide) ?_
      refine ww_aload_n C dX11_people_28 1 rfl rfl ?_
      refine ww_dup C dX11_people_29 rfl ?_
      refine ww_get C fg_X11_324 0 rfl rfl dX11_people_30 ?_
      refine ww_iconst (v := 1) C dX11_people_33 rfl ?_
      refine ww_iload_n C dX11_people_34 0 rfl rfl ?_
      refine ww_ishl (v := 1) C dX11_people_35 (by decide) ?_
      refine ww_iconst (v := 4) C dX11_people_36 rfl ?_
      refine ww_iload_n C dX11_people_37 0 rfl rfl ?_
      refine ww_imul (v := 0) C dX11_people_38 (by decide) ?_
      refine ww_ishl (v := 1) C dX11_people_39 (by decide) ?_
      refine ww_ior (v := 1) C dX11_people_40 (by decide) ?_
      refine ww_put (ws' := [(hx, .inr (11, [.ref qn, .ref qp, .int 0, .int 0, .ref qs, .ref qj, .ref ql, .ref qh, .ref qk, .int 0, .ref qr, .ref qg, .int 3, .int 1, .ref qsh]))]) C fp_X11_324 0 rfl rfl rfl rfl rfl dX11_people_41 ?_
      refine ww_iinc (j := 0) (v := 1) (lv' := [(2, .int 1), (0, .ref hx), (1, .int 3)]) C dX11_people_44 rfl rfl rfl rfl ?_
      refine ww_goto (tgt := 23) C dX11_people_47 (by decide) ?_
      refine ww_iload_n C dX11_people_23 0 rfl rfl ?_
      refine ww_iload_n C dX11_people_24 2 rfl rfl ?_
      refine ww_icmp_ge_f (tgt := 50) C dX11_people_25 (by decide) (by decide) ?_
      refine ww_aload_n C dX11_people_28 1 rfl rfl ?_
      refine ww_dup C dX11_people_29 rfl ?_
      refine ww_get C fg_X11_324 0 rfl rfl dX11_people_30 ?_
      refine ww_iconst (v := 1) C dX11_people_33 rfl ?_
      refine ww_iload_n C dX11_people_34 0 rfl rfl ?_
      refine ww_ishl (v := 2) C dX11_people_35 (by decide) ?_
      refine ww_iconst (v := 4) C dX11_people_36 rfl ?_
      refine ww_iload_n C dX11_people_37 0 rfl rfl ?_
      refine ww_imul (v := 4) C dX11_people_38 (by decide) ?_
      refine ww_ishl (v := 32) C dX11_people_39 (by decide) ?_
      refine ww_ior (v := 33) C dX11_people_40 (by decide) ?_
      refine ww_put (ws' := [(hx, .inr (11, [.ref qn, .ref qp, .int 0, .int 0, .ref qs, .ref qj, .ref ql, .ref qh, .ref qk, .int 0, .ref qr, .ref qg, .int 3, .int 33, .ref qsh]))]) C fp_X11_324 0 rfl rfl rfl rfl rfl dX11_people_41 ?_
      refine ww_iinc (j := 0) (v := 2) (lv' := [(2, .int 2), (0, .ref hx), (1, .int 3)]) C dX11_people_44 rfl rfl rfl rfl ?_
      refine ww_goto (tgt := 23) C dX11_people_47 (by decide) ?_
      refine ww_iload_n C dX11_people_23 0 rfl rfl ?_
      refine ww_iload_n C dX11_people_24 2 rfl rfl ?_
      refine ww_icmp_ge_f (tgt := 50) C dX11_people_25 (by decide) (by decide) ?_
      refine ww_aload_n C dX11_people_28 1 rfl rfl ?_
      refine ww_dup C dX11_people_29 rfl ?_
      refine ww_get C fg_X11_324 0 rfl rfl dX11_people_30 ?_
      refine ww_iconst (v := 1) C dX11_people_33 rfl ?_
      refine ww_iload_n C dX11_people_34 0 rfl rfl ?_
      refine ww_ishl (v := 4) C dX11_people_35 (by decide) ?_
      refine ww_iconst (v := 4) C dX11_people_36 rfl ?_
      refine ww_iload_n C dX11_people_37 0 rfl rfl ?_
      refine ww_imul (v := 8) C dX11_people_38 (by decide) ?_
      refine ww_ishl (v := 1024) C dX11_people_39 (by decide) ?_
      refine ww_ior (v := 1057) C dX11_people_40 (by decide) ?_
      refine ww_put (ws' := [(hx, .inr (11, [.ref qn, .ref qp, .int 0, .int 0, .ref qs, .ref qj, .ref ql, .ref qh, .ref qk, .int 0, .ref qr, .ref qg, .int 3, .int 1057, .ref qsh]))]) C fp_X11_324 0 rfl rfl rfl rfl rfl dX11_people_41 ?_
      refine ww_iinc (j := 0) (v := 3) (lv' := [(2, .int 3), (0, .ref hx), (1, .int 3)]) C dX11_people_44 rfl rfl rfl rfl ?_
      refine ww_goto (tgt := 23) C dX11_people_47 (by decide) ?_
      refine ww_iload_n C dX11_people_23 0 rfl rfl ?_
      refine ww_iload_n C dX11_people_24 2 rfl rfl ?_
      refine ww_icmp_ge_t (tgt := 50) C dX11_people_25 (by decide) (by decide) ?_
      refine ww_iload_n C dX11_people_50 2 rfl rfl ?_
      exact ww_iret (u := []) C hT [] rfl rfl rfl rfl dX11_people_51 (Or.inr (Or.inr (Or.inl ⟨rfl, rfl, (by first | assumption | omega | decide)⟩)))
    · refine ww_aload_n C dX11_people_11 0 rfl rfl ?_
      refine ww_iload_n C dX11_people_12 1 rfl rfl ?_
      refine ww_put (ws' := [(hx, .inr (11, [.ref qn, .ref qp, .int 0, .int 0, .ref qs, .ref qj, .ref ql, .ref qh, .ref qk, .int 0, .ref qr, .ref qg, .int 4, .int 0, .ref qsh]))]) C fp_X11_106 0 rfl rfl rfl rfl rfl dX11_people_13 ?_
      refine ww_aload_n C dX11_people_16 0 rfl rfl ?_
      refine ww_iconst (v := 0) C dX11_people_17 rfl ?_
      refine ww_put (ws' := [(hx, .inr (11, [.ref qn, .ref qp, .int 0, .int 0, .ref qs, .ref qj, .ref ql, .ref qh, .ref qk, .int 0, .ref qr, .ref qg, .int 4, .int 0, .ref qsh]))]) C fp_X11_324 0 rfl rfl rfl rfl rfl dX11_people_18 ?_
      refine ww_iconst (v := 0) C dX11_people_21 rfl ?_
      refine ww_istore_n (lv' := [(2, .int 0), (0, .ref hx), (1, .int 4)]) C dX11_people_22 rfl rfl rfl ?_
      refine ww_iload_n C dX11_people_23 0 rfl rfl ?_
      refine ww_iload_n C dX11_people_24 2 rfl rfl ?_
      refine ww_icmp_ge_f (tgt := 50) C dX11_people_25 (by decide) (by decide) ?_
      refine ww_aload_n C dX11_people_28 1 rfl rfl ?_
      refine ww_dup C dX11_people_29 rfl ?_
      refine ww_get C fg_X11_324 0 rfl rfl dX11_people_30 ?_
      refine ww_iconst (v := 1) C dX11_people_33 rfl ?_
      refine ww_iload_n C dX11_people_34 0 rfl rfl ?_
      refine ww_ishl (v := 1) C dX11_people_35 (by decide) ?_
      refine ww_iconst (v := 4) C dX11_people_36 rfl ?_
      refine ww_iload_n C dX11_people_37 0 rfl rfl ?_
      refine ww_imul (v := 0) C dX11_people_38 (by decide) ?_
      refine ww_ishl (v := 1) C dX11_people_39 (by decide) ?_
      refine ww_ior (v := 1) C dX11_people_40 (by decide) ?_
      refine ww_put (ws' := [(hx, .inr (11, [.ref qn, .ref qp, .int 0, .int 0, .ref qs, .ref qj, .ref ql, .ref qh, .ref qk, .int 0, .ref qr, .ref qg, .int 4, .int 1, .ref qsh]))]) C fp_X11_324 0 rfl rfl rfl rfl rfl dX11_people_41 ?_
      refine ww_iinc (j := 0) (v := 1) (lv' := [(2, .int 1), (0, .ref hx), (1, .int 4)]) C dX11_people_44 rfl rfl rfl rfl ?_
      refine ww_goto (tgt := 23) C dX11_people_47 (by decide) ?_
      refine ww_iload_n C dX11_people_23 0 rfl rfl ?_
      refine ww_iload_n C dX11_people_24 2 rfl rfl ?_
      refine ww_icmp_ge_f (tgt := 50) C dX11_people_25 (by decide) (by decide) ?_
      refine ww_aload_n C dX11_people_28 1 rfl rfl ?_
      refine ww_dup C dX11_people_29 rfl ?_
      refine ww_get C fg_X11_324 0 rfl rfl dX11_people_30 ?_
      refine ww_iconst (v := 1) C dX11_people_33 rfl ?_
      refine ww_iload_n C dX11_people_34 0 rfl rfl ?_
      refine ww_ishl (v := 2) C dX11_people_35 (by decide) ?_
      refine ww_iconst (v := 4) C dX11_people_36 rfl ?_
      refine ww_iload_n C dX11_people_37 0 rfl rfl ?_
      refine ww_imul (v := 4) C dX11_people_38 (by decide) ?_
      refine ww_ishl (v := 32) C dX11_people_39 (by decide) ?_
      refine ww_ior (v := 33) C dX11_people_40 (by decide) ?_
      refine ww_put (ws' := [(hx, .inr (11, [.ref qn, .ref qp, .int 0, .int 0, .ref qs, .ref qj, .ref ql, .ref qh, .ref qk, .int 0, .ref qr, .ref qg, .int 4, .int 33, .ref qsh]))]) C fp_X11_324 0 rfl rfl rfl rfl rfl dX11_people_41 ?_
      refine ww_iinc (j := 0) (v := 2) (lv' := [(2, .int 2), (0, .ref hx), (1, .int 4)]) C dX11_people_44 rfl rfl rfl rfl ?_
      refine ww_goto (tgt := 23) C dX11_people_47 (by decide) ?_
      refine ww_iload_n C dX11_people_23 0 rfl rfl ?_
      refine ww_iload_n C dX11_people_24 2 rfl rfl ?_
      refine ww_icmp_ge_f (tgt := 50) C dX11_people_25 (by decide) (by decide) ?_
      refine ww_aload_n C dX11_people_28 1 rfl rfl ?_
      refine ww_dup C dX11_people_29 rfl ?_
      refine ww_get C fg_X11_324 0 rfl rfl dX11_people_30 ?_
      refine ww_iconst (v := 1) C dX11_people_33 rfl ?_
      refine ww_iload_n C dX11_people_34 0 rfl rfl ?_
      refine ww_ishl (v := 4) C dX11_people_35 (by decide) ?_
      refine ww_iconst (v := 4) C dX11_people_36 rfl ?_
      refine ww_iload_n C dX11_people_37 0 rfl rfl ?_
      refine ww_imul (v := 8) C dX11_people_38 (by decide) ?_
      refine ww_ishl (v := 1024) C dX11_people_39 (by decide) ?_
      refine ww_ior (v := 1057) C dX11_people_40 (by decide) ?_
      refine ww_put (ws' := [(hx, .inr (11, [.ref qn, .ref qp, .int 0, .int 0, .ref qs, .ref qj, .ref ql, .ref qh, .ref qk, .int 0, .ref qr, .ref qg, .int 4, .int 1057, .ref qsh]))]) C fp_X11_324 0 rfl rfl rfl rfl rfl dX11_people_41 ?_
      refine ww_iinc (j := 0) (v := 3) (lv' := [(2, .int 3), (0, .ref hx), (1, .int 4)]) C dX11_people_44 rfl rfl rfl rfl ?_
      refine ww_goto (tgt := 23) C dX11_people_47 (by decide) ?_
      refine ww_iload_n C dX11_people_23 0 rfl rfl ?_
      refine ww_iload_n C dX11_people_24 2 rfl rfl ?_
      refine ww_icmp_ge_f (tgt := 50) C dX11_people_25 (by decide) (by decide) ?_
      refine ww_aload_n C dX11_people_28 1 rfl rfl ?_
      refine ww_dup C dX11_people_29 rfl ?_
      refine ww_get C fg_X11_324 0 rfl rfl dX11_people_30 ?_
      refine ww_iconst (v := 1) C dX11_people_33 rfl ?_
      refine ww_iload_n C dX11_people_34 0 rfl rfl ?_
      refine ww_ishl (v := 8) C dX11_people_35 (by decide) ?_
      refine ww_iconst (v := 4) C dX11_people_36 rfl ?_
      refine ww_iload_n C dX11_people_37 0 rfl rfl ?_
      refine ww_imul (v := 12) C dX11_people_38 (by decide) ?_
      refine ww_ishl (v := 32768) C dX11_people_39 (by decide) ?_
      refine ww_ior (v := 33825) C dX11_people_40 (by decide) ?_
      refine ww_put (ws' := [(hx, .inr (11, [.ref qn, .ref qp, .int 0, .int 0, .ref qs, .ref qj, .ref ql, .ref qh, .ref qk, .int 0, .ref qr, .ref qg, .int 4, .int 33825, .ref qsh]))]) C fp_X11_324 0 rfl rfl rfl rfl rfl dX11_people_41 ?_
      refine ww_iinc (j := 0) (v := 4) (lv' := [(2, .int 4), (0, .ref hx), (1, .int 4)]) C dX11_people_44 rfl rfl rfl rfl ?_
      refine ww_goto (tgt := 23) C dX11_people_47 (by decide) ?_
      refine ww_iload_n C dX11_people_23 0 rfl rfl ?_
      refine ww_iload_n C dX11_people_24 2 rfl rfl ?_
      refine ww_icmp_ge_t (tgt := 50) C dX11_people_25 (by decide) (by decide) ?_
      refine ww_iload_n C dX11_people_50 2 rfl rfl ?_
      exact ww_iret (u := []) C hT [] rfl rfl rfl rfl dX11_people_51 (Or.inr (Or.inr (Or.inr ⟨rfl, rfl, (by first | assumption | omega | decide)⟩)))
  · refine ww_eq (ws' := [(hx, .inr (11, [.ref qn, .ref qp, .int 0, .int 0, .ref qs, .ref qj, .ref ql, .ref qh, .ref qk, .int 0, .ref qr, .ref qg, .int 0, .int 0, .ref qsh]))]) ?_ rfl rfl rfl
    refine ww_if_ne_f (tgt := 11) C dX11_people_6 (by decide) (rfl) ?_
    refine ww_iconst (v := (-1)) C dX11_people_9 rfl ?_
    exact ww_iret (u := []) C hT [] rfl rfl rfl rfl dX11_people_10 (Or.inl ⟨rfl, rfl, (by first | assumption | omega | decide)⟩)
theorem dX11_call_0 : decode cX11_call 0 = .ok (.aload_n 0, 1) := by decide +kernel
theorem dX11_call_1 : decode cX11_call 1 = .ok (.iload_n 1, 1) := by decide +kernel
theorem dX11_call_2 : decode cX11_call 2 = .ok (.invokevirtual 327, 3) := by decide +kernel
theorem wl_X11_327 : Cond.methodLink RX11 327 yX11_isPerson ∈ TB := tbm (tq5 (List.mem_of_getElem? (i := 2) (by decide +kernel))) (by decide +kernel)
theorem wc_X11_isPerson : Cond.code yX11_isPerson cX11_isPerson 2 (some .boolean) ∈ TB := tbm (tq5 (List.mem_of_getElem? (i := 5) (rfl))) (by decide +kernel)
theorem wi_X11_isPerson : Cond.instanceMethod yX11_isPerson ∈ TB := tbm (tq5 (List.mem_of_getElem? (i := 4) (by decide +kernel))) (by decide +kernel)
theorem ws_X11_isPerson : Cond.selects RX11 yX11_isPerson yX11_isPerson ∈ TB := tbm (tq0 (List.mem_of_getElem? (i := 33) (by decide +kernel))) (by decide +kernel)
theorem mi_X11_isPerson : MI yX11_isPerson cX11_isPerson 2 (some .boolean) 1 := ⟨wc_X11_isPerson, wn_X11, ⟨by decide +kernel, by decide +kernel, by decide +kernel⟩, wi_X11_isPerson, ws_X11_isPerson⟩
theorem dX11_call_5 : decode cX11_call 5 = .ok (.ifCond .eq 16, 3) := by decide +kernel
theorem dX11_call_21 : decode cX11_call 21 = .ok (.iconst (-1), 1) := by decide +kernel
theorem dX11_call_22 : decode cX11_call 22 = .ok (.ireturn, 1) := by decide +kernel
set_option maxRecDepth 100000 in
set_option maxHeartbeats 4000000 in
theorem x_call (l : Launch) (E : EV) (hx : Nat) (p0 : Int32) (p1 : Int32) (qn : Nat) (qp : Nat) (qs : Nat) (qj : Nat) (ql : Nat) (qh : Nat) (qk : Nat) (qr : Nat) (qg : Nat) (qsh : Nat)  : CT l yX11_call (Cond.code yX11_call cX11_call 3 (some .int) :: TB) ({ frames := 2, cells := 0, slots := 0, locals := 43 }) E [.ref hx, .int p0, .int p1] [(hx, .inr (11, [.ref qn, .ref qp, .int 0, .int 0, .ref qs, .ref qj, .ref ql, .ref qh, .ref qk, .int 0, .ref qr, .ref qg, .int 0, .int 0, .ref qsh]))] (Qi E (fun (r : Int32) u => (r = (-1) ∧ u = []))) 0 0 := by
  refine ct_of rfl rfl ?_
  intro X C hT hin
  show WW X 3 E 0 [(0, .ref hx), (1, .int p0), (2, .int p1)] [] [(hx, .inr (11, [.ref qn, .ref qp, .int 0, .int 0, .ref qs, .ref qj, .ref ql, .ref qh, .ref qk, .int 0, .ref qr, .ref qg, .int 0, .int 0, .ref qsh]))] 0 0
  refine ww_aload_n C dX11_call_0 0 rfl rfl ?_
  refine ww_iload_n C dX11_call_1 1 rfl rfl ?_
  refine ww_ci (wr := []) (k' := 0) (n' := 0) C (run_V (As := [.int p0]) (rest := []) C (c_isPerson X.2.1 E hx p0 qn qp qs qj ql qh qk qr qg qsh) mi_X11_isPerson wl_X11_327 rfl 0 11 rfl rfl rfl rfl rfl dX11_call_2) [0] [] rfl rfl rfl rfl (fun r u hw => ?_)
  obtain ⟨rfl, rfl⟩ := hw
  refine ww_eq (ws' := [(hx, .inr (11, [.ref qn, .ref qp, .int 0, .int 0, .ref qs, .ref qj, .ref ql, .ref qh, .ref qk, .int 0, .ref qr, .ref qg, .int 0, .int 0, .ref qsh]))]) ?_ rfl rfl rfl
  refine ww_if_eq_t (tgt := 21) C dX11_call_5 (by decide) (rfl) ?_
  refine ww_iconst (v := (-1)) C dX11_call_21 rfl ?_
  exact ww_iret (u := []) C hT [] rfl rfl rfl rfl dX11_call_22 (⟨rfl, rfl⟩)
theorem dX11_secrets_0 : decode cX11_secrets 0 = .ok (.aload_n 0, 1) := by decide +kernel
theorem dX11_secrets_1 : decode cX11_secrets 1 = .ok (.iload_n 1, 1) := by decide +kernel
theorem dX11_secrets_2 : decode cX11_secrets 2 = .ok (.invokevirtual 327, 3) := by decide +kernel
theorem dX11_secrets_5 : decode cX11_secrets 5 = .ok (.ifCond .eq 14, 3) := by decide +kernel
theorem dX11_secrets_19 : decode cX11_secrets 19 = .ok (.iconst (-1), 1) := by decide +kernel
theorem dX11_secrets_20 : decode cX11_secrets 20 = .ok (.ireturn, 1) := by decide +kernel
set_option maxRecDepth 100000 in
set_option maxHeartbeats 4000000 in
theorem x_secrets (l : Launch) (E : EV) (hx : Nat) (p0 : Int32) (qn : Nat) (qp : Nat) (qs : Nat) (qj : Nat) (ql : Nat) (qh : Nat) (qk : Nat) (qr : Nat) (qg : Nat) (qsh : Nat)  : CT l yX11_secrets (Cond.code yX11_secrets cX11_secrets 2 (some .int) :: TB) ({ frames := 2, cells := 0, slots := 0, locals := 43 }) E [.ref hx, .int p0] [(hx, .inr (11, [.ref qn, .ref qp, .int 0, .int 0, .ref qs, .ref qj, .ref ql, .ref qh, .ref qk, .int 0, .ref qr, .ref qg, .int 0, .int 0, .ref qsh]))] (Qi E (fun (r : Int32) u => (r = (-1) ∧ u = []))) 0 0 := by
  refine ct_of rfl rfl ?_
  intro X C hT hin
  show WW X 2 E 0 [(0, .ref hx), (1, .int p0)] [] [(hx, .inr (11, [.ref qn, .ref qp, .int 0, .int 0, .ref qs, .ref qj, .ref ql, .ref qh, .ref qk, .int 0, .ref qr, .ref qg, .int 0, .int 0, .ref qsh]))] 0 0
  refine ww_aload_n C dX11_secrets_0 0 rfl rfl ?_
  refine ww_iload_n C dX11_secrets_1 1 rfl rfl ?_
  refine ww_ci (wr := []) (k' := 0) (n' := 0) C (run_V (As := [.int p0]) (rest := []) C (c_isPerson X.2.1 E hx p0 qn qp qs qj ql qh qk qr qg qsh) mi_X11_isPerson wl_X11_327 rfl 0 11 rfl rfl rfl rfl rfl dX11_secrets_2) [0] [] rfl rfl rfl rfl (fun r u hw => ?_)
  obtain ⟨rfl, rfl⟩ := hw
  refine ww_eq (ws' := [(hx, .inr (11, [.ref qn, .ref qp, .int 0, .int 0, .ref qs, .ref qj, .ref ql, .ref qh, .ref qk, .int 0, .ref qr, .ref qg, .int 0, .int 0, .ref qsh]))]) ?_ rfl rfl rfl
  refine ww_if_eq_t (tgt := 19) C dX11_secrets_5 (by decide) (rfl) ?_
  refine ww_iconst (v := (-1)) C dX11_secrets_19 rfl ?_
  exact ww_iret (u := []) C hT [] rfl rfl rfl rfl dX11_secrets_20 (⟨rfl, rfl⟩)
theorem dX11_fewest_0 : decode cX11_fewest 0 = .ok (.iload_n 1, 1) := by decide +kernel
theorem dX11_fewest_1 : decode cX11_fewest 1 = .ok (.iconst 0, 1) := by decide +kernel
theorem dX11_fewest_2 : decode cX11_fewest 2 = .ok (.iconst 1, 1) := by decide +kernel
theorem dX11_fewest_3 : decode cX11_fewest 3 = .ok (.invokestatic 76, 3) := by decide +kernel
theorem dX11_fewest_6 : decode cX11_fewest 6 = .ok (.ifCond .ne 5, 3) := by decide +kernel
theorem dX11_fewest_11 : decode cX11_fewest 11 = .ok (.aload_n 0, 1) := by decide +kernel
theorem dX11_fewest_12 : decode cX11_fewest 12 = .ok (.getfield 106, 3) := by decide +kernel
theorem dX11_fewest_15 : decode cX11_fewest 15 = .ok (.ifCond .ne 6, 3) := by decide +kernel
theorem dX11_fewest_18 : decode cX11_fewest 18 = .ok (.bipush (-2), 2) := by decide +kernel
theorem dX11_fewest_20 : decode cX11_fewest 20 = .ok (.ireturn, 1) := by decide +kernel
theorem dX11_fewest_9 : decode cX11_fewest 9 = .ok (.iconst (-1), 1) := by decide +kernel
theorem dX11_fewest_10 : decode cX11_fewest 10 = .ok (.ireturn, 1) := by decide +kernel
set_option maxRecDepth 100000 in
set_option maxHeartbeats 4000000 in
theorem x_fewest (l : Launch) (E : EV) (hx : Nat) (p0 : Int32) (qn : Nat) (qp : Nat) (qs : Nat) (qj : Nat) (ql : Nat) (qh : Nat) (qk : Nat) (qr : Nat) (qg : Nat) (qsh : Nat)  : CT l yX11_fewest (Cond.code yX11_fewest cX11_fewest 3 (some .int) :: TB) ({ frames := 1, cells := 0, slots := 0, locals := 22 }) E [.ref hx, .int p0] [(hx, .inr (11, [.ref qn, .ref qp, .int 0, .int 0, .ref qs, .ref qj, .ref ql, .ref qh, .ref qk, .int 0, .ref qr, .ref qg, .int 0, .int 0, .ref qsh]))] (Qi E (fun (r : Int32) u => (r = (-1) ∧ u = [] ∧ (p0.toInt < 0 ∨ 1 < p0.toInt)) ∨ (r = (-2) ∧ u = [] ∧ (0 ≤ p0.toInt) ∧ (p0.toInt ≤ 1)))) 0 0 := by
  refine ct_of rfl rfl ?_
  intro X C hT hin
  show WW X 3 E 0 [(0, .ref hx), (1, .int p0)] [] [(hx, .inr (11, [.ref qn, .ref qp, .int 0, .int 0, .ref qs, .ref qj, .ref ql, .ref qh, .ref qk, .int 0, .ref qr, .ref qg, .int 0, .int 0, .ref qsh]))] 0 0
  refine ww_iload_n C dX11_fewest_0 1 rfl rfl ?_
  refine ww_iconst (v := 0) C dX11_fewest_1 rfl ?_
  refine ww_iconst (v := 1) C dX11_fewest_2 rfl ?_
  refine ww_ci (wr := [(hx, .inr (11, [.ref qn, .ref qp, .int 0, .int 0, .ref qs, .ref qj, .ref ql, .ref qh, .ref qk, .int 0, .ref qr, .ref qg, .int 0, .int 0, .ref qsh]))]) (k' := 0) (n' := 0) C (run_S (As := [.int p0, .int 0, .int 1]) (rest := []) C (c_within X.2.1 E p0 0 1 p0.toInt 0 1 rfl rfl rfl) ms_X11_within wl_X11_76 rfl rfl rfl rfl dX11_fewest_3) [] [0] rfl rfl rfl rfl (fun r u hw => ?_)
  rcases hw with ⟨rfl, rfl, h_1, h_2⟩ | ⟨rfl, rfl, h_3⟩
  · refine ww_eq (ws' := [(hx, .inr (11, [.ref qn, .ref qp, .int 0, .int 0, .ref qs, .ref qj, .ref ql, .ref qh, .ref qk, .int 0, .ref qr, .ref qg, .int 0, .int 0, .ref qsh]))]) ?_ rfl rfl rfl
    refine ww_if_ne_t (tgt := 11) C dX11_fewest_6 (by decide) (by decide) ?_
    refine ww_aload_n C dX11_fewest_11 0 rfl rfl ?_
    refine ww_get C fg_X11_106 0 rfl rfl dX11_fewest_12 ?_
    refine ww_if_ne_f (tgt := 21) C dX11_fewest_15 (by decide) (rfl) ?_
    refine ww_bipush (v := (-2)) C dX11_fewest_18 rfl ?_
    exact ww_iret (u := []) C hT [] rfl rfl rfl rfl dX11_fewest_20 (Or.inr ⟨rfl, rfl, (by first | assumption | omega | decide), (by first | assumption | omega | decide)⟩)
  · refine ww_eq (ws' := [(hx, .inr (11, [.ref qn, .ref qp, .int 0, .int 0, .ref qs, .ref qj, .ref ql, .ref qh, .ref qk, .int 0, .ref qr, .ref qg, .int 0, .int 0, .ref qsh]))]) ?_ rfl rfl rfl
    refine ww_if_ne_f (tgt := 11) C dX11_fewest_6 (by decide) (rfl) ?_
    refine ww_iconst (v := (-1)) C dX11_fewest_9 rfl ?_
    exact ww_iret (u := []) C hT [] rfl rfl rfl rfl dX11_fewest_10 (Or.inl ⟨rfl, rfl, (by first | assumption | omega | decide)⟩)
theorem dX9_begin_0 : decode cX9_begin 0 = .ok (.aload_n 0, 1) := by decide +kernel
theorem dX9_begin_1 : decode cX9_begin 1 = .ok (.iconst 1, 1) := by decide +kernel
theorem dX9_begin_2 : decode cX9_begin 2 = .ok (.putfield 15, 3) := by decide +kernel
theorem wf_X9_15 : Cond.fieldLink RX9 15 RX9 "isThere" "Z" ∈ TB := tbm (tq2 (List.mem_of_getElem? (i := 80) (by decide +kernel))) (by decide +kernel)
theorem fp_X9_15 : FP RX9 15 9 0 .boolean false := ⟨RX9, TX9, 4, tyX9, uw_X9, wf_X9_15, rfl, by decide, rfl, tyX9_ok, nmX9, rfl, by decide +kernel⟩
theorem dX9_begin_5 : decode cX9_begin 5 = .ok (.aload_n 0, 1) := by decide +kernel
theorem dX9_begin_6 : decode cX9_begin 6 = .ok (.iload_n 1, 1) := by decide +kernel
theorem dX9_begin_7 : decode cX9_begin 7 = .ok (.putfield 19, 3) := by decide +kernel
theorem wf_X9_19 : Cond.fieldLink RX9 19 RX9 "lane" "I" ∈ TB := tbm (tq2 (List.mem_of_getElem? (i := 84) (by decide +kernel))) (by decide +kernel)
theorem fp_X9_19 : FP RX9 19 9 2 .int false := ⟨RX9, TX9, 4, tyX9, uw_X9, wf_X9_19, rfl, by decide, rfl, tyX9_ok, nmX9, rfl, by decide +kernel⟩
theorem dX9_begin_10 : decode cX9_begin 10 = .ok (.aload_n 0, 1) := by decide +kernel
theorem dX9_begin_11 : decode cX9_begin 11 = .ok (.iload_n 2, 1) := by decide +kernel
theorem dX9_begin_12 : decode cX9_begin 12 = .ok (.putfield 23, 3) := by decide +kernel
theorem wf_X9_23 : Cond.fieldLink RX9 23 RX9 "size" "I" ∈ TB := tbm (tq2 (List.mem_of_getElem? (i := 82) (by decide +kernel))) (by decide +kernel)
theorem fp_X9_23 : FP RX9 23 9 1 .int false := ⟨RX9, TX9, 4, tyX9, uw_X9, wf_X9_23, rfl, by decide, rfl, tyX9_ok, nmX9, rfl, by decide +kernel⟩
theorem dX9_begin_15 : decode cX9_begin 15 = .ok (.iconst 0, 1) := by decide +kernel
theorem dX9_begin_16 : decode cX9_begin 16 = .ok (.istore_n 3, 1) := by decide +kernel
theorem dX9_begin_17 : decode cX9_begin 17 = .ok (.iload_n 3, 1) := by decide +kernel
theorem dX9_begin_18 : decode cX9_begin 18 = .ok (.iload_n 2, 1) := by decide +kernel
theorem dX9_begin_19 : decode cX9_begin 19 = .ok (.if_icmp .ge 16, 3) := by decide +kernel
theorem dX9_begin_35 : decode cX9_begin 35 = .ok (.return_, 1) := by decide +kernel
theorem dX9_begin_22 : decode cX9_begin 22 = .ok (.aload_n 0, 1) := by decide +kernel
theorem dX9_begin_23 : decode cX9_begin 23 = .ok (.getfield 9, 3) := by decide +kernel
theorem fg_X9_9 : FG RX9 9 9 3 := ⟨RX9, TX9, 4, uw_X9, wf_X9_9, rfl, by decide, rfl⟩
theorem dX9_begin_26 : decode cX9_begin 26 = .ok (.iload_n 3, 1) := by decide +kernel
theorem dX9_begin_27 : decode cX9_begin 27 = .ok (.iconst 0, 1) := by decide +kernel
theorem dX9_begin_28 : decode cX9_begin 28 = .ok (.iastore, 1) := by decide +kernel
theorem dX9_begin_29 : decode cX9_begin 29 = .ok (.iinc 3 1, 3) := by decide +kernel
theorem dX9_begin_32 : decode cX9_begin 32 = .ok (.goto (-15), 3) := by decide +kernel
set_option maxRecDepth 100000 in
set_option maxHeartbeats 4000000 in
theorem c_sbegin (l : Launch) (E : EV) (h : Nat) (la : Int32) (n : Int32) (a : Nat) (h0 : 0 ≤ n.toInt) (h1 : n.toInt ≤ 48) : CT l yX9_begin (Cond.code yX9_begin cX9_begin 4 none :: TB) ({ frames := 0, cells := 0, slots := 0, locals := 0 }) E [.ref h, .int la, .int n] [(h, .inr (9, [.int 0, .int 0, .int 0, .ref a])), (a, .inl (E.2.1 1, 48, .inl (fun _ => 0)))] (Qv E (fun u => (u = []))) 0 0 := by
  refine ct_of rfl rfl ?_
  intro X C hT hin
  show WW X 4 E 0 [(0, .ref h), (1, .int la), (2, .int n)] [] [(h, .inr (9, [.int 0, .int 0, .int 0, .ref a])), (a, .inl (E.2.1 1, 48, .inl (fun _ => 0)))] 0 0
  refine ww_aload_n C dX9_begin_0 0 rfl rfl ?_
  refine ww_iconst (v := 1) C dX9_begin_1 rfl ?_
  refine ww_put (ws' := [(h, .inr (9, [.int 1, .int 0, .int 0, .ref a])), (a, .inl (E.2.1 1, 48, .inl (fun _ => 0)))]) C fp_X9_15 0 rfl rfl rfl rfl rfl dX9_begin_2 ?_
  refine ww_aload_n C dX9_begin_5 0 rfl rfl ?_
  refine ww_iload_n C dX9_begin_6 1 rfl rfl ?_
  refine ww_put (ws' := [(h, .inr (9, [.int 1, .int 0, .int la, .ref a])), (a, .inl (E.2.1 1, 48, .inl (fun _ => 0)))]) C fp_X9_19 0 rfl rfl rfl rfl rfl dX9_begin_7 ?_
  refine ww_aload_n C dX9_begin_10 0 rfl rfl ?_
  refine ww_iload_n C dX9_begin_11 2 rfl rfl ?_
  refine ww_put (ws' := [(h, .inr (9, [.int 1, .int n, .int la, .ref a])), (a, .inl (E.2.1 1, 48, .inl (fun _ => 0)))]) C fp_X9_23 0 rfl rfl rfl rfl rfl dX9_begin_12 ?_
  refine ww_iconst (v := 0) C dX9_begin_15 rfl ?_
  refine ww_istore_n (lv' := [(3, .int 0), (0, .ref h), (1, .int la), (2, .int n)]) C dX9_begin_16 rfl rfl rfl ?_
  have loop_17 : ∀ (nn : Nat) (ii : Nat) (ff : Nat → Int32), ((ii : Int) ≤ n.toInt) → (n.toInt - (ii : Int)).toNat < nn → WW X 4 E 17 [(0, .ref h), (1, .int la), (2, .int n), (3, .int (nI ii))] [] [(h, .inr (9, [.int 1, .int n, .int la, .ref a])), (a, .inl (E.2.1 1, 48, .inl ff))] 0 0 := by
    intro nn
    induction nn with
    | zero => intro ii ff hi hmeas; exact absurd hmeas (Nat.not_lt_zero _)
    | succ nn ih_17 =>
      intro ii ff hi hmeas
      refine ww_iload_n C dX9_begin_17 3 rfl rfl ?_
      refine ww_iload_n C dX9_begin_18 2 rfl rfl ?_
      refine ww_icmp_ge (tgt := 35) C dX9_begin_19 (by decide) (fun c_1 => ?_) (fun c_1 => ?_)
      · have zc_1 : ((ii : Nat) : Int) ≥ n.toInt := i_le rfl (nI_toInt (by omega)) c_1
        exact ww_vret (u := []) C hT [] rfl rfl rfl rfl dX9_begin_35 (rfl)
      · have zc_1 : ((ii : Nat) : Int) < n.toInt := i_nle rfl (nI_toInt (by omega)) c_1
        refine ww_aload_n C dX9_begin_22 0 rfl rfl ?_
        refine ww_get C fg_X9_9 0 rfl rfl dX9_begin_23 ?_
        refine ww_iload_n C dX9_begin_26 3 rfl rfl ?_
        refine ww_iconst (v := 0) C dX9_begin_27 rfl ?_
        obtain ⟨f_2, ef_2⟩ : ∃ z : Nat → Int32, upd ff (nI ii).toNatClampNeg 0 = z := ⟨_, rfl⟩
        refine ww_iast (ws' := [(h, .inr (9, [.int 1, .int n, .int la, .ref a])), (a, .inl (E.2.1 1, 48, .inl f_2))]) C 1 rfl (vp_in_nI (by omega) (by omega)) ef_2 rfl dX9_begin_28 ?_
        refine ww_iinc (j := 3) (v := (nI (ii + 1))) (lv' := [(3, .int (nI (ii + 1))), (0, .ref h), (1, .int la), (2, .int n)]) C dX9_begin_29 rfl (nI_add ii 1) rfl rfl ?_
        refine ww_goto (tgt := 17) C dX9_begin_32 (by decide) ?_
        exact ww_lv [1, 2, 3, 0] rfl (ww_sub [0, 1] rfl rfl (ih_17 (ii + 1) f_2 (by omega) (by omega)))
  exact ww_lv [1, 2, 3, 0] rfl (ww_sub [0, 1] rfl rfl (loop_17 _ 0 (fun _ => 0) (by omega) (Nat.lt_succ_self _)))
theorem dX11_sheet_0 : decode cX11_sheet 0 = .ok (.iload_n 1, 1) := by decide +kernel
theorem dX11_sheet_1 : decode cX11_sheet 1 = .ok (.iconst 0, 1) := by decide +kernel
theorem dX11_sheet_2 : decode cX11_sheet 2 = .ok (.iconst 3, 1) := by decide +kernel
theorem dX11_sheet_3 : decode cX11_sheet 3 = .ok (.invokestatic 76, 3) := by decide +kernel
theorem dX11_sheet_6 : decode cX11_sheet 6 = .ok (.ifCond .eq 18, 3) := by decide +kernel
theorem dX11_sheet_9 : decode cX11_sheet 9 = .ok (.iload_n 2, 1) := by decide +kernel
theorem dX11_sheet_10 : decode cX11_sheet 10 = .ok (.iconst 0, 1) := by decide +kernel
theorem dX11_sheet_11 : decode cX11_sheet 11 = .ok (.iconst 2, 1) := by decide +kernel
theorem dX11_sheet_12 : decode cX11_sheet 12 = .ok (.invokestatic 76, 3) := by decide +kernel
theorem dX11_sheet_15 : decode cX11_sheet 15 = .ok (.ifCond .eq 9, 3) := by decide +kernel
theorem dX11_sheet_18 : decode cX11_sheet 18 = .ok (.iload_n 3, 1) := by decide +kernel
theorem dX11_sheet_19 : decode cX11_sheet 19 = .ok (.bipush 48, 2) := by decide +kernel
theorem dX11_sheet_21 : decode cX11_sheet 21 = .ok (.if_icmp .le 5, 3) := by decide +kernel
theorem dX11_sheet_26 : decode cX11_sheet 26 = .ok (.iload_n 3, 1) := by decide +kernel
theorem dX11_sheet_27 : decode cX11_sheet 27 = .ok (.ifCond .ge 6, 3) := by decide +kernel
theorem dX11_sheet_33 : decode cX11_sheet 33 = .ok (.aload_n 0, 1) := by decide +kernel
theorem dX11_sheet_34 : decode cX11_sheet 34 = .ok (.getfield 71, 3) := by decide +kernel
theorem dX11_sheet_37 : decode cX11_sheet 37 = .ok (.iload_n 1, 1) := by decide +kernel
theorem dX11_sheet_38 : decode cX11_sheet 38 = .ok (.aaload, 1) := by decide +kernel
theorem dX11_sheet_39 : decode cX11_sheet 39 = .ok (.iload_n 2, 1) := by decide +kernel
theorem dX11_sheet_40 : decode cX11_sheet 40 = .ok (.iload_n 3, 1) := by decide +kernel
theorem dX11_sheet_41 : decode cX11_sheet 41 = .ok (.invokevirtual 335, 3) := by decide +kernel
theorem wl_X11_335 : Cond.methodLink RX11 335 yX9_begin ∈ TB := tbm (tq5 (List.mem_of_getElem? (i := 34) (by decide +kernel))) (by decide +kernel)
theorem wc_X9_begin : Cond.code yX9_begin cX9_begin 4 none ∈ TB := tbm (tq5 (List.mem_of_getElem? (i := 37) (rfl))) (by decide +kernel)
theorem wi_X9_begin : Cond.instanceMethod yX9_begin ∈ TB := tbm (tq5 (List.mem_of_getElem? (i := 35) (by decide +kernel))) (by decide +kernel)
theorem ws_X9_begin : Cond.selects RX9 yX9_begin yX9_begin ∈ TB := tbm (tq5 (List.mem_of_getElem? (i := 36) (by decide +kernel))) (by decide +kernel)
theorem mi_X9_begin : MI yX9_begin cX9_begin 4 none 2 := ⟨wc_X9_begin, wn_X9, ⟨by decide +kernel, by decide +kernel, by decide +kernel⟩, wi_X9_begin, ws_X9_begin⟩
theorem dX11_sheet_44 : decode cX11_sheet 44 = .ok (.iconst 1, 1) := by decide +kernel
theorem dX11_sheet_45 : decode cX11_sheet 45 = .ok (.ireturn, 1) := by decide +kernel
theorem dX11_sheet_30 : decode cX11_sheet 30 = .ok (.bipush (-14), 2) := by decide +kernel
theorem dX11_sheet_32 : decode cX11_sheet 32 = .ok (.ireturn, 1) := by decide +kernel
theorem dX11_sheet_24 : decode cX11_sheet 24 = .ok (.iconst (-1), 1) := by decide +kernel
theorem dX11_sheet_25 : decode cX11_sheet 25 = .ok (.ireturn, 1) := by decide +kernel
set_option maxRecDepth 100000 in
set_option maxHeartbeats 4000000 in
theorem x_sheet (l : Launch) (E : EV) (hx : Nat) (p0 : Int32) (p1 : Int32) (p2 : Int32) (qn : Nat) (qp : Nat) (qs : Nat) (qj : Nat) (ql : Nat) (qh : Nat) (qk : Nat) (qr : Nat) (qg : Nat) (qsh : Nat) (fs : Nat → Option Nat) (s0 : Nat) (s1 : Nat) (s2 : Nat) (s3 : Nat) (s0c : Nat) (s1c : Nat) (s2c : Nat) (s3c : Nat) (k_fs_0 : fs 0 = some s0) (k_fs_1 : fs 1 = some s1) (k_fs_2 : fs 2 = some s2) (k_fs_3 : fs 3 = some s3) : CT l yX11_sheet (Cond.code yX11_sheet cX11_sheet 4 (some .int) :: TB) ({ frames := 1, cells := 0, slots := 0, locals := 23 }) E [.ref hx, .int p0, .int p1, .int p2] [(hx, .inr (11, [.ref qn, .ref qp, .int 0, .int 0, .ref qs, .ref qj, .ref ql, .ref qh, .ref qk, .int 0, .ref qr, .ref qg, .int 0, .int 0, .ref qsh])), (qsh, .inl (E.2.1 8, 4, .inr (.inr (.inr (.inr fs))))), (s0, .inr (9, [.int 0, .int 0, .int 0, .ref s0c])), (s0c, .inl (E.2.1 1, 48, .inl (fun _ => 0))), (s1, .inr (9, [.int 0, .int 0, .int 0, .ref s1c])), (s1c, .inl (E.2.1 1, 48, .inl (fun _ => 0))), (s2, .inr (9, [.int 0, .int 0, .int 0, .ref s2c])), (s2c, .inl (E.2.1 1, 48, .inl (fun _ => 0))), (s3, .inr (9, [.int 0, .int 0, .int 0, .ref s3c])), (s3c, .inl (E.2.1 1, 48, .inl (fun _ => 0)))] (Qi E (fun (r : Int32) u => (r = (-1) ∧ u = [] ∧ (p0.toInt < 0 ∨ 3 < p0.toInt ∨ p1.toInt < 0 ∨ 2 < p1.toInt ∨ 48 < p2.toInt)) ∨ (r = (-14) ∧ u = [] ∧ (0 ≤ p0.toInt) ∧ (p0.toInt ≤ 3) ∧ (0 ≤ p1.toInt) ∧ (p1.toInt ≤ 2) ∧ (p2.toInt < 0)) ∨ (r = 1 ∧ u = [] ∧ (0 ≤ p0.toInt) ∧ (p0.toInt ≤ 3) ∧ (0 ≤ p1.toInt) ∧ (p1.toInt ≤ 2) ∧ (0 ≤ p2.toInt) ∧ (p2.toInt ≤ 48)))) 0 0 := by
  refine ct_of rfl rfl ?_
  intro X C hT hin
  show WW X 4 E 0 [(0, .ref hx), (1, .int p0), (2, .int p1), (3, .int p2)] [] [(hx, .inr (11, [.ref qn, .ref qp, .int 0, .int 0, .ref qs, .ref qj, .ref ql, .ref qh, .ref qk, .int 0, .ref qr, .ref qg, .int 0, .int 0, .ref qsh])), (qsh, .inl (E.2.1 8, 4, .inr (.inr (.inr (.inr fs))))), (s0, .inr (9, [.int 0, .int 0, .int 0, .ref s0c])), (s0c, .inl (E.2.1 1, 48, .inl (fun _ => 0))), (s1, .inr (9, [.int 0, .int 0, .int 0, .ref s1c])), (s1c, .inl (E.2.1 1, 48, .inl (fun _ => 0))), (s2, .inr (9, [.int 0, .int 0, .int 0, .ref s2c])), (s2c, .inl (E.2.1 1, 48, .inl (fun _ => 0))), (s3, .inr (9, [.int 0, .int 0, .int 0, .ref s3c])), (s3c, .inl (E.2.1 1, 48, .inl (fun _ => 0)))] 0 0
  refine ww_iload_n C dX11_sheet_0 1 rfl rfl ?_
  refine ww_iconst (v := 0) C dX11_sheet_1 rfl ?_
  refine ww_iconst (v := 3) C dX11_sheet_2 rfl ?_
  refine ww_ci (wr := [(hx, .inr (11, [.ref qn, .ref qp, .int 0, .int 0, .ref qs, .ref qj, .ref ql, .ref qh, .ref qk, .int 0, .ref qr, .ref qg, .int 0, .int 0, .ref qsh])), (qsh, .inl (E.2.1 8, 4, .inr (.inr (.inr (.inr fs))))), (s0, .inr (9, [.int 0, .int 0, .int 0, .ref s0c])), (s0c, .inl (E.2.1 1, 48, .inl (fun _ => 0))), (s1, .inr (9, [.int 0, .int 0, .int 0, .ref s1c])), (s1c, .inl (E.2.1 1, 48, .inl (fun _ => 0))), (s2, .inr (9, [.int 0, .int 0, .int 0, .ref s2c])), (s2c, .inl (E.2.1 1, 48, .inl (fun _ => 0))), (s3, .inr (9, [.int 0, .int 0, .int 0, .ref s3c])), (s3c, .inl (E.2.1 1, 48, .inl (fun _ => 0)))]) (k' := 0) (n' := 0) C (run_S (As := [.int p0, .int 0, .int 3]) (rest := []) C (c_within X.2.1 E p0 0 3 p0.toInt 0 3 rfl rfl rfl) ms_X11_within wl_X11_76 rfl rfl rfl rfl dX11_sheet_3) [] [0, 1, 2, 3, 4, 5, 6, 7, 8, 9] rfl rfl rfl rfl (fun r u hw => ?_)
  rcases hw with ⟨rfl, rfl, h_1, h_2⟩ | ⟨rfl, rfl, h_3⟩
  · refine ww_eq (ws' := [(hx, .inr (11, [.ref qn, .ref qp, .int 0, .int 0, .ref qs, .ref qj, .ref ql, .ref qh, .ref qk, .int 0, .ref qr, .ref qg, .int 0, .int 0, .ref qsh])), (qsh, .inl (E.2.1 8, 4, .inr (.inr (.inr (.inr fs))))), (s0, .inr (9, [.int 0, .int 0, .int 0, .ref s0c])), (s0c, .inl (E.2.1 1, 48, .inl (fun _ => 0))), (s1, .inr (9, [.int 0, .int 0, .int 0, .ref s1c])), (s1c, .inl (E.2.1 1, 48, .inl (fun _ => 0))), (s2, .inr (9, [.int 0, .int 0, .int 0, .ref s2c])), (s2c, .inl (E.2.1 1, 48, .inl (fun _ => 0))), (s3, .inr (9, [.int 0, .int 0, .int 0, .ref s3c])), (s3c, .inl (E.2.1 1, 48, .inl (fun _ => 0)))]) ?_ rfl rfl rfl
    refine ww_if_eq_f (tgt := 24) C dX11_sheet_6 (by decide) (by decide) ?_
    refine ww_iload_n C dX11_sheet_9 2 rfl rfl ?_
    refine ww_iconst (v := 0) C dX11_sheet_10 rfl ?_
    refine ww_iconst (v := 2) C dX11_sheet_11 rfl ?_
    refine ww_ci (wr := [(hx, .inr (11, [.ref qn, .ref qp, .int 0, .int 0, .ref qs, .ref qj, .ref ql, .ref qh, .ref qk, .int 0, .ref qr, .ref qg, .int 0, .int 0, .ref qsh])), (qsh, .inl (E.2.1 8, 4, .inr (.inr (.inr (.inr fs))))), (s0, .inr (9, [.int 0, .int 0, .int 0, .ref s0c])), (s0c, .inl (E.2.1 1, 48, .inl (fun _ => 0))), (s1, .inr (9, [.int 0, .int 0, .int 0, .ref s1c])), (s1c, .inl (E.2.1 1, 48, .inl (fun _ => 0))), (s2, .inr (9, [.int 0, .int 0, .int 0, .ref s2c])), (s2c, .inl (E.2.1 1, 48, .inl (fun _ => 0))), (s3, .inr (9, [.int 0, .int 0, .int 0, .ref s3c])), (s3c, .inl (E.2.1 1, 48, .inl (fun _ => 0)))]) (k' := 0) (n' := 0) C (run_S (As := [.int p1, .int 0, .int 2]) (rest := []) C (c_within X.2.1 E p1 0 2 p1.toInt 0 2 rfl rfl rfl) ms_X11_within wl_X11_76 rfl rfl rfl rfl dX11_sheet_12) [] [0, 1, 2, 3, 4, 5, 6, 7, 8, 9] rfl rfl rfl rfl (fun r u hw => ?_)
    rcases hw with ⟨rfl, rfl, h_4, h_5⟩ | ⟨rfl, rfl, h_6⟩
    · refine ww_eq (ws' := [(hx, .inr (11, [.ref qn, .ref qp, .int 0, .int 0, .ref qs, .ref qj, .ref ql, .ref qh, .ref qk, .int 0, .ref qr, .ref qg, .int 0, .int 0, .ref qsh])), (qsh, .inl (E.2.1 8, 4, .inr (.inr (.inr (.inr fs))))), (s0, .inr (9, [.int 0, .int 0, .int 0, .ref s0c])), (s0c, .inl (E.2.1 1, 48, .inl (fun _ => 0))), (s1, .inr (9, [.int 0, .int 0, .int 0, .ref s1c])), (s1c, .inl (E.2.1 1, 48, .inl (fun _ => 0))), (s2, .inr (9, [.int 0, .int 0, .int 0, .ref s2c])), (s2c, .inl (E.2.1 1, 48, .inl (fun _ => 0))), (s3, .inr (9, [.int 0, .int 0, .int 0, .ref s3c])), (s3c, .inl (E.2.1 1, 48, .inl (fun _ => 0)))]) ?_ rfl rfl rfl
      refine ww_if_eq_f (tgt := 24) C dX11_sheet_15 (by decide) (by decide) ?_
      refine ww_iload_n C dX11_sheet_18 3 rfl rfl ?_
      refine ww_bipush (v := 48) C dX11_sheet_19 rfl ?_
      refine ww_icmp_le (tgt := 26) C dX11_sheet_21 (by decide) (fun c_7 => ?_) (fun c_7 => ?_)
      · have zc_7 : p2.toInt ≤ 48 := i_le rfl rfl c_7
        refine ww_iload_n C dX11_sheet_26 3 rfl rfl ?_
        refine ww_if_ge (tgt := 33) C dX11_sheet_27 (by decide) (fun c_8 => ?_) (fun c_8 => ?_)
        · have zc_8 : p2.toInt ≥ 0 := i_le rfl rfl c_8
          refine ww_aload_n C dX11_sheet_33 0 rfl rfl ?_
          refine ww_get C fg_X11_71 0 rfl rfl dX11_sheet_34 ?_
          rcases sp_0_3 (x := p0) (by omega) (by omega) with rfl | rfl | rfl | rfl
          · refine ww_iload_n C dX11_sheet_37 1 rfl rfl ?_
            refine ww_ald (v := (some s0)) (t0 := 8) C 1 rfl rfl (vin rfl) k_fs_0 dX11_sheet_38 ?_
            refine ww_eq (st' := [.ref s0]) ?_ rfl rfl rfl
            refine ww_iload_n C dX11_sheet_39 2 rfl rfl ?_
            refine ww_iload_n C dX11_sheet_40 3 rfl rfl ?_
            refine ww_cv (wr := [(hx, .inr (11, [.ref qn, .ref qp, .int 0, .int 0, .ref qs, .ref qj, .ref ql, .ref qh, .ref qk, .int 0, .ref qr, .ref qg, .int 0, .int 0, .ref qsh])), (qsh, .inl (E.2.1 8, 4, .inr (.inr (.inr (.inr fs))))), (s1, .inr (9, [.int 0, .int 0, .int 0, .ref s1c])), (s1c, .inl (E.2.1 1, 48, .inl (fun _ => 0))), (s2, .inr (9, [.int 0, .int 0, .int 0, .ref s2c])), (s2c, .inl (E.2.1 1, 48, .inl (fun _ => 0))), (s3, .inr (9, [.int 0, .int 0, .int 0, .ref s3c])), (s3c, .inl (E.2.1 1, 48, .inl (fun _ => 0)))]) (k' := 0) (n' := 0) C (run_V (As := [.int p1, .int p2]) (rest := []) C (c_sbegin X.2.1 E s0 p1 p2 s0c (by omega) (by omega)) mi_X9_begin wl_X11_335 rfl 0 9 rfl rfl rfl rfl rfl dX11_sheet_41) [2, 3] [0, 1, 4, 5, 6, 7, 8, 9] rfl rfl rfl rfl (fun u hw => ?_)
            obtain ⟨rfl⟩ := hw
            refine ww_eq (ws' := [(hx, .inr (11, [.ref qn, .ref qp, .int 0, .int 0, .ref qs, .ref qj, .ref ql, .ref qh, .ref qk, .int 0, .ref qr, .ref qg, .int 0, .int 0, .ref qsh])), (qsh, .inl (E.2.1 8, 4, .inr (.inr (.inr (.inr fs))))), (s1, .inr (9, [.int 0, .int 0, .int 0, .ref s1c])), (s1c, .inl (E.2.1 1, 48, .inl (fun _ => 0))), (s2, .inr (9, [.int 0, .int 0, .int 0, .ref s2c])), (s2c, .inl (E.2.1 1, 48, .inl (fun _ => 0))), (s3, .inr (9, [.int 0, .int 0, .int 0, .ref s3c])), (s3c, .inl (E.2.1 1, 48, .inl (fun _ => 0)))]) ?_ rfl rfl rfl
            refine ww_iconst (v := 1) C dX11_sheet_44 rfl ?_
            exact ww_iret (u := []) C hT [] rfl rfl rfl rfl dX11_sheet_45 (Or.inr (Or.inr ⟨rfl, rfl, (by first | assumption | omega | decide), (by first | assumption | omega | decide), (by first | assumption | omega | decide), (by first | assumption | omega | decide), (by first | assumption | omega | decide), (by first | assumption | omega | decide)⟩))
          · refine ww_iload_n C dX11_sheet_37 1 rfl rfl ?_
            refine ww_ald (v := (some s1)) (t0 := 8) C 1 rfl rfl (vin rfl) k_fs_1 dX11_sheet_38 ?_
            refine ww_eq (st' := [.ref s1]) ?_ rfl rfl rfl
            refine ww_iload_n C dX11_sheet_39 2 rfl rfl ?_
            refine ww_iload_n C dX11_sheet_40 3 rfl rfl ?_
            refine ww_cv (wr := [(hx, .inr (11, [.ref qn, .ref qp, .int 0, .int 0, .ref qs, .ref qj, .ref ql, .ref qh, .ref qk, .int 0, .ref qr, .ref qg, .int 0, .int 0, .ref qsh])), (qsh, .inl (E.2.1 8, 4, .inr (.inr (.inr (.inr fs))))), (s0, .inr (9, [.int 0, .int 0, .int 0, .ref s0c])), (s0c, .inl (E.2.1 1, 48, .inl (fun _ => 0))), (s2, .inr (9, [.int 0, .int 0, .int 0, .ref s2c])), (s2c, .inl (E.2.1 1, 48, .inl (fun _ => 0))), (s3, .inr (9, [.int 0, .int 0, .int 0, .ref s3c])), (s3c, .inl (E.2.1 1, 48, .inl (fun _ => 0)))]) (k' := 0) (n' := 0) C (run_V (As := [.int p1, .int p2]) (rest := []) C (c_sbegin X.2.1 E s1 p1 p2 s1c (by omega) (by omega)) mi_X9_begin wl_X11_335 rfl 0 9 rfl rfl rfl rfl rfl dX11_sheet_41) [4, 5] [0, 1, 2, 3, 6, 7, 8, 9] rfl rfl rfl rfl (fun u hw => ?_)
            obtain ⟨rfl⟩ := hw
            refine ww_eq (ws' := [(hx, .inr (11, [.ref qn, .ref qp, .int 0, .int 0, .ref qs, .ref qj, .ref ql, .ref qh, .ref qk, .int 0, .ref qr, .ref qg, .int 0, .int 0, .ref qsh])), (qsh, .inl (E.2.1 8, 4, .inr (.inr (.inr (.inr fs))))), (s0, .inr (9, [.int 0, .int 0, .int 0, .ref s0c])), (s0c, .inl (E.2.1 1, 48, .inl (fun _ => 0))), (s2, .inr (9, [.int 0, .int 0, .int 0, .ref s2c])), (s2c, .inl (E.2.1 1, 48, .inl (fun _ => 0))), (s3, .inr (9, [.int 0, .int 0, .int 0, .ref s3c])), (s3c, .inl (E.2.1 1, 48, .inl (fun _ => 0)))]) ?_ rfl rfl rfl
            refine ww_iconst (v := 1) C dX11_sheet_44 rfl ?_
            exact ww_iret (u := []) C hT [] rfl rfl rfl rfl dX11_sheet_45 (Or.inr (Or.inr ⟨rfl, rfl, (by first | assumption | omega | decide), (by first | assumption | omega | decide), (by first | assumption | omega | decide), (by first | assumption | omega | decide), (by first | assumption | omega | decide), (by first | assumption | omega | decide)⟩))
          · refine ww_iload_n C dX11_sheet_37 1 rfl rfl ?_
            refine ww_ald (v := (some s2)) (t0 := 8) C 1 rfl rfl (vin rfl) k_fs_2 dX11_sheet_38 ?_
            refine ww_eq (st' := [.ref s2]) ?_ rfl rfl rfl
            refine ww_iload_n C dX11_sheet_39 2 rfl rfl ?_
            refine ww_iload_n C dX11_sheet_40 3 rfl rfl ?_
            refine ww_cv (wr := [(hx, .inr (11, [.ref qn, .ref qp, .int 0, .int 0, .ref qs, .ref qj, .ref ql, .ref qh, .ref qk, .int 0, .ref qr, .ref qg, .int 0, .int 0, .ref qsh])), (qsh, .inl (E.2.1 8, 4, .inr (.inr (.inr (.inr fs))))), (s0, .inr (9, [.int 0, .int 0, .int 0, .ref s0c])), (s0c, .inl (E.2.1 1, 48, .inl (fun _ => 0))), (s1, .inr (9, [.int 0, .int 0, .int 0, .ref s1c])), (s1c, .inl (E.2.1 1, 48, .inl (fun _ => 0))), (s3, .inr (9, [.int 0, .int 0, .int 0, .ref s3c])), (s3c, .inl (E.2.1 1, 48, .inl (fun _ => 0)))]) (k' := 0) (n' := 0) C (run_V (As := [.int p1, .int p2]) (rest := []) C (c_sbegin X.2.1 E s2 p1 p2 s2c (by omega) (by omega)) mi_X9_begin wl_X11_335 rfl 0 9 rfl rfl rfl rfl rfl dX11_sheet_41) [6, 7] [0, 1, 2, 3, 4, 5, 8, 9] rfl rfl rfl rfl (fun u hw => ?_)
            obtain ⟨rfl⟩ := hw
            refine ww_eq (ws' := [(hx, .inr (11, [.ref qn, .ref qp, .int 0, .int 0, .ref qs, .ref qj, .ref ql, .ref qh, .ref qk, .int 0, .ref qr, .ref qg, .int 0, .int 0, .ref qsh])), (qsh, .inl (E.2.1 8, 4, .inr (.inr (.inr (.inr fs))))), (s0, .inr (9, [.int 0, .int 0, .int 0, .ref s0c])), (s0c, .inl (E.2.1 1, 48, .inl (fun _ => 0))), (s1, .inr (9, [.int 0, .int 0, .int 0, .ref s1c])), (s1c, .inl (E.2.1 1, 48, .inl (fun _ => 0))), (s3, .inr (9, [.int 0, .int 0, .int 0, .ref s3c])), (s3c, .inl (E.2.1 1, 48, .inl (fun _ => 0)))]) ?_ rfl rfl rfl
            refine ww_iconst (v := 1) C dX11_sheet_44 rfl ?_
            exact ww_iret (u := []) C hT [] rfl rfl rfl rfl dX11_sheet_45 (Or.inr (Or.inr ⟨rfl, rfl, (by first | assumption | omega | decide), (by first | assumption | omega | decide), (by first | assumption | omega | decide), (by first | assumption | omega | decide), (by first | assumption | omega | decide), (by first | assumption | omega | decide)⟩))
          · refine ww_iload_n C dX11_sheet_37 1 rfl rfl ?_
            refine ww_ald (v := (some s3)) (t0 := 8) C 1 rfl rfl (vin rfl) k_fs_3 dX11_sheet_38 ?_
            refine ww_eq (st' := [.ref s3]) ?_ rfl rfl rfl
            refine ww_iload_n C dX11_sheet_39 2 rfl rfl ?_
            refine ww_iload_n C dX11_sheet_40 3 rfl rfl ?_
            refine ww_cv (wr := [(hx, .inr (11, [.ref qn, .ref qp, .int 0, .int 0, .ref qs, .ref qj, .ref ql, .ref qh, .ref qk, .int 0, .ref qr, .ref qg, .int 0, .int 0, .ref qsh])), (qsh, .inl (E.2.1 8, 4, .inr (.inr (.inr (.inr fs))))), (s0, .inr (9, [.int 0, .int 0, .int 0, .ref s0c])), (s0c, .inl (E.2.1 1, 48, .inl (fun _ => 0))), (s1, .inr (9, [.int 0, .int 0, .int 0, .ref s1c])), (s1c, .inl (E.2.1 1, 48, .inl (fun _ => 0))), (s2, .inr (9, [.int 0, .int 0, .int 0, .ref s2c])), (s2c, .inl (E.2.1 1, 48, .inl (fun _ => 0)))]) (k' := 0) (n' := 0) C (run_V (As := [.int p1, .int p2]) (rest := []) C (c_sbegin X.2.1 E s3 p1 p2 s3c (by omega) (by omega)) mi_X9_begin wl_X11_335 rfl 0 9 rfl rfl rfl rfl rfl dX11_sheet_41) [8, 9] [0, 1, 2, 3, 4, 5, 6, 7] rfl rfl rfl rfl (fun u hw => ?_)
            obtain ⟨rfl⟩ := hw
            refine ww_eq (ws' := [(hx, .inr (11, [.ref qn, .ref qp, .int 0, .int 0, .ref qs, .ref qj, .ref ql, .ref qh, .ref qk, .int 0, .ref qr, .ref qg, .int 0, .int 0, .ref qsh])), (qsh, .inl (E.2.1 8, 4, .inr (.inr (.inr (.inr fs))))), (s0, .inr (9, [.int 0, .int 0, .int 0, .ref s0c])), (s0c, .inl (E.2.1 1, 48, .inl (fun _ => 0))), (s1, .inr (9, [.int 0, .int 0, .int 0, .ref s1c])), (s1c, .inl (E.2.1 1, 48, .inl (fun _ => 0))), (s2, .inr (9, [.int 0, .int 0, .int 0, .ref s2c])), (s2c, .inl (E.2.1 1, 48, .inl (fun _ => 0)))]) ?_ rfl rfl rfl
            refine ww_iconst (v := 1) C dX11_sheet_44 rfl ?_
            exact ww_iret (u := []) C hT [] rfl rfl rfl rfl dX11_sheet_45 (Or.inr (Or.inr ⟨rfl, rfl, (by first | assumption | omega | decide), (by first | assumption | omega | decide), (by first | assumption | omega | decide), (by first | assumption | omega | decide), (by first | assumption | omega | decide), (by first | assumption | omega | decide)⟩))
        · have zc_8 : p2.toInt < 0 := i_nle rfl rfl c_8
          refine ww_bipush (v := (-14)) C dX11_sheet_30 rfl ?_
          exact ww_iret (u := []) C hT [] rfl rfl rfl rfl dX11_sheet_32 (Or.inr (Or.inl ⟨rfl, rfl, (by first | assumption | omega | decide), (by first | assumption | omega | decide), (by first | assumption | omega | decide), (by first | assumption | omega | decide), (by first | assumption | omega | decide)⟩))
      · have zc_7 : p2.toInt > 48 := i_nle rfl rfl c_7
        refine ww_iconst (v := (-1)) C dX11_sheet_24 rfl ?_
        exact ww_iret (u := []) C hT [] rfl rfl rfl rfl dX11_sheet_25 (Or.inl ⟨rfl, rfl, (by first | assumption | omega | decide)⟩)
    · refine ww_eq (ws' := [(hx, .inr (11, [.ref qn, .ref qp, .int 0, .int 0, .ref qs, .ref qj, .ref ql, .ref qh, .ref qk, .int 0, .ref qr, .ref qg, .int 0, .int 0, .ref qsh])), (qsh, .inl (E.2.1 8, 4, .inr (.inr (.inr (.inr fs))))), (s0, .inr (9, [.int 0, .int 0, .int 0, .ref s0c])), (s0c, .inl (E.2.1 1, 48, .inl (fun _ => 0))), (s1, .inr (9, [.int 0, .int 0, .int 0, .ref s1c])), (s1c, .inl (E.2.1 1, 48, .inl (fun _ => 0))), (s2, .inr (9, [.int 0, .int 0, .int 0, .ref s2c])), (s2c, .inl (E.2.1 1, 48, .inl (fun _ => 0))), (s3, .inr (9, [.int 0, .int 0, .int 0, .ref s3c])), (s3c, .inl (E.2.1 1, 48, .inl (fun _ => 0)))]) ?_ rfl rfl rfl
      refine ww_if_eq_t (tgt := 24) C dX11_sheet_15 (by decide) (rfl) ?_
      refine ww_iconst (v := (-1)) C dX11_sheet_24 rfl ?_
      exact ww_iret (u := []) C hT [] rfl rfl rfl rfl dX11_sheet_25 (Or.inl ⟨rfl, rfl, (by first | assumption | omega | decide)⟩)
  · refine ww_eq (ws' := [(hx, .inr (11, [.ref qn, .ref qp, .int 0, .int 0, .ref qs, .ref qj, .ref ql, .ref qh, .ref qk, .int 0, .ref qr, .ref qg, .int 0, .int 0, .ref qsh])), (qsh, .inl (E.2.1 8, 4, .inr (.inr (.inr (.inr fs))))), (s0, .inr (9, [.int 0, .int 0, .int 0, .ref s0c])), (s0c, .inl (E.2.1 1, 48, .inl (fun _ => 0))), (s1, .inr (9, [.int 0, .int 0, .int 0, .ref s1c])), (s1c, .inl (E.2.1 1, 48, .inl (fun _ => 0))), (s2, .inr (9, [.int 0, .int 0, .int 0, .ref s2c])), (s2c, .inl (E.2.1 1, 48, .inl (fun _ => 0))), (s3, .inr (9, [.int 0, .int 0, .int 0, .ref s3c])), (s3c, .inl (E.2.1 1, 48, .inl (fun _ => 0)))]) ?_ rfl rfl rfl
    refine ww_if_eq_t (tgt := 24) C dX11_sheet_6 (by decide) (rfl) ?_
    refine ww_iconst (v := (-1)) C dX11_sheet_24 rfl ?_
    exact ww_iret (u := []) C hT [] rfl rfl rfl rfl dX11_sheet_25 (Or.inl ⟨rfl, rfl, (by first | assumption | omega | decide)⟩)
theorem dX11_write_0 : decode cX11_write 0 = .ok (.iload_n 1, 1) := by decide +kernel
theorem dX11_write_1 : decode cX11_write 1 = .ok (.iconst 0, 1) := by decide +kernel
theorem dX11_write_2 : decode cX11_write 2 = .ok (.iconst 3, 1) := by decide +kernel
theorem dX11_write_3 : decode cX11_write 3 = .ok (.invokestatic 76, 3) := by decide +kernel
theorem dX11_write_6 : decode cX11_write 6 = .ok (.ifCond .ne 5, 3) := by decide +kernel
theorem dX11_write_11 : decode cX11_write 11 = .ok (.aload_n 0, 1) := by decide +kernel
theorem dX11_write_12 : decode cX11_write 12 = .ok (.getfield 71, 3) := by decide +kernel
theorem dX11_write_15 : decode cX11_write 15 = .ok (.iload_n 1, 1) := by decide +kernel
theorem dX11_write_16 : decode cX11_write 16 = .ok (.aaload, 1) := by decide +kernel
theorem dX11_write_17 : decode cX11_write 17 = .ok (.getfield 338, 3) := by decide +kernel
theorem wf_X11_338 : Cond.fieldLink RX11 338 RX9 "isThere" "Z" ∈ TB := tbm (tq2 (List.mem_of_getElem? (i := 81) (by decide +kernel))) (by decide +kernel)
theorem fg_X11_338 : FG RX11 338 9 0 := ⟨RX9, TX9, 4, uw_X9, wf_X11_338, rfl, by decide, rfl⟩
theorem dX11_write_20 : decode cX11_write 20 = .ok (.ifCond .ne 6, 3) := by decide +kernel
theorem dX11_write_23 : decode cX11_write 23 = .ok (.bipush (-11), 2) := by decide +kernel
theorem dX11_write_25 : decode cX11_write 25 = .ok (.ireturn, 1) := by decide +kernel
theorem dX11_write_9 : decode cX11_write 9 = .ok (.iconst (-1), 1) := by decide +kernel
theorem dX11_write_10 : decode cX11_write 10 = .ok (.ireturn, 1) := by decide +kernel
set_option maxRecDepth 100000 in
set_option maxHeartbeats 4000000 in
theorem x_write (l : Launch) (E : EV) (hx : Nat) (p0 : Int32) (p1 : Int32) (p2 : Int32) (qn : Nat) (qp : Nat) (qs : Nat) (qj : Nat) (ql : Nat) (qh : Nat) (qk : Nat) (qr : Nat) (qg : Nat) (qsh : Nat) (fs : Nat → Option Nat) (s0 : Nat) (s1 : Nat) (s2 : Nat) (s3 : Nat) (s0c : Nat) (s1c : Nat) (s2c : Nat) (s3c : Nat) (k_fs_0 : fs 0 = some s0) (k_fs_1 : fs 1 = some s1) (k_fs_2 : fs 2 = some s2) (k_fs_3 : fs 3 = some s3) : CT l yX11_write (Cond.code yX11_write cX11_write 4 (some .int) :: TB) ({ frames := 1, cells := 0, slots := 0, locals := 22 }) E [.ref hx, .int p0, .int p1, .int p2] [(hx, .inr (11, [.ref qn, .ref qp, .int 0, .int 0, .ref qs, .ref qj, .ref ql, .ref qh, .ref qk, .int 0, .ref qr, .ref qg, .int 0, .int 0, .ref qsh])), (qsh, .inl (E.2.1 8, 4, .inr (.inr (.inr (.inr fs))))), (s0, .inr (9, [.int 0, .int 0, .int 0, .ref s0c])), (s1, .inr (9, [.int 0, .int 0, .int 0, .ref s1c])), (s2, .inr (9, [.int 0, .int 0, .int 0, .ref s2c])), (s3, .inr (9, [.int 0, .int 0, .int 0, .ref s3c]))] (Qi E (fun (r : Int32) u => (r = (-1) ∧ u = [] ∧ (p0.toInt < 0 ∨ 3 < p0.toInt)) ∨ (r = (-11) ∧ u = [] ∧ (0 ≤ p0.toInt) ∧ (p0.toInt ≤ 3)))) 0 0 := by
  refine ct_of rfl rfl ?_
  intro X C hT hin
  show WW X 4 E 0 [(0, .ref hx), (1, .int p0), (2, .int p1), (3, .int p2)] [] [(hx, .inr (11, [.ref qn, .ref qp, .int 0, .int 0, .ref qs, .ref qj, .ref ql, .ref qh, .ref qk, .int 0, .ref qr, .ref qg, .int 0, .int 0, .ref qsh])), (qsh, .inl (E.2.1 8, 4, .inr (.inr (.inr (.inr fs))))), (s0, .inr (9, [.int 0, .int 0, .int 0, .ref s0c])), (s1, .inr (9, [.int 0, .int 0, .int 0, .ref s1c])), (s2, .inr (9, [.int 0, .int 0, .int 0, .ref s2c])), (s3, .inr (9, [.int 0, .int 0, .int 0, .ref s3c]))] 0 0
  refine ww_iload_n C dX11_write_0 1 rfl rfl ?_
  refine ww_iconst (v := 0) C dX11_write_1 rfl ?_
  refine ww_iconst (v := 3) C dX11_write_2 rfl ?_
  refine ww_ci (wr := [(hx, .inr (11, [.ref qn, .ref qp, .int 0, .int 0, .ref qs, .ref qj, .ref ql, .ref qh, .ref qk, .int 0, .ref qr, .ref qg, .int 0, .int 0, .ref qsh])), (qsh, .inl (E.2.1 8, 4, .inr (.inr (.inr (.inr fs))))), (s0, .inr (9, [.int 0, .int 0, .int 0, .ref s0c])), (s1, .inr (9, [.int 0, .int 0, .int 0, .ref s1c])), (s2, .inr (9, [.int 0, .int 0, .int 0, .ref s2c])), (s3, .inr (9, [.int 0, .int 0, .int 0, .ref s3c]))]) (k' := 0) (n' := 0) C (run_S (As := [.int p0, .int 0, .int 3]) (rest := []) C (c_within X.2.1 E p0 0 3 p0.toInt 0 3 rfl rfl rfl) ms_X11_within wl_X11_76 rfl rfl rfl rfl dX11_write_3) [] [0, 1, 2, 3, 4, 5] rfl rfl rfl rfl (fun r u hw => ?_)
  rcases hw with ⟨rfl, rfl, h_1, h_2⟩ | ⟨rfl, rfl, h_3⟩
  · refine ww_eq (ws' := [(hx, .inr (11, [.ref qn, .ref qp, .int 0, .int 0, .ref qs, .ref qj, .ref ql, .ref qh, .ref qk, .int 0, .ref qr, .ref qg, .int 0, .int 0, .ref qsh])), (qsh, .inl (E.2.1 8, 4, .inr (.inr (.inr (.inr fs))))), (s0, .inr (9, [.int 0, .int 0, .int 0, .ref s0c])), (s1, .inr (9, [.int 0, .int 0, .int 0, .ref s1c])), (s2, .inr (9, [.int 0, .int 0, .int 0, .ref s2c])), (s3, .inr (9, [.int 0, .int 0, .int 0, .ref s3c]))]) ?_ rfl rfl rfl
    refine ww_if_ne_t (tgt := 11) C dX11_write_6 (by decide) (by decide) ?_
    refine ww_aload_n C dX11_write_11 0 rfl rfl ?_
    refine ww_get C fg_X11_71 0 rfl rfl dX11_write_12 ?_
    rcases sp_0_3 (x := p0) (by omega) (by omega) with rfl | rfl | rfl | rfl
    · refine ww_iload_n C dX11_write_15 1 rfl rfl ?_
      refine ww_ald (v := (some s0)) (t0 := 8) C 1 rfl rfl (vin rfl) k_fs_0 dX11_write_16 ?_
      refine ww_eq (st' := [.ref s0]) ?_ rfl rfl rfl
      refine ww_get C fg_X11_338 2 rfl rfl dX11_write_17 ?_
      refine ww_if_ne_f (tgt := 26) C dX11_write_20 (by decide) (rfl) ?_
      refine ww_bipush (v := (-11)) C dX11_write_23 rfl ?_
      exact ww_iret (u := []) C hT [] rfl rfl rfl rfl dX11_write_25 (Or.inr ⟨rfl, rfl, (by first | assumption | omega | decide), (by first | assumption | omega | decide)⟩)
    · refine ww_iload_n C dX11_write_15 1 rfl rfl ?_
      refine ww_ald (v := (some s1)) (t0 := 8) C 1 rfl rfl (vin rfl) k_fs_1 dX11_write_16 ?_
      refine ww_eq (st' := [.ref s1]) ?_ rfl rfl rfl
      refine ww_get C fg_X11_338 3 rfl rfl dX11_write_17 ?_
      refine ww_if_ne_f (tgt := 26) C dX11_write_20 (by decide) (rfl) ?_
      refine ww_bipush (v := (-11)) C dX11_write_23 rfl ?_
      exact ww_iret (u := []) C hT [] rfl rfl rfl rfl dX11_write_25 (Or.inr ⟨rfl, rfl, (by first | assumption | omega | decide), (by first | assumption | omega | decide)⟩)
    · refine ww_iload_n C dX11_write_15 1 rfl rfl ?_
      refine ww_ald (v := (some s2)) (t0 := 8) C 1 rfl rfl (vin rfl) k_fs_2 dX11_write_16 ?_
      refine ww_eq (st' := [.ref s2]) ?_ rfl rfl rfl
      refine ww_get C fg_X11_338 4 rfl rfl dX11_write_17 ?_
      refine ww_if_ne_f (tgt := 26) C dX11_write_20 (by decide) (rfl) ?_
      refine ww_bipush (v := (-11)) C dX11_write_23 rfl ?_
      exact ww_iret (u := []) C hT [] rfl rfl rfl rfl dX11_write_25 (Or.inr ⟨rfl, rfl, (by first | assumption | omega | decide), (by first | assumption | omega | decide)⟩)
    · refine ww_iload_n C dX11_write_15 1 rfl rfl ?_
      refine ww_ald (v := (some s3)) (t0 := 8) C 1 rfl rfl (vin rfl) k_fs_3 dX11_write_16 ?_
      refine ww_eq (st' := [.ref s3]) ?_ rfl rfl rfl
      refine ww_get C fg_X11_338 5 rfl rfl dX11_write_17 ?_
      refine ww_if_ne_f (tgt := 26) C dX11_write_20 (by decide) (rfl) ?_
      refine ww_bipush (v := (-11)) C dX11_write_23 rfl ?_
      exact ww_iret (u := []) C hT [] rfl rfl rfl rfl dX11_write_25 (Or.inr ⟨rfl, rfl, (by first | assumption | omega | decide), (by first | assumption | omega | decide)⟩)
  · refine ww_eq (ws' := [(hx, .inr (11, [.ref qn, .ref qp, .int 0, .int 0, .ref qs, .ref qj, .ref ql, .ref qh, .ref qk, .int 0, .ref qr, .ref qg, .int 0, .int 0, .ref qsh])), (qsh, .inl (E.2.1 8, 4, .inr (.inr (.inr (.inr fs))))), (s0, .inr (9, [.int 0, .int 0, .int 0, .ref s0c])), (s1, .inr (9, [.int 0, .int 0, .int 0, .ref s1c])), (s2, .inr (9, [.int 0, .int 0, .int 0, .ref s2c])), (s3, .inr (9, [.int 0, .int 0, .int 0, .ref s3c]))]) ?_ rfl rfl rfl
    refine ww_if_ne_f (tgt := 11) C dX11_write_6 (by decide) (rfl) ?_
    refine ww_iconst (v := (-1)) C dX11_write_9 rfl ?_
    exact ww_iret (u := []) C hT [] rfl rfl rfl rfl dX11_write_10 (Or.inl ⟨rfl, rfl, (by first | assumption | omega | decide)⟩)
theorem dX9_check_0 : decode cX9_check 0 = .ok (.aload_n 0, 1) := by decide +kernel
theorem dX9_check_1 : decode cX9_check 1 = .ok (.getfield 15, 3) := by decide +kernel
theorem fg_X9_15 : FG RX9 15 9 0 := ⟨RX9, TX9, 4, uw_X9, wf_X9_15, rfl, by decide, rfl⟩
theorem dX9_check_4 : decode cX9_check 4 = .ok (.ifCond .ne 6, 3) := by decide +kernel
theorem dX9_check_7 : decode cX9_check 7 = .ok (.bipush (-11), 2) := by decide +kernel
theorem dX9_check_9 : decode cX9_check 9 = .ok (.ireturn, 1) := by decide +kernel
set_option maxRecDepth 100000 in
set_option maxHeartbeats 4000000 in
theorem c_check (l : Launch) (E : EV) (h : Nat) (u : Int32) (v : Int32) (n : Int32) (a : Nat)  : CT l yX9_check (Cond.code yX9_check cX9_check 5 (some .int) :: TB) ({ frames := 0, cells := 0, slots := 0, locals := 0 }) E [.ref h, .int u, .int v, .int n] [(h, .inr (9, [.int 0, .int 0, .int 0, .ref a]))] (Qi E (fun (r : Int32) u => (r = (-11) ∧ u = []))) 0 0 := by
  refine ct_of rfl rfl ?_
  intro X C hT hin
  show WW X 5 E 0 [(0, .ref h), (1, .int u), (2, .int v), (3, .int n)] [] [(h, .inr (9, [.int 0, .int 0, .int 0, .ref a]))] 0 0
  refine ww_aload_n C dX9_check_0 0 rfl rfl ?_
  refine ww_get C fg_X9_15 0 rfl rfl dX9_check_1 ?_
  refine ww_if_ne_f (tgt := 10) C dX9_check_4 (by decide) (rfl) ?_
  refine ww_bipush (v := (-11)) C dX9_check_7 rfl ?_
  exact ww_iret (u := []) C hT [] rfl rfl rfl rfl dX9_check_9 (⟨rfl, rfl⟩)
theorem dX11_read_0 : decode cX11_read 0 = .ok (.iload_n 1, 1) := by decide +kernel
theorem dX11_read_1 : decode cX11_read 1 = .ok (.iconst 0, 1) := by decide +kernel
theorem dX11_read_2 : decode cX11_read 2 = .ok (.iconst 3, 1) := by decide +kernel
theorem dX11_read_3 : decode cX11_read 3 = .ok (.invokestatic 76, 3) := by decide +kernel
theorem dX11_read_6 : decode cX11_read 6 = .ok (.ifCond .eq 23, 3) := by decide +kernel
theorem dX11_read_9 : decode cX11_read 9 = .ok (.iload_n 2, 1) := by decide +kernel
theorem dX11_read_10 : decode cX11_read 10 = .ok (.iconst 0, 1) := by decide +kernel
theorem dX11_read_11 : decode cX11_read 11 = .ok (.iconst 2, 1) := by decide +kernel
theorem dX11_read_12 : decode cX11_read 12 = .ok (.invokestatic 76, 3) := by decide +kernel
theorem dX11_read_15 : decode cX11_read 15 = .ok (.ifCond .eq 14, 3) := by decide +kernel
theorem dX11_read_18 : decode cX11_read 18 = .ok (.iload 4, 2) := by decide +kernel
theorem dX11_read_20 : decode cX11_read 20 = .ok (.iconst 0, 1) := by decide +kernel
theorem dX11_read_21 : decode cX11_read 21 = .ok (.bipush 24, 2) := by decide +kernel
theorem dX11_read_23 : decode cX11_read 23 = .ok (.invokestatic 76, 3) := by decide +kernel
theorem dX11_read_26 : decode cX11_read 26 = .ok (.ifCond .ne 5, 3) := by decide +kernel
theorem dX11_read_31 : decode cX11_read 31 = .ok (.aload_n 0, 1) := by decide +kernel
theorem dX11_read_32 : decode cX11_read 32 = .ok (.getfield 71, 3) := by decide +kernel
theorem dX11_read_35 : decode cX11_read 35 = .ok (.iload_n 1, 1) := by decide +kernel
theorem dX11_read_36 : decode cX11_read 36 = .ok (.aaload, 1) := by decide +kernel
theorem dX11_read_37 : decode cX11_read 37 = .ok (.iload_n 2, 1) := by decide +kernel
theorem dX11_read_38 : decode cX11_read 38 = .ok (.iload_n 3, 1) := by decide +kernel
theorem dX11_read_39 : decode cX11_read 39 = .ok (.iload 4, 2) := by decide +kernel
theorem dX11_read_41 : decode cX11_read 41 = .ok (.invokevirtual 346, 3) := by decide +kernel
theorem wl_X11_346 : Cond.methodLink RX11 346 yX9_check ∈ TB := tbm (tq5 (List.mem_of_getElem? (i := 50) (by decide +kernel))) (by decide +kernel)
theorem wc_X9_check : Cond.code yX9_check cX9_check 5 (some .int) ∈ TB := tbm (tq5 (List.mem_of_getElem? (i := 53) (rfl))) (by decide +kernel)
theorem wi_X9_check : Cond.instanceMethod yX9_check ∈ TB := tbm (tq5 (List.mem_of_getElem? (i := 51) (by decide +kernel))) (by decide +kernel)
theorem ws_X9_check : Cond.selects RX9 yX9_check yX9_check ∈ TB := tbm (tq5 (List.mem_of_getElem? (i := 52) (by decide +kernel))) (by decide +kernel)
theorem mi_X9_check : MI yX9_check cX9_check 5 (some .int) 3 := ⟨wc_X9_check, wn_X9, ⟨by decide +kernel, by decide +kernel, by decide +kernel⟩, wi_X9_check, ws_X9_check⟩
theorem dX11_read_44 : decode cX11_read 44 = .ok (.istore 5, 2) := by decide +kernel
theorem dX11_read_46 : decode cX11_read 46 = .ok (.iload 5, 2) := by decide +kernel
theorem dX11_read_48 : decode cX11_read 48 = .ok (.ifCond .ge 6, 3) := by decide +kernel
theorem dX11_read_51 : decode cX11_read 51 = .ok (.iload 5, 2) := by decide +kernel
theorem dX11_read_53 : decode cX11_read 53 = .ok (.ireturn, 1) := by decide +kernel
theorem dX11_read_29 : decode cX11_read 29 = .ok (.iconst (-1), 1) := by decide +kernel
theorem dX11_read_30 : decode cX11_read 30 = .ok (.ireturn, 1) := by decide +kernel
set_option maxRecDepth 100000 in
set_option maxHeartbeats 4000000 in
theorem x_read (l : Launch) (E : EV) (hx : Nat) (p0 : Int32) (p1 : Int32) (p2 : Int32) (p3 : Int32) (qn : Nat) (qp : Nat) (qs : Nat) (qj : Nat) (ql : Nat) (qh : Nat) (qk : Nat) (qr : Nat) (qg : Nat) (qsh : Nat) (fs : Nat → Option Nat) (s0 : Nat) (s1 : Nat) (s2 : Nat) (s3 : Nat) (s0c : Nat) (s1c : Nat) (s2c : Nat) (s3c : Nat) (k_fs_0 : fs 0 = some s0) (k_fs_1 : fs 1 = some s1) (k_fs_2 : fs 2 = some s2) (k_fs_3 : fs 3 = some s3) : CT l yX11_read (Cond.code yX11_read cX11_read 7 (some .int) :: TB) ({ frames := 1, cells := 0, slots := 0, locals := 24 }) E [.ref hx, .int p0, .int p1, .int p2, .int p3] [(hx, .inr (11, [.ref qn, .ref qp, .int 0, .int 0, .ref qs, .ref qj, .ref ql, .ref qh, .ref qk, .int 0, .ref qr, .ref qg, .int 0, .int 0, .ref qsh])), (qsh, .inl (E.2.1 8, 4, .inr (.inr (.inr (.inr fs))))), (s0, .inr (9, [.int 0, .int 0, .int 0, .ref s0c])), (s1, .inr (9, [.int 0, .int 0, .int 0, .ref s1c])), (s2, .inr (9, [.int 0, .int 0, .int 0, .ref s2c])), (s3, .inr (9, [.int 0, .int 0, .int 0, .ref s3c]))] (Qi E (fun (r : Int32) u => (r = (-1) ∧ u = [] ∧ (p0.toInt < 0 ∨ 3 < p0.toInt ∨ p1.toInt < 0 ∨ 2 < p1.toInt ∨ p3.toInt < 0 ∨ 24 < p3.toInt)) ∨ (r = (-11) ∧ u = [] ∧ (0 ≤ p0.toInt) ∧ (p0.toInt ≤ 3) ∧ (0 ≤ p1.toInt) ∧ (p1.toInt ≤ 2) ∧ (0 ≤ p3.toInt) ∧ (p3.toInt ≤ 24)))) 0 0 := by
  refine ct_of rfl rfl ?_
  intro X C hT hin
  show WW X 7 E 0 [(0, .ref hx), (1, .int p0), (2, .int p1), (3, .int p2), (4, .int p3)] [] [(hx, .inr (11, [.ref qn, .ref qp, .int 0, .int 0, .ref qs, .ref qj, .ref ql, .ref qh, .ref qk, .int 0, .ref qr, .ref qg, .int 0, .int 0, .ref qsh])), (qsh, .inl (E.2.1 8, 4, .inr (.inr (.inr (.inr fs))))), (s0, .inr (9, [.int 0, .int 0, .int 0, .ref s0c])), (s1, .inr (9, [.int 0, .int 0, .int 0, .ref s1c])), (s2, .inr (9, [.int 0, .int 0, .int 0, .ref s2c])), (s3, .inr (9, [.int 0, .int 0, .int 0, .ref s3c]))] 0 0
  refine ww_iload_n C dX11_read_0 1 rfl rfl ?_
  refine ww_iconst (v := 0) C dX11_read_1 rfl ?_
  refine ww_iconst (v := 3) C dX11_read_2 rfl ?_
  refine ww_ci (wr := [(hx, .inr (11, [.ref qn, .ref qp, .int 0, .int 0, .ref qs, .ref qj, .ref ql, .ref qh, .ref qk, .int 0, .ref qr, .ref qg, .int 0, .int 0, .ref qsh])), (qsh, .inl (E.2.1 8, 4, .inr (.inr (.inr (.inr fs))))), (s0, .inr (9, [.int 0, .int 0, .int 0, .ref s0c])), (s1, .inr (9, [.int 0, .int 0, .int 0, .ref s1c])), (s2, .inr (9, [.int 0, .int 0, .int 0, .ref s2c])), (s3, .inr (9, [.int 0, .int 0, .int 0, .ref s3c]))]) (k' := 0) (n' := 0) C (run_S (As := [.int p0, .int 0, .int 3]) (rest := []) C (c_within X.2.1 E p0 0 3 p0.toInt 0 3 rfl rfl rfl) ms_X11_within wl_X11_76 rfl rfl rfl rfl dX11_read_3) [] [0, 1, 2, 3, 4, 5] rfl rfl rfl rfl (fun r u hw => ?_)
  rcases hw with ⟨rfl, rfl, h_1, h_2⟩ | ⟨rfl, rfl, h_3⟩
  · refine ww_eq (ws' := [(hx, .inr (11, [.ref qn, .ref qp, .int 0, .int 0, .ref qs, .ref qj, .ref ql, .ref qh, .ref qk, .int 0, .ref qr, .ref qg, .int 0, .int 0, .ref qsh])), (qsh, .inl (E.2.1 8, 4, .inr (.inr (.inr (.inr fs))))), (s0, .inr (9, [.int 0, .int 0, .int 0, .ref s0c])), (s1, .inr (9, [.int 0, .int 0, .int 0, .ref s1c])), (s2, .inr (9, [.int 0, .int 0, .int 0, .ref s2c])), (s3, .inr (9, [.int 0, .int 0, .int 0, .ref s3c]))]) ?_ rfl rfl rfl
    refine ww_if_eq_f (tgt := 29) C dX11_read_6 (by decide) (by decide) ?_
    refine ww_iload_n C dX11_read_9 2 rfl rfl ?_
    refine ww_iconst (v := 0) C dX11_read_10 rfl ?_
    refine ww_iconst (v := 2) C dX11_read_11 rfl ?_
    refine ww_ci (wr := [(hx, .inr (11, [.ref qn, .ref qp, .int 0, .int 0, .ref qs, .ref qj, .ref ql, .ref qh, .ref qk, .int 0, .ref qr, .ref qg, .int 0, .int 0, .ref qsh])), (qsh, .inl (E.2.1 8, 4, .inr (.inr (.inr (.inr fs))))), (s0, .inr (9, [.int 0, .int 0, .int 0, .ref s0c])), (s1, .inr (9, [.int 0, .int 0, .int 0, .ref s1c])), (s2, .inr (9, [.int 0, .int 0, .int 0, .ref s2c])), (s3, .inr (9, [.int 0, .int 0, .int 0, .ref s3c]))]) (k' := 0) (n' := 0) C (run_S (As := [.int p1, .int 0, .int 2]) (rest := []) C (c_within X.2.1 E p1 0 2 p1.toInt 0 2 rfl rfl rfl) ms_X11_within wl_X11_76 rfl rfl rfl rfl dX11_read_12) [] [0, 1, 2, 3, 4, 5] rfl rfl rfl rfl (fun r u hw => ?_)
    rcases hw with ⟨rfl, rfl, h_4, h_5⟩ | ⟨rfl, rfl, h_6⟩
    · refine ww_eq (ws' := [(hx, .inr (11, [.ref qn, .ref qp, .int 0, .int 0, .ref qs, .ref qj, .ref ql, .ref qh, .ref qk, .int 0, .ref qr, .ref qg, .int 0, .int 0, .ref qsh])), (qsh, .inl (E.2.1 8, 4, .inr (.inr (.inr (.inr fs))))), (s0, .inr (9, [.int 0, .int 0, .int 0, .ref s0c])), (s1, .inr (9, [.int 0, .int 0, .int 0, .ref s1c])), (s2, .inr (9, [.int 0, .int 0, .int 0, .ref s2c])), (s3, .inr (9, [.int 0, .int 0, .int 0, .ref s3c]))]) ?_ rfl rfl rfl
      refine ww_if_eq_f (tgt := 29) C dX11_read_15 (by decide) (by decide) ?_
      refine ww_iload C dX11_read_18 4 rfl ?_
      refine ww_iconst (v := 0) C dX11_read_20 rfl ?_
      refine ww_bipush (v := 24) C dX11_read_21 rfl ?_
      refine ww_ci (wr := [(hx, .inr (11, [.ref qn, .ref qp, .int 0, .int 0, .ref qs, .ref qj, .ref ql, .ref qh, .ref qk, .int 0, .ref qr, .ref qg, .int 0, .int 0, .ref qsh])), (qsh, .inl (E.2.1 8, 4, .inr (.inr (.inr (.inr fs))))), (s0, .inr (9, [.int 0, .int 0, .int 0, .ref s0c])), (s1, .inr (9, [.int 0, .int 0, .int 0, .ref s1c])), (s2, .inr (9, [.int 0, .int 0, .int 0, .ref s2c])), (s3, .inr (9, [.int 0, .int 0, .int 0, .ref s3c]))]) (k' := 0) (n' := 0) C (run_S (As := [.int p3, .int 0, .int 24]) (rest := []) C (c_within X.2.1 E p3 0 24 p3.toInt 0 24 rfl rfl rfl) ms_X11_within wl_X11_76 rfl rfl rfl rfl dX11_read_23) [] [0, 1, 2, 3, 4, 5] rfl rfl rfl rfl (fun r u hw => ?_)
      rcases hw with ⟨rfl, rfl, h_7, h_8⟩ | ⟨rfl, rfl, h_9⟩
      · refine ww_eq (ws' := [(hx, .inr (11, [.ref qn, .ref qp, .int 0, .int 0, .ref qs, .ref qj, .ref ql, .ref qh, .ref qk, .int 0, .ref qr, .ref qg, .int 0, .int 0, .ref qsh])), (qsh, .inl (E.2.1 8, 4, .inr (.inr (.inr (.inr fs))))), (s0, .inr (9, [.int 0, .int 0, .int 0, .ref s0c])), (s1, .inr (9, [.int 0, .int 0, .int 0, .ref s1c])), (s2, .inr (9, [.int 0, .int 0, .int 0, .ref s2c])), (s3, .inr (9, [.int 0, .int 0, .int 0, .ref s3c]))]) ?_ rfl rfl rfl
        refine ww_if_ne_t (tgt := 31) C dX11_read_26 (by decide) (by decide) ?_
        refine ww_aload_n C dX11_read_31 0 rfl rfl ?_
        refine ww_get C fg_X11_71 0 rfl rfl dX11_read_32 ?_
        refine ww_iload_n C dX11_read_35 1 rfl rfl ?_
        rcases sp_0_3 (x := p0) (by omega) (by omega) with rfl | rfl | rfl | rfl
        · refine ww_ald (v := (some s0)) (t0 := 8) C 1 rfl rfl (vin rfl) k_fs_0 dX11_read_36 ?_
          refine ww_eq (st' := [.ref s0]) ?_ rfl rfl rfl
          refine ww_iload_n C dX11_read_37 2 rfl rfl ?_
          refine ww_iload_n C dX11_read_38 3 rfl rfl ?_
          refine ww_iload C dX11_read_39 4 rfl ?_
          refine ww_ci (wr := [(hx, .inr (11, [.ref qn, .ref qp, .int 0, .int 0, .ref qs, .ref qj, .ref ql, .ref qh, .ref qk, .int 0, .ref qr, .ref qg, .int 0, .int 0, .ref qsh])), (qsh, .inl (E.2.1 8, 4, .inr (.inr (.inr (.inr fs))))), (s1, .inr (9, [.int 0, .int 0, .int 0, .ref s1c])), (s2, .inr (9, [.int 0, .int 0, .int 0, .ref s2c])), (s3, .inr (9, [.int 0, .int 0, .int 0, .ref s3c]))]) (k' := 0) (n' := 0) C (run_V (As := [.int p1, .int p2, .int p3]) (rest := []) C (c_check X.2.1 E s0 p1 p2 p3 s0c) mi_X9_check wl_X11_346 rfl 0 9 rfl rfl rfl rfl rfl dX11_read_41) [2] [0, 1, 3, 4, 5] rfl rfl rfl rfl (fun r u hw => ?_)
          obtain ⟨rfl, rfl⟩ := hw
          refine ww_eq (ws' := [(hx, .inr (11, [.ref qn, .ref qp, .int 0, .int 0, .ref qs, .ref qj, .ref ql, .ref qh, .ref qk, .int 0, .ref qr, .ref qg, .int 0, .int 0, .ref qsh])), (qsh, .inl (E.2.1 8, 4, .inr (.inr (.inr (.inr fs))))), (s1, .inr (9, [.int 0, .int 0, .int 0, .ref s1c])), (s2, .inr (9, [.int 0, .int 0, .int 0, .ref s2c])), (s3, .inr (9, [.int 0, .int 0, .int 0, .ref s3c]))]) ?_ rfl rfl rfl
          refine ww_istore (lv' := [(5, .int (-11)), (0, .ref hx), (1, .int 0), (2, .int p1), (3, .int p2), (4, .int p3)]) C dX11_read_44 rfl rfl ?_
          refine ww_iload C dX11_read_46 0 rfl ?_
          refine ww_if_ge_f (tgt := 54) C dX11_read_48 (by decide) (by decide) ?_
          refine ww_iload C dX11_read_51 0 rfl ?_
          exact ww_iret (u := []) C hT [] rfl rfl rfl rfl dX11_read_53 (Or.inr ⟨rfl, rfl, (by first | assumption | omega | decide), (by first | assumption | omega | decide), (by first | assumption | omega | decide), (by first | assumption | omega | decide), (by first | assumption | omega | decide), (by first | assumption | omega | decide)⟩)
        · refine ww_ald (v := (some s1)) (t0 := 8) C 1 rfl rfl (vin rfl) k_fs_1 dX11_read_36 ?_
          refine ww_eq (st' := [.ref s1]) ?_ rfl rfl rfl
          refine ww_iload_n C dX11_read_37 2 rfl rfl ?_
          refine ww_iload_n C dX11_read_38 3 rfl rfl ?_
          refine ww_iload C dX11_read_39 4 rfl ?_
          refine ww_ci (wr := [(hx, .inr (11, [.ref qn, .ref qp, .int 0, .int 0, .ref qs, .ref qj, .ref ql, .ref qh, .ref qk, .int 0, .ref qr, .ref qg, .int 0, .int 0, .ref qsh])), (qsh, .inl (E.2.1 8, 4, .inr (.inr (.inr (.inr fs))))), (s0, .inr (9, [.int 0, .int 0, .int 0, .ref s0c])), (s2, .inr (9, [.int 0, .int 0, .int 0, .ref s2c])), (s3, .inr (9, [.int 0, .int 0, .int 0, .ref s3c]))]) (k' := 0) (n' := 0) C (run_V (As := [.int p1, .int p2, .int p3]) (rest := []) C (c_check X.2.1 E s1 p1 p2 p3 s1c) mi_X9_check wl_X11_346 rfl 0 9 rfl rfl rfl rfl rfl dX11_read_41) [3] [0, 1, 2, 4, 5] rfl rfl rfl rfl (fun r u hw => ?_)
          obtain ⟨rfl, rfl⟩ := hw
          refine ww_eq (ws' := [(hx, .inr (11, [.ref qn, .ref qp, .int 0, .int 0, .ref qs, .ref qj, .ref ql, .ref qh, .ref qk, .int 0, .ref qr, .ref qg, .int 0, .int 0, .ref qsh])), (qsh, .inl (E.2.1 8, 4, .inr (.inr (.inr (.inr fs))))), (s0, .inr (9, [.int 0, .int 0, .int 0, .ref s0c])), (s2, .inr (9, [.int 0, .int 0, .int 0, .ref s2c])), (s3, .inr (9, [.int 0, .int 0, .int 0, .ref s3c]))]) ?_ rfl rfl rfl
          refine ww_istore (lv' := [(5, .int (-11)), (0, .ref hx), (1, .int 1), (2, .int p1), (3, .int p2), (4, .int p3)]) C dX11_read_44 rfl rfl ?_
          refine ww_iload C dX11_read_46 0 rfl ?_
          refine ww_if_ge_f (tgt := 54) C dX11_read_48 (by decide) (by decide) ?_
          refine ww_iload C dX11_read_51 0 rfl ?_
          exact ww_iret (u := []) C hT [] rfl rfl rfl rfl dX11_read_53 (Or.inr ⟨rfl, rfl, (by first | assumption | omega | decide), (by first | assumption | omega | decide), (by first | assumption | omega | decide), (by first | assumption | omega | decide), (by first | assumption | omega | decide), (by first | assumption | omega | decide)⟩)
        · refine ww_ald (v := (some s2)) (t0 := 8) C 1 rfl rfl (vin rfl) k_fs_2 dX11_read_36 ?_
          refine ww_eq (st' := [.ref s2]) ?_ rfl rfl rfl
          refine ww_iload_n C dX11_read_37 2 rfl rfl ?_
          refine ww_iload_n C dX11_read_38 3 rfl rfl ?_
          refine ww_iload C dX11_read_39 4 rfl ?_
          refine ww_ci (wr := [(hx, .inr (11, [.ref qn, .ref qp, .int 0, .int 0, .ref qs, .ref qj, .ref ql, .ref qh, .ref qk, .int 0, .ref qr, .ref qg, .int 0, .int 0, .ref qsh])), (qsh, .inl (E.2.1 8, 4, .inr (.inr (.inr (.inr fs))))), (s0, .inr (9, [.int 0, .int 0, .int 0, .ref s0c])), (s1, .inr (9, [.int 0, .int 0, .int 0, .ref s1c])), (s3, .inr (9, [.int 0, .int 0, .int 0, .ref s3c]))]) (k' := 0) (n' := 0) C (run_V (As := [.int p1, .int p2, .int p3]) (rest := []) C (c_check X.2.1 E s2 p1 p2 p3 s2c) mi_X9_check wl_X11_346 rfl 0 9 rfl rfl rfl rfl rfl dX11_read_41) [4] [0, 1, 2, 3, 5] rfl rfl rfl rfl (fun r u hw => ?_)
          obtain ⟨rfl, rfl⟩ := hw
          refine ww_eq (ws' := [(hx, .inr (11, [.ref qn, .ref qp, .int 0, .int 0, .ref qs, .ref qj, .ref ql, .ref qh, .ref qk, .int 0, .ref qr, .ref qg, .int 0, .int 0, .ref qsh])), (qsh, .inl (E.2.1 8, 4, .inr (.inr (.inr (.inr fs))))), (s0, .inr (9, [.int 0, .int 0, .int 0, .ref s0c])), (s1, .inr (9, [.int 0, .int 0, .int 0, .ref s1c])), (s3, .inr (9, [.int 0, .int 0, .int 0, .ref s3c]))]) ?_ rfl rfl rfl
          refine ww_istore (lv' := [(5, .int (-11)), (0, .ref hx), (1, .int 2), (2, .int p1), (3, .int p2), (4, .int p3)]) C dX11_read_44 rfl rfl ?_
          refine ww_iload C dX11_read_46 0 rfl ?_
          refine ww_if_ge_f (tgt := 54) C dX11_read_48 (by decide) (by decide) ?_
          refine ww_iload C dX11_read_51 0 rfl ?_
          exact ww_iret (u := []) C hT [] rfl rfl rfl rfl dX11_read_53 (Or.inr ⟨rfl, rfl, (by first | assumption | omega | decide), (by first | assumption | omega | decide), (by first | assumption | omega | decide), (by first | assumption | omega | decide), (by first | assumption | omega | decide), (by first | assumption | omega | decide)⟩)
        · refine ww_ald (v := (some s3)) (t0 := 8) C 1 rfl rfl (vin rfl) k_fs_3 dX11_read_36 ?_
          refine ww_eq (st' := [.ref s3]) ?_ rfl rfl rfl
          refine ww_iload_n C dX11_read_37 2 rfl rfl ?_
          refine ww_iload_n C dX11_read_38 3 rfl rfl ?_
          refine ww_iload C dX11_read_39 4 rfl ?_
          refine ww_ci (wr := [(hx, .inr (11, [.ref qn, .ref qp, .int 0, .int 0, .ref qs, .ref qj, .ref ql, .ref qh, .ref qk, .int 0, .ref qr, .ref qg, .int 0, .int 0, .ref qsh])), (qsh, .inl (E.2.1 8, 4, .inr (.inr (.inr (.inr fs))))), (s0, .inr (9, [.int 0, .int 0, .int 0, .ref s0c])), (s1, .inr (9, [.int 0, .int 0, .int 0, .ref s1c])), (s2, .inr (9, [.int 0, .int 0, .int 0, .ref s2c]))]) (k' := 0) (n' := 0) C (run_V (As := [.int p1, .int p2, .int p3]) (rest := []) C (c_check X.2.1 E s3 p1 p2 p3 s3c) mi_X9_check wl_X11_346 rfl 0 9 rfl rfl rfl rfl rfl dX11_read_41) [5] [0, 1, 2, 3, 4] rfl rfl rfl rfl (fun r u hw => ?_)
          obtain ⟨rfl, rfl⟩ := hw
          refine ww_eq (ws' := [(hx, .inr (11, [.ref qn, .ref qp, .int 0, .int 0, .ref qs, .ref qj, .ref ql, .ref qh, .ref qk, .int 0, .ref qr, .ref qg, .int 0, .int 0, .ref qsh])), (qsh, .inl (E.2.1 8, 4, .inr (.inr (.inr (.inr fs))))), (s0, .inr (9, [.int 0, .int 0, .int 0, .ref s0c])), (s1, .inr (9, [.int 0, .int 0, .int 0, .ref s1c])), (s2, .inr (9, [.int 0, .int 0, .int 0, .ref s2c]))]) ?_ rfl rfl rfl
          refine ww_istore (lv' := [(5, .int (-11)), (0, .ref hx), (1, .int 3), (2, .int p1), (3, .int p2), (4, .int p3)]) C dX11_read_44 rfl rfl ?_
          refine ww_iload C dX11_read_46 0 rfl ?_
          refine ww_if_ge_f (tgt := 54) C dX11_read_48 (by decide) (by decide) ?_
          refine ww_iload C dX11_read_51 0 rfl ?_
          exact ww_iret (u := []) C hT [] rfl rfl rfl rfl dX11_read_53 (Or.inr ⟨rfl, rfl, (by first | assumption | omega | decide), (by first | assumption | omega | decide), (by first | assumption | omega | decide), (by first | assumption | omega | decide), (by first | assumption | omega | decide), (by first | assumption | omega | decide)⟩)
      · refine ww_eq (ws' := [(hx, .inr (11, [.ref qn, .ref qp, .int 0, .int 0, .ref qs, .ref qj, .ref ql, .ref qh, .ref qk, .int 0, .ref qr, .ref qg, .int 0, .int 0, .ref qsh])), (qsh, .inl (E.2.1 8, 4, .inr (.inr (.inr (.inr fs))))), (s0, .inr (9, [.int 0, .int 0, .int 0, .ref s0c])), (s1, .inr (9, [.int 0, .int 0, .int 0, .ref s1c])), (s2, .inr (9, [.int 0, .int 0, .int 0, .ref s2c])), (s3, .inr (9, [.int 0, .int 0, .int 0, .ref s3c]))]) ?_ rfl rfl rfl
        refine ww_if_ne_f (tgt := 31) C dX11_read_26 (by decide) (rfl) ?_
        refine ww_iconst (v := (-1)) C dX11_read_29 rfl ?_
        exact ww_iret (u := []) C hT [] rfl rfl rfl rfl dX11_read_30 (Or.inl ⟨rfl, rfl, (by first | assumption | omega | decide)⟩)
    · refine ww_eq (ws' := [(hx, .inr (11, [.ref qn, .ref qp, .int 0, .int 0, .ref qs, .ref qj, .ref ql, .ref qh, .ref qk, .int 0, .ref qr, .ref qg, .int 0, .int 0, .ref qsh])), (qsh, .inl (E.2.1 8, 4, .inr (.inr (.inr (.inr fs))))), (s0, .inr (9, [.int 0, .int 0, .int 0, .ref s0c])), (s1, .inr (9, [.int 0, .int 0, .int 0, .ref s1c])), (s2, .inr (9, [.int 0, .int 0, .int 0, .ref s2c])), (s3, .inr (9, [.int 0, .int 0, .int 0, .ref s3c]))]) ?_ rfl rfl rfl
      refine ww_if_eq_t (tgt := 29) C dX11_read_15 (by decide) (rfl) ?_
      refine ww_iconst (v := (-1)) C dX11_read_29 rfl ?_
      exact ww_iret (u := []) C hT [] rfl rfl rfl rfl dX11_read_30 (Or.inl ⟨rfl, rfl, (by first | assumption | omega | decide)⟩)
  · refine ww_eq (ws' := [(hx, .inr (11, [.ref qn, .ref qp, .int 0, .int 0, .ref qs, .ref qj, .ref ql, .ref qh, .ref qk, .int 0, .ref qr, .ref qg, .int 0, .int 0, .ref qsh])), (qsh, .inl (E.2.1 8, 4, .inr (.inr (.inr (.inr fs))))), (s0, .inr (9, [.int 0, .int 0, .int 0, .ref s0c])), (s1, .inr (9, [.int 0, .int 0, .int 0, .ref s1c])), (s2, .inr (9, [.int 0, .int 0, .int 0, .ref s2c])), (s3, .inr (9, [.int 0, .int 0, .int 0, .ref s3c]))]) ?_ rfl rfl rfl
    refine ww_if_eq_t (tgt := 29) C dX11_read_6 (by decide) (rfl) ?_
    refine ww_iconst (v := (-1)) C dX11_read_29 rfl ?_
    exact ww_iret (u := []) C hT [] rfl rfl rfl rfl dX11_read_30 (Or.inl ⟨rfl, rfl, (by first | assumption | omega | decide)⟩)
theorem dX11_undo_0 : decode cX11_undo 0 = .ok (.aload_n 0, 1) := by decide +kernel
theorem dX11_undo_1 : decode cX11_undo 1 = .ok (.getfield 116, 3) := by decide +kernel
theorem dX11_undo_4 : decode cX11_undo 4 = .ok (.ifCond .ne 6, 3) := by decide +kernel
theorem dX11_undo_7 : decode cX11_undo 7 = .ok (.bipush (-4), 2) := by decide +kernel
theorem dX11_undo_9 : decode cX11_undo 9 = .ok (.ireturn, 1) := by decide +kernel
set_option maxRecDepth 100000 in
set_option maxHeartbeats 4000000 in
theorem x_undo (l : Launch) (E : EV) (hx : Nat) (qn : Nat) (qp : Nat) (qs : Nat) (qj : Nat) (ql : Nat) (qh : Nat) (qk : Nat) (qr : Nat) (qg : Nat) (qsh : Nat)  : CT l yX11_undo (Cond.code yX11_undo cX11_undo 1 (some .int) :: TB) ({ frames := 0, cells := 0, slots := 0, locals := 0 }) E [.ref hx] [(hx, .inr (11, [.ref qn, .ref qp, .int 0, .int 0, .ref qs, .ref qj, .ref ql, .ref qh, .ref qk, .int 0, .ref qr, .ref qg, .int 0, .int 0, .ref qsh]))] (Qi E (fun (r : Int32) u => (r = (-4) ∧ u = []))) 0 0 := by
  refine ct_of rfl rfl ?_
  intro X C hT hin
  show WW X 1 E 0 [(0, .ref hx)] [] [(hx, .inr (11, [.ref qn, .ref qp, .int 0, .int 0, .ref qs, .ref qj, .ref ql, .ref qh, .ref qk, .int 0, .ref qr, .ref qg, .int 0, .int 0, .ref qsh]))] 0 0
  refine ww_aload_n C dX11_undo_0 0 rfl rfl ?_
  refine ww_get C fg_X11_116 0 rfl rfl dX11_undo_1 ?_
  refine ww_if_ne_f (tgt := 10) C dX11_undo_4 (by decide) (rfl) ?_
  refine ww_bipush (v := (-4)) C dX11_undo_7 rfl ?_
  exact ww_iret (u := []) C hT [] rfl rfl rfl rfl dX11_undo_9 (⟨rfl, rfl⟩)
theorem dX11_toldSayings_0 : decode cX11_toldSayings 0 = .ok (.iconst 0, 1) := by decide +kernel
theorem dX11_toldSayings_1 : decode cX11_toldSayings 1 = .ok (.istore_n 1, 1) := by decide +kernel
theorem dX11_toldSayings_2 : decode cX11_toldSayings 2 = .ok (.iconst 0, 1) := by decide +kernel
theorem dX11_toldSayings_3 : decode cX11_toldSayings 3 = .ok (.istore_n 2, 1) := by decide +kernel
theorem dX11_toldSayings_4 : decode cX11_toldSayings 4 = .ok (.iload_n 2, 1) := by decide +kernel
theorem dX11_toldSayings_5 : decode cX11_toldSayings 5 = .ok (.bipush 8, 2) := by decide +kernel
theorem dX11_toldSayings_7 : decode cX11_toldSayings 7 = .ok (.if_icmp .ge 20, 3) := by decide +kernel
theorem dX11_toldSayings_10 : decode cX11_toldSayings 10 = .ok (.aload_n 0, 1) := by decide +kernel
theorem dX11_toldSayings_11 : decode cX11_toldSayings 11 = .ok (.iload_n 2, 1) := by decide +kernel
theorem dX11_toldSayings_12 : decode cX11_toldSayings 12 = .ok (.invokevirtual 98, 3) := by decide +kernel
theorem dX11_toldSayings_15 : decode cX11_toldSayings 15 = .ok (.ifCond .eq 6, 3) := by decide +kernel
theorem dX11_toldSayings_21 : decode cX11_toldSayings 21 = .ok (.iinc 2 1, 3) := by decide +kernel
theorem dX11_toldSayings_24 : decode cX11_toldSayings 24 = .ok (.goto (-20), 3) := by decide +kernel
theorem dX11_toldSayings_27 : decode cX11_toldSayings 27 = .ok (.iload_n 1, 1) := by decide +kernel
theorem dX11_toldSayings_28 : decode cX11_toldSayings 28 = .ok (.ireturn, 1) := by decide +kernel
set_option maxRecDepth 100000 in
set_option maxHeartbeats 4000000 in
theorem c_toldSayings (l : Launch) (E : EV) (hx : Nat) (qn : Nat) (qp : Nat) (qs : Nat) (qj : Nat) (ql : Nat) (qh : Nat) (qk : Nat) (qr : Nat) (qg : Nat) (qsh : Nat) (jt : Nat) (je : Nat) (ju : Nat) (ja : Nat)  : CT l yX11_toldSayings (Cond.code yX11_toldSayings cX11_toldSayings 3 (some .int) :: TB) ({ frames := 2, cells := 0, slots := 0, locals := 43 }) E [.ref hx] [(hx, .inr (11, [.ref qn, .ref qp, .int 0, .int 0, .ref qs, .ref qj, .ref ql, .ref qh, .ref qk, .int 0, .ref qr, .ref qg, .int 0, .int 0, .ref qsh])), (qj, .inr (2, [.ref jt, .ref je, .ref ju, .ref ja])), (jt, .inl (E.2.1 7, 8, .inr (.inr (.inr (.inr (fun _ => none))))))] (Qi E (fun (r : Int32) u => (r = 0 ∧ u = []))) 0 0 := by
  refine ct_of rfl rfl ?_
  intro X C hT hin
  show WW X 3 E 0 [(0, .ref hx)] [] [(hx, .inr (11, [.ref qn, .ref qp, .int 0, .int 0, .ref qs, .ref qj, .ref ql, .ref qh, .ref qk, .int 0, .ref qr, .ref qg, .int 0, .int 0, .ref qsh])), (qj, .inr (2, [.ref jt, .ref je, .ref ju, .ref ja])), (jt, .inl (E.2.1 7, 8, .inr (.inr (.inr (.inr (fun _ => none))))))] 0 0
  refine ww_iconst (v := 0) C dX11_toldSayings_0 rfl ?_
  refine ww_istore_n (lv' := [(1, .int 0), (0, .ref hx)]) C dX11_toldSayings_1 rfl rfl rfl ?_
  refine ww_iconst (v := 0) C dX11_toldSayings_2 rfl ?_
  refine ww_istore_n (lv' := [(2, .int 0), (1, .int 0), (0, .ref hx)]) C dX11_toldSayings_3 rfl rfl rfl ?_
  refine ww_iload_n C dX11_toldSayings_4 0 rfl rfl ?_
  refine ww_bipush (v := 8) C dX11_toldSayings_5 rfl ?_
  refine ww_icmp_ge_f (tgt := 27) C dX11_toldSayings_7 (by decide) (by decide) ?_
  refine ww_aload_n C dX11_toldSayings_10 2 rfl rfl ?_
  refine ww_iload_n C dX11_toldSayings_11 0 rfl rfl ?_
  refine ww_ci (wr := []) (k' := 0) (n' := 0) C (run_V (As := [.int 0]) (rest := []) C (c_isTold X.2.1 E hx 0 qn qp qs qj ql qh qk qr qg qsh jt je ju ja) mi_X11_isTold wl_X11_98 rfl 0 11 rfl rfl rfl rfl rfl dX11_toldSayings_12) [0, 1, 2] [] rfl rfl rfl rfl (fun r u hw => ?_)
  obtain ⟨rfl, rfl⟩ := hw
  refine ww_eq (ws' := [(hx, .inr (11, [.ref qn, .ref qp, .int 0, .int 0, .ref qs, .ref qj, .ref ql, .ref qh, .ref qk, .int 0, .ref qr, .ref qg, .int 0, .int 0, .ref qsh])), (qj, .inr (2, [.ref jt, .ref je, .ref ju, .ref ja])), (jt, .inl (E.2.1 7, 8, .inr (.inr (.inr (.inr (fun _ => none))))))]) ?_ rfl rfl rfl
  refine ww_if_eq_t (tgt := 21) C dX11_toldSayings_15 (by decide) (rfl) ?_
  refine ww_iinc (j := 0) (v := 1) (lv' := [(2, .int 1), (1, .int 0), (0, .ref hx)]) C dX11_toldSayings_21 rfl rfl rfl rfl ?_
  refine ww_goto (tgt := 4) C dX11_toldSayings_24 (by decide) ?_
  refine ww_iload_n C dX11_toldSayings_4 0 rfl rfl ?_
  refine ww_bipush (v := 8) C dX11_toldSayings_5 rfl ?_
  refine ww_icmp_ge_f (tgt := 27) C dX11_toldSayings_7 (by decide) (by decide) ?_
  refine ww_aload_n C dX11_toldSayings_10 2 rfl rfl ?_
  refine ww_iload_n C dX11_toldSayings_11 0 rfl rfl ?_
  refine ww_ci (wr := []) (k' := 0) (n' := 0) C (run_V (As := [.int 1]) (rest := []) C (c_isTold X.2.1 E hx 1 qn qp qs qj ql qh qk qr qg qsh jt je ju ja) mi_X11_isTold wl_X11_98 rfl 0 11 rfl rfl rfl rfl rfl dX11_toldSayings_12) [0, 1, 2] [] rfl rfl rfl rfl (fun r u hw => ?_)
  obtain ⟨rfl, rfl⟩ := hw
  refine ww_eq (ws' := [(hx, .inr (11, [.ref qn, .ref qp, .int 0, .int 0, .ref qs, .ref qj, .ref ql, .ref qh, .ref qk, .int 0, .ref qr, .ref qg, .int 0, .int 0, .ref qsh])), (qj, .inr (2, [.ref jt, .ref je, .ref ju, .ref ja])), (jt, .inl (E.2.1 7, 8, .inr (.inr (.inr (.inr (fun _ => none))))))]) ?_ rfl rfl rfl
  refine ww_if_eq_t (tgt := 21) C dX11_toldSayings_15 (by decide) (rfl) ?_
  refine ww_iinc (j := 0) (v := 2) (lv' := [(2, .int 2), (1, .int 0), (0, .ref hx)]) C dX11_toldSayings_21 rfl rfl rfl rfl ?_
  refine ww_goto (tgt := 4) C dX11_toldSayings_24 (by decide) ?_
  refine ww_iload_n C dX11_toldSayings_4 0 rfl rfl ?_
  refine ww_bipush (v := 8) C dX11_toldSayings_5 rfl ?_
  refine ww_icmp_ge_f (tgt := 27) C dX11_toldSayings_7 (by decide) (by decide) ?_
  refine ww_aload_n C dX11_toldSayings_10 2 rfl rfl ?_
  refine ww_iload_n C dX11_toldSayings_11 0 rfl rfl ?_
  refine ww_ci (wr := []) (k' := 0) (n' := 0) C (run_V (As := [.int 2]) (rest := []) C (c_isTold X.2.1 E hx 2 qn qp qs qj ql qh qk qr qg qsh jt je ju ja) mi_X11_isTold wl_X11_98 rfl 0 11 rfl rfl rfl rfl rfl dX11_toldSayings_12) [0, 1, 2] [] rfl rfl rfl rfl (fun r u hw => ?_)
  obtain ⟨rfl, rfl⟩ := hw
  refine ww_eq (ws' := [(hx, .inr (11, [.ref qn, .ref qp, .int 0, .int 0, .ref qs, .ref qj, .ref ql, .ref qh, .ref qk, .int 0, .ref qr, .ref qg, .int 0, .int 0, .ref qsh])), (qj, .inr (2, [.ref jt, .ref je, .ref ju, .ref ja])), (jt, .inl (E.2.1 7, 8, .inr (.inr (.inr (.inr (fun _ => none))))))]) ?_ rfl rfl rfl
  refine ww_if_eq_t (tgt := 21) C dX11_toldSayings_15 (by decide) (rfl) ?_
  refine ww_iinc (j := 0) (v := 3) (lv' := [(2, .int 3), (1, .int 0), (0, .ref hx)]) C dX11_toldSayings_21 rfl rfl rfl rfl ?_
  refine ww_goto (tgt := 4) C dX11_toldSayings_24 (by decide) ?_
  refine ww_iload_n C dX11_toldSayings_4 0 rfl rfl ?_
  refine ww_bipush (v := 8) C dX11_toldSayings_5 rfl ?_
  refine ww_icmp_ge_f (tgt := 27) C dX11_toldSayings_7 (by decide) (by decide) ?_
  refine ww_aload_n C dX11_toldSayings_10 2 rfl rfl ?_
  refine ww_iload_n C dX11_toldSayings_11 0 rfl rfl ?_
  refine ww_ci (wr := []) (k' := 0) (n' := 0) C (run_V (As := [.int 3]) (rest := []) C (c_isTold X.2.1 E hx 3 qn qp qs qj ql qh qk qr qg qsh jt je ju ja) mi_X11_isTold wl_X11_98 rfl 0 11 rfl rfl rfl rfl rfl dX11_toldSayings_12) [0, 1, 2] [] rfl rfl rfl rfl (fun r u hw => ?_)
  obtain ⟨rfl, rfl⟩ := hw
  refine ww_eq (ws' := [(hx, .inr (11, [.ref qn, .ref qp, .int 0, .int 0, .ref qs, .ref qj, .ref ql, .ref qh, .ref qk, .int 0, .ref qr, .ref qg, .int 0, .int 0, .ref qsh])), (qj, .inr (2, [.ref jt, .ref je, .ref ju, .ref ja])), (jt, .inl (E.2.1 7, 8, .inr (.inr (.inr (.inr (fun _ => none))))))]) ?_ rfl rfl rfl
  refine ww_if_eq_t (tgt := 21) C dX11_toldSayings_15 (by decide) (rfl) ?_
  refine ww_iinc (j := 0) (v := 4) (lv' := [(2, .int 4), (1, .int 0), (0, .ref hx)]) C dX11_toldSayings_21 rfl rfl rfl rfl ?_
  refine ww_goto (tgt := 4) C dX11_toldSayings_24 (by decide) ?_
  refine ww_iload_n C dX11_toldSayings_4 0 rfl rfl ?_
  refine ww_bipush (v := 8) C dX11_toldSayings_5 rfl ?_
  refine ww_icmp_ge_f (tgt := 27) C dX11_toldSayings_7 (by decide) (by decide) ?_
  refine ww_aload_n C dX11_toldSayings_10 2 rfl rfl ?_
  refine ww_iload_n C dX11_toldSayings_11 0 rfl rfl ?_
  refine ww_ci (wr := []) (k' := 0) (n' := 0) C (run_V (As := [.int 4]) (rest := []) C (c_isTold X.2.1 E hx 4 qn qp qs qj ql qh qk qr qg qsh jt je ju ja) mi_X11_isTold wl_X11_98 rfl 0 11 rfl rfl rfl rfl rfl dX11_toldSayings_12) [0, 1, 2] [] rfl rfl rfl rfl (fun r u hw => ?_)
  obtain ⟨rfl, rfl⟩ := hw
  refine ww_eq (ws' := [(hx, .inr (11, [.ref qn, .ref qp, .int 0, .int 0, .ref qs, .ref qj, .ref ql, .ref qh, .ref qk, .int 0, .ref qr, .ref qg, .int 0, .int 0, .ref qsh])), (qj, .inr (2, [.ref jt, .ref je, .ref ju, .ref ja])), (jt, .inl (E.2.1 7, 8, .inr (.inr (.inr (.inr (fun _ => none))))))]) ?_ rfl rfl rfl
  refine ww_if_eq_t (tgt := 21) C dX11_toldSayings_15 (by decide) (rfl) ?_
  refine ww_iinc (j := 0) (v := 5) (lv' := [(2, .int 5), (1, .int 0), (0, .ref hx)]) C dX11_toldSayings_21 rfl rfl rfl rfl ?_
  refine ww_goto (tgt := 4) C dX11_toldSayings_24 (by decide) ?_
  refine ww_iload_n C dX11_toldSayings_4 0 rfl rfl ?_
  refine ww_bipush (v := 8) C dX11_toldSayings_5 rfl ?_
  refine ww_icmp_ge_f (tgt := 27) C dX11_toldSayings_7 (by decide) (by decide) ?_
  refine ww_aload_n C dX11_toldSayings_10 2 rfl rfl ?_
  refine ww_iload_n C dX11_toldSayings_11 0 rfl rfl ?_
  refine ww_ci (wr := []) (k' := 0) (n' := 0) C (run_V (As := [.int 5]) (rest := []) C (c_isTold X.2.1 E hx 5 qn qp qs qj ql qh qk qr qg qsh jt je ju ja) mi_X11_isTold wl_X11_98 rfl 0 11 rfl rfl rfl rfl rfl dX11_toldSayings_12) [0, 1, 2] [] rfl rfl rfl rfl (fun r u hw => ?_)
  obtain ⟨rfl, rfl⟩ := hw
  refine ww_eq (ws' := [(hx, .inr (11, [.ref qn, .ref qp, .int 0, .int 0, .ref qs, .ref qj, .ref ql, .ref qh, .ref qk, .int 0, .ref qr, .ref qg, .int 0, .int 0, .ref qsh])), (qj, .inr (2, [.ref jt, .ref je, .ref ju, .ref ja])), (jt, .inl (E.2.1 7, 8, .inr (.inr (.inr (.inr (fun _ => none))))))]) ?_ rfl rfl rfl
  refine ww_if_eq_t (tgt := 21) C dX11_toldSayings_15 (by decide) (rfl) ?_
  refine ww_iinc (j := 0) (v := 6) (lv' := [(2, .int 6), (1, .int 0), (0, .ref hx)]) C dX11_toldSayings_21 rfl rfl rfl rfl ?_
  refine ww_goto (tgt := 4) C dX11_toldSayings_24 (by decide) ?_
  refine ww_iload_n C dX11_toldSayings_4 0 rfl rfl ?_
  refine ww_bipush (v := 8) C dX11_toldSayings_5 rfl ?_
  refine ww_icmp_ge_f (tgt := 27) C dX11_toldSayings_7 (by decide) (by decide) ?_
  refine ww_aload_n C dX11_toldSayings_10 2 rfl rfl ?_
  refine ww_iload_n C dX11_toldSayings_11 0 rfl rfl ?_
  refine ww_ci (wr := []) (k' := 0) (n' := 0) C (run_V (As := [.int 6]) (rest := []) C (c_isTold X.2.1 E hx 6 qn qp qs qj ql qh qk qr qg qsh jt je ju ja) mi_X11_isTold wl_X11_98 rfl 0 11 rfl rfl rfl rfl rfl dX11_toldSayings_12) [0, 1, 2] [] rfl rfl rfl rfl (fun r u hw => ?_)
  obtain ⟨rfl, rfl⟩ := hw
  refine ww_eq (ws' := [(hx, .inr (11, [.ref qn, .ref qp, .int 0, .int 0, .ref qs, .ref qj, .ref ql, .ref qh, .ref qk, .int 0, .ref qr, .ref qg, .int 0, .int 0, .ref qsh])), (qj, .inr (2, [.ref jt, .ref je, .ref ju, .ref ja])), (jt, .inl (E.2.1 7, 8, .inr (.inr (.inr (.inr (fun _ => none))))))]) ?_ rfl rfl rfl
  refine ww_if_eq_t (tgt := 21) C dX11_toldSayings_15 (by decide) (rfl) ?_
  refine ww_iinc (j := 0) (v := 7) (lv' := [(2, .int 7), (1, .int 0), (0, .ref hx)]) C dX11_toldSayings_21 rfl rfl rfl rfl ?_
  refine ww_goto (tgt := 4) C dX11_toldSayings_24 (by decide) ?_
  refine ww_iload_n C dX11_toldSayings_4 0 rfl rfl ?_
  refine ww_bipush (v := 8) C dX11_toldSayings_5 rfl ?_
  refine ww_icmp_ge_f (tgt := 27) C dX11_toldSayings_7 (by decide) (by decide) ?_
  refine ww_aload_n C dX11_toldSayings_10 2 rfl rfl ?_
  refine ww_iload_n C dX11_toldSayings_11 0 rfl rfl ?_
  refine ww_ci (wr := []) (k' := 0) (n' := 0) C (run_V (As := [.int 7]) (rest := []) C (c_isTold X.2.1 E hx 7 qn qp qs qj ql qh qk qr qg qsh jt je ju ja) mi_X11_isTold wl_X11_98 rfl 0 11 rfl rfl rfl rfl rfl dX11_toldSayings_12) [0, 1, 2] [] rfl rfl rfl rfl (fun r u hw => ?_)
  obtain ⟨rfl, rfl⟩ := hw
  refine ww_eq (ws' := [(hx, .inr (11, [.ref qn, .ref qp, .int 0, .int 0, .ref qs, .ref qj, .ref ql, .ref qh, .ref qk, .int 0, .ref qr, .ref qg, .int 0, .int 0, .ref qsh])), (qj, .inr (2, [.ref jt, .ref je, .ref ju, .ref ja])), (jt, .inl (E.2.1 7, 8, .inr (.inr (.inr (.inr (fun _ => none))))))]) ?_ rfl rfl rfl
  refine ww_if_eq_t (tgt := 21) C dX11_toldSayings_15 (by decide) (rfl) ?_
  refine ww_iinc (j := 0) (v := 8) (lv' := [(2, .int 8), (1, .int 0), (0, .ref hx)]) C dX11_toldSayings_21 rfl rfl rfl rfl ?_
  refine ww_goto (tgt := 4) C dX11_toldSayings_24 (by decide) ?_
  refine ww_iload_n C dX11_toldSayings_4 0 rfl rfl ?_
  refine ww_bipush (v := 8) C dX11_toldSayings_5 rfl ?_
  refine ww_icmp_ge_t (tgt := 27) C dX11_toldSayings_7 (by decide) (by decide) ?_
  refine ww_iload_n C dX11_toldSayings_27 1 rfl rfl ?_
  exact ww_iret (u := []) C hT [] rfl rfl rfl rfl dX11_toldSayings_28 (⟨rfl, rfl⟩)
theorem dX11_toldEvents_0 : decode cX11_toldEvents 0 = .ok (.iconst 0, 1) := by decide +kernel
theorem dX11_toldEvents_1 : decode cX11_toldEvents 1 = .ok (.istore_n 1, 1) := by decide +kernel
theorem dX11_toldEvents_2 : decode cX11_toldEvents 2 = .ok (.iconst 0, 1) := by decide +kernel
theorem dX11_toldEvents_3 : decode cX11_toldEvents 3 = .ok (.istore_n 2, 1) := by decide +kernel
theorem dX11_toldEvents_4 : decode cX11_toldEvents 4 = .ok (.iload_n 2, 1) := by decide +kernel
theorem dX11_toldEvents_5 : decode cX11_toldEvents 5 = .ok (.iconst 4, 1) := by decide +kernel
theorem dX11_toldEvents_6 : decode cX11_toldEvents 6 = .ok (.if_icmp .ge 20, 3) := by decide +kernel
theorem dX11_toldEvents_9 : decode cX11_toldEvents 9 = .ok (.aload_n 0, 1) := by decide +kernel
theorem dX11_toldEvents_10 : decode cX11_toldEvents 10 = .ok (.iload_n 2, 1) := by decide +kernel
theorem dX11_toldEvents_11 : decode cX11_toldEvents 11 = .ok (.invokevirtual 94, 3) := by decide +kernel
theorem dX11_toldEvents_14 : decode cX11_toldEvents 14 = .ok (.ifCond .eq 6, 3) := by decide +kernel
theorem dX11_toldEvents_20 : decode cX11_toldEvents 20 = .ok (.iinc 2 1, 3) := by decide +kernel
theorem dX11_toldEvents_23 : decode cX11_toldEvents 23 = .ok (.goto (-19), 3) := by decide +kernel
theorem dX11_toldEvents_26 : decode cX11_toldEvents 26 = .ok (.iload_n 1, 1) := by decide +kernel
theorem dX11_toldEvents_27 : decode cX11_toldEvents 27 = .ok (.ireturn, 1) := by decide +kernel
set_option maxRecDepth 100000 in
set_option maxHeartbeats 4000000 in
theorem c_toldEvents (l : Launch) (E : EV) (hx : Nat) (qn : Nat) (qp : Nat) (qs : Nat) (qj : Nat) (ql : Nat) (qh : Nat) (qk : Nat) (qr : Nat) (qg : Nat) (qsh : Nat) (jt : Nat) (je : Nat) (ju : Nat) (ja : Nat) (fe : Nat → Option Nat) (e0 : Nat) (e1 : Nat) (e2 : Nat) (e3 : Nat) (e0a : Nat) (e0b : Nat) (e0c : Nat) (e0d : Nat) (e1a : Nat) (e1b : Nat) (e1c : Nat) (e1d : Nat) (e2a : Nat) (e2b : Nat) (e2c : Nat) (e2d : Nat) (e3a : Nat) (e3b : Nat) (e3c : Nat) (e3d : Nat) (k_fe_0 : fe 0 = some e0) (k_fe_1 : fe 1 = some e1) (k_fe_2 : fe 2 = some e2) (k_fe_3 : fe 3 = some e3) : CT l yX11_toldEvents (Cond.code yX11_toldEvents cX11_toldEvents 3 (some .int) :: TB) ({ frames := 2, cells := 0, slots := 0, locals := 43 }) E [.ref hx] [(hx, .inr (11, [.ref qn, .ref qp, .int 0, .int 0, .ref qs, .ref qj, .ref ql, .ref qh, .ref qk, .int 0, .ref qr, .ref qg, .int 0, .int 0, .ref qsh])), (qj, .inr (2, [.ref jt, .ref je, .ref ju, .ref ja])), (je, .inl (E.2.1 4, 4, .inr (.inr (.inr (.inr fe))))), (e0, .inr (0, [.int 0, .int 0, .ref e0a, .ref e0b, .ref e0c, .ref e0d])), (e1, .inr (0, [.int 0, .int 0, .ref e1a, .ref e1b, .ref e1c, .ref e1d])), (e2, .inr (0, [.int 0, .int 0, .ref e2a, .ref e2b, .ref e2c, .ref e2d])), (e3, .inr (0, [.int 0, .int 0, .ref e3a, .ref e3b, .ref e3c, .ref e3d]))] (Qi E (fun (r : Int32) u => (r = 0 ∧ u = []))) 0 0 := by
  refine ct_of rfl rfl ?_
  intro X C hT hin
  show WW X 3 E 0 [(0, .ref hx)] [] [(hx, .inr (11, [.ref qn, .ref qp, .int 0, .int 0, .ref qs, .ref qj, .ref ql, .ref qh, .ref qk, .int 0, .ref qr, .ref qg, .int 0, .int 0, .ref qsh])), (qj, .inr (2, [.ref jt, .ref je, .ref ju, .ref ja])), (je, .inl (E.2.1 4, 4, .inr (.inr (.inr (.inr fe))))), (e0, .inr (0, [.int 0, .int 0, .ref e0a, .ref e0b, .ref e0c, .ref e0d])), (e1, .inr (0, [.int 0, .int 0, .ref e1a, .ref e1b, .ref e1c, .ref e1d])), (e2, .inr (0, [.int 0, .int 0, .ref e2a, .ref e2b, .ref e2c, .ref e2d])), (e3, .inr (0, [.int 0, .int 0, .ref e3a, .ref e3b, .ref e3c, .ref e3d]))] 0 0
  refine ww_iconst (v := 0) C dX11_toldEvents_0 rfl ?_
  refine ww_istore_n (lv' := [(1, .int 0), (0, .ref hx)]) C dX11_toldEvents_1 rfl rfl rfl ?_
  refine ww_iconst (v := 0) C dX11_toldEvents_2 rfl ?_
  refine ww_istore_n (lv' := [(2, .int 0), (1, .int 0), (0, .ref hx)]) C dX11_toldEvents_3 rfl rfl rfl ?_
  refine ww_iload_n C dX11_toldEvents_4 0 rfl rfl ?_
  refine ww_iconst (v := 4) C dX11_toldEvents_5 rfl ?_
  refine ww_icmp_ge_f (tgt := 26) C dX11_toldEvents_6 (by decide) (by decide) ?_
  refine ww_aload_n C dX11_toldEvents_9 2 rfl rfl ?_
  refine ww_iload_n C dX11_toldEvents_10 0 rfl rfl ?_
  refine ww_ci (wr := []) (k' := 0) (n' := 0) C (run_V (As := [.int 0]) (rest := []) C (c_isEvent X.2.1 E hx 0 qn qp qs qj ql qh qk qr qg qsh jt je ju ja fe e0 e1 e2 e3 e0a e0b e0c e0d e1a e1b e1c e1d e2a e2b e2c e2d e3a e3b e3c e3d k_fe_0 k_fe_1 k_fe_2 k_fe_3) mi_X11_isEvent wl_X11_94 rfl 0 11 rfl rfl rfl rfl rfl dX11_toldEvents_11) [0, 1, 2, 3, 4, 5, 6] [] rfl rfl rfl rfl (fun r u hw => ?_)
  obtain ⟨rfl, rfl⟩ := hw
  refine ww_eq (ws' := [(hx, .inr (11, [.ref qn, .ref qp, .int 0, .int 0, .ref qs, .ref qj, .ref ql, .ref qh, .ref qk, .int 0, .ref qr, .ref qg, .int 0, .int 0, .ref qsh])), (qj, .inr (2, [.ref jt, .ref je, .ref ju, .ref ja])), (je, .inl (E.2.1 4, 4, .inr (.inr (.inr (.inr fe))))), (e0, .inr (0, [.int 0, .int 0, .ref e0a, .ref e0b, .ref e0c, .ref e0d])), (e1, .inr (0, [.int 0, .int 0, .ref e1a, .ref e1b, .ref e1c, .ref e1d])), (e2, .inr (0, [.int 0, .int 0, .ref e2a, .ref e2b, .ref e2c, .ref e2d])), (e3, .inr (0, [.int 0, .int 0, .ref e3a, .ref e3b, .ref e3c, .ref e3d]))]) ?_ rfl rfl rfl
  refine ww_if_eq_t (tgt := 20) C dX11_toldEvents_14 (by decide) (rfl) ?_
  refine ww_iinc (j := 0) (v := 1) (lv' := [(2, .int 1), (1, .int 0), (0, .ref hx)]) C dX11_toldEvents_20 rfl rfl rfl rfl ?_
  refine ww_goto (tgt := 4) C dX11_toldEvents_23 (by decide) ?_
  refine ww_iload_n C dX11_toldEvents_4 0 rfl rfl ?_
  refine ww_iconst (v := 4) C dX11_toldEvents_5 rfl ?_
  refine ww_icmp_ge_f (tgt := 26) C dX11_toldEvents_6 (by decide) (by decide) ?_
  refine ww_aload_n C dX11_toldEvents_9 2 rfl rfl ?_
  refine ww_iload_n C dX11_toldEvents_10 0 rfl rfl ?_
  refine ww_ci (wr := []) (k' := 0) (n' := 0) C (run_V (As := [.int 1]) (rest := []) C (c_isEvent X.2.1 E hx 1 qn qp qs qj ql qh qk qr qg qsh jt je ju ja fe e0 e1 e2 e3 e0a e0b e0c e0d e1a e1b e1c e1d e2a e2b e2c e2d e3a e3b e3c e3d k_fe_0 k_fe_1 k_fe_2 k_fe_3) mi_X11_isEvent wl_X11_94 rfl 0 11 rfl rfl rfl rfl rfl dX11_toldEvents_11) [0, 1, 2, 3, 4, 5, 6] [] rfl rfl rfl rfl (fun r u hw => ?_)
  obtain ⟨rfl, rfl⟩ := hw
  refine ww_eq (ws' := [(hx, .inr (11, [.ref qn, .ref qp, .int 0, .int 0, .ref qs, .ref qj, .ref ql, .ref qh, .ref qk, .int 0, .ref qr, .ref qg, .int 0, .int 0, .ref qsh])), (qj, .inr (2, [.ref jt, .ref je, .ref ju, .ref ja])), (je, .inl (E.2.1 4, 4, .inr (.inr (.inr (.inr fe))))), (e0, .inr (0, [.int 0, .int 0, .ref e0a, .ref e0b, .ref e0c, .ref e0d])), (e1, .inr (0, [.int 0, .int 0, .ref e1a, .ref e1b, .ref e1c, .ref e1d])), (e2, .inr (0, [.int 0, .int 0, .ref e2a, .ref e2b, .ref e2c, .ref e2d])), (e3, .inr (0, [.int 0, .int 0, .ref e3a, .ref e3b, .ref e3c, .ref e3d]))]) ?_ rfl rfl rfl
  refine ww_if_eq_t (tgt := 20) C dX11_toldEvents_14 (by decide) (rfl) ?_
  refine ww_iinc (j := 0) (v := 2) (lv' := [(2, .int 2), (1, .int 0), (0, .ref hx)]) C dX11_toldEvents_20 rfl rfl rfl rfl ?_
  refine ww_goto (tgt := 4) C dX11_toldEvents_23 (by decide) ?_
  refine ww_iload_n C dX11_toldEvents_4 0 rfl rfl ?_
  refine ww_iconst (v := 4) C dX11_toldEvents_5 rfl ?_
  refine ww_icmp_ge_f (tgt := 26) C dX11_toldEvents_6 (by decide) (by decide) ?_
  refine ww_aload_n C dX11_toldEvents_9 2 rfl rfl ?_
  refine ww_iload_n C dX11_toldEvents_10 0 rfl rfl ?_
  refine ww_ci (wr := []) (k' := 0) (n' := 0) C (run_V (As := [.int 2]) (rest := []) C (c_isEvent X.2.1 E hx 2 qn qp qs qj ql qh qk qr qg qsh jt je ju ja fe e0 e1 e2 e3 e0a e0b e0c e0d e1a e1b e1c e1d e2a e2b e2c e2d e3a e3b e3c e3d k_fe_0 k_fe_1 k_fe_2 k_fe_3) mi_X11_isEvent wl_X11_94 rfl 0 11 rfl rfl rfl rfl rfl dX11_toldEvents_11) [0, 1, 2, 3, 4, 5, 6] [] rfl rfl rfl rfl (fun r u hw => ?_)
  obtain ⟨rfl, rfl⟩ := hw
  refine ww_eq (ws' := [(hx, .inr (11, [.ref qn, .ref qp, .int 0, .int 0, .ref qs, .ref qj, .ref ql, .ref qh, .ref qk, .int 0, .ref qr, .ref qg, .int 0, .int 0, .ref qsh])), (qj, .inr (2, [.ref jt, .ref je, .ref ju, .ref ja])), (je, .inl (E.2.1 4, 4, .inr (.inr (.inr (.inr fe))))), (e0, .inr (0, [.int 0, .int 0, .ref e0a, .ref e0b, .ref e0c, .ref e0d])), (e1, .inr (0, [.int 0, .int 0, .ref e1a, .ref e1b, .ref e1c, .ref e1d])), (e2, .inr (0, [.int 0, .int 0, .ref e2a, .ref e2b, .ref e2c, .ref e2d])), (e3, .inr (0, [.int 0, .int 0, .ref e3a, .ref e3b, .ref e3c, .ref e3d]))]) ?_ rfl rfl rfl
  refine ww_if_eq_t (tgt := 20) C dX11_toldEvents_14 (by decide) (rfl) ?_
  refine ww_iinc (j := 0) (v := 3) (lv' := [(2, .int 3), (1, .int 0), (0, .ref hx)]) C dX11_toldEvents_20 rfl rfl rfl rfl ?_
  refine ww_goto (tgt := 4) C dX11_toldEvents_23 (by decide) ?_
  refine ww_iload_n C dX11_toldEvents_4 0 rfl rfl ?_
  refine ww_iconst (v := 4) C dX11_toldEvents_5 rfl ?_
  refine ww_icmp_ge_f (tgt := 26) C dX11_toldEvents_6 (by decide) (by decide) ?_
  refine ww_aload_n C dX11_toldEvents_9 2 rfl rfl ?_
  refine ww_iload_n C dX11_toldEvents_10 0 rfl rfl ?_
  refine ww_ci (wr := []) (k' := 0) (n' := 0) C (run_V (As := [.int 3]) (rest := []) C (c_isEvent X.2.1 E hx 3 qn qp qs qj ql qh qk qr qg qsh jt je ju ja fe e0 e1 e2 e3 e0a e0b e0c e0d e1a e1b e1c e1d e2a e2b e2c e2d e3a e3b e3c e3d k_fe_0 k_fe_1 k_fe_2 k_fe_3) mi_X11_isEvent wl_X11_94 rfl 0 11 rfl rfl rfl rfl rfl dX11_toldEvents_11) [0, 1, 2, 3, 4, 5, 6] [] rfl rfl rfl rfl (fun r u hw => ?_)
  obtain ⟨rfl, rfl⟩ := hw
  refine ww_eq (ws' := [(hx, .inr (11, [.ref qn, .ref qp, .int 0, .int 0, .ref qs, .ref qj, .ref ql, .ref qh, .ref qk, .int 0, .ref qr, .ref qg, .int 0, .int 0, .ref qsh])), (qj, .inr (2, [.ref jt, .ref je, .ref ju, .ref ja])), (je, .inl (E.2.1 4, 4, .inr (.inr (.inr (.inr fe))))), (e0, .inr (0, [.int 0, .int 0, .ref e0a, .ref e0b, .ref e0c, .ref e0d])), (e1, .inr (0, [.int 0, .int 0, .ref e1a, .ref e1b, .ref e1c, .ref e1d])), (e2, .inr (0, [.int 0, .int 0, .ref e2a, .ref e2b, .ref e2c, .ref e2d])), (e3, .inr (0, [.int 0, .int 0, .ref e3a, .ref e3b, .ref e3c, .ref e3d]))]) ?_ rfl rfl rfl
  refine ww_if_eq_t (tgt := 20) C dX11_toldEvents_14 (by decide) (rfl) ?_
  refine ww_iinc (j := 0) (v := 4) (lv' := [(2, .int 4), (1, .int 0), (0, .ref hx)]) C dX11_toldEvents_20 rfl rfl rfl rfl ?_
  refine ww_goto (tgt := 4) C dX11_toldEvents_23 (by decide) ?_
  refine ww_iload_n C dX11_toldEvents_4 0 rfl rfl ?_
  refine ww_iconst (v := 4) C dX11_toldEvents_5 rfl ?_
  refine ww_icmp_ge_t (tgt := 26) C dX11_toldEvents_6 (by decide) (by decide) ?_
  refine ww_iload_n C dX11_toldEvents_26 1 rfl rfl ?_
  exact ww_iret (u := []) C hT [] rfl rfl rfl rfl dX11_toldEvents_27 (⟨rfl, rfl⟩)
theorem dX11_count_0 : decode cX11_count 0 = .ok (.iload_n 1, 1) := by decide +kernel
theorem dX11_count_1 : decode cX11_count 1 = .ok (.tableswitch 145 0 8 #[51, 59, 82, 87, 92, 97, 102, 107, 118], 51) := by decide +kernel
theorem dX11_count_52 : decode cX11_count 52 = .ok (.aload_n 0, 1) := by decide +kernel
theorem dX11_count_53 : decode cX11_count 53 = .ok (.getfield 10, 3) := by decide +kernel
theorem dX11_count_56 : decode cX11_count 56 = .ok (.getfield 125, 3) := by decide +kernel
theorem dX11_count_59 : decode cX11_count 59 = .ok (.ireturn, 1) := by decide +kernel
theorem dX11_count_60 : decode cX11_count 60 = .ok (.aload_n 0, 1) := by decide +kernel
theorem dX11_count_61 : decode cX11_count 61 = .ok (.getfield 10, 3) := by decide +kernel
theorem dX11_count_64 : decode cX11_count 64 = .ok (.getfield 125, 3) := by decide +kernel
theorem dX11_count_67 : decode cX11_count 67 = .ok (.ifCond .ne 8, 3) := by decide +kernel
theorem dX11_count_70 : decode cX11_count 70 = .ok (.bipush (-4), 2) := by decide +kernel
theorem dX11_count_72 : decode cX11_count 72 = .ok (.goto 10, 3) := by decide +kernel
theorem dX11_count_82 : decode cX11_count 82 = .ok (.ireturn, 1) := by decide +kernel
theorem dX11_count_83 : decode cX11_count 83 = .ok (.aload_n 0, 1) := by decide +kernel
theorem dX11_count_84 : decode cX11_count 84 = .ok (.invokevirtual 355, 3) := by decide +kernel
theorem wl_X11_355 : Cond.methodLink RX11 355 yX11_toldSayings ∈ TB := tbm (tq5 (List.mem_of_getElem? (i := 64) (by decide +kernel))) (by decide +kernel)
theorem wc_X11_toldSayings : Cond.code yX11_toldSayings cX11_toldSayings 3 (some .int) ∈ TB := tbm (tq5 (List.mem_of_getElem? (i := 67) (rfl))) (by decide +kernel)
theorem wi_X11_toldSayings : Cond.instanceMethod yX11_toldSayings ∈ TB := tbm (tq5 (List.mem_of_getElem? (i := 66) (by decide +kernel))) (by decide +kernel)
theorem ws_X11_toldSayings : Cond.selects RX11 yX11_toldSayings yX11_toldSayings ∈ TB := tbm (tq0 (List.mem_of_getElem? (i := 34) (by decide +kernel))) (by decide +kernel)
theorem mi_X11_toldSayings : MI yX11_toldSayings cX11_toldSayings 3 (some .int) 0 := ⟨wc_X11_toldSayings, wn_X11, ⟨by decide +kernel, by decide +kernel, by decide +kernel⟩, wi_X11_toldSayings, ws_X11_toldSayings⟩
theorem dX11_count_87 : decode cX11_count 87 = .ok (.ireturn, 1) := by decide +kernel
theorem dX11_count_88 : decode cX11_count 88 = .ok (.aload_n 0, 1) := by decide +kernel
theorem dX11_count_89 : decode cX11_count 89 = .ok (.invokevirtual 358, 3) := by decide +kernel
theorem wl_X11_358 : Cond.methodLink RX11 358 yX11_toldEvents ∈ TB := tbm (tq5 (List.mem_of_getElem? (i := 68) (by decide +kernel))) (by decide +kernel)
theorem wc_X11_toldEvents : Cond.code yX11_toldEvents cX11_toldEvents 3 (some .int) ∈ TB := tbm (tq5 (List.mem_of_getElem? (i := 71) (rfl))) (by decide +kernel)
theorem wi_X11_toldEvents : Cond.instanceMethod yX11_toldEvents ∈ TB := tbm (tq5 (List.mem_of_getElem? (i := 70) (by decide +kernel))) (by decide +kernel)
theorem ws_X11_toldEvents : Cond.selects RX11 yX11_toldEvents yX11_toldEvents ∈ TB := tbm (tq0 (List.mem_of_getElem? (i := 35) (by decide +kernel))) (by decide +kernel)
theorem mi_X11_toldEvents : MI yX11_toldEvents cX11_toldEvents 3 (some .int) 0 := ⟨wc_X11_toldEvents, wn_X11, ⟨by decide +kernel, by decide +kernel, by decide +kernel⟩, wi_X11_toldEvents, ws_X11_toldEvents⟩
theorem dX11_count_92 : decode cX11_count 92 = .ok (.ireturn, 1) := by decide +kernel
theorem dX11_count_93 : decode cX11_count 93 = .ok (.aload_n 0, 1) := by decide +kernel
theorem dX11_count_94 : decode cX11_count 94 = .ok (.getfield 266, 3) := by decide +kernel
theorem dX11_count_97 : decode cX11_count 97 = .ok (.ireturn, 1) := by decide +kernel
theorem dX11_count_98 : decode cX11_count 98 = .ok (.aload_n 0, 1) := by decide +kernel
theorem dX11_count_99 : decode cX11_count 99 = .ok (.getfield 116, 3) := by decide +kernel
theorem dX11_count_102 : decode cX11_count 102 = .ok (.ireturn, 1) := by decide +kernel
theorem dX11_count_103 : decode cX11_count 103 = .ok (.aload_n 0, 1) := by decide +kernel
theorem dX11_count_104 : decode cX11_count 104 = .ok (.getfield 106, 3) := by decide +kernel
theorem dX11_count_107 : decode cX11_count 107 = .ok (.ireturn, 1) := by decide +kernel
theorem dX11_count_108 : decode cX11_count 108 = .ok (.aload_n 0, 1) := by decide +kernel
theorem dX11_count_109 : decode cX11_count 109 = .ok (.getfield 27, 3) := by decide +kernel
theorem dX11_count_112 : decode cX11_count 112 = .ok (.getfield 162, 3) := by decide +kernel
theorem dX11_count_115 : decode cX11_count 115 = .ok (.getfield 171, 3) := by decide +kernel
theorem dX11_count_118 : decode cX11_count 118 = .ok (.ireturn, 1) := by decide +kernel
theorem dX11_count_119 : decode cX11_count 119 = .ok (.aload_n 0, 1) := by decide +kernel
theorem dX11_count_120 : decode cX11_count 120 = .ok (.getfield 71, 3) := by decide +kernel
theorem dX11_count_123 : decode cX11_count 123 = .ok (.iconst 0, 1) := by decide +kernel
theorem dX11_count_124 : decode cX11_count 124 = .ok (.aaload, 1) := by decide +kernel
theorem dX11_count_125 : decode cX11_count 125 = .ok (.getfield 338, 3) := by decide +kernel
theorem dX11_count_128 : decode cX11_count 128 = .ok (.ifCond .eq 15, 3) := by decide +kernel
theorem dX11_count_143 : decode cX11_count 143 = .ok (.bipush (-4), 2) := by decide +kernel
theorem dX11_count_145 : decode cX11_count 145 = .ok (.ireturn, 1) := by decide +kernel
theorem dX11_count_146 : decode cX11_count 146 = .ok (.iconst (-1), 1) := by decide +kernel
theorem dX11_count_147 : decode cX11_count 147 = .ok (.ireturn, 1) := by decide +kernel
set_option maxRecDepth 100000 in
set_option maxHeartbeats 4000000 in
theorem x_count (l : Launch) (E : EV) (hx : Nat) (p0 : Int32) (qn : Nat) (qp : Nat) (qs : Nat) (qj : Nat) (ql : Nat) (qh : Nat) (qk : Nat) (qr : Nat) (qg : Nat) (qsh : Nat) (nf : Nat) (np : Nat) (qt : Nat) (sa : Nat) (sb : Nat) (sc : Nat) (sd : Nat) (tb : Nat) (jt : Nat) (je : Nat) (ju : Nat) (ja : Nat) (fe : Nat → Option Nat) (e0 : Nat) (e1 : Nat) (e2 : Nat) (e3 : Nat) (e0a : Nat) (e0b : Nat) (e0c : Nat) (e0d : Nat) (e1a : Nat) (e1b : Nat) (e1c : Nat) (e1d : Nat) (e2a : Nat) (e2b : Nat) (e2c : Nat) (e2d : Nat) (e3a : Nat) (e3b : Nat) (e3c : Nat) (e3d : Nat) (fs : Nat → Option Nat) (s0 : Nat) (s1 : Nat) (s2 : Nat) (s3 : Nat) (s0c : Nat) (k_fe_0 : fe 0 = some e0) (k_fe_1 : fe 1 = some e1) (k_fe_2 : fe 2 = some e2) (k_fe_3 : fe 3 = some e3) (k_fs_0 : fs 0 = some s0) (k_fs_1 : fs 1 = some s1) (k_fs_2 : fs 2 = some s2) (k_fs_3 : fs 3 = some s3) : CT l yX11_count (Cond.code yX11_count cX11_count 2 (some .int) :: TB) ({ frames := 3, cells := 0, slots := 0, locals := 65 }) E [.ref hx, .int p0] [(hx, .inr (11, [.ref qn, .ref qp, .int 0, .int 0, .ref qs, .ref qj, .ref ql, .ref qh, .ref qk, .int 0, .ref qr, .ref qg, .int 0, .int 0, .ref qsh])), (qn, .inr (4, [.int 0, .int 0, .ref nf, .ref np])), (nf, .inl (E.2.1 1, 24, .inl (fun _ => 0))), (np, .inl (E.2.1 1, 96, .inl (fun _ => 0))), (qs, .inr (5, [.ref qt, .ref sa, .ref sb, .ref sc, .ref sd, .int 0, .int 0, .int 0, .int 0, .int 0])), (qt, .inr (10, [.ref tb, .int 0, .int 0, .int 0, .int 0])), (tb, .inl (E.2.1 0, 160, .inl (fun _ => 0))), (qj, .inr (2, [.ref jt, .ref je, .ref ju, .ref ja])), (jt, .inl (E.2.1 7, 8, .inr (.inr (.inr (.inr (fun _ => none)))))), (je, .inl (E.2.1 4, 4, .inr (.inr (.inr (.inr fe))))), (e0, .inr (0, [.int 0, .int 0, .ref e0a, .ref e0b, .ref e0c, .ref e0d])), (e1, .inr (0, [.int 0, .int 0, .ref e1a, .ref e1b, .ref e1c, .ref e1d])), (e2, .inr (0, [.int 0, .int 0, .ref e2a, .ref e2b, .ref e2c, .ref e2d])), (e3, .inr (0, [.int 0, .int 0, .ref e3a, .ref e3b, .ref e3c, .ref e3d])), (qsh, .inl (E.2.1 8, 4, .inr (.inr (.inr (.inr fs))))), (s0, .inr (9, [.int 0, .int 0, .int 0, .ref s0c]))] (Qi E (fun (r : Int32) u => (r = (-1) ∧ u = [] ∧ (p0.toInt < 0 ∨ 8 < p0.toInt)) ∨ (r = 0 ∧ u = [] ∧ (0 ≤ p0.toInt) ∧ (p0.toInt ≤ 7) ∧ (p0.toInt ≠ 1)) ∨ (r = (-4) ∧ u = [] ∧ (p0.toInt = 1 ∨ p0.toInt = 8)))) 0 0 := by
  refine ct_of rfl rfl ?_
  intro X C hT hin
  show WW X 2 E 0 [(0, .ref hx), (1, .int p0)] [] [(hx, .inr (11, [.ref qn, .ref qp, .int 0, .int 0, .ref qs, .ref qj, .ref ql, .ref qh, .ref qk, .int 0, .ref qr, .ref qg, .int 0, .int 0, .ref qsh])), (qn, .inr (4, [.int 0, .int 0, .ref nf, .ref np])), (nf, .inl (E.2.1 1, 24, .inl (fun _ => 0))), (np, .inl (E.2.1 1, 96, .inl (fun _ => 0))), (qs, .inr (5, [.ref qt, .ref sa, .ref sb, .ref sc, .ref sd, .int 0, .int 0, .int 0, .int 0, .int 0])), (qt, .inr (10, [.ref tb, .int 0, .int 0, .int 0, .int 0])), (tb, .inl (E.2.1 0, 160, .inl (fun _ => 0))), (qj, .inr (2, [.ref jt, .ref je, .ref ju, .ref ja])), (jt, .inl (E.2.1 7, 8, .inr (.inr (.inr (.inr (fun _ => none)))))), (je, .inl (E.2.1 4, 4, .inr (.inr (.inr (.inr fe))))), (e0, .inr (0, [.int 0, .int 0, .ref e0a, .ref e0b, .ref e0c, .ref e0d])), (e1, .inr (0, [.int 0, .int 0, .ref e1a, .ref e1b, .ref e1c, .ref e1d])), (e2, .inr (0, [.int 0, .int 0, .ref e2a, .ref e2b, .ref e2c, .ref e2d])), (e3, .inr (0, [.int 0, .int 0, .ref e3a, .ref e3b, .ref e3c, .ref e3d])), (qsh, .inl (E.2.1 8, 4, .inr (.inr (.inr (.inr fs))))), (s0, .inr (9, [.int 0, .int 0, .int 0, .ref s0c]))] 0 0
  refine ww_iload_n C dX11_count_0 1 rfl rfl ?_
  by_cases c_1 : (0 : Int) ≤ p0.toInt ∧ p0.toInt ≤ 8
  · rcases sp_0_8 (x := p0) (by omega) (by omega) with rfl | rfl | rfl | rfl | rfl | rfl | rfl | rfl | rfl
    · refine ww_tableIn (tgt := 52) C dX11_count_1 (by decide) (by decide) rfl (by decide) ?_
      refine ww_aload_n C dX11_count_52 0 rfl rfl ?_
      refine ww_get C fg_X11_10 0 rfl rfl dX11_count_53 ?_
      refine ww_get C fg_X11_125 1 rfl rfl dX11_count_56 ?_
      exact ww_iret (u := []) C hT [] rfl rfl rfl rfl dX11_count_59 (Or.inr (Or.inl ⟨rfl, rfl, (by first | assumption | omega | decide), (by first | assumption | omega | decide), (by first | assumption | omega | decide)⟩))
    · refine ww_tableIn (tgt := 60) C dX11_count_1 (by decide) (by decide) rfl (by decide) ?_
      refine ww_aload_n C dX11_count_60 0 rfl rfl ?_
      refine ww_get C fg_X11_10 0 rfl rfl dX11_count_61 ?_
      refine ww_get C fg_X11_125 1 rfl rfl dX11_count_64 ?_
      refine ww_if_ne_f (tgt := 75) C dX11_count_67 (by decide) (rfl) ?_
      refine ww_bipush (v := (-4)) C dX11_count_70 rfl ?_
      refine ww_goto (tgt := 82) C dX11_count_72 (by decide) ?_
      exact ww_iret (u := []) C hT [] rfl rfl rfl rfl dX11_count_82 (Or.inr (Or.inr ⟨rfl, rfl, (by first | assumption | omega | decide)⟩))
    · refine ww_tableIn (tgt := 83) C dX11_count_1 (by decide) (by decide) rfl (by decide) ?_
      refine ww_aload_n C dX11_count_83 0 rfl rfl ?_
      refine ww_ci (wr := [(qn, .inr (4, [.int 0, .int 0, .ref nf, .ref np])), (nf, .inl (E.2.1 1, 24, .inl (fun _ => 0))), (np, .inl (E.2.1 1, 96, .inl (fun _ => 0))), (qs, .inr (5, [.ref qt, .ref sa, .ref sb, .ref sc, .ref sd, .int 0, .int 0, .int 0, .int 0, .int 0])), (qt, .inr (10, [.ref tb, .int 0, .int 0, .int 0, .int 0])), (tb, .inl (E.2.1 0, 160, .inl (fun _ => 0))), (je, .inl (E.2.1 4, 4, .inr (.inr (.inr (.inr fe))))), (e0, .inr (0, [.int 0, .int 0, .ref e0a, .ref e0b, .ref e0c, .ref e0d])), (e1, .inr (0, [.int 0, .int 0, .ref e1a, .ref e1b, .ref e1c, .ref e1d])), (e2, .inr (0, [.int 0, .int 0, .ref e2a, .ref e2b, .ref e2c, .ref e2d])), (e3, .inr (0, [.int 0, .int 0, .ref e3a, .ref e3b, .ref e3c, .ref e3d])), (qsh, .inl (E.2.1 8, 4, .inr (.inr (.inr (.inr fs))))), (s0, .inr (9, [.int 0, .int 0, .int 0, .ref s0c]))]) (k' := 0) (n' := 0) C (run_V (As := []) (rest := []) C (c_toldSayings X.2.1 E hx qn qp qs qj ql qh qk qr qg qsh jt je ju ja) mi_X11_toldSayings wl_X11_355 rfl 0 11 rfl rfl rfl rfl rfl dX11_count_84) [0, 7, 8] [1, 2, 3, 4, 5, 6, 9, 10, 11, 12, 13, 14, 15] rfl rfl rfl rfl (fun r u hw => ?_)
      obtain ⟨rfl, rfl⟩ := hw
      refine ww_eq (ws' := [(qn, .inr (4, [.int 0, .int 0, .ref nf, .ref np])), (nf, .inl (E.2.1 1, 24, .inl (fun _ => 0))), (np, .inl (E.2.1 1, 96, .inl (fun _ => 0))), (qs, .inr (5, [.ref qt, .ref sa, .ref sb, .ref sc, .ref sd, .int 0, .int 0, .int 0, .int 0, .int 0])), (qt, .inr (10, [.ref tb, .int 0, .int 0, .int 0, .int 0])), (tb, .inl (E.2.1 0, 160, .inl (fun _ => 0))), (je, .inl (E.2.1 4, 4, .inr (.inr (.inr (.inr fe))))), (e0, .inr (0, [.int 0, .int 0, .ref e0a, .ref e0b, .ref e0c, .ref e0d])), (e1, .inr (0, [.int 0, .int 0, .ref e1a, .ref e1b, .ref e1c, .ref e1d])), (e2, .inr (0, [.int 0, .int 0, .ref e2a, .ref e2b, .ref e2c, .ref e2d])), (e3, .inr (0, [.int 0, .int 0, .ref e3a, .ref e3b, .ref e3c, .ref e3d])), (qsh, .inl (E.2.1 8, 4, .inr (.inr (.inr (.inr fs))))), (s0, .inr (9, [.int 0, .int 0, .int 0, .ref s0c]))]) ?_ rfl rfl rfl
      exact ww_iret (u := []) C hT [] rfl rfl rfl rfl dX11_count_87 (Or.inr (Or.inl ⟨rfl, rfl, (by first | assumption | omega | decide), (by first | assumption | omega | decide), (by first | assumption | omega | decide)⟩))
    · refine ww_tableIn (tgt := 88) C dX11_count_1 (by decide) (by decide) rfl (by decide) ?_
      refine ww_aload_n C dX11_count_88 0 rfl rfl ?_
      refine ww_ci (wr := [(qn, .inr (4, [.int 0, .int 0, .ref nf, .ref np])), (nf, .inl (E.2.1 1, 24, .inl (fun _ => 0))), (np, .inl (E.2.1 1, 96, .inl (fun _ => 0))), (qs, .inr (5, [.ref qt, .ref sa, .ref sb, .ref sc, .ref sd, .int 0, .int 0, .int 0, .int 0, .int 0])), (qt, .inr (10, [.ref tb, .int 0, .int 0, .int 0, .int 0])), (tb, .inl (E.2.1 0, 160, .inl (fun _ => 0))), (jt, .inl (E.2.1 7, 8, .inr (.inr (.inr (.inr (fun _ => none)))))), (qsh, .inl (E.2.1 8, 4, .inr (.inr (.inr (.inr fs))))), (s0, .inr (9, [.int 0, .int 0, .int 0, .ref s0c]))]) (k' := 0) (n' := 0) C (run_V (As := []) (rest := []) C (c_toldEvents X.2.1 E hx qn qp qs qj ql qh qk qr qg qsh jt je ju ja fe e0 e1 e2 e3 e0a e0b e0c e0d e1a e1b e1c e1d e2a e2b e2c e2d e3a e3b e3c e3d k_fe_0 k_fe_1 k_fe_2 k_fe_3) mi_X11_toldEvents wl_X11_358 rfl 0 11 rfl rfl rfl rfl rfl dX11_count_89) [0, 7, 9, 10, 11, 12, 13] [1, 2, 3, 4, 5, 6, 8, 14, 15] rfl rfl rfl rfl (fun r u hw => ?_)
      obtain ⟨rfl, rfl⟩ := hw
      refine ww_eq (ws' := [(qn, .inr (4, [.int 0, .int 0, .ref nf, .ref np])), (nf, .inl (E.2.1 1, 24, .inl (fun _ => 0))), (np, .inl (E.2.1 1, 96, .inl (fun _ => 0))), (qs, .inr (5, [.ref qt, .ref sa, .ref sb, .ref sc, .ref sd, .int 0, .int 0, .int 0, .int 0, .int 0])), (qt, .inr (10, [.ref tb, .int 0, .int 0, .int 0, .int 0])), (tb, .inl (E.2.1 0, 160, .inl (fun _ => 0))), (jt, .inl (E.2.1 7, 8, .inr (.inr (.inr (.inr (fun _ => none)))))), (qsh, .inl (E.2.1 8, 4, .inr (.inr (.inr (.inr fs))))), (s0, .inr (9, [.int 0, .int 0, .int 0, .ref s0c]))]) ?_ rfl rfl rfl
      exact ww_iret (u := []) C hT [] rfl rfl rfl rfl dX11_count_92 (Or.inr (Or.inl ⟨rfl, rfl, (by first | assumption | omega | decide), (by first | assumption | omega | decide), (by first | assumption | omega | decide)⟩))
    · refine ww_tableIn (tgt := 93) C dX11_count_1 (by decide) (by decide) rfl (by decide) ?_
      refine ww_aload_n C dX11_count_93 0 rfl rfl ?_
      refine ww_get C fg_X11_266 0 rfl rfl dX11_count_94 ?_
      exact ww_iret (u := []) C hT [] rfl rfl rfl rfl dX11_count_97 (Or.inr (Or.inl ⟨rfl, rfl, (by first | assumption | omega | decide), (by first | assumption | omega | decide), (by first | assumption | omega | decide)⟩))
    · refine ww_tableIn (tgt := 98) C dX11_count_1 (by decide) (by decide) rfl (by decide) ?_
      refine ww_aload_n C dX11_count_98 0 rfl rfl ?_
      refine ww_get C fg_X11_116 0 rfl rfl dX11_count_99 ?_
      exact ww_iret (u := []) C hT [] rfl rfl rfl rfl dX11_count_102 (Or.inr (Or.inl ⟨rfl, rfl, (by first | assumption | omega | decide), (by first | assumption | omega | decide), (by first | assumption | omega | decide)⟩))
    · refine ww_tableIn (tgt := 103) C dX11_count_1 (by decide) (by decide) rfl (by decide) ?_
      refine ww_aload_n C dX11_count_103 0 rfl rfl ?_
      refine ww_get C fg_X11_106 0 rfl rfl dX11_count_104 ?_
      exact ww_iret (u := []) C hT [] rfl rfl rfl rfl dX11_count_107 (Or.inr (Or.inl ⟨rfl, rfl, (by first | assumption | omega | decide), (by first | assumption | omega | decide), (by first | assumption | omega | decide)⟩))
    · refine ww_tableIn (tgt := 108) C dX11_count_1 (by decide) (by decide) rfl (by decide) ?_
      refine ww_aload_n C dX11_count_108 0 rfl rfl ?_
      refine ww_get C fg_X11_27 0 rfl rfl dX11_count_109 ?_
      refine ww_get C fg_X11_162 4 rfl rfl dX11_count_112 ?_
      refine ww_get C fg_X11_171 5 rfl rfl dX11_count_115 ?_
      exact ww_iret (u := []) C hT [] rfl rfl rfl rfl dX11_count_118 (Or.inr (Or.inl ⟨rfl, rfl, (by first | assumption | omega | decide), (by first | assumption | omega | decide), (by first | assumption | omega | decide)⟩))
    · refine ww_tableIn (tgt := 119) C dX11_count_1 (by decide) (by decide) rfl (by decide) ?_
      refine ww_aload_n C dX11_count_119 0 rfl rfl ?_
      refine ww_get C fg_X11_71 0 rfl rfl dX11_count_120 ?_
      refine ww_iconst (v := 0) C dX11_count_123 rfl ?_
      refine ww_ald (v := (some s0)) (t0 := 8) C 14 rfl rfl (vin rfl) k_fs_0 dX11_count_124 ?_
      refine ww_eq (st' := [.ref s0]) ?_ rfl rfl rfl
      refine ww_get C fg_X11_338 15 rfl rfl dX11_count_125 ?_
      refine ww_if_eq_t (tgt := 143) C dX11_count_128 (by decide) (rfl) ?_
      refine ww_bipush (v := (-4)) C dX11_count_143 rfl ?_
      exact ww_iret (u := []) C hT [] rfl rfl rfl rfl dX11_count_145 (Or.inr (Or.inr ⟨rfl, rfl, (by first | assumption | omega | decide)⟩))
  · refine ww_tableOut (tgt := 146) C dX11_count_1 (by omega) (by decide) ?_
    refine ww_iconst (v := (-1)) C dX11_count_146 rfl ?_
    exact ww_iret (u := []) C hT [] rfl rfl rfl rfl dX11_count_147 (Or.inl ⟨rfl, rfl, (by first | assumption | omega | decide)⟩)
