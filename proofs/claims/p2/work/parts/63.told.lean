theorem dX11_canBeIf_0 : decode cX11_canBeIf 0 = .ok (.aload_n 0, 1) := by decide +kernel
theorem dX11_canBeIf_1 : decode cX11_canBeIf 1 = .ok (.iload_n 1, 1) := by decide +kernel
theorem dX11_canBeIf_2 : decode cX11_canBeIf 2 = .ok (.invokevirtual 98, 3) := by decide +kernel
theorem wl_X11_98 : Cond.methodLink RX11 98 yX11_isTold ∈ TB := tbm (tq3 (List.mem_of_getElem? (i := 203) (by decide +kernel))) (by decide +kernel)
theorem wc_X11_isTold : Cond.code yX11_isTold cX11_isTold 2 (some .boolean) ∈ TB := tbm (tq3 (List.mem_of_getElem? (i := 206) (rfl))) (by decide +kernel)
theorem wi_X11_isTold : Cond.instanceMethod yX11_isTold ∈ TB := tbm (tq3 (List.mem_of_getElem? (i := 205) (by decide +kernel))) (by decide +kernel)
theorem ws_X11_isTold : Cond.selects RX11 yX11_isTold yX11_isTold ∈ TB := tbm (tq0 (List.mem_of_getElem? (i := 16) (by decide +kernel))) (by decide +kernel)
theorem mi_X11_isTold : MI yX11_isTold cX11_isTold 2 (some .boolean) 1 := ⟨wc_X11_isTold, wn_X11, ⟨by decide +kernel, by decide +kernel, by decide +kernel⟩, wi_X11_isTold, ws_X11_isTold⟩
theorem dX11_canBeIf_5 : decode cX11_canBeIf 5 = .ok (.ifCond .eq 22, 3) := by decide +kernel
theorem dX11_canBeIf_8 : decode cX11_canBeIf 8 = .ok (.aload_n 0, 1) := by decide +kernel
theorem dX11_canBeIf_9 : decode cX11_canBeIf 9 = .ok (.getfield 34, 3) := by decide +kernel
theorem dX11_canBeIf_12 : decode cX11_canBeIf 12 = .ok (.getfield 80, 3) := by decide +kernel
theorem dX11_canBeIf_15 : decode cX11_canBeIf 15 = .ok (.iload_n 1, 1) := by decide +kernel
theorem dX11_canBeIf_16 : decode cX11_canBeIf 16 = .ok (.aaload, 1) := by decide +kernel
theorem dX11_canBeIf_17 : decode cX11_canBeIf 17 = .ok (.getfield 101, 3) := by decide +kernel
theorem wf_X11_101 : Cond.fieldLink RX11 101 RX8 "afters" "I" ∈ TB := tbm (tq3 (List.mem_of_getElem? (i := 164) (by decide +kernel))) (by decide +kernel)
theorem fg_X11_101 : FG RX11 101 8 3 := ⟨RX8, TX8, 7, uw_X8, wf_X11_101, rfl, by decide, rfl⟩
theorem dX11_canBeIf_20 : decode cX11_canBeIf 20 = .ok (.ifCond .ne 7, 3) := by decide +kernel
theorem dX11_canBeIf_27 : decode cX11_canBeIf 27 = .ok (.iconst 0, 1) := by decide +kernel
theorem dX11_canBeIf_28 : decode cX11_canBeIf 28 = .ok (.ireturn, 1) := by decide +kernel
theorem dX11_canBeIf_23 : decode cX11_canBeIf 23 = .ok (.iconst 1, 1) := by decide +kernel
theorem dX11_canBeIf_24 : decode cX11_canBeIf 24 = .ok (.goto 4, 3) := by decide +kernel
set_option maxRecDepth 100000 in
set_option maxHeartbeats 4000000 in
theorem x_canBeIf (l : Launch) (E : EV) (ro : va_W) (hx : Nat) (k : Int32) (h : Nat) (qp : Nat) (ac : Nat) (np : Nat) (qs : Nat) (qj : Nat) (ly : Nat) (qh : Nat) (kk : Nat) (kc : Nat) (rd : Nat) (pg : Nat) (pe : Nat) (kn : Int32) (ss : Nat) (jt : Nat) (je : Nat) (ju : Nat) (ja : Nat) (fto : Nat → Option Nat) (tT : Nat → Option SVal) (hac : ac ≤ 8) (hnp : np < 8) (hkc : kc ≤ 4) (hpe : pe ≤ 4) (hto : SYT E ro 8 fto tT) : CT l yX11_canBeIf (Cond.code yX11_canBeIf cX11_canBeIf 2 (some .boolean) :: TB) ({ frames := 2, cells := 0, slots := 0, locals := 43 }) E ro [.ref hx, .int k] [(hx, .inr (11, [.ref h, .ref qp, .int (nI ac), .int (nI np), .ref qs, .ref qj, .ref ly, .ref qh, .ref kk, .int (nI kc), .ref rd, .ref pg, .int (nI pe), .int kn, .ref ss])), (qj, .inr (2, [.ref jt, .ref je, .ref ju, .ref ja])), (jt, .inl (E.2.1 7, 8, .inr (.inr (.inr (.inr fto)))))] (Qi E (fun (rz : Int32) uz => (∃ (aa : Nat), rz = 1 ∧ uz = [(hx, .inr (11, [.ref h, .ref qp, .int (nI ac), .int (nI np), .ref qs, .ref qj, .ref ly, .ref qh, .ref kk, .int (nI kc), .ref rd, .ref pg, .int (nI pe), .int kn, .ref ss])), (qj, .inr (2, [.ref jt, .ref je, .ref ju, .ref ja])), (jt, .inl (E.2.1 7, 8, .inr (.inr (.inr (.inr fto)))))] ∧ (0 ≤ k.toInt) ∧ (k.toInt ≤ 7) ∧ (fto k.toNatClampNeg = some aa) ∧ (PLN (sNs tT) k)) ∨ (rz = 0 ∧ uz = [(hx, .inr (11, [.ref h, .ref qp, .int (nI ac), .int (nI np), .ref qs, .ref qj, .ref ly, .ref qh, .ref kk, .int (nI kc), .ref rd, .ref pg, .int (nI pe), .int kn, .ref ss])), (qj, .inr (2, [.ref jt, .ref je, .ref ju, .ref ja])), (jt, .inl (E.2.1 7, 8, .inr (.inr (.inr (.inr fto)))))] ∧ (¬ PLN (sNs tT) k)))) 0 0 := by
  refine ct_of rfl rfl ?_
  intro X C hT hin hro
  show WW X 2 E 0 [(0, .ref hx), (1, .int k)] [] [(hx, .inr (11, [.ref h, .ref qp, .int (nI ac), .int (nI np), .ref qs, .ref qj, .ref ly, .ref qh, .ref kk, .int (nI kc), .ref rd, .ref pg, .int (nI pe), .int kn, .ref ss])), (qj, .inr (2, [.ref jt, .ref je, .ref ju, .ref ja])), (jt, .inl (E.2.1 7, 8, .inr (.inr (.inr (.inr fto)))))] 0 0
  refine ww_aload_n C dX11_canBeIf_0 0 rfl rfl ?_
  refine ww_iload_n C dX11_canBeIf_1 1 rfl rfl ?_
  refine ww_ci (wr := []) (k' := 0) (n' := 0) C (run_V (As := [.int k]) (rest := []) C (x_isTold X.2.1 E ro hx k h qp ac np qs qj ly qh kk kc rd pg pe kn ss jt je ju ja fto tT (by omega) (by omega) (by omega) (by omega) hto) mi_X11_isTold wl_X11_98 rfl 0 11 rfl rfl rfl rfl rfl dX11_canBeIf_2) (roK hro) [0, 1, 2] [] rfl rfl rfl rfl (fun r_1 uz hw => ?_)
  rcases hw with hw | hw
  · refine ex1 hw ?_
    clear hw
    intro aa_2 hw
    refine an4 hw ?_
    clear hw
    intro he_6 he_7 h_3 h_4 hw
    have h_5 := hw
    clear hw
    have he_6 := he_6.symm
    subst he_6
    subst he_7
    refine ww_eq (ws' := [(hx, .inr (11, [.ref h, .ref qp, .int (nI ac), .int (nI np), .ref qs, .ref qj, .ref ly, .ref qh, .ref kk, .int (nI kc), .ref rd, .ref pg, .int (nI pe), .int kn, .ref ss])), (qj, .inr (2, [.ref jt, .ref je, .ref ju, .ref ja])), (jt, .inl (E.2.1 7, 8, .inr (.inr (.inr (.inr fto)))))]) ?_ rfl rfl rfl
    refine ww_if_eq_f (tgt := 27) C dX11_canBeIf_5 (by decide) (by decide) ?_
    obtain ⟨j_11, hj_11, rfl⟩ := i_nat (x := k) (N := 7) (by omega) (by omega)
    have hzj_11 := nI_toInt (n := j_11) (by omega)
    obtain ⟨Su_12, hTu_12, hVu_12⟩ := SYT.at hto (c := j_11) (by omega) (tn_at (by omega) h_5)
    obtain ⟨i0u_12, i1u_12, i2u_12, i3u_12, sxu_12, syu_12, szu_12, h0u_12, h1u_12, h2u_12, h3u_12, hwfu_12, hnau_12, hafu_12⟩ := id hVu_12
    refine ww_aload_n C dX11_canBeIf_8 0 rfl rfl ?_
    refine ww_get C fg_X11_34 0 rfl rfl dX11_canBeIf_9 ?_
    refine ww_get C fg_X11_80 1 rfl rfl dX11_canBeIf_12 ?_
    refine ww_iload_n C dX11_canBeIf_15 1 rfl rfl ?_
    refine ww_ald (v := (some aa_2)) (t0 := 7) C 2 rfl rfl (vp_in_nI (by omega) (by omega)) (ldn (by omega) (tn_at (by omega) h_5)) dX11_canBeIf_16 ?_
    refine ww_eq (st' := [.ref aa_2]) ?_ rfl rfl rfl
    refine ww_getR C hro fg_X11_101 i0u_12 h0u_12 rfl dX11_canBeIf_17 ?_
    refine ww_if_ne (tgt := 27) C dX11_canBeIf_20 (by decide) (fun c_13 => ?_) (fun c_13 => ?_)
    · have zc_13 : ((Su_12.2.2.2.2.2.2.2 : Nat) : Int) ≠ 0 := i_ne (nI_toInt (n := Su_12.2.2.2.2.2.2.2) (by omega)) rfl c_13
      refine ww_iconst (v := 0) C dX11_canBeIf_27 rfl ?_
      exact ww_zret (u := [(hx, .inr (11, [.ref h, .ref qp, .int (nI ac), .int (nI np), .ref qs, .ref qj, .ref ly, .ref qh, .ref kk, .int (nI kc), .ref rd, .ref pg, .int (nI pe), .int kn, .ref ss])), (qj, .inr (2, [.ref jt, .ref je, .ref ju, .ref ja])), (jt, .inl (E.2.1 7, 8, .inr (.inr (.inr (.inr fto)))))]) C hT [0, 1, 2] rfl rfl rfl rfl rfl dX11_canBeIf_28 (Or.inr ⟨rfl, rfl, (PLN.no3 (by omega) hTu_12 (by omega))⟩)
    · have zc_13 : ((Su_12.2.2.2.2.2.2.2 : Nat) : Int) = 0 := i_eq (nI_toInt (n := Su_12.2.2.2.2.2.2.2) (by omega)) rfl c_13
      refine ww_iconst (v := 1) C dX11_canBeIf_23 rfl ?_
      refine ww_goto (tgt := 28) C dX11_canBeIf_24 (by decide) ?_
      exact ww_zret (u := [(hx, .inr (11, [.ref h, .ref qp, .int (nI ac), .int (nI np), .ref qs, .ref qj, .ref ly, .ref qh, .ref kk, .int (nI kc), .ref rd, .ref pg, .int (nI pe), .int kn, .ref ss])), (qj, .inr (2, [.ref jt, .ref je, .ref ju, .ref ja])), (jt, .inl (E.2.1 7, 8, .inr (.inr (.inr (.inr fto)))))]) C hT [0, 1, 2] rfl rfl rfl rfl rfl dX11_canBeIf_28 (Or.inl ⟨_, rfl, rfl, (by first | assumption | omega | decide), (by first | assumption | omega | decide), h_5, (PLN.mk (by omega) hTu_12 (by omega))⟩)
  · refine an2 hw ?_
    clear hw
    intro he_9 he_10 hw
    have h_8 := hw
    clear hw
    have he_9 := he_9.symm
    subst he_9
    subst he_10
    refine ww_eq (ws' := [(hx, .inr (11, [.ref h, .ref qp, .int (nI ac), .int (nI np), .ref qs, .ref qj, .ref ly, .ref qh, .ref kk, .int (nI kc), .ref rd, .ref pg, .int (nI pe), .int kn, .ref ss])), (qj, .inr (2, [.ref jt, .ref je, .ref ju, .ref ja])), (jt, .inl (E.2.1 7, 8, .inr (.inr (.inr (.inr fto)))))]) ?_ rfl rfl rfl
    refine ww_if_eq_t (tgt := 27) C dX11_canBeIf_5 (by decide) (rfl) ?_
    refine ww_iconst (v := 0) C dX11_canBeIf_27 rfl ?_
    exact ww_zret (u := [(hx, .inr (11, [.ref h, .ref qp, .int (nI ac), .int (nI np), .ref qs, .ref qj, .ref ly, .ref qh, .ref kk, .int (nI kc), .ref rd, .ref pg, .int (nI pe), .int kn, .ref ss])), (qj, .inr (2, [.ref jt, .ref je, .ref ju, .ref ja])), (jt, .inl (E.2.1 7, 8, .inr (.inr (.inr (.inr fto)))))]) C hT [0, 1, 2] rfl rfl rfl rfl rfl dX11_canBeIf_28 (Or.inr ⟨rfl, rfl, (PLN.tno hto h_8)⟩)
theorem dX11_saying_0 : decode cX11_saying 0 = .ok (.aload_n 0, 1) := by decide +kernel
theorem dX11_saying_1 : decode cX11_saying 1 = .ok (.iload_n 1, 1) := by decide +kernel
theorem dX11_saying_2 : decode cX11_saying 2 = .ok (.invokevirtual 98, 3) := by decide +kernel
theorem dX11_saying_5 : decode cX11_saying 5 = .ok (.ifCond .ne 5, 3) := by decide +kernel
theorem dX11_saying_10 : decode cX11_saying 10 = .ok (.iload_n 2, 1) := by decide +kernel
theorem dX11_saying_11 : decode cX11_saying 11 = .ok (.tableswitch 81 0 3 #[29, 42, 55, 68], 29) := by decide +kernel
theorem dX11_saying_40 : decode cX11_saying 40 = .ok (.aload_n 0, 1) := by decide +kernel
theorem dX11_saying_41 : decode cX11_saying 41 = .ok (.getfield 34, 3) := by decide +kernel
theorem dX11_saying_44 : decode cX11_saying 44 = .ok (.getfield 80, 3) := by decide +kernel
theorem dX11_saying_47 : decode cX11_saying 47 = .ok (.iload_n 1, 1) := by decide +kernel
theorem dX11_saying_48 : decode cX11_saying 48 = .ok (.aaload, 1) := by decide +kernel
theorem dX11_saying_49 : decode cX11_saying 49 = .ok (.getfield 181, 3) := by decide +kernel
theorem wf_X11_181 : Cond.fieldLink RX11 181 RX8 "tokens" "I" ∈ TB := tbm (tq3 (List.mem_of_getElem? (i := 161) (by decide +kernel))) (by decide +kernel)
theorem fg_X11_181 : FG RX11 181 8 2 := ⟨RX8, TX8, 7, uw_X8, wf_X11_181, rfl, by decide, rfl⟩
theorem dX11_saying_52 : decode cX11_saying 52 = .ok (.ireturn, 1) := by decide +kernel
theorem dX11_saying_53 : decode cX11_saying 53 = .ok (.aload_n 0, 1) := by decide +kernel
theorem dX11_saying_54 : decode cX11_saying 54 = .ok (.getfield 34, 3) := by decide +kernel
theorem dX11_saying_57 : decode cX11_saying 57 = .ok (.getfield 80, 3) := by decide +kernel
theorem dX11_saying_60 : decode cX11_saying 60 = .ok (.iload_n 1, 1) := by decide +kernel
theorem dX11_saying_61 : decode cX11_saying 61 = .ok (.aaload, 1) := by decide +kernel
theorem dX11_saying_62 : decode cX11_saying 62 = .ok (.getfield 101, 3) := by decide +kernel
theorem dX11_saying_65 : decode cX11_saying 65 = .ok (.ireturn, 1) := by decide +kernel
theorem dX11_saying_66 : decode cX11_saying 66 = .ok (.aload_n 0, 1) := by decide +kernel
theorem dX11_saying_67 : decode cX11_saying 67 = .ok (.getfield 34, 3) := by decide +kernel
theorem dX11_saying_70 : decode cX11_saying 70 = .ok (.getfield 80, 3) := by decide +kernel
theorem dX11_saying_73 : decode cX11_saying 73 = .ok (.iload_n 1, 1) := by decide +kernel
theorem dX11_saying_74 : decode cX11_saying 74 = .ok (.aaload, 1) := by decide +kernel
theorem dX11_saying_75 : decode cX11_saying 75 = .ok (.getfield 187, 3) := by decide +kernel
theorem wf_X11_187 : Cond.fieldLink RX11 187 RX8 "deep" "I" ∈ TB := tbm (tq3 (List.mem_of_getElem? (i := 169) (by decide +kernel))) (by decide +kernel)
theorem fg_X11_187 : FG RX11 187 8 5 := ⟨RX8, TX8, 7, uw_X8, wf_X11_187, rfl, by decide, rfl⟩
theorem dX11_saying_78 : decode cX11_saying 78 = .ok (.ireturn, 1) := by decide +kernel
theorem dX11_saying_79 : decode cX11_saying 79 = .ok (.aload_n 0, 1) := by decide +kernel
theorem dX11_saying_80 : decode cX11_saying 80 = .ok (.getfield 34, 3) := by decide +kernel
theorem dX11_saying_83 : decode cX11_saying 83 = .ok (.getfield 80, 3) := by decide +kernel
theorem dX11_saying_86 : decode cX11_saying 86 = .ok (.iload_n 1, 1) := by decide +kernel
theorem dX11_saying_87 : decode cX11_saying 87 = .ok (.aaload, 1) := by decide +kernel
theorem dX11_saying_88 : decode cX11_saying 88 = .ok (.getfield 190, 3) := by decide +kernel
theorem wf_X11_190 : Cond.fieldLink RX11 190 RX8 "names" "I" ∈ TB := tbm (tq3 (List.mem_of_getElem? (i := 171) (by decide +kernel))) (by decide +kernel)
theorem fg_X11_190 : FG RX11 190 8 6 := ⟨RX8, TX8, 7, uw_X8, wf_X11_190, rfl, by decide, rfl⟩
theorem dX11_saying_91 : decode cX11_saying 91 = .ok (.ireturn, 1) := by decide +kernel
theorem dX11_saying_92 : decode cX11_saying 92 = .ok (.iconst (-1), 1) := by decide +kernel
theorem dX11_saying_93 : decode cX11_saying 93 = .ok (.ireturn, 1) := by decide +kernel
theorem dX11_saying_8 : decode cX11_saying 8 = .ok (.iconst (-1), 1) := by decide +kernel
theorem dX11_saying_9 : decode cX11_saying 9 = .ok (.ireturn, 1) := by decide +kernel
set_option maxRecDepth 100000 in
set_option maxHeartbeats 4000000 in
theorem x_saying (l : Launch) (E : EV) (ro : va_W) (hx : Nat) (v0 : Int32) (v1 : Int32) (h : Nat) (qp : Nat) (ac : Nat) (np : Nat) (qs : Nat) (qj : Nat) (ly : Nat) (qh : Nat) (kk : Nat) (kc : Nat) (rd : Nat) (pg : Nat) (pe : Nat) (kn : Int32) (ss : Nat) (jt : Nat) (je : Nat) (ju : Nat) (ja : Nat) (fto : Nat → Option Nat) (tT : Nat → Option SVal) (hac : ac ≤ 8) (hnp : np < 8) (hkc : kc ≤ 4) (hpe : pe ≤ 4) (hto : SYT E ro 8 fto tT) : CT l yX11_saying (Cond.code yX11_saying cX11_saying 3 (some .int) :: TB) ({ frames := 2, cells := 0, slots := 0, locals := 43 }) E ro [.ref hx, .int v0, .int v1] [(hx, .inr (11, [.ref h, .ref qp, .int (nI ac), .int (nI np), .ref qs, .ref qj, .ref ly, .ref qh, .ref kk, .int (nI kc), .ref rd, .ref pg, .int (nI pe), .int kn, .ref ss])), (qj, .inr (2, [.ref jt, .ref je, .ref ju, .ref ja])), (jt, .inl (E.2.1 7, 8, .inr (.inr (.inr (.inr fto)))))] (Qi E (fun (rz : Int32) uz => (uz = [(hx, .inr (11, [.ref h, .ref qp, .int (nI ac), .int (nI np), .ref qs, .ref qj, .ref ly, .ref qh, .ref kk, .int (nI kc), .ref rd, .ref pg, .int (nI pe), .int kn, .ref ss])), (qj, .inr (2, [.ref jt, .ref je, .ref ju, .ref ja])), (jt, .inl (E.2.1 7, 8, .inr (.inr (.inr (.inr fto)))))]))) 0 0 := by
  refine ct_of rfl rfl ?_
  intro X C hT hin hro
  show WW X 3 E 0 [(0, .ref hx), (1, .int v0), (2, .int v1)] [] [(hx, .inr (11, [.ref h, .ref qp, .int (nI ac), .int (nI np), .ref qs, .ref qj, .ref ly, .ref qh, .ref kk, .int (nI kc), .ref rd, .ref pg, .int (nI pe), .int kn, .ref ss])), (qj, .inr (2, [.ref jt, .ref je, .ref ju, .ref ja])), (jt, .inl (E.2.1 7, 8, .inr (.inr (.inr (.inr fto)))))] 0 0
  refine ww_aload_n C dX11_saying_0 0 rfl rfl ?_
  refine ww_iload_n C dX11_saying_1 1 rfl rfl ?_
  refine ww_ci (wr := []) (k' := 0) (n' := 0) C (run_V (As := [.int v0]) (rest := []) C (x_isTold X.2.1 E ro hx v0 h qp ac np qs qj ly qh kk kc rd pg pe kn ss jt je ju ja fto tT (by omega) (by omega) (by omega) (by omega) hto) mi_X11_isTold wl_X11_98 rfl 0 11 rfl rfl rfl rfl rfl dX11_saying_2) (roK hro) [0, 1, 2] [] rfl rfl rfl rfl (fun r_1 uz hw => ?_)
  rcases hw with hw | hw
  · refine ex1 hw ?_
    clear hw
    intro aa_2 hw
    refine an4 hw ?_
    clear hw
    intro he_6 he_7 h_3 h_4 hw
    have h_5 := hw
    clear hw
    have he_6 := he_6.symm
    subst he_6
    subst he_7
    refine ww_eq (ws' := [(hx, .inr (11, [.ref h, .ref qp, .int (nI ac), .int (nI np), .ref qs, .ref qj, .ref ly, .ref qh, .ref kk, .int (nI kc), .ref rd, .ref pg, .int (nI pe), .int kn, .ref ss])), (qj, .inr (2, [.ref jt, .ref je, .ref ju, .ref ja])), (jt, .inl (E.2.1 7, 8, .inr (.inr (.inr (.inr fto)))))]) ?_ rfl rfl rfl
    refine ww_if_ne_t (tgt := 10) C dX11_saying_5 (by decide) (by decide) ?_
    obtain ⟨j_11, hj_11, rfl⟩ := i_nat (x := v0) (N := 7) (by omega) (by omega)
    have hzj_11 := nI_toInt (n := j_11) (by omega)
    obtain ⟨i0u_12, i1u_12, i2u_12, i3u_12, sxu_12, syu_12, szu_12, h0u_12, h1u_12, h2u_12, h3u_12, hwfu_12, hnau_12, hafu_12⟩ := id (SYT.v hto (by omega) (tn_at (by omega) h_5))
    refine ww_iload_n C dX11_saying_10 2 rfl rfl ?_
    by_cases c_13 : (0 : Int) ≤ v1.toInt ∧ v1.toInt ≤ 3
    · rcases sp_0_3 (x := v1) (by omega) (by omega) with rfl | rfl | rfl | rfl
      · refine ww_tableIn (tgt := 40) C dX11_saying_11 (by decide) (by decide) rfl (by decide) ?_
        refine ww_aload_n C dX11_saying_40 0 rfl rfl ?_
        refine ww_get C fg_X11_34 0 rfl rfl dX11_saying_41 ?_
        refine ww_get C fg_X11_80 1 rfl rfl dX11_saying_44 ?_
        refine ww_iload_n C dX11_saying_47 1 rfl rfl ?_
        refine ww_ald (v := (some aa_2)) (t0 := 7) C 2 rfl rfl (vp_in_nI (by omega) (by omega)) (ldn (by omega) (tn_at (by omega) h_5)) dX11_saying_48 ?_
        refine ww_eq (st' := [.ref aa_2]) ?_ rfl rfl rfl
        refine ww_getR C hro fg_X11_181 i0u_12 h0u_12 rfl dX11_saying_49 ?_
        exact ww_iret (u := [(hx, .inr (11, [.ref h, .ref qp, .int (nI ac), .int (nI np), .ref qs, .ref qj, .ref ly, .ref qh, .ref kk, .int (nI kc), .ref rd, .ref pg, .int (nI pe), .int kn, .ref ss])), (qj, .inr (2, [.ref jt, .ref je, .ref ju, .ref ja])), (jt, .inl (E.2.1 7, 8, .inr (.inr (.inr (.inr fto)))))]) C hT [0, 1, 2] rfl rfl rfl rfl dX11_saying_52 (rfl)
      · refine ww_tableIn (tgt := 53) C dX11_saying_11 (by decide) (by decide) rfl (by decide) ?_
        refine ww_aload_n C dX11_saying_53 0 rfl rfl ?_
        refine ww_get C fg_X11_34 0 rfl rfl dX11_saying_54 ?_
        refine ww_get C fg_X11_80 1 rfl rfl dX11_saying_57 ?_
        refine ww_iload_n C dX11_saying_60 1 rfl rfl ?_
        refine ww_ald (v := (some aa_2)) (t0 := 7) C 2 rfl rfl (vp_in_nI (by omega) (by omega)) (ldn (by omega) (tn_at (by omega) h_5)) dX11_saying_61 ?_
        refine ww_eq (st' := [.ref aa_2]) ?_ rfl rfl rfl
        refine ww_getR C hro fg_X11_101 i0u_12 h0u_12 rfl dX11_saying_62 ?_
        exact ww_iret (u := [(hx, .inr (11, [.ref h, .ref qp, .int (nI ac), .int (nI np), .ref qs, .ref qj, .ref ly, .ref qh, .ref kk, .int (nI kc), .ref rd, .ref pg, .int (nI pe), .int kn, .ref ss])), (qj, .inr (2, [.ref jt, .ref je, .ref ju, .ref ja])), (jt, .inl (E.2.1 7, 8, .inr (.inr (.inr (.inr fto)))))]) C hT [0, 1, 2] rfl rfl rfl rfl dX11_saying_65 (rfl)
      · refine ww_tableIn (tgt := 66) C dX11_saying_11 (by decide) (by decide) rfl (by decide) ?_
        refine ww_aload_n C dX11_saying_66 0 rfl rfl ?_
        refine ww_get C fg_X11_34 0 rfl rfl dX11_saying_67 ?_
        refine ww_get C fg_X11_80 1 rfl rfl dX11_saying_70 ?_
        refine ww_iload_n C dX11_saying_73 1 rfl rfl ?_
        refine ww_ald (v := (some aa_2)) (t0 := 7) C 2 rfl rfl (vp_in_nI (by omega) (by omega)) (ldn (by omega) (tn_at (by omega) h_5)) dX11_saying_74 ?_
        refine ww_eq (st' := [.ref aa_2]) ?_ rfl rfl rfl
        refine ww_getR C hro fg_X11_187 i0u_12 h0u_12 rfl dX11_saying_75 ?_
        exact ww_iret (u := [(hx, .inr (11, [.ref h, .ref qp, .int (nI ac), .int (nI np), .ref qs, .ref qj, .ref ly, .ref qh, .ref kk, .int (nI kc), .ref rd, .ref pg, .int (nI pe), .int kn, .ref ss])), (qj, .inr (2, [.ref jt, .ref je, .ref ju, .ref ja])), (jt, .inl (E.2.1 7, 8, .inr (.inr (.inr (.inr fto)))))]) C hT [0, 1, 2] rfl rfl rfl rfl dX11_saying_78 (rfl)
      · refine ww_tableIn (tgt := 79) C dX11_saying_11 (by decide) (by decide) rfl (by decide) ?_
        refine ww_aload_n C dX11_saying_79 0 rfl rfl ?_
        refine ww_get C fg_X11_34 0 rfl rfl dX11_saying_80 ?_
        refine ww_get C fg_X11_80 1 rfl rfl dX11_saying_83 ?_
        refine ww_iload_n C dX11_saying_86 1 rfl rfl ?_
        refine ww_ald (v := (some aa_2)) (t0 := 7) C 2 rfl rfl (vp_in_nI (by omega) (by omega)) (ldn (by omega) (tn_at (by omega) h_5)) dX11_saying_87 ?_
        refine ww_eq (st' := [.ref aa_2]) ?_ rfl rfl rfl
        refine ww_getR C hro fg_X11_190 i0u_12 h0u_12 rfl dX11_saying_88 ?_
        exact ww_iret (u := [(hx, .inr (11, [.ref h, .ref qp, .int (nI ac), .int (nI np), .ref qs, .ref qj, .ref ly, .ref qh, .ref kk, .int (nI kc), .ref rd, .ref pg, .int (nI pe), .int kn, .ref ss])), (qj, .inr (2, [.ref jt, .ref je, .ref ju, .ref ja])), (jt, .inl (E.2.1 7, 8, .inr (.inr (.inr (.inr fto)))))]) C hT [0, 1, 2] rfl rfl rfl rfl dX11_saying_91 (rfl)
    · refine ww_tableOut (tgt := 92) C dX11_saying_11 (by omega) (by decide) ?_
      refine ww_iconst (v := (-1)) C dX11_saying_92 rfl ?_
      exact ww_iret (u := [(hx, .inr (11, [.ref h, .ref qp, .int (nI ac), .int (nI np), .ref qs, .ref qj, .ref ly, .ref qh, .ref kk, .int (nI kc), .ref rd, .ref pg, .int (nI pe), .int kn, .ref ss])), (qj, .inr (2, [.ref jt, .ref je, .ref ju, .ref ja])), (jt, .inl (E.2.1 7, 8, .inr (.inr (.inr (.inr fto)))))]) C hT [0, 1, 2] rfl rfl rfl rfl dX11_saying_93 (rfl)
  · refine an2 hw ?_
    clear hw
    intro he_9 he_10 hw
    have h_8 := hw
    clear hw
    have he_9 := he_9.symm
    subst he_9
    subst he_10
    refine ww_eq (ws' := [(hx, .inr (11, [.ref h, .ref qp, .int (nI ac), .int (nI np), .ref qs, .ref qj, .ref ly, .ref qh, .ref kk, .int (nI kc), .ref rd, .ref pg, .int (nI pe), .int kn, .ref ss])), (qj, .inr (2, [.ref jt, .ref je, .ref ju, .ref ja])), (jt, .inl (E.2.1 7, 8, .inr (.inr (.inr (.inr fto)))))]) ?_ rfl rfl rfl
    refine ww_if_ne_f (tgt := 10) C dX11_saying_5 (by decide) (rfl) ?_
    refine ww_iconst (v := (-1)) C dX11_saying_8 rfl ?_
    exact ww_iret (u := [(hx, .inr (11, [.ref h, .ref qp, .int (nI ac), .int (nI np), .ref qs, .ref qj, .ref ly, .ref qh, .ref kk, .int (nI kc), .ref rd, .ref pg, .int (nI pe), .int kn, .ref ss])), (qj, .inr (2, [.ref jt, .ref je, .ref ju, .ref ja])), (jt, .inl (E.2.1 7, 8, .inr (.inr (.inr (.inr fto)))))]) C hT [0, 1, 2] rfl rfl rfl rfl dX11_saying_9 (rfl)
