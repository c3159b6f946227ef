theorem dX11_isEvent_0 : decode cX11_isEvent 0 = .ok (.iload_n 1, 1) := by decide +kernel
theorem dX11_isEvent_1 : decode cX11_isEvent 1 = .ok (.iconst 0, 1) := by decide +kernel
theorem dX11_isEvent_2 : decode cX11_isEvent 2 = .ok (.iconst 3, 1) := by decide +kernel
theorem dX11_isEvent_3 : decode cX11_isEvent 3 = .ok (.invokestatic 76, 3) := by decide +kernel
theorem dX11_isEvent_6 : decode cX11_isEvent 6 = .ok (.ifCond .eq 22, 3) := by decide +kernel
theorem dX11_isEvent_9 : decode cX11_isEvent 9 = .ok (.aload_n 0, 1) := by decide +kernel
theorem dX11_isEvent_10 : decode cX11_isEvent 10 = .ok (.getfield 34, 3) := by decide +kernel
theorem dX11_isEvent_13 : decode cX11_isEvent 13 = .ok (.getfield 84, 3) := by decide +kernel
theorem wf_X11_84 : Cond.fieldLink RX11 84 RX2 "events" "[LWhoKnows$Event;" ∈ TB := tbm (tq1 (List.mem_of_getElem? (i := 217) (by decide +kernel))) (by decide +kernel)
theorem fg_X11_84 : FG RX11 84 2 1 := ⟨RX2, TX2, 4, uw_X2, wf_X11_84, rfl, by decide, rfl⟩
theorem dX11_isEvent_16 : decode cX11_isEvent 16 = .ok (.iload_n 1, 1) := by decide +kernel
theorem dX11_isEvent_17 : decode cX11_isEvent 17 = .ok (.aaload, 1) := by decide +kernel
theorem dX11_isEvent_18 : decode cX11_isEvent 18 = .ok (.getfield 88, 3) := by decide +kernel
theorem wf_X11_88 : Cond.fieldLink RX11 88 RX0 "cases" "I" ∈ TB := tbm (tq1 (List.mem_of_getElem? (i := 152) (by decide +kernel))) (by decide +kernel)
theorem fg_X11_88 : FG RX11 88 0 0 := ⟨RX0, TX0, 6, uw_X0, wf_X11_88, rfl, by decide, rfl⟩
theorem dX11_isEvent_21 : decode cX11_isEvent 21 = .ok (.ifCond .le 7, 3) := by decide +kernel
theorem dX11_isEvent_28 : decode cX11_isEvent 28 = .ok (.iconst 0, 1) := by decide +kernel
theorem dX11_isEvent_29 : decode cX11_isEvent 29 = .ok (.ireturn, 1) := by decide +kernel
set_option maxRecDepth 100000 in
set_option maxHeartbeats 4000000 in
theorem c_isEvent (l : Launch) (E : EV) (hx : Nat) (p0 : Int32) (qn : Nat) (qp : Nat) (qs : Nat) (qj : Nat) (ql : Nat) (qh : Nat) (qk : Nat) (qr : Nat) (qg : Nat) (qsh : Nat) (jt : Nat) (je : Nat) (ju : Nat) (ja : Nat) (fe : Nat → Option Nat) (e0 : Nat) (e1 : Nat) (e2 : Nat) (e3 : Nat) (e0a : Nat) (e0b : Nat) (e0c : Nat) (e0d : Nat) (e1a : Nat) (e1b : Nat) (e1c : Nat) (e1d : Nat) (e2a : Nat) (e2b : Nat) (e2c : Nat) (e2d : Nat) (e3a : Nat) (e3b : Nat) (e3c : Nat) (e3d : Nat) (k_fe_0 : fe 0 = some e0) (k_fe_1 : fe 1 = some e1) (k_fe_2 : fe 2 = some e2) (k_fe_3 : fe 3 = some e3) : CT l yX11_isEvent (Cond.code yX11_isEvent cX11_isEvent 2 (some .boolean) :: TB) ({ frames := 1, cells := 0, slots := 0, locals := 22 }) E [.ref hx, .int p0] [(hx, .inr (11, [.ref qn, .ref qp, .int 0, .int 0, .ref qs, .ref qj, .ref ql, .ref qh, .ref qk, .int 0, .ref qr, .ref qg, .int 0, .int 0, .ref qsh])), (qj, .inr (2, [.ref jt, .ref je, .ref ju, .ref ja])), (je, .inl (E.2.1 4, 4, .inr (.inr (.inr (.inr fe))))), (e0, .inr (0, [.int 0, .int 0, .ref e0a, .ref e0b, .ref e0c, .ref e0d])), (e1, .inr (0, [.int 0, .int 0, .ref e1a, .ref e1b, .ref e1c, .ref e1d])), (e2, .inr (0, [.int 0, .int 0, .ref e2a, .ref e2b, .ref e2c, .ref e2d])), (e3, .inr (0, [.int 0, .int 0, .ref e3a, .ref e3b, .ref e3c, .ref e3d]))] (Qi E (fun (r : Int32) u => (r = 0 ∧ u = [(hx, .inr (11, [.ref qn, .ref qp, .int 0, .int 0, .ref qs, .ref qj, .ref ql, .ref qh, .ref qk, .int 0, .ref qr, .ref qg, .int 0, .int 0, .ref qsh])), (qj, .inr (2, [.ref jt, .ref je, .ref ju, .ref ja])), (je, .inl (E.2.1 4, 4, .inr (.inr (.inr (.inr fe))))), (e0, .inr (0, [.int 0, .int 0, .ref e0a, .ref e0b, .ref e0c, .ref e0d])), (e1, .inr (0, [.int 0, .int 0, .ref e1a, .ref e1b, .ref e1c, .ref e1d])), (e2, .inr (0, [.int 0, .int 0, .ref e2a, .ref e2b, .ref e2c, .ref e2d])), (e3, .inr (0, [.int 0, .int 0, .ref e3a, .ref e3b, .ref e3c, .ref e3d]))]))) 0 0 := by
  refine ct_of rfl rfl ?_
  intro X C hT hin
  show WW X 2 E 0 [(0, .ref hx), (1, .int p0)] [] [(hx, .inr (11, [.ref qn, .ref qp, .int 0, .int 0, .ref qs, .ref qj, .ref ql, .ref qh, .ref qk, .int 0, .ref qr, .ref qg, .int 0, .int 0, .ref qsh])), (qj, .inr (2, [.ref jt, .ref je, .ref ju, .ref ja])), (je, .inl (E.2.1 4, 4, .inr (.inr (.inr (.inr fe))))), (e0, .inr (0, [.int 0, .int 0, .ref e0a, .ref e0b, .ref e0c, .ref e0d])), (e1, .inr (0, [.int 0, .int 0, .ref e1a, .ref e1b, .ref e1c, .ref e1d])), (e2, .inr (0, [.int 0, .int 0, .ref e2a, .ref e2b, .ref e2c, .ref e2d])), (e3, .inr (0, [.int 0, .int 0, .ref e3a, .ref e3b, .ref e3c, .ref e3d]))] 0 0
  refine ww_iload_n C dX11_isEvent_0 1 rfl rfl ?_
  refine ww_iconst (v := 0) C dX11_isEvent_1 rfl ?_
  refine ww_iconst (v := 3) C dX11_isEvent_2 rfl ?_
  refine ww_ci (wr := [(hx, .inr (11, [.ref qn, .ref qp, .int 0, .int 0, .ref qs, .ref qj, .ref ql, .ref qh, .ref qk, .int 0, .ref qr, .ref qg, .int 0, .int 0, .ref qsh])), (qj, .inr (2, [.ref jt, .ref je, .ref ju, .ref ja])), (je, .inl (E.2.1 4, 4, .inr (.inr (.inr (.inr fe))))), (e0, .inr (0, [.int 0, .int 0, .ref e0a, .ref e0b, .ref e0c, .ref e0d])), (e1, .inr (0, [.int 0, .int 0, .ref e1a, .ref e1b, .ref e1c, .ref e1d])), (e2, .inr (0, [.int 0, .int 0, .ref e2a, .ref e2b, .ref e2c, .ref e2d])), (e3, .inr (0, [.int 0, .int 0, .ref e3a, .ref e3b, .ref e3c, .ref e3d]))]) (k' := 0) (n' := 0) C (run_S (As := [.int p0, .int 0, .int 3]) (rest := []) C (c_within X.2.1 E p0 0 3 p0.toInt 0 3 rfl rfl rfl) ms_X11_within wl_X11_76 rfl rfl rfl rfl dX11_isEvent_3) [] [0, 1, 2, 3, 4, 5, 6] rfl rfl rfl rfl (fun r u hw => ?_)
  rcases hw with ⟨rfl, rfl, h_1, h_2⟩ | ⟨rfl, rfl, h_3⟩
  · refine ww_eq (ws' := [(hx, .inr (11, [.ref qn, .ref qp, .int 0, .int 0, .ref qs, .ref qj, .ref ql, .ref qh, .ref qk, .int 0, .ref qr, .ref qg, .int 0, .int 0, .ref qsh])), (qj, .inr (2, [.ref jt, .ref je, .ref ju, .ref ja])), (je, .inl (E.2.1 4, 4, .inr (.inr (.inr (.inr fe))))), (e0, .inr (0, [.int 0, .int 0, .ref e0a, .ref e0b, .ref e0c, .ref e0d])), (e1, .inr (0, [.int 0, .int 0, .ref e1a, .ref e1b, .ref e1c, .ref e1d])), (e2, .inr (0, [.int 0, .int 0, .ref e2a, .ref e2b, .ref e2c, .ref e2d])), (e3, .inr (0, [.int 0, .int 0, .ref e3a, .ref e3b, .ref e3c, .ref e3d]))]) ?_ rfl rfl rfl
    refine ww_if_eq_f (tgt := 28) C dX11_isEvent_6 (by decide) (by decide) ?_
    refine ww_aload_n C dX11_isEvent_9 0 rfl rfl ?_
    refine ww_get C fg_X11_34 0 rfl rfl dX11_isEvent_10 ?_
    refine ww_get C fg_X11_84 1 rfl rfl dX11_isEvent_13 ?_
    rcases sp_0_3 (x := p0) (by omega) (by omega) with rfl | rfl | rfl | rfl
    · refine ww_iload_n C dX11_isEvent_16 1 rfl rfl ?_
      refine ww_ald (v := (some e0)) (t0 := 4) C 2 rfl rfl (vin rfl) k_fe_0 dX11_isEvent_17 ?_
      refine ww_eq (st' := [.ref e0]) ?_ rfl rfl rfl
      refine ww_get C fg_X11_88 3 rfl rfl dX11_isEvent_18 ?_
      refine ww_if_le_t (tgt := 28) C dX11_isEvent_21 (by decide) (by decide) ?_
      refine ww_iconst (v := 0) C dX11_isEvent_28 rfl ?_
      exact ww_zret (u := [(hx, .inr (11, [.ref qn, .ref qp, .int 0, .int 0, .ref qs, .ref qj, .ref ql, .ref qh, .ref qk, .int 0, .ref qr, .ref qg, .int 0, .int 0, .ref qsh])), (qj, .inr (2, [.ref jt, .ref je, .ref ju, .ref ja])), (je, .inl (E.2.1 4, 4, .inr (.inr (.inr (.inr fe))))), (e0, .inr (0, [.int 0, .int 0, .ref e0a, .ref e0b, .ref e0c, .ref e0d])), (e1, .inr (0, [.int 0, .int 0, .ref e1a, .ref e1b, .ref e1c, .ref e1d])), (e2, .inr (0, [.int 0, .int 0, .ref e2a, .ref e2b, .ref e2c, .ref e2d])), (e3, .inr (0, [.int 0, .int 0, .ref e3a, .ref e3b, .ref e3c, .ref e3d]))]) C hT [0, 1, 2, 3, 4, 5, 6] rfl rfl rfl rfl rfl dX11_isEvent_29 (⟨rfl, rfl⟩)
    · refine ww_iload_n C dX11_isEvent_16 1 rfl rfl ?_
      refine ww_ald (v := (some e1)) (t0 := 4) C 2 rfl rfl (vin rfl) k_fe_1 dX11_isEvent_17 ?_
      refine ww_eq (st' := [.ref e1]) ?_ rfl rfl rfl
      refine ww_get C fg_X11_88 4 rfl rfl dX11_isEvent_18 ?_
      refine ww_if_le_t (tgt := 28) C dX11_isEvent_21 (by decide) (by decide) ?_
      refine ww_iconst (v := 0) C dX11_isEvent_28 rfl ?_
      exact ww_zret (u := [(hx, .inr (11, [.ref qn, .ref qp, .int 0, .int 0, .ref qs, .ref qj, .ref ql, .ref qh, .ref qk, .int 0, .ref qr, .ref qg, .int 0, .int 0, .ref qsh])), (qj, .inr (2, [.ref jt, .ref je, .ref ju, .ref ja])), (je, .inl (E.2.1 4, 4, .inr (.inr (.inr (.inr fe))))), (e0, .inr (0, [.int 0, .int 0, .ref e0a, .ref e0b, .ref e0c, .ref e0d])), (e1, .inr (0, [.int 0, .int 0, .ref e1a, .ref e1b, .ref e1c, .ref e1d])), (e2, .inr (0, [.int 0, .int 0, .ref e2a, .ref e2b, .ref e2c, .ref e2d])), (e3, .inr (0, [.int 0, .int 0, .ref e3a, .ref e3b, .ref e3c, .ref e3d]))]) C hT [0, 1, 2, 3, 4, 5, 6] rfl rfl rfl rfl rfl dX11_isEvent_29 (⟨rfl, rfl⟩)
    · refine ww_iload_n C dX11_isEvent_16 1 rfl rfl ?_
      refine ww_ald (v := (some e2)) (t0 := 4) C 2 rfl rfl (vin rfl) k_fe_2 dX11_isEvent_17 ?_
      refine ww_eq (st' := [.ref e2]) ?_ rfl rfl rfl
      refine ww_get C fg_X11_88 5 rfl rfl dX11_isEvent_18 ?_
      refine ww_if_le_t (tgt := 28) C dX11_isEvent_21 (by decide) (by decide) ?_
      refine ww_iconst (v := 0) C dX11_isEvent_28 rfl ?_
      exact ww_zret (u := [(hx, .inr (11, [.ref qn, .ref qp, .int 0, .int 0, .ref qs, .ref qj, .ref ql, .ref qh, .ref qk, .int 0, .ref qr, .ref qg, .int 0, .int 0, .ref qsh])), (qj, .inr (2, [.ref jt, .ref je, .ref ju, .ref ja])), (je, .inl (E.2.1 4, 4, .inr (.inr (.inr (.inr fe))))), (e0, .inr (0, [.int 0, .int 0, .ref e0a, .ref e0b, .ref e0c, .ref e0d])), (e1, .inr (0, [.int 0, .int 0, .ref e1a, .ref e1b, .ref e1c, .ref e1d])), (e2, .inr (0, [.int 0, .int 0, .ref e2a, .ref e2b, .ref e2c, .ref e2d])), (e3, .inr (0, [.int 0, .int 0, .ref e3a, .ref e3b, .ref e3c, .ref e3d]))]) C hT [0, 1, 2, 3, 4, 5, 6] rfl rfl rfl rfl rfl dX11_isEvent_29 (⟨rfl, rfl⟩)
    · refine ww_iload_n C dX11_isEvent_16 1 rfl rfl ?_
      refine ww_ald (v := (some e3)) (t0 := 4) C 2 rfl rfl (vin rfl) k_fe_3 dX11_isEvent_17 ?_
      refine ww_eq (st' := [.ref e3]) ?_ rfl rfl rfl
      refine ww_get C fg_X11_88 6 rfl rfl dX11_isEvent_18 ?_
      refine ww_if_le_t (tgt := 28) C dX11_isEvent_21 (by decide) (by decide) ?_
      refine ww_iconst (v := 0) C dX11_isEvent_28 rfl ?_
      exact ww_zret (u := [(hx, .inr (11, [.ref qn, .ref qp, .int 0, .int 0, .ref qs, .ref qj, .ref ql, .ref qh, .ref qk, .int 0, .ref qr, .ref qg, .int 0, .int 0, .ref qsh])), (qj, .inr (2, [.ref jt, .ref je, .ref ju, .ref ja])), (je, .inl (E.2.1 4, 4, .inr (.inr (.inr (.inr fe))))), (e0, .inr (0, [.int 0, .int 0, .ref e0a, .ref e0b, .ref e0c, .ref e0d])), (e1, .inr (0, [.int 0, .int 0, .ref e1a, .ref e1b, .ref e1c, .ref e1d])), (e2, .inr (0, [.int 0, .int 0, .ref e2a, .ref e2b, .ref e2c, .ref e2d])), (e3, .inr (0, [.int 0, .int 0, .ref e3a, .ref e3b, .ref e3c, .ref e3d]))]) C hT [0, 1, 2, 3, 4, 5, 6] rfl rfl rfl rfl rfl dX11_isEvent_29 (⟨rfl, rfl⟩)
  · refine ww_eq (ws' := [(hx, .inr (11, [.ref qn, .ref qp, .int 0, .int 0, .ref qs, .ref qj, .ref ql, .ref qh, .ref qk, .int 0, .ref qr, .ref qg, .int 0, .int 0, .ref qsh])), (qj, .inr (2, [.ref jt, .ref je, .ref ju, .ref ja])), (je, .inl (E.2.1 4, 4, .inr (.inr (.inr (.inr fe))))), (e0, .inr (0, [.int 0, .int 0, .ref e0a, .ref e0b, .ref e0c, .ref e0d])), (e1, .inr (0, [.int 0, .int 0, .ref e1a, .ref e1b, .ref e1c, .ref e1d])), (e2, .inr (0, [.int 0, .int 0, .ref e2a, .ref e2b, .ref e2c, .ref e2d])), (e3, .inr (0, [.int 0, .int 0, .ref e3a, .ref e3b, .ref e3c, .ref e3d]))]) ?_ rfl rfl rfl
    refine ww_if_eq_t (tgt := 28) C dX11_isEvent_6 (by decide) (rfl) ?_
    refine ww_iconst (v := 0) C dX11_isEvent_28 rfl ?_
    exact ww_zret (u := [(hx, .inr (11, [.ref qn, .ref qp, .int 0, .int 0, .ref qs, .ref qj, .ref ql, .ref qh, .ref qk, .int 0, .ref qr, .ref qg, .int 0, .int 0, .ref qsh])), (qj, .inr (2, [.ref jt, .ref je, .ref ju, .ref ja])), (je, .inl (E.2.1 4, 4, .inr (.inr (.inr (.inr fe))))), (e0, .inr (0, [.int 0, .int 0, .ref e0a, .ref e0b, .ref e0c, .ref e0d])), (e1, .inr (0, [.int 0, .int 0, .ref e1a, .ref e1b, .ref e1c, .ref e1d])), (e2, .inr (0, [.int 0, .int 0, .ref e2a, .ref e2b, .ref e2c, .ref e2d])), (e3, .inr (0, [.int 0, .int 0, .ref e3a, .ref e3b, .ref e3c, .ref e3d]))]) C hT [0, 1, 2, 3, 4, 5, 6] rfl rfl rfl rfl rfl dX11_isEvent_29 (⟨rfl, rfl⟩)
theorem dX11_isCase_0 : decode cX11_isCase 0 = .ok (.aload_n 0, 1) := by decide +kernel
theorem dX11_isCase_1 : decode cX11_isCase 1 = .ok (.iload_n 1, 1) := by decide +kernel
theorem dX11_isCase_2 : decode cX11_isCase 2 = .ok (.invokevirtual 94, 3) := by decide +kernel
theorem wl_X11_94 : Cond.methodLink RX11 94 yX11_isEvent ∈ TB := tbm (tq4 (List.mem_of_getElem? (i := 67) (by decide +kernel))) (by decide +kernel)
theorem wc_X11_isEvent : Cond.code yX11_isEvent cX11_isEvent 2 (some .boolean) ∈ TB := tbm (tq4 (List.mem_of_getElem? (i := 70) (rfl))) (by decide +kernel)
theorem wi_X11_isEvent : Cond.instanceMethod yX11_isEvent ∈ TB := tbm (tq4 (List.mem_of_getElem? (i := 69) (by decide +kernel))) (by decide +kernel)
theorem ws_X11_isEvent : Cond.selects RX11 yX11_isEvent yX11_isEvent ∈ TB := tbm (tq0 (List.mem_of_getElem? (i := 23) (by decide +kernel))) (by decide +kernel)
theorem mi_X11_isEvent : MI yX11_isEvent cX11_isEvent 2 (some .boolean) 1 := ⟨wc_X11_isEvent, wn_X11, ⟨by decide +kernel, by decide +kernel, by decide +kernel⟩, wi_X11_isEvent, ws_X11_isEvent⟩
theorem dX11_isCase_5 : decode cX11_isCase 5 = .ok (.ifCond .eq 29, 3) := by decide +kernel
theorem dX11_isCase_34 : decode cX11_isCase 34 = .ok (.iconst 0, 1) := by decide +kernel
theorem dX11_isCase_35 : decode cX11_isCase 35 = .ok (.ireturn, 1) := by decide +kernel
set_option maxRecDepth 100000 in
set_option maxHeartbeats 4000000 in
theorem c_isCase (l : Launch) (E : EV) (hx : Nat) (p0 : Int32) (p1 : Int32) (qn : Nat) (qp : Nat) (qs : Nat) (qj : Nat) (ql : Nat) (qh : Nat) (qk : Nat) (qr : Nat) (qg : Nat) (qsh : Nat) (jt : Nat) (je : Nat) (ju : Nat) (ja : Nat) (fe : Nat → Option Nat) (e0 : Nat) (e1 : Nat) (e2 : Nat) (e3 : Nat) (e0a : Nat) (e0b : Nat) (e0c : Nat) (e0d : Nat) (e1a : Nat) (e1b : Nat) (e1c : Nat) (e1d : Nat) (e2a : Nat) (e2b : Nat) (e2c : Nat) (e2d : Nat) (e3a : Nat) (e3b : Nat) (e3c : Nat) (e3d : Nat) (k_fe_0 : fe 0 = some e0) (k_fe_1 : fe 1 = some e1) (k_fe_2 : fe 2 = some e2) (k_fe_3 : fe 3 = some e3) : CT l yX11_isCase (Cond.code yX11_isCase cX11_isCase 3 (some .boolean) :: TB) ({ frames := 2, cells := 0, slots := 0, locals := 43 }) E [.ref hx, .int p0, .int p1] [(hx, .inr (11, [.ref qn, .ref qp, .int 0, .int 0, .ref qs, .ref qj, .ref ql, .ref qh, .ref qk, .int 0, .ref qr, .ref qg, .int 0, .int 0, .ref qsh])), (qj, .inr (2, [.ref jt, .ref je, .ref ju, .ref ja])), (je, .inl (E.2.1 4, 4, .inr (.inr (.inr (.inr fe))))), (e0, .inr (0, [.int 0, .int 0, .ref e0a, .ref e0b, .ref e0c, .ref e0d])), (e1, .inr (0, [.int 0, .int 0, .ref e1a, .ref e1b, .ref e1c, .ref e1d])), (e2, .inr (0, [.int 0, .int 0, .ref e2a, .ref e2b, .ref e2c, .ref e2d])), (e3, .inr (0, [.int 0, .int 0, .ref e3a, .ref e3b, .ref e3c, .ref e3d]))] (Qi E (fun (r : Int32) u => (r = 0 ∧ u = [(hx, .inr (11, [.ref qn, .ref qp, .int 0, .int 0, .ref qs, .ref qj, .ref ql, .ref qh, .ref qk, .int 0, .ref qr, .ref qg, .int 0, .int 0, .ref qsh])), (qj, .inr (2, [.ref jt, .ref je, .ref ju, .ref ja])), (je, .inl (E.2.1 4, 4, .inr (.inr (.inr (.inr fe))))), (e0, .inr (0, [.int 0, .int 0, .ref e0a, .ref e0b, .ref e0c, .ref e0d])), (e1, .inr (0, [.int 0, .int 0, .ref e1a, .ref e1b, .ref e1c, .ref e1d])), (e2, .inr (0, [.int 0, .int 0, .ref e2a, .ref e2b, .ref e2c, .ref e2d])), (e3, .inr (0, [.int 0, .int 0, .ref e3a, .ref e3b, .ref e3c, .ref e3d]))]))) 0 0 := by
  refine ct_of rfl rfl ?_
  intro X C hT hin
  show WW X 3 E 0 [(0, .ref hx), (1, .int p0), (2, .int p1)] [] [(hx, .inr (11, [.ref qn, .ref qp, .int 0, .int 0, .ref qs, .ref qj, .ref ql, .ref qh, .ref qk, .int 0, .ref qr, .ref qg, .int 0, .int 0, .ref qsh])), (qj, .inr (2, [.ref jt, .ref je, .ref ju, .ref ja])), (je, .inl (E.2.1 4, 4, .inr (.inr (.inr (.inr fe))))), (e0, .inr (0, [.int 0, .int 0, .ref e0a, .ref e0b, .ref e0c, .ref e0d])), (e1, .inr (0, [.int 0, .int 0, .ref e1a, .ref e1b, .ref e1c, .ref e1d])), (e2, .inr (0, [.int 0, .int 0, .ref e2a, .ref e2b, .ref e2c, .ref e2d])), (e3, .inr (0, [.int 0, .int 0, .ref e3a, .ref e3b, .ref e3c, .ref e3d]))] 0 0
  refine ww_aload_n C dX11_isCase_0 0 rfl rfl ?_
  refine ww_iload_n C dX11_isCase_1 1 rfl rfl ?_
  refine ww_ci (wr := []) (k' := 0) (n' := 0) C (run_V (As := [.int p0]) (rest := []) C (c_isEvent X.2.1 E hx p0 qn qp qs qj ql qh qk qr qg qsh jt je ju ja fe e0 e1 e2 e3 e0a e0b e0c e0d e1a e1b e1c e1d e2a e2b e2c e2d e3a e3b e3c e3d k_fe_0 k_fe_1 k_fe_2 k_fe_3) mi_X11_isEvent wl_X11_94 rfl 0 11 rfl rfl rfl rfl rfl dX11_isCase_2) [0, 1, 2, 3, 4, 5, 6] [] rfl rfl rfl rfl (fun r u hw => ?_)
  obtain ⟨rfl, rfl⟩ := hw
  refine ww_eq (ws' := [(hx, .inr (11, [.ref qn, .ref qp, .int 0, .int 0, .ref qs, .ref qj, .ref ql, .ref qh, .ref qk, .int 0, .ref qr, .ref qg, .int 0, .int 0, .ref qsh])), (qj, .inr (2, [.ref jt, .ref je, .ref ju, .ref ja])), (je, .inl (E.2.1 4, 4, .inr (.inr (.inr (.inr fe))))), (e0, .inr (0, [.int 0, .int 0, .ref e0a, .ref e0b, .ref e0c, .ref e0d])), (e1, .inr (0, [.int 0, .int 0, .ref e1a, .ref e1b, .ref e1c, .ref e1d])), (e2, .inr (0, [.int 0, .int 0, .ref e2a, .ref e2b, .ref e2c, .ref e2d])), (e3, .inr (0, [.int 0, .int 0, .ref e3a, .ref e3b, .ref e3c, .ref e3d]))]) ?_ rfl rfl rfl
  refine ww_if_eq_t (tgt := 34) C dX11_isCase_5 (by decide) (rfl) ?_
  refine ww_iconst (v := 0) C dX11_isCase_34 rfl ?_
  exact ww_zret (u := [(hx, .inr (11, [.ref qn, .ref qp, .int 0, .int 0, .ref qs, .ref qj, .ref ql, .ref qh, .ref qk, .int 0, .ref qr, .ref qg, .int 0, .int 0, .ref qsh])), (qj, .inr (2, [.ref jt, .ref je, .ref ju, .ref ja])), (je, .inl (E.2.1 4, 4, .inr (.inr (.inr (.inr fe))))), (e0, .inr (0, [.int 0, .int 0, .ref e0a, .ref e0b, .ref e0c, .ref e0d])), (e1, .inr (0, [.int 0, .int 0, .ref e1a, .ref e1b, .ref e1c, .ref e1d])), (e2, .inr (0, [.int 0, .int 0, .ref e2a, .ref e2b, .ref e2c, .ref e2d])), (e3, .inr (0, [.int 0, .int 0, .ref e3a, .ref e3b, .ref e3c, .ref e3d]))]) C hT [0, 1, 2, 3, 4, 5, 6] rfl rfl rfl rfl rfl dX11_isCase_35 (⟨rfl, rfl⟩)
theorem dX11_canBeIf_0 : decode cX11_canBeIf 0 = .ok (.aload_n 0, 1) := by decide +kernel
theorem dX11_canBeIf_1 : decode cX11_canBeIf 1 = .ok (.iload_n 1, 1) := by decide +kernel
theorem dX11_canBeIf_2 : decode cX11_canBeIf 2 = .ok (.invokevirtual 98, 3) := by decide +kernel
theorem dX11_canBeIf_5 : decode cX11_canBeIf 5 = .ok (.ifCond .eq 22, 3) := by decide +kernel
theorem dX11_canBeIf_27 : decode cX11_canBeIf 27 = .ok (.iconst 0, 1) := by decide +kernel
theorem dX11_canBeIf_28 : decode cX11_canBeIf 28 = .ok (.ireturn, 1) := by decide +kernel
set_option maxRecDepth 100000 in
set_option maxHeartbeats 4000000 in
theorem c_canBeIf (l : Launch) (E : EV) (hx : Nat) (p0 : Int32) (qn : Nat) (qp : Nat) (qs : Nat) (qj : Nat) (ql : Nat) (qh : Nat) (qk : Nat) (qr : Nat) (qg : Nat) (qsh : Nat) (jt : Nat) (je : Nat) (ju : Nat) (ja : Nat)  : CT l yX11_canBeIf (Cond.code yX11_canBeIf cX11_canBeIf 2 (some .boolean) :: TB) ({ frames := 2, cells := 0, slots := 0, locals := 43 }) E [.ref hx, .int p0] [(hx, .inr (11, [.ref qn, .ref qp, .int 0, .int 0, .ref qs, .ref qj, .ref ql, .ref qh, .ref qk, .int 0, .ref qr, .ref qg, .int 0, .int 0, .ref qsh])), (qj, .inr (2, [.ref jt, .ref je, .ref ju, .ref ja])), (jt, .inl (E.2.1 7, 8, .inr (.inr (.inr (.inr (fun _ => none))))))] (Qi E (fun (r : Int32) u => (r = 0 ∧ u = [(hx, .inr (11, [.ref qn, .ref qp, .int 0, .int 0, .ref qs, .ref qj, .ref ql, .ref qh, .ref qk, .int 0, .ref qr, .ref qg, .int 0, .int 0, .ref qsh])), (qj, .inr (2, [.ref jt, .ref je, .ref ju, .ref ja])), (jt, .inl (E.2.1 7, 8, .inr (.inr (.inr (.inr (fun _ => none))))))]))) 0 0 := by
  refine ct_of rfl rfl ?_
  intro X C hT hin
  show WW X 2 E 0 [(0, .ref hx), (1, .int p0)] [] [(hx, .inr (11, [.ref qn, .ref qp, .int 0, .int 0, .ref qs, .ref qj, .ref ql, .ref qh, .ref qk, .int 0, .ref qr, .ref qg, .int 0, .int 0, .ref qsh])), (qj, .inr (2, [.ref jt, .ref je, .ref ju, .ref ja])), (jt, .inl (E.2.1 7, 8, .inr (.inr (.inr (.inr (fun _ => none))))))] 0 0
  refine ww_aload_n C dX11_canBeIf_0 0 rfl rfl ?_
  refine ww_iload_n C dX11_canBeIf_1 1 rfl rfl ?_
  refine ww_ci (wr := []) (k' := 0) (n' := 0) C (run_V (As := [.int p0]) (rest := []) C (c_isTold X.2.1 E hx p0 qn qp qs qj ql qh qk qr qg qsh jt je ju ja) mi_X11_isTold wl_X11_98 rfl 0 11 rfl rfl rfl rfl rfl dX11_canBeIf_2) [0, 1, 2] [] rfl rfl rfl rfl (fun r u hw => ?_)
  obtain ⟨rfl, rfl⟩ := hw
  refine ww_eq (ws' := [(hx, .inr (11, [.ref qn, .ref qp, .int 0, .int 0, .ref qs, .ref qj, .ref ql, .ref qh, .ref qk, .int 0, .ref qr, .ref qg, .int 0, .int 0, .ref qsh])), (qj, .inr (2, [.ref jt, .ref je, .ref ju, .ref ja])), (jt, .inl (E.2.1 7, 8, .inr (.inr (.inr (.inr (fun _ => none))))))]) ?_ rfl rfl rfl
  refine ww_if_eq_t (tgt := 27) C dX11_canBeIf_5 (by decide) (rfl) ?_
  refine ww_iconst (v := 0) C dX11_canBeIf_27 rfl ?_
  exact ww_zret (u := [(hx, .inr (11, [.ref qn, .ref qp, .int 0, .int 0, .ref qs, .ref qj, .ref ql, .ref qh, .ref qk, .int 0, .ref qr, .ref qg, .int 0, .int 0, .ref qsh])), (qj, .inr (2, [.ref jt, .ref je, .ref ju, .ref ja])), (jt, .inl (E.2.1 7, 8, .inr (.inr (.inr (.inr (fun _ => none))))))]) C hT [0, 1, 2] rfl rfl rfl rfl rfl dX11_canBeIf_28 (⟨rfl, rfl⟩)
theorem dX0_begin_0 : decode cX0_begin 0 = .ok (.aload_n 0, 1) := by decide +kernel
theorem dX0_begin_1 : decode cX0_begin 1 = .ok (.iload_n 1, 1) := by decide +kernel
theorem dX0_begin_2 : decode cX0_begin 2 = .ok (.putfield 27, 3) := by decide +kernel
theorem wf_X0_27 : Cond.fieldLink RX0 27 RX0 "cases" "I" ∈ TB := tbm (tq1 (List.mem_of_getElem? (i := 150) (by decide +kernel))) (by decide +kernel)
theorem fp_X0_27 : FP RX0 27 0 0 .int false := ⟨RX0, TX0, 6, tyX0, uw_X0, wf_X0_27, rfl, by decide, rfl, tyX0_ok, nmX0, rfl, by decide +kernel⟩
theorem dX0_begin_5 : decode cX0_begin 5 = .ok (.aload_n 0, 1) := by decide +kernel
theorem dX0_begin_6 : decode cX0_begin 6 = .ok (.iconst 0, 1) := by decide +kernel
theorem dX0_begin_7 : decode cX0_begin 7 = .ok (.putfield 31, 3) := by decide +kernel
theorem wf_X0_31 : Cond.fieldLink RX0 31 RX0 "realCase" "I" ∈ TB := tbm (tq1 (List.mem_of_getElem? (i := 153) (by decide +kernel))) (by decide +kernel)
theorem fp_X0_31 : FP RX0 31 0 1 .int false := ⟨RX0, TX0, 6, tyX0, uw_X0, wf_X0_31, rfl, by decide, rfl, tyX0_ok, nmX0, rfl, by decide +kernel⟩
theorem dX0_begin_10 : decode cX0_begin 10 = .ok (.iconst 0, 1) := by decide +kernel
theorem dX0_begin_11 : decode cX0_begin 11 = .ok (.istore_n 2, 1) := by decide +kernel
theorem dX0_begin_12 : decode cX0_begin 12 = .ok (.iload_n 2, 1) := by decide +kernel
theorem dX0_begin_13 : decode cX0_begin 13 = .ok (.iconst 4, 1) := by decide +kernel
theorem dX0_begin_14 : decode cX0_begin 14 = .ok (.if_icmp .ge 30, 3) := by decide +kernel
theorem dX0_begin_17 : decode cX0_begin 17 = .ok (.aload_n 0, 1) := by decide +kernel
theorem dX0_begin_18 : decode cX0_begin 18 = .ok (.getfield 11, 3) := by decide +kernel
theorem fg_X0_11 : FG RX0 11 0 2 := ⟨RX0, TX0, 6, uw_X0, wf_X0_11, rfl, by decide, rfl⟩
theorem dX0_begin_21 : decode cX0_begin 21 = .ok (.iload_n 2, 1) := by decide +kernel
theorem dX0_begin_22 : decode cX0_begin 22 = .ok (.aconst_null, 1) := by decide +kernel
theorem dX0_begin_23 : decode cX0_begin 23 = .ok (.aastore, 1) := by decide +kernel
theorem dX0_begin_24 : decode cX0_begin 24 = .ok (.aload_n 0, 1) := by decide +kernel
theorem dX0_begin_25 : decode cX0_begin 25 = .ok (.getfield 17, 3) := by decide +kernel
theorem fg_X0_17 : FG RX0 17 0 3 := ⟨RX0, TX0, 6, uw_X0, wf_X0_17, rfl, by decide, rfl⟩
theorem dX0_begin_28 : decode cX0_begin 28 = .ok (.iload_n 2, 1) := by decide +kernel
theorem dX0_begin_29 : decode cX0_begin 29 = .ok (.iconst 0, 1) := by decide +kernel
theorem dX0_begin_30 : decode cX0_begin 30 = .ok (.iastore, 1) := by decide +kernel
theorem dX0_begin_31 : decode cX0_begin 31 = .ok (.aload_n 0, 1) := by decide +kernel
theorem dX0_begin_32 : decode cX0_begin 32 = .ok (.getfield 21, 3) := by decide +kernel
theorem fg_X0_21 : FG RX0 21 0 4 := ⟨RX0, TX0, 6, uw_X0, wf_X0_21, rfl, by decide, rfl⟩
theorem dX0_begin_35 : decode cX0_begin 35 = .ok (.iload_n 2, 1) := by decide +kernel
theorem dX0_begin_36 : decode cX0_begin 36 = .ok (.iconst 0, 1) := by decide +kernel
theorem dX0_begin_37 : decode cX0_begin 37 = .ok (.iastore, 1) := by decide +kernel
theorem dX0_begin_38 : decode cX0_begin 38 = .ok (.iinc 2 1, 3) := by decide +kernel
theorem dX0_begin_41 : decode cX0_begin 41 = .ok (.goto (-29), 3) := by decide +kernel
theorem dX0_begin_44 : decode cX0_begin 44 = .ok (.iconst 0, 1) := by decide +kernel
theorem dX0_begin_45 : decode cX0_begin 45 = .ok (.istore_n 2, 1) := by decide +kernel
theorem dX0_begin_46 : decode cX0_begin 46 = .ok (.iload_n 2, 1) := by decide +kernel
theorem dX0_begin_47 : decode cX0_begin 47 = .ok (.aload_n 0, 1) := by decide +kernel
theorem dX0_begin_48 : decode cX0_begin 48 = .ok (.getfield 24, 3) := by decide +kernel
theorem fg_X0_24 : FG RX0 24 0 5 := ⟨RX0, TX0, 6, uw_X0, wf_X0_24, rfl, by decide, rfl⟩
theorem dX0_begin_51 : decode cX0_begin 51 = .ok (.arraylength, 1) := by decide +kernel
theorem dX0_begin_52 : decode cX0_begin 52 = .ok (.if_icmp .ge 16, 3) := by decide +kernel
theorem dX0_begin_55 : decode cX0_begin 55 = .ok (.aload_n 0, 1) := by decide +kernel
theorem dX0_begin_56 : decode cX0_begin 56 = .ok (.getfield 24, 3) := by decide +kernel
theorem dX0_begin_59 : decode cX0_begin 59 = .ok (.iload_n 2, 1) := by decide +kernel
theorem dX0_begin_60 : decode cX0_begin 60 = .ok (.iconst 0, 1) := by decide +kernel
theorem dX0_begin_61 : decode cX0_begin 61 = .ok (.iastore, 1) := by decide +kernel
theorem dX0_begin_62 : decode cX0_begin 62 = .ok (.iinc 2 1, 3) := by decide +kernel
theorem dX0_begin_65 : decode cX0_begin 65 = .ok (.goto (-19), 3) := by decide +kernel
theorem dX0_begin_68 : decode cX0_begin 68 = .ok (.return_, 1) := by decide +kernel
set_option maxRecDepth 100000 in
set_option maxHeartbeats 4000000 in
theorem c_ebegin (l : Launch) (E : EV) (e0 : Nat) (n : Int32) (e0a : Nat) (e0b : Nat) (e0c : Nat) (e0d : Nat)  : CT l yX0_begin (Cond.code yX0_begin cX0_begin 3 none :: TB) ({ frames := 0, cells := 0, slots := 0, locals := 0 }) E [.ref e0, .int n] [(e0, .inr (0, [.int 0, .int 0, .ref e0a, .ref e0b, .ref e0c, .ref e0d])), (e0a, .inl (E.2.1 7, 4, .inr (.inr (.inr (.inr (fun _ => none)))))), (e0b, .inl (E.2.1 1, 4, .inl (fun _ => 0))), (e0c, .inl (E.2.1 1, 4, .inl (fun _ => 0))), (e0d, .inl (E.2.1 1, 16, .inl (fun _ => 0)))] (Qv E (fun u => (u = []))) 0 0 := by
  refine ct_of rfl rfl ?_
  intro X C hT hin
  show WW X 3 E 0 [(0, .ref e0), (1, .int n)] [] [(e0, .inr (0, [.int 0, .int 0, .ref e0a, .ref e0b, .ref e0c, .ref e0d])), (e0a, .inl (E.2.1 7, 4, .inr (.inr (.inr (.inr (fun _ => none)))))), (e0b, .inl (E.2.1 1, 4, .inl (fun _ => 0))), (e0c, .inl (E.2.1 1, 4, .inl (fun _ => 0))), (e0d, .inl (E.2.1 1, 16, .inl (fun _ => 0)))] 0 0
  refine ww_aload_n C dX0_begin_0 0 rfl rfl ?_
  refine ww_iload_n C dX0_begin_1 1 rfl rfl ?_
  refine ww_put (ws' := [(e0, .inr (0, [.int n, .int 0, .ref e0a, .ref e0b, .ref e0c, .ref e0d])), (e0a, .inl (E.2.1 7, 4, .inr (.inr (.inr (.inr (fun _ => none)))))), (e0b, .inl (E.2.1 1, 4, .inl (fun _ => 0))), (e0c, .inl (E.2.1 1, 4, .inl (fun _ => 0))), (e0d, .inl (E.2.1 1, 16, .inl (fun _ => 0)))]) C fp_X0_27 0 rfl rfl rfl rfl rfl dX0_begin_2 ?_
  refine ww_aload_n C dX0_begin_5 0 rfl rfl ?_
  refine ww_iconst (v := 0) C dX0_begin_6 rfl ?_
  refine ww_put (ws' := [(e0, .inr (0, [.int n, .int 0, .ref e0a, .ref e0b, .ref e0c, .ref e0d])), (e0a, .inl (E.2.1 7, 4, .inr (.inr (.inr (.inr (fun _ => none)))))), (e0b, .inl (E.2.1 1, 4, .inl (fun _ => 0))), (e0c, .inl (E.2.1 1, 4, .inl (fun _ => 0))), (e0d, .inl (E.2.1 1, 16, .inl (fun _ => 0)))]) C fp_X0_31 0 rfl rfl rfl rfl rfl dX0_begin_7 ?_
  refine ww_iconst (v := 0) C dX0_begin_10 rfl ?_
  refine ww_istore_n (lv' := [(2, .int 0), (0, .ref e0), (1, .int n)]) C dX0_begin_11 rfl rfl rfl ?_
  refine ww_iload_n C dX0_begin_12 0 rfl rfl ?_
  refine ww_iconst (v := 4) C dX0_begin_13 rfl ?_
  refine ww_icmp_ge_f (tgt := 44) C dX0_begin_14 (by decide) (by decide) ?_
  refine ww_aload_n C dX0_begin_17 1 rfl rfl ?_
  refine ww_get C fg_X0_11 0 rfl rfl dX0_begin_18 ?_
  refine ww_iload_n C dX0_begin_21 0 rfl rfl ?_
  refine ww_null C dX0_begin_22 ?_
  obtain ⟨f_1, ef_1⟩ : ∃ z : Nat → Option Nat, va_up (fun _ => none) 0 none = z := ⟨_, rfl⟩
  refine ww_astN (t0 := 7) (ws' := [(e0, .inr (0, [.int n, .int 0, .ref e0a, .ref e0b, .ref e0c, .ref e0d])), (e0a, .inl (E.2.1 7, 4, .inr (.inr (.inr (.inr f_1))))), (e0b, .inl (E.2.1 1, 4, .inl (fun _ => 0))), (e0c, .inl (E.2.1 1, 4, .inl (fun _ => 0))), (e0d, .inl (E.2.1 1, 16, .inl (fun _ => 0)))]) C 1 rfl rfl (vin rfl) ef_1 rfl dX0_begin_23 ?_
  refine ww_aload_n C dX0_begin_24 1 rfl rfl ?_
  refine ww_get C fg_X0_17 0 rfl rfl dX0_begin_25 ?_
  refine ww_iload_n C dX0_begin_28 0 rfl rfl ?_
  refine ww_iconst (v := 0) C dX0_begin_29 rfl ?_
  obtain ⟨f_2, ef_2⟩ : ∃ z : Nat → Int32, upd (fun _ => 0) 0 0 = z := ⟨_, rfl⟩
  refine ww_iast (ws' := [(e0, .inr (0, [.int n, .int 0, .ref e0a, .ref e0b, .ref e0c, .ref e0d])), (e0a, .inl (E.2.1 7, 4, .inr (.inr (.inr (.inr f_1))))), (e0b, .inl (E.2.1 1, 4, .inl f_2)), (e0c, .inl (E.2.1 1, 4, .inl (fun _ => 0))), (e0d, .inl (E.2.1 1, 16, .inl (fun _ => 0)))]) C 2 rfl (vin rfl) ef_2 rfl dX0_begin_30 ?_
  refine ww_aload_n C dX0_begin_31 1 rfl rfl ?_
  refine ww_get C fg_X0_21 0 rfl rfl dX0_begin_32 ?_
  refine ww_iload_n C dX0_begin_35 0 rfl rfl ?_
  refine ww_iconst (v := 0) C dX0_begin_36 rfl ?_
  obtain ⟨f_3, ef_3⟩ : ∃ z : Nat → Int32, upd (fun _ => 0) 0 0 = z := ⟨_, rfl⟩
  refine ww_iast (ws' := [(e0, .inr (0, [.int n, .int 0, .ref e0a, .ref e0b, .ref e0c, .ref e0d])), (e0a, .inl (E.2.1 7, 4, .inr (.inr (.inr (.inr f_1))))), (e0b, .inl (E.2.1 1, 4, .inl f_2)), (e0c, .inl (E.2.1 1, 4, .inl f_3)), (e0d, .inl (E.2.1 1, 16, .inl (fun _ => 0)))]) C 3 rfl (vin rfl) ef_3 rfl dX0_begin_37 ?_
  refine ww_iinc (j := 0) (v := 1) (lv' := [(2, .int 1), (0, .ref e0), (1, .int n)]) C dX0_begin_38 rfl rfl rfl rfl ?_
  refine ww_goto (tgt := 12) C dX0_begin_41 (by decide) ?_
  refine ww_iload_n C dX0_begin_12 0 rfl rfl ?_
  refine ww_iconst (v := 4) C dX0_begin_13 rfl ?_
  refine ww_icmp_ge_f (tgt := 44) C dX0_begin_14 (by decide) (by decide) ?_
  refine ww_aload_n C dX0_begin_17 1 rfl rfl ?_
  refine ww_get C fg_X0_11 0 rfl rfl dX0_begin_18 ?_
  refine ww_iload_n C dX0_begin_21 0 rfl rfl ?_
  refine ww_null C dX0_begin_22 ?_
  obtain ⟨f_4, ef_4⟩ : ∃ z : Nat → Option Nat, va_up f_1 1 none = z := ⟨_, rfl⟩
  refine ww_astN (t0 := 7) (ws' := [(e0, .inr (0, [.int n, .int 0, .ref e0a, .ref e0b, .ref e0c, .ref e0d])), (e0a, .inl (E.2.1 7, 4, .inr (.inr (.inr (.inr f_4))))), (e0b, .inl (E.2.1 1, 4, .inl f_2)), (e0c, .inl (E.2.1 1, 4, .inl f_3)), (e0d, .inl (E.2.1 1, 16, .inl (fun _ => 0)))]) C 1 rfl rfl (vin rfl) ef_4 rfl dX0_begin_23 ?_
  refine ww_aload_n C dX0_begin_24 1 rfl rfl ?_
  refine ww_get C fg_X0_17 0 rfl rfl dX0_begin_25 ?_
  refine ww_iload_n C dX0_begin_28 0 rfl rfl ?_
  refine ww_iconst (v := 0) C dX0_begin_29 rfl ?_
  obtain ⟨f_5, ef_5⟩ : ∃ z : Nat → Int32, upd f_2 1 0 = z := ⟨_, rfl⟩
  refine ww_iast (ws' := [(e0, .inr (0, [.int n, .int 0, .ref e0a, .ref e0b, .ref e0c, .ref e0d])), (e0a, .inl (E.2.1 7, 4, .inr (.inr (.inr (.inr f_4))))), (e0b, .inl (E.2.1 1, 4, .inl f_5)), (e0c, .inl (E.2.1 1, 4, .inl f_3)), (e0d, .inl (E.2.1 1, 16, .inl (fun _ => 0)))]) C 2 rfl (vin rfl) ef_5 rfl dX0_begin_30 ?_
  refine ww_aload_n C dX0_begin_31 1 rfl rfl ?_
  refine ww_get C fg_X0_21 0 rfl rfl dX0_begin_32 ?_
  refine ww_iload_n C dX0_begin_35 0 rfl rfl ?_
  refine ww_iconst (v := 0) C dX0_begin_36 rfl ?_
  obtain ⟨f_6, ef_6⟩ : ∃ z : Nat → Int32, upd f_3 1 0 = z := ⟨_, rfl⟩
  refine ww_iast (ws' := [(e0, .inr (0, [.int n, .int 0, .ref e0a, .ref e0b, .ref e0c, .ref e0d])), (e0a, .inl (E.2.1 7, 4, .inr (.inr (.inr (.inr f_4))))), (e0b, .inl (E.2.1 1, 4, .inl f_5)), (e0c, .inl (E.2.1 1, 4, .inl f_6)), (e0d, .inl (E.2.1 1, 16, .inl (fun _ => 0)))]) C 3 rfl (vin rfl) ef_6 rfl dX0_begin_37 ?_
  refine ww_iinc (j := 0) (v := 2) (lv' := [(2, .int 2), (0, .ref e0), (1, .int n)]) C dX0_begin_38 rfl rfl rfl rfl ?_
  refine ww_goto (tgt := 12) C dX0_begin_41 (by decide) ?_
  refine ww_iload_n C dX0_begin_12 0 rfl rfl ?_
  refine ww_iconst (v := 4) C dX0_begin_13 rfl ?_
  refine ww_icmp_ge_f (tgt := 44) C dX0_begin_14 (by decide) (by decide) ?_
  refine ww_aload_n C dX0_begin_17 1 rfl rfl ?_
  refine ww_get C fg_X0_11 0 rfl rfl dX0_begin_18 ?_
  refine ww_iload_n C dX0_begin_21 0 rfl rfl ?_
  refine ww_null C dX0_begin_22 ?_
  obtain ⟨f_7, ef_7⟩ : ∃ z : Nat → Option Nat, va_up f_4 2 none = z := ⟨_, rfl⟩
  refine ww_astN (t0 := 7) (ws' := [(e0, .inr (0, [.int n, .int 0, .ref e0a, .ref e0b, .ref e0c, .ref e0d])), (e0a, .inl (E.2.1 7, 4, .inr (.inr (.inr (.inr f_7))))), (e0b, .inl (E.2.1 1, 4, .inl f_5)), (e0c, .inl (E.2.1 1, 4, .inl f_6)), (e0d, .inl (E.2.1 1, 16, .inl (fun _ => 0)))]) C 1 rfl rfl (vin rfl) ef_7 rfl dX0_begin_23 ?_
  refine ww_aload_n C dX0_begin_24 1 rfl rfl ?_
  refine ww_get C fg_X0_17 0 rfl rfl dX0_begin_25 ?_
  refine ww_iload_n C dX0_begin_28 0 rfl rfl ?_
  refine ww_iconst (v := 0) C dX0_begin_29 rfl ?_
  obtain ⟨f_8, ef_8⟩ : ∃ z : Nat → Int32, upd f_5 2 0 = z := ⟨_, rfl⟩
  refine ww_iast (ws' := [(e0, .inr (0, [.int n, .int 0, .ref e0a, .ref e0b, .ref e0c, .ref e0d])), (e0a, .inl (E.2.1 7, 4, .inr (.inr (.inr (.inr f_7))))), (e0b, .inl (E.2.1 1, 4, .inl f_8)), (e0c, .inl (E.2.1 1, 4, .inl f_6)), (e0d, .inl (E.2.1 1, 16, .inl (fun _ => 0)))]) C 2 rfl (vin rfl) ef_8 rfl dX0_begin_30 ?_
  refine ww_aload_n C dX0_begin_31 1 rfl rfl ?_
  refine ww_get C fg_X0_21 0 rfl rfl dX0_begin_32 ?_
  refine ww_iload_n C dX0_begin_35 0 rfl rfl ?_
  refine ww_iconst (v := 0) C dX0_begin_36 rfl ?_
  obtain ⟨f_9, ef_9⟩ : ∃ z : Nat → Int32, upd f_6 2 0 = z := ⟨_, rfl⟩
  refine ww_iast (ws' := [(e0, .inr (0, [.int n, .int 0, .ref e0a, .ref e0b, .ref e0c, .ref e0d])), (e0a, .inl (E.2.1 7, 4, .inr (.inr (.inr (.inr f_7))))), (e0b, .inl (E.2.1 1, 4, .inl f_8)), (e0c, .inl (E.2.1 1, 4, .inl f_9)), (e0d, .inl (E.2.1 1, 16, .inl (fun _ => 0)))]) C 3 rfl (vin rfl) ef_9 rfl dX0_begin_37 ?_
  refine ww_iinc (j := 0) (v := 3) (lv' := [(2, .int 3), (0, .ref e0), (1, .int n)]) C dX0_begin_38 rfl rfl rfl rfl ?_
  refine ww_goto (tgt := 12) C dX0_begin_41 (by decide) ?_
  refine ww_iload_n C dX0_begin_12 0 rfl rfl ?_
  refine ww_iconst (v := 4) C dX0_begin_13 rfl ?_
  refine ww_icmp_ge_f (tgt := 44) C dX0_begin_14 (by decide) (by decide) ?_
  refine ww_aload_n C dX0_begin_17 1 rfl rfl ?_
  refine ww_get C fg_X0_11 0 rfl rfl dX0_begin_18 ?_
  refine ww_iload_n C dX0_begin_21 0 rfl rfl ?_
  refine ww_null C dX0_begin_22 ?_
  obtain ⟨f_10, ef_10⟩ : ∃ z : Nat → Option Nat, va_up f_7 3 none = z := ⟨_, rfl⟩
  refine ww_astN (t0 := 7) (ws' := [(e0, .inr (0, [.int n, .int 0, .ref e0a, .ref e0b, .ref e0c, .ref e0d])), (e0a, .inl (E.2.1 7, 4, .inr (.inr (.inr (.inr f_10))))), (e0b, .inl (E.2.1 1, 4, .inl f_8)), (e0c, .inl (E.2.1 1, 4, .inl f_9)), (e0d, .inl (E.2.1 1, 16, .inl (fun _ => 0)))]) C 1 rfl rfl (vin rfl) ef_10 rfl dX0_begin_23 ?_
  refine ww_aload_n C dX0_begin_24 1 rfl rfl ?_
  refine ww_get C fg_X0_17 0 rfl rfl dX0_begin_25 ?_
  refine ww_iload_n C dX0_begin_28 0 rfl rfl ?_
  refine ww_iconst (v := 0) C dX0_begin_29 rfl ?_
  obtain ⟨f_11, ef_11⟩ : ∃ z : Nat → Int32, upd f_8 3 0 = z := ⟨_, rfl⟩
  refine ww_iast (ws' := [(e0, .inr (0, [.int n, .int 0, .ref e0a, .ref e0b, .ref e0c, .ref e0d])), (e0a, .inl (E.2.1 7, 4, .inr (.inr (.inr (.inr f_10))))), (e0b, .inl (E.2.1 1, 4, .inl f_11)), (e0c, .inl (E.2.1 1, 4, .inl f_9)), (e0d, .inl (E.2.1 1, 16, .inl (fun _ => 0)))]) C 2 rfl (vin rfl) ef_11 rfl dX0_begin_30 ?_
  refine ww_aload_n C dX0_begin_31 1 rfl rfl ?_
  refine ww_get C fg_X0_21 0 rfl rfl dX0_begin_32 ?_
  refine ww_iload_n C dX0_begin_35 0 rfl rfl ?_
  refine ww_iconst (v := 0) C dX0_begin_36 rfl ?_
  obtain ⟨f_12, ef_12⟩ : ∃ z : Nat → Int32, upd f_9 3 0 = z := ⟨_, rfl⟩
  refine ww_iast (ws' := [(e0, .inr (0, [.int n, .int 0, .ref e0a, .ref e0b, .ref e0c, .ref e0d])), (e0a, .inl (E.2.1 7, 4, .inr (.inr (.inr (.inr f_10))))), (e0b, .inl (E.2.1 1, 4, .inl f_11)), (e0c, .inl (E.2.1 1, 4, .inl f_12)), (e0d, .inl (E.2.1 1, 16, .inl (fun _ => 0)))]) C 3 rfl (vin rfl) ef_12 rfl dX0_begin_37 ?_
  refine ww_iinc (j := 0) (v := 4) (lv' := [(2, .int 4), (0, .ref e0), (1, .int n)]) C dX0_begin_38 rfl rfl rfl rfl ?_
  refine ww_goto (tgt := 12) C dX0_begin_41 (by decide) ?_
  refine ww_iload_n C dX0_begin_12 0 rfl rfl ?_
  refine ww_iconst (v := 4) C dX0_begin_13 rfl ?_
  refine ww_icmp_ge_t (tgt := 44) C dX0_begin_14 (by decide) (by decide) ?_
  refine ww_iconst (v := 0) C dX0_begin_44 rfl ?_
  refine ww_istore_n (lv' := [(2, .int 0), (0, .ref e0), (1, .int n)]) C dX0_begin_45 rfl rfl rfl ?_
  refine ww_iload_n C dX0_begin_46 0 rfl rfl ?_
  refine ww_aload_n C dX0_begin_47 1 rfl rfl ?_
  refine ww_get C fg_X0_24 0 rfl rfl dX0_begin_48 ?_
  refine ww_alen (v := 16) (t0 := 1) C 4 rfl rfl rfl dX0_begin_51 ?_
  refine ww_icmp_ge_f (tgt := 68) C dX0_begin_52 (by decide) (by decide) ?_
  refine ww_aload_n C dX0_begin_55 1 rfl rfl ?_
  refine ww_get C fg_X0_24 0 rfl rfl dX0_begin_56 ?_
  refine ww_iload_n C dX0_begin_59 0 rfl rfl ?_
  refine ww_iconst (v := 0) C dX0_begin_60 rfl ?_
  obtain ⟨f_13, ef_13⟩ : ∃ z : Nat → Int32, upd (fun _ => 0) 0 0 = z := ⟨_, rfl⟩
  refine ww_iast (ws' := [(e0, .inr (0, [.int n, .int 0, .ref e0a, .ref e0b, .ref e0c, .ref e0d])), (e0a, .inl (E.2.1 7, 4, .inr (.inr (.inr (.inr f_10))))), (e0b, .inl (E.2.1 1, 4, .inl f_11)), (e0c, .inl (E.2.1 1, 4, .inl f_12)), (e0d, .inl (E.2.1 1, 16, .inl f_13))]) C 4 rfl (vin rfl) ef_13 rfl dX0_begin_61 ?_
  refine ww_iinc (j := 0) (v := 1) (lv' := [(2, .int 1), (0, .ref e0), (1, .int n)]) C dX0_begin_62 rfl rfl rfl rfl ?_
  refine ww_goto (tgt := 46) C dX0_begin_65 (by decide) ?_
  refine ww_iload_n C dX0_begin_46 0 rfl rfl ?_
  refine ww_aload_n C dX0_begin_47 1 rfl rfl ?_
  refine ww_get C fg_X0_24 0 rfl rfl dX0_begin_48 ?_
  refine ww_alen (v := 16) (t0 := 1) C 4 rfl rfl rfl dX0_begin_51 ?_
  refine ww_icmp_ge_f (tgt := 68) C dX0_begin_52 (by decide) (by decide) ?_
  refine ww_aload_n C dX0_begin_55 1 rfl rfl ?_
  refine ww_get C fg_X0_24 0 rfl rfl dX0_begin_56 ?_
  refine ww_iload_n C dX0_begin_59 0 rfl rfl ?_
  refine ww_iconst (v := 0) C dX0_begin_60 rfl ?_
  obtain ⟨f_14, ef_14⟩ : ∃ z : Nat → Int32, upd f_13 1 0 = z := ⟨_, rfl⟩
  refine ww_iast (ws' := [(e0, .inr (0, [.int n, .int 0, .ref e0a, .ref e0b, .ref e0c, .ref e0d])), (e0a, .inl (E.2.1 7, 4, .inr (.inr (.inr (.inr f_10))))), (e0b, .inl (E.2.1 1, 4, .inl f_11)), (e0c, .inl (E.2.1 1, 4, .inl f_12)), (e0d, .inl (E.2.1 1, 16, .inl f_14))]) C 4 rfl (vin rfl) ef_14 rfl dX0_begin_61 ?_
  refine ww_iinc (j := 0) (v := 2) (lv' := [(2, .int 2), (0, .ref e0), (1, .int n)]) C dX0_begin_62 rfl rfl rfl rfl ?_
  refine ww_goto (tgt := 46) C dX0_begin_65 (by decide) ?_
  refine ww_iload_n C dX0_begin_46 0 rfl rfl ?_
  refine ww_aload_n C dX0_begin_47 1 rfl rfl ?_
  refine ww_get C fg_X0_24 0 rfl rfl dX0_begin_48 ?_
  refine ww_alen (v := 16) (t0 := 1) C 4 rfl rfl rfl dX0_begin_51 ?_
  refine ww_icmp_ge_f (tgt := 68) C dX0_begin_52 (by decide) (by decide) ?_
  refine ww_aload_n C dX0_begin_55 1 rfl rfl ?_
  refine ww_get C fg_X0_24 0 rfl rfl dX0_begin_56 ?_
  refine ww_iload_n C dX0_begin_59 0 rfl rfl ?_
  refine ww_iconst (v := 0) C dX0_begin_60 rfl ?_
  obtain ⟨f_15, ef_15⟩ : ∃ z : Nat → Int32, upd f_14 2 0 = z := ⟨_, rfl⟩
  refine ww_iast (ws' := [(e0, .inr (0, [.int n, .int 0, .ref e0a, .ref e0b, .ref e0c, .ref e0d])), (e0a, .inl (E.2.1 7, 4, .inr (.inr (.inr (.inr f_10))))), (e0b, .inl (E.2.1 1, 4, .inl f_11)), (e0c, .inl (E.2.1 1, 4, .inl f_12)), (e0d, .inl (E.2.1 1, 16, .inl f_15))]) C 4 rfl (vin rfl) ef_15 rfl dX0_begin_61 ?_
  refine ww_iinc (j := 0) (v := 3) (lv' := [(2, .int 3), (0, .ref e0), (1, .int n)]) C dX0_begin_62 rfl rfl rfl rfl ?_
  refine ww_goto (tgt := 46) C dX0_begin_65 (by decide) ?_
  refine ww_iload_n C dX0_begin_46 0 rfl rfl ?_
  refine ww_aload_n C dX0_begin_47 1 rfl rfl ?_
  refine ww_get C fg_X0_24 0 rfl rfl dX0_begin_48 ?_
  refine ww_alen (v := 16) (t0 := 1) C 4 rfl rfl rfl dX0_begin_51 ?_
  refine ww_icmp_ge_f (tgt := 68) C dX0_begin_52 (by decide) (by decide) ?_
  refine ww_aload_n C dX0_begin_55 1 rfl rfl ?_
  refine ww_get C fg_X0_24 0 rfl rfl dX0_begin_56 ?_
  refine ww_iload_n C dX0_begin_59 0 rfl rfl ?_
  refine ww_iconst (v := 0) C dX0_begin_60 rfl ?_
  obtain ⟨f_16, ef_16⟩ : ∃ z : Nat → Int32, upd f_15 3 0 = z := ⟨_, rfl⟩
  refine ww_iast (ws' := [(e0, .inr (0, [.int n, .int 0, .ref e0a, .ref e0b, .ref e0c, .ref e0d])), (e0a, .inl (E.2.1 7, 4, .inr (.inr (.inr (.inr f_10))))), (e0b, .inl (E.2.1 1, 4, .inl f_11)), (e0c, .inl (E.2.1 1, 4, .inl f_12)), (e0d, .inl (E.2.1 1, 16, .inl f_16))]) C 4 rfl (vin rfl) ef_16 rfl dX0_begin_61 ?_
  refine ww_iinc (j := 0) (v := 4) (lv' := [(2, .int 4), (0, .ref e0), (1, .int n)]) C dX0_begin_62 rfl rfl rfl rfl ?_
  refine ww_goto (tgt := 46) C dX0_begin_65 (by decide) ?_
  refine ww_iload_n C dX0_begin_46 0 rfl rfl ?_
  refine ww_aload_n C dX0_begin_47 1 rfl rfl ?_
  refine ww_get C fg_X0_24 0 rfl rfl dX0_begin_48 ?_
  refine ww_alen (v := 16) (t0 := 1) C 4 rfl rfl rfl dX0_begin_51 ?_
  refine ww_icmp_ge_f (tgt := 68) C dX0_begin_52 (by decide) (by decide) ?_
  refine ww_aload_n C dX0_begin_55 1 rfl rfl ?_
  refine ww_get C fg_X0_24 0 rfl rfl dX0_begin_56 ?_
  refine ww_iload_n C dX0_begin_59 0 rfl rfl ?_
  refine ww_iconst (v := 0) C dX0_begin_60 rfl ?_
  obtain ⟨f_17, ef_17⟩ : ∃ z : Nat → Int32, upd f_16 4 0 = z := ⟨_, rfl⟩
  refine ww_iast (ws' := [(e0, .inr (0, [.int n, .int 0, .ref e0a, .ref e0b, .ref e0c, .ref e0d])), (e0a, .inl (E.2.1 7, 4, .inr (.inr (.inr (.inr f_10))))), (e0b, .inl (E.2.1 1, 4, .inl f_11)), (e0c, .inl (E.2.1 1, 4, .inl f_12)), (e0d, .inl (E.2.1 1, 16, .inl f_17))]) C 4 rfl (vin rfl) ef_17 rfl dX0_begin_61 ?_
  refine ww_iinc (j := 0) (v := 5) (lv' := [(2, .int 5), (0, .ref e0), (1, .int n)]) C dX0_begin_62 rfl rfl rfl rfl ?_
  refine ww_goto (tgt := 46) C dX0_begin_65 (by decide) ?_
  refine ww_iload_n C dX0_begin_46 0 rfl rfl ?_
  refine ww_aload_n C dX0_begin_47 1 rfl rfl ?_
  refine ww_get C fg_X0_24 0 rfl rfl dX0_begin_48 ?_
  refine ww_alen (v := 16) (t0 := 1) C 4 rfl rfl rfl dX0_begin_51 ?_
  refine ww_icmp_ge_f (tgt := 68) C dX0_begin_52 (by decide) (by decide) ?_
  refine ww_aload_n C dX0_begin_55 1 rfl rfl ?_
  refine ww_get C fg_X0_24 0 rfl rfl dX0_begin_56 ?_
  refine ww_iload_n C dX0_begin_59 0 rfl rfl ?_
  refine ww_iconst (v := 0) C dX0_begin_60 rfl ?_
  obtain ⟨f_18, ef_18⟩ : ∃ z : Nat → Int32, upd f_17 5 0 = z := ⟨_, rfl⟩
  refine ww_iast (ws' := [(e0, .inr (0, [.int n, .int 0, .ref e0a, .ref e0b, .ref e0c, .ref e0d])), (e0a, .inl (E.2.1 7, 4, .inr (.inr (.inr (.inr f_10))))), (e0b, .inl (E.2.1 1, 4, .inl f_11)), (e0c, .inl (E.2.1 1, 4, .inl f_12)), (e0d, .inl (E.2.1 1, 16, .inl f_18))]) C 4 rfl (vin rfl) ef_18 rfl dX0_begin_61 ?_
  refine ww_iinc (j := 0) (v := 6) (lv' := [(2, .int 6), (0, .ref e0), (1, .int n)]) C dX0_begin_62 rfl rfl rfl rfl ?_
  refine ww_goto (tgt := 46) C dX0_begin_65 (by decide) ?_
  refine ww_iload_n C dX0_begin_46 0 rfl rfl ?_
  refine ww_aload_n C dX0_begin_47 1 rfl rfl ?_
  refine ww_get C fg_X0_24 0 rfl rfl dX0_begin_48 ?_
  refine ww_alen (v := 16) (t0 := 1) C 4 rfl rfl rfl dX0_begin_51 ?_
  refine ww_icmp_ge_f (tgt := 68) C dX0_begin_52 (by decide) (by decide) ?_
  refine ww_aload_n C dX0_begin_55 1 rfl rfl ?_
  refine ww_get C fg_X0_24 0 rfl rfl dX0_begin_56 ?_
  refine ww_iload_n C dX0_begin_59 0 rfl rfl ?_
  refine ww_iconst (v := 0) C dX0_begin_60 rfl ?_
  obtain ⟨f_19, ef_19⟩ : ∃ z : Nat → Int32, upd f_18 6 0 = z := ⟨_, rfl⟩
  refine ww_iast (ws' := [(e0, .inr (0, [.int n, .int 0, .ref e0a, .ref e0b, .ref e0c, .ref e0d])), (e0a, .inl (E.2.1 7, 4, .inr (.inr (.inr (.inr f_10))))), (e0b, .inl (E.2.1 1, 4, .inl f_11)), (e0c, .inl (E.2.1 1, 4, .inl f_12)), (e0d, .inl (E.2.1 1, 16, .inl f_19))]) C 4 rfl (vin rfl) ef_19 rfl dX0_begin_61 ?_
  refine ww_iinc (j := 0) (v := 7) (lv' := [(2, .int 7), (0, .ref e0), (1, .int n)]) C dX0_begin_62 rfl rfl rfl rfl ?_
  refine ww_goto (tgt := 46) C dX0_begin_65 (by decide) ?_
  refine ww_iload_n C dX0_begin_46 0 rfl rfl ?_
  refine ww_aload_n C dX0_begin_47 1 rfl rfl ?_
  refine ww_get C fg_X0_24 0 rfl rfl dX0_begin_48 ?_
  refine ww_alen (v := 16) (t0 := 1) C 4 rfl rfl rfl dX0_begin_51 ?_
  refine ww_icmp_ge_f (tgt := 68) C dX0_begin_52 (by decide) (by decide) ?_
  refine ww_aload_n C dX0_begin_55 1 rfl rfl ?_
  refine ww_get C fg_X0_24 0 rfl rfl dX0_begin_56 ?_
  refine ww_iload_n C dX0_begin_59 0 rfl rfl ?_
  refine ww_iconst (v := 0) C dX0_begin_60 rfl ?_
  obtain ⟨f_20, ef_20⟩ : ∃ z : Nat → Int32, upd f_19 7 0 = z := ⟨_, rfl⟩
  refine ww_iast (ws' := [(e0, .inr (0, [.int n, .int 0, .ref e0a, .ref e0b, .ref e0c, .ref e0d])), (e0a, .inl (E.2.1 7, 4, .inr (.inr (.inr (.inr f_10))))), (e0b, .inl (E.2.1 1, 4, .inl f_11)), (e0c, .inl (E.2.1 1, 4, .inl f_12)), (e0d, .inl (E.2.1 1, 16, .inl f_20))]) C 4 rfl (vin rfl) ef_20 rfl dX0_begin_61 ?_
  refine ww_iinc (j := 0) (v := 8) (lv' := [(2, .int 8), (0, .ref e0), (1, .int n)]) C dX0_begin_62 rfl rfl rfl rfl ?_
  refine ww_goto (tgt := 46) C dX0_begin_65 (by decide) ?_
  refine ww_iload_n C dX0_begin_46 0 rfl rfl ?_
  refine ww_aload_n C dX0_begin_47 1 rfl rfl ?_
  refine ww_get C fg_X0_24 0 rfl rfl dX0_begin_48 ?_
  refine ww_alen (v := 16) (t0 := 1) C 4 rfl rfl rfl dX0_begin_51 ?_
  refine ww_icmp_ge_f (tgt := 68) C dX0_begin_52 (by decide) (by decide) ?_
  refine ww_aload_n C dX0_begin_55 1 rfl rfl ?_
  refine ww_get C fg_X0_24 0 rfl rfl dX0_begin_56 ?_
  refine ww_iload_n C dX0_begin_59 0 rfl rfl ?_
  refine ww_iconst (v := 0) C dX0_begin_60 rfl ?_
  obtain ⟨f_21, ef_21⟩ : ∃ z : Nat → Int32, upd f_20 8 0 = z := ⟨_, rfl⟩
  refine ww_iast (ws' := [(e0, .inr (0, [.int n, .int 0, .ref e0a, .ref e0b, .ref e0c, .ref e0d])), (e0a, .inl (E.2.1 7, 4, .inr (.inr (.inr (.inr f_10))))), (e0b, .inl (E.2.1 1, 4, .inl f_11)), (e0c, .inl (E.2.1 1, 4, .inl f_12)), (e0d, .inl (E.2.1 1, 16, .inl f_21))]) C 4 rfl (vin rfl) ef_21 rfl dX0_begin_61 ?_
  refine ww_iinc (j := 0) (v := 9) (lv' := [(2, .int 9), (0, .ref e0), (1, .int n)]) C dX0_begin_62 rfl rfl rfl rfl ?_
  refine ww_goto (tgt := 46) C dX0_begin_65 (by decide) ?_
  refine ww_iload_n C dX0_begin_46 0 rfl rfl ?_
  refine ww_aload_n C dX0_begin_47 1 rfl rfl ?_
  refine ww_get C fg_X0_24 0 rfl rfl dX0_begin_48 ?_
  refine ww_alen (v := 16) (t0 := 1) C 4 rfl rfl rfl dX0_begin_51 ?_
  refine ww_icmp_ge_f (tgt := 68) C dX0_begin_52 (by decide) (by decide) ?_
  refine ww_aload_n C dX0_begin_55 1 rfl rfl ?_
  refine ww_get C fg_X0_24 0 rfl rfl dX0_begin_56 ?_
  refine ww_iload_n C dX0_begin_59 0 rfl rfl ?_
  refine ww_iconst (v := 0) C dX0_begin_60 rfl ?_
  obtain ⟨f_22, ef_22⟩ : ∃ z : Nat → Int32, upd f_21 9 0 = z := ⟨_, rfl⟩
  refine ww_iast (ws' := [(e0, .inr (0, [.int n, .int 0, .ref e0a, .ref e0b, .ref e0c, .ref e0d])), (e0a, .inl (E.2.1 7, 4, .inr (.inr (.inr (.inr f_10))))), (e0b, .inl (E.2.1 1, 4, .inl f_11)), (e0c, .inl (E.2.1 1, 4, .inl f_12)), (e0d, .inl (E.2.1 1, 16, .inl f_22))]) C 4 rfl (vin rfl) ef_22 rfl dX0_begin_61 ?_
  refine ww_iinc (j := 0) (v := 10) (lv' := [(2, .int 10), (0, .ref e0), (1, .int n)]) C dX0_begin_62 rfl rfl rfl rfl ?_
  refine ww_goto (tgt := 46) C dX0_begin_65 (by decide) ?_
  refine ww_iload_n C dX0_begin_46 0 rfl rfl ?_
  refine ww_aload_n C dX0_begin_47 1 rfl rfl ?_
  refine ww_get C fg_X0_24 0 rfl rfl dX0_begin_48 ?_
  refine ww_alen (v := 16) (t0 := 1) C 4 rfl rfl rfl dX0_begin_51 ?_
  refine ww_icmp_ge_f (tgt := 68) C dX0_begin_52 (by decide) (by decide) ?_
  refine ww_aload_n C dX0_begin_55 1 rfl rfl ?_
  refine ww_get C fg_X0_24 0 rfl rfl dX0_begin_56 ?_
  refine ww_iload_n C dX0_begin_59 0 rfl rfl ?_
  refine ww_iconst (v := 0) C dX0_begin_60 rfl ?_
  obtain ⟨f_23, ef_23⟩ : ∃ z : Nat → Int32, upd f_22 10 0 = z := ⟨_, rfl⟩
  refine ww_iast (ws' := [(e0, .inr (0, [.int n, .int 0, .ref e0a, .ref e0b, .ref e0c, .ref e0d])), (e0a, .inl (E.2.1 7, 4, .inr (.inr (.inr (.inr f_10))))), (e0b, .inl (E.2.1 1, 4, .inl f_11)), (e0c, .inl (E.2.1 1, 4, .inl f_12)), (e0d, .inl (E.2.1 1, 16, .inl f_23))]) C 4 rfl (vin rfl) ef_23 rfl dX0_begin_61 ?_
  refine ww_iinc (j := 0) (v := 11) (lv' := [(2, .int 11), (0, .ref e0), (1, .int n)]) C dX0_begin_62 rfl rfl rfl rfl ?_
  refine ww_goto (tgt := 46) C dX0_begin_65 (by decide) ?_
  refine ww_iload_n C dX0_begin_46 0 rfl rfl ?_
  refine ww_aload_n C dX0_begin_47 1 rfl rfl ?_
  refine ww_get C fg_X0_24 0 rfl rfl dX0_begin_48 ?_
  refine ww_alen (v := 16) (t0 := 1) C 4 rfl rfl rfl dX0_begin_51 ?_
  refine ww_icmp_ge_f (tgt := 68) C dX0_begin_52 (by decide) (by decide) ?_
  refine ww_aload_n C dX0_begin_55 1 rfl rfl ?_
  refine ww_get C fg_X0_24 0 rfl rfl dX0_begin_56 ?_
  refine ww_iload_n C dX0_begin_59 0 rfl rfl ?_
  refine ww_iconst (v := 0) C dX0_begin_60 rfl ?_
  obtain ⟨f_24, ef_24⟩ : ∃ z : Nat → Int32, upd f_23 11 0 = z := ⟨_, rfl⟩
  refine ww_iast (ws' := [(e0, .inr (0, [.int n, .int 0, .ref e0a, .ref e0b, .ref e0c, .ref e0d])), (e0a, .inl (E.2.1 7, 4, .inr (.inr (.inr (.inr f_10))))), (e0b, .inl (E.2.1 1, 4, .inl f_11)), (e0c, .inl (E.2.1 1, 4, .inl f_12)), (e0d, .inl (E.2.1 1, 16, .inl f_24))]) C 4 rfl (vin rfl) ef_24 rfl dX0_begin_61 ?_
  refine ww_iinc (j := 0) (v := 12) (lv' := [(2, .int 12), (0, .ref e0), (1, .int n)]) C dX0_begin_62 rfl rfl rfl rfl ?_
  refine ww_goto (tgt := 46) C dX0_begin_65 (by decide) ?_
  refine ww_iload_n C dX0_begin_46 0 rfl rfl ?_
  refine ww_aload_n C dX0_begin_47 1 rfl rfl ?_
  refine ww_get C fg_X0_24 0 rfl rfl dX0_begin_48 ?_
  refine ww_alen (v := 16) (t0 := 1) C 4 rfl rfl rfl dX0_begin_51 ?_
  refine ww_icmp_ge_f (tgt := 68) C dX0_begin_52 (by decide) (by decide) ?_
  refine ww_aload_n C dX0_begin_55 1 rfl rfl ?_
  refine ww_get C fg_X0_24 0 rfl rfl dX0_begin_56 ?_
  refine ww_iload_n C dX0_begin_59 0 rfl rfl ?_
  refine ww_iconst (v := 0) C dX0_begin_60 rfl ?_
  obtain ⟨f_25, ef_25⟩ : ∃ z : Nat → Int32, upd f_24 12 0 = z := ⟨_, rfl⟩
  refine ww_iast (ws' := [(e0, .inr (0, [.int n, .int 0, .ref e0a, .ref e0b, .ref e0c, .ref e0d])), (e0a, .inl (E.2.1 7, 4, .inr (.inr (.inr (.inr f_10))))), (e0b, .inl (E.2.1 1, 4, .inl f_11)), (e0c, .inl (E.2.1 1, 4, .inl f_12)), (e0d, .inl (E.2.1 1, 16, .inl f_25))]) C 4 rfl (vin rfl) ef_25 rfl dX0_begin_61 ?_
  refine ww_iinc (j := 0) (v := 13) (lv' := [(2, .int 13), (0, .ref e0), (1, .int n)]) C dX0_begin_62 rfl rfl rfl rfl ?_
  refine ww_goto (tgt := 46) C dX0_begin_65 (by decide) ?_
  refine ww_iload_n C dX0_begin_46 0 rfl rfl ?_
  refine ww_aload_n C dX0_begin_47 1 rfl rfl ?_
  refine ww_get C fg_X0_24 0 rfl rfl dX0_begin_48 ?_
  refine ww_alen (v := 16) (t0 := 1) C 4 rfl rfl rfl dX0_begin_51 ?_
  refine ww_icmp_ge_f (tgt := 68) C dX0_begin_52 (by decide) (by decide) ?_
  refine ww_aload_n C dX0_begin_55 1 rfl rfl ?_
  refine ww_get C fg_X0_24 0 rfl rfl dX0_begin_56 ?_
  refine ww_iload_n C dX0_begin_59 0 rfl rfl ?_
  refine ww_iconst (v := 0) C dX0_begin_60 rfl ?_
  obtain ⟨f_26, ef_26⟩ : ∃ z : Nat → Int32, upd f_25 13 0 = z := ⟨_, rfl⟩
  refine ww_iast (ws' := [(e0, .inr (0, [.int n, .int 0, .ref e0a, .ref e0b, .ref e0c, .ref e0d])), (e0a, .inl (E.2.1 7, 4, .inr (.inr (.inr (.inr f_10))))), (e0b, .inl (E.2.1 1, 4, .inl f_11)), (e0c, .inl (E.2.1 1, 4, .inl f_12)), (e0d, .inl (E.2.1 1, 16, .inl f_26))]) C 4 rfl (vin rfl) ef_26 rfl dX0_begin_61 ?_
  refine ww_iinc (j := 0) (v := 14) (lv' := [(2, .int 14), (0, .ref e0), (1, .int n)]) C dX0_begin_62 rfl rfl rfl rfl ?_
  refine ww_goto (tgt := 46) C dX0_begin_65 (by decide) ?_
  refine ww_iload_n C dX0_begin_46 0 rfl rfl ?_
  refine ww_aload_n C dX0_begin_47 1 rfl rfl ?_
  refine ww_get C fg_X0_24 0 rfl rfl dX0_begin_48 ?_
  refine ww_alen (v := 16) (t0 := 1) C 4 rfl rfl rfl dX0_begin_51 ?_
  refine ww_icmp_ge_f (tgt := 68) C dX0_begin_52 (by decide) (by decide) ?_
  refine ww_aload_n C dX0_begin_55 1 rfl rfl ?_
  refine ww_get C fg_X0_24 0 rfl rfl dX0_begin_56 ?_
  refine ww_iload_n C dX0_begin_59 0 rfl rfl ?_
  refine ww_iconst (v := 0) C dX0_begin_60 rfl ?_
  obtain ⟨f_27, ef_27⟩ : ∃ z : Nat → Int32, upd f_26 14 0 = z := ⟨_, rfl⟩
  refine ww_iast (ws' := [(e0, .inr (0, [.int n, .int 0, .ref e0a, .ref e0b, .ref e0c, .ref e0d])), (e0a, .inl (E.2.1 7, 4, .inr (.inr (.inr (.inr f_10))))), (e0b, .inl (E.2.1 1, 4, .inl f_11)), (e0c, .inl (E.2.1 1, 4, .inl f_12)), (e0d, .inl (E.2.1 1, 16, .inl f_27))]) C 4 rfl (vin rfl) ef_27 rfl dX0_begin_61 ?_
  refine ww_iinc (j := 0) (v := 15) (lv' := [(2, .int 15), (0, .ref e0), (1, .int n)]) C dX0_begin_62 rfl rfl rfl rfl ?_
  refine ww_goto (tgt := 46) C dX0_begin_65 (by decide) ?_
  refine ww_iload_n C dX0_begin_46 0 rfl rfl ?_
  refine ww_aload_n C dX0_begin_47 1 rfl rfl ?_
  refine ww_get C fg_X0_24 0 rfl rfl dX0_begin_48 ?_
  refine ww_alen (v := 16) (t0 := 1) C 4 rfl rfl rfl dX0_begin_51 ?_
  refine ww_icmp_ge_f (tgt := 68) C dX0_begin_52 (by decide) (by decide) ?_
  refine ww_aload_n C dX0_begin_55 1 rfl rfl ?_
  refine ww_get C fg_X0_24 0 rfl rfl dX0_begin_56 ?_
  refine ww_iload_n C dX0_begin_59 0 rfl rfl ?_
  refine ww_iconst (v := 0) C dX0_begin_60 rfl ?_
  obtain ⟨f_28, ef_28⟩ : ∃ z : Nat → Int32, upd f_27 15 0 = z := ⟨_, rfl⟩
  refine ww_iast (ws' := [(e0, .inr (0, [.int n, .int 0, .ref e0a, .ref e0b, .ref e0c, .ref e0d])), (e0a, .inl (E.2.1 7, 4, .inr (.inr (.inr (.inr f_10))))), (e0b, .inl (E.2.1 1, 4, .inl f_11)), (e0c, .inl (E.2.1 1, 4, .inl f_12)), (e0d, .inl (E.2.1 1, 16, .inl f_28))]) C 4 rfl (vin rfl) ef_28 rfl dX0_begin_61 ?_
  refine ww_iinc (j := 0) (v := 16) (lv' := [(2, .int 16), (0, .ref e0), (1, .int n)]) C dX0_begin_62 rfl rfl rfl rfl ?_
  refine ww_goto (tgt := 46) C dX0_begin_65 (by decide) ?_
  refine ww_iload_n C dX0_begin_46 0 rfl rfl ?_
  refine ww_aload_n C dX0_begin_47 1 rfl rfl ?_
  refine ww_get C fg_X0_24 0 rfl rfl dX0_begin_48 ?_
  refine ww_alen (v := 16) (t0 := 1) C 4 rfl rfl rfl dX0_begin_51 ?_
  refine ww_icmp_ge_t (tgt := 68) C dX0_begin_52 (by decide) (by decide) ?_
  exact ww_vret (u := []) C hT [] rfl rfl rfl rfl dX0_begin_68 (rfl)
theorem dX11_event_0 : decode cX11_event 0 = .ok (.iload_n 1, 1) := by decide +kernel
theorem dX11_event_1 : decode cX11_event 1 = .ok (.iconst 0, 1) := by decide +kernel
theorem dX11_event_2 : decode cX11_event 2 = .ok (.iconst 3, 1) := by decide +kernel
theorem dX11_event_3 : decode cX11_event 3 = .ok (.invokestatic 76, 3) := by decide +kernel
theorem dX11_event_6 : decode cX11_event 6 = .ok (.ifCond .eq 12, 3) := by decide +kernel
theorem dX11_event_9 : decode cX11_event 9 = .ok (.iload_n 2, 1) := by decide +kernel
theorem dX11_event_10 : decode cX11_event 10 = .ok (.iconst 1, 1) := by decide +kernel
theorem dX11_event_11 : decode cX11_event 11 = .ok (.iconst 4, 1) := by decide +kernel
theorem dX11_event_12 : decode cX11_event 12 = .ok (.invokestatic 76, 3) := by decide +kernel
theorem dX11_event_15 : decode cX11_event 15 = .ok (.ifCond .ne 5, 3) := by decide +kernel
theorem dX11_event_20 : decode cX11_event 20 = .ok (.aload_n 0, 1) := by decide +kernel
theorem dX11_event_21 : decode cX11_event 21 = .ok (.getfield 34, 3) := by decide +kernel
theorem dX11_event_24 : decode cX11_event 24 = .ok (.getfield 84, 3) := by decide +kernel
theorem dX11_event_27 : decode cX11_event 27 = .ok (.iload_n 1, 1) := by decide +kernel
theorem dX11_event_28 : decode cX11_event 28 = .ok (.aaload, 1) := by decide +kernel
theorem dX11_event_29 : decode cX11_event 29 = .ok (.iload_n 2, 1) := by decide +kernel
theorem dX11_event_30 : decode cX11_event 30 = .ok (.invokevirtual 197, 3) := by decide +kernel
theorem wl_X11_197 : Cond.methodLink RX11 197 yX0_begin ∈ TB := tbm (tq4 (List.mem_of_getElem? (i := 55) (by decide +kernel))) (by decide +kernel)
theorem wc_X0_begin : Cond.code yX0_begin cX0_begin 3 none ∈ TB := tbm (tq4 (List.mem_of_getElem? (i := 58) (rfl))) (by decide +kernel)
theorem wi_X0_begin : Cond.instanceMethod yX0_begin ∈ TB := tbm (tq4 (List.mem_of_getElem? (i := 56) (by decide +kernel))) (by decide +kernel)
theorem ws_X0_begin : Cond.selects RX0 yX0_begin yX0_begin ∈ TB := tbm (tq4 (List.mem_of_getElem? (i := 57) (by decide +kernel))) (by decide +kernel)
theorem mi_X0_begin : MI yX0_begin cX0_begin 3 none 1 := ⟨wc_X0_begin, wn_X0, ⟨by decide +kernel, by decide +kernel, by decide +kernel⟩, wi_X0_begin, ws_X0_begin⟩
theorem dX11_event_33 : decode cX11_event 33 = .ok (.iconst 1, 1) := by decide +kernel
theorem dX11_event_34 : decode cX11_event 34 = .ok (.ireturn, 1) := by decide +kernel
theorem dX11_event_18 : decode cX11_event 18 = .ok (.iconst (-1), 1) := by decide +kernel
theorem dX11_event_19 : decode cX11_event 19 = .ok (.ireturn, 1) := by decide +kernel
set_option maxRecDepth 100000 in
set_option maxHeartbeats 4000000 in
theorem x_event (l : Launch) (E : EV) (hx : Nat) (p0 : Int32) (p1 : Int32) (qn : Nat) (qp : Nat) (qs : Nat) (qj : Nat) (ql : Nat) (qh : Nat) (qk : Nat) (qr : Nat) (qg : Nat) (qsh : Nat) (jt : Nat) (je : Nat) (ju : Nat) (ja : Nat) (fe : Nat → Option Nat) (e0 : Nat) (e1 : Nat) (e2 : Nat) (e3 : Nat) (e0a : Nat) (e0b : Nat) (e0c : Nat) (e0d : Nat) (e1a : Nat) (e1b : Nat) (e1c : Nat) (e1d : Nat) (e2a : Nat) (e2b : Nat) (e2c : Nat) (e2d : Nat) (e3a : Nat) (e3b : Nat) (e3c : Nat) (e3d : Nat) (k_fe_0 : fe 0 = some e0) (k_fe_1 : fe 1 = some e1) (k_fe_2 : fe 2 = some e2) (k_fe_3 : fe 3 = some e3) : CT l yX11_event (Cond.code yX11_event cX11_event 3 (some .int) :: TB) ({ frames := 1, cells := 0, slots := 0, locals := 22 }) E [.ref hx, .int p0, .int p1] [(hx, .inr (11, [.ref qn, .ref qp, .int 0, .int 0, .ref qs, .ref qj, .ref ql, .ref qh, .ref qk, .int 0, .ref qr, .ref qg, .int 0, .int 0, .ref qsh])), (qj, .inr (2, [.ref jt, .ref je, .ref ju, .ref ja])), (je, .inl (E.2.1 4, 4, .inr (.inr (.inr (.inr fe))))), (e0, .inr (0, [.int 0, .int 0, .ref e0a, .ref e0b, .ref e0c, .ref e0d])), (e0a, .inl (E.2.1 7, 4, .inr (.inr (.inr (.inr (fun _ => none)))))), (e0b, .inl (E.2.1 1, 4, .inl (fun _ => 0))), (e0c, .inl (E.2.1 1, 4, .inl (fun _ => 0))), (e0d, .inl (E.2.1 1, 16, .inl (fun _ => 0))), (e1, .inr (0, [.int 0, .int 0, .ref e1a, .ref e1b, .ref e1c, .ref e1d])), (e1a, .inl (E.2.1 7, 4, .inr (.inr (.inr (.inr (fun _ => none)))))), (e1b, .inl (E.2.1 1, 4, .inl (fun _ => 0))), (e1c, .inl (E.2.1 1, 4, .inl (fun _ => 0))), (e1d, .inl (E.2.1 1, 16, .inl (fun _ => 0))), (e2, .inr (0, [.int 0, .int 0, .ref e2a, .ref e2b, .ref e2c, .ref e2d])), (e2a, .inl (E.2.1 7, 4, .inr (.inr (.inr (.inr (fun _ => none)))))), (e2b, .inl (E.2.1 1, 4, .inl (fun _ => 0))), (e2c, .inl (E.2.1 1, 4, .inl (fun _ => 0))), (e2d, .inl (E.2.1 1, 16, .inl (fun _ => 0))), (e3, .inr (0, [.int 0, .int 0, .ref e3a, .ref e3b, .ref e3c, .ref e3d])), (e3a, .inl (E.2.1 7, 4, .inr (.inr (.inr (.inr (fun _ => none)))))), (e3b, .inl (E.2.1 1, 4, .inl (fun _ => 0))), (e3c, .inl (E.2.1 1, 4, .inl (fun _ => 0))), (e3d, .inl (E.2.1 1, 16, .inl (fun _ => 0)))] (Qi E (fun (r : Int32) u => (r = (-1) ∧ u = [] ∧ (p0.toInt < 0 ∨ 3 < p0.toInt ∨ p1.toInt < 1 ∨ 4 < p1.toInt)) ∨ (r = 1 ∧ u = [] ∧ (0 ≤ p0.toInt) ∧ (p0.toInt ≤ 3) ∧ (1 ≤ p1.toInt) ∧ (p1.toInt ≤ 4)))) 0 0 := by
  refine ct_of rfl rfl ?_
  intro X C hT hin
  show WW X 3 E 0 [(0, .ref hx), (1, .int p0), (2, .int p1)] [] [(hx, .inr (11, [.ref qn, .ref qp, .int 0, .int 0, .ref qs, .ref qj, .ref ql, .ref qh, .ref qk, .int 0, .ref qr, .ref qg, .int 0, .int 0, .ref qsh])), (qj, .inr (2, [.ref jt, .ref je, .ref ju, .ref ja])), (je, .inl (E.2.1 4, 4, .inr (.inr (.inr (.inr fe))))), (e0, .inr (0, [.int 0, .int 0, .ref e0a, .ref e0b, .ref e0c, .ref e0d])), (e0a, .inl (E.2.1 7, 4, .inr (.inr (.inr (.inr (fun _ => none)))))), (e0b, .inl (E.2.1 1, 4, .inl (fun _ => 0))), (e0c, .inl (E.2.1 1, 4, .inl (fun _ => 0))), (e0d, .inl (E.2.1 1, 16, .inl (fun _ => 0))), (e1, .inr (0, [.int 0, .int 0, .ref e1a, .ref e1b, .ref e1c, .ref e1d])), (e1a, .inl (E.2.1 7, 4, .inr (.inr (.inr (.inr (fun _ => none)))))), (e1b, .inl (E.2.1 1, 4, .inl (fun _ => 0))), (e1c, .inl (E.2.1 1, 4, .inl (fun _ => 0))), (e1d, .inl (E.2.1 1, 16, .inl (fun _ => 0))), (e2, .inr (0, [.int 0, .int 0, .ref e2a, .ref e2b, .ref e2c, .ref e2d])), (e2a, .inl (E.2.1 7, 4, .inr (.inr (.inr (.inr (fun _ => none)))))), (e2b, .inl (E.2.1 1, 4, .inl (fun _ => 0))), (e2c, .inl (E.2.1 1, 4, .inl (fun _ => 0))), (e2d, .inl (E.2.1 1, 16, .inl (fun _ => 0))), (e3, .inr (0, [.int 0, .int 0, .ref e3a, .ref e3b, .ref e3c, .ref e3d])), (e3a, .inl (E.2.1 7, 4, .inr (.inr (.inr (.inr (fun _ => none)))))), (e3b, .inl (E.2.1 1, 4, .inl (fun _ => 0))), (e3c, .inl (E.2.1 1, 4, .inl (fun _ => 0))), (e3d, .inl (E.2.1 1, 16, .inl (fun _ => 0)))] 0 0
  refine ww_iload_n C dX11_event_0 1 rfl rfl ?_
  refine ww_iconst (v := 0) C dX11_event_1 rfl ?_
  refine ww_iconst (v := 3) C dX11_event_2 rfl ?_
  refine ww_ci (wr := [(hx, .inr (11, [.ref qn, .ref qp, .int 0, .int 0, .ref qs, .ref qj, .ref ql, .ref qh, .ref qk, .int 0, .ref qr, .ref qg, .int 0, .int 0, .ref qsh])), (qj, .inr (2, [.ref jt, .ref je, .ref ju, .ref ja])), (je, .inl (E.2.1 4, 4, .inr (.inr (.inr (.inr fe))))), (e0, .inr (0, [.int 0, .int 0, .ref e0a, .ref e0b, .ref e0c, .ref e0d])), (e0a, .inl (E.2.1 7, 4, .inr (.inr (.inr (.inr (fun _ => none)))))), (e0b, .inl (E.2.1 1, 4, .inl (fun _ => 0))), (e0c, .inl (E.2.1 1, 4, .inl (fun _ => 0))), (e0d, .inl (E.2.1 1, 16, .inl (fun _ => 0))), (e1, .inr (0, [.int 0, .int 0, .ref e1a, .ref e1b, .ref e1c, .ref e1d])), (e1a, .inl (E.2.1 7, 4, .inr (.inr (.inr (.inr (fun _ => none)))))), (e1b, .inl (E.2.1 1, 4, .inl (fun _ => 0))), (e1c, .inl (E.2.1 1, 4, .inl (fun _ => 0))), (e1d, .inl (E.2.1 1, 16, .inl (fun _ => 0))), (e2, .inr (0, [.int 0, .int 0, .ref e2a, .ref e2b, .ref e2c, .ref e2d])), (e2a, .inl (E.2.1 7, 4, .inr (.inr (.inr (.inr (fun _ => none)))))), (e2b, .inl (E.2.1 1, 4, .inl (fun _ => 0))), (e2c, .inl (E.2.1 1, 4, .inl (fun _ => 0))), (e2d, .inl (E.2.1 1, 16, .inl (fun _ => 0))), (e3, .inr (0, [.int 0, .int 0, .ref e3a, .ref e3b, .ref e3c, .ref e3d])), (e3a, .inl (E.2.1 7, 4, .inr (.inr (.inr (.inr (fun _ => none)))))), (e3b, .inl (E.2.1 1, 4, .inl (fun _ => 0))), (e3c, .inl (E.2.1 1, 4, .inl (fun _ => 0))), (e3d, .inl (E.2.1 1, 16, .inl (fun _ => 0)))]) (k' := 0) (n' := 0) C (run_S (As := [.int p0, .int 0, .int 3]) (rest := []) C (c_within X.2.1 E p0 0 3 p0.toInt 0 3 rfl rfl rfl) ms_X11_within wl_X11_76 rfl rfl rfl rfl dX11_event_3) [] [0, 1, 2, 3, 4, 5, 6, 7, 8, 9, 10, 11, 12, 13, 14, 15, 16, 17, 18, 19, 20, 21, 22] rfl rfl rfl rfl (fun r u hw => ?_)
  rcases hw with ⟨rfl, rfl, h_1, h_2⟩ | ⟨rfl, rfl, h_3⟩
  · refine ww_eq (ws' := [(hx, .inr (11, [.ref qn, .ref qp, .int 0, .int 0, .ref qs, .ref qj, .ref ql, .ref qh, .ref qk, .int 0, .ref qr, .ref qg, .int 0, .int 0, .ref qsh])), (qj, .inr (2, [.ref jt, .ref je, .ref ju, .ref ja])), (je, .inl (E.2.1 4, 4, .inr (.inr (.inr (.inr fe))))), (e0, .inr (0, [.int 0, .int 0, .ref e0a, .ref e0b, .ref e0c, .ref e0d])), (e0a, .inl (E.2.1 7, 4, .inr (.inr (.inr (.inr (fun _ => none)))))), (e0b, .inl (E.2.1 1, 4, .inl (fun _ => 0))), (e0c, .inl (E.2.1 1, 4, .inl (fun _ => 0))), (e0d, .inl (E.2.1 1, 16, .inl (fun _ => 0))), (e1, .inr (0, [.int 0, .int 0, .ref e1a, .ref e1b, .ref e1c, .ref e1d])), (e1a, .inl (E.2.1 7, 4, .inr (.inr (.inr (.inr (fun _ => none)))))), (e1b, .inl (E.2.1 1, 4, .inl (fun _ => 0))), (e1c, .inl (E.2.1 1, 4, .inl (fun _ => 0))), (e1d, .inl (E.2.1 1, 16, .inl (fun _ => 0))), (e2, .inr (0, [.int 0, .int 0, .ref e2a, .ref e2b, .ref e2c, .ref e2d])), (e2a, .inl (E.2.1 7, 4, .inr (.inr (.inr (.inr (fun _ => none)))))), (e2b, .inl (E.2.1 1, 4, .inl (fun _ => 0))), (e2c, .inl (E.2.1 1, 4, .inl (fun _ => 0))), (e2d, .inl (E.2.1 1, 16, .inl (fun _ => 0))), (e3, .inr (0, [.int 0, .int 0, .ref e3a, .ref e3b, .ref e3c, .ref e3d])), (e3a, .inl (E.2.1 7, 4, .inr (.inr (.inr (.inr (fun _ => none)))))), (e3b, .inl (E.2.1 1, 4, .inl (fun _ => 0))), (e3c, .inl (E.2.1 1, 4, .inl (fun _ => 0))), (e3d, .inl (E.2.1 1, 16, .inl (fun _ => 0)))]) ?_ rfl rfl rfl
    refine ww_if_eq_f (tgt := 18) C dX11_event_6 (by decide) (by decide) ?_
    refine ww_iload_n C dX11_event_9 2 rfl rfl ?_
    refine ww_iconst (v := 1) C dX11_event_10 rfl ?_
    refine ww_iconst (v := 4) C dX11_event_11 rfl ?_
    refine ww_ci (wr := [(hx, .inr (11, [.ref qn, .ref qp, .int 0, .int 0, .ref qs, .ref qj, .ref ql, .ref qh, .ref qk, .int 0, .ref qr, .ref qg, .int 0, .int 0, .ref qsh])), (qj, .inr (2, [.ref jt, .ref je, .ref ju, .ref ja])), (je, .inl (E.2.1 4, 4, .inr (.inr (.inr (.inr fe))))), (e0, .inr (0, [.int 0, .int 0, .ref e0a, .ref e0b, .ref e0c, .ref e0d])), (e0a, .inl (E.2.1 7, 4, .inr (.inr (.inr (.inr (fun _ => none)))))), (e0b, .inl (E.2.1 1, 4, .inl (fun _ => 0))), (e0c, .inl (E.2.1 1, 4, .inl (fun _ => 0))), (e0d, .inl (E.2.1 1, 16, .inl (fun _ => 0))), (e1, .inr (0, [.int 0, .int 0, .ref e1a, .ref e1b, .ref e1c, .ref e1d])), (e1a, .inl (E.2.1 7, 4, .inr (.inr (.inr (.inr (fun _ => none)))))), (e1b, .inl (E.2.1 1, 4, .inl (fun _ => 0))), (e1c, .inl (E.2.1 1, 4, .inl (fun _ => 0))), (e1d, .inl (E.2.1 1, 16, .inl (fun _ => 0))), (e2, .inr (0, [.int 0, .int 0, .ref e2a, .ref e2b, .ref e2c, .ref e2d])), (e2a, .inl (E.2.1 7, 4, .inr (.inr (.inr (.inr (fun _ => none)))))), (e2b, .inl (E.2.1 1, 4, .inl (fun _ => 0))), (e2c, .inl (E.2.1 1, 4, .inl (fun _ => 0))), (e2d, .inl (E.2.1 1, 16, .inl (fun _ => 0))), (e3, .inr (0, [.int 0, .int 0, .ref e3a, .ref e3b, .ref e3c, .ref e3d])), (e3a, .inl (E.2.1 7, 4, .inr (.inr (.inr (.inr (fun _ => none)))))), (e3b, .inl (E.2.1 1, 4, .inl (fun _ => 0))), (e3c, .inl (E.2.1 1, 4, .inl (fun _ => 0))), (e3d, .inl (E.2.1 1, 16, .inl (fun _ => 0)))]) (k' := 0) (n' := 0) C (run_S (As := [.int p1, .int 1, .int 4]) (rest := []) C (c_within X.2.1 E p1 1 4 p1.toInt 1 4 rfl rfl rfl) ms_X11_within wl_X11_76 rfl rfl rfl rfl dX11_event_12) [] [0, 1, 2, 3, 4, 5, 6, 7, 8, 9, 10, 11, 12, 13, 14, 15, 16, 17, 18, 19, 20, 21, 22] rfl rfl rfl rfl (fun r u hw => ?_)
    rcases hw with ⟨rfl, rfl, h_4, h_5⟩ | ⟨rfl, rfl, h_6⟩
    · refine ww_eq (ws' := [(hx, .inr (11, [.ref qn, .ref qp, .int 0, .int 0, .ref qs, .ref qj, .ref ql, .ref qh, .ref qk, .int 0, .ref qr, .ref qg, .int 0, .int 0, .ref qsh])), (qj, .inr (2, [.ref jt, .ref je, .ref ju, .ref ja])), (je, .inl (E.2.1 4, 4, .inr (.inr (.inr (.inr fe))))), (e0, .inr (0, [.int 0, .int 0, .ref e0a, .ref e0b, .ref e0c, .ref e0d])), (e0a, .inl (E.2.1 7, 4, .inr (.inr (.inr (.inr (fun _ => none)))))), (e0b, .inl (E.2.1 1, 4, .inl (fun _ => 0))), (e0c, .inl (E.2.1 1, 4, .inl (fun _ => 0))), (e0d, .inl (E.2.1 1, 16, .inl (fun _ => 0))), (e1, .inr (0, [.int 0, .int 0, .ref e1a, .ref e1b, .ref e1c, .ref e1d])), (e1a, .inl (E.2.1 7, 4, .inr (.inr (.inr (.inr (fun _ => none)))))), (e1b, .inl (E.2.1 1, 4, .inl (fun _ => 0))), (e1c, .inl (E.2.1 1, 4, .inl (fun _ => 0))), (e1d, .inl (E.2.1 1, 16, .inl (fun _ => 0))), (e2, .inr (0, [.int 0, .int 0, .ref e2a, .ref e2b, .ref e2c, .ref e2d])), (e2a, .inl (E.2.1 7, 4, .inr (.inr (.inr (.inr (fun _ => none)))))), (e2b, .inl (E.2.1 1, 4, .inl (fun _ => 0))), (e2c, .inl (E.2.1 1, 4, .inl (fun _ => 0))), (e2d, .inl (E.2.1 1, 16, .inl (fun _ => 0))), (e3, .inr (0, [.int 0, .int 0, .ref e3a, .ref e3b, .ref e3c, .ref e3d])), (e3a, .inl (E.2.1 7, 4, .inr (.inr (.inr (.inr (fun _ => none)))))), (e3b, .inl (E.2.1 1, 4, .inl (fun _ => 0))), (e3c, .inl (E.2.1 1, 4, .inl (fun _ => 0))), (e3d, .inl (E.2.1 1, 16, .inl (fun _ => 0)))]) ?_ rfl rfl rfl
      refine ww_if_ne_t (tgt := 20) C dX11_event_15 (by decide) (by decide) ?_
      refine ww_aload_n C dX11_event_20 0 rfl rfl ?_
      refine ww_get C fg_X11_34 0 rfl rfl dX11_event_21 ?_
      refine ww_get C fg_X11_84 1 rfl rfl dX11_event_24 ?_
      rcases sp_0_3 (x := p0) (by omega) (by omega) with rfl | rfl | rfl | rfl
      · refine ww_iload_n C dX11_event_27 1 rfl rfl ?_
        refine ww_ald (v := (some e0)) (t0 := 4) C 2 rfl rfl (vin rfl) k_fe_0 dX11_event_28 ?_
        refine ww_eq (st' := [.ref e0]) ?_ rfl rfl rfl
        refine ww_iload_n C dX11_event_29 2 rfl rfl ?_
        refine ww_cv (wr := [(hx, .inr (11, [.ref qn, .ref qp, .int 0, .int 0, .ref qs, .ref qj, .ref ql, .ref qh, .ref qk, .int 0, .ref qr, .ref qg, .int 0, .int 0, .ref qsh])), (qj, .inr (2, [.ref jt, .ref je, .ref ju, .ref ja])), (je, .inl (E.2.1 4, 4, .inr (.inr (.inr (.inr fe))))), (e1, .inr (0, [.int 0, .int 0, .ref e1a, .ref e1b, .ref e1c, .ref e1d])), (e1a, .inl (E.2.1 7, 4, .inr (.inr (.inr (.inr (fun _ => none)))))), (e1b, .inl (E.2.1 1, 4, .inl (fun _ => 0))), (e1c, .inl (E.2.1 1, 4, .inl (fun _ => 0))), (e1d, .inl (E.2.1 1, 16, .inl (fun _ => 0))), (e2, .inr (0, [.int 0, .int 0, .ref e2a, .ref e2b, .ref e2c, .ref e2d])), (e2a, .inl (E.2.1 7, 4, .inr (.inr (.inr (.inr (fun _ => none)))))), (e2b, .inl (E.2.1 1, 4, .inl (fun _ => 0))), (e2c, .inl (E.2.1 1, 4, .inl (fun _ => 0))), (e2d, .inl (E.2.1 1, 16, .inl (fun _ => 0))), (e3, .inr (0, [.int 0, .int 0, .ref e3a, .ref e3b, .ref e3c, .ref e3d])), (e3a, .inl (E.2.1 7, 4, .inr (.inr (.inr (.inr (fun _ => none)))))), (e3b, .inl (E.2.1 1, 4, .inl (fun _ => 0))), (e3c, .inl (E.2.1 1, 4, .inl (fun _ => 0))), (e3d, .inl (E.2.1 1, 16, .inl (fun _ => 0)))]) (k' := 0) (n' := 0) C (run_V (As := [.int p1]) (rest := []) C (c_ebegin X.2.1 E e0 p1 e0a e0b e0c e0d) mi_X0_begin wl_X11_197 rfl 0 0 rfl rfl rfl rfl rfl dX11_event_30) [3, 4, 5, 6, 7] [0, 1, 2, 8, 9, 10, 11, 12, 13, 14, 15, 16, 17, 18, 19, 20, 21, 22] rfl rfl rfl rfl (fun u hw => ?_)
        obtain ⟨rfl⟩ := hw
        refine ww_eq (ws' := [(hx, .inr (11, [.ref qn, .ref qp, .int 0, .int 0, .ref qs, .ref qj, .ref ql, .ref qh, .ref qk, .int 0, .ref qr, .ref qg, .int 0, .int 0, .ref qsh])), (qj, .inr (2, [.ref jt, .ref je, .ref ju, .ref ja])), (je, .inl (E.2.1 4, 4, .inr (.inr (.inr (.inr fe))))), (e1, .inr (0, [.int 0, .int 0, .ref e1a, .ref e1b, .ref e1c, .ref e1d])), (e1a, .inl (E.2.1 7, 4, .inr (.inr (.inr (.inr (fun _ => none)))))), (e1b, .inl (E.2.1 1, 4, .inl (fun _ => 0))), (e1c, .inl (E.2.1 1, 4, .inl (fun _ => 0))), (e1d, .inl (E.2.1 1, 16, .inl (fun _ => 0))), (e2, .inr (0, [.int 0, .int 0, .ref e2a, .ref e2b, .ref e2c, .ref e2d])), (e2a, .inl (E.2.1 7, 4, .inr (.inr (.inr (.inr (fun _ => none)))))), (e2b, .inl (E.2.1 1, 4, .inl (fun _ => 0))), (e2c, .inl (E.2.1 1, 4, .inl (fun _ => 0))), (e2d, .inl (E.2.1 1, 16, .inl (fun _ => 0))), (e3, .inr (0, [.int 0, .int 0, .ref e3a, .ref e3b, .ref e3c, .ref e3d])), (e3a, .inl (E.2.1 7, 4, .inr (.inr (.inr (.inr (fun _ => none)))))), (e3b, .inl (E.2.1 1, 4, .inl (fun _ => 0))), (e3c, .inl (E.2.1 1, 4, .inl (fun _ => 0))), (e3d, .inl (E.2.1 1, 16, .inl (fun _ => 0)))]) ?_ rfl rfl rfl
        refine ww_iconst (v := 1) C dX11_event_33 rfl ?_
        exact ww_iret (u := []) C hT [] rfl rfl rfl rfl dX11_event_34 (Or.inr ⟨rfl, rfl, (by first | assumption | omega | decide), (by first | assumption | omega | decide), (by first | assumption | omega | decide), (by first | assumption | omega | decide)⟩)
      · refine ww_iload_n C dX11_event_27 1 rfl rfl ?_
        refine ww_ald (v := (some e1)) (t0 := 4) C 2 rfl rfl (vin rfl) k_fe_1 dX11_event_28 ?_
        refine ww_eq (st' := [.ref e1]) ?_ rfl rfl rfl
        refine ww_iload_n C dX11_event_29 2 rfl rfl ?_
        refine ww_cv (wr := [(hx, .inr (11, [.ref qn, .ref qp, .int 0, .int 0, .ref qs, .ref qj, .ref ql, .ref qh, .ref qk, .int 0, .ref qr, .ref qg, .int 0, .int 0, .ref qsh])), (qj, .inr (2, [.ref jt, .ref je, .ref ju, .ref ja])), (je, .inl (E.2.1 4, 4, .inr (.inr (.inr (.inr fe))))), (e0, .inr (0, [.int 0, .int 0, .ref e0a, .ref e0b, .ref e0c, .ref e0d])), (e0a, .inl (E.2.1 7, 4, .inr (.inr (.inr (.inr (fun _ => none)))))), (e0b, .inl (E.2.1 1, 4, .inl (fun _ => 0))), (e0c, .inl (E.2.1 1, 4, .inl (fun _ => 0))), (e0d, .inl (E.2.1 1, 16, .inl (fun _ => 0))), (e2, .inr (0, [.int 0, .int 0, .ref e2a, .ref e2b, .ref e2c, .ref e2d])), (e2a, .inl (E.2.1 7, 4, .inr (.inr (.inr (.inr (fun _ => none)))))), (e2b, .inl (E.2.1 1, 4, .inl (fun _ => 0))), (e2c, .inl (E.2.1 1, 4, .inl (fun _ => 0))), (e2d, .inl (E.2.1 1, 16, .inl (fun _ => 0))), (e3, .inr (0, [.int 0, .int 0, .ref e3a, .ref e3b, .ref e3c, .ref e3d])), (e3a, .inl (E.2.1 7, 4, .inr (.inr (.inr (.inr (fun _ => none)))))), (e3b, .inl (E.2.1 1, 4, .inl (fun _ => 0))), (e3c, .inl (E.2.1 1, 4, .inl (fun _ => 0))), (e3d, .inl (E.2.1 1, 16, .inl (fun _ => 0)))]) (k' := 0) (n' := 0) C (run_V (As := [.int p1]) (rest := []) C (c_ebegin X.2.1 E e1 p1 e1a e1b e1c e1d) mi_X0_begin wl_X11_197 rfl 0 0 rfl rfl rfl rfl rfl dX11_event_30) [8, 9, 10, 11, 12] [0, 1, 2, 3, 4, 5, 6, 7, 13, 14, 15, 16, 17, 18, 19, 20, 21, 22] rfl rfl rfl rfl (fun u hw => ?_)
        obtain ⟨rfl⟩ := hw
        refine ww_eq (ws' := [(hx, .inr (11, [.ref qn, .ref qp, .int 0, .int 0, .ref qs, .ref qj, .ref ql, .ref qh, .ref qk, .int 0, .ref qr, .ref qg, .int 0, .int 0, .ref qsh])), (qj, .inr (2, [.ref jt, .ref je, .ref ju, .ref ja])), (je, .inl (E.2.1 4, 4, .inr (.inr (.inr (.inr fe))))), (e0, .inr (0, [.int 0, .int 0, .ref e0a, .ref e0b, .ref e0c, .ref e0d])), (e0a, .inl (E.2.1 7, 4, .inr (.inr (.inr (.inr (fun _ => none)))))), (e0b, .inl (E.2.1 1, 4, .inl (fun _ => 0))), (e0c, .inl (E.2.1 1, 4, .inl (fun _ => 0))), (e0d, .inl (E.2.1 1, 16, .inl (fun _ => 0))), (e2, .inr (0, [.int 0, .int 0, .ref e2a, .ref e2b, .ref e2c, .ref e2d])), (e2a, .inl (E.2.1 7, 4, .inr (.inr (.inr (.inr (fun _ => none)))))), (e2b, .inl (E.2.1 1, 4, .inl (fun _ => 0))), (e2c, .inl (E.2.1 1, 4, .inl (fun _ => 0))), (e2d, .inl (E.2.1 1, 16, .inl (fun _ => 0))), (e3, .inr (0, [.int 0, .int 0, .ref e3a, .ref e3b, .ref e3c, .ref e3d])), (e3a, .inl (E.2.1 7, 4, .inr (.inr (.inr (.inr (fun _ => none)))))), (e3b, .inl (E.2.1 1, 4, .inl (fun _ => 0))), (e3c, .inl (E.2.1 1, 4, .inl (fun _ => 0))), (e3d, .inl (E.2.1 1, 16, .inl (fun _ => 0)))]) ?_ rfl rfl rfl
        refine ww_iconst (v := 1) C dX11_event_33 rfl ?_
        exact ww_iret (u := []) C hT [] rfl rfl rfl rfl dX11_event_34 (Or.inr ⟨rfl, rfl, (by first | assumption | omega | decide), (by first | assumption | omega | decide), (by first | assumption | omega | decide), (by first | assumption | omega | decide)⟩)
      · refine ww_iload_n C dX11_event_27 1 rfl rfl ?_
        refine ww_ald (v := (some e2)) (t0 := 4) C 2 rfl rfl (vin rfl) k_fe_2 dX11_event_28 ?_
        refine ww_eq (st' := [.ref e2]) ?_ rfl rfl rfl
        refine ww_iload_n C dX11_event_29 2 rfl rfl ?_
        refine ww_cv (wr := [(hx, .inr (11, [.ref qn, .ref qp, .int 0, .int 0, .ref qs, .ref qj, .ref ql, .ref qh, .ref qk, .int 0, .ref qr, .ref qg, .int 0, .int 0, .ref qsh])), (qj, .inr (2, [.ref jt, .ref je, .ref ju, .ref ja])), (je, .inl (E.2.1 4, 4, .inr (.inr (.inr (.inr fe))))), (e0, .inr (0, [.int 0, .int 0, .ref e0a, .ref e0b, .ref e0c, .ref e0d])), (e0a, .inl (E.2.1 7, 4, .inr (.inr (.inr (.inr (fun _ => none)))))), (e0b, .inl (E.2.1 1, 4, .inl (fun _ => 0))), (e0c, .inl (E.2.1 1, 4, .inl (fun _ => 0))), (e0d, .inl (E.2.1 1, 16, .inl (fun _ => 0))), (e1, .inr (0, [.int 0, .int 0, .ref e1a, .ref e1b, .ref e1c, .ref e1d])), (e1a, .inl (E.2.1 7, 4, .inr (.inr (.inr (.inr (fun _ => none)))))), (e1b, .inl (E.2.1 1, 4, .inl (fun _ => 0))), (e1c, .inl (E.2.1 1, 4, .inl (fun _ => 0))), (e1d, .inl (E.2.1 1, 16, .inl (fun _ => 0))), (e3, .inr (0, [.int 0, .int 0, .ref e3a, .ref e3b, .ref e3c, .ref e3d])), (e3a, .inl (E.2.1 7, 4, .inr (.inr (.inr (.inr (fun _ => none)))))), (e3b, .inl (E.2.1 1, 4, .inl (fun _ => 0))), (e3c, .inl (E.2.1 1, 4, .inl (fun _ => 0))), (e3d, .inl (E.2.1 1, 16, .inl (fun _ => 0)))]) (k' := 0) (n' := 0) C (run_V (As := [.int p1]) (rest := []) C (c_ebegin X.2.1 E e2 p1 e2a e2b e2c e2d) mi_X0_begin wl_X11_197 rfl 0 0 rfl rfl rfl rfl rfl dX11_event_30) [13, 14, 15, 16, 17] [0, 1, 2, 3, 4, 5, 6, 7, 8, 9, 10, 11, 12, 18, 19, 20, 21, 22] rfl rfl rfl rfl (fun u hw => ?_)
        obtain ⟨rfl⟩ := hw
        refine ww_eq (ws' := [(hx, .inr (11, [.ref qn, .ref qp, .int 0, .int 0, .ref qs, .ref qj, .ref ql, .ref qh, .ref qk, .int 0, .ref qr, .ref qg, .int 0, .int 0, .ref qsh])), (qj, .inr (2, [.ref jt, .ref je, .ref ju, .ref ja])), (je, .inl (E.2.1 4, 4, .inr (.inr (.inr (.inr fe))))), (e0, .inr (0, [.int 0, .int 0, .ref e0a, .ref e0b, .ref e0c, .ref e0d])), (e0a, .inl (E.2.1 7, 4, .inr (.inr (.inr (.inr (fun _ => none)))))), (e0b, .inl (E.2.1 1, 4, .inl (fun _ => 0))), (e0c, .inl (E.2.1 1, 4, .inl (fun _ => 0))), (e0d, .inl (E.2.1 1, 16, .inl (fun _ => 0))), (e1, .inr (0, [.int 0, .int 0, .ref e1a, .ref e1b, .ref e1c, .ref e1d])), (e1a, .inl (E.2.1 7, 4, .inr (.inr (.inr (.inr (fun _ => none)))))), (e1b, .inl (E.2.1 1, 4, .inl (fun _ => 0))), (e1c, .inl (E.2.1 1, 4, .inl (fun _ => 0))), (e1d, .inl (E.2.1 1, 16, .inl (fun _ => 0))), (e3, .inr (0, [.int 0, .int 0, .ref e3a, .ref e3b, .ref e3c, .ref e3d])), (e3a, .inl (E.2.1 7, 4, .inr (.inr (.inr (.inr (fun _ => none)))))), (e3b, .inl (E.2.1 1, 4, .inl (fun _ => 0))), (e3c, .inl (E.2.1 1, 4, .inl (fun _ => 0))), (e3d, .inl (E.2.1 1, 16, .inl (fun _ => 0)))]) ?_ rfl rfl rfl
        refine ww_iconst (v := 1) C dX11_event_33 rfl ?_
        exact ww_iret (u := []) C hT [] rfl rfl rfl rfl dX11_event_34 (Or.inr ⟨rfl, rfl, (by first | assumption | omega | decide), (by first | assumption | omega | decide), (by first | assumption | omega | decide), (by first | assumption | omega | decide)⟩)
      · refine ww_iload_n C dX11_event_27 1 rfl rfl ?_
        refine ww_ald (v := (some e3)) (t0 := 4) C 2 rfl rfl (vin rfl) k_fe_3 dX11_event_28 ?_
        refine ww_eq (st' := [.ref e3]) ?_ rfl rfl rfl
        refine ww_iload_n C dX11_event_29 2 rfl rfl ?_
        refine ww_cv (wr := [(hx, .inr (11, [.ref qn, .ref qp, .int 0, .int 0, .ref qs, .ref qj, .ref ql, .ref qh, .ref qk, .int 0, .ref qr, .ref qg, .int 0, .int 0, .ref qsh])), (qj, .inr (2, [.ref jt, .ref je, .ref ju, .ref ja])), (je, .inl (E.2.1 4, 4, .inr (.inr (.inr (.inr fe))))), (e0, .inr (0, [.int 0, .int 0, .ref e0a, .ref e0b, .ref e0c, .ref e0d])), (e0a, .inl (E.2.1 7, 4, .inr (.inr (.inr (.inr (fun _ => none)))))), (e0b, .inl (E.2.1 1, 4, .inl (fun _ => 0))), (e0c, .inl (E.2.1 1, 4, .inl (fun _ => 0))), (e0d, .inl (E.2.1 1, 16, .inl (fun _ => 0))), (e1, .inr (0, [.int 0, .int 0, .ref e1a, .ref e1b, .ref e1c, .ref e1d])), (e1a, .inl (E.2.1 7, 4, .inr (.inr (.inr (.inr (fun _ => none)))))), (e1b, .inl (E.2.1 1, 4, .inl (fun _ => 0))), (e1c, .inl (E.2.1 1, 4, .inl (fun _ => 0))), (e1d, .inl (E.2.1 1, 16, .inl (fun _ => 0))), (e2, .inr (0, [.int 0, .int 0, .ref e2a, .ref e2b, .ref e2c, .ref e2d])), (e2a, .inl (E.2.1 7, 4, .inr (.inr (.inr (.inr (fun _ => none)))))), (e2b, .inl (E.2.1 1, 4, .inl (fun _ => 0))), (e2c, .inl (E.2.1 1, 4, .inl (fun _ => 0))), (e2d, .inl (E.2.1 1, 16, .inl (fun _ => 0)))]) (k' := 0) (n' := 0) C (run_V (As := [.int p1]) (rest := []) C (c_ebegin X.2.1 E e3 p1 e3a e3b e3c e3d) mi_X0_begin wl_X11_197 rfl 0 0 rfl rfl rfl rfl rfl dX11_event_30) [18, 19, 20, 21, 22] [0, 1, 2, 3, 4, 5, 6, 7, 8, 9, 10, 11, 12, 13, 14, 15, 16, 17] rfl rfl rfl rfl (fun u hw => ?_)
        obtain ⟨rfl⟩ := hw
        refine ww_eq (ws' := [(hx, .inr (11, [.ref qn, .ref qp, .int 0, .int 0, .ref qs, .ref qj, .ref ql, .ref qh, .ref qk, .int 0, .ref qr, .ref qg, .int 0, .int 0, .ref qsh])), (qj, .inr (2, [.ref jt, .ref je, .ref ju, .ref ja])), (je, .inl (E.2.1 4, 4, .inr (.inr (.inr (.inr fe))))), (e0, .inr (0, [.int 0, .int 0, .ref e0a, .ref e0b, .ref e0c, .ref e0d])), (e0a, .inl (E.2.1 7, 4, .inr (.inr (.inr (.inr (fun _ => none)))))), (e0b, .inl (E.2.1 1, 4, .inl (fun _ => 0))), (e0c, .inl (E.2.1 1, 4, .inl (fun _ => 0))), (e0d, .inl (E.2.1 1, 16, .inl (fun _ => 0))), (e1, .inr (0, [.int 0, .int 0, .ref e1a, .ref e1b, .ref e1c, .ref e1d])), (e1a, .inl (E.2.1 7, 4, .inr (.inr (.inr (.inr (fun _ => none)))))), (e1b, .inl (E.2.1 1, 4, .inl (fun _ => 0))), (e1c, .inl (E.2.1 1, 4, .inl (fun _ => 0))), (e1d, .inl (E.2.1 1, 16, .inl (fun _ => 0))), (e2, .inr (0, [.int 0, .int 0, .ref e2a, .ref e2b, .ref e2c, .ref e2d])), (e2a, .inl (E.2.1 7, 4, .inr (.inr (.inr (.inr (fun _ => none)))))), (e2b, .inl (E.2.1 1, 4, .inl (fun _ => 0))), (e2c, .inl (E.2.1 1, 4, .inl (fun _ => 0))), (e2d, .inl (E.2.1 1, 16, .inl (fun _ => 0)))]) ?_ rfl rfl rfl
        refine ww_iconst (v := 1) C dX11_event_33 rfl ?_
        exact ww_iret (u := []) C hT [] rfl rfl rfl rfl dX11_event_34 (Or.inr ⟨rfl, rfl, (by first | assumption | omega | decide), (by first | assumption | omega | decide), (by first | assumption | omega | decide), (by first | assumption | omega | decide)⟩)
    · refine ww_eq (ws' := [(hx, .inr (11, [.ref qn, .ref qp, .int 0, .int 0, .ref qs, .ref qj, .ref ql, .ref qh, .ref qk, .int 0, .ref qr, .ref qg, .int 0, .int 0, .ref qsh])), (qj, .inr (2, [.ref jt, .ref je, .ref ju, .ref ja])), (je, .inl (E.2.1 4, 4, .inr (.inr (.inr (.inr fe))))), (e0, .inr (0, [.int 0, .int 0, .ref e0a, .ref e0b, .ref e0c, .ref e0d])), (e0a, .inl (E.2.1 7, 4, .inr (.inr (.inr (.inr (fun _ => none)))))), (e0b, .inl (E.2.1 1, 4, .inl (fun _ => 0))), (e0c, .inl (E.2.1 1, 4, .inl (fun _ => 0))), (e0d, .inl (E.2.1 1, 16, .inl (fun _ => 0))), (e1, .inr (0, [.int 0, .int 0, .ref e1a, .ref e1b, .ref e1c, .ref e1d])), (e1a, .inl (E.2.1 7, 4, .inr (.inr (.inr (.inr (fun _ => none)))))), (e1b, .inl (E.2.1 1, 4, .inl (fun _ => 0))), (e1c, .inl (E.2.1 1, 4, .inl (fun _ => 0))), (e1d, .inl (E.2.1 1, 16, .inl (fun _ => 0))), (e2, .inr (0, [.int 0, .int 0, .ref e2a, .ref e2b, .ref e2c, .ref e2d])), (e2a, .inl (E.2.1 7, 4, .inr (.inr (.inr (.inr (fun _ => none)))))), (e2b, .inl (E.2.1 1, 4, .inl (fun _ => 0))), (e2c, .inl (E.2.1 1, 4, .inl (fun _ => 0))), (e2d, .inl (E.2.1 1, 16, .inl (fun _ => 0))), (e3, .inr (0, [.int 0, .int 0, .ref e3a, .ref e3b, .ref e3c, .ref e3d])), (e3a, .inl (E.2.1 7, 4, .inr (.inr (.inr (.inr (fun _ => none)))))), (e3b, .inl (E.2.1 1, 4, .inl (fun _ => 0))), (e3c, .inl (E.2.1 1, 4, .inl (fun _ => 0))), (e3d, .inl (E.2.1 1, 16, .inl (fun _ => 0)))]) ?_ rfl rfl rfl
      refine ww_if_ne_f (tgt := 20) C dX11_event_15 (by decide) (rfl) ?_
      refine ww_iconst (v := (-1)) C dX11_event_18 rfl ?_
      exact ww_iret (u := []) C hT [] rfl rfl rfl rfl dX11_event_19 (Or.inl ⟨rfl, rfl, (by first | assumption | omega | decide)⟩)
  · refine ww_eq (ws' := [(hx, .inr (11, [.ref qn, .ref qp, .int 0, .int 0, .ref qs, .ref qj, .ref ql, .ref qh, .ref qk, .int 0, .ref qr, .ref qg, .int 0, .int 0, .ref qsh])), (qj, .inr (2, [.ref jt, .ref je, .ref ju, .ref ja])), (je, .inl (E.2.1 4, 4, .inr (.inr (.inr (.inr fe))))), (e0, .inr (0, [.int 0, .int 0, .ref e0a, .ref e0b, .ref e0c, .ref e0d])), (e0a, .inl (E.2.1 7, 4, .inr (.inr (.inr (.inr (fun _ => none)))))), (e0b, .inl (E.2.1 1, 4, .inl (fun _ => 0))), (e0c, .inl (E.2.1 1, 4, .inl (fun _ => 0))), (e0d, .inl (E.2.1 1, 16, .inl (fun _ => 0))), (e1, .inr (0, [.int 0, .int 0, .ref e1a, .ref e1b, .ref e1c, .ref e1d])), (e1a, .inl (E.2.1 7, 4, .inr (.inr (.inr (.inr (fun _ => none)))))), (e1b, .inl (E.2.1 1, 4, .inl (fun _ => 0))), (e1c, .inl (E.2.1 1, 4, .inl (fun _ => 0))), (e1d, .inl (E.2.1 1, 16, .inl (fun _ => 0))), (e2, .inr (0, [.int 0, .int 0, .ref e2a, .ref e2b, .ref e2c, .ref e2d])), (e2a, .inl (E.2.1 7, 4, .inr (.inr (.inr (.inr (fun _ => none)))))), (e2b, .inl (E.2.1 1, 4, .inl (fun _ => 0))), (e2c, .inl (E.2.1 1, 4, .inl (fun _ => 0))), (e2d, .inl (E.2.1 1, 16, .inl (fun _ => 0))), (e3, .inr (0, [.int 0, .int 0, .ref e3a, .ref e3b, .ref e3c, .ref e3d])), (e3a, .inl (E.2.1 7, 4, .inr (.inr (.inr (.inr (fun _ => none)))))), (e3b, .inl (E.2.1 1, 4, .inl (fun _ => 0))), (e3c, .inl (E.2.1 1, 4, .inl (fun _ => 0))), (e3d, .inl (E.2.1 1, 16, .inl (fun _ => 0)))]) ?_ rfl rfl rfl
    refine ww_if_eq_t (tgt := 18) C dX11_event_6 (by decide) (rfl) ?_
    refine ww_iconst (v := (-1)) C dX11_event_18 rfl ?_
    exact ww_iret (u := []) C hT [] rfl rfl rfl rfl dX11_event_19 (Or.inl ⟨rfl, rfl, (by first | assumption | omega | decide)⟩)
theorem dX11_when_0 : decode cX11_when 0 = .ok (.aload_n 0, 1) := by decide +kernel
theorem dX11_when_1 : decode cX11_when 1 = .ok (.iload_n 1, 1) := by decide +kernel
theorem dX11_when_2 : decode cX11_when 2 = .ok (.iload_n 2, 1) := by decide +kernel
theorem dX11_when_3 : decode cX11_when 3 = .ok (.invokevirtual 201, 3) := by decide +kernel
theorem wl_X11_201 : Cond.methodLink RX11 201 yX11_isCase ∈ TB := tbm (tq4 (List.mem_of_getElem? (i := 63) (by decide +kernel))) (by decide +kernel)
theorem wc_X11_isCase : Cond.code yX11_isCase cX11_isCase 3 (some .boolean) ∈ TB := tbm (tq4 (List.mem_of_getElem? (i := 66) (rfl))) (by decide +kernel)
theorem wi_X11_isCase : Cond.instanceMethod yX11_isCase ∈ TB := tbm (tq4 (List.mem_of_getElem? (i := 65) (by decide +kernel))) (by decide +kernel)
theorem ws_X11_isCase : Cond.selects RX11 yX11_isCase yX11_isCase ∈ TB := tbm (tq0 (List.mem_of_getElem? (i := 22) (by decide +kernel))) (by decide +kernel)
theorem mi_X11_isCase : MI yX11_isCase cX11_isCase 3 (some .boolean) 2 := ⟨wc_X11_isCase, wn_X11, ⟨by decide +kernel, by decide +kernel, by decide +kernel⟩, wi_X11_isCase, ws_X11_isCase⟩
theorem dX11_when_6 : decode cX11_when 6 = .ok (.ifCond .eq 17, 3) := by decide +kernel
theorem dX11_when_23 : decode cX11_when 23 = .ok (.iconst (-1), 1) := by decide +kernel
theorem dX11_when_24 : decode cX11_when 24 = .ok (.ireturn, 1) := by decide +kernel
set_option maxRecDepth 100000 in
set_option maxHeartbeats 4000000 in
theorem x_when (l : Launch) (E : EV) (hx : Nat) (p0 : Int32) (p1 : Int32) (p2 : Int32) (p3 : Int32) (p4 : Int32) (qn : Nat) (qp : Nat) (qs : Nat) (qj : Nat) (ql : Nat) (qh : Nat) (qk : Nat) (qr : Nat) (qg : Nat) (qsh : Nat) (jt : Nat) (je : Nat) (ju : Nat) (ja : Nat) (fe : Nat → Option Nat) (e0 : Nat) (e1 : Nat) (e2 : Nat) (e3 : Nat) (e0a : Nat) (e0b : Nat) (e0c : Nat) (e0d : Nat) (e1a : Nat) (e1b : Nat) (e1c : Nat) (e1d : Nat) (e2a : Nat) (e2b : Nat) (e2c : Nat) (e2d : Nat) (e3a : Nat) (e3b : Nat) (e3c : Nat) (e3d : Nat) (k_fe_0 : fe 0 = some e0) (k_fe_1 : fe 1 = some e1) (k_fe_2 : fe 2 = some e2) (k_fe_3 : fe 3 = some e3) : CT l yX11_when (Cond.code yX11_when cX11_when 6 (some .int) :: TB) ({ frames := 3, cells := 0, slots := 0, locals := 65 }) E [.ref hx, .int p0, .int p1, .int p2, .int p3, .int p4] [(hx, .inr (11, [.ref qn, .ref qp, .int 0, .int 0, .ref qs, .ref qj, .ref ql, .ref qh, .ref qk, .int 0, .ref qr, .ref qg, .int 0, .int 0, .ref qsh])), (qj, .inr (2, [.ref jt, .ref je, .ref ju, .ref ja])), (je, .inl (E.2.1 4, 4, .inr (.inr (.inr (.inr fe))))), (e0, .inr (0, [.int 0, .int 0, .ref e0a, .ref e0b, .ref e0c, .ref e0d])), (e1, .inr (0, [.int 0, .int 0, .ref e1a, .ref e1b, .ref e1c, .ref e1d])), (e2, .inr (0, [.int 0, .int 0, .ref e2a, .ref e2b, .ref e2c, .ref e2d])), (e3, .inr (0, [.int 0, .int 0, .ref e3a, .ref e3b, .ref e3c, .ref e3d]))] (Qi E (fun (r : Int32) u => (r = (-1) ∧ u = []))) 0 0 := by
  refine ct_of rfl rfl ?_
  intro X C hT hin
  show WW X 6 E 0 [(0, .ref hx), (1, .int p0), (2, .int p1), (3, .int p2), (4, .int p3), (5, .int p4)] [] [(hx, .inr (11, [.ref qn, .ref qp, .int 0, .int 0, .ref qs, .ref qj, .ref ql, .ref qh, .ref qk, .int 0, .ref qr, .ref qg, .int 0, .int 0, .ref qsh])), (qj, .inr (2, [.ref jt, .ref je, .ref ju, .ref ja])), (je, .inl (E.2.1 4, 4, .inr (.inr (.inr (.inr fe))))), (e0, .inr (0, [.int 0, .int 0, .ref e0a, .ref e0b, .ref e0c, .ref e0d])), (e1, .inr (0, [.int 0, .int 0, .ref e1a, .ref e1b, .ref e1c, .ref e1d])), (e2, .inr (0, [.int 0, .int 0, .ref e2a, .ref e2b, .ref e2c, .ref e2d])), (e3, .inr (0, [.int 0, .int 0, .ref e3a, .ref e3b, .ref e3c, .ref e3d]))] 0 0
  refine ww_aload_n C dX11_when_0 0 rfl rfl ?_
  refine ww_iload_n C dX11_when_1 1 rfl rfl ?_
  refine ww_iload_n C dX11_when_2 2 rfl rfl ?_
  refine ww_ci (wr := []) (k' := 0) (n' := 0) C (run_V (As := [.int p0, .int p1]) (rest := []) C (c_isCase X.2.1 E hx p0 p1 qn qp qs qj ql qh qk qr qg qsh jt je ju ja fe e0 e1 e2 e3 e0a e0b e0c e0d e1a e1b e1c e1d e2a e2b e2c e2d e3a e3b e3c e3d k_fe_0 k_fe_1 k_fe_2 k_fe_3) mi_X11_isCase wl_X11_201 rfl 0 11 rfl rfl rfl rfl rfl dX11_when_3) [0, 1, 2, 3, 4, 5, 6] [] rfl rfl rfl rfl (fun r u hw => ?_)
  obtain ⟨rfl, rfl⟩ := hw
  refine ww_eq (ws' := [(hx, .inr (11, [.ref qn, .ref qp, .int 0, .int 0, .ref qs, .ref qj, .ref ql, .ref qh, .ref qk, .int 0, .ref qr, .ref qg, .int 0, .int 0, .ref qsh])), (qj, .inr (2, [.ref jt, .ref je, .ref ju, .ref ja])), (je, .inl (E.2.1 4, 4, .inr (.inr (.inr (.inr fe))))), (e0, .inr (0, [.int 0, .int 0, .ref e0a, .ref e0b, .ref e0c, .ref e0d])), (e1, .inr (0, [.int 0, .int 0, .ref e1a, .ref e1b, .ref e1c, .ref e1d])), (e2, .inr (0, [.int 0, .int 0, .ref e2a, .ref e2b, .ref e2c, .ref e2d])), (e3, .inr (0, [.int 0, .int 0, .ref e3a, .ref e3b, .ref e3c, .ref e3d]))]) ?_ rfl rfl rfl
  refine ww_if_eq_t (tgt := 23) C dX11_when_6 (by decide) (rfl) ?_
  refine ww_iconst (v := (-1)) C dX11_when_23 rfl ?_
  exact ww_iret (u := []) C hT [] rfl rfl rfl rfl dX11_when_24 (⟨rfl, rfl⟩)
theorem dX11_hears_0 : decode cX11_hears 0 = .ok (.aload_n 0, 1) := by decide +kernel
theorem dX11_hears_1 : decode cX11_hears 1 = .ok (.iload_n 1, 1) := by decide +kernel
theorem dX11_hears_2 : decode cX11_hears 2 = .ok (.iload_n 3, 1) := by decide +kernel
theorem dX11_hears_3 : decode cX11_hears 3 = .ok (.invokevirtual 201, 3) := by decide +kernel
theorem dX11_hears_6 : decode cX11_hears 6 = .ok (.ifCond .eq 22, 3) := by decide +kernel
theorem dX11_hears_28 : decode cX11_hears 28 = .ok (.iconst (-1), 1) := by decide +kernel
theorem dX11_hears_29 : decode cX11_hears 29 = .ok (.ireturn, 1) := by decide +kernel
set_option maxRecDepth 100000 in
set_option maxHeartbeats 4000000 in
theorem x_hears (l : Launch) (E : EV) (hx : Nat) (p0 : Int32) (p1 : Int32) (p2 : Int32) (p3 : Int32) (p4 : Int32) (qn : Nat) (qp : Nat) (qs : Nat) (qj : Nat) (ql : Nat) (qh : Nat) (qk : Nat) (qr : Nat) (qg : Nat) (qsh : Nat) (jt : Nat) (je : Nat) (ju : Nat) (ja : Nat) (fe : Nat → Option Nat) (e0 : Nat) (e1 : Nat) (e2 : Nat) (e3 : Nat) (e0a : Nat) (e0b : Nat) (e0c : Nat) (e0d : Nat) (e1a : Nat) (e1b : Nat) (e1c : Nat) (e1d : Nat) (e2a : Nat) (e2b : Nat) (e2c : Nat) (e2d : Nat) (e3a : Nat) (e3b : Nat) (e3c : Nat) (e3d : Nat) (k_fe_0 : fe 0 = some e0) (k_fe_1 : fe 1 = some e1) (k_fe_2 : fe 2 = some e2) (k_fe_3 : fe 3 = some e3) : CT l yX11_hears (Cond.code yX11_hears cX11_hears 6 (some .int) :: TB) ({ frames := 3, cells := 0, slots := 0, locals := 65 }) E [.ref hx, .int p0, .int p1, .int p2, .int p3, .int p4] [(hx, .inr (11, [.ref qn, .ref qp, .int 0, .int 0, .ref qs, .ref qj, .ref ql, .ref qh, .ref qk, .int 0, .ref qr, .ref qg, .int 0, .int 0, .ref qsh])), (qj, .inr (2, [.ref jt, .ref je, .ref ju, .ref ja])), (je, .inl (E.2.1 4, 4, .inr (.inr (.inr (.inr fe))))), (e0, .inr (0, [.int 0, .int 0, .ref e0a, .ref e0b, .ref e0c, .ref e0d])), (e1, .inr (0, [.int 0, .int 0, .ref e1a, .ref e1b, .ref e1c, .ref e1d])), (e2, .inr (0, [.int 0, .int 0, .ref e2a, .ref e2b, .ref e2c, .ref e2d])), (e3, .inr (0, [.int 0, .int 0, .ref e3a, .ref e3b, .ref e3c, .ref e3d]))] (Qi E (fun (r : Int32) u => (r = (-1) ∧ u = []))) 0 0 := by
  refine ct_of rfl rfl ?_
  intro X C hT hin
  show WW X 6 E 0 [(0, .ref hx), (1, .int p0), (2, .int p1), (3, .int p2), (4, .int p3), (5, .int p4)] [] [(hx, .inr (11, [.ref qn, .ref qp, .int 0, .int 0, .ref qs, .ref qj, .ref ql, .ref qh, .ref qk, .int 0, .ref qr, .ref qg, .int 0, .int 0, .ref qsh])), (qj, .inr (2, [.ref jt, .ref je, .ref ju, .ref ja])), (je, .inl (E.2.1 4, 4, .inr (.inr (.inr (.inr fe))))), (e0, .inr (0, [.int 0, .int 0, .ref e0a, .ref e0b, .ref e0c, .ref e0d])), (e1, .inr (0, [.int 0, .int 0, .ref e1a, .ref e1b, .ref e1c, .ref e1d])), (e2, .inr (0, [.int 0, .int 0, .ref e2a, .ref e2b, .ref e2c, .ref e2d])), (e3, .inr (0, [.int 0, .int 0, .ref e3a, .ref e3b, .ref e3c, .ref e3d]))] 0 0
  refine ww_aload_n C dX11_hears_0 0 rfl rfl ?_
  refine ww_iload_n C dX11_hears_1 1 rfl rfl ?_
  refine ww_iload_n C dX11_hears_2 3 rfl rfl ?_
  refine ww_ci (wr := []) (k' := 0) (n' := 0) C (run_V (As := [.int p0, .int p2]) (rest := []) C (c_isCase X.2.1 E hx p0 p2 qn qp qs qj ql qh qk qr qg qsh jt je ju ja fe e0 e1 e2 e3 e0a e0b e0c e0d e1a e1b e1c e1d e2a e2b e2c e2d e3a e3b e3c e3d k_fe_0 k_fe_1 k_fe_2 k_fe_3) mi_X11_isCase wl_X11_201 rfl 0 11 rfl rfl rfl rfl rfl dX11_hears_3) [0, 1, 2, 3, 4, 5, 6] [] rfl rfl rfl rfl (fun r u hw => ?_)
  obtain ⟨rfl, rfl⟩ := hw
  refine ww_eq (ws' := [(hx, .inr (11, [.ref qn, .ref qp, .int 0, .int 0, .ref qs, .ref qj, .ref ql, .ref qh, .ref qk, .int 0, .ref qr, .ref qg, .int 0, .int 0, .ref qsh])), (qj, .inr (2, [.ref jt, .ref je, .ref ju, .ref ja])), (je, .inl (E.2.1 4, 4, .inr (.inr (.inr (.inr fe))))), (e0, .inr (0, [.int 0, .int 0, .ref e0a, .ref e0b, .ref e0c, .ref e0d])), (e1, .inr (0, [.int 0, .int 0, .ref e1a, .ref e1b, .ref e1c, .ref e1d])), (e2, .inr (0, [.int 0, .int 0, .ref e2a, .ref e2b, .ref e2c, .ref e2d])), (e3, .inr (0, [.int 0, .int 0, .ref e3a, .ref e3b, .ref e3c, .ref e3d]))]) ?_ rfl rfl rfl
  refine ww_if_eq_t (tgt := 28) C dX11_hears_6 (by decide) (rfl) ?_
  refine ww_iconst (v := (-1)) C dX11_hears_28 rfl ?_
  exact ww_iret (u := []) C hT [] rfl rfl rfl rfl dX11_hears_29 (⟨rfl, rfl⟩)
theorem dX11_happens_0 : decode cX11_happens 0 = .ok (.aload_n 0, 1) := by decide +kernel
theorem dX11_happens_1 : decode cX11_happens 1 = .ok (.iload_n 1, 1) := by decide +kernel
theorem dX11_happens_2 : decode cX11_happens 2 = .ok (.iload_n 2, 1) := by decide +kernel
theorem dX11_happens_3 : decode cX11_happens 3 = .ok (.invokevirtual 201, 3) := by decide +kernel
theorem dX11_happens_6 : decode cX11_happens 6 = .ok (.ifCond .ne 5, 3) := by decide +kernel
theorem dX11_happens_9 : decode cX11_happens 9 = .ok (.iconst (-1), 1) := by decide +kernel
theorem dX11_happens_10 : decode cX11_happens 10 = .ok (.ireturn, 1) := by decide +kernel
set_option maxRecDepth 100000 in
set_option maxHeartbeats 4000000 in
theorem x_happens (l : Launch) (E : EV) (hx : Nat) (p0 : Int32) (p1 : Int32) (qn : Nat) (qp : Nat) (qs : Nat) (qj : Nat) (ql : Nat) (qh : Nat) (qk : Nat) (qr : Nat) (qg : Nat) (qsh : Nat) (jt : Nat) (je : Nat) (ju : Nat) (ja : Nat) (fe : Nat → Option Nat) (e0 : Nat) (e1 : Nat) (e2 : Nat) (e3 : Nat) (e0a : Nat) (e0b : Nat) (e0c : Nat) (e0d : Nat) (e1a : Nat) (e1b : Nat) (e1c : Nat) (e1d : Nat) (e2a : Nat) (e2b : Nat) (e2c : Nat) (e2d : Nat) (e3a : Nat) (e3b : Nat) (e3c : Nat) (e3d : Nat) (k_fe_0 : fe 0 = some e0) (k_fe_1 : fe 1 = some e1) (k_fe_2 : fe 2 = some e2) (k_fe_3 : fe 3 = some e3) : CT l yX11_happens (Cond.code yX11_happens cX11_happens 4 (some .int) :: TB) ({ frames := 3, cells := 0, slots := 0, locals := 65 }) E [.ref hx, .int p0, .int p1] [(hx, .inr (11, [.ref qn, .ref qp, .int 0, .int 0, .ref qs, .ref qj, .ref ql, .ref qh, .ref qk, .int 0, .ref qr, .ref qg, .int 0, .int 0, .ref qsh])), (qj, .inr (2, [.ref jt, .ref je, .ref ju, .ref ja])), (je, .inl (E.2.1 4, 4, .inr (.inr (.inr (.inr fe))))), (e0, .inr (0, [.int 0, .int 0, .ref e0a, .ref e0b, .ref e0c, .ref e0d])), (e1, .inr (0, [.int 0, .int 0, .ref e1a, .ref e1b, .ref e1c, .ref e1d])), (e2, .inr (0, [.int 0, .int 0, .ref e2a, .ref e2b, .ref e2c, .ref e2d])), (e3, .inr (0, [.int 0, .int 0, .ref e3a, .ref e3b, .ref e3c, .ref e3d]))] (Qi E (fun (r : Int32) u => (r = (-1) ∧ u = []))) 0 0 := by
  refine ct_of rfl rfl ?_
  intro X C hT hin
  show WW X 4 E 0 [(0, .ref hx), (1, .int p0), (2, .int p1)] [] [(hx, .inr (11, [.ref qn, .ref qp, .int 0, .int 0, .ref qs, .ref qj, .ref ql, .ref qh, .ref qk, .int 0, .ref qr, .ref qg, .int 0, .int 0, .ref qsh])), (qj, .inr (2, [.ref jt, .ref je, .ref ju, .ref ja])), (je, .inl (E.2.1 4, 4, .inr (.inr (.inr (.inr fe))))), (e0, .inr (0, [.int 0, .int 0, .ref e0a, .ref e0b, .ref e0c, .ref e0d])), (e1, .inr (0, [.int 0, .int 0, .ref e1a, .ref e1b, .ref e1c, .ref e1d])), (e2, .inr (0, [.int 0, .int 0, .ref e2a, .ref e2b, .ref e2c, .ref e2d])), (e3, .inr (0, [.int 0, .int 0, .ref e3a, .ref e3b, .ref e3c, .ref e3d]))] 0 0
  refine ww_aload_n C dX11_happens_0 0 rfl rfl ?_
  refine ww_iload_n C dX11_happens_1 1 rfl rfl ?_
  refine ww_iload_n C dX11_happens_2 2 rfl rfl ?_
  refine ww_ci (wr := []) (k' := 0) (n' := 0) C (run_V (As := [.int p0, .int p1]) (rest := []) C (c_isCase X.2.1 E hx p0 p1 qn qp qs qj ql qh qk qr qg qsh jt je ju ja fe e0 e1 e2 e3 e0a e0b e0c e0d e1a e1b e1c e1d e2a e2b e2c e2d e3a e3b e3c e3d k_fe_0 k_fe_1 k_fe_2 k_fe_3) mi_X11_isCase wl_X11_201 rfl 0 11 rfl rfl rfl rfl rfl dX11_happens_3) [0, 1, 2, 3, 4, 5, 6] [] rfl rfl rfl rfl (fun r u hw => ?_)
  obtain ⟨rfl, rfl⟩ := hw
  refine ww_eq (ws' := [(hx, .inr (11, [.ref qn, .ref qp, .int 0, .int 0, .ref qs, .ref qj, .ref ql, .ref qh, .ref qk, .int 0, .ref qr, .ref qg, .int 0, .int 0, .ref qsh])), (qj, .inr (2, [.ref jt, .ref je, .ref ju, .ref ja])), (je, .inl (E.2.1 4, 4, .inr (.inr (.inr (.inr fe))))), (e0, .inr (0, [.int 0, .int 0, .ref e0a, .ref e0b, .ref e0c, .ref e0d])), (e1, .inr (0, [.int 0, .int 0, .ref e1a, .ref e1b, .ref e1c, .ref e1d])), (e2, .inr (0, [.int 0, .int 0, .ref e2a, .ref e2b, .ref e2c, .ref e2d])), (e3, .inr (0, [.int 0, .int 0, .ref e3a, .ref e3b, .ref e3c, .ref e3d]))]) ?_ rfl rfl rfl
  refine ww_if_ne_f (tgt := 11) C dX11_happens_6 (by decide) (rfl) ?_
  refine ww_iconst (v := (-1)) C dX11_happens_9 rfl ?_
  exact ww_iret (u := []) C hT [] rfl rfl rfl rfl dX11_happens_10 (⟨rfl, rfl⟩)
theorem dX11_word_0 : decode cX11_word 0 = .ok (.iload_n 1, 1) := by decide +kernel
theorem dX11_word_1 : decode cX11_word 1 = .ok (.iconst 0, 1) := by decide +kernel
theorem dX11_word_2 : decode cX11_word 2 = .ok (.iconst 3, 1) := by decide +kernel
theorem dX11_word_3 : decode cX11_word 3 = .ok (.invokestatic 76, 3) := by decide +kernel
theorem dX11_word_6 : decode cX11_word 6 = .ok (.ifCond .eq 12, 3) := by decide +kernel
theorem dX11_word_9 : decode cX11_word 9 = .ok (.iload_n 2, 1) := by decide +kernel
theorem dX11_word_10 : decode cX11_word 10 = .ok (.iconst 0, 1) := by decide +kernel
theorem dX11_word_11 : decode cX11_word 11 = .ok (.iconst 2, 1) := by decide +kernel
theorem dX11_word_12 : decode cX11_word 12 = .ok (.invokestatic 76, 3) := by decide +kernel
theorem dX11_word_15 : decode cX11_word 15 = .ok (.ifCond .ne 5, 3) := by decide +kernel
theorem dX11_word_20 : decode cX11_word 20 = .ok (.aload_n 0, 1) := by decide +kernel
theorem dX11_word_21 : decode cX11_word 21 = .ok (.iload_n 3, 1) := by decide +kernel
theorem dX11_word_22 : decode cX11_word 22 = .ok (.invokevirtual 205, 3) := by decide +kernel
theorem wl_X11_205 : Cond.methodLink RX11 205 yX11_canBeIf ∈ TB := tbm (tq4 (List.mem_of_getElem? (i := 71) (by decide +kernel))) (by decide +kernel)
theorem wc_X11_canBeIf : Cond.code yX11_canBeIf cX11_canBeIf 2 (some .boolean) ∈ TB := tbm (tq4 (List.mem_of_getElem? (i := 74) (rfl))) (by decide +kernel)
theorem wi_X11_canBeIf : Cond.instanceMethod yX11_canBeIf ∈ TB := tbm (tq4 (List.mem_of_getElem? (i := 73) (by decide +kernel))) (by decide +kernel)
theorem ws_X11_canBeIf : Cond.selects RX11 yX11_canBeIf yX11_canBeIf ∈ TB := tbm (tq0 (List.mem_of_getElem? (i := 24) (by decide +kernel))) (by decide +kernel)
theorem mi_X11_canBeIf : MI yX11_canBeIf cX11_canBeIf 2 (some .boolean) 1 := ⟨wc_X11_canBeIf, wn_X11, ⟨by decide +kernel, by decide +kernel, by decide +kernel⟩, wi_X11_canBeIf, ws_X11_canBeIf⟩
theorem dX11_word_25 : decode cX11_word 25 = .ok (.ifCond .eq 14, 3) := by decide +kernel
theorem dX11_word_39 : decode cX11_word 39 = .ok (.iconst (-1), 1) := by decide +kernel
theorem dX11_word_40 : decode cX11_word 40 = .ok (.ireturn, 1) := by decide +kernel
theorem dX11_word_18 : decode cX11_word 18 = .ok (.iconst (-1), 1) := by decide +kernel
theorem dX11_word_19 : decode cX11_word 19 = .ok (.ireturn, 1) := by decide +kernel
set_option maxRecDepth 100000 in
set_option maxHeartbeats 4000000 in
theorem x_word (l : Launch) (E : EV) (hx : Nat) (p0 : Int32) (p1 : Int32) (p2 : Int32) (p3 : Int32) (qn : Nat) (qp : Nat) (qs : Nat) (qj : Nat) (ql : Nat) (qh : Nat) (qk : Nat) (qr : Nat) (qg : Nat) (qsh : Nat) (jt : Nat) (je : Nat) (ju : Nat) (ja : Nat)  : CT l yX11_word (Cond.code yX11_word cX11_word 5 (some .int) :: TB) ({ frames := 3, cells := 0, slots := 0, locals := 64 }) E [.ref hx, .int p0, .int p1, .int p2, .int p3] [(hx, .inr (11, [.ref qn, .ref qp, .int 0, .int 0, .ref qs, .ref qj, .ref ql, .ref qh, .ref qk, .int 0, .ref qr, .ref qg, .int 0, .int 0, .ref qsh])), (qj, .inr (2, [.ref jt, .ref je, .ref ju, .ref ja])), (jt, .inl (E.2.1 7, 8, .inr (.inr (.inr (.inr (fun _ => none))))))] (Qi E (fun (r : Int32) u => (r = (-1) ∧ u = []))) 0 0 := by
  refine ct_of rfl rfl ?_
  intro X C hT hin
  show WW X 5 E 0 [(0, .ref hx), (1, .int p0), (2, .int p1), (3, .int p2), (4, .int p3)] [] [(hx, .inr (11, [.ref qn, .ref qp, .int 0, .int 0, .ref qs, .ref qj, .ref ql, .ref qh, .ref qk, .int 0, .ref qr, .ref qg, .int 0, .int 0, .ref qsh])), (qj, .inr (2, [.ref jt, .ref je, .ref ju, .ref ja])), (jt, .inl (E.2.1 7, 8, .inr (.inr (.inr (.inr (fun _ => none))))))] 0 0
  refine ww_iload_n C dX11_word_0 1 rfl rfl ?_
  refine ww_iconst (v := 0) C dX11_word_1 rfl ?_
  refine ww_iconst (v := 3) C dX11_word_2 rfl ?_
  refine ww_ci (wr := [(hx, .inr (11, [.ref qn, .ref qp, .int 0, .int 0, .ref qs, .ref qj, .ref ql, .ref qh, .ref qk, .int 0, .ref qr, .ref qg, .int 0, .int 0, .ref qsh])), (qj, .inr (2, [.ref jt, .ref je, .ref ju, .ref ja])), (jt, .inl (E.2.1 7, 8, .inr (.inr (.inr (.inr (fun _ => none))))))]) (k' := 0) (n' := 0) C (run_S (As := [.int p0, .int 0, .int 3]) (rest := []) C (c_within X.2.1 E p0 0 3 p0.toInt 0 3 rfl rfl rfl) ms_X11_within wl_X11_76 rfl rfl rfl rfl dX11_word_3) [] [0, 1, 2] rfl rfl rfl rfl (fun r u hw => ?_)
  rcases hw with ⟨rfl, rfl, h_1, h_2⟩ | ⟨rfl, rfl, h_3⟩
  · refine ww_eq (ws' := [(hx, .inr (11, [.ref qn, .ref qp, .int 0, .int 0, .ref qs, .ref qj, .ref ql, .ref qh, .ref qk, .int 0, .ref qr, .ref qg, .int 0, .int 0, .ref qsh])), (qj, .inr (2, [.ref jt, .ref je, .ref ju, .ref ja])), (jt, .inl (E.2.1 7, 8, .inr (.inr (.inr (.inr (fun _ => none))))))]) ?_ rfl rfl rfl
    refine ww_if_eq_f (tgt := 18) C dX11_word_6 (by decide) (by decide) ?_
    refine ww_iload_n C dX11_word_9 2 rfl rfl ?_
    refine ww_iconst (v := 0) C dX11_word_10 rfl ?_
    refine ww_iconst (v := 2) C dX11_word_11 rfl ?_
    refine ww_ci (wr := [(hx, .inr (11, [.ref qn, .ref qp, .int 0, .int 0, .ref qs, .ref qj, .ref ql, .ref qh, .ref qk, .int 0, .ref qr, .ref qg, .int 0, .int 0, .ref qsh])), (qj, .inr (2, [.ref jt, .ref je, .ref ju, .ref ja])), (jt, .inl (E.2.1 7, 8, .inr (.inr (.inr (.inr (fun _ => none))))))]) (k' := 0) (n' := 0) C (run_S (As := [.int p1, .int 0, .int 2]) (rest := []) C (c_within X.2.1 E p1 0 2 p1.toInt 0 2 rfl rfl rfl) ms_X11_within wl_X11_76 rfl rfl rfl rfl dX11_word_12) [] [0, 1, 2] rfl rfl rfl rfl (fun r u hw => ?_)
    rcases hw with ⟨rfl, rfl, h_4, h_5⟩ | ⟨rfl, rfl, h_6⟩
    · refine ww_eq (ws' := [(hx, .inr (11, [.ref qn, .ref qp, .int 0, .int 0, .ref qs, .ref qj, .ref ql, .ref qh, .ref qk, .int 0, .ref qr, .ref qg, .int 0, .int 0, .ref qsh])), (qj, .inr (2, [.ref jt, .ref je, .ref ju, .ref ja])), (jt, .inl (E.2.1 7, 8, .inr (.inr (.inr (.inr (fun _ => none))))))]) ?_ rfl rfl rfl
      refine ww_if_ne_t (tgt := 20) C dX11_word_15 (by decide) (by decide) ?_
      refine ww_aload_n C dX11_word_20 0 rfl rfl ?_
      refine ww_iload_n C dX11_word_21 3 rfl rfl ?_
      refine ww_ci (wr := []) (k' := 0) (n' := 0) C (run_V (As := [.int p2]) (rest := []) C (c_canBeIf X.2.1 E hx p2 qn qp qs qj ql qh qk qr qg qsh jt je ju ja) mi_X11_canBeIf wl_X11_205 rfl 0 11 rfl rfl rfl rfl rfl dX11_word_22) [0, 1, 2] [] rfl rfl rfl rfl (fun r u hw => ?_)
      obtain ⟨rfl, rfl⟩ := hw
      refine ww_eq (ws' := [(hx, .inr (11, [.ref qn, .ref qp, .int 0, .int 0, .ref qs, .ref qj, .ref ql, .ref qh, .ref qk, .int 0, .ref qr, .ref qg, .int 0, .int 0, .ref qsh])), (qj, .inr (2, [.ref jt, .ref je, .ref ju, .ref ja])), (jt, .inl (E.2.1 7, 8, .inr (.inr (.inr (.inr (fun _ => none))))))]) ?_ rfl rfl rfl
      refine ww_if_eq_t (tgt := 39) C dX11_word_25 (by decide) (rfl) ?_
      refine ww_iconst (v := (-1)) C dX11_word_39 rfl ?_
      exact ww_iret (u := []) C hT [] rfl rfl rfl rfl dX11_word_40 (⟨rfl, rfl⟩)
    · refine ww_eq (ws' := [(hx, .inr (11, [.ref qn, .ref qp, .int 0, .int 0, .ref qs, .ref qj, .ref ql, .ref qh, .ref qk, .int 0, .ref qr, .ref qg, .int 0, .int 0, .ref qsh])), (qj, .inr (2, [.ref jt, .ref je, .ref ju, .ref ja])), (jt, .inl (E.2.1 7, 8, .inr (.inr (.inr (.inr (fun _ => none))))))]) ?_ rfl rfl rfl
      refine ww_if_ne_f (tgt := 20) C dX11_word_15 (by decide) (rfl) ?_
      refine ww_iconst (v := (-1)) C dX11_word_18 rfl ?_
      exact ww_iret (u := []) C hT [] rfl rfl rfl rfl dX11_word_19 (⟨rfl, rfl⟩)
  · refine ww_eq (ws' := [(hx, .inr (11, [.ref qn, .ref qp, .int 0, .int 0, .ref qs, .ref qj, .ref ql, .ref qh, .ref qk, .int 0, .ref qr, .ref qg, .int 0, .int 0, .ref qsh])), (qj, .inr (2, [.ref jt, .ref je, .ref ju, .ref ja])), (jt, .inl (E.2.1 7, 8, .inr (.inr (.inr (.inr (fun _ => none))))))]) ?_ rfl rfl rfl
    refine ww_if_eq_t (tgt := 18) C dX11_word_6 (by decide) (rfl) ?_
    refine ww_iconst (v := (-1)) C dX11_word_18 rfl ?_
    exact ww_iret (u := []) C hT [] rfl rfl rfl rfl dX11_word_19 (⟨rfl, rfl⟩)
theorem dX11_lay_0 : decode cX11_lay 0 = .ok (.aload_n 0, 1) := by decide +kernel
theorem dX11_lay_1 : decode cX11_lay 1 = .ok (.iload_n 1, 1) := by decide +kernel
theorem dX11_lay_2 : decode cX11_lay 2 = .ok (.invokevirtual 94, 3) := by decide +kernel
theorem dX11_lay_5 : decode cX11_lay 5 = .ok (.ifCond .ne 5, 3) := by decide +kernel
theorem dX11_lay_8 : decode cX11_lay 8 = .ok (.iconst (-1), 1) := by decide +kernel
theorem dX11_lay_9 : decode cX11_lay 9 = .ok (.ireturn, 1) := by decide +kernel
set_option maxRecDepth 100000 in
set_option maxHeartbeats 4000000 in
theorem x_lay (l : Launch) (E : EV) (hx : Nat) (p0 : Int32) (qn : Nat) (qp : Nat) (qs : Nat) (qj : Nat) (ql : Nat) (qh : Nat) (qk : Nat) (qr : Nat) (qg : Nat) (qsh : Nat) (jt : Nat) (je : Nat) (ju : Nat) (ja : Nat) (fe : Nat → Option Nat) (e0 : Nat) (e1 : Nat) (e2 : Nat) (e3 : Nat) (e0a : Nat) (e0b : Nat) (e0c : Nat) (e0d : Nat) (e1a : Nat) (e1b : Nat) (e1c : Nat) (e1d : Nat) (e2a : Nat) (e2b : Nat) (e2c : Nat) (e2d : Nat) (e3a : Nat) (e3b : Nat) (e3c : Nat) (e3d : Nat) (k_fe_0 : fe 0 = some e0) (k_fe_1 : fe 1 = some e1) (k_fe_2 : fe 2 = some e2) (k_fe_3 : fe 3 = some e3) : CT l yX11_lay (Cond.code yX11_lay cX11_lay 2 (some .int) :: TB) ({ frames := 2, cells := 0, slots := 0, locals := 43 }) E [.ref hx, .int p0] [(hx, .inr (11, [.ref qn, .ref qp, .int 0, .int 0, .ref qs, .ref qj, .ref ql, .ref qh, .ref qk, .int 0, .ref qr, .ref qg, .int 0, .int 0, .ref qsh])), (qj, .inr (2, [.ref jt, .ref je, .ref ju, .ref ja])), (je, .inl (E.2.1 4, 4, .inr (.inr (.inr (.inr fe))))), (e0, .inr (0, [.int 0, .int 0, .ref e0a, .ref e0b, .ref e0c, .ref e0d])), (e1, .inr (0, [.int 0, .int 0, .ref e1a, .ref e1b, .ref e1c, .ref e1d])), (e2, .inr (0, [.int 0, .int 0, .ref e2a, .ref e2b, .ref e2c, .ref e2d])), (e3, .inr (0, [.int 0, .int 0, .ref e3a, .ref e3b, .ref e3c, .ref e3d]))] (Qi E (fun (r : Int32) u => (r = (-1) ∧ u = []))) 0 0 := by
  refine ct_of rfl rfl ?_
  intro X C hT hin
  show WW X 2 E 0 [(0, .ref hx), (1, .int p0)] [] [(hx, .inr (11, [.ref qn, .ref qp, .int 0, .int 0, .ref qs, .ref qj, .ref ql, .ref qh, .ref qk, .int 0, .ref qr, .ref qg, .int 0, .int 0, .ref qsh])), (qj, .inr (2, [.ref jt, .ref je, .ref ju, .ref ja])), (je, .inl (E.2.1 4, 4, .inr (.inr (.inr (.inr fe))))), (e0, .inr (0, [.int 0, .int 0, .ref e0a, .ref e0b, .ref e0c, .ref e0d])), (e1, .inr (0, [.int 0, .int 0, .ref e1a, .ref e1b, .ref e1c, .ref e1d])), (e2, .inr (0, [.int 0, .int 0, .ref e2a, .ref e2b, .ref e2c, .ref e2d])), (e3, .inr (0, [.int 0, .int 0, .ref e3a, .ref e3b, .ref e3c, .ref e3d]))] 0 0
  refine ww_aload_n C dX11_lay_0 0 rfl rfl ?_
  refine ww_iload_n C dX11_lay_1 1 rfl rfl ?_
  refine ww_ci (wr := []) (k' := 0) (n' := 0) C (run_V (As := [.int p0]) (rest := []) C (c_isEvent X.2.1 E hx p0 qn qp qs qj ql qh qk qr qg qsh jt je ju ja fe e0 e1 e2 e3 e0a e0b e0c e0d e1a e1b e1c e1d e2a e2b e2c e2d e3a e3b e3c e3d k_fe_0 k_fe_1 k_fe_2 k_fe_3) mi_X11_isEvent wl_X11_94 rfl 0 11 rfl rfl rfl rfl rfl dX11_lay_2) [0, 1, 2, 3, 4, 5, 6] [] rfl rfl rfl rfl (fun r u hw => ?_)
  obtain ⟨rfl, rfl⟩ := hw
  refine ww_eq (ws' := [(hx, .inr (11, [.ref qn, .ref qp, .int 0, .int 0, .ref qs, .ref qj, .ref ql, .ref qh, .ref qk, .int 0, .ref qr, .ref qg, .int 0, .int 0, .ref qsh])), (qj, .inr (2, [.ref jt, .ref je, .ref ju, .ref ja])), (je, .inl (E.2.1 4, 4, .inr (.inr (.inr (.inr fe))))), (e0, .inr (0, [.int 0, .int 0, .ref e0a, .ref e0b, .ref e0c, .ref e0d])), (e1, .inr (0, [.int 0, .int 0, .ref e1a, .ref e1b, .ref e1c, .ref e1d])), (e2, .inr (0, [.int 0, .int 0, .ref e2a, .ref e2b, .ref e2c, .ref e2d])), (e3, .inr (0, [.int 0, .int 0, .ref e3a, .ref e3b, .ref e3c, .ref e3d]))]) ?_ rfl rfl rfl
  refine ww_if_ne_f (tgt := 10) C dX11_lay_5 (by decide) (rfl) ?_
  refine ww_iconst (v := (-1)) C dX11_lay_8 rfl ?_
  exact ww_iret (u := []) C hT [] rfl rfl rfl rfl dX11_lay_9 (⟨rfl, rfl⟩)
