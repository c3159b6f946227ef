theorem dX1_begin_0 : decode cX1_begin 0 = .ok (.aload_n 0, 1) := by decide +kernel
theorem dX1_begin_1 : decode cX1_begin 1 = .ok (.aload_n 1, 1) := by decide +kernel
theorem dX1_begin_2 : decode cX1_begin 2 = .ok (.putfield 22, 3) := by decide +kernel
theorem wf_X1_22 : Cond.fieldLink RX1 22 RX1 "left" "LWhoKnows$Model;" ∈ TB := tbm (tq1 (List.mem_of_getElem? (i := 237) (by decide +kernel))) (by decide +kernel)
theorem fp_X1_22 : FP RX1 22 1 0 (.object "WhoKnows$Model") false := ⟨RX1, TX1, 6, tyX1, uw_X1, wf_X1_22, rfl, by decide, rfl, tyX1_ok, nmX1, rfl, by decide +kernel⟩
theorem dX1_begin_5 : decode cX1_begin 5 = .ok (.aload_n 0, 1) := by decide +kernel
theorem dX1_begin_6 : decode cX1_begin 6 = .ok (.aload_n 2, 1) := by decide +kernel
theorem dX1_begin_7 : decode cX1_begin 7 = .ok (.putfield 26, 3) := by decide +kernel
theorem wf_X1_26 : Cond.fieldLink RX1 26 RX1 "right" "LWhoKnows$Model;" ∈ TB := tbm (tq1 (List.mem_of_getElem? (i := 238) (by decide +kernel))) (by decide +kernel)
theorem fp_X1_26 : FP RX1 26 1 1 (.object "WhoKnows$Model") false := ⟨RX1, TX1, 6, tyX1, uw_X1, wf_X1_26, rfl, by decide, rfl, tyX1_ok, nmX1, rfl, by decide +kernel⟩
theorem dX1_begin_10 : decode cX1_begin 10 = .ok (.aload_n 0, 1) := by decide +kernel
theorem dX1_begin_11 : decode cX1_begin 11 = .ok (.aload_n 1, 1) := by decide +kernel
theorem dX1_begin_12 : decode cX1_begin 12 = .ok (.getfield 29, 3) := by decide +kernel
theorem wf_X1_29 : Cond.fieldLink RX1 29 RX4 "size" "I" ∈ TB := tbm (tq1 (List.mem_of_getElem? (i := 37) (by decide +kernel))) (by decide +kernel)
theorem fg_X1_29 : FG RX1 29 4 0 := ⟨RX4, TX4, 4, uw_X4, wf_X1_29, rfl, by decide, rfl⟩
theorem dX1_begin_15 : decode cX1_begin 15 = .ok (.aload_n 2, 1) := by decide +kernel
theorem dX1_begin_16 : decode cX1_begin 16 = .ok (.ifnonnull 7, 3) := by decide +kernel
theorem dX1_begin_19 : decode cX1_begin 19 = .ok (.iconst 0, 1) := by decide +kernel
theorem dX1_begin_20 : decode cX1_begin 20 = .ok (.goto 7, 3) := by decide +kernel
theorem dX1_begin_27 : decode cX1_begin 27 = .ok (.iadd, 1) := by decide +kernel
theorem dX1_begin_28 : decode cX1_begin 28 = .ok (.putfield 35, 3) := by decide +kernel
theorem wf_X1_35 : Cond.fieldLink RX1 35 RX1 "size" "I" ∈ TB := tbm (tq1 (List.mem_of_getElem? (i := 239) (by decide +kernel))) (by decide +kernel)
theorem fp_X1_35 : FP RX1 35 1 2 .int false := ⟨RX1, TX1, 6, tyX1, uw_X1, wf_X1_35, rfl, by decide, rfl, tyX1_ok, nmX1, rfl, by decide +kernel⟩
theorem dX1_begin_31 : decode cX1_begin 31 = .ok (.iconst 0, 1) := by decide +kernel
theorem dX1_begin_32 : decode cX1_begin 32 = .ok (.istore_n 3, 1) := by decide +kernel
theorem dX1_begin_33 : decode cX1_begin 33 = .ok (.iload_n 3, 1) := by decide +kernel
theorem dX1_begin_34 : decode cX1_begin 34 = .ok (.aload_n 0, 1) := by decide +kernel
theorem dX1_begin_35 : decode cX1_begin 35 = .ok (.getfield 35, 3) := by decide +kernel
theorem fg_X1_35 : FG RX1 35 1 2 := ⟨RX1, TX1, 6, uw_X1, wf_X1_35, rfl, by decide, rfl⟩
theorem dX1_begin_38 : decode cX1_begin 38 = .ok (.if_icmp .ge 46, 3) := by decide +kernel
theorem dX1_begin_84 : decode cX1_begin 84 = .ok (.return_, 1) := by decide +kernel
set_option maxRecDepth 100000 in
set_option maxHeartbeats 4000000 in
theorem c_hbegin (l : Launch) (E : EV) (qh : Nat) (qn : Nat) (ha : Nat) (hb : Nat) (hc : Nat) (nf : Nat) (np : Nat)  : CT l yX1_begin (Cond.code yX1_begin cX1_begin 5 none :: TB) ({ frames := 0, cells := 0, slots := 0, locals := 0 }) E [.ref qh, .ref qn, .null] [(qh, .inr (1, [.null, .null, .int 0, .ref ha, .ref hb, .ref hc])), (qn, .inr (4, [.int 0, .int 0, .ref nf, .ref np])), (nf, .inl (E.2.1 1, 24, .inl (fun _ => 0))), (np, .inl (E.2.1 1, 96, .inl (fun _ => 0)))] (Qv E (fun u => (u = [(qh, .inr (1, [.ref qn, .null, .int 0, .ref ha, .ref hb, .ref hc])), (qn, .inr (4, [.int 0, .int 0, .ref nf, .ref np])), (nf, .inl (E.2.1 1, 24, .inl (fun _ => 0))), (np, .inl (E.2.1 1, 96, .inl (fun _ => 0)))]))) 0 0 := by
  refine ct_of rfl rfl ?_
  intro X C hT hin
  show WW X 5 E 0 [(0, .ref qh), (1, .ref qn), (2, .null)] [] [(qh, .inr (1, [.null, .null, .int 0, .ref ha, .ref hb, .ref hc])), (qn, .inr (4, [.int 0, .int 0, .ref nf, .ref np])), (nf, .inl (E.2.1 1, 24, .inl (fun _ => 0))), (np, .inl (E.2.1 1, 96, .inl (fun _ => 0)))] 0 0
  refine ww_aload_n C dX1_begin_0 0 rfl rfl ?_
  refine ww_aload_n C dX1_begin_1 1 rfl rfl ?_
  refine ww_put (ws' := [(qh, .inr (1, [.ref qn, .null, .int 0, .ref ha, .ref hb, .ref hc])), (qn, .inr (4, [.int 0, .int 0, .ref nf, .ref np])), (nf, .inl (E.2.1 1, 24, .inl (fun _ => 0))), (np, .inl (E.2.1 1, 96, .inl (fun _ => 0)))]) C fp_X1_22 0 rfl rfl rfl rfl rfl dX1_begin_2 ?_
  refine ww_aload_n C dX1_begin_5 0 rfl rfl ?_
  refine ww_aload_nN C dX1_begin_6 2 rfl rfl ?_
  refine ww_put (ws' := [(qh, .inr (1, [.ref qn, .null, .int 0, .ref ha, .ref hb, .ref hc])), (qn, .inr (4, [.int 0, .int 0, .ref nf, .ref np])), (nf, .inl (E.2.1 1, 24, .inl (fun _ => 0))), (np, .inl (E.2.1 1, 96, .inl (fun _ => 0)))]) C fp_X1_26 0 rfl rfl rfl rfl rfl dX1_begin_7 ?_
  refine ww_aload_n C dX1_begin_10 0 rfl rfl ?_
  refine ww_aload_n C dX1_begin_11 1 rfl rfl ?_
  refine ww_get C fg_X1_29 1 rfl rfl dX1_begin_12 ?_
  refine ww_aload_nN C dX1_begin_15 2 rfl rfl ?_
  refine ww_ifnonnullN C dX1_begin_16 ?_
  refine ww_iconst (v := 0) C dX1_begin_19 rfl ?_
  refine ww_goto (tgt := 27) C dX1_begin_20 (by decide) ?_
  refine ww_iadd (v := 0) C dX1_begin_27 (by decide) ?_
  refine ww_put (ws' := [(qh, .inr (1, [.ref qn, .null, .int 0, .ref ha, .ref hb, .ref hc])), (qn, .inr (4, [.int 0, .int 0, .ref nf, .ref np])), (nf, .inl (E.2.1 1, 24, .inl (fun _ => 0))), (np, .inl (E.2.1 1, 96, .inl (fun _ => 0)))]) C fp_X1_35 0 rfl rfl rfl rfl rfl dX1_begin_28 ?_
  refine ww_iconst (v := 0) C dX1_begin_31 rfl ?_
  refine ww_istore_n (lv' := [(3, .int 0), (0, .ref qh), (1, .ref qn), (2, .null)]) C dX1_begin_32 rfl rfl rfl ?_
  refine ww_iload_n C dX1_begin_33 0 rfl rfl ?_
  refine ww_aload_n C dX1_begin_34 1 rfl rfl ?_
  refine ww_get C fg_X1_35 0 rfl rfl dX1_begin_35 ?_
  refine ww_icmp_ge_t (tgt := 84) C dX1_begin_38 (by decide) (by decide) ?_
  exact ww_vret (u := [(qh, .inr (1, [.ref qn, .null, .int 0, .ref ha, .ref hb, .ref hc])), (qn, .inr (4, [.int 0, .int 0, .ref nf, .ref np])), (nf, .inl (E.2.1 1, 24, .inl (fun _ => 0))), (np, .inl (E.2.1 1, 96, .inl (fun _ => 0)))]) C hT [0, 1, 2, 3] rfl rfl rfl rfl dX1_begin_84 (rfl)
theorem dX1_settle_0 : decode cX1_settle 0 = .ok (.aload_n 0, 1) := by decide +kernel
theorem dX1_settle_1 : decode cX1_settle 1 = .ok (.aload_n 1, 1) := by decide +kernel
theorem dX1_settle_2 : decode cX1_settle 2 = .ok (.aload_n 2, 1) := by decide +kernel
theorem dX1_settle_3 : decode cX1_settle 3 = .ok (.invokevirtual 61, 3) := by decide +kernel
theorem wl_X1_61 : Cond.methodLink RX1 61 yX1_begin ∈ TB := tbm (tq4 (List.mem_of_getElem? (i := 117) (by decide +kernel))) (by decide +kernel)
theorem wc_X1_begin : Cond.code yX1_begin cX1_begin 5 none ∈ TB := tbm (tq4 (List.mem_of_getElem? (i := 120) (rfl))) (by decide +kernel)
theorem wi_X1_begin : Cond.instanceMethod yX1_begin ∈ TB := tbm (tq4 (List.mem_of_getElem? (i := 119) (by decide +kernel))) (by decide +kernel)
theorem ws_X1_begin : Cond.selects RX1 yX1_begin yX1_begin ∈ TB := tbm (tq0 (List.mem_of_getElem? (i := 25) (by decide +kernel))) (by decide +kernel)
theorem mi_X1_begin : MI yX1_begin cX1_begin 5 none 2 := ⟨wc_X1_begin, wn_X1, ⟨by decide +kernel, by decide +kernel, by decide +kernel⟩, wi_X1_begin, ws_X1_begin⟩
theorem dX1_settle_6 : decode cX1_settle 6 = .ok (.iconst 0, 1) := by decide +kernel
theorem dX1_settle_7 : decode cX1_settle 7 = .ok (.istore_n 3, 1) := by decide +kernel
theorem dX1_settle_8 : decode cX1_settle 8 = .ok (.iload_n 3, 1) := by decide +kernel
theorem dX1_settle_9 : decode cX1_settle 9 = .ok (.aload_n 0, 1) := by decide +kernel
theorem dX1_settle_10 : decode cX1_settle 10 = .ok (.getfield 35, 3) := by decide +kernel
theorem dX1_settle_13 : decode cX1_settle 13 = .ok (.if_icmp .ge 16, 3) := by decide +kernel
theorem dX1_settle_29 : decode cX1_settle 29 = .ok (.return_, 1) := by decide +kernel
set_option maxRecDepth 100000 in
set_option maxHeartbeats 4000000 in
theorem c_settle (l : Launch) (E : EV) (qh : Nat) (qn : Nat) (ha : Nat) (hb : Nat) (hc : Nat) (nf : Nat) (np : Nat)  : CT l yX1_settle (Cond.code yX1_settle cX1_settle 4 none :: TB) ({ frames := 1, cells := 0, slots := 0, locals := 24 }) E [.ref qh, .ref qn, .null] [(qh, .inr (1, [.null, .null, .int 0, .ref ha, .ref hb, .ref hc])), (qn, .inr (4, [.int 0, .int 0, .ref nf, .ref np])), (nf, .inl (E.2.1 1, 24, .inl (fun _ => 0))), (np, .inl (E.2.1 1, 96, .inl (fun _ => 0)))] (Qv E (fun u => (u = [(qh, .inr (1, [.ref qn, .null, .int 0, .ref ha, .ref hb, .ref hc])), (qn, .inr (4, [.int 0, .int 0, .ref nf, .ref np])), (nf, .inl (E.2.1 1, 24, .inl (fun _ => 0))), (np, .inl (E.2.1 1, 96, .inl (fun _ => 0)))]))) 0 0 := by
  refine ct_of rfl rfl ?_
  intro X C hT hin
  show WW X 4 E 0 [(0, .ref qh), (1, .ref qn), (2, .null)] [] [(qh, .inr (1, [.null, .null, .int 0, .ref ha, .ref hb, .ref hc])), (qn, .inr (4, [.int 0, .int 0, .ref nf, .ref np])), (nf, .inl (E.2.1 1, 24, .inl (fun _ => 0))), (np, .inl (E.2.1 1, 96, .inl (fun _ => 0)))] 0 0
  refine ww_aload_n C dX1_settle_0 0 rfl rfl ?_
  refine ww_aload_n C dX1_settle_1 1 rfl rfl ?_
  refine ww_aload_nN C dX1_settle_2 2 rfl rfl ?_
  refine ww_cv (wr := []) (k' := 0) (n' := 0) C (run_V (As := [.ref qn, .null]) (rest := []) C (c_hbegin X.2.1 E qh qn ha hb hc nf np) mi_X1_begin wl_X1_61 rfl 0 1 rfl rfl rfl rfl rfl dX1_settle_3) [0, 1, 2, 3] [] rfl rfl rfl rfl (fun u hw => ?_)
  obtain ⟨rfl⟩ := hw
  refine ww_eq (ws' := [(qh, .inr (1, [.ref qn, .null, .int 0, .ref ha, .ref hb, .ref hc])), (qn, .inr (4, [.int 0, .int 0, .ref nf, .ref np])), (nf, .inl (E.2.1 1, 24, .inl (fun _ => 0))), (np, .inl (E.2.1 1, 96, .inl (fun _ => 0)))]) ?_ rfl rfl rfl
  refine ww_iconst (v := 0) C dX1_settle_6 rfl ?_
  refine ww_istore_n (lv' := [(3, .int 0), (0, .ref qh), (1, .ref qn), (2, .null)]) C dX1_settle_7 rfl rfl rfl ?_
  refine ww_iload_n C dX1_settle_8 0 rfl rfl ?_
  refine ww_aload_n C dX1_settle_9 1 rfl rfl ?_
  refine ww_get C fg_X1_35 0 rfl rfl dX1_settle_10 ?_
  refine ww_icmp_ge_t (tgt := 29) C dX1_settle_13 (by decide) (by decide) ?_
  exact ww_vret (u := [(qh, .inr (1, [.ref qn, .null, .int 0, .ref ha, .ref hb, .ref hc])), (qn, .inr (4, [.int 0, .int 0, .ref nf, .ref np])), (nf, .inl (E.2.1 1, 24, .inl (fun _ => 0))), (np, .inl (E.2.1 1, 96, .inl (fun _ => 0)))]) C hT [0, 1, 2, 3] rfl rfl rfl rfl dX1_settle_29 (rfl)
theorem dX1_howMany_0 : decode cX1_howMany 0 = .ok (.iconst 0, 1) := by decide +kernel
theorem dX1_howMany_1 : decode cX1_howMany 1 = .ok (.istore_n 1, 1) := by decide +kernel
theorem dX1_howMany_2 : decode cX1_howMany 2 = .ok (.iconst 0, 1) := by decide +kernel
theorem dX1_howMany_3 : decode cX1_howMany 3 = .ok (.istore_n 2, 1) := by decide +kernel
theorem dX1_howMany_4 : decode cX1_howMany 4 = .ok (.iload_n 2, 1) := by decide +kernel
theorem dX1_howMany_5 : decode cX1_howMany 5 = .ok (.aload_n 0, 1) := by decide +kernel
theorem dX1_howMany_6 : decode cX1_howMany 6 = .ok (.getfield 35, 3) := by decide +kernel
theorem dX1_howMany_9 : decode cX1_howMany 9 = .ok (.if_icmp .ge 22, 3) := by decide +kernel
theorem dX1_howMany_31 : decode cX1_howMany 31 = .ok (.iload_n 1, 1) := by decide +kernel
theorem dX1_howMany_32 : decode cX1_howMany 32 = .ok (.ireturn, 1) := by decide +kernel
set_option maxRecDepth 100000 in
set_option maxHeartbeats 4000000 in
theorem c_howMany (l : Launch) (E : EV) (qh : Nat) (qn : Nat) (ha : Nat) (hb : Nat) (hc : Nat)  : CT l yX1_howMany (Cond.code yX1_howMany cX1_howMany 3 (some .int) :: TB) ({ frames := 0, cells := 0, slots := 0, locals := 0 }) E [.ref qh] [(qh, .inr (1, [.ref qn, .null, .int 0, .ref ha, .ref hb, .ref hc]))] (Qi E (fun (r : Int32) u => (r = 0 ∧ u = []))) 0 0 := by
  refine ct_of rfl rfl ?_
  intro X C hT hin
  show WW X 3 E 0 [(0, .ref qh)] [] [(qh, .inr (1, [.ref qn, .null, .int 0, .ref ha, .ref hb, .ref hc]))] 0 0
  refine ww_iconst (v := 0) C dX1_howMany_0 rfl ?_
  refine ww_istore_n (lv' := [(1, .int 0), (0, .ref qh)]) C dX1_howMany_1 rfl rfl rfl ?_
  refine ww_iconst (v := 0) C dX1_howMany_2 rfl ?_
  refine ww_istore_n (lv' := [(2, .int 0), (1, .int 0), (0, .ref qh)]) C dX1_howMany_3 rfl rfl rfl ?_
  refine ww_iload_n C dX1_howMany_4 0 rfl rfl ?_
  refine ww_aload_n C dX1_howMany_5 2 rfl rfl ?_
  refine ww_get C fg_X1_35 0 rfl rfl dX1_howMany_6 ?_
  refine ww_icmp_ge_t (tgt := 31) C dX1_howMany_9 (by decide) (by decide) ?_
  refine ww_iload_n C dX1_howMany_31 1 rfl rfl ?_
  exact ww_iret (u := []) C hT [] rfl rfl rfl rfl dX1_howMany_32 (⟨rfl, rfl⟩)
theorem dX11_classes_0 : decode cX11_classes 0 = .ok (.aload_n 0, 1) := by decide +kernel
theorem dX11_classes_1 : decode cX11_classes 1 = .ok (.getfield 48, 3) := by decide +kernel
theorem fg_X11_48 : FG RX11 48 11 7 := ⟨RX11, TX11, 15, uw_X11, wf_X11_48, rfl, by decide, rfl⟩
theorem dX11_classes_4 : decode cX11_classes 4 = .ok (.aload_n 0, 1) := by decide +kernel
theorem dX11_classes_5 : decode cX11_classes 5 = .ok (.getfield 10, 3) := by decide +kernel
theorem dX11_classes_8 : decode cX11_classes 8 = .ok (.aconst_null, 1) := by decide +kernel
theorem dX11_classes_9 : decode cX11_classes 9 = .ok (.invokevirtual 248, 3) := by decide +kernel
theorem wl_X11_248 : Cond.methodLink RX11 248 yX1_settle ∈ TB := tbm (tq4 (List.mem_of_getElem? (i := 113) (by decide +kernel))) (by decide +kernel)
theorem wc_X1_settle : Cond.code yX1_settle cX1_settle 4 none ∈ TB := tbm (tq4 (List.mem_of_getElem? (i := 116) (rfl))) (by decide +kernel)
theorem wi_X1_settle : Cond.instanceMethod yX1_settle ∈ TB := tbm (tq4 (List.mem_of_getElem? (i := 114) (by decide +kernel))) (by decide +kernel)
theorem ws_X1_settle : Cond.selects RX1 yX1_settle yX1_settle ∈ TB := tbm (tq4 (List.mem_of_getElem? (i := 115) (by decide +kernel))) (by decide +kernel)
theorem mi_X1_settle : MI yX1_settle cX1_settle 4 none 2 := ⟨wc_X1_settle, wn_X1, ⟨by decide +kernel, by decide +kernel, by decide +kernel⟩, wi_X1_settle, ws_X1_settle⟩
theorem dX11_classes_12 : decode cX11_classes 12 = .ok (.aload_n 0, 1) := by decide +kernel
theorem dX11_classes_13 : decode cX11_classes 13 = .ok (.getfield 48, 3) := by decide +kernel
theorem dX11_classes_16 : decode cX11_classes 16 = .ok (.invokevirtual 252, 3) := by decide +kernel
theorem wl_X11_252 : Cond.methodLink RX11 252 yX1_howMany ∈ TB := tbm (tq4 (List.mem_of_getElem? (i := 143) (by decide +kernel))) (by decide +kernel)
theorem wc_X1_howMany : Cond.code yX1_howMany cX1_howMany 3 (some .int) ∈ TB := tbm (tq4 (List.mem_of_getElem? (i := 146) (rfl))) (by decide +kernel)
theorem wi_X1_howMany : Cond.instanceMethod yX1_howMany ∈ TB := tbm (tq4 (List.mem_of_getElem? (i := 144) (by decide +kernel))) (by decide +kernel)
theorem ws_X1_howMany : Cond.selects RX1 yX1_howMany yX1_howMany ∈ TB := tbm (tq4 (List.mem_of_getElem? (i := 145) (by decide +kernel))) (by decide +kernel)
theorem mi_X1_howMany : MI yX1_howMany cX1_howMany 3 (some .int) 0 := ⟨wc_X1_howMany, wn_X1, ⟨by decide +kernel, by decide +kernel, by decide +kernel⟩, wi_X1_howMany, ws_X1_howMany⟩
theorem dX11_classes_19 : decode cX11_classes 19 = .ok (.ireturn, 1) := by decide +kernel
set_option maxRecDepth 100000 in
set_option maxHeartbeats 4000000 in
theorem x_classes (l : Launch) (E : EV) (hx : Nat) (qn : Nat) (qp : Nat) (qs : Nat) (qj : Nat) (ql : Nat) (qh : Nat) (qk : Nat) (qr : Nat) (qg : Nat) (qsh : Nat) (nf : Nat) (np : Nat) (ha : Nat) (hb : Nat) (hc : Nat)  : CT l yX11_classes (Cond.code yX11_classes cX11_classes 1 (some .int) :: TB) ({ frames := 2, cells := 0, slots := 0, locals := 47 }) E [.ref hx] [(hx, .inr (11, [.ref qn, .ref qp, .int 0, .int 0, .ref qs, .ref qj, .ref ql, .ref qh, .ref qk, .int 0, .ref qr, .ref qg, .int 0, .int 0, .ref qsh])), (qn, .inr (4, [.int 0, .int 0, .ref nf, .ref np])), (nf, .inl (E.2.1 1, 24, .inl (fun _ => 0))), (np, .inl (E.2.1 1, 96, .inl (fun _ => 0))), (qh, .inr (1, [.null, .null, .int 0, .ref ha, .ref hb, .ref hc]))] (Qi E (fun (r : Int32) u => (r = 0 ∧ u = []))) 0 0 := by
  refine ct_of rfl rfl ?_
  intro X C hT hin
  show WW X 1 E 0 [(0, .ref hx)] [] [(hx, .inr (11, [.ref qn, .ref qp, .int 0, .int 0, .ref qs, .ref qj, .ref ql, .ref qh, .ref qk, .int 0, .ref qr, .ref qg, .int 0, .int 0, .ref qsh])), (qn, .inr (4, [.int 0, .int 0, .ref nf, .ref np])), (nf, .inl (E.2.1 1, 24, .inl (fun _ => 0))), (np, .inl (E.2.1 1, 96, .inl (fun _ => 0))), (qh, .inr (1, [.null, .null, .int 0, .ref ha, .ref hb, .ref hc]))] 0 0
  refine ww_aload_n C dX11_classes_0 0 rfl rfl ?_
  refine ww_get C fg_X11_48 0 rfl rfl dX11_classes_1 ?_
  refine ww_aload_n C dX11_classes_4 0 rfl rfl ?_
  refine ww_get C fg_X11_10 0 rfl rfl dX11_classes_5 ?_
  refine ww_null C dX11_classes_8 ?_
  refine ww_cv (wr := [(hx, .inr (11, [.ref qn, .ref qp, .int 0, .int 0, .ref qs, .ref qj, .ref ql, .ref qh, .ref qk, .int 0, .ref qr, .ref qg, .int 0, .int 0, .ref qsh]))]) (k' := 0) (n' := 0) C (run_V (As := [.ref qn, .null]) (rest := []) C (c_settle X.2.1 E qh qn ha hb hc nf np) mi_X1_settle wl_X11_248 rfl 0 1 rfl rfl rfl rfl rfl dX11_classes_9) [4, 1, 2, 3] [0] rfl rfl rfl rfl (fun u hw => ?_)
  obtain ⟨rfl⟩ := hw
  refine ww_eq (ws' := [(hx, .inr (11, [.ref qn, .ref qp, .int 0, .int 0, .ref qs, .ref qj, .ref ql, .ref qh, .ref qk, .int 0, .ref qr, .ref qg, .int 0, .int 0, .ref qsh])), (qh, .inr (1, [.ref qn, .null, .int 0, .ref ha, .ref hb, .ref hc])), (qn, .inr (4, [.int 0, .int 0, .ref nf, .ref np])), (nf, .inl (E.2.1 1, 24, .inl (fun _ => 0))), (np, .inl (E.2.1 1, 96, .inl (fun _ => 0)))]) ?_ rfl rfl rfl
  refine ww_aload_n C dX11_classes_12 0 rfl rfl ?_
  refine ww_get C fg_X11_48 0 rfl rfl dX11_classes_13 ?_
  refine ww_ci (wr := [(hx, .inr (11, [.ref qn, .ref qp, .int 0, .int 0, .ref qs, .ref qj, .ref ql, .ref qh, .ref qk, .int 0, .ref qr, .ref qg, .int 0, .int 0, .ref qsh])), (qn, .inr (4, [.int 0, .int 0, .ref nf, .ref np])), (nf, .inl (E.2.1 1, 24, .inl (fun _ => 0))), (np, .inl (E.2.1 1, 96, .inl (fun _ => 0)))]) (k' := 0) (n' := 0) C (run_V (As := []) (rest := []) C (c_howMany X.2.1 E qh qn ha hb hc) mi_X1_howMany wl_X11_252 rfl 0 1 rfl rfl rfl rfl rfl dX11_classes_16) [1] [0, 2, 3, 4] rfl rfl rfl rfl (fun r u hw => ?_)
  obtain ⟨rfl, rfl⟩ := hw
  refine ww_eq (ws' := [(hx, .inr (11, [.ref qn, .ref qp, .int 0, .int 0, .ref qs, .ref qj, .ref ql, .ref qh, .ref qk, .int 0, .ref qr, .ref qg, .int 0, .int 0, .ref qsh])), (qn, .inr (4, [.int 0, .int 0, .ref nf, .ref np])), (nf, .inl (E.2.1 1, 24, .inl (fun _ => 0))), (np, .inl (E.2.1 1, 96, .inl (fun _ => 0)))]) ?_ rfl rfl rfl
  exact ww_iret (u := []) C hT [] rfl rfl rfl rfl dX11_classes_19 (⟨rfl, rfl⟩)
theorem dX11_classOf_0 : decode cX11_classOf 0 = .ok (.aload_n 0, 1) := by decide +kernel
theorem dX11_classOf_1 : decode cX11_classOf 1 = .ok (.getfield 10, 3) := by decide +kernel
theorem dX11_classOf_4 : decode cX11_classOf 4 = .ok (.iload_n 1, 1) := by decide +kernel
theorem dX11_classOf_5 : decode cX11_classOf 5 = .ok (.invokevirtual 135, 3) := by decide +kernel
theorem dX11_classOf_8 : decode cX11_classOf 8 = .ok (.ifCond .ne 5, 3) := by decide +kernel
theorem dX11_classOf_11 : decode cX11_classOf 11 = .ok (.iconst (-1), 1) := by decide +kernel
theorem dX11_classOf_12 : decode cX11_classOf 12 = .ok (.ireturn, 1) := by decide +kernel
set_option maxRecDepth 100000 in
set_option maxHeartbeats 4000000 in
theorem x_classOf (l : Launch) (E : EV) (hx : Nat) (p0 : Int32) (qn : Nat) (qp : Nat) (qs : Nat) (qj : Nat) (ql : Nat) (qh : Nat) (qk : Nat) (qr : Nat) (qg : Nat) (qsh : Nat) (nf : Nat) (np : Nat)  : CT l yX11_classOf (Cond.code yX11_classOf cX11_classOf 2 (some .int) :: TB) ({ frames := 1, cells := 0, slots := 0, locals := 21 }) E [.ref hx, .int p0] [(hx, .inr (11, [.ref qn, .ref qp, .int 0, .int 0, .ref qs, .ref qj, .ref ql, .ref qh, .ref qk, .int 0, .ref qr, .ref qg, .int 0, .int 0, .ref qsh])), (qn, .inr (4, [.int 0, .int 0, .ref nf, .ref np])), (nf, .inl (E.2.1 1, 24, .inl (fun _ => 0))), (np, .inl (E.2.1 1, 96, .inl (fun _ => 0)))] (Qi E (fun (r : Int32) u => (r = (-1) ∧ u = []))) 0 0 := by
  refine ct_of rfl rfl ?_
  intro X C hT hin
  show WW X 2 E 0 [(0, .ref hx), (1, .int p0)] [] [(hx, .inr (11, [.ref qn, .ref qp, .int 0, .int 0, .ref qs, .ref qj, .ref ql, .ref qh, .ref qk, .int 0, .ref qr, .ref qg, .int 0, .int 0, .ref qsh])), (qn, .inr (4, [.int 0, .int 0, .ref nf, .ref np])), (nf, .inl (E.2.1 1, 24, .inl (fun _ => 0))), (np, .inl (E.2.1 1, 96, .inl (fun _ => 0)))] 0 0
  refine ww_aload_n C dX11_classOf_0 0 rfl rfl ?_
  refine ww_get C fg_X11_10 0 rfl rfl dX11_classOf_1 ?_
  refine ww_iload_n C dX11_classOf_4 1 rfl rfl ?_
  refine ww_ci (wr := [(hx, .inr (11, [.ref qn, .ref qp, .int 0, .int 0, .ref qs, .ref qj, .ref ql, .ref qh, .ref qk, .int 0, .ref qr, .ref qg, .int 0, .int 0, .ref qsh])), (nf, .inl (E.2.1 1, 24, .inl (fun _ => 0))), (np, .inl (E.2.1 1, 96, .inl (fun _ => 0)))]) (k' := 0) (n' := 0) C (run_V (As := [.int p0]) (rest := []) C (c_contains0 X.2.1 E qn nf np p0) mi_X4_contains wl_X11_135 rfl 0 4 rfl rfl rfl rfl rfl dX11_classOf_5) [1] [0, 2, 3] rfl rfl rfl rfl (fun r u hw => ?_)
  obtain ⟨rfl, rfl⟩ := hw
  refine ww_eq (ws' := [(hx, .inr (11, [.ref qn, .ref qp, .int 0, .int 0, .ref qs, .ref qj, .ref ql, .ref qh, .ref qk, .int 0, .ref qr, .ref qg, .int 0, .int 0, .ref qsh])), (nf, .inl (E.2.1 1, 24, .inl (fun _ => 0))), (np, .inl (E.2.1 1, 96, .inl (fun _ => 0))), (qn, .inr (4, [.int 0, .int 0, .ref nf, .ref np]))]) ?_ rfl rfl rfl
  refine ww_if_ne_f (tgt := 13) C dX11_classOf_8 (by decide) (rfl) ?_
  refine ww_iconst (v := (-1)) C dX11_classOf_11 rfl ?_
  exact ww_iret (u := []) C hT [] rfl rfl rfl rfl dX11_classOf_12 (⟨rfl, rfl⟩)
theorem dX11_depth_0 : decode cX11_depth 0 = .ok (.aload_n 0, 1) := by decide +kernel
theorem dX11_depth_1 : decode cX11_depth 1 = .ok (.getfield 10, 3) := by decide +kernel
theorem dX11_depth_4 : decode cX11_depth 4 = .ok (.iload_n 1, 1) := by decide +kernel
theorem dX11_depth_5 : decode cX11_depth 5 = .ok (.invokevirtual 135, 3) := by decide +kernel
theorem dX11_depth_8 : decode cX11_depth 8 = .ok (.ifCond .eq 14, 3) := by decide +kernel
theorem dX11_depth_22 : decode cX11_depth 22 = .ok (.iconst (-1), 1) := by decide +kernel
theorem dX11_depth_23 : decode cX11_depth 23 = .ok (.ireturn, 1) := by decide +kernel
set_option maxRecDepth 100000 in
set_option maxHeartbeats 4000000 in
theorem x_depth (l : Launch) (E : EV) (hx : Nat) (p0 : Int32) (p1 : Int32) (qn : Nat) (qp : Nat) (qs : Nat) (qj : Nat) (ql : Nat) (qh : Nat) (qk : Nat) (qr : Nat) (qg : Nat) (qsh : Nat) (nf : Nat) (np : Nat)  : CT l yX11_depth (Cond.code yX11_depth cX11_depth 3 (some .int) :: TB) ({ frames := 1, cells := 0, slots := 0, locals := 21 }) E [.ref hx, .int p0, .int p1] [(hx, .inr (11, [.ref qn, .ref qp, .int 0, .int 0, .ref qs, .ref qj, .ref ql, .ref qh, .ref qk, .int 0, .ref qr, .ref qg, .int 0, .int 0, .ref qsh])), (qn, .inr (4, [.int 0, .int 0, .ref nf, .ref np])), (nf, .inl (E.2.1 1, 24, .inl (fun _ => 0))), (np, .inl (E.2.1 1, 96, .inl (fun _ => 0)))] (Qi E (fun (r : Int32) u => (r = (-1) ∧ u = []))) 0 0 := by
  refine ct_of rfl rfl ?_
  intro X C hT hin
  show WW X 3 E 0 [(0, .ref hx), (1, .int p0), (2, .int p1)] [] [(hx, .inr (11, [.ref qn, .ref qp, .int 0, .int 0, .ref qs, .ref qj, .ref ql, .ref qh, .ref qk, .int 0, .ref qr, .ref qg, .int 0, .int 0, .ref qsh])), (qn, .inr (4, [.int 0, .int 0, .ref nf, .ref np])), (nf, .inl (E.2.1 1, 24, .inl (fun _ => 0))), (np, .inl (E.2.1 1, 96, .inl (fun _ => 0)))] 0 0
  refine ww_aload_n C dX11_depth_0 0 rfl rfl ?_
  refine ww_get C fg_X11_10 0 rfl rfl dX11_depth_1 ?_
  refine ww_iload_n C dX11_depth_4 1 rfl rfl ?_
  refine ww_ci (wr := [(hx, .inr (11, [.ref qn, .ref qp, .int 0, .int 0, .ref qs, .ref qj, .ref ql, .ref qh, .ref qk, .int 0, .ref qr, .ref qg, .int 0, .int 0, .ref qsh])), (nf, .inl (E.2.1 1, 24, .inl (fun _ => 0))), (np, .inl (E.2.1 1, 96, .inl (fun _ => 0)))]) (k' := 0) (n' := 0) C (run_V (As := [.int p0]) (rest := []) C (c_contains0 X.2.1 E qn nf np p0) mi_X4_contains wl_X11_135 rfl 0 4 rfl rfl rfl rfl rfl dX11_depth_5) [1] [0, 2, 3] rfl rfl rfl rfl (fun r u hw => ?_)
  obtain ⟨rfl, rfl⟩ := hw
  refine ww_eq (ws' := [(hx, .inr (11, [.ref qn, .ref qp, .int 0, .int 0, .ref qs, .ref qj, .ref ql, .ref qh, .ref qk, .int 0, .ref qr, .ref qg, .int 0, .int 0, .ref qsh])), (nf, .inl (E.2.1 1, 24, .inl (fun _ => 0))), (np, .inl (E.2.1 1, 96, .inl (fun _ => 0))), (qn, .inr (4, [.int 0, .int 0, .ref nf, .ref np]))]) ?_ rfl rfl rfl
  refine ww_if_eq_t (tgt := 22) C dX11_depth_8 (by decide) (rfl) ?_
  refine ww_iconst (v := (-1)) C dX11_depth_22 rfl ?_
  exact ww_iret (u := []) C hT [] rfl rfl rfl rfl dX11_depth_23 (⟨rfl, rfl⟩)
theorem dX11_melt_0 : decode cX11_melt 0 = .ok (.aload_n 0, 1) := by decide +kernel
theorem dX11_melt_1 : decode cX11_melt 1 = .ok (.getfield 10, 3) := by decide +kernel
theorem dX11_melt_4 : decode cX11_melt 4 = .ok (.getfield 125, 3) := by decide +kernel
theorem dX11_melt_7 : decode cX11_melt 7 = .ok (.ifCond .ne 6, 3) := by decide +kernel
theorem dX11_melt_10 : decode cX11_melt 10 = .ok (.bipush (-2), 2) := by decide +kernel
theorem dX11_melt_12 : decode cX11_melt 12 = .ok (.ireturn, 1) := by decide +kernel
set_option maxRecDepth 100000 in
set_option maxHeartbeats 4000000 in
theorem x_melt (l : Launch) (E : EV) (hx : Nat) (qn : Nat) (qp : Nat) (qs : Nat) (qj : Nat) (ql : Nat) (qh : Nat) (qk : Nat) (qr : Nat) (qg : Nat) (qsh : Nat) (nf : Nat) (np : Nat)  : CT l yX11_melt (Cond.code yX11_melt cX11_melt 1 (some .int) :: TB) ({ frames := 0, cells := 0, slots := 0, locals := 0 }) E [.ref hx] [(hx, .inr (11, [.ref qn, .ref qp, .int 0, .int 0, .ref qs, .ref qj, .ref ql, .ref qh, .ref qk, .int 0, .ref qr, .ref qg, .int 0, .int 0, .ref qsh])), (qn, .inr (4, [.int 0, .int 0, .ref nf, .ref np])), (nf, .inl (E.2.1 1, 24, .inl (fun _ => 0))), (np, .inl (E.2.1 1, 96, .inl (fun _ => 0)))] (Qi E (fun (r : Int32) u => (r = (-2) ∧ u = []))) 0 0 := by
  refine ct_of rfl rfl ?_
  intro X C hT hin
  show WW X 1 E 0 [(0, .ref hx)] [] [(hx, .inr (11, [.ref qn, .ref qp, .int 0, .int 0, .ref qs, .ref qj, .ref ql, .ref qh, .ref qk, .int 0, .ref qr, .ref qg, .int 0, .int 0, .ref qsh])), (qn, .inr (4, [.int 0, .int 0, .ref nf, .ref np])), (nf, .inl (E.2.1 1, 24, .inl (fun _ => 0))), (np, .inl (E.2.1 1, 96, .inl (fun _ => 0)))] 0 0
  refine ww_aload_n C dX11_melt_0 0 rfl rfl ?_
  refine ww_get C fg_X11_10 0 rfl rfl dX11_melt_1 ?_
  refine ww_get C fg_X11_125 1 rfl rfl dX11_melt_4 ?_
  refine ww_if_ne_f (tgt := 13) C dX11_melt_7 (by decide) (rfl) ?_
  refine ww_bipush (v := (-2)) C dX11_melt_10 rfl ?_
  exact ww_iret (u := []) C hT [] rfl rfl rfl rfl dX11_melt_12 (⟨rfl, rfl⟩)
theorem dX11_keep_0 : decode cX11_keep 0 = .ok (.aload_n 0, 1) := by decide +kernel
theorem dX11_keep_1 : decode cX11_keep 1 = .ok (.getfield 10, 3) := by decide +kernel
theorem dX11_keep_4 : decode cX11_keep 4 = .ok (.getfield 125, 3) := by decide +kernel
theorem dX11_keep_7 : decode cX11_keep 7 = .ok (.ifCond .ne 6, 3) := by decide +kernel
theorem dX11_keep_10 : decode cX11_keep 10 = .ok (.bipush (-2), 2) := by decide +kernel
theorem dX11_keep_12 : decode cX11_keep 12 = .ok (.ireturn, 1) := by decide +kernel
set_option maxRecDepth 100000 in
set_option maxHeartbeats 4000000 in
theorem x_keep (l : Launch) (E : EV) (hx : Nat) (qn : Nat) (qp : Nat) (qs : Nat) (qj : Nat) (ql : Nat) (qh : Nat) (qk : Nat) (qr : Nat) (qg : Nat) (qsh : Nat) (nf : Nat) (np : Nat)  : CT l yX11_keep (Cond.code yX11_keep cX11_keep 1 (some .int) :: TB) ({ frames := 0, cells := 0, slots := 0, locals := 0 }) E [.ref hx] [(hx, .inr (11, [.ref qn, .ref qp, .int 0, .int 0, .ref qs, .ref qj, .ref ql, .ref qh, .ref qk, .int 0, .ref qr, .ref qg, .int 0, .int 0, .ref qsh])), (qn, .inr (4, [.int 0, .int 0, .ref nf, .ref np])), (nf, .inl (E.2.1 1, 24, .inl (fun _ => 0))), (np, .inl (E.2.1 1, 96, .inl (fun _ => 0)))] (Qi E (fun (r : Int32) u => (r = (-2) ∧ u = []))) 0 0 := by
  refine ct_of rfl rfl ?_
  intro X C hT hin
  show WW X 1 E 0 [(0, .ref hx)] [] [(hx, .inr (11, [.ref qn, .ref qp, .int 0, .int 0, .ref qs, .ref qj, .ref ql, .ref qh, .ref qk, .int 0, .ref qr, .ref qg, .int 0, .int 0, .ref qsh])), (qn, .inr (4, [.int 0, .int 0, .ref nf, .ref np])), (nf, .inl (E.2.1 1, 24, .inl (fun _ => 0))), (np, .inl (E.2.1 1, 96, .inl (fun _ => 0)))] 0 0
  refine ww_aload_n C dX11_keep_0 0 rfl rfl ?_
  refine ww_get C fg_X11_10 0 rfl rfl dX11_keep_1 ?_
  refine ww_get C fg_X11_125 1 rfl rfl dX11_keep_4 ?_
  refine ww_if_ne_f (tgt := 13) C dX11_keep_7 (by decide) (rfl) ?_
  refine ww_bipush (v := (-2)) C dX11_keep_10 rfl ?_
  exact ww_iret (u := []) C hT [] rfl rfl rfl rfl dX11_keep_12 (⟨rfl, rfl⟩)
theorem dX11_stand_0 : decode cX11_stand 0 = .ok (.iload_n 1, 1) := by decide +kernel
theorem dX11_stand_1 : decode cX11_stand 1 = .ok (.iconst 0, 1) := by decide +kernel
theorem dX11_stand_2 : decode cX11_stand 2 = .ok (.aload_n 0, 1) := by decide +kernel
theorem dX11_stand_3 : decode cX11_stand 3 = .ok (.getfield 266, 3) := by decide +kernel
theorem wf_X11_266 : Cond.fieldLink RX11 266 RX11 "keptCount" "I" ∈ TB := tbm (tq2 (List.mem_of_getElem? (i := 105) (by decide +kernel))) (by decide +kernel)
theorem fg_X11_266 : FG RX11 266 11 9 := ⟨RX11, TX11, 15, uw_X11, wf_X11_266, rfl, by decide, rfl⟩
theorem dX11_stand_6 : decode cX11_stand 6 = .ok (.iconst 1, 1) := by decide +kernel
theorem dX11_stand_7 : decode cX11_stand 7 = .ok (.isub, 1) := by decide +kernel
theorem dX11_stand_8 : decode cX11_stand 8 = .ok (.invokestatic 76, 3) := by decide +kernel
theorem dX11_stand_11 : decode cX11_stand 11 = .ok (.ifCond .ne 5, 3) := by decide +kernel
theorem dX11_stand_14 : decode cX11_stand 14 = .ok (.iconst (-1), 1) := by decide +kernel
theorem dX11_stand_15 : decode cX11_stand 15 = .ok (.ireturn, 1) := by decide +kernel
set_option maxRecDepth 100000 in
set_option maxHeartbeats 4000000 in
theorem x_stand (l : Launch) (E : EV) (hx : Nat) (p0 : Int32) (qn : Nat) (qp : Nat) (qs : Nat) (qj : Nat) (ql : Nat) (qh : Nat) (qk : Nat) (qr : Nat) (qg : Nat) (qsh : Nat)  : CT l yX11_stand (Cond.code yX11_stand cX11_stand 2 (some .int) :: TB) ({ frames := 1, cells := 0, slots := 0, locals := 22 }) E [.ref hx, .int p0] [(hx, .inr (11, [.ref qn, .ref qp, .int 0, .int 0, .ref qs, .ref qj, .ref ql, .ref qh, .ref qk, .int 0, .ref qr, .ref qg, .int 0, .int 0, .ref qsh]))] (Qi E (fun (r : Int32) u => (r = (-1) ∧ u = []))) 0 0 := by
  refine ct_of rfl rfl ?_
  intro X C hT hin
  show WW X 2 E 0 [(0, .ref hx), (1, .int p0)] [] [(hx, .inr (11, [.ref qn, .ref qp, .int 0, .int 0, .ref qs, .ref qj, .ref ql, .ref qh, .ref qk, .int 0, .ref qr, .ref qg, .int 0, .int 0, .ref qsh]))] 0 0
  refine ww_iload_n C dX11_stand_0 1 rfl rfl ?_
  refine ww_iconst (v := 0) C dX11_stand_1 rfl ?_
  refine ww_aload_n C dX11_stand_2 0 rfl rfl ?_
  refine ww_get C fg_X11_266 0 rfl rfl dX11_stand_3 ?_
  refine ww_iconst (v := 1) C dX11_stand_6 rfl ?_
  refine ww_isub (v := (-1)) C dX11_stand_7 (by decide) ?_
  refine ww_ci (wr := [(hx, .inr (11, [.ref qn, .ref qp, .int 0, .int 0, .ref qs, .ref qj, .ref ql, .ref qh, .ref qk, .int 0, .ref qr, .ref qg, .int 0, .int 0, .ref qsh]))]) (k' := 0) (n' := 0) C (run_S (As := [.int p0, .int 0, .int (-1)]) (rest := []) C (c_within X.2.1 E p0 0 (-1) p0.toInt 0 (-1) rfl rfl rfl) ms_X11_within wl_X11_76 rfl rfl rfl rfl dX11_stand_8) [] [0] rfl rfl rfl rfl (fun r u hw => ?_)
  rcases hw with ⟨rfl, rfl, h_1, h_2⟩ | ⟨rfl, rfl, h_3⟩
  · omega
  · refine ww_eq (ws' := [(hx, .inr (11, [.ref qn, .ref qp, .int 0, .int 0, .ref qs, .ref qj, .ref ql, .ref qh, .ref qk, .int 0, .ref qr, .ref qg, .int 0, .int 0, .ref qsh]))]) ?_ rfl rfl rfl
    refine ww_if_ne_f (tgt := 16) C dX11_stand_11 (by decide) (rfl) ?_
    refine ww_iconst (v := (-1)) C dX11_stand_14 rfl ?_
    exact ww_iret (u := []) C hT [] rfl rfl rfl rfl dX11_stand_15 (⟨rfl, rfl⟩)
theorem dX11_same_0 : decode cX11_same 0 = .ok (.iload_n 1, 1) := by decide +kernel
theorem dX11_same_1 : decode cX11_same 1 = .ok (.iconst 0, 1) := by decide +kernel
theorem dX11_same_2 : decode cX11_same 2 = .ok (.aload_n 0, 1) := by decide +kernel
theorem dX11_same_3 : decode cX11_same 3 = .ok (.getfield 266, 3) := by decide +kernel
theorem dX11_same_6 : decode cX11_same 6 = .ok (.iconst 1, 1) := by decide +kernel
theorem dX11_same_7 : decode cX11_same 7 = .ok (.isub, 1) := by decide +kernel
theorem dX11_same_8 : decode cX11_same 8 = .ok (.invokestatic 76, 3) := by decide +kernel
theorem dX11_same_11 : decode cX11_same 11 = .ok (.ifCond .ne 5, 3) := by decide +kernel
theorem dX11_same_14 : decode cX11_same 14 = .ok (.iconst (-1), 1) := by decide +kernel
theorem dX11_same_15 : decode cX11_same 15 = .ok (.ireturn, 1) := by decide +kernel
set_option maxRecDepth 100000 in
set_option maxHeartbeats 4000000 in
theorem x_same (l : Launch) (E : EV) (hx : Nat) (p0 : Int32) (qn : Nat) (qp : Nat) (qs : Nat) (qj : Nat) (ql : Nat) (qh : Nat) (qk : Nat) (qr : Nat) (qg : Nat) (qsh : Nat)  : CT l yX11_same (Cond.code yX11_same cX11_same 3 (some .int) :: TB) ({ frames := 1, cells := 0, slots := 0, locals := 22 }) E [.ref hx, .int p0] [(hx, .inr (11, [.ref qn, .ref qp, .int 0, .int 0, .ref qs, .ref qj, .ref ql, .ref qh, .ref qk, .int 0, .ref qr, .ref qg, .int 0, .int 0, .ref qsh]))] (Qi E (fun (r : Int32) u => (r = (-1) ∧ u = []))) 0 0 := by
  refine ct_of rfl rfl ?_
  intro X C hT hin
  show WW X 3 E 0 [(0, .ref hx), (1, .int p0)] [] [(hx, .inr (11, [.ref qn, .ref qp, .int 0, .int 0, .ref qs, .ref qj, .ref ql, .ref qh, .ref qk, .int 0, .ref qr, .ref qg, .int 0, .int 0, .ref qsh]))] 0 0
  refine ww_iload_n C dX11_same_0 1 rfl rfl ?_
  refine ww_iconst (v := 0) C dX11_same_1 rfl ?_
  refine ww_aload_n C dX11_same_2 0 rfl rfl ?_
  refine ww_get C fg_X11_266 0 rfl rfl dX11_same_3 ?_
  refine ww_iconst (v := 1) C dX11_same_6 rfl ?_
  refine ww_isub (v := (-1)) C dX11_same_7 (by decide) ?_
  refine ww_ci (wr := [(hx, .inr (11, [.ref qn, .ref qp, .int 0, .int 0, .ref qs, .ref qj, .ref ql, .ref qh, .ref qk, .int 0, .ref qr, .ref qg, .int 0, .int 0, .ref qsh]))]) (k' := 0) (n' := 0) C (run_S (As := [.int p0, .int 0, .int (-1)]) (rest := []) C (c_within X.2.1 E p0 0 (-1) p0.toInt 0 (-1) rfl rfl rfl) ms_X11_within wl_X11_76 rfl rfl rfl rfl dX11_same_8) [] [0] rfl rfl rfl rfl (fun r u hw => ?_)
  rcases hw with ⟨rfl, rfl, h_1, h_2⟩ | ⟨rfl, rfl, h_3⟩
  · omega
  · refine ww_eq (ws' := [(hx, .inr (11, [.ref qn, .ref qp, .int 0, .int 0, .ref qs, .ref qj, .ref ql, .ref qh, .ref qk, .int 0, .ref qr, .ref qg, .int 0, .int 0, .ref qsh]))]) ?_ rfl rfl rfl
    refine ww_if_ne_f (tgt := 16) C dX11_same_11 (by decide) (rfl) ?_
    refine ww_iconst (v := (-1)) C dX11_same_14 rfl ?_
    exact ww_iret (u := []) C hT [] rfl rfl rfl rfl dX11_same_15 (⟨rfl, rfl⟩)
theorem dX11_canTakeTurns_0 : decode cX11_canTakeTurns 0 = .ok (.iload_n 1, 1) := by decide +kernel
theorem dX11_canTakeTurns_1 : decode cX11_canTakeTurns 1 = .ok (.iconst 1, 1) := by decide +kernel
theorem dX11_canTakeTurns_2 : decode cX11_canTakeTurns 2 = .ok (.bipush 15, 2) := by decide +kernel
theorem dX11_canTakeTurns_4 : decode cX11_canTakeTurns 4 = .ok (.invokestatic 76, 3) := by decide +kernel
theorem dX11_canTakeTurns_7 : decode cX11_canTakeTurns 7 = .ok (.ifCond .eq 14, 3) := by decide +kernel
theorem dX11_canTakeTurns_10 : decode cX11_canTakeTurns 10 = .ok (.iload_n 2, 1) := by decide +kernel
theorem dX11_canTakeTurns_11 : decode cX11_canTakeTurns 11 = .ok (.iconst 0, 1) := by decide +kernel
theorem dX11_canTakeTurns_12 : decode cX11_canTakeTurns 12 = .ok (.sipush 4095, 3) := by decide +kernel
theorem dX11_canTakeTurns_15 : decode cX11_canTakeTurns 15 = .ok (.invokestatic 76, 3) := by decide +kernel
theorem dX11_canTakeTurns_18 : decode cX11_canTakeTurns 18 = .ok (.ifCond .ne 5, 3) := by decide +kernel
theorem dX11_canTakeTurns_23 : decode cX11_canTakeTurns 23 = .ok (.iconst 0, 1) := by decide +kernel
theorem dX11_canTakeTurns_24 : decode cX11_canTakeTurns 24 = .ok (.istore_n 3, 1) := by decide +kernel
theorem dX11_canTakeTurns_25 : decode cX11_canTakeTurns 25 = .ok (.iload_n 3, 1) := by decide +kernel
theorem dX11_canTakeTurns_26 : decode cX11_canTakeTurns 26 = .ok (.iconst 4, 1) := by decide +kernel
theorem dX11_canTakeTurns_27 : decode cX11_canTakeTurns 27 = .ok (.if_icmp .ge 34, 3) := by decide +kernel
theorem dX11_canTakeTurns_30 : decode cX11_canTakeTurns 30 = .ok (.iload_n 1, 1) := by decide +kernel
theorem dX11_canTakeTurns_31 : decode cX11_canTakeTurns 31 = .ok (.iload_n 3, 1) := by decide +kernel
theorem dX11_canTakeTurns_32 : decode cX11_canTakeTurns 32 = .ok (.invokestatic 269, 3) := by decide +kernel
theorem wl_X11_269 : Cond.methodLink RX11 269 yX11_has ∈ TB := tbm (tq4 (List.mem_of_getElem? (i := 191) (by decide +kernel))) (by decide +kernel)
theorem wc_X11_has : Cond.code yX11_has cX11_has 2 (some .boolean) ∈ TB := tbm (tq2 (List.mem_of_getElem? (i := 229) (rfl))) (by decide +kernel)
theorem wt_X11_has : Cond.static yX11_has ∈ TB := tbm (tq2 (List.mem_of_getElem? (i := 228) (by decide +kernel))) (by decide +kernel)
theorem ms_X11_has : MS yX11_has cX11_has 2 (some .boolean) 2 := ⟨wc_X11_has, wn_X11, ⟨by decide +kernel, by decide +kernel, by decide +kernel⟩, wt_X11_has⟩
theorem dX11_canTakeTurns_35 : decode cX11_canTakeTurns 35 = .ok (.ifCond .eq 20, 3) := by decide +kernel
theorem dX11_canTakeTurns_38 : decode cX11_canTakeTurns 38 = .ok (.aload_n 0, 1) := by decide +kernel
theorem dX11_canTakeTurns_39 : decode cX11_canTakeTurns 39 = .ok (.iload_n 2, 1) := by decide +kernel
theorem dX11_canTakeTurns_40 : decode cX11_canTakeTurns 40 = .ok (.iconst 3, 1) := by decide +kernel
theorem dX11_canTakeTurns_41 : decode cX11_canTakeTurns 41 = .ok (.iload_n 3, 1) := by decide +kernel
theorem dX11_canTakeTurns_42 : decode cX11_canTakeTurns 42 = .ok (.imul, 1) := by decide +kernel
theorem dX11_canTakeTurns_43 : decode cX11_canTakeTurns 43 = .ok (.ishr, 1) := by decide +kernel
theorem dX11_canTakeTurns_44 : decode cX11_canTakeTurns 44 = .ok (.bipush 7, 2) := by decide +kernel
theorem dX11_canTakeTurns_46 : decode cX11_canTakeTurns 46 = .ok (.iand, 1) := by decide +kernel
theorem dX11_canTakeTurns_47 : decode cX11_canTakeTurns 47 = .ok (.invokevirtual 98, 3) := by decide +kernel
theorem dX11_canTakeTurns_50 : decode cX11_canTakeTurns 50 = .ok (.ifCond .ne 5, 3) := by decide +kernel
theorem dX11_canTakeTurns_53 : decode cX11_canTakeTurns 53 = .ok (.iconst 0, 1) := by decide +kernel
theorem dX11_canTakeTurns_54 : decode cX11_canTakeTurns 54 = .ok (.ireturn, 1) := by decide +kernel
theorem dX11_canTakeTurns_55 : decode cX11_canTakeTurns 55 = .ok (.iinc 3 1, 3) := by decide +kernel
theorem dX11_canTakeTurns_58 : decode cX11_canTakeTurns 58 = .ok (.goto (-33), 3) := by decide +kernel
theorem dX11_canTakeTurns_21 : decode cX11_canTakeTurns 21 = .ok (.iconst 0, 1) := by decide +kernel
theorem dX11_canTakeTurns_22 : decode cX11_canTakeTurns 22 = .ok (.ireturn, 1) := by decide +kernel
set_option maxRecDepth 100000 in
set_option maxHeartbeats 4000000 in
theorem c_canTakeTurns (l : Launch) (E : EV) (hx : Nat) (p0 : Int32) (p1 : Int32) (qn : Nat) (qp : Nat) (qs : Nat) (qj : Nat) (ql : Nat) (qh : Nat) (qk : Nat) (qr : Nat) (qg : Nat) (qsh : Nat) (jt : Nat) (je : Nat) (ju : Nat) (ja : Nat)  : CT l yX11_canTakeTurns (Cond.code yX11_canTakeTurns cX11_canTakeTurns 4 (some .boolean) :: TB) ({ frames := 2, cells := 0, slots := 0, locals := 43 }) E [.ref hx, .int p0, .int p1] [(hx, .inr (11, [.ref qn, .ref qp, .int 0, .int 0, .ref qs, .ref qj, .ref ql, .ref qh, .ref qk, .int 0, .ref qr, .ref qg, .int 0, .int 0, .ref qsh])), (qj, .inr (2, [.ref jt, .ref je, .ref ju, .ref ja])), (jt, .inl (E.2.1 7, 8, .inr (.inr (.inr (.inr (fun _ => none))))))] (Qi E (fun (r : Int32) u => (r = 0 ∧ u = [(hx, .inr (11, [.ref qn, .ref qp, .int 0, .int 0, .ref qs, .ref qj, .ref ql, .ref qh, .ref qk, .int 0, .ref qr, .ref qg, .int 0, .int 0, .ref qsh])), (qj, .inr (2, [.ref jt, .ref je, .ref ju, .ref ja])), (jt, .inl (E.2.1 7, 8, .inr (.inr (.inr (.inr (fun _ => none))))))]))) 0 0 := by
  refine ct_of rfl rfl ?_
  intro X C hT hin
  show WW X 4 E 0 [(0, .ref hx), (1, .int p0), (2, .int p1)] [] [(hx, .inr (11, [.ref qn, .ref qp, .int 0, .int 0, .ref qs, .ref qj, .ref ql, .ref qh, .ref qk, .int 0, .ref qr, .ref qg, .int 0, .int 0, .ref qsh])), (qj, .inr (2, [.ref jt, .ref je, .ref ju, .ref ja])), (jt, .inl (E.2.1 7, 8, .inr (.inr (.inr (.inr (fun _ => none))))))] 0 0
  refine ww_iload_n C dX11_canTakeTurns_0 1 rfl rfl ?_
  refine ww_iconst (v := 1) C dX11_canTakeTurns_1 rfl ?_
  refine ww_bipush (v := 15) C dX11_canTakeTurns_2 rfl ?_
  refine ww_ci (wr := [(hx, .inr (11, [.ref qn, .ref qp, .int 0, .int 0, .ref qs, .ref qj, .ref ql, .ref qh, .ref qk, .int 0, .ref qr, .ref qg, .int 0, .int 0, .ref qsh])), (qj, .inr (2, [.ref jt, .ref je, .ref ju, .ref ja])), (jt, .inl (E.2.1 7, 8, .inr (.inr (.inr (.inr (fun _ => none))))))]) (k' := 0) (n' := 0) C (run_S (As := [.int p0, .int 1, .int 15]) (rest := []) C (c_within X.2.1 E p0 1 15 p0.toInt 1 15 rfl rfl rfl) ms_X11_within wl_X11_76 rfl rfl rfl rfl dX11_canTakeTurns_4) [] [0, 1, 2] rfl rfl rfl rfl (fun r u hw => ?_)
  rcases hw with ⟨rfl, rfl, h_1, h_2⟩ | ⟨rfl, rfl, h_3⟩
  · refine ww_eq (ws' := [(hx, .inr (11, [.ref qn, .ref qp, .int 0, .int 0, .ref qs, .ref qj, .ref ql, .ref qh, .ref qk, .int 0, .ref qr, .ref qg, .int 0, .int 0, .ref qsh])), (qj, .inr (2, [.ref jt, .ref je, .ref ju, .ref ja])), (jt, .inl (E.2.1 7, 8, .inr (.inr (.inr (.inr (fun _ => none))))))]) ?_ rfl rfl rfl
    refine ww_if_eq_f (tgt := 21) C dX11_canTakeTurns_7 (by decide) (by decide) ?_
    refine ww_iload_n C dX11_canTakeTurns_10 2 rfl rfl ?_
    refine ww_iconst (v := 0) C dX11_canTakeTurns_11 rfl ?_
    refine ww_sipush (v := 4095) C dX11_canTakeTurns_12 rfl ?_
    refine ww_ci (wr := [(hx, .inr (11, [.ref qn, .ref qp, .int 0, .int 0, .ref qs, .ref qj, .ref ql, .ref qh, .ref qk, .int 0, .ref qr, .ref qg, .int 0, .int 0, .ref qsh])), (qj, .inr (2, [.ref jt, .ref je, .ref ju, .ref ja])), (jt, .inl (E.2.1 7, 8, .inr (.inr (.inr (.inr (fun _ => none))))))]) (k' := 0) (n' := 0) C (run_S (As := [.int p1, .int 0, .int 4095]) (rest := []) C (c_within X.2.1 E p1 0 4095 p1.toInt 0 4095 rfl rfl rfl) ms_X11_within wl_X11_76 rfl rfl rfl rfl dX11_canTakeTurns_15) [] [0, 1, 2] rfl rfl rfl rfl (fun r u hw => ?_)
    rcases hw with ⟨rfl, rfl, h_4, h_5⟩ | ⟨rfl, rfl, h_6⟩
    · refine ww_eq (ws' := [(hx, .inr (11, [.ref qn, .ref qp, .int 0, .int 0, .ref qs, .ref qj, .ref ql, .ref qh, .ref qk, .int 0, .ref qr, .ref qg, .int 0, .int 0, .ref qsh])), (qj, .inr (2, [.ref jt, .ref je, .ref ju, .ref ja])), (jt, .inl (E.2.1 7, 8, .inr (.inr (.inr (.inr (fun _ => none))))))]) ?_ rfl rfl rfl
      refine ww_if_ne_t (tgt := 23) C dX11_canTakeTurns_18 (by decide) (by decide) ?_
      refine ww_iconst (v := 0) C dX11_canTakeTurns_23 rfl ?_
      refine ww_istore_n (lv' := [(3, .int 0), (0, .ref hx), (1, .int p0), (2, .int p1)]) C dX11_canTakeTurns_24 rfl rfl rfl ?_
      refine ww_iload_n C dX11_canTakeTurns_25 0 rfl rfl ?_
      refine ww_iconst (v := 4) C dX11_canTakeTurns_26 rfl ?_
      refine ww_icmp_ge_f (tgt := 61) C dX11_canTakeTurns_27 (by decide) (by decide) ?_
      refine ww_iload_n C dX11_canTakeTurns_30 2 rfl rfl ?_
      refine ww_iload_n C dX11_canTakeTurns_31 0 rfl rfl ?_
      refine ww_ci (wr := [(hx, .inr (11, [.ref qn, .ref qp, .int 0, .int 0, .ref qs, .ref qj, .ref ql, .ref qh, .ref qk, .int 0, .ref qr, .ref qg, .int 0, .int 0, .ref qsh])), (qj, .inr (2, [.ref jt, .ref je, .ref ju, .ref ja])), (jt, .inl (E.2.1 7, 8, .inr (.inr (.inr (.inr (fun _ => none))))))]) (k' := 0) (n' := 0) C (run_S (As := [.int p0, .int 0]) (rest := []) C (c_has X.2.1 E p0 0) ms_X11_has wl_X11_269 rfl rfl rfl rfl dX11_canTakeTurns_32) [] [0, 1, 2] rfl rfl rfl rfl (fun r u hw => ?_)
      rcases hw with ⟨rfl, rfl, h_7⟩ | ⟨rfl, rfl, h_8⟩
      · refine ww_eq (ws' := [(hx, .inr (11, [.ref qn, .ref qp, .int 0, .int 0, .ref qs, .ref qj, .ref ql, .ref qh, .ref qk, .int 0, .ref qr, .ref qg, .int 0, .int 0, .ref qsh])), (qj, .inr (2, [.ref jt, .ref je, .ref ju, .ref ja])), (jt, .inl (E.2.1 7, 8, .inr (.inr (.inr (.inr (fun _ => none))))))]) ?_ rfl rfl rfl
        refine ww_if_eq_f (tgt := 55) C dX11_canTakeTurns_35 (by decide) (by decide) ?_
        refine ww_aload_n C dX11_canTakeTurns_38 1 rfl rfl ?_
        refine ww_iload_n C dX11_canTakeTurns_39 3 rfl rfl ?_
        refine ww_iconst (v := 3) C dX11_canTakeTurns_40 rfl ?_
        refine ww_iload_n C dX11_canTakeTurns_41 0 rfl rfl ?_
        refine ww_imul (v := 0) C dX11_canTakeTurns_42 (by decide) ?_
        obtain ⟨x_9, ex_9⟩ : ∃ z : Int32, p1 >>> ((0 : Int32) &&& 31) = z := ⟨_, rfl⟩
        refine ww_ishr (v := x_9) C dX11_canTakeTurns_43 ex_9 ?_
        refine ww_bipush (v := 7) C dX11_canTakeTurns_44 rfl ?_
        obtain ⟨x_10, ex_10⟩ : ∃ z : Int32, x_9 &&& (7 : Int32) = z := ⟨_, rfl⟩
        refine ww_iand (v := x_10) C dX11_canTakeTurns_46 ex_10 ?_
        refine ww_ci (wr := []) (k' := 0) (n' := 0) C (run_V (As := [.int x_10]) (rest := []) C (c_isTold X.2.1 E hx x_10 qn qp qs qj ql qh qk qr qg qsh jt je ju ja) mi_X11_isTold wl_X11_98 rfl 0 11 rfl rfl rfl rfl rfl dX11_canTakeTurns_47) [0, 1, 2] [] rfl rfl rfl rfl (fun r u hw => ?_)
        obtain ⟨rfl, rfl⟩ := hw
        refine ww_eq (ws' := [(hx, .inr (11, [.ref qn, .ref qp, .int 0, .int 0, .ref qs, .ref qj, .ref ql, .ref qh, .ref qk, .int 0, .ref qr, .ref qg, .int 0, .int 0, .ref qsh])), (qj, .inr (2, [.ref jt, .ref je, .ref ju, .ref ja])), (jt, .inl (E.2.1 7, 8, .inr (.inr (.inr (.inr (fun _ => none))))))]) ?_ rfl rfl rfl
        refine ww_if_ne_f (tgt := 55) C dX11_canTakeTurns_50 (by decide) (rfl) ?_
        refine ww_iconst (v := 0) C dX11_canTakeTurns_53 rfl ?_
        exact ww_zret (u := [(hx, .inr (11, [.ref qn, .ref qp, .int 0, .int 0, .ref qs, .ref qj, .ref ql, .ref qh, .ref qk, .int 0, .ref qr, .ref qg, .int 0, .int 0, .ref qsh])), (qj, .inr (2, [.ref jt, .ref je, .ref ju, .ref ja])), (jt, .inl (E.2.1 7, 8, .inr (.inr (.inr (.inr (fun _ => none))))))]) C hT [0, 1, 2] rfl rfl rfl rfl rfl dX11_canTakeTurns_54 (⟨rfl, rfl⟩)
      · refine ww_eq (ws' := [(hx, .inr (11, [.ref qn, .ref qp, .int 0, .int 0, .ref qs, .ref qj, .ref ql, .ref qh, .ref qk, .int 0, .ref qr, .ref qg, .int 0, .int 0, .ref qsh])), (qj, .inr (2, [.ref jt, .ref je, .ref ju, .ref ja])), (jt, .inl (E.2.1 7, 8, .inr (.inr (.inr (.inr (fun _ => none))))))]) ?_ rfl rfl rfl
        refine ww_if_eq_t (tgt := 55) C dX11_canTakeTurns_35 (by decide) (rfl) ?_
        refine ww_iinc (j := 0) (v := 1) (lv' := [(3, .int 1), (0, .ref hx), (1, .int p0), (2, .int p1)]) C dX11_canTakeTurns_55 rfl rfl rfl rfl ?_
        refine ww_goto (tgt := 25) C dX11_canTakeTurns_58 (by decide) ?_
        refine ww_iload_n C dX11_canTakeTurns_25 0 rfl rfl ?_
        refine ww_iconst (v := 4) C dX11_canTakeTurns_26 rfl ?_
        refine ww_icmp_ge_f (tgt := 61) C dX11_canTakeTurns_27 (by decide) (by decide) ?_
        refine ww_iload_n C dX11_canTakeTurns_30 2 rfl rfl ?_
        refine ww_iload_n C dX11_canTakeTurns_31 0 rfl rfl ?_
        refine ww_ci (wr := [(hx, .inr (11, [.ref qn, .ref qp, .int 0, .int 0, .ref qs, .ref qj, .ref ql, .ref qh, .ref qk, .int 0, .ref qr, .ref qg, .int 0, .int 0, .ref qsh])), (qj, .inr (2, [.ref jt, .ref je, .ref ju, .ref ja])), (jt, .inl (E.2.1 7, 8, .inr (.inr (.inr (.inr (fun _ => none))))))]) (k' := 0) (n' := 0) C (run_S (As := [.int p0, .int 1]) (rest := []) C (c_has X.2.1 E p0 1) ms_X11_has wl_X11_269 rfl rfl rfl rfl dX11_canTakeTurns_32) [] [0, 1, 2] rfl rfl rfl rfl (fun r u hw => ?_)
        rcases hw with ⟨rfl, rfl, h_11⟩ | ⟨rfl, rfl, h_12⟩
        · refine ww_eq (ws' := [(hx, .inr (11, [.ref qn, .ref qp, .int 0, .int 0, .ref qs, .ref qj, .ref ql, .ref qh, .ref qk, .int 0, .ref qr, .ref qg, .int 0, .int 0, .ref qsh])), (qj, .inr (2, [.ref jt, .ref je, .ref ju, .ref ja])), (jt, .inl (E.2.1 7, 8, .inr (.inr (.inr (.inr (fun _ => none))))))]) ?_ rfl rfl rfl
          refine ww_if_eq_f (tgt := 55) C dX11_canTakeTurns_35 (by decide) (by decide) ?_
          refine ww_aload_n C dX11_canTakeTurns_38 1 rfl rfl ?_
          refine ww_iload_n C dX11_canTakeTurns_39 3 rfl rfl ?_
          refine ww_iconst (v := 3) C dX11_canTakeTurns_40 rfl ?_
          refine ww_iload_n C dX11_canTakeTurns_41 0 rfl rfl ?_
          refine ww_imul (v := 3) C dX11_canTakeTurns_42 (by decide) ?_
          obtain ⟨x_13, ex_13⟩ : ∃ z : Int32, p1 >>> ((3 : Int32) &&& 31) = z := ⟨_, rfl⟩
          refine ww_ishr (v := x_13) C dX11_canTakeTurns_43 ex_13 ?_
          refine ww_bipush (v := 7) C dX11_canTakeTurns_44 rfl ?_
          obtain ⟨x_14, ex_14⟩ : ∃ z : Int32, x_13 &&& (7 : Int32) = z := ⟨_, rfl⟩
          refine ww_iand (v := x_14) C dX11_canTakeTurns_46 ex_14 ?_
          refine ww_ci (wr := []) (k' := 0) (n' := 0) C (run_V (As := [.int x_14]) (rest := []) C (c_isTold X.2.1 E hx x_14 qn qp qs qj ql qh qk qr qg qsh jt je ju ja) mi_X11_isTold wl_X11_98 rfl 0 11 rfl rfl rfl rfl rfl dX11_canTakeTurns_47) [0, 1, 2] [] rfl rfl rfl rfl (fun r u hw => ?_)
          obtain ⟨rfl, rfl⟩ := hw
          refine ww_eq (ws' := [(hx, .inr (11, [.ref qn, .ref qp, .int 0, .int 0, .ref qs, .ref qj, .ref ql, .ref qh, .ref qk, .int 0, .ref qr, .ref qg, .int 0, .int 0, .ref qsh])), (qj, .inr (2, [.ref jt, .ref je, .ref ju, .ref ja])), (jt, .inl (E.2.1 7, 8, .inr (.inr (.inr (.inr (fun _ => none))))))]) ?_ rfl rfl rfl
          refine ww_if_ne_f (tgt := 55) C dX11_canTakeTurns_50 (by decide) (rfl) ?_
          refine ww_iconst (v := 0) C dX11_canTakeTurns_53 rfl ?_
          exact ww_zret (u := [(hx, .inr (11, [.ref qn, .ref qp, .int 0, .int 0, .ref qs, .ref qj, .ref ql, .ref qh, .ref qk, .int 0, .ref qr, .ref qg, .int 0, .int 0, .ref qsh])), (qj, .inr (2, [.ref jt, .ref je, .ref ju, .ref ja])), (jt, .inl (E.2.1 7, 8, .inr (.inr (.inr (.inr (fun _ => none))))))]) C hT [0, 1, 2] rfl rfl rfl rfl rfl dX11_canTakeTurns_54 (⟨rfl, rfl⟩)
        · refine ww_eq (ws' := [(hx, .inr (11, [.ref qn, .ref qp, .int 0, .int 0, .ref qs, .ref qj, .ref ql, .ref qh, .ref qk, .int 0, .ref qr, .ref qg, .int 0, .int 0, .ref qsh])), (qj, .inr (2, [.ref jt, .ref je, .ref ju, .ref ja])), (jt, .inl (E.2.1 7, 8, .inr (.inr (.inr (.inr (fun _ => none))))))]) ?_ rfl rfl rfl
          refine ww_if_eq_t (tgt := 55) C dX11_canTakeTurns_35 (by decide) (rfl) ?_
          refine ww_iinc (j := 0) (v := 2) (lv' := [(3, .int 2), (0, .ref hx), (1, .int p0), (2, .int p1)]) C dX11_canTakeTurns_55 rfl rfl rfl rfl ?_
          refine ww_goto (tgt := 25) C dX11_canTakeTurns_58 (by decide) ?_
          refine ww_iload_n C dX11_canTakeTurns_25 0 rfl rfl ?_
          refine ww_iconst (v := 4) C dX11_canTakeTurns_26 rfl ?_
          refine ww_icmp_ge_f (tgt := 61) C dX11_canTakeTurns_27 (by decide) (by decide) ?_
          refine ww_iload_n C dX11_canTakeTurns_30 2 rfl rfl ?_
          refine ww_iload_n C dX11_canTakeTurns_31 0 rfl rfl ?_
          refine ww_ci (wr := [(hx, .inr (11, [.ref qn, .ref qp, .int 0, .int 0, .ref qs, .ref qj, .ref ql, .ref qh, .ref qk, .int 0, .ref qr, .ref qg, .int 0, .int 0, .ref qsh])), (qj, .inr (2, [.ref jt, .ref je, .ref ju, .ref ja])), (jt, .inl (E.2.1 7, 8, .inr (.inr (.inr (.inr (fun _ => none))))))]) (k' := 0) (n' := 0) C (run_S (As := [.int p0, .int 2]) (rest := []) C (c_has X.2.1 E p0 2) ms_X11_has wl_X11_269 rfl rfl rfl rfl dX11_canTakeTurns_32) [] [0, 1, 2] rfl rfl rfl rfl (fun r u hw => ?_)
          rcases hw with ⟨rfl, rfl, h_15⟩ | ⟨rfl, rfl, h_16⟩
          · refine ww_eq (ws' := [(hx, .inr (11, [.ref qn, .ref qp, .int 0, .int 0, .ref qs, .ref qj, .ref ql, .ref qh, .ref qk, .int 0, .ref qr, .ref qg, .int 0, .int 0, .ref qsh])), (qj, .inr (2, [.ref jt, .ref je, .ref ju, .ref ja])), (jt, .inl (E.2.1 7, 8, .inr (.inr (.inr (.inr (fun _ => none))))))]) ?_ rfl rfl rfl
            refine ww_if_eq_f (tgt := 55) C dX11_canTakeTurns_35 (by decide) (by decide) ?_
            refine ww_aload_n C dX11_canTakeTurns_38 1 rfl rfl ?_
            refine ww_iload_n C dX11_canTakeTurns_39 3 rfl rfl ?_
            refine ww_iconst (v := 3) C dX11_canTakeTurns_40 rfl ?_
            refine ww_iload_n C dX11_canTakeTurns_41 0 rfl rfl ?_
            refine ww_imul (v := 6) C dX11_canTakeTurns_42 (by decide) ?_
            obtain ⟨x_17, ex_17⟩ : ∃ z : Int32, p1 >>> ((6 : Int32) &&& 31) = z := ⟨_, rfl⟩
            refine ww_ishr (v := x_17) C dX11_canTakeTurns_43 ex_17 ?_
            refine ww_bipush (v := 7) C dX11_canTakeTurns_44 rfl ?_
            obtain ⟨x_18, ex_18⟩ : ∃ z : Int32, x_17 &&& (7 : Int32) = z := ⟨_, rfl⟩
            refine ww_iand (v := x_18) C dX11_canTakeTurns_46 ex_18 ?_
            refine ww_ci (wr := []) (k' := 0) (n' := 0) C (run_V (As := [.int x_18]) (rest := []) C (c_isTold X.2.1 E hx x_18 qn qp qs qj ql qh qk qr qg qsh jt je ju ja) mi_X11_isTold wl_X11_98 rfl 0 11 rfl rfl rfl rfl rfl dX11_canTakeTurns_47) [0, 1, 2] [] rfl rfl rfl rfl (fun r u hw => ?_)
            obtain ⟨rfl, rfl⟩ := hw
            refine ww_eq (ws' := [(hx, .inr (11, [.ref qn, .ref qp, .int 0, .int 0, .ref qs, .ref qj, .ref ql, .ref qh, .ref qk, .int 0, .ref qr, .ref qg, .int 0, .int 0, .ref qsh])), (qj, .inr (2, [.ref jt, .ref je, .ref ju, .ref ja])), (jt, .inl (E.2.1 7, 8, .inr (.inr (.inr (.inr (fun _ => none))))))]) ?_ rfl rfl rfl
            refine ww_if_ne_f (tgt := 55) C dX11_canTakeTurns_50 (by decide) (rfl) ?_
            refine ww_iconst (v := 0) C dX11_canTakeTurns_53 rfl ?_
            exact ww_zret (u := [(hx, .inr (11, [.ref qn, .ref qp, .int 0, .int 0, .ref qs, .ref qj, .ref ql, .ref qh, .ref qk, .int 0, .ref qr, .ref qg, .int 0, .int 0, .ref qsh])), (qj, .inr (2, [.ref jt, .ref je, .ref ju, .ref ja])), (jt, .inl (E.2.1 7, 8, .inr (.inr (.inr (.inr (fun _ => none))))))]) C hT [0, 1, 2] rfl rfl rfl rfl rfl dX11_canTakeTurns_54 (⟨rfl, rfl⟩)
          · refine ww_eq (ws' := [(hx, .inr (11, [.ref qn, .ref qp, .int 0, .int 0, .ref qs, .ref qj, .ref ql, .ref qh, .ref qk, .int 0, .ref qr, .ref qg, .int 0, .int 0, .ref qsh])), (qj, .inr (2, [.ref jt, .ref je, .ref ju, .ref ja])), (jt, .inl (E.2.1 7, 8, .inr (.inr (.inr (.inr (fun _ => none))))))]) ?_ rfl rfl rfl
            refine ww_if_eq_t (tgt := 55) C dX11_canTakeTurns_35 (by decide) (rfl) ?_
            refine ww_iinc (j := 0) (v := 3) (lv' := [(3, .int 3), (0, .ref hx), (1, .int p0), (2, .int p1)]) C dX11_canTakeTurns_55 rfl rfl rfl rfl ?_
            refine ww_goto (tgt := 25) C dX11_canTakeTurns_58 (by decide) ?_
            refine ww_iload_n C dX11_canTakeTurns_25 0 rfl rfl ?_
            refine ww_iconst (v := 4) C dX11_canTakeTurns_26 rfl ?_
            refine ww_icmp_ge_f (tgt := 61) C dX11_canTakeTurns_27 (by decide) (by decide) ?_
            refine ww_iload_n C dX11_canTakeTurns_30 2 rfl rfl ?_
            refine ww_iload_n C dX11_canTakeTurns_31 0 rfl rfl ?_
            refine ww_ci (wr := [(hx, .inr (11, [.ref qn, .ref qp, .int 0, .int 0, .ref qs, .ref qj, .ref ql, .ref qh, .ref qk, .int 0, .ref qr, .ref qg, .int 0, .int 0, .ref qsh])), (qj, .inr (2, [.ref jt, .ref je, .ref ju, .ref ja])), (jt, .inl (E.2.1 7, 8, .inr (.inr (.inr (.inr (fun _ => none))))))]) (k' := 0) (n' := 0) C (run_S (As := [.int p0, .int 3]) (rest := []) C (c_has X.2.1 E p0 3) ms_X11_has wl_X11_269 rfl rfl rfl rfl dX11_canTakeTurns_32) [] [0, 1, 2] rfl rfl rfl rfl (fun r u hw => ?_)
            rcases hw with ⟨rfl, rfl, h_19⟩ | ⟨rfl, rfl, h_20⟩
            · refine ww_eq (ws' := [(hx, .inr (11, [.ref qn, .ref qp, .int 0, .int 0, .ref qs, .ref qj, .ref ql, .ref qh, .ref qk, .int 0, .ref qr, .ref qg, .int 0, .int 0, .ref qsh])), (qj, .inr (2, [.ref jt, .ref je, .ref ju, .ref ja])), (jt, .inl (E.2.1 7, 8, .inr (.inr (.inr (.inr (fun _ => none))))))]) ?_ rfl rfl rfl
              refine ww_if_eq_f (tgt := 55) C dX11_canTakeTurns_35 (by decide) (by decide) ?_
              refine ww_aload_n C dX11_canTakeTurns_38 1 rfl rfl ?_
              refine ww_iload_n C dX11_canTakeTurns_39 3 rfl rfl ?_
              refine ww_iconst (v := 3) C dX11_canTakeTurns_40 rfl ?_
              refine ww_iload_n C dX11_canTakeTurns_41 0 rfl rfl ?_
              refine ww_imul (v := 9) C dX11_canTakeTurns_42 (by decide) ?_
              obtain ⟨x_21, ex_21⟩ : ∃ z : Int32, p1 >>> ((9 : Int32) &&& 31) = z := ⟨_, rfl⟩
              refine ww_ishr (v := x_21) C dX11_canTakeTurns_43 ex_21 ?_
              refine ww_bipush (v := 7) C dX11_canTakeTurns_44 rfl ?_
              obtain ⟨x_22, ex_22⟩ : ∃ z : Int32, x_21 &&& (7 : Int32) = z := ⟨_, rfl⟩
              refine ww_iand (v := x_22) C dX11_canTakeTurns_46 ex_22 ?_
              refine ww_ci (wr := []) (k' := 0) (n' := 0) C (run_V (As := [.int x_22]) (rest := []) C (c_isTold X.2.1 E hx x_22 qn qp qs qj ql qh qk qr qg qsh jt je ju ja) mi_X11_isTold wl_X11_98 rfl 0 11 rfl rfl rfl rfl rfl dX11_canTakeTurns_47) [0, 1, 2] [] rfl rfl rfl rfl (fun r u hw => ?_)
              obtain ⟨rfl, rfl⟩ := hw
              refine ww_eq (ws' := [(hx, .inr (11, [.ref qn, .ref qp, .int 0, .int 0, .ref qs, .ref qj, .ref ql, .ref qh, .ref qk, .int 0, .ref qr, .ref qg, .int 0, .int 0, .ref qsh])), (qj, .inr (2, [.ref jt, .ref je, .ref ju, .ref ja])), (jt, .inl (E.2.1 7, 8, .inr (.inr (.inr (.inr (fun _ => none))))))]) ?_ rfl rfl rfl
              refine ww_if_ne_f (tgt := 55) C dX11_canTakeTurns_50 (by decide) (rfl) ?_
              refine ww_iconst (v := 0) C dX11_canTakeTurns_53 rfl ?_
              exact ww_zret (u := [(hx, .inr (11, [.ref qn, .ref qp, .int 0, .int 0, .ref qs, .ref qj, .ref ql, .ref qh, .ref qk, .int 0, .ref qr, .ref qg, .int 0, .int 0, .ref qsh])), (qj, .inr (2, [.ref jt, .ref je, .ref ju, .ref ja])), (jt, .inl (E.2.1 7, 8, .inr (.inr (.inr (.inr (fun _ => none))))))]) C hT [0, 1, 2] rfl rfl rfl rfl rfl dX11_canTakeTurns_54 (⟨rfl, rfl⟩)
            · refine ww_eq (ws' := [(hx, .inr (11, [.ref qn, .ref qp, .int 0, .int 0, .ref qs, .ref qj, .ref ql, .ref qh, .ref qk, .int 0, .ref qr, .ref qg, .int 0, .int 0, .ref qsh])), (qj, .inr (2, [.ref jt, .ref je, .ref ju, .ref ja])), (jt, .inl (E.2.1 7, 8, .inr (.inr (.inr (.inr (fun _ => none))))))]) ?_ rfl rfl rfl
              refine ww_if_eq_t (tgt := 55) C dX11_canTakeTurns_35 (by decide) (rfl) ?_
              refine ww_iinc (j := 0) (v := 4) (lv' := [(3, .int 4), (0, .ref hx), (1, .int p0), (2, .int p1)]) C dX11_canTakeTurns_55 rfl rfl rfl rfl ?_
              refine ww_goto (tgt := 25) C dX11_canTakeTurns_58 (by decide) ?_
              refine ww_iload_n C dX11_canTakeTurns_25 0 rfl rfl ?_
              refine ww_iconst (v := 4) C dX11_canTakeTurns_26 rfl ?_
              refine ww_icmp_ge_t (tgt := 61) C dX11_canTakeTurns_27 (by decide) (by decide) ?_
              exact (nb4 (x := p0) (by omega) (by omega) (by assumption) (by assumption) (by assumption) (by assumption)).elim
    · refine ww_eq (ws' := [(hx, .inr (11, [.ref qn, .ref qp, .int 0, .int 0, .ref qs, .ref qj, .ref ql, .ref qh, .ref qk, .int 0, .ref qr, .ref qg, .int 0, .int 0, .ref qsh])), (qj, .inr (2, [.ref jt, .ref je, .ref ju, .ref ja])), (jt, .inl (E.2.1 7, 8, .inr (.inr (.inr (.inr (fun _ => none))))))]) ?_ rfl rfl rfl
      refine ww_if_ne_f (tgt := 23) C dX11_canTakeTurns_18 (by decide) (rfl) ?_
      refine ww_iconst (v := 0) C dX11_canTakeTurns_21 rfl ?_
      exact ww_zret (u := [(hx, .inr (11, [.ref qn, .ref qp, .int 0, .int 0, .ref qs, .ref qj, .ref ql, .ref qh, .ref qk, .int 0, .ref qr, .ref qg, .int 0, .int 0, .ref qsh])), (qj, .inr (2, [.ref jt, .ref je, .ref ju, .ref ja])), (jt, .inl (E.2.1 7, 8, .inr (.inr (.inr (.inr (fun _ => none))))))]) C hT [0, 1, 2] rfl rfl rfl rfl rfl dX11_canTakeTurns_22 (⟨rfl, rfl⟩)
  · refine ww_eq (ws' := [(hx, .inr (11, [.ref qn, .ref qp, .int 0, .int 0, .ref qs, .ref qj, .ref ql, .ref qh, .ref qk, .int 0, .ref qr, .ref qg, .int 0, .int 0, .ref qsh])), (qj, .inr (2, [.ref jt, .ref je, .ref ju, .ref ja])), (jt, .inl (E.2.1 7, 8, .inr (.inr (.inr (.inr (fun _ => none))))))]) ?_ rfl rfl rfl
    refine ww_if_eq_t (tgt := 21) C dX11_canTakeTurns_7 (by decide) (rfl) ?_
    refine ww_iconst (v := 0) C dX11_canTakeTurns_21 rfl ?_
    exact ww_zret (u := [(hx, .inr (11, [.ref qn, .ref qp, .int 0, .int 0, .ref qs, .ref qj, .ref ql, .ref qh, .ref qk, .int 0, .ref qr, .ref qg, .int 0, .int 0, .ref qsh])), (qj, .inr (2, [.ref jt, .ref je, .ref ju, .ref ja])), (jt, .inl (E.2.1 7, 8, .inr (.inr (.inr (.inr (fun _ => none))))))]) C hT [0, 1, 2] rfl rfl rfl rfl rfl dX11_canTakeTurns_22 (⟨rfl, rfl⟩)
theorem dX11_turn_0 : decode cX11_turn 0 = .ok (.aload_n 0, 1) := by decide +kernel
theorem dX11_turn_1 : decode cX11_turn 1 = .ok (.iload_n 1, 1) := by decide +kernel
theorem dX11_turn_2 : decode cX11_turn 2 = .ok (.iload_n 2, 1) := by decide +kernel
theorem dX11_turn_3 : decode cX11_turn 3 = .ok (.invokevirtual 272, 3) := by decide +kernel
theorem wl_X11_272 : Cond.methodLink RX11 272 yX11_canTakeTurns ∈ TB := tbm (tq4 (List.mem_of_getElem? (i := 187) (by decide +kernel))) (by decide +kernel)
theorem wc_X11_canTakeTurns : Cond.code yX11_canTakeTurns cX11_canTakeTurns 4 (some .boolean) ∈ TB := tbm (tq4 (List.mem_of_getElem? (i := 190) (rfl))) (by decide +kernel)
theorem wi_X11_canTakeTurns : Cond.instanceMethod yX11_canTakeTurns ∈ TB := tbm (tq4 (List.mem_of_getElem? (i := 189) (by decide +kernel))) (by decide +kernel)
theorem ws_X11_canTakeTurns : Cond.selects RX11 yX11_canTakeTurns yX11_canTakeTurns ∈ TB := tbm (tq0 (List.mem_of_getElem? (i := 32) (by decide +kernel))) (by decide +kernel)
theorem mi_X11_canTakeTurns : MI yX11_canTakeTurns cX11_canTakeTurns 4 (some .boolean) 2 := ⟨wc_X11_canTakeTurns, wn_X11, ⟨by decide +kernel, by decide +kernel, by decide +kernel⟩, wi_X11_canTakeTurns, ws_X11_canTakeTurns⟩
theorem dX11_turn_6 : decode cX11_turn 6 = .ok (.ifCond .ne 5, 3) := by decide +kernel
theorem dX11_turn_9 : decode cX11_turn 9 = .ok (.iconst (-1), 1) := by decide +kernel
theorem dX11_turn_10 : decode cX11_turn 10 = .ok (.ireturn, 1) := by decide +kernel
set_option maxRecDepth 100000 in
set_option maxHeartbeats 4000000 in
theorem x_turn (l : Launch) (E : EV) (hx : Nat) (p0 : Int32) (p1 : Int32) (qn : Nat) (qp : Nat) (qs : Nat) (qj : Nat) (ql : Nat) (qh : Nat) (qk : Nat) (qr : Nat) (qg : Nat) (qsh : Nat) (jt : Nat) (je : Nat) (ju : Nat) (ja : Nat)  : CT l yX11_turn (Cond.code yX11_turn cX11_turn 3 (some .int) :: TB) ({ frames := 3, cells := 0, slots := 0, locals := 66 }) E [.ref hx, .int p0, .int p1] [(hx, .inr (11, [.ref qn, .ref qp, .int 0, .int 0, .ref qs, .ref qj, .ref ql, .ref qh, .ref qk, .int 0, .ref qr, .ref qg, .int 0, .int 0, .ref qsh])), (qj, .inr (2, [.ref jt, .ref je, .ref ju, .ref ja])), (jt, .inl (E.2.1 7, 8, .inr (.inr (.inr (.inr (fun _ => none))))))] (Qi E (fun (r : Int32) u => (r = (-1) ∧ u = []))) 0 0 := by
  refine ct_of rfl rfl ?_
  intro X C hT hin
  show WW X 3 E 0 [(0, .ref hx), (1, .int p0), (2, .int p1)] [] [(hx, .inr (11, [.ref qn, .ref qp, .int 0, .int 0, .ref qs, .ref qj, .ref ql, .ref qh, .ref qk, .int 0, .ref qr, .ref qg, .int 0, .int 0, .ref qsh])), (qj, .inr (2, [.ref jt, .ref je, .ref ju, .ref ja])), (jt, .inl (E.2.1 7, 8, .inr (.inr (.inr (.inr (fun _ => none))))))] 0 0
  refine ww_aload_n C dX11_turn_0 0 rfl rfl ?_
  refine ww_iload_n C dX11_turn_1 1 rfl rfl ?_
  refine ww_iload_n C dX11_turn_2 2 rfl rfl ?_
  refine ww_ci (wr := []) (k' := 0) (n' := 0) C (run_V (As := [.int p0, .int p1]) (rest := []) C (c_canTakeTurns X.2.1 E hx p0 p1 qn qp qs qj ql qh qk qr qg qsh jt je ju ja) mi_X11_canTakeTurns wl_X11_272 rfl 0 11 rfl rfl rfl rfl rfl dX11_turn_3) [0, 1, 2] [] rfl rfl rfl rfl (fun r u hw => ?_)
  obtain ⟨rfl, rfl⟩ := hw
  refine ww_eq (ws' := [(hx, .inr (11, [.ref qn, .ref qp, .int 0, .int 0, .ref qs, .ref qj, .ref ql, .ref qh, .ref qk, .int 0, .ref qr, .ref qg, .int 0, .int 0, .ref qsh])), (qj, .inr (2, [.ref jt, .ref je, .ref ju, .ref ja])), (jt, .inl (E.2.1 7, 8, .inr (.inr (.inr (.inr (fun _ => none))))))]) ?_ rfl rfl rfl
  refine ww_if_ne_f (tgt := 11) C dX11_turn_6 (by decide) (rfl) ?_
  refine ww_iconst (v := (-1)) C dX11_turn_9 rfl ?_
  exact ww_iret (u := []) C hT [] rfl rfl rfl rfl dX11_turn_10 (⟨rfl, rfl⟩)
theorem dX11_turns_0 : decode cX11_turns 0 = .ok (.iload_n 3, 1) := by decide +kernel
theorem dX11_turns_1 : decode cX11_turns 1 = .ok (.iconst 0, 1) := by decide +kernel
theorem dX11_turns_2 : decode cX11_turns 2 = .ok (.iconst 2, 1) := by decide +kernel
theorem dX11_turns_3 : decode cX11_turns 3 = .ok (.invokestatic 76, 3) := by decide +kernel
theorem dX11_turns_6 : decode cX11_turns 6 = .ok (.ifCond .ne 16, 3) := by decide +kernel
theorem dX11_turns_22 : decode cX11_turns 22 = .ok (.aload_n 0, 1) := by decide +kernel
theorem dX11_turns_23 : decode cX11_turns 23 = .ok (.iload_n 1, 1) := by decide +kernel
theorem dX11_turns_24 : decode cX11_turns 24 = .ok (.iload_n 2, 1) := by decide +kernel
theorem dX11_turns_25 : decode cX11_turns 25 = .ok (.invokevirtual 272, 3) := by decide +kernel
theorem dX11_turns_28 : decode cX11_turns 28 = .ok (.ifCond .ne 5, 3) := by decide +kernel
theorem dX11_turns_31 : decode cX11_turns 31 = .ok (.iconst (-1), 1) := by decide +kernel
theorem dX11_turns_32 : decode cX11_turns 32 = .ok (.ireturn, 1) := by decide +kernel
theorem dX11_turns_9 : decode cX11_turns 9 = .ok (.iload_n 3, 1) := by decide +kernel
theorem dX11_turns_10 : decode cX11_turns 10 = .ok (.bipush 10, 2) := by decide +kernel
theorem dX11_turns_12 : decode cX11_turns 12 = .ok (.bipush 13, 2) := by decide +kernel
theorem dX11_turns_14 : decode cX11_turns 14 = .ok (.invokestatic 76, 3) := by decide +kernel
theorem dX11_turns_17 : decode cX11_turns 17 = .ok (.ifCond .ne 5, 3) := by decide +kernel
theorem dX11_turns_20 : decode cX11_turns 20 = .ok (.iconst (-1), 1) := by decide +kernel
theorem dX11_turns_21 : decode cX11_turns 21 = .ok (.ireturn, 1) := by decide +kernel
set_option maxRecDepth 100000 in
set_option maxHeartbeats 4000000 in
theorem x_turns (l : Launch) (E : EV) (hx : Nat) (p0 : Int32) (p1 : Int32) (p2 : Int32) (qn : Nat) (qp : Nat) (qs : Nat) (qj : Nat) (ql : Nat) (qh : Nat) (qk : Nat) (qr : Nat) (qg : Nat) (qsh : Nat) (jt : Nat) (je : Nat) (ju : Nat) (ja : Nat)  : CT l yX11_turns (Cond.code yX11_turns cX11_turns 4 (some .int) :: TB) ({ frames := 3, cells := 0, slots := 0, locals := 66 }) E [.ref hx, .int p0, .int p1, .int p2] [(hx, .inr (11, [.ref qn, .ref qp, .int 0, .int 0, .ref qs, .ref qj, .ref ql, .ref qh, .ref qk, .int 0, .ref qr, .ref qg, .int 0, .int 0, .ref qsh])), (qj, .inr (2, [.ref jt, .ref je, .ref ju, .ref ja])), (jt, .inl (E.2.1 7, 8, .inr (.inr (.inr (.inr (fun _ => none))))))] (Qi E (fun (r : Int32) u => (r = (-1) ∧ u = []))) 0 0 := by
  refine ct_of rfl rfl ?_
  intro X C hT hin
  show WW X 4 E 0 [(0, .ref hx), (1, .int p0), (2, .int p1), (3, .int p2)] [] [(hx, .inr (11, [.ref qn, .ref qp, .int 0, .int 0, .ref qs, .ref qj, .ref ql, .ref qh, .ref qk, .int 0, .ref qr, .ref qg, .int 0, .int 0, .ref qsh])), (qj, .inr (2, [.ref jt, .ref je, .ref ju, .ref ja])), (jt, .inl (E.2.1 7, 8, .inr (.inr (.inr (.inr (fun _ => none))))))] 0 0
  refine ww_iload_n C dX11_turns_0 3 rfl rfl ?_
  refine ww_iconst (v := 0) C dX11_turns_1 rfl ?_
  refine ww_iconst (v := 2) C dX11_turns_2 rfl ?_
  refine ww_ci (wr := [(hx, .inr (11, [.ref qn, .ref qp, .int 0, .int 0, .ref qs, .ref qj, .ref ql, .ref qh, .ref qk, .int 0, .ref qr, .ref qg, .int 0, .int 0, .ref qsh])), (qj, .inr (2, [.ref jt, .ref je, .ref ju, .ref ja])), (jt, .inl (E.2.1 7, 8, .inr (.inr (.inr (.inr (fun _ => none))))))]) (k' := 0) (n' := 0) C (run_S (As := [.int p2, .int 0, .int 2]) (rest := []) C (c_within X.2.1 E p2 0 2 p2.toInt 0 2 rfl rfl rfl) ms_X11_within wl_X11_76 rfl rfl rfl rfl dX11_turns_3) [] [0, 1, 2] rfl rfl rfl rfl (fun r u hw => ?_)
  rcases hw with ⟨rfl, rfl, h_1, h_2⟩ | ⟨rfl, rfl, h_3⟩
  · refine ww_eq (ws' := [(hx, .inr (11, [.ref qn, .ref qp, .int 0, .int 0, .ref qs, .ref qj, .ref ql, .ref qh, .ref qk, .int 0, .ref qr, .ref qg, .int 0, .int 0, .ref qsh])), (qj, .inr (2, [.ref jt, .ref je, .ref ju, .ref ja])), (jt, .inl (E.2.1 7, 8, .inr (.inr (.inr (.inr (fun _ => none))))))]) ?_ rfl rfl rfl
    refine ww_if_ne_t (tgt := 22) C dX11_turns_6 (by decide) (by decide) ?_
    refine ww_aload_n C dX11_turns_22 0 rfl rfl ?_
    refine ww_iload_n C dX11_turns_23 1 rfl rfl ?_
    refine ww_iload_n C dX11_turns_24 2 rfl rfl ?_
    refine ww_ci (wr := []) (k' := 0) (n' := 0) C (run_V (As := [.int p0, .int p1]) (rest := []) C (c_canTakeTurns X.2.1 E hx p0 p1 qn qp qs qj ql qh qk qr qg qsh jt je ju ja) mi_X11_canTakeTurns wl_X11_272 rfl 0 11 rfl rfl rfl rfl rfl dX11_turns_25) [0, 1, 2] [] rfl rfl rfl rfl (fun r u hw => ?_)
    obtain ⟨rfl, rfl⟩ := hw
    refine ww_eq (ws' := [(hx, .inr (11, [.ref qn, .ref qp, .int 0, .int 0, .ref qs, .ref qj, .ref ql, .ref qh, .ref qk, .int 0, .ref qr, .ref qg, .int 0, .int 0, .ref qsh])), (qj, .inr (2, [.ref jt, .ref je, .ref ju, .ref ja])), (jt, .inl (E.2.1 7, 8, .inr (.inr (.inr (.inr (fun _ => none))))))]) ?_ rfl rfl rfl
    refine ww_if_ne_f (tgt := 33) C dX11_turns_28 (by decide) (rfl) ?_
    refine ww_iconst (v := (-1)) C dX11_turns_31 rfl ?_
    exact ww_iret (u := []) C hT [] rfl rfl rfl rfl dX11_turns_32 (⟨rfl, rfl⟩)
  · refine ww_eq (ws' := [(hx, .inr (11, [.ref qn, .ref qp, .int 0, .int 0, .ref qs, .ref qj, .ref ql, .ref qh, .ref qk, .int 0, .ref qr, .ref qg, .int 0, .int 0, .ref qsh])), (qj, .inr (2, [.ref jt, .ref je, .ref ju, .ref ja])), (jt, .inl (E.2.1 7, 8, .inr (.inr (.inr (.inr (fun _ => none))))))]) ?_ rfl rfl rfl
    refine ww_if_ne_f (tgt := 22) C dX11_turns_6 (by decide) (rfl) ?_
    refine ww_iload_n C dX11_turns_9 3 rfl rfl ?_
    refine ww_bipush (v := 10) C dX11_turns_10 rfl ?_
    refine ww_bipush (v := 13) C dX11_turns_12 rfl ?_
    refine ww_ci (wr := [(hx, .inr (11, [.ref qn, .ref qp, .int 0, .int 0, .ref qs, .ref qj, .ref ql, .ref qh, .ref qk, .int 0, .ref qr, .ref qg, .int 0, .int 0, .ref qsh])), (qj, .inr (2, [.ref jt, .ref je, .ref ju, .ref ja])), (jt, .inl (E.2.1 7, 8, .inr (.inr (.inr (.inr (fun _ => none))))))]) (k' := 0) (n' := 0) C (run_S (As := [.int p2, .int 10, .int 13]) (rest := []) C (c_within X.2.1 E p2 10 13 p2.toInt 10 13 rfl rfl rfl) ms_X11_within wl_X11_76 rfl rfl rfl rfl dX11_turns_14) [] [0, 1, 2] rfl rfl rfl rfl (fun r u hw => ?_)
    rcases hw with ⟨rfl, rfl, h_4, h_5⟩ | ⟨rfl, rfl, h_6⟩
    · refine ww_eq (ws' := [(hx, .inr (11, [.ref qn, .ref qp, .int 0, .int 0, .ref qs, .ref qj, .ref ql, .ref qh, .ref qk, .int 0, .ref qr, .ref qg, .int 0, .int 0, .ref qsh])), (qj, .inr (2, [.ref jt, .ref je, .ref ju, .ref ja])), (jt, .inl (E.2.1 7, 8, .inr (.inr (.inr (.inr (fun _ => none))))))]) ?_ rfl rfl rfl
      refine ww_if_ne_t (tgt := 22) C dX11_turns_17 (by decide) (by decide) ?_
      refine ww_aload_n C dX11_turns_22 0 rfl rfl ?_
      refine ww_iload_n C dX11_turns_23 1 rfl rfl ?_
      refine ww_iload_n C dX11_turns_24 2 rfl rfl ?_
      refine ww_ci (wr := []) (k' := 0) (n' := 0) C (run_V (As := [.int p0, .int p1]) (rest := []) C (c_canTakeTurns X.2.1 E hx p0 p1 qn qp qs qj ql qh qk qr qg qsh jt je ju ja) mi_X11_canTakeTurns wl_X11_272 rfl 0 11 rfl rfl rfl rfl rfl dX11_turns_25) [0, 1, 2] [] rfl rfl rfl rfl (fun r u hw => ?_)
      obtain ⟨rfl, rfl⟩ := hw
      refine ww_eq (ws' := [(hx, .inr (11, [.ref qn, .ref qp, .int 0, .int 0, .ref qs, .ref qj, .ref ql, .ref qh, .ref qk, .int 0, .ref qr, .ref qg, .int 0, .int 0, .ref qsh])), (qj, .inr (2, [.ref jt, .ref je, .ref ju, .ref ja])), (jt, .inl (E.2.1 7, 8, .inr (.inr (.inr (.inr (fun _ => none))))))]) ?_ rfl rfl rfl
      refine ww_if_ne_f (tgt := 33) C dX11_turns_28 (by decide) (rfl) ?_
      refine ww_iconst (v := (-1)) C dX11_turns_31 rfl ?_
      exact ww_iret (u := []) C hT [] rfl rfl rfl rfl dX11_turns_32 (⟨rfl, rfl⟩)
    · refine ww_eq (ws' := [(hx, .inr (11, [.ref qn, .ref qp, .int 0, .int 0, .ref qs, .ref qj, .ref ql, .ref qh, .ref qk, .int 0, .ref qr, .ref qg, .int 0, .int 0, .ref qsh])), (qj, .inr (2, [.ref jt, .ref je, .ref ju, .ref ja])), (jt, .inl (E.2.1 7, 8, .inr (.inr (.inr (.inr (fun _ => none))))))]) ?_ rfl rfl rfl
      refine ww_if_ne_f (tgt := 22) C dX11_turns_17 (by decide) (rfl) ?_
      refine ww_iconst (v := (-1)) C dX11_turns_20 rfl ?_
      exact ww_iret (u := []) C hT [] rfl rfl rfl rfl dX11_turns_21 (⟨rfl, rfl⟩)
theorem dX11_plan_0 : decode cX11_plan 0 = .ok (.aload_n 0, 1) := by decide +kernel
theorem dX11_plan_1 : decode cX11_plan 1 = .ok (.iload_n 1, 1) := by decide +kernel
theorem dX11_plan_2 : decode cX11_plan 2 = .ok (.invokevirtual 98, 3) := by decide +kernel
theorem dX11_plan_5 : decode cX11_plan 5 = .ok (.ifCond .eq 17, 3) := by decide +kernel
theorem dX11_plan_22 : decode cX11_plan 22 = .ok (.iconst (-1), 1) := by decide +kernel
theorem dX11_plan_23 : decode cX11_plan 23 = .ok (.ireturn, 1) := by decide +kernel
set_option maxRecDepth 100000 in
set_option maxHeartbeats 4000000 in
theorem x_plan (l : Launch) (E : EV) (hx : Nat) (p0 : Int32) (p1 : Int32) (p2 : Int32) (p3 : Int32) (qn : Nat) (qp : Nat) (qs : Nat) (qj : Nat) (ql : Nat) (qh : Nat) (qk : Nat) (qr : Nat) (qg : Nat) (qsh : Nat) (jt : Nat) (je : Nat) (ju : Nat) (ja : Nat)  : CT l yX11_plan (Cond.code yX11_plan cX11_plan 6 (some .int) :: TB) ({ frames := 2, cells := 0, slots := 0, locals := 43 }) E [.ref hx, .int p0, .int p1, .int p2, .int p3] [(hx, .inr (11, [.ref qn, .ref qp, .int 0, .int 0, .ref qs, .ref qj, .ref ql, .ref qh, .ref qk, .int 0, .ref qr, .ref qg, .int 0, .int 0, .ref qsh])), (qj, .inr (2, [.ref jt, .ref je, .ref ju, .ref ja])), (jt, .inl (E.2.1 7, 8, .inr (.inr (.inr (.inr (fun _ => none))))))] (Qi E (fun (r : Int32) u => (r = (-1) ∧ u = []))) 0 0 := by
  refine ct_of rfl rfl ?_
  intro X C hT hin
  show WW X 6 E 0 [(0, .ref hx), (1, .int p0), (2, .int p1), (3, .int p2), (4, .int p3)] [] [(hx, .inr (11, [.ref qn, .ref qp, .int 0, .int 0, .ref qs, .ref qj, .ref ql, .ref qh, .ref qk, .int 0, .ref qr, .ref qg, .int 0, .int 0, .ref qsh])), (qj, .inr (2, [.ref jt, .ref je, .ref ju, .ref ja])), (jt, .inl (E.2.1 7, 8, .inr (.inr (.inr (.inr (fun _ => none))))))] 0 0
  refine ww_aload_n C dX11_plan_0 0 rfl rfl ?_
  refine ww_iload_n C dX11_plan_1 1 rfl rfl ?_
  refine ww_ci (wr := []) (k' := 0) (n' := 0) C (run_V (As := [.int p0]) (rest := []) C (c_isTold X.2.1 E hx p0 qn qp qs qj ql qh qk qr qg qsh jt je ju ja) mi_X11_isTold wl_X11_98 rfl 0 11 rfl rfl rfl rfl rfl dX11_plan_2) [0, 1, 2] [] rfl rfl rfl rfl (fun r u hw => ?_)
  obtain ⟨rfl, rfl⟩ := hw
  refine ww_eq (ws' := [(hx, .inr (11, [.ref qn, .ref qp, .int 0, .int 0, .ref qs, .ref qj, .ref ql, .ref qh, .ref qk, .int 0, .ref qr, .ref qg, .int 0, .int 0, .ref qsh])), (qj, .inr (2, [.ref jt, .ref je, .ref ju, .ref ja])), (jt, .inl (E.2.1 7, 8, .inr (.inr (.inr (.inr (fun _ => none))))))]) ?_ rfl rfl rfl
  refine ww_if_eq_t (tgt := 22) C dX11_plan_5 (by decide) (rfl) ?_
  refine ww_iconst (v := (-1)) C dX11_plan_22 rfl ?_
  exact ww_iret (u := []) C hT [] rfl rfl rfl rfl dX11_plan_23 (⟨rfl, rfl⟩)
