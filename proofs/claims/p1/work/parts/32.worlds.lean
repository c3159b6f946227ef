theorem dX4_become_0 : decode cX4_become 0 = .ok (.aload_n 0, 1) := by decide +kernel
theorem dX4_become_1 : decode cX4_become 1 = .ok (.aload_n 1, 1) := by decide +kernel
theorem dX4_become_2 : decode cX4_become 2 = .ok (.getfield 18, 3) := by decide +kernel
theorem dX4_become_5 : decode cX4_become 5 = .ok (.putfield 18, 3) := by decide +kernel
theorem fp_X4_18 : FP RX4 18 4 0 .int false := ⟨RX4, TX4, 4, tyX4, uw_X4, wf_X4_18, rfl, by decide, rfl, tyX4_ok, nmX4, rfl, by decide +kernel⟩
theorem dX4_become_8 : decode cX4_become 8 = .ok (.aload_n 0, 1) := by decide +kernel
theorem dX4_become_9 : decode cX4_become 9 = .ok (.aload_n 1, 1) := by decide +kernel
theorem dX4_become_10 : decode cX4_become 10 = .ok (.getfield 22, 3) := by decide +kernel
theorem wf_X4_22 : Cond.fieldLink RX4 22 RX4 "realOne" "I" ∈ TB := tbm (tq1 (List.mem_of_getElem? (i := 41) (by decide +kernel))) (by decide +kernel)
theorem fg_X4_22 : FG RX4 22 4 1 := ⟨RX4, TX4, 4, uw_X4, wf_X4_22, rfl, by decide, rfl⟩
theorem dX4_become_13 : decode cX4_become 13 = .ok (.putfield 22, 3) := by decide +kernel
theorem fp_X4_22 : FP RX4 22 4 1 .int false := ⟨RX4, TX4, 4, tyX4, uw_X4, wf_X4_22, rfl, by decide, rfl, tyX4_ok, nmX4, rfl, by decide +kernel⟩
theorem dX4_become_16 : decode cX4_become 16 = .ok (.aload_n 1, 1) := by decide +kernel
theorem dX4_become_17 : decode cX4_become 17 = .ok (.getfield 9, 3) := by decide +kernel
theorem fg_X4_9 : FG RX4 9 4 2 := ⟨RX4, TX4, 4, uw_X4, wf_X4_9, rfl, by decide, rfl⟩
theorem dX4_become_20 : decode cX4_become 20 = .ok (.iconst 0, 1) := by decide +kernel
theorem dX4_become_21 : decode cX4_become 21 = .ok (.aload_n 0, 1) := by decide +kernel
theorem dX4_become_22 : decode cX4_become 22 = .ok (.getfield 9, 3) := by decide +kernel
theorem dX4_become_25 : decode cX4_become 25 = .ok (.iconst 0, 1) := by decide +kernel
theorem dX4_become_26 : decode cX4_become 26 = .ok (.bipush 24, 2) := by decide +kernel
theorem dX4_become_28 : decode cX4_become 28 = .ok (.invokestatic 38, 3) := by decide +kernel
theorem wl_X4_38 : Cond.methodLink RX4 38 arraycopyName ∈ TB := tbm (tq2 (List.mem_of_getElem? (i := 157) (by decide +kernel))) (by decide +kernel)
theorem wn_ac : Cond.native arraycopyName ∈ TB := tbm (tq2 (List.mem_of_getElem? (i := 159) (by decide +kernel))) (by decide +kernel)
theorem wt_ac : Cond.static arraycopyName ∈ TB := tbm (tq2 (List.mem_of_getElem? (i := 158) (by decide +kernel))) (by decide +kernel)
theorem wn_Sys : Cond.initialized "java/lang/System" ∈ TB := tbm (tq1 (List.mem_of_getElem? (i := 13) (by decide +kernel))) (by decide +kernel)
theorem dX4_become_31 : decode cX4_become 31 = .ok (.aload_n 1, 1) := by decide +kernel
theorem dX4_become_32 : decode cX4_become 32 = .ok (.getfield 15, 3) := by decide +kernel
theorem fg_X4_15 : FG RX4 15 4 3 := ⟨RX4, TX4, 4, uw_X4, wf_X4_15, rfl, by decide, rfl⟩
theorem dX4_become_35 : decode cX4_become 35 = .ok (.iconst 0, 1) := by decide +kernel
theorem dX4_become_36 : decode cX4_become 36 = .ok (.aload_n 0, 1) := by decide +kernel
theorem dX4_become_37 : decode cX4_become 37 = .ok (.getfield 15, 3) := by decide +kernel
theorem dX4_become_40 : decode cX4_become 40 = .ok (.iconst 0, 1) := by decide +kernel
theorem dX4_become_41 : decode cX4_become 41 = .ok (.bipush 96, 2) := by decide +kernel
theorem dX4_become_43 : decode cX4_become 43 = .ok (.invokestatic 38, 3) := by decide +kernel
theorem dX4_become_46 : decode cX4_become 46 = .ok (.return_, 1) := by decide +kernel
set_option maxRecDepth 100000 in
set_option maxHeartbeats 4000000 in
theorem c_become (l : Launch) (E : EV) (h : Nat) (o : Nat) (s1 : Int32) (r1 : Int32) (a : Nat) (b : Nat) (f1 : Nat → Int32) (g1 : Nat → Int32) (s2 : Int32) (r2 : Int32) (c : Nat) (d : Nat) (f2 : Nat → Int32) (g2 : Nat → Int32)  : CT l yX4_become (Cond.code yX4_become cX4_become 2 none :: TB) ({ frames := 1, cells := 0, slots := 0, locals := 64 }) E [.ref h, .ref o] [(h, .inr (4, [.int s1, .int r1, .ref a, .ref b])), (a, .inl (E.2.1 1, 24, .inl f1)), (b, .inl (E.2.1 1, 96, .inl g1)), (o, .inr (4, [.int s2, .int r2, .ref c, .ref d])), (c, .inl (E.2.1 1, 24, .inl f2)), (d, .inl (E.2.1 1, 96, .inl g2))] (Qv E (fun u => (∃ (f3 : Nat → Int32) (g3 : Nat → Int32), u = [(h, .inr (4, [.int s2, .int r2, .ref a, .ref b])), (a, .inl (E.2.1 1, 24, .inl f3)), (b, .inl (E.2.1 1, 96, .inl g3)), (o, .inr (4, [.int s2, .int r2, .ref c, .ref d])), (c, .inl (E.2.1 1, 24, .inl f2)), (d, .inl (E.2.1 1, 96, .inl g2))]))) 0 0 := by
  refine ct_of rfl rfl ?_
  intro X C hT hin
  show WW X 2 E 0 [(0, .ref h), (1, .ref o)] [] [(h, .inr (4, [.int s1, .int r1, .ref a, .ref b])), (a, .inl (E.2.1 1, 24, .inl f1)), (b, .inl (E.2.1 1, 96, .inl g1)), (o, .inr (4, [.int s2, .int r2, .ref c, .ref d])), (c, .inl (E.2.1 1, 24, .inl f2)), (d, .inl (E.2.1 1, 96, .inl g2))] 0 0
  refine ww_aload_n C dX4_become_0 0 rfl rfl ?_
  refine ww_aload_n C dX4_become_1 1 rfl rfl ?_
  refine ww_get C fg_X4_18 3 rfl rfl dX4_become_2 ?_
  refine ww_put (ws' := [(h, .inr (4, [.int s2, .int r1, .ref a, .ref b])), (a, .inl (E.2.1 1, 24, .inl f1)), (b, .inl (E.2.1 1, 96, .inl g1)), (o, .inr (4, [.int s2, .int r2, .ref c, .ref d])), (c, .inl (E.2.1 1, 24, .inl f2)), (d, .inl (E.2.1 1, 96, .inl g2))]) C fp_X4_18 0 rfl rfl rfl rfl rfl dX4_become_5 ?_
  refine ww_aload_n C dX4_become_8 0 rfl rfl ?_
  refine ww_aload_n C dX4_become_9 1 rfl rfl ?_
  refine ww_get C fg_X4_22 3 rfl rfl dX4_become_10 ?_
  refine ww_put (ws' := [(h, .inr (4, [.int s2, .int r2, .ref a, .ref b])), (a, .inl (E.2.1 1, 24, .inl f1)), (b, .inl (E.2.1 1, 96, .inl g1)), (o, .inr (4, [.int s2, .int r2, .ref c, .ref d])), (c, .inl (E.2.1 1, 24, .inl f2)), (d, .inl (E.2.1 1, 96, .inl g2))]) C fp_X4_22 0 rfl rfl rfl rfl rfl dX4_become_13 ?_
  refine ww_aload_n C dX4_become_16 1 rfl rfl ?_
  refine ww_get C fg_X4_9 3 rfl rfl dX4_become_17 ?_
  refine ww_iconst (v := 0) C dX4_become_20 rfl ?_
  refine ww_aload_n C dX4_become_21 0 rfl rfl ?_
  refine ww_get C fg_X4_9 0 rfl rfl dX4_become_22 ?_
  refine ww_iconst (v := 0) C dX4_become_25 rfl ?_
  refine ww_bipush (v := 24) C dX4_become_26 rfl ?_
  obtain ⟨f_1, ef_1⟩ : ∃ z : Nat → Int32, va_cpy f2 f1 0 0 24 = z := ⟨_, rfl⟩
  refine ww_copyi (ws' := [(h, .inr (4, [.int s2, .int r2, .ref a, .ref b])), (a, .inl (E.2.1 1, 24, .inl f_1)), (b, .inl (E.2.1 1, 96, .inl g1)), (o, .inr (4, [.int s2, .int r2, .ref c, .ref d])), (c, .inl (E.2.1 1, 24, .inl f2)), (d, .inl (E.2.1 1, 96, .inl g2))]) C wl_X4_38 wn_ac wt_ac wn_Sys 4 1 rfl rfl (by decide) (by decide) (by decide) (by decide) (by decide) rfl ef_1 rfl dX4_become_28 ?_
  refine ww_aload_n C dX4_become_31 1 rfl rfl ?_
  refine ww_get C fg_X4_15 3 rfl rfl dX4_become_32 ?_
  refine ww_iconst (v := 0) C dX4_become_35 rfl ?_
  refine ww_aload_n C dX4_become_36 0 rfl rfl ?_
  refine ww_get C fg_X4_15 0 rfl rfl dX4_become_37 ?_
  refine ww_iconst (v := 0) C dX4_become_40 rfl ?_
  refine ww_bipush (v := 96) C dX4_become_41 rfl ?_
  obtain ⟨f_2, ef_2⟩ : ∃ z : Nat → Int32, va_cpy g2 g1 0 0 96 = z := ⟨_, rfl⟩
  refine ww_copyi (ws' := [(h, .inr (4, [.int s2, .int r2, .ref a, .ref b])), (a, .inl (E.2.1 1, 24, .inl f_1)), (b, .inl (E.2.1 1, 96, .inl f_2)), (o, .inr (4, [.int s2, .int r2, .ref c, .ref d])), (c, .inl (E.2.1 1, 24, .inl f2)), (d, .inl (E.2.1 1, 96, .inl g2))]) C wl_X4_38 wn_ac wt_ac wn_Sys 5 2 rfl rfl (by decide) (by decide) (by decide) (by decide) (by decide) rfl ef_2 rfl dX4_become_43 ?_
  exact ww_vret (u := [(h, .inr (4, [.int s2, .int r2, .ref a, .ref b])), (a, .inl (E.2.1 1, 24, .inl f_1)), (b, .inl (E.2.1 1, 96, .inl f_2)), (o, .inr (4, [.int s2, .int r2, .ref c, .ref d])), (c, .inl (E.2.1 1, 24, .inl f2)), (d, .inl (E.2.1 1, 96, .inl g2))]) C hT [0, 1, 2, 3, 4, 5] rfl rfl rfl rfl dX4_become_46 (⟨f_1, f_2, rfl⟩)
theorem dX11_remember_0 : decode cX11_remember 0 = .ok (.aload_n 0, 1) := by decide +kernel
theorem dX11_remember_1 : decode cX11_remember 1 = .ok (.getfield 20, 3) := by decide +kernel
theorem fg_X11_20 : FG RX11 20 11 1 := ⟨RX11, TX11, 15, uw_X11, wf_X11_20, rfl, by decide, rfl⟩
theorem dX11_remember_4 : decode cX11_remember 4 = .ok (.aload_n 0, 1) := by decide +kernel
theorem dX11_remember_5 : decode cX11_remember 5 = .ok (.getfield 109, 3) := by decide +kernel
theorem wf_X11_109 : Cond.fieldLink RX11 109 RX11 "nextPast" "I" ∈ TB := tbm (tq2 (List.mem_of_getElem? (i := 99) (by decide +kernel))) (by decide +kernel)
theorem fg_X11_109 : FG RX11 109 11 3 := ⟨RX11, TX11, 15, uw_X11, wf_X11_109, rfl, by decide, rfl⟩
theorem dX11_remember_8 : decode cX11_remember 8 = .ok (.aaload, 1) := by decide +kernel
theorem dX11_remember_9 : decode cX11_remember 9 = .ok (.aload_n 0, 1) := by decide +kernel
theorem dX11_remember_10 : decode cX11_remember 10 = .ok (.getfield 10, 3) := by decide +kernel
theorem fg_X11_10 : FG RX11 10 11 0 := ⟨RX11, TX11, 15, uw_X11, wf_X11_10, rfl, by decide, rfl⟩
theorem dX11_remember_13 : decode cX11_remember 13 = .ok (.invokevirtual 112, 3) := by decide +kernel
theorem wl_X11_112 : Cond.methodLink RX11 112 yX4_become ∈ TB := tbm (tq2 (List.mem_of_getElem? (i := 153) (by decide +kernel))) (by decide +kernel)
theorem wc_X4_become : Cond.code yX4_become cX4_become 2 none ∈ TB := tbm (tq2 (List.mem_of_getElem? (i := 156) (rfl))) (by decide +kernel)
theorem wi_X4_become : Cond.instanceMethod yX4_become ∈ TB := tbm (tq2 (List.mem_of_getElem? (i := 154) (by decide +kernel))) (by decide +kernel)
theorem ws_X4_become : Cond.selects RX4 yX4_become yX4_become ∈ TB := tbm (tq2 (List.mem_of_getElem? (i := 155) (by decide +kernel))) (by decide +kernel)
theorem mi_X4_become : MI yX4_become cX4_become 2 none 1 := ⟨wc_X4_become, wn_X4, ⟨by decide +kernel, by decide +kernel, by decide +kernel⟩, wi_X4_become, ws_X4_become⟩
theorem dX11_remember_16 : decode cX11_remember 16 = .ok (.aload_n 0, 1) := by decide +kernel
theorem dX11_remember_17 : decode cX11_remember 17 = .ok (.aload_n 0, 1) := by decide +kernel
theorem dX11_remember_18 : decode cX11_remember 18 = .ok (.getfield 109, 3) := by decide +kernel
theorem dX11_remember_21 : decode cX11_remember 21 = .ok (.iconst 1, 1) := by decide +kernel
theorem dX11_remember_22 : decode cX11_remember 22 = .ok (.iadd, 1) := by decide +kernel
theorem dX11_remember_23 : decode cX11_remember 23 = .ok (.bipush 8, 2) := by decide +kernel
theorem dX11_remember_25 : decode cX11_remember 25 = .ok (.irem, 1) := by decide +kernel
theorem dX11_remember_26 : decode cX11_remember 26 = .ok (.putfield 109, 3) := by decide +kernel
theorem fp_X11_109 : FP RX11 109 11 3 .int false := ⟨RX11, TX11, 15, tyX11, uw_X11, wf_X11_109, rfl, by decide, rfl, tyX11_ok, nmX11, rfl, by decide +kernel⟩
theorem dX11_remember_29 : decode cX11_remember 29 = .ok (.aload_n 0, 1) := by decide +kernel
theorem dX11_remember_30 : decode cX11_remember 30 = .ok (.aload_n 0, 1) := by decide +kernel
theorem dX11_remember_31 : decode cX11_remember 31 = .ok (.getfield 116, 3) := by decide +kernel
theorem wf_X11_116 : Cond.fieldLink RX11 116 RX11 "acts" "I" ∈ TB := tbm (tq2 (List.mem_of_getElem? (i := 98) (by decide +kernel))) (by decide +kernel)
theorem fg_X11_116 : FG RX11 116 11 2 := ⟨RX11, TX11, 15, uw_X11, wf_X11_116, rfl, by decide, rfl⟩
theorem dX11_remember_34 : decode cX11_remember 34 = .ok (.iconst 1, 1) := by decide +kernel
theorem dX11_remember_35 : decode cX11_remember 35 = .ok (.iadd, 1) := by decide +kernel
theorem dX11_remember_36 : decode cX11_remember 36 = .ok (.bipush 8, 2) := by decide +kernel
theorem dX11_remember_38 : decode cX11_remember 38 = .ok (.invokestatic 119, 3) := by decide +kernel
theorem wl_X11_119 : Cond.methodLink RX11 119 Lib.Math.min.name ∈ TB := tbm (tq2 (List.mem_of_getElem? (i := 160) (by decide +kernel))) (by decide +kernel)
theorem wt_Mmin : Cond.static Lib.Math.min.name ∈ TB := tbm (tq2 (List.mem_of_getElem? (i := 161) (by decide +kernel))) (by decide +kernel)
theorem wn_Math : Cond.initialized "java/lang/Math" ∈ TB := tbm (tq1 (List.mem_of_getElem? (i := 14) (by decide +kernel))) (by decide +kernel)
theorem wc_Mmin : Cond.code Lib.Math.min.name Lib.Math.min.code 2 (some .int) ∈ TB := tbm (tq2 (List.mem_of_getElem? (i := 162) (rfl))) (by decide +kernel)
theorem dX11_remember_41 : decode cX11_remember 41 = .ok (.putfield 116, 3) := by decide +kernel
theorem fp_X11_116 : FP RX11 116 11 2 .int false := ⟨RX11, TX11, 15, tyX11, uw_X11, wf_X11_116, rfl, by decide, rfl, tyX11_ok, nmX11, rfl, by decide +kernel⟩
theorem dX11_remember_44 : decode cX11_remember 44 = .ok (.return_, 1) := by decide +kernel
set_option maxRecDepth 100000 in
set_option maxHeartbeats 4000000 in
theorem c_remember0 (l : Launch) (E : EV) (hx : Nat) (qn : Nat) (qp : Nat) (qs : Nat) (qj : Nat) (ql : Nat) (qh : Nat) (qk : Nat) (qr : Nat) (qg : Nat) (qsh : Nat) (nf : Nat) (np : Nat) (fp : Nat → Option Nat) (pm : Nat) (pf : Nat) (pp : Nat) (k_fp_0 : fp 0 = some pm) : CT l yX11_remember (Cond.code yX11_remember cX11_remember 1 none :: TB) ({ frames := 2, cells := 0, slots := 0, locals := 85 }) E [.ref hx] [(hx, .inr (11, [.ref qn, .ref qp, .int 0, .int 0, .ref qs, .ref qj, .ref ql, .ref qh, .ref qk, .int 0, .ref qr, .ref qg, .int 0, .int 0, .ref qsh])), (qn, .inr (4, [.int 0, .int 0, .ref nf, .ref np])), (nf, .inl (E.2.1 1, 24, .inl (fun _ => 0))), (np, .inl (E.2.1 1, 96, .inl (fun _ => 0))), (qp, .inl (E.2.1 6, 8, .inr (.inr (.inr (.inr fp))))), (pm, .inr (4, [.int 0, .int 0, .ref pf, .ref pp])), (pf, .inl (E.2.1 1, 24, .inl (fun _ => 0))), (pp, .inl (E.2.1 1, 96, .inl (fun _ => 0)))] (Qv E (fun u => (u = [(hx, .inr (11, [.ref qn, .ref qp, .int 1, .int 1, .ref qs, .ref qj, .ref ql, .ref qh, .ref qk, .int 0, .ref qr, .ref qg, .int 0, .int 0, .ref qsh])), (qn, .inr (4, [.int 0, .int 0, .ref nf, .ref np])), (nf, .inl (E.2.1 1, 24, .inl (fun _ => 0))), (np, .inl (E.2.1 1, 96, .inl (fun _ => 0)))]))) 0 0 := by
  refine ct_of rfl rfl ?_
  intro X C hT hin
  show WW X 1 E 0 [(0, .ref hx)] [] [(hx, .inr (11, [.ref qn, .ref qp, .int 0, .int 0, .ref qs, .ref qj, .ref ql, .ref qh, .ref qk, .int 0, .ref qr, .ref qg, .int 0, .int 0, .ref qsh])), (qn, .inr (4, [.int 0, .int 0, .ref nf, .ref np])), (nf, .inl (E.2.1 1, 24, .inl (fun _ => 0))), (np, .inl (E.2.1 1, 96, .inl (fun _ => 0))), (qp, .inl (E.2.1 6, 8, .inr (.inr (.inr (.inr fp))))), (pm, .inr (4, [.int 0, .int 0, .ref pf, .ref pp])), (pf, .inl (E.2.1 1, 24, .inl (fun _ => 0))), (pp, .inl (E.2.1 1, 96, .inl (fun _ => 0)))] 0 0
  refine ww_aload_n C dX11_remember_0 0 rfl rfl ?_
  refine ww_get C fg_X11_20 0 rfl rfl dX11_remember_1 ?_
  refine ww_aload_n C dX11_remember_4 0 rfl rfl ?_
  refine ww_get C fg_X11_109 0 rfl rfl dX11_remember_5 ?_
  refine ww_ald (v := (some pm)) (t0 := 6) C 4 rfl rfl (vin rfl) k_fp_0 dX11_remember_8 ?_
  refine ww_eq (st' := [.ref pm]) ?_ rfl rfl rfl
  refine ww_aload_n C dX11_remember_9 0 rfl rfl ?_
  refine ww_get C fg_X11_10 0 rfl rfl dX11_remember_10 ?_
  refine ww_cv (wr := [(hx, .inr (11, [.ref qn, .ref qp, .int 0, .int 0, .ref qs, .ref qj, .ref ql, .ref qh, .ref qk, .int 0, .ref qr, .ref qg, .int 0, .int 0, .ref qsh])), (qp, .inl (E.2.1 6, 8, .inr (.inr (.inr (.inr fp)))))]) (k' := 0) (n' := 0) C (run_V (As := [.ref qn]) (rest := []) C (c_become X.2.1 E pm qn 0 0 pf pp (fun _ => 0) (fun _ => 0) 0 0 nf np (fun _ => 0) (fun _ => 0)) mi_X4_become wl_X11_112 rfl 0 4 rfl rfl rfl rfl rfl dX11_remember_13) [5, 6, 7, 1, 2, 3] [0, 4] rfl rfl rfl rfl (fun u hw => ?_)
  obtain ⟨f3_1, g3_2, rfl⟩ := hw
  refine ww_eq (ws' := [(hx, .inr (11, [.ref qn, .ref qp, .int 0, .int 0, .ref qs, .ref qj, .ref ql, .ref qh, .ref qk, .int 0, .ref qr, .ref qg, .int 0, .int 0, .ref qsh])), (qp, .inl (E.2.1 6, 8, .inr (.inr (.inr (.inr fp))))), (pm, .inr (4, [.int 0, .int 0, .ref pf, .ref pp])), (pf, .inl (E.2.1 1, 24, .inl f3_1)), (pp, .inl (E.2.1 1, 96, .inl g3_2)), (qn, .inr (4, [.int 0, .int 0, .ref nf, .ref np])), (nf, .inl (E.2.1 1, 24, .inl (fun _ => 0))), (np, .inl (E.2.1 1, 96, .inl (fun _ => 0)))]) ?_ rfl rfl rfl
  refine ww_aload_n C dX11_remember_16 0 rfl rfl ?_
  refine ww_aload_n C dX11_remember_17 0 rfl rfl ?_
  refine ww_get C fg_X11_109 0 rfl rfl dX11_remember_18 ?_
  refine ww_iconst (v := 1) C dX11_remember_21 rfl ?_
  refine ww_iadd (v := 1) C dX11_remember_22 (by decide) ?_
  refine ww_bipush (v := 8) C dX11_remember_23 rfl ?_
  refine ww_irem (v := 1) C dX11_remember_25 (by decide) (by decide) ?_
  refine ww_put (ws' := [(hx, .inr (11, [.ref qn, .ref qp, .int 0, .int 1, .ref qs, .ref qj, .ref ql, .ref qh, .ref qk, .int 0, .ref qr, .ref qg, .int 0, .int 0, .ref qsh])), (qp, .inl (E.2.1 6, 8, .inr (.inr (.inr (.inr fp))))), (pm, .inr (4, [.int 0, .int 0, .ref pf, .ref pp])), (pf, .inl (E.2.1 1, 24, .inl f3_1)), (pp, .inl (E.2.1 1, 96, .inl g3_2)), (qn, .inr (4, [.int 0, .int 0, .ref nf, .ref np])), (nf, .inl (E.2.1 1, 24, .inl (fun _ => 0))), (np, .inl (E.2.1 1, 96, .inl (fun _ => 0)))]) C fp_X11_109 0 rfl rfl rfl rfl rfl dX11_remember_26 ?_
  refine ww_aload_n C dX11_remember_29 0 rfl rfl ?_
  refine ww_aload_n C dX11_remember_30 0 rfl rfl ?_
  refine ww_get C fg_X11_116 0 rfl rfl dX11_remember_31 ?_
  refine ww_iconst (v := 1) C dX11_remember_34 rfl ?_
  refine ww_iadd (v := 1) C dX11_remember_35 (by decide) ?_
  refine ww_bipush (v := 8) C dX11_remember_36 rfl ?_
  refine ww_mmin (v := 1) C wl_X11_119 wt_Mmin wn_Math wc_Mmin rfl (by decide) dX11_remember_38 ?_
  refine ww_put (ws' := [(hx, .inr (11, [.ref qn, .ref qp, .int 1, .int 1, .ref qs, .ref qj, .ref ql, .ref qh, .ref qk, .int 0, .ref qr, .ref qg, .int 0, .int 0, .ref qsh])), (qp, .inl (E.2.1 6, 8, .inr (.inr (.inr (.inr fp))))), (pm, .inr (4, [.int 0, .int 0, .ref pf, .ref pp])), (pf, .inl (E.2.1 1, 24, .inl f3_1)), (pp, .inl (E.2.1 1, 96, .inl g3_2)), (qn, .inr (4, [.int 0, .int 0, .ref nf, .ref np])), (nf, .inl (E.2.1 1, 24, .inl (fun _ => 0))), (np, .inl (E.2.1 1, 96, .inl (fun _ => 0)))]) C fp_X11_116 0 rfl rfl rfl rfl rfl dX11_remember_41 ?_
  exact ww_vret (u := [(hx, .inr (11, [.ref qn, .ref qp, .int 1, .int 1, .ref qs, .ref qj, .ref ql, .ref qh, .ref qk, .int 0, .ref qr, .ref qg, .int 0, .int 0, .ref qsh])), (qn, .inr (4, [.int 0, .int 0, .ref nf, .ref np])), (nf, .inl (E.2.1 1, 24, .inl (fun _ => 0))), (np, .inl (E.2.1 1, 96, .inl (fun _ => 0)))]) C hT [0, 5, 6, 7] rfl rfl rfl rfl dX11_remember_44 (rfl)
theorem dX4_add_0 : decode cX4_add 0 = .ok (.aload_n 0, 1) := by decide +kernel
theorem dX4_add_1 : decode cX4_add 1 = .ok (.getfield 9, 3) := by decide +kernel
theorem dX4_add_4 : decode cX4_add 4 = .ok (.aload_n 0, 1) := by decide +kernel
theorem dX4_add_5 : decode cX4_add 5 = .ok (.getfield 18, 3) := by decide +kernel
theorem dX4_add_8 : decode cX4_add 8 = .ok (.iload_n 1, 1) := by decide +kernel
theorem dX4_add_9 : decode cX4_add 9 = .ok (.iastore, 1) := by decide +kernel
theorem dX4_add_10 : decode cX4_add 10 = .ok (.iconst 0, 1) := by decide +kernel
theorem dX4_add_11 : decode cX4_add 11 = .ok (.istore_n 2, 1) := by decide +kernel
theorem dX4_add_12 : decode cX4_add 12 = .ok (.iload_n 2, 1) := by decide +kernel
theorem dX4_add_13 : decode cX4_add 13 = .ok (.iconst 4, 1) := by decide +kernel
theorem dX4_add_14 : decode cX4_add 14 = .ok (.if_icmp .ge 24, 3) := by decide +kernel
theorem dX4_add_17 : decode cX4_add 17 = .ok (.aload_n 0, 1) := by decide +kernel
theorem dX4_add_18 : decode cX4_add 18 = .ok (.getfield 15, 3) := by decide +kernel
theorem dX4_add_21 : decode cX4_add 21 = .ok (.iload_n 2, 1) := by decide +kernel
theorem dX4_add_22 : decode cX4_add 22 = .ok (.bipush 24, 2) := by decide +kernel
theorem dX4_add_24 : decode cX4_add 24 = .ok (.imul, 1) := by decide +kernel
theorem dX4_add_25 : decode cX4_add 25 = .ok (.aload_n 0, 1) := by decide +kernel
theorem dX4_add_26 : decode cX4_add 26 = .ok (.getfield 18, 3) := by decide +kernel
theorem dX4_add_29 : decode cX4_add 29 = .ok (.iadd, 1) := by decide +kernel
theorem dX4_add_30 : decode cX4_add 30 = .ok (.iconst 0, 1) := by decide +kernel
theorem dX4_add_31 : decode cX4_add 31 = .ok (.iastore, 1) := by decide +kernel
theorem dX4_add_32 : decode cX4_add 32 = .ok (.iinc 2 1, 3) := by decide +kernel
theorem dX4_add_35 : decode cX4_add 35 = .ok (.goto (-23), 3) := by decide +kernel
theorem dX4_add_38 : decode cX4_add 38 = .ok (.aload_n 0, 1) := by decide +kernel
theorem dX4_add_39 : decode cX4_add 39 = .ok (.dup, 1) := by decide +kernel
theorem dX4_add_40 : decode cX4_add 40 = .ok (.getfield 18, 3) := by decide +kernel
theorem dX4_add_43 : decode cX4_add 43 = .ok (.iconst 1, 1) := by decide +kernel
theorem dX4_add_44 : decode cX4_add 44 = .ok (.iadd, 1) := by decide +kernel
theorem dX4_add_45 : decode cX4_add 45 = .ok (.putfield 18, 3) := by decide +kernel
theorem dX4_add_48 : decode cX4_add 48 = .ok (.aload_n 0, 1) := by decide +kernel
theorem dX4_add_49 : decode cX4_add 49 = .ok (.getfield 18, 3) := by decide +kernel
theorem dX4_add_52 : decode cX4_add 52 = .ok (.iconst 1, 1) := by decide +kernel
theorem dX4_add_53 : decode cX4_add 53 = .ok (.isub, 1) := by decide +kernel
theorem dX4_add_54 : decode cX4_add 54 = .ok (.ireturn, 1) := by decide +kernel
set_option maxRecDepth 100000 in
set_option maxHeartbeats 4000000 in
theorem c_add0 (l : Launch) (E : EV) (h : Nat) (f : Int32) (a : Nat) (b : Nat) (f1 : Nat → Int32) (g1 : Nat → Int32)  : CT l yX4_add (Cond.code yX4_add cX4_add 3 (some .int) :: TB) ({ frames := 0, cells := 0, slots := 0, locals := 0 }) E [.ref h, .int f] [(h, .inr (4, [.int 0, .int 0, .ref a, .ref b])), (a, .inl (E.2.1 1, 24, .inl f1)), (b, .inl (E.2.1 1, 96, .inl g1))] (Qi E (fun (r : Int32) u => (r = 0 ∧ u = []))) 0 0 := by
  refine ct_of rfl rfl ?_
  intro X C hT hin
  show WW X 3 E 0 [(0, .ref h), (1, .int f)] [] [(h, .inr (4, [.int 0, .int 0, .ref a, .ref b])), (a, .inl (E.2.1 1, 24, .inl f1)), (b, .inl (E.2.1 1, 96, .inl g1))] 0 0
  refine ww_aload_n C dX4_add_0 0 rfl rfl ?_
  refine ww_get C fg_X4_9 0 rfl rfl dX4_add_1 ?_
  refine ww_aload_n C dX4_add_4 0 rfl rfl ?_
  refine ww_get C fg_X4_18 0 rfl rfl dX4_add_5 ?_
  refine ww_iload_n C dX4_add_8 1 rfl rfl ?_
  obtain ⟨f_1, ef_1⟩ : ∃ z : Nat → Int32, upd f1 0 f = z := ⟨_, rfl⟩
  refine ww_iast (ws' := [(h, .inr (4, [.int 0, .int 0, .ref a, .ref b])), (a, .inl (E.2.1 1, 24, .inl f_1)), (b, .inl (E.2.1 1, 96, .inl g1))]) C 1 rfl (vin rfl) ef_1 rfl dX4_add_9 ?_
  refine ww_iconst (v := 0) C dX4_add_10 rfl ?_
  refine ww_istore_n (lv' := [(2, .int 0), (0, .ref h), (1, .int f)]) C dX4_add_11 rfl rfl rfl ?_
  refine ww_iload_n C dX4_add_12 0 rfl rfl ?_
  refine ww_iconst (v := 4) C dX4_add_13 rfl ?_
  refine ww_icmp_ge_f (tgt := 38) C dX4_add_14 (by decide) (by decide) ?_
  refine ww_aload_n C dX4_add_17 1 rfl rfl ?_
  refine ww_get C fg_X4_15 0 rfl rfl dX4_add_18 ?_
  refine ww_iload_n C dX4_add_21 0 rfl rfl ?_
  refine ww_bipush (v := 24) C dX4_add_22 rfl ?_
  refine ww_imul (v := 0) C dX4_add_24 (by decide) ?_
  refine ww_aload_n C dX4_add_25 1 rfl rfl ?_
  refine ww_get C fg_X4_18 0 rfl rfl dX4_add_26 ?_
  refine ww_iadd (v := 0) C dX4_add_29 (by decide) ?_
  refine ww_iconst (v := 0) C dX4_add_30 rfl ?_
  obtain ⟨f_2, ef_2⟩ : ∃ z : Nat → Int32, upd g1 0 0 = z := ⟨_, rfl⟩
  refine ww_iast (ws' := [(h, .inr (4, [.int 0, .int 0, .ref a, .ref b])), (a, .inl (E.2.1 1, 24, .inl f_1)), (b, .inl (E.2.1 1, 96, .inl f_2))]) C 2 rfl (vin rfl) ef_2 rfl dX4_add_31 ?_
  refine ww_iinc (j := 0) (v := 1) (lv' := [(2, .int 1), (0, .ref h), (1, .int f)]) C dX4_add_32 rfl rfl rfl rfl ?_
  refine ww_goto (tgt := 12) C dX4_add_35 (by decide) ?_
  refine ww_iload_n C dX4_add_12 0 rfl rfl ?_
  refine ww_iconst (v := 4) C dX4_add_13 rfl ?_
  refine ww_icmp_ge_f (tgt := 38) C dX4_add_14 (by decide) (by decide) ?_
  refine ww_aload_n C dX4_add_17 1 rfl rfl ?_
  refine ww_get C fg_X4_15 0 rfl rfl dX4_add_18 ?_
  refine ww_iload_n C dX4_add_21 0 rfl rfl ?_
  refine ww_bipush (v := 24) C dX4_add_22 rfl ?_
  refine ww_imul (v := 24) C dX4_add_24 (by decide) ?_
  refine ww_aload_n C dX4_add_25 1 rfl rfl ?_
  refine ww_get C fg_X4_18 0 rfl rfl dX4_add_26 ?_
  refine ww_iadd (v := 24) C dX4_add_29 (by decide) ?_
  refine ww_iconst (v := 0) C dX4_add_30 rfl ?_
  obtain ⟨f_3, ef_3⟩ : ∃ z : Nat → Int32, upd f_2 24 0 = z := ⟨_, rfl⟩
  refine ww_iast (ws' := [(h, .inr (4, [.int 0, .int 0, .ref a, .ref b])), (a, .inl (E.2.1 1, 24, .inl f_1)), (b, .inl (E.2.1 1, 96, .inl f_3))]) C 2 rfl (vin rfl) ef_3 rfl dX4_add_31 ?_
  refine ww_iinc (j := 0) (v := 2) (lv' := [(2, .int 2), (0, .ref h), (1, .int f)]) C dX4_add_32 rfl rfl rfl rfl ?_
  refine ww_goto (tgt := 12) C dX4_add_35 (by decide) ?_
  refine ww_iload_n C dX4_add_12 0 rfl rfl ?_
  refine ww_iconst (v := 4) C dX4_add_13 rfl ?_
  refine ww_icmp_ge_f (tgt := 38) C dX4_add_14 (by decide) (by decide) ?_
  refine ww_aload_n C dX4_add_17 1 rfl rfl ?_
  refine ww_get C fg_X4_15 0 rfl rfl dX4_add_18 ?_
  refine ww_iload_n C dX4_add_21 0 rfl rfl ?_
  refine ww_bipush (v := 24) C dX4_add_22 rfl ?_
  refine ww_imul (v := 48) C dX4_add_24 (by decide) ?_
  refine ww_aload_n C dX4_add_25 1 rfl rfl ?_
  refine ww_get C fg_X4_18 0 rfl rfl dX4_add_26 ?_
  refine ww_iadd (v := 48) C dX4_add_29 (by decide) ?_
  refine ww_iconst (v := 0) C dX4_add_30 rfl ?_
  obtain ⟨f_4, ef_4⟩ : ∃ z : Nat → Int32, upd f_3 48 0 = z := ⟨_, rfl⟩
  refine ww_iast (ws' := [(h, .inr (4, [.int 0, .int 0, .ref a, .ref b])), (a, .inl (E.2.1 1, 24, .inl f_1)), (b, .inl (E.2.1 1, 96, .inl f_4))]) C 2 rfl (vin rfl) ef_4 rfl dX4_add_31 ?_
  refine ww_iinc (j := 0) (v := 3) (lv' := [(2, .int 3), (0, .ref h), (1, .int f)]) C dX4_add_32 rfl rfl rfl rfl ?_
  refine ww_goto (tgt := 12) C dX4_add_35 (by decide) ?_
  refine ww_iload_n C dX4_add_12 0 rfl rfl ?_
  refine ww_iconst (v := 4) C dX4_add_13 rfl ?_
  refine ww_icmp_ge_f (tgt := 38) C dX4_add_14 (by decide) (by decide) ?_
  refine ww_aload_n C dX4_add_17 1 rfl rfl ?_
  refine ww_get C fg_X4_15 0 rfl rfl dX4_add_18 ?_
  refine ww_iload_n C dX4_add_21 0 rfl rfl ?_
  refine ww_bipush (v := 24) C dX4_add_22 rfl ?_
  refine ww_imul (v := 72) C dX4_add_24 (by decide) ?_
  refine ww_aload_n C dX4_add_25 1 rfl rfl ?_
  refine ww_get C fg_X4_18 0 rfl rfl dX4_add_26 ?_
  refine ww_iadd (v := 72) C dX4_add_29 (by decide) ?_
  refine ww_iconst (v := 0) C dX4_add_30 rfl ?_
  obtain ⟨f_5, ef_5⟩ : ∃ z : Nat → Int32, upd f_4 72 0 = z := ⟨_, rfl⟩
  refine ww_iast (ws' := [(h, .inr (4, [.int 0, .int 0, .ref a, .ref b])), (a, .inl (E.2.1 1, 24, .inl f_1)), (b, .inl (E.2.1 1, 96, .inl f_5))]) C 2 rfl (vin rfl) ef_5 rfl dX4_add_31 ?_
  refine ww_iinc (j := 0) (v := 4) (lv' := [(2, .int 4), (0, .ref h), (1, .int f)]) C dX4_add_32 rfl rfl rfl rfl ?_
  refine ww_goto (tgt := 12) C dX4_add_35 (by decide) ?_
  refine ww_iload_n C dX4_add_12 0 rfl rfl ?_
  refine ww_iconst (v := 4) C dX4_add_13 rfl ?_
  refine ww_icmp_ge_t (tgt := 38) C dX4_add_14 (by decide) (by decide) ?_
  refine ww_aload_n C dX4_add_38 1 rfl rfl ?_
  refine ww_dup C dX4_add_39 rfl ?_
  refine ww_get C fg_X4_18 0 rfl rfl dX4_add_40 ?_
  refine ww_iconst (v := 1) C dX4_add_43 rfl ?_
  refine ww_iadd (v := 1) C dX4_add_44 (by decide) ?_
  refine ww_put (ws' := [(h, .inr (4, [.int 1, .int 0, .ref a, .ref b])), (a, .inl (E.2.1 1, 24, .inl f_1)), (b, .inl (E.2.1 1, 96, .inl f_5))]) C fp_X4_18 0 rfl rfl rfl rfl rfl dX4_add_45 ?_
  refine ww_aload_n C dX4_add_48 1 rfl rfl ?_
  refine ww_get C fg_X4_18 0 rfl rfl dX4_add_49 ?_
  refine ww_iconst (v := 1) C dX4_add_52 rfl ?_
  refine ww_isub (v := 0) C dX4_add_53 (by decide) ?_
  exact ww_iret (u := []) C hT [] rfl rfl rfl rfl dX4_add_54 (⟨rfl, rfl⟩)
theorem dX4_blindfold_0 : decode cX4_blindfold 0 = .ok (.iconst 0, 1) := by decide +kernel
theorem dX4_blindfold_1 : decode cX4_blindfold 1 = .ok (.istore_n 2, 1) := by decide +kernel
theorem dX4_blindfold_2 : decode cX4_blindfold 2 = .ok (.iconst 0, 1) := by decide +kernel
theorem dX4_blindfold_3 : decode cX4_blindfold 3 = .ok (.istore_n 3, 1) := by decide +kernel
theorem dX4_blindfold_4 : decode cX4_blindfold 4 = .ok (.iload_n 3, 1) := by decide +kernel
theorem dX4_blindfold_5 : decode cX4_blindfold 5 = .ok (.iconst 4, 1) := by decide +kernel
theorem dX4_blindfold_6 : decode cX4_blindfold 6 = .ok (.if_icmp .ge 69, 3) := by decide +kernel
theorem dX4_blindfold_9 : decode cX4_blindfold 9 = .ok (.iload_n 1, 1) := by decide +kernel
theorem dX4_blindfold_10 : decode cX4_blindfold 10 = .ok (.iconst 4, 1) := by decide +kernel
theorem dX4_blindfold_11 : decode cX4_blindfold 11 = .ok (.iload_n 3, 1) := by decide +kernel
theorem dX4_blindfold_12 : decode cX4_blindfold 12 = .ok (.imul, 1) := by decide +kernel
theorem dX4_blindfold_13 : decode cX4_blindfold 13 = .ok (.ishr, 1) := by decide +kernel
theorem dX4_blindfold_14 : decode cX4_blindfold 14 = .ok (.bipush 15, 2) := by decide +kernel
theorem dX4_blindfold_16 : decode cX4_blindfold 16 = .ok (.iand, 1) := by decide +kernel
theorem dX4_blindfold_17 : decode cX4_blindfold 17 = .ok (.istore 4, 2) := by decide +kernel
theorem dX4_blindfold_19 : decode cX4_blindfold 19 = .ok (.iconst 0, 1) := by decide +kernel
theorem dX4_blindfold_20 : decode cX4_blindfold 20 = .ok (.istore 5, 2) := by decide +kernel
theorem dX4_blindfold_22 : decode cX4_blindfold 22 = .ok (.iload 5, 2) := by decide +kernel
theorem dX4_blindfold_24 : decode cX4_blindfold 24 = .ok (.aload_n 0, 1) := by decide +kernel
theorem dX4_blindfold_25 : decode cX4_blindfold 25 = .ok (.getfield 18, 3) := by decide +kernel
theorem dX4_blindfold_28 : decode cX4_blindfold 28 = .ok (.if_icmp .ge 41, 3) := by decide +kernel
theorem dX4_blindfold_69 : decode cX4_blindfold 69 = .ok (.iinc 3 1, 3) := by decide +kernel
theorem dX4_blindfold_72 : decode cX4_blindfold 72 = .ok (.goto (-68), 3) := by decide +kernel
theorem dX4_blindfold_75 : decode cX4_blindfold 75 = .ok (.iload_n 2, 1) := by decide +kernel
theorem dX4_blindfold_76 : decode cX4_blindfold 76 = .ok (.ireturn, 1) := by decide +kernel
set_option maxRecDepth 100000 in
set_option maxHeartbeats 4000000 in
theorem c_blind0 (l : Launch) (E : EV) (h : Nat) (f : Int32) (a : Nat) (b : Nat) (f1 : Nat → Int32) (g1 : Nat → Int32)  : CT l yX4_blindfold (Cond.code yX4_blindfold cX4_blindfold 7 (some .int) :: TB) ({ frames := 0, cells := 0, slots := 0, locals := 0 }) E [.ref h, .int f] [(h, .inr (4, [.int 0, .int 0, .ref a, .ref b])), (a, .inl (E.2.1 1, 24, .inl f1)), (b, .inl (E.2.1 1, 96, .inl g1))] (Qi E (fun (r : Int32) u => (r = 0 ∧ u = []))) 0 0 := by
  refine ct_of rfl rfl ?_
  intro X C hT hin
  show WW X 7 E 0 [(0, .ref h), (1, .int f)] [] [(h, .inr (4, [.int 0, .int 0, .ref a, .ref b])), (a, .inl (E.2.1 1, 24, .inl f1)), (b, .inl (E.2.1 1, 96, .inl g1))] 0 0
  refine ww_iconst (v := 0) C dX4_blindfold_0 rfl ?_
  refine ww_istore_n (lv' := [(2, .int 0), (0, .ref h), (1, .int f)]) C dX4_blindfold_1 rfl rfl rfl ?_
  refine ww_iconst (v := 0) C dX4_blindfold_2 rfl ?_
  refine ww_istore_n (lv' := [(3, .int 0), (2, .int 0), (0, .ref h), (1, .int f)]) C dX4_blindfold_3 rfl rfl rfl ?_
  refine ww_iload_n C dX4_blindfold_4 0 rfl rfl ?_
  refine ww_iconst (v := 4) C dX4_blindfold_5 rfl ?_
  refine ww_icmp_ge_f (tgt := 75) C dX4_blindfold_6 (by decide) (by decide) ?_
  refine ww_iload_n C dX4_blindfold_9 3 rfl rfl ?_
  refine ww_iconst (v := 4) C dX4_blindfold_10 rfl ?_
  refine ww_iload_n C dX4_blindfold_11 0 rfl rfl ?_
  refine ww_imul (v := 0) C dX4_blindfold_12 (by decide) ?_
  obtain ⟨x_1, ex_1⟩ : ∃ z : Int32, f >>> ((0 : Int32) &&& 31) = z := ⟨_, rfl⟩
  refine ww_ishr (v := x_1) C dX4_blindfold_13 ex_1 ?_
  refine ww_bipush (v := 15) C dX4_blindfold_14 rfl ?_
  obtain ⟨x_2, ex_2⟩ : ∃ z : Int32, x_1 &&& (15 : Int32) = z := ⟨_, rfl⟩
  refine ww_iand (v := x_2) C dX4_blindfold_16 ex_2 ?_
  refine ww_istore (lv' := [(4, .int x_2), (3, .int 0), (2, .int 0), (0, .ref h), (1, .int f)]) C dX4_blindfold_17 rfl rfl ?_
  refine ww_iconst (v := 0) C dX4_blindfold_19 rfl ?_
  refine ww_istore (lv' := [(5, .int 0), (4, .int x_2), (3, .int 0), (2, .int 0), (0, .ref h), (1, .int f)]) C dX4_blindfold_20 rfl rfl ?_
  refine ww_iload C dX4_blindfold_22 0 rfl ?_
  refine ww_aload_n C dX4_blindfold_24 4 rfl rfl ?_
  refine ww_get C fg_X4_18 0 rfl rfl dX4_blindfold_25 ?_
  refine ww_icmp_ge_t (tgt := 69) C dX4_blindfold_28 (by decide) (by decide) ?_
  refine ww_iinc (j := 2) (v := 1) (lv' := [(3, .int 1), (5, .int 0), (4, .int x_2), (2, .int 0), (0, .ref h), (1, .int f)]) C dX4_blindfold_69 rfl rfl rfl rfl ?_
  refine ww_goto (tgt := 4) C dX4_blindfold_72 (by decide) ?_
  refine ww_iload_n C dX4_blindfold_4 0 rfl rfl ?_
  refine ww_iconst (v := 4) C dX4_blindfold_5 rfl ?_
  refine ww_icmp_ge_f (tgt := 75) C dX4_blindfold_6 (by decide) (by decide) ?_
  refine ww_iload_n C dX4_blindfold_9 5 rfl rfl ?_
  refine ww_iconst (v := 4) C dX4_blindfold_10 rfl ?_
  refine ww_iload_n C dX4_blindfold_11 0 rfl rfl ?_
  refine ww_imul (v := 4) C dX4_blindfold_12 (by decide) ?_
  obtain ⟨x_3, ex_3⟩ : ∃ z : Int32, f >>> ((4 : Int32) &&& 31) = z := ⟨_, rfl⟩
  refine ww_ishr (v := x_3) C dX4_blindfold_13 ex_3 ?_
  refine ww_bipush (v := 15) C dX4_blindfold_14 rfl ?_
  obtain ⟨x_4, ex_4⟩ : ∃ z : Int32, x_3 &&& (15 : Int32) = z := ⟨_, rfl⟩
  refine ww_iand (v := x_4) C dX4_blindfold_16 ex_4 ?_
  refine ww_istore (lv' := [(4, .int x_4), (3, .int 1), (5, .int 0), (2, .int 0), (0, .ref h), (1, .int f)]) C dX4_blindfold_17 rfl rfl ?_
  refine ww_iconst (v := 0) C dX4_blindfold_19 rfl ?_
  refine ww_istore (lv' := [(5, .int 0), (4, .int x_4), (3, .int 1), (2, .int 0), (0, .ref h), (1, .int f)]) C dX4_blindfold_20 rfl rfl ?_
  refine ww_iload C dX4_blindfold_22 0 rfl ?_
  refine ww_aload_n C dX4_blindfold_24 4 rfl rfl ?_
  refine ww_get C fg_X4_18 0 rfl rfl dX4_blindfold_25 ?_
  refine ww_icmp_ge_t (tgt := 69) C dX4_blindfold_28 (by decide) (by decide) ?_
  refine ww_iinc (j := 2) (v := 2) (lv' := [(3, .int 2), (5, .int 0), (4, .int x_4), (2, .int 0), (0, .ref h), (1, .int f)]) C dX4_blindfold_69 rfl rfl rfl rfl ?_
  refine ww_goto (tgt := 4) C dX4_blindfold_72 (by decide) ?_
  refine ww_iload_n C dX4_blindfold_4 0 rfl rfl ?_
  refine ww_iconst (v := 4) C dX4_blindfold_5 rfl ?_
  refine ww_icmp_ge_f (tgt := 75) C dX4_blindfold_6 (by decide) (by decide) ?_
  refine ww_iload_n C dX4_blindfold_9 5 rfl rfl ?_
  refine ww_iconst (v := 4) C dX4_blindfold_10 rfl ?_
  refine ww_iload_n C dX4_blindfold_11 0 rfl rfl ?_
  refine ww_imul (v := 8) C dX4_blindfold_12 (by decide) ?_
  obtain ⟨x_5, ex_5⟩ : ∃ z : Int32, f >>> ((8 : Int32) &&& 31) = z := ⟨_, rfl⟩
  refine ww_ishr (v := x_5) C dX4_blindfold_13 ex_5 ?_
  refine ww_bipush (v := 15) C dX4_blindfold_14 rfl ?_
  obtain ⟨x_6, ex_6⟩ : ∃ z : Int32, x_5 &&& (15 : Int32) = z := ⟨_, rfl⟩
  refine ww_iand (v := x_6) C dX4_blindfold_16 ex_6 ?_
  refine ww_istore (lv' := [(4, .int x_6), (3, .int 2), (5, .int 0), (2, .int 0), (0, .ref h), (1, .int f)]) C dX4_blindfold_17 rfl rfl ?_
  refine ww_iconst (v := 0) C dX4_blindfold_19 rfl ?_
  refine ww_istore (lv' := [(5, .int 0), (4, .int x_6), (3, .int 2), (2, .int 0), (0, .ref h), (1, .int f)]) C dX4_blindfold_20 rfl rfl ?_
  refine ww_iload C dX4_blindfold_22 0 rfl ?_
  refine ww_aload_n C dX4_blindfold_24 4 rfl rfl ?_
  refine ww_get C fg_X4_18 0 rfl rfl dX4_blindfold_25 ?_
  refine ww_icmp_ge_t (tgt := 69) C dX4_blindfold_28 (by decide) (by decide) ?_
  refine ww_iinc (j := 2) (v := 3) (lv' := [(3, .int 3), (5, .int 0), (4, .int x_6), (2, .int 0), (0, .ref h), (1, .int f)]) C dX4_blindfold_69 rfl rfl rfl rfl ?_
  refine ww_goto (tgt := 4) C dX4_blindfold_72 (by decide) ?_
  refine ww_iload_n C dX4_blindfold_4 0 rfl rfl ?_
  refine ww_iconst (v := 4) C dX4_blindfold_5 rfl ?_
  refine ww_icmp_ge_f (tgt := 75) C dX4_blindfold_6 (by decide) (by decide) ?_
  refine ww_iload_n C dX4_blindfold_9 5 rfl rfl ?_
  refine ww_iconst (v := 4) C dX4_blindfold_10 rfl ?_
  refine ww_iload_n C dX4_blindfold_11 0 rfl rfl ?_
  refine ww_imul (v := 12) C dX4_blindfold_12 (by decide) ?_
  obtain ⟨x_7, ex_7⟩ : ∃ z : Int32, f >>> ((12 : Int32) &&& 31) = z := ⟨_, rfl⟩
  refine ww_ishr (v := x_7) C dX4_blindfold_13 ex_7 ?_
  refine ww_bipush (v := 15) C dX4_blindfold_14 rfl ?_
  obtain ⟨x_8, ex_8⟩ : ∃ z : Int32, x_7 &&& (15 : Int32) = z := ⟨_, rfl⟩
  refine ww_iand (v := x_8) C dX4_blindfold_16 ex_8 ?_
  refine ww_istore (lv' := [(4, .int x_8), (3, .int 3), (5, .int 0), (2, .int 0), (0, .ref h), (1, .int f)]) C dX4_blindfold_17 rfl rfl ?_
  refine ww_iconst (v := 0) C dX4_blindfold_19 rfl ?_
  refine ww_istore (lv' := [(5, .int 0), (4, .int x_8), (3, .int 3), (2, .int 0), (0, .ref h), (1, .int f)]) C dX4_blindfold_20 rfl rfl ?_
  refine ww_iload C dX4_blindfold_22 0 rfl ?_
  refine ww_aload_n C dX4_blindfold_24 4 rfl rfl ?_
  refine ww_get C fg_X4_18 0 rfl rfl dX4_blindfold_25 ?_
  refine ww_icmp_ge_t (tgt := 69) C dX4_blindfold_28 (by decide) (by decide) ?_
  refine ww_iinc (j := 2) (v := 4) (lv' := [(3, .int 4), (5, .int 0), (4, .int x_8), (2, .int 0), (0, .ref h), (1, .int f)]) C dX4_blindfold_69 rfl rfl rfl rfl ?_
  refine ww_goto (tgt := 4) C dX4_blindfold_72 (by decide) ?_
  refine ww_iload_n C dX4_blindfold_4 0 rfl rfl ?_
  refine ww_iconst (v := 4) C dX4_blindfold_5 rfl ?_
  refine ww_icmp_ge_t (tgt := 75) C dX4_blindfold_6 (by decide) (by decide) ?_
  refine ww_iload_n C dX4_blindfold_75 3 rfl rfl ?_
  exact ww_iret (u := []) C hT [] rfl rfl rfl rfl dX4_blindfold_76 (⟨rfl, rfl⟩)
theorem dX11_world_0 : decode cX11_world 0 = .ok (.iload_n 1, 1) := by decide +kernel
theorem dX11_world_1 : decode cX11_world 1 = .ok (.iconst 0, 1) := by decide +kernel
theorem dX11_world_2 : decode cX11_world 2 = .ok (.bipush 15, 2) := by decide +kernel
theorem dX11_world_4 : decode cX11_world 4 = .ok (.invokestatic 76, 3) := by decide +kernel
theorem wl_X11_76 : Cond.methodLink RX11 76 yX11_within ∈ TB := tbm (tq2 (List.mem_of_getElem? (i := 146) (by decide +kernel))) (by decide +kernel)
theorem wc_X11_within : Cond.code yX11_within cX11_within 3 (some .boolean) ∈ TB := tbm (tq2 (List.mem_of_getElem? (i := 148) (rfl))) (by decide +kernel)
theorem wt_X11_within : Cond.static yX11_within ∈ TB := tbm (tq2 (List.mem_of_getElem? (i := 147) (by decide +kernel))) (by decide +kernel)
theorem ms_X11_within : MS yX11_within cX11_within 3 (some .boolean) 3 := ⟨wc_X11_within, wn_X11, ⟨by decide +kernel, by decide +kernel, by decide +kernel⟩, wt_X11_within⟩
theorem dX11_world_7 : decode cX11_world 7 = .ok (.ifCond .ne 5, 3) := by decide +kernel
theorem dX11_world_12 : decode cX11_world 12 = .ok (.aload_n 0, 1) := by decide +kernel
theorem dX11_world_13 : decode cX11_world 13 = .ok (.getfield 10, 3) := by decide +kernel
theorem dX11_world_16 : decode cX11_world 16 = .ok (.getfield 125, 3) := by decide +kernel
theorem wf_X11_125 : Cond.fieldLink RX11 125 RX4 "size" "I" ∈ TB := tbm (tq1 (List.mem_of_getElem? (i := 38) (by decide +kernel))) (by decide +kernel)
theorem fg_X11_125 : FG RX11 125 4 0 := ⟨RX4, TX4, 4, uw_X4, wf_X11_125, rfl, by decide, rfl⟩
theorem dX11_world_19 : decode cX11_world 19 = .ok (.bipush 24, 2) := by decide +kernel
theorem dX11_world_21 : decode cX11_world 21 = .ok (.if_icmp .lt 6, 3) := by decide +kernel
theorem dX11_world_27 : decode cX11_world 27 = .ok (.aload_n 0, 1) := by decide +kernel
theorem dX11_world_28 : decode cX11_world 28 = .ok (.invokevirtual 128, 3) := by decide +kernel
theorem wl_X11_128 : Cond.methodLink RX11 128 yX11_remember ∈ TB := tbm (tq2 (List.mem_of_getElem? (i := 149) (by decide +kernel))) (by decide +kernel)
theorem wc_X11_remember : Cond.code yX11_remember cX11_remember 1 none ∈ TB := tbm (tq2 (List.mem_of_getElem? (i := 152) (rfl))) (by decide +kernel)
theorem wi_X11_remember : Cond.instanceMethod yX11_remember ∈ TB := tbm (tq2 (List.mem_of_getElem? (i := 151) (by decide +kernel))) (by decide +kernel)
theorem ws_X11_remember : Cond.selects RX11 yX11_remember yX11_remember ∈ TB := tbm (tq0 (List.mem_of_getElem? (i := 0) (by decide +kernel))) (by decide +kernel)
theorem mi_X11_remember : MI yX11_remember cX11_remember 1 none 0 := ⟨wc_X11_remember, wn_X11, ⟨by decide +kernel, by decide +kernel, by decide +kernel⟩, wi_X11_remember, ws_X11_remember⟩
theorem dX11_world_31 : decode cX11_world 31 = .ok (.aload_n 0, 1) := by decide +kernel
theorem dX11_world_32 : decode cX11_world 32 = .ok (.getfield 10, 3) := by decide +kernel
theorem dX11_world_35 : decode cX11_world 35 = .ok (.iload_n 1, 1) := by decide +kernel
theorem dX11_world_36 : decode cX11_world 36 = .ok (.invokevirtual 131, 3) := by decide +kernel
theorem wl_X11_131 : Cond.methodLink RX11 131 yX4_add ∈ TB := tbm (tq2 (List.mem_of_getElem? (i := 163) (by decide +kernel))) (by decide +kernel)
theorem wc_X4_add : Cond.code yX4_add cX4_add 3 (some .int) ∈ TB := tbm (tq2 (List.mem_of_getElem? (i := 166) (rfl))) (by decide +kernel)
theorem wi_X4_add : Cond.instanceMethod yX4_add ∈ TB := tbm (tq2 (List.mem_of_getElem? (i := 164) (by decide +kernel))) (by decide +kernel)
theorem ws_X4_add : Cond.selects RX4 yX4_add yX4_add ∈ TB := tbm (tq2 (List.mem_of_getElem? (i := 165) (by decide +kernel))) (by decide +kernel)
theorem mi_X4_add : MI yX4_add cX4_add 3 (some .int) 1 := ⟨wc_X4_add, wn_X4, ⟨by decide +kernel, by decide +kernel, by decide +kernel⟩, wi_X4_add, ws_X4_add⟩
theorem dX11_world_39 : decode cX11_world 39 = .ok (.ireturn, 1) := by decide +kernel
theorem dX11_world_10 : decode cX11_world 10 = .ok (.iconst (-1), 1) := by decide +kernel
theorem dX11_world_11 : decode cX11_world 11 = .ok (.ireturn, 1) := by decide +kernel
set_option maxRecDepth 100000 in
set_option maxHeartbeats 4000000 in
theorem x_world (l : Launch) (E : EV) (hx : Nat) (p0 : Int32) (qn : Nat) (qp : Nat) (qs : Nat) (qj : Nat) (ql : Nat) (qh : Nat) (qk : Nat) (qr : Nat) (qg : Nat) (qsh : Nat) (nf : Nat) (np : Nat) (fp : Nat → Option Nat) (pm : Nat) (pf : Nat) (pp : Nat) (k_fp_0 : fp 0 = some pm) : CT l yX11_world (Cond.code yX11_world cX11_world 2 (some .int) :: TB) ({ frames := 3, cells := 0, slots := 0, locals := 105 }) E [.ref hx, .int p0] [(hx, .inr (11, [.ref qn, .ref qp, .int 0, .int 0, .ref qs, .ref qj, .ref ql, .ref qh, .ref qk, .int 0, .ref qr, .ref qg, .int 0, .int 0, .ref qsh])), (qn, .inr (4, [.int 0, .int 0, .ref nf, .ref np])), (nf, .inl (E.2.1 1, 24, .inl (fun _ => 0))), (np, .inl (E.2.1 1, 96, .inl (fun _ => 0))), (qp, .inl (E.2.1 6, 8, .inr (.inr (.inr (.inr fp))))), (pm, .inr (4, [.int 0, .int 0, .ref pf, .ref pp])), (pf, .inl (E.2.1 1, 24, .inl (fun _ => 0))), (pp, .inl (E.2.1 1, 96, .inl (fun _ => 0)))] (Qi E (fun (r : Int32) u => (r = (-1) ∧ u = [] ∧ (p0.toInt < 0 ∨ 15 < p0.toInt)) ∨ (r = 0 ∧ u = [] ∧ (0 ≤ p0.toInt) ∧ (p0.toInt ≤ 15)))) 0 0 := by
  refine ct_of rfl rfl ?_
  intro X C hT hin
  show WW X 2 E 0 [(0, .ref hx), (1, .int p0)] [] [(hx, .inr (11, [.ref qn, .ref qp, .int 0, .int 0, .ref qs, .ref qj, .ref ql, .ref qh, .ref qk, .int 0, .ref qr, .ref qg, .int 0, .int 0, .ref qsh])), (qn, .inr (4, [.int 0, .int 0, .ref nf, .ref np])), (nf, .inl (E.2.1 1, 24, .inl (fun _ => 0))), (np, .inl (E.2.1 1, 96, .inl (fun _ => 0))), (qp, .inl (E.2.1 6, 8, .inr (.inr (.inr (.inr fp))))), (pm, .inr (4, [.int 0, .int 0, .ref pf, .ref pp])), (pf, .inl (E.2.1 1, 24, .inl (fun _ => 0))), (pp, .inl (E.2.1 1, 96, .inl (fun _ => 0)))] 0 0
  refine ww_iload_n C dX11_world_0 1 rfl rfl ?_
  refine ww_iconst (v := 0) C dX11_world_1 rfl ?_
  refine ww_bipush (v := 15) C dX11_world_2 rfl ?_
  refine ww_ci (wr := [(hx, .inr (11, [.ref qn, .ref qp, .int 0, .int 0, .ref qs, .ref qj, .ref ql, .ref qh, .ref qk, .int 0, .ref qr, .ref qg, .int 0, .int 0, .ref qsh])), (qn, .inr (4, [.int 0, .int 0, .ref nf, .ref np])), (nf, .inl (E.2.1 1, 24, .inl (fun _ => 0))), (np, .inl (E.2.1 1, 96, .inl (fun _ => 0))), (qp, .inl (E.2.1 6, 8, .inr (.inr (.inr (.inr fp))))), (pm, .inr (4, [.int 0, .int 0, .ref pf, .ref pp])), (pf, .inl (E.2.1 1, 24, .inl (fun _ => 0))), (pp, .inl (E.2.1 1, 96, .inl (fun _ => 0)))]) (k' := 0) (n' := 0) C (run_S (As := [.int p0, .int 0, .int 15]) (rest := []) C (c_within X.2.1 E p0 0 15 p0.toInt 0 15 rfl rfl rfl) ms_X11_within wl_X11_76 rfl rfl rfl rfl dX11_world_4) [] [0, 1, 2, 3, 4, 5, 6, 7] rfl rfl rfl rfl (fun r u hw => ?_)
  rcases hw with ⟨rfl, rfl, h_1, h_2⟩ | ⟨rfl, rfl, h_3⟩
  · refine ww_eq (ws' := [(hx, .inr (11, [.ref qn, .ref qp, .int 0, .int 0, .ref qs, .ref qj, .ref ql, .ref qh, .ref qk, .int 0, .ref qr, .ref qg, .int 0, .int 0, .ref qsh])), (qn, .inr (4, [.int 0, .int 0, .ref nf, .ref np])), (nf, .inl (E.2.1 1, 24, .inl (fun _ => 0))), (np, .inl (E.2.1 1, 96, .inl (fun _ => 0))), (qp, .inl (E.2.1 6, 8, .inr (.inr (.inr (.inr fp))))), (pm, .inr (4, [.int 0, .int 0, .ref pf, .ref pp])), (pf, .inl (E.2.1 1, 24, .inl (fun _ => 0))), (pp, .inl (E.2.1 1, 96, .inl (fun _ => 0)))]) ?_ rfl rfl rfl
    refine ww_if_ne_t (tgt := 12) C dX11_world_7 (by decide) (by decide) ?_
    refine ww_aload_n C dX11_world_12 0 rfl rfl ?_
    refine ww_get C fg_X11_10 0 rfl rfl dX11_world_13 ?_
    refine ww_get C fg_X11_125 1 rfl rfl dX11_world_16 ?_
    refine ww_bipush (v := 24) C dX11_world_19 rfl ?_
    refine ww_icmp_lt_t (tgt := 27) C dX11_world_21 (by decide) (by decide) ?_
    refine ww_aload_n C dX11_world_27 0 rfl rfl ?_
    refine ww_cv (wr := []) (k' := 0) (n' := 0) C (run_V (As := []) (rest := []) C (c_remember0 X.2.1 E hx qn qp qs qj ql qh qk qr qg qsh nf np fp pm pf pp k_fp_0) mi_X11_remember wl_X11_128 rfl 0 11 rfl rfl rfl rfl rfl dX11_world_28) [0, 1, 2, 3, 4, 5, 6, 7] [] rfl rfl rfl rfl (fun u hw => ?_)
    obtain ⟨rfl⟩ := hw
    refine ww_eq (ws' := [(hx, .inr (11, [.ref qn, .ref qp, .int 1, .int 1, .ref qs, .ref qj, .ref ql, .ref qh, .ref qk, .int 0, .ref qr, .ref qg, .int 0, .int 0, .ref qsh])), (qn, .inr (4, [.int 0, .int 0, .ref nf, .ref np])), (nf, .inl (E.2.1 1, 24, .inl (fun _ => 0))), (np, .inl (E.2.1 1, 96, .inl (fun _ => 0)))]) ?_ rfl rfl rfl
    refine ww_aload_n C dX11_world_31 0 rfl rfl ?_
    refine ww_get C fg_X11_10 0 rfl rfl dX11_world_32 ?_
    refine ww_iload_n C dX11_world_35 1 rfl rfl ?_
    refine ww_ci (wr := [(hx, .inr (11, [.ref qn, .ref qp, .int 1, .int 1, .ref qs, .ref qj, .ref ql, .ref qh, .ref qk, .int 0, .ref qr, .ref qg, .int 0, .int 0, .ref qsh]))]) (k' := 0) (n' := 0) C (run_V (As := [.int p0]) (rest := []) C (c_add0 X.2.1 E qn p0 nf np (fun _ => 0) (fun _ => 0)) mi_X4_add wl_X11_131 rfl 0 4 rfl rfl rfl rfl rfl dX11_world_36) [1, 2, 3] [0] rfl rfl rfl rfl (fun r u hw => ?_)
    obtain ⟨rfl, rfl⟩ := hw
    refine ww_eq (ws' := [(hx, .inr (11, [.ref qn, .ref qp, .int 1, .int 1, .ref qs, .ref qj, .ref ql, .ref qh, .ref qk, .int 0, .ref qr, .ref qg, .int 0, .int 0, .ref qsh]))]) ?_ rfl rfl rfl
    exact ww_iret (u := []) C hT [] rfl rfl rfl rfl dX11_world_39 (Or.inr ⟨rfl, rfl, (by first | assumption | omega | decide), (by first | assumption | omega | decide)⟩)
  · refine ww_eq (ws' := [(hx, .inr (11, [.ref qn, .ref qp, .int 0, .int 0, .ref qs, .ref qj, .ref ql, .ref qh, .ref qk, .int 0, .ref qr, .ref qg, .int 0, .int 0, .ref qsh])), (qn, .inr (4, [.int 0, .int 0, .ref nf, .ref np])), (nf, .inl (E.2.1 1, 24, .inl (fun _ => 0))), (np, .inl (E.2.1 1, 96, .inl (fun _ => 0))), (qp, .inl (E.2.1 6, 8, .inr (.inr (.inr (.inr fp))))), (pm, .inr (4, [.int 0, .int 0, .ref pf, .ref pp])), (pf, .inl (E.2.1 1, 24, .inl (fun _ => 0))), (pp, .inl (E.2.1 1, 96, .inl (fun _ => 0)))]) ?_ rfl rfl rfl
    refine ww_if_ne_f (tgt := 12) C dX11_world_7 (by decide) (rfl) ?_
    refine ww_iconst (v := (-1)) C dX11_world_10 rfl ?_
    exact ww_iret (u := []) C hT [] rfl rfl rfl rfl dX11_world_11 (Or.inl ⟨rfl, rfl, (by first | assumption | omega | decide)⟩)
theorem dX11_sees_0 : decode cX11_sees 0 = .ok (.iload_n 1, 1) := by decide +kernel
theorem dX11_sees_1 : decode cX11_sees 1 = .ok (.iconst 0, 1) := by decide +kernel
theorem dX11_sees_2 : decode cX11_sees 2 = .ok (.iconst 3, 1) := by decide +kernel
theorem dX11_sees_3 : decode cX11_sees 3 = .ok (.invokestatic 76, 3) := by decide +kernel
theorem dX11_sees_6 : decode cX11_sees 6 = .ok (.ifCond .eq 25, 3) := by decide +kernel
theorem dX11_sees_9 : decode cX11_sees 9 = .ok (.aload_n 0, 1) := by decide +kernel
theorem dX11_sees_10 : decode cX11_sees 10 = .ok (.getfield 10, 3) := by decide +kernel
theorem dX11_sees_13 : decode cX11_sees 13 = .ok (.iload_n 2, 1) := by decide +kernel
theorem dX11_sees_14 : decode cX11_sees 14 = .ok (.invokevirtual 135, 3) := by decide +kernel
theorem wl_X11_135 : Cond.methodLink RX11 135 yX4_contains ∈ TB := tbm (tq2 (List.mem_of_getElem? (i := 171) (by decide +kernel))) (by decide +kernel)
theorem wc_X4_contains : Cond.code yX4_contains cX4_contains 2 (some .boolean) ∈ TB := tbm (tq2 (List.mem_of_getElem? (i := 174) (rfl))) (by decide +kernel)
theorem wi_X4_contains : Cond.instanceMethod yX4_contains ∈ TB := tbm (tq2 (List.mem_of_getElem? (i := 172) (by decide +kernel))) (by decide +kernel)
theorem ws_X4_contains : Cond.selects RX4 yX4_contains yX4_contains ∈ TB := tbm (tq2 (List.mem_of_getElem? (i := 173) (by decide +kernel))) (by decide +kernel)
theorem mi_X4_contains : MI yX4_contains cX4_contains 2 (some .boolean) 1 := ⟨wc_X4_contains, wn_X4, ⟨by decide +kernel, by decide +kernel, by decide +kernel⟩, wi_X4_contains, ws_X4_contains⟩
theorem dX11_sees_17 : decode cX11_sees 17 = .ok (.ifCond .eq 14, 3) := by decide +kernel
theorem dX11_sees_31 : decode cX11_sees 31 = .ok (.iconst (-1), 1) := by decide +kernel
theorem dX11_sees_32 : decode cX11_sees 32 = .ok (.ireturn, 1) := by decide +kernel
set_option maxRecDepth 100000 in
set_option maxHeartbeats 4000000 in
theorem x_sees (l : Launch) (E : EV) (hx : Nat) (p0 : Int32) (p1 : Int32) (p2 : Int32) (p3 : Int32) (p4 : Int32) (qn : Nat) (qp : Nat) (qs : Nat) (qj : Nat) (ql : Nat) (qh : Nat) (qk : Nat) (qr : Nat) (qg : Nat) (qsh : Nat) (nf : Nat) (np : Nat)  : CT l yX11_sees (Cond.code yX11_sees cX11_sees 7 (some .int) :: TB) ({ frames := 1, cells := 0, slots := 0, locals := 22 }) E [.ref hx, .int p0, .int p1, .int p2, .int p3, .int p4] [(hx, .inr (11, [.ref qn, .ref qp, .int 0, .int 0, .ref qs, .ref qj, .ref ql, .ref qh, .ref qk, .int 0, .ref qr, .ref qg, .int 0, .int 0, .ref qsh])), (qn, .inr (4, [.int 0, .int 0, .ref nf, .ref np])), (nf, .inl (E.2.1 1, 24, .inl (fun _ => 0))), (np, .inl (E.2.1 1, 96, .inl (fun _ => 0)))] (Qi E (fun (r : Int32) u => (r = (-1) ∧ u = []))) 0 0 := by
  refine ct_of rfl rfl ?_
  intro X C hT hin
  show WW X 7 E 0 [(0, .ref hx), (1, .int p0), (2, .int p1), (3, .int p2), (4, .int p3), (5, .int p4)] [] [(hx, .inr (11, [.ref qn, .ref qp, .int 0, .int 0, .ref qs, .ref qj, .ref ql, .ref qh, .ref qk, .int 0, .ref qr, .ref qg, .int 0, .int 0, .ref qsh])), (qn, .inr (4, [.int 0, .int 0, .ref nf, .ref np])), (nf, .inl (E.2.1 1, 24, .inl (fun _ => 0))), (np, .inl (E.2.1 1, 96, .inl (fun _ => 0)))] 0 0
  refine ww_iload_n C dX11_sees_0 1 rfl rfl ?_
  refine ww_iconst (v := 0) C dX11_sees_1 rfl ?_
  refine ww_iconst (v := 3) C dX11_sees_2 rfl ?_
  refine ww_ci (wr := [(hx, .inr (11, [.ref qn, .ref qp, .int 0, .int 0, .ref qs, .ref qj, .ref ql, .ref qh, .ref qk, .int 0, .ref qr, .ref qg, .int 0, .int 0, .ref qsh])), (qn, .inr (4, [.int 0, .int 0, .ref nf, .ref np])), (nf, .inl (E.2.1 1, 24, .inl (fun _ => 0))), (np, .inl (E.2.1 1, 96, .inl (fun _ => 0)))]) (k' := 0) (n' := 0) C (run_S (As := [.int p0, .int 0, .int 3]) (rest := []) C (c_within X.2.1 E p0 0 3 p0.toInt 0 3 rfl rfl rfl) ms_X11_within wl_X11_76 rfl rfl rfl rfl dX11_sees_3) [] [0, 1, 2, 3] rfl rfl rfl rfl (fun r u hw => ?_)
  rcases hw with ⟨rfl, rfl, h_1, h_2⟩ | ⟨rfl, rfl, h_3⟩
  · refine ww_eq (ws' := [(hx, .inr (11, [.ref qn, .ref qp, .int 0, .int 0, .ref qs, .ref qj, .ref ql, .ref qh, .ref qk, .int 0, .ref qr, .ref qg, .int 0, .int 0, .ref qsh])), (qn, .inr (4, [.int 0, .int 0, .ref nf, .ref np])), (nf, .inl (E.2.1 1, 24, .inl (fun _ => 0))), (np, .inl (E.2.1 1, 96, .inl (fun _ => 0)))]) ?_ rfl rfl rfl
    refine ww_if_eq_f (tgt := 31) C dX11_sees_6 (by decide) (by decide) ?_
    refine ww_aload_n C dX11_sees_9 0 rfl rfl ?_
    refine ww_get C fg_X11_10 0 rfl rfl dX11_sees_10 ?_
    refine ww_iload_n C dX11_sees_13 2 rfl rfl ?_
    refine ww_ci (wr := [(hx, .inr (11, [.ref qn, .ref qp, .int 0, .int 0, .ref qs, .ref qj, .ref ql, .ref qh, .ref qk, .int 0, .ref qr, .ref qg, .int 0, .int 0, .ref qsh])), (nf, .inl (E.2.1 1, 24, .inl (fun _ => 0))), (np, .inl (E.2.1 1, 96, .inl (fun _ => 0)))]) (k' := 0) (n' := 0) C (run_V (As := [.int p1]) (rest := []) C (c_contains0 X.2.1 E qn nf np p1) mi_X4_contains wl_X11_135 rfl 0 4 rfl rfl rfl rfl rfl dX11_sees_14) [1] [0, 2, 3] rfl rfl rfl rfl (fun r u hw => ?_)
    obtain ⟨rfl, rfl⟩ := hw
    refine ww_eq (ws' := [(hx, .inr (11, [.ref qn, .ref qp, .int 0, .int 0, .ref qs, .ref qj, .ref ql, .ref qh, .ref qk, .int 0, .ref qr, .ref qg, .int 0, .int 0, .ref qsh])), (nf, .inl (E.2.1 1, 24, .inl (fun _ => 0))), (np, .inl (E.2.1 1, 96, .inl (fun _ => 0))), (qn, .inr (4, [.int 0, .int 0, .ref nf, .ref np]))]) ?_ rfl rfl rfl
    refine ww_if_eq_t (tgt := 31) C dX11_sees_17 (by decide) (rfl) ?_
    refine ww_iconst (v := (-1)) C dX11_sees_31 rfl ?_
    exact ww_iret (u := []) C hT [] rfl rfl rfl rfl dX11_sees_32 (⟨rfl, rfl⟩)
  · refine ww_eq (ws' := [(hx, .inr (11, [.ref qn, .ref qp, .int 0, .int 0, .ref qs, .ref qj, .ref ql, .ref qh, .ref qk, .int 0, .ref qr, .ref qg, .int 0, .int 0, .ref qsh])), (qn, .inr (4, [.int 0, .int 0, .ref nf, .ref np])), (nf, .inl (E.2.1 1, 24, .inl (fun _ => 0))), (np, .inl (E.2.1 1, 96, .inl (fun _ => 0)))]) ?_ rfl rfl rfl
    refine ww_if_eq_t (tgt := 31) C dX11_sees_6 (by decide) (rfl) ?_
    refine ww_iconst (v := (-1)) C dX11_sees_31 rfl ?_
    exact ww_iret (u := []) C hT [] rfl rfl rfl rfl dX11_sees_32 (⟨rfl, rfl⟩)
theorem dX11_blind_0 : decode cX11_blind 0 = .ok (.iload_n 1, 1) := by decide +kernel
theorem dX11_blind_1 : decode cX11_blind 1 = .ok (.iconst 0, 1) := by decide +kernel
theorem dX11_blind_2 : decode cX11_blind 2 = .ok (.ldc 145, 2) := by decide +kernel
theorem wv_X11_145 : Cond.constant RX11 145 65535 ∈ TB := tbm (tq2 (List.mem_of_getElem? (i := 188) (by decide +kernel))) (by decide +kernel)
theorem dX11_blind_4 : decode cX11_blind 4 = .ok (.invokestatic 76, 3) := by decide +kernel
theorem dX11_blind_7 : decode cX11_blind 7 = .ok (.ifCond .ne 5, 3) := by decide +kernel
theorem dX11_blind_12 : decode cX11_blind 12 = .ok (.aload_n 0, 1) := by decide +kernel
theorem dX11_blind_13 : decode cX11_blind 13 = .ok (.invokevirtual 128, 3) := by decide +kernel
theorem dX11_blind_16 : decode cX11_blind 16 = .ok (.aload_n 0, 1) := by decide +kernel
theorem dX11_blind_17 : decode cX11_blind 17 = .ok (.getfield 10, 3) := by decide +kernel
theorem dX11_blind_20 : decode cX11_blind 20 = .ok (.iload_n 1, 1) := by decide +kernel
theorem dX11_blind_21 : decode cX11_blind 21 = .ok (.invokevirtual 146, 3) := by decide +kernel
theorem wl_X11_146 : Cond.methodLink RX11 146 yX4_blindfold ∈ TB := tbm (tq2 (List.mem_of_getElem? (i := 189) (by decide +kernel))) (by decide +kernel)
theorem wc_X4_blindfold : Cond.code yX4_blindfold cX4_blindfold 7 (some .int) ∈ TB := tbm (tq2 (List.mem_of_getElem? (i := 192) (rfl))) (by decide +kernel)
theorem wi_X4_blindfold : Cond.instanceMethod yX4_blindfold ∈ TB := tbm (tq2 (List.mem_of_getElem? (i := 190) (by decide +kernel))) (by decide +kernel)
theorem ws_X4_blindfold : Cond.selects RX4 yX4_blindfold yX4_blindfold ∈ TB := tbm (tq2 (List.mem_of_getElem? (i := 191) (by decide +kernel))) (by decide +kernel)
theorem mi_X4_blindfold : MI yX4_blindfold cX4_blindfold 7 (some .int) 1 := ⟨wc_X4_blindfold, wn_X4, ⟨by decide +kernel, by decide +kernel, by decide +kernel⟩, wi_X4_blindfold, ws_X4_blindfold⟩
theorem dX11_blind_24 : decode cX11_blind 24 = .ok (.ireturn, 1) := by decide +kernel
theorem dX11_blind_10 : decode cX11_blind 10 = .ok (.iconst (-1), 1) := by decide +kernel
theorem dX11_blind_11 : decode cX11_blind 11 = .ok (.ireturn, 1) := by decide +kernel
set_option maxRecDepth 100000 in
set_option maxHeartbeats 4000000 in
theorem x_blind (l : Launch) (E : EV) (hx : Nat) (p0 : Int32) (qn : Nat) (qp : Nat) (qs : Nat) (qj : Nat) (ql : Nat) (qh : Nat) (qk : Nat) (qr : Nat) (qg : Nat) (qsh : Nat) (nf : Nat) (np : Nat) (fp : Nat → Option Nat) (pm : Nat) (pf : Nat) (pp : Nat) (k_fp_0 : fp 0 = some pm) : CT l yX11_blind (Cond.code yX11_blind cX11_blind 2 (some .int) :: TB) ({ frames := 3, cells := 0, slots := 0, locals := 105 }) E [.ref hx, .int p0] [(hx, .inr (11, [.ref qn, .ref qp, .int 0, .int 0, .ref qs, .ref qj, .ref ql, .ref qh, .ref qk, .int 0, .ref qr, .ref qg, .int 0, .int 0, .ref qsh])), (qn, .inr (4, [.int 0, .int 0, .ref nf, .ref np])), (nf, .inl (E.2.1 1, 24, .inl (fun _ => 0))), (np, .inl (E.2.1 1, 96, .inl (fun _ => 0))), (qp, .inl (E.2.1 6, 8, .inr (.inr (.inr (.inr fp))))), (pm, .inr (4, [.int 0, .int 0, .ref pf, .ref pp])), (pf, .inl (E.2.1 1, 24, .inl (fun _ => 0))), (pp, .inl (E.2.1 1, 96, .inl (fun _ => 0)))] (Qi E (fun (r : Int32) u => (r = (-1) ∧ u = [] ∧ (p0.toInt < 0 ∨ 65535 < p0.toInt)) ∨ (r = 0 ∧ u = [] ∧ (0 ≤ p0.toInt) ∧ (p0.toInt ≤ 65535)))) 0 0 := by
  refine ct_of rfl rfl ?_
  intro X C hT hin
  show WW X 2 E 0 [(0, .ref hx), (1, .int p0)] [] [(hx, .inr (11, [.ref qn, .ref qp, .int 0, .int 0, .ref qs, .ref qj, .ref ql, .ref qh, .ref qk, .int 0, .ref qr, .ref qg, .int 0, .int 0, .ref qsh])), (qn, .inr (4, [.int 0, .int 0, .ref nf, .ref np])), (nf, .inl (E.2.1 1, 24, .inl (fun _ => 0))), (np, .inl (E.2.1 1, 96, .inl (fun _ => 0))), (qp, .inl (E.2.1 6, 8, .inr (.inr (.inr (.inr fp))))), (pm, .inr (4, [.int 0, .int 0, .ref pf, .ref pp])), (pf, .inl (E.2.1 1, 24, .inl (fun _ => 0))), (pp, .inl (E.2.1 1, 96, .inl (fun _ => 0)))] 0 0
  refine ww_iload_n C dX11_blind_0 1 rfl rfl ?_
  refine ww_iconst (v := 0) C dX11_blind_1 rfl ?_
  refine ww_ldc C wv_X11_145 dX11_blind_2 ?_
  refine ww_ci (wr := [(hx, .inr (11, [.ref qn, .ref qp, .int 0, .int 0, .ref qs, .ref qj, .ref ql, .ref qh, .ref qk, .int 0, .ref qr, .ref qg, .int 0, .int 0, .ref qsh])), (qn, .inr (4, [.int 0, .int 0, .ref nf, .ref np])), (nf, .inl (E.2.1 1, 24, .inl (fun _ => 0))), (np, .inl (E.2.1 1, 96, .inl (fun _ => 0))), (qp, .inl (E.2.1 6, 8, .inr (.inr (.inr (.inr fp))))), (pm, .inr (4, [.int 0, .int 0, .ref pf, .ref pp])), (pf, .inl (E.2.1 1, 24, .inl (fun _ => 0))), (pp, .inl (E.2.1 1, 96, .inl (fun _ => 0)))]) (k' := 0) (n' := 0) C (run_S (As := [.int p0, .int 0, .int 65535]) (rest := []) C (c_within X.2.1 E p0 0 65535 p0.toInt 0 65535 rfl rfl rfl) ms_X11_within wl_X11_76 rfl rfl rfl rfl dX11_blind_4) [] [0, 1, 2, 3, 4, 5, 6, 7] rfl rfl rfl rfl (fun r u hw => ?_)
  rcases hw with ⟨rfl, rfl, h_1, h_2⟩ | ⟨rfl, rfl, h_3⟩
  · refine ww_eq (ws' := [(hx, .inr (11, [.ref qn, .ref qp, .int 0, .int 0, .ref qs, .ref qj, .ref ql, .ref qh, .ref qk, .int 0, .ref qr, .ref qg, .int 0, .int 0, .ref qsh])), (qn, .inr (4, [.int 0, .int 0, .ref nf, .ref np])), (nf, .inl (E.2.1 1, 24, .inl (fun _ => 0))), (np, .inl (E.2.1 1, 96, .inl (fun _ => 0))), (qp, .inl (E.2.1 6, 8, .inr (.inr (.inr (.inr fp))))), (pm, .inr (4, [.int 0, .int 0, .ref pf, .ref pp])), (pf, .inl (E.2.1 1, 24, .inl (fun _ => 0))), (pp, .inl (E.2.1 1, 96, .inl (fun _ => 0)))]) ?_ rfl rfl rfl
    refine ww_if_ne_t (tgt := 12) C dX11_blind_7 (by decide) (by decide) ?_
    refine ww_aload_n C dX11_blind_12 0 rfl rfl ?_
    refine ww_cv (wr := []) (k' := 0) (n' := 0) C (run_V (As := []) (rest := []) C (c_remember0 X.2.1 E hx qn qp qs qj ql qh qk qr qg qsh nf np fp pm pf pp k_fp_0) mi_X11_remember wl_X11_128 rfl 0 11 rfl rfl rfl rfl rfl dX11_blind_13) [0, 1, 2, 3, 4, 5, 6, 7] [] rfl rfl rfl rfl (fun u hw => ?_)
    obtain ⟨rfl⟩ := hw
    refine ww_eq (ws' := [(hx, .inr (11, [.ref qn, .ref qp, .int 1, .int 1, .ref qs, .ref qj, .ref ql, .ref qh, .ref qk, .int 0, .ref qr, .ref qg, .int 0, .int 0, .ref qsh])), (qn, .inr (4, [.int 0, .int 0, .ref nf, .ref np])), (nf, .inl (E.2.1 1, 24, .inl (fun _ => 0))), (np, .inl (E.2.1 1, 96, .inl (fun _ => 0)))]) ?_ rfl rfl rfl
    refine ww_aload_n C dX11_blind_16 0 rfl rfl ?_
    refine ww_get C fg_X11_10 0 rfl rfl dX11_blind_17 ?_
    refine ww_iload_n C dX11_blind_20 1 rfl rfl ?_
    refine ww_ci (wr := [(hx, .inr (11, [.ref qn, .ref qp, .int 1, .int 1, .ref qs, .ref qj, .ref ql, .ref qh, .ref qk, .int 0, .ref qr, .ref qg, .int 0, .int 0, .ref qsh]))]) (k' := 0) (n' := 0) C (run_V (As := [.int p0]) (rest := []) C (c_blind0 X.2.1 E qn p0 nf np (fun _ => 0) (fun _ => 0)) mi_X4_blindfold wl_X11_146 rfl 0 4 rfl rfl rfl rfl rfl dX11_blind_21) [1, 2, 3] [0] rfl rfl rfl rfl (fun r u hw => ?_)
    obtain ⟨rfl, rfl⟩ := hw
    refine ww_eq (ws' := [(hx, .inr (11, [.ref qn, .ref qp, .int 1, .int 1, .ref qs, .ref qj, .ref ql, .ref qh, .ref qk, .int 0, .ref qr, .ref qg, .int 0, .int 0, .ref qsh]))]) ?_ rfl rfl rfl
    exact ww_iret (u := []) C hT [] rfl rfl rfl rfl dX11_blind_24 (Or.inr ⟨rfl, rfl, (by first | assumption | omega | decide), (by first | assumption | omega | decide)⟩)
  · refine ww_eq (ws' := [(hx, .inr (11, [.ref qn, .ref qp, .int 0, .int 0, .ref qs, .ref qj, .ref ql, .ref qh, .ref qk, .int 0, .ref qr, .ref qg, .int 0, .int 0, .ref qsh])), (qn, .inr (4, [.int 0, .int 0, .ref nf, .ref np])), (nf, .inl (E.2.1 1, 24, .inl (fun _ => 0))), (np, .inl (E.2.1 1, 96, .inl (fun _ => 0))), (qp, .inl (E.2.1 6, 8, .inr (.inr (.inr (.inr fp))))), (pm, .inr (4, [.int 0, .int 0, .ref pf, .ref pp])), (pf, .inl (E.2.1 1, 24, .inl (fun _ => 0))), (pp, .inl (E.2.1 1, 96, .inl (fun _ => 0)))]) ?_ rfl rfl rfl
    refine ww_if_ne_f (tgt := 12) C dX11_blind_7 (by decide) (rfl) ?_
    refine ww_iconst (v := (-1)) C dX11_blind_10 rfl ?_
    exact ww_iret (u := []) C hT [] rfl rfl rfl rfl dX11_blind_11 (Or.inl ⟨rfl, rfl, (by first | assumption | omega | decide)⟩)
theorem dX11_real_0 : decode cX11_real 0 = .ok (.aload_n 0, 1) := by decide +kernel
theorem dX11_real_1 : decode cX11_real 1 = .ok (.getfield 10, 3) := by decide +kernel
theorem dX11_real_4 : decode cX11_real 4 = .ok (.iload_n 1, 1) := by decide +kernel
theorem dX11_real_5 : decode cX11_real 5 = .ok (.invokevirtual 135, 3) := by decide +kernel
theorem dX11_real_8 : decode cX11_real 8 = .ok (.ifCond .ne 5, 3) := by decide +kernel
theorem dX11_real_11 : decode cX11_real 11 = .ok (.iconst (-1), 1) := by decide +kernel
theorem dX11_real_12 : decode cX11_real 12 = .ok (.ireturn, 1) := by decide +kernel
set_option maxRecDepth 100000 in
set_option maxHeartbeats 4000000 in
theorem x_real (l : Launch) (E : EV) (hx : Nat) (p0 : Int32) (qn : Nat) (qp : Nat) (qs : Nat) (qj : Nat) (ql : Nat) (qh : Nat) (qk : Nat) (qr : Nat) (qg : Nat) (qsh : Nat) (nf : Nat) (np : Nat)  : CT l yX11_real (Cond.code yX11_real cX11_real 3 (some .int) :: TB) ({ frames := 1, cells := 0, slots := 0, locals := 21 }) E [.ref hx, .int p0] [(hx, .inr (11, [.ref qn, .ref qp, .int 0, .int 0, .ref qs, .ref qj, .ref ql, .ref qh, .ref qk, .int 0, .ref qr, .ref qg, .int 0, .int 0, .ref qsh])), (qn, .inr (4, [.int 0, .int 0, .ref nf, .ref np])), (nf, .inl (E.2.1 1, 24, .inl (fun _ => 0))), (np, .inl (E.2.1 1, 96, .inl (fun _ => 0)))] (Qi E (fun (r : Int32) u => (r = (-1) ∧ u = []))) 0 0 := by
  refine ct_of rfl rfl ?_
  intro X C hT hin
  show WW X 3 E 0 [(0, .ref hx), (1, .int p0)] [] [(hx, .inr (11, [.ref qn, .ref qp, .int 0, .int 0, .ref qs, .ref qj, .ref ql, .ref qh, .ref qk, .int 0, .ref qr, .ref qg, .int 0, .int 0, .ref qsh])), (qn, .inr (4, [.int 0, .int 0, .ref nf, .ref np])), (nf, .inl (E.2.1 1, 24, .inl (fun _ => 0))), (np, .inl (E.2.1 1, 96, .inl (fun _ => 0)))] 0 0
  refine ww_aload_n C dX11_real_0 0 rfl rfl ?_
  refine ww_get C fg_X11_10 0 rfl rfl dX11_real_1 ?_
  refine ww_iload_n C dX11_real_4 1 rfl rfl ?_
  refine ww_ci (wr := [(hx, .inr (11, [.ref qn, .ref qp, .int 0, .int 0, .ref qs, .ref qj, .ref ql, .ref qh, .ref qk, .int 0, .ref qr, .ref qg, .int 0, .int 0, .ref qsh])), (nf, .inl (E.2.1 1, 24, .inl (fun _ => 0))), (np, .inl (E.2.1 1, 96, .inl (fun _ => 0)))]) (k' := 0) (n' := 0) C (run_V (As := [.int p0]) (rest := []) C (c_contains0 X.2.1 E qn nf np p0) mi_X4_contains wl_X11_135 rfl 0 4 rfl rfl rfl rfl rfl dX11_real_5) [1] [0, 2, 3] rfl rfl rfl rfl (fun r u hw => ?_)
  obtain ⟨rfl, rfl⟩ := hw
  refine ww_eq (ws' := [(hx, .inr (11, [.ref qn, .ref qp, .int 0, .int 0, .ref qs, .ref qj, .ref ql, .ref qh, .ref qk, .int 0, .ref qr, .ref qg, .int 0, .int 0, .ref qsh])), (nf, .inl (E.2.1 1, 24, .inl (fun _ => 0))), (np, .inl (E.2.1 1, 96, .inl (fun _ => 0))), (qn, .inr (4, [.int 0, .int 0, .ref nf, .ref np]))]) ?_ rfl rfl rfl
  refine ww_if_ne_f (tgt := 13) C dX11_real_8 (by decide) (rfl) ?_
  refine ww_iconst (v := (-1)) C dX11_real_11 rfl ?_
  exact ww_iret (u := []) C hT [] rfl rfl rfl rfl dX11_real_12 (⟨rfl, rfl⟩)
theorem dX11_of_0 : decode cX11_of 0 = .ok (.aload_n 0, 1) := by decide +kernel
theorem dX11_of_1 : decode cX11_of 1 = .ok (.getfield 10, 3) := by decide +kernel
theorem dX11_of_4 : decode cX11_of 4 = .ok (.iload_n 1, 1) := by decide +kernel
theorem dX11_of_5 : decode cX11_of 5 = .ok (.invokevirtual 135, 3) := by decide +kernel
theorem dX11_of_8 : decode cX11_of 8 = .ok (.ifCond .eq 13, 3) := by decide +kernel
theorem dX11_of_21 : decode cX11_of 21 = .ok (.iconst (-1), 1) := by decide +kernel
theorem dX11_of_22 : decode cX11_of 22 = .ok (.ireturn, 1) := by decide +kernel
set_option maxRecDepth 100000 in
set_option maxHeartbeats 4000000 in
theorem x_of (l : Launch) (E : EV) (hx : Nat) (p0 : Int32) (p1 : Int32) (qn : Nat) (qp : Nat) (qs : Nat) (qj : Nat) (ql : Nat) (qh : Nat) (qk : Nat) (qr : Nat) (qg : Nat) (qsh : Nat) (nf : Nat) (np : Nat)  : CT l yX11_of (Cond.code yX11_of cX11_of 3 (some .int) :: TB) ({ frames := 1, cells := 0, slots := 0, locals := 21 }) E [.ref hx, .int p0, .int p1] [(hx, .inr (11, [.ref qn, .ref qp, .int 0, .int 0, .ref qs, .ref qj, .ref ql, .ref qh, .ref qk, .int 0, .ref qr, .ref qg, .int 0, .int 0, .ref qsh])), (qn, .inr (4, [.int 0, .int 0, .ref nf, .ref np])), (nf, .inl (E.2.1 1, 24, .inl (fun _ => 0))), (np, .inl (E.2.1 1, 96, .inl (fun _ => 0)))] (Qi E (fun (r : Int32) u => (r = (-1) ∧ u = []))) 0 0 := by
  refine ct_of rfl rfl ?_
  intro X C hT hin
  show WW X 3 E 0 [(0, .ref hx), (1, .int p0), (2, .int p1)] [] [(hx, .inr (11, [.ref qn, .ref qp, .int 0, .int 0, .ref qs, .ref qj, .ref ql, .ref qh, .ref qk, .int 0, .ref qr, .ref qg, .int 0, .int 0, .ref qsh])), (qn, .inr (4, [.int 0, .int 0, .ref nf, .ref np])), (nf, .inl (E.2.1 1, 24, .inl (fun _ => 0))), (np, .inl (E.2.1 1, 96, .inl (fun _ => 0)))] 0 0
  refine ww_aload_n C dX11_of_0 0 rfl rfl ?_
  refine ww_get C fg_X11_10 0 rfl rfl dX11_of_1 ?_
  refine ww_iload_n C dX11_of_4 1 rfl rfl ?_
  refine ww_ci (wr := [(hx, .inr (11, [.ref qn, .ref qp, .int 0, .int 0, .ref qs, .ref qj, .ref ql, .ref qh, .ref qk, .int 0, .ref qr, .ref qg, .int 0, .int 0, .ref qsh])), (nf, .inl (E.2.1 1, 24, .inl (fun _ => 0))), (np, .inl (E.2.1 1, 96, .inl (fun _ => 0)))]) (k' := 0) (n' := 0) C (run_V (As := [.int p0]) (rest := []) C (c_contains0 X.2.1 E qn nf np p0) mi_X4_contains wl_X11_135 rfl 0 4 rfl rfl rfl rfl rfl dX11_of_5) [1] [0, 2, 3] rfl rfl rfl rfl (fun r u hw => ?_)
  obtain ⟨rfl, rfl⟩ := hw
  refine ww_eq (ws' := [(hx, .inr (11, [.ref qn, .ref qp, .int 0, .int 0, .ref qs, .ref qj, .ref ql, .ref qh, .ref qk, .int 0, .ref qr, .ref qg, .int 0, .int 0, .ref qsh])), (nf, .inl (E.2.1 1, 24, .inl (fun _ => 0))), (np, .inl (E.2.1 1, 96, .inl (fun _ => 0))), (qn, .inr (4, [.int 0, .int 0, .ref nf, .ref np]))]) ?_ rfl rfl rfl
  refine ww_if_eq_t (tgt := 21) C dX11_of_8 (by decide) (rfl) ?_
  refine ww_iconst (v := (-1)) C dX11_of_21 rfl ?_
  exact ww_iret (u := []) C hT [] rfl rfl rfl rfl dX11_of_22 (⟨rfl, rfl⟩)
theorem dX11_reach_0 : decode cX11_reach 0 = .ok (.iload_n 1, 1) := by decide +kernel
theorem dX11_reach_1 : decode cX11_reach 1 = .ok (.iconst 0, 1) := by decide +kernel
theorem dX11_reach_2 : decode cX11_reach 2 = .ok (.bipush 15, 2) := by decide +kernel
theorem dX11_reach_4 : decode cX11_reach 4 = .ok (.invokestatic 76, 3) := by decide +kernel
theorem dX11_reach_7 : decode cX11_reach 7 = .ok (.ifCond .eq 14, 3) := by decide +kernel
theorem dX11_reach_10 : decode cX11_reach 10 = .ok (.aload_n 0, 1) := by decide +kernel
theorem dX11_reach_11 : decode cX11_reach 11 = .ok (.getfield 10, 3) := by decide +kernel
theorem dX11_reach_14 : decode cX11_reach 14 = .ok (.iload_n 2, 1) := by decide +kernel
theorem dX11_reach_15 : decode cX11_reach 15 = .ok (.invokevirtual 135, 3) := by decide +kernel
theorem dX11_reach_18 : decode cX11_reach 18 = .ok (.ifCond .ne 5, 3) := by decide +kernel
theorem dX11_reach_21 : decode cX11_reach 21 = .ok (.iconst (-1), 1) := by decide +kernel
theorem dX11_reach_22 : decode cX11_reach 22 = .ok (.ireturn, 1) := by decide +kernel
set_option maxRecDepth 100000 in
set_option maxHeartbeats 4000000 in
theorem x_reach (l : Launch) (E : EV) (hx : Nat) (p0 : Int32) (p1 : Int32) (qn : Nat) (qp : Nat) (qs : Nat) (qj : Nat) (ql : Nat) (qh : Nat) (qk : Nat) (qr : Nat) (qg : Nat) (qsh : Nat) (nf : Nat) (np : Nat)  : CT l yX11_reach (Cond.code yX11_reach cX11_reach 3 (some .int) :: TB) ({ frames := 1, cells := 0, slots := 0, locals := 22 }) E [.ref hx, .int p0, .int p1] [(hx, .inr (11, [.ref qn, .ref qp, .int 0, .int 0, .ref qs, .ref qj, .ref ql, .ref qh, .ref qk, .int 0, .ref qr, .ref qg, .int 0, .int 0, .ref qsh])), (qn, .inr (4, [.int 0, .int 0, .ref nf, .ref np])), (nf, .inl (E.2.1 1, 24, .inl (fun _ => 0))), (np, .inl (E.2.1 1, 96, .inl (fun _ => 0)))] (Qi E (fun (r : Int32) u => (r = (-1) ∧ u = []))) 0 0 := by
  refine ct_of rfl rfl ?_
  intro X C hT hin
  show WW X 3 E 0 [(0, .ref hx), (1, .int p0), (2, .int p1)] [] [(hx, .inr (11, [.ref qn, .ref qp, .int 0, .int 0, .ref qs, .ref qj, .ref ql, .ref qh, .ref qk, .int 0, .ref qr, .ref qg, .int 0, .int 0, .ref qsh])), (qn, .inr (4, [.int 0, .int 0, .ref nf, .ref np])), (nf, .inl (E.2.1 1, 24, .inl (fun _ => 0))), (np, .inl (E.2.1 1, 96, .inl (fun _ => 0)))] 0 0
  refine ww_iload_n C dX11_reach_0 1 rfl rfl ?_
  refine ww_iconst (v := 0) C dX11_reach_1 rfl ?_
  refine ww_bipush (v := 15) C dX11_reach_2 rfl ?_
  refine ww_ci (wr := [(hx, .inr (11, [.ref qn, .ref qp, .int 0, .int 0, .ref qs, .ref qj, .ref ql, .ref qh, .ref qk, .int 0, .ref qr, .ref qg, .int 0, .int 0, .ref qsh])), (qn, .inr (4, [.int 0, .int 0, .ref nf, .ref np])), (nf, .inl (E.2.1 1, 24, .inl (fun _ => 0))), (np, .inl (E.2.1 1, 96, .inl (fun _ => 0)))]) (k' := 0) (n' := 0) C (run_S (As := [.int p0, .int 0, .int 15]) (rest := []) C (c_within X.2.1 E p0 0 15 p0.toInt 0 15 rfl rfl rfl) ms_X11_within wl_X11_76 rfl rfl rfl rfl dX11_reach_4) [] [0, 1, 2, 3] rfl rfl rfl rfl (fun r u hw => ?_)
  rcases hw with ⟨rfl, rfl, h_1, h_2⟩ | ⟨rfl, rfl, h_3⟩
  · refine ww_eq (ws' := [(hx, .inr (11, [.ref qn, .ref qp, .int 0, .int 0, .ref qs, .ref qj, .ref ql, .ref qh, .ref qk, .int 0, .ref qr, .ref qg, .int 0, .int 0, .ref qsh])), (qn, .inr (4, [.int 0, .int 0, .ref nf, .ref np])), (nf, .inl (E.2.1 1, 24, .inl (fun _ => 0))), (np, .inl (E.2.1 1, 96, .inl (fun _ => 0)))]) ?_ rfl rfl rfl
    refine ww_if_eq_f (tgt := 21) C dX11_reach_7 (by decide) (by decide) ?_
    refine ww_aload_n C dX11_reach_10 0 rfl rfl ?_
    refine ww_get C fg_X11_10 0 rfl rfl dX11_reach_11 ?_
    refine ww_iload_n C dX11_reach_14 2 rfl rfl ?_
    refine ww_ci (wr := [(hx, .inr (11, [.ref qn, .ref qp, .int 0, .int 0, .ref qs, .ref qj, .ref ql, .ref qh, .ref qk, .int 0, .ref qr, .ref qg, .int 0, .int 0, .ref qsh])), (nf, .inl (E.2.1 1, 24, .inl (fun _ => 0))), (np, .inl (E.2.1 1, 96, .inl (fun _ => 0)))]) (k' := 0) (n' := 0) C (run_V (As := [.int p1]) (rest := []) C (c_contains0 X.2.1 E qn nf np p1) mi_X4_contains wl_X11_135 rfl 0 4 rfl rfl rfl rfl rfl dX11_reach_15) [1] [0, 2, 3] rfl rfl rfl rfl (fun r u hw => ?_)
    obtain ⟨rfl, rfl⟩ := hw
    refine ww_eq (ws' := [(hx, .inr (11, [.ref qn, .ref qp, .int 0, .int 0, .ref qs, .ref qj, .ref ql, .ref qh, .ref qk, .int 0, .ref qr, .ref qg, .int 0, .int 0, .ref qsh])), (nf, .inl (E.2.1 1, 24, .inl (fun _ => 0))), (np, .inl (E.2.1 1, 96, .inl (fun _ => 0))), (qn, .inr (4, [.int 0, .int 0, .ref nf, .ref np]))]) ?_ rfl rfl rfl
    refine ww_if_ne_f (tgt := 23) C dX11_reach_18 (by decide) (rfl) ?_
    refine ww_iconst (v := (-1)) C dX11_reach_21 rfl ?_
    exact ww_iret (u := []) C hT [] rfl rfl rfl rfl dX11_reach_22 (⟨rfl, rfl⟩)
  · refine ww_eq (ws' := [(hx, .inr (11, [.ref qn, .ref qp, .int 0, .int 0, .ref qs, .ref qj, .ref ql, .ref qh, .ref qk, .int 0, .ref qr, .ref qg, .int 0, .int 0, .ref qsh])), (qn, .inr (4, [.int 0, .int 0, .ref nf, .ref np])), (nf, .inl (E.2.1 1, 24, .inl (fun _ => 0))), (np, .inl (E.2.1 1, 96, .inl (fun _ => 0)))]) ?_ rfl rfl rfl
    refine ww_if_eq_t (tgt := 21) C dX11_reach_7 (by decide) (rfl) ?_
    refine ww_iconst (v := (-1)) C dX11_reach_21 rfl ?_
    exact ww_iret (u := []) C hT [] rfl rfl rfl rfl dX11_reach_22 (⟨rfl, rfl⟩)
