theorem EZ.t {E : EV} {ro : va_W} {q : Nat → Option Nat} {f g : Nat → Int32} {T : Nat → Option SVal} (h : SYT E ro 4 q T) (hz : EZ 4 q f g) : ∀ z, z < 4 → T z = none := fun z hz4 => SYT.no h hz4 (hz z hz4).1
theorem va_one {T : Nat → Option SVal} {k : Nat} {S : SVal} (h : ∀ z, z < 4 → T z = none) : ∀ z, z < 4 → va_up T k (some S) z = if z = k then some S else none := by
  intro c hc
  by_cases z : c = k
  · rw [z, vup_s, if_pos rfl]
  · rw [vup_n z, if_neg z]; exact h c hc
theorem dX0_begin_0 : decode cX0_begin 0 = .ok (.aload_n 0, 1) := by decide +kernel
theorem dX0_begin_1 : decode cX0_begin 1 = .ok (.iload_n 1, 1) := by decide +kernel
theorem dX0_begin_2 : decode cX0_begin 2 = .ok (.putfield 27, 3) := by decide +kernel
theorem uw_X0 : ∀ w ∈ u_ws RX0 TX0 6, w ∈ TB := uw_of [167, 169, 171, 173, 175, 177] (by decide +kernel) (by decide +kernel)
theorem wf_X0_27 : Cond.fieldLink RX0 27 RX0 "cases" "I" ∈ TB := tbm (tq1 (List.mem_of_getElem? (i := 150) (by decide +kernel))) (by decide +kernel)
theorem fp_X0_27 : FP RX0 27 0 0 .int false := ⟨RX0, TX0, 6, tyX0, uw_X0, wf_X0_27, rfl, by decide, rfl, tyX0_ok, nmX0, rfl, by decide +kernel⟩
theorem dX0_begin_5 : decode cX0_begin 5 = .ok (.aload_n 0, 1) := by decide +kernel
theorem dX0_begin_6 : decode cX0_begin 6 = .ok (.iconst 0, 1) := by decide +kernel
theorem dX0_begin_7 : decode cX0_begin 7 = .ok (.putfield 31, 3) := by decide +kernel
theorem wf_X0_31 : Cond.fieldLink RX0 31 RX0 "realCase" "I" ∈ TB := tbm (tq1 (List.mem_of_getElem? (i := 153) (by decide +kernel))) (by decide +kernel)
theorem fp_X0_31 : FP RX0 31 0 1 .int false := ⟨RX0, TX0, 6, tyX0, uw_X0, wf_X0_31, rfl, by decide, rfl, tyX0_ok, nmX0, rfl, by decide +kernel⟩
theorem dX0_begin_10 : decode cX0_begin 10 = .ok (.iconst 0, 1) := by decide +kernel
theorem dX0_begin_11 : decode cX0_begin 11 = .ok (.istore_n 2, 1) := by decide +kernel
theorem dX0_begin_12 : decode cX0_begin 12 = .ok (.iload_n 2, 1) := by decide +kernel
theorem dX0_begin_13 : decode cX0_begin 13 = .ok (.iconst 4, 1) := by decide +kernel
theorem dX0_begin_14 : decode cX0_begin 14 = .ok (.if_icmp .ge 30, 3) := by decide +kernel
theorem dX0_begin_44 : decode cX0_begin 44 = .ok (.iconst 0, 1) := by decide +kernel
theorem dX0_begin_45 : decode cX0_begin 45 = .ok (.istore_n 2, 1) := by decide +kernel
theorem dX0_begin_46 : decode cX0_begin 46 = .ok (.iload_n 2, 1) := by decide +kernel
theorem dX0_begin_47 : decode cX0_begin 47 = .ok (.aload_n 0, 1) := by decide +kernel
theorem dX0_begin_48 : decode cX0_begin 48 = .ok (.getfield 24, 3) := by decide +kernel
theorem wf_X0_24 : Cond.fieldLink RX0 24 RX0 "possible" "[I" ∈ TB := tbm (tq1 (List.mem_of_getElem? (i := 165) (by decide +kernel))) (by decide +kernel)
theorem fg_X0_24 : FG RX0 24 0 5 := ⟨RX0, TX0, 6, uw_X0, wf_X0_24, rfl, by decide, rfl⟩
theorem dX0_begin_51 : decode cX0_begin 51 = .ok (.arraylength, 1) := by decide +kernel
theorem dX0_begin_52 : decode cX0_begin 52 = .ok (.if_icmp .ge 16, 3) := by decide +kernel
theorem dX0_begin_68 : decode cX0_begin 68 = .ok (.return_, 1) := by decide +kernel
theorem dX0_begin_55 : decode cX0_begin 55 = .ok (.aload_n 0, 1) := by decide +kernel
theorem dX0_begin_56 : decode cX0_begin 56 = .ok (.getfield 24, 3) := by decide +kernel
theorem dX0_begin_59 : decode cX0_begin 59 = .ok (.iload_n 2, 1) := by decide +kernel
theorem dX0_begin_60 : decode cX0_begin 60 = .ok (.iconst 0, 1) := by decide +kernel
theorem dX0_begin_61 : decode cX0_begin 61 = .ok (.iastore, 1) := by decide +kernel
theorem dX0_begin_62 : decode cX0_begin 62 = .ok (.iinc 2 1, 3) := by decide +kernel
theorem dX0_begin_65 : decode cX0_begin 65 = .ok (.goto (-19), 3) := by decide +kernel
theorem dX0_begin_17 : decode cX0_begin 17 = .ok (.aload_n 0, 1) := by decide +kernel
theorem dX0_begin_18 : decode cX0_begin 18 = .ok (.getfield 11, 3) := by decide +kernel
theorem wf_X0_11 : Cond.fieldLink RX0 11 RX0 "ifs" "[LWhoKnows$Saying;" ∈ TB := tbm (tq1 (List.mem_of_getElem? (i := 158) (by decide +kernel))) (by decide +kernel)
theorem fg_X0_11 : FG RX0 11 0 2 := ⟨RX0, TX0, 6, uw_X0, wf_X0_11, rfl, by decide, rfl⟩
theorem dX0_begin_21 : decode cX0_begin 21 = .ok (.iload_n 2, 1) := by decide +kernel
theorem dX0_begin_22 : decode cX0_begin 22 = .ok (.aconst_null, 1) := by decide +kernel
theorem dX0_begin_23 : decode cX0_begin 23 = .ok (.aastore, 1) := by decide +kernel
theorem dX0_begin_24 : decode cX0_begin 24 = .ok (.aload_n 0, 1) := by decide +kernel
theorem dX0_begin_25 : decode cX0_begin 25 = .ok (.getfield 17, 3) := by decide +kernel
theorem wf_X0_17 : Cond.fieldLink RX0 17 RX0 "so" "[I" ∈ TB := tbm (tq1 (List.mem_of_getElem? (i := 161) (by decide +kernel))) (by decide +kernel)
theorem fg_X0_17 : FG RX0 17 0 3 := ⟨RX0, TX0, 6, uw_X0, wf_X0_17, rfl, by decide, rfl⟩
theorem dX0_begin_28 : decode cX0_begin 28 = .ok (.iload_n 2, 1) := by decide +kernel
theorem dX0_begin_29 : decode cX0_begin 29 = .ok (.iconst 0, 1) := by decide +kernel
theorem dX0_begin_30 : decode cX0_begin 30 = .ok (.iastore, 1) := by decide +kernel
theorem dX0_begin_31 : decode cX0_begin 31 = .ok (.aload_n 0, 1) := by decide +kernel
theorem dX0_begin_32 : decode cX0_begin 32 = .ok (.getfield 21, 3) := by decide +kernel
theorem wf_X0_21 : Cond.fieldLink RX0 21 RX0 "not" "[I" ∈ TB := tbm (tq1 (List.mem_of_getElem? (i := 163) (by decide +kernel))) (by decide +kernel)
theorem fg_X0_21 : FG RX0 21 0 4 := ⟨RX0, TX0, 6, uw_X0, wf_X0_21, rfl, by decide, rfl⟩
theorem dX0_begin_35 : decode cX0_begin 35 = .ok (.iload_n 2, 1) := by decide +kernel
theorem dX0_begin_36 : decode cX0_begin 36 = .ok (.iconst 0, 1) := by decide +kernel
theorem dX0_begin_37 : decode cX0_begin 37 = .ok (.iastore, 1) := by decide +kernel
theorem dX0_begin_38 : decode cX0_begin 38 = .ok (.iinc 2 1, 3) := by decide +kernel
theorem dX0_begin_41 : decode cX0_begin 41 = .ok (.goto (-29), 3) := by decide +kernel
set_option maxRecDepth 100000 in
set_option maxHeartbeats 4000000 in
theorem e_begin (l : Launch) (E : EV) (ro : va_W) (e : Nat) (n : Nat) (ecs : Nat) (erc : Nat) (ea : Nat) (eb : Nat) (ec : Nat) (ed : Nat) (efi : Nat → Option Nat) (efb : Nat → Int32) (efc : Nat → Int32) (efd : Nat → Int32) (eT : Nat → Option SVal) (hecs : ecs ≤ 4) (herc : erc ≤ 3) (hefi : SYT E ro 4 efi eT) (hn : n ≤ 4) : CT l yX0_begin (Cond.code yX0_begin cX0_begin 3 none :: TB) ({ frames := 0, cells := 0, slots := 0, locals := 0 }) E ro [.ref e, .int (nI n)] [(e, .inr (0, [.int (nI ecs), .int (nI erc), .ref ea, .ref eb, .ref ec, .ref ed])), (ea, .inl (E.2.1 7, 4, .inr (.inr (.inr (.inr efi))))), (eb, .inl (E.2.1 1, 4, .inl efb)), (ec, .inl (E.2.1 1, 4, .inl efc)), (ed, .inl (E.2.1 1, 16, .inl efd))] (Qv E (fun uz => (∃ (fi2 : Nat → Option Nat) (fb2 : Nat → Int32) (fc2 : Nat → Int32) (fd2 : Nat → Int32) (T2 : Nat → Option SVal), uz = [(e, .inr (0, [.int (nI n), .int 0, .ref ea, .ref eb, .ref ec, .ref ed])), (ea, .inl (E.2.1 7, 4, .inr (.inr (.inr (.inr fi2))))), (eb, .inl (E.2.1 1, 4, .inl fb2)), (ec, .inl (E.2.1 1, 4, .inl fc2)), (ed, .inl (E.2.1 1, 16, .inl fd2))] ∧ (SYT E ro 4 fi2 T2) ∧ (EZ 4 fi2 fb2 fc2) ∧ (Z0x 16 fd2) ∧ (∀ z, z < 4 → T2 z = none)))) 0 0 := by
  refine ct_of rfl rfl ?_
  intro X C hT hin hro
  show WW X 3 E 0 [(0, .ref e), (1, .int (nI n))] [] [(e, .inr (0, [.int (nI ecs), .int (nI erc), .ref ea, .ref eb, .ref ec, .ref ed])), (ea, .inl (E.2.1 7, 4, .inr (.inr (.inr (.inr efi))))), (eb, .inl (E.2.1 1, 4, .inl efb)), (ec, .inl (E.2.1 1, 4, .inl efc)), (ed, .inl (E.2.1 1, 16, .inl efd))] 0 0
  refine ww_aload_n C dX0_begin_0 0 rfl rfl ?_
  refine ww_iload_n C dX0_begin_1 1 rfl rfl ?_
  refine ww_put (ws' := [(e, .inr (0, [.int (nI n), .int (nI erc), .ref ea, .ref eb, .ref ec, .ref ed])), (ea, .inl (E.2.1 7, 4, .inr (.inr (.inr (.inr efi))))), (eb, .inl (E.2.1 1, 4, .inl efb)), (ec, .inl (E.2.1 1, 4, .inl efc)), (ed, .inl (E.2.1 1, 16, .inl efd))]) C fp_X0_27 0 rfl rfl rfl rfl rfl dX0_begin_2 ?_
  refine ww_aload_n C dX0_begin_5 0 rfl rfl ?_
  refine ww_iconst (v := 0) C dX0_begin_6 rfl ?_
  refine ww_put (ws' := [(e, .inr (0, [.int (nI n), .int 0, .ref ea, .ref eb, .ref ec, .ref ed])), (ea, .inl (E.2.1 7, 4, .inr (.inr (.inr (.inr efi))))), (eb, .inl (E.2.1 1, 4, .inl efb)), (ec, .inl (E.2.1 1, 4, .inl efc)), (ed, .inl (E.2.1 1, 16, .inl efd))]) C fp_X0_31 0 rfl rfl rfl rfl rfl dX0_begin_7 ?_
  refine ww_iconst (v := 0) C dX0_begin_10 rfl ?_
  refine ww_istore_n (lv' := [(2, .int 0), (0, .ref e), (1, .int (nI n))]) C dX0_begin_11 rfl rfl rfl ?_
  have loop_12 : ∀ (fu : Nat) (i1 : Nat) (q1 : Nat → Option Nat) (f1 : Nat → Int32) (f2 : Nat → Int32) (T1 : Nat → Option SVal), (i1 ≤ 4) → (SYT E ro 4 q1 T1) → (EZ i1 q1 f1 f2) → 4 - i1 < fu → WW X 3 E 12 [(2, .int (nI i1)), (0, .ref e), (1, .int (nI n))] [] [(e, .inr (0, [.int (nI n), .int 0, .ref ea, .ref eb, .ref ec, .ref ed])), (ea, .inl (E.2.1 7, 4, .inr (.inr (.inr (.inr q1))))), (eb, .inl (E.2.1 1, 4, .inl f1)), (ec, .inl (E.2.1 1, 4, .inl f2)), (ed, .inl (E.2.1 1, 16, .inl efd))] 0 0 := by
    intro fu
    induction fu with
    | zero => intro i1 q1 f1 f2 T1 hi1 hq1 hez hmeas; exact absurd hmeas (Nat.not_lt_zero _)
    | succ fu ih_12 =>
      intro i1 q1 f1 f2 T1 hi1 hq1 hez hmeas
      refine ww_iload_n C dX0_begin_12 0 rfl rfl ?_
      refine ww_iconst (v := 4) C dX0_begin_13 rfl ?_
      refine ww_icmp_ge (tgt := 44) C dX0_begin_14 (by decide) (fun c_1 => ?_) (fun c_1 => ?_)
      · have zc_1 : ((i1 : Nat) : Int) ≥ 4 := i_le rfl (nI_toInt (n := i1) (by omega)) c_1
        refine ww_iconst (v := 0) C dX0_begin_44 rfl ?_
        refine ww_istore_n (lv' := [(2, .int 0), (0, .ref e), (1, .int (nI n))]) C dX0_begin_45 rfl rfl rfl ?_
        have loop_46 : ∀ (fu : Nat) (i2 : Nat) (f3 : Nat → Int32), (i2 ≤ 16) → (Z0x i2 f3) → 16 - i2 < fu → WW X 3 E 46 [(2, .int (nI i2)), (0, .ref e), (1, .int (nI n))] [] [(e, .inr (0, [.int (nI n), .int 0, .ref ea, .ref eb, .ref ec, .ref ed])), (ea, .inl (E.2.1 7, 4, .inr (.inr (.inr (.inr q1))))), (eb, .inl (E.2.1 1, 4, .inl f1)), (ec, .inl (E.2.1 1, 4, .inl f2)), (ed, .inl (E.2.1 1, 16, .inl f3))] 0 0 := by
          intro fu
          induction fu with
          | zero => intro i2 f3 hi2 hz6 hmeas; exact absurd hmeas (Nat.not_lt_zero _)
          | succ fu ih_46 =>
            intro i2 f3 hi2 hz6 hmeas
            refine ww_iload_n C dX0_begin_46 0 rfl rfl ?_
            refine ww_aload_n C dX0_begin_47 1 rfl rfl ?_
            refine ww_get C fg_X0_24 0 rfl rfl dX0_begin_48 ?_
            refine ww_alen (v := 16) (t0 := 1) C 4 rfl rfl rfl dX0_begin_51 ?_
            refine ww_icmp_ge (tgt := 68) C dX0_begin_52 (by decide) (fun c_2 => ?_) (fun c_2 => ?_)
            · have zc_2 : ((i2 : Nat) : Int) ≥ 16 := i_le rfl (nI_toInt (n := i2) (by omega)) c_2
              exact ww_vret (u := [(e, .inr (0, [.int (nI n), .int 0, .ref ea, .ref eb, .ref ec, .ref ed])), (ea, .inl (E.2.1 7, 4, .inr (.inr (.inr (.inr q1))))), (eb, .inl (E.2.1 1, 4, .inl f1)), (ec, .inl (E.2.1 1, 4, .inl f2)), (ed, .inl (E.2.1 1, 16, .inl f3))]) C hT [0, 1, 2, 3, 4] rfl rfl rfl rfl dX0_begin_68 (⟨q1, f1, f2, f3, T1, rfl, hq1, (by rw [show (4 : Nat) = i1 by omega]; exact hez), (by rw [show (16 : Nat) = i2 by omega]; exact hz6), (EZ.t hq1 (by rw [show (4 : Nat) = i1 by omega]; exact hez))⟩)
            · have zc_2 : ((i2 : Nat) : Int) < 16 := i_nle rfl (nI_toInt (n := i2) (by omega)) c_2
              refine ww_aload_n C dX0_begin_55 1 rfl rfl ?_
              refine ww_get C fg_X0_24 0 rfl rfl dX0_begin_56 ?_
              refine ww_iload_n C dX0_begin_59 0 rfl rfl ?_
              refine ww_iconst (v := 0) C dX0_begin_60 rfl ?_
              obtain ⟨f_3, ef_3⟩ : ∃ z : Nat → Int32, upd f3 i2 0 = z := ⟨_, rfl⟩
              refine ww_iast (ws' := [(e, .inr (0, [.int (nI n), .int 0, .ref ea, .ref eb, .ref ec, .ref ed])), (ea, .inl (E.2.1 7, 4, .inr (.inr (.inr (.inr q1))))), (eb, .inl (E.2.1 1, 4, .inl f1)), (ec, .inl (E.2.1 1, 4, .inl f2)), (ed, .inl (E.2.1 1, 16, .inl f_3))]) C 4 rfl (vp_in_nI (by omega) (by omega)) (ldn2 (by omega) ef_3) rfl dX0_begin_61 ?_
              refine ww_iinc (j := 0) (v := (nI (i2 + 1))) (lv' := [(2, .int (nI (i2 + 1))), (0, .ref e), (1, .int (nI n))]) C dX0_begin_62 rfl (nI_add i2 1) rfl rfl ?_
              refine ww_goto (tgt := 46) C dX0_begin_65 (by decide) ?_
              exact ww_lv [0, 1, 2] rfl (ww_sub [0, 1, 2, 3, 4] rfl rfl (ih_46 (i2 + 1) f_3 (by omega) (Z0x.ext hz6 ef_3) (by omega)))
        exact ww_lv [0, 1, 2] rfl (ww_sub [0, 1, 2, 3, 4] rfl rfl (loop_46 _ 0 efd (by omega) Z0x.nil (Nat.lt_succ_self _)))
      · have zc_1 : ((i1 : Nat) : Int) < 4 := i_nle rfl (nI_toInt (n := i1) (by omega)) c_1
        refine ww_aload_n C dX0_begin_17 1 rfl rfl ?_
        refine ww_get C fg_X0_11 0 rfl rfl dX0_begin_18 ?_
        refine ww_iload_n C dX0_begin_21 0 rfl rfl ?_
        refine ww_null C dX0_begin_22 ?_
        obtain ⟨f_4, ef_4⟩ : ∃ z : Nat → Option Nat, va_up q1 i1 none = z := ⟨_, rfl⟩
        refine ww_astN (t0 := 7) (ws' := [(e, .inr (0, [.int (nI n), .int 0, .ref ea, .ref eb, .ref ec, .ref ed])), (ea, .inl (E.2.1 7, 4, .inr (.inr (.inr (.inr f_4))))), (eb, .inl (E.2.1 1, 4, .inl f1)), (ec, .inl (E.2.1 1, 4, .inl f2)), (ed, .inl (E.2.1 1, 16, .inl efd))]) C 1 rfl rfl (vp_in_nI (by omega) (by omega)) (ldn2 (by omega) ef_4) rfl dX0_begin_23 ?_
        refine ww_aload_n C dX0_begin_24 1 rfl rfl ?_
        refine ww_get C fg_X0_17 0 rfl rfl dX0_begin_25 ?_
        refine ww_iload_n C dX0_begin_28 0 rfl rfl ?_
        refine ww_iconst (v := 0) C dX0_begin_29 rfl ?_
        obtain ⟨f_5, ef_5⟩ : ∃ z : Nat → Int32, upd f1 i1 0 = z := ⟨_, rfl⟩
        refine ww_iast (ws' := [(e, .inr (0, [.int (nI n), .int 0, .ref ea, .ref eb, .ref ec, .ref ed])), (ea, .inl (E.2.1 7, 4, .inr (.inr (.inr (.inr f_4))))), (eb, .inl (E.2.1 1, 4, .inl f_5)), (ec, .inl (E.2.1 1, 4, .inl f2)), (ed, .inl (E.2.1 1, 16, .inl efd))]) C 2 rfl (vp_in_nI (by omega) (by omega)) (ldn2 (by omega) ef_5) rfl dX0_begin_30 ?_
        refine ww_aload_n C dX0_begin_31 1 rfl rfl ?_
        refine ww_get C fg_X0_21 0 rfl rfl dX0_begin_32 ?_
        refine ww_iload_n C dX0_begin_35 0 rfl rfl ?_
        refine ww_iconst (v := 0) C dX0_begin_36 rfl ?_
        obtain ⟨f_6, ef_6⟩ : ∃ z : Nat → Int32, upd f2 i1 0 = z := ⟨_, rfl⟩
        refine ww_iast (ws' := [(e, .inr (0, [.int (nI n), .int 0, .ref ea, .ref eb, .ref ec, .ref ed])), (ea, .inl (E.2.1 7, 4, .inr (.inr (.inr (.inr f_4))))), (eb, .inl (E.2.1 1, 4, .inl f_5)), (ec, .inl (E.2.1 1, 4, .inl f_6)), (ed, .inl (E.2.1 1, 16, .inl efd))]) C 3 rfl (vp_in_nI (by omega) (by omega)) (ldn2 (by omega) ef_6) rfl dX0_begin_37 ?_
        refine ww_iinc (j := 0) (v := (nI (i1 + 1))) (lv' := [(2, .int (nI (i1 + 1))), (0, .ref e), (1, .int (nI n))]) C dX0_begin_38 rfl (nI_add i1 1) rfl rfl ?_
        refine ww_goto (tgt := 12) C dX0_begin_41 (by decide) ?_
        exact ww_lv [0, 1, 2] rfl (ww_sub [0, 1, 2, 3, 4] rfl rfl (ih_12 (i1 + 1) f_4 f_5 f_6 (va_up T1 i1 none) (by omega) (SYT.none hq1 ef_4) (EZ.ext hez ef_4 ef_5 ef_6) (by omega)))
  exact ww_lv [0, 1, 2] rfl (ww_sub [0, 1, 2, 3, 4] rfl rfl (loop_12 _ 0 efi efb efc eT (by omega) hefi EZ.nil (Nat.lt_succ_self _)))
theorem dX0_hold_0 : decode cX0_hold 0 = .ok (.aload_n 0, 1) := by decide +kernel
theorem dX0_hold_1 : decode cX0_hold 1 = .ok (.getfield 24, 3) := by decide +kernel
theorem dX0_hold_4 : decode cX0_hold 4 = .ok (.iload_n 1, 1) := by decide +kernel
theorem dX0_hold_5 : decode cX0_hold 5 = .ok (.iconst 4, 1) := by decide +kernel
theorem dX0_hold_6 : decode cX0_hold 6 = .ok (.imul, 1) := by decide +kernel
theorem dX0_hold_7 : decode cX0_hold 7 = .ok (.iload_n 2, 1) := by decide +kernel
theorem dX0_hold_8 : decode cX0_hold 8 = .ok (.iadd, 1) := by decide +kernel
theorem dX0_hold_9 : decode cX0_hold 9 = .ok (.iaload, 1) := by decide +kernel
theorem dX0_hold_10 : decode cX0_hold 10 = .ok (.istore 5, 2) := by decide +kernel
theorem dX0_hold_12 : decode cX0_hold 12 = .ok (.aload_n 0, 1) := by decide +kernel
theorem dX0_hold_13 : decode cX0_hold 13 = .ok (.getfield 24, 3) := by decide +kernel
theorem dX0_hold_16 : decode cX0_hold 16 = .ok (.iload_n 1, 1) := by decide +kernel
theorem dX0_hold_17 : decode cX0_hold 17 = .ok (.iconst 4, 1) := by decide +kernel
theorem dX0_hold_18 : decode cX0_hold 18 = .ok (.imul, 1) := by decide +kernel
theorem dX0_hold_19 : decode cX0_hold 19 = .ok (.iload_n 2, 1) := by decide +kernel
theorem dX0_hold_20 : decode cX0_hold 20 = .ok (.iadd, 1) := by decide +kernel
theorem dX0_hold_21 : decode cX0_hold 21 = .ok (.iload 4, 2) := by decide +kernel
theorem dX0_hold_23 : decode cX0_hold 23 = .ok (.ifCond .eq 12, 3) := by decide +kernel
theorem dX0_hold_35 : decode cX0_hold 35 = .ok (.iload 5, 2) := by decide +kernel
theorem dX0_hold_37 : decode cX0_hold 37 = .ok (.iconst 1, 1) := by decide +kernel
theorem dX0_hold_38 : decode cX0_hold 38 = .ok (.iload_n 3, 1) := by decide +kernel
theorem dX0_hold_39 : decode cX0_hold 39 = .ok (.ishl, 1) := by decide +kernel
theorem dX0_hold_40 : decode cX0_hold 40 = .ok (.iconst (-1), 1) := by decide +kernel
theorem dX0_hold_41 : decode cX0_hold 41 = .ok (.ixor, 1) := by decide +kernel
theorem dX0_hold_42 : decode cX0_hold 42 = .ok (.iand, 1) := by decide +kernel
theorem dX0_hold_43 : decode cX0_hold 43 = .ok (.iastore, 1) := by decide +kernel
theorem dX0_hold_44 : decode cX0_hold 44 = .ok (.iload 5, 2) := by decide +kernel
theorem dX0_hold_46 : decode cX0_hold 46 = .ok (.iload_n 3, 1) := by decide +kernel
theorem dX0_hold_47 : decode cX0_hold 47 = .ok (.ishr, 1) := by decide +kernel
theorem dX0_hold_48 : decode cX0_hold 48 = .ok (.iconst 1, 1) := by decide +kernel
theorem dX0_hold_49 : decode cX0_hold 49 = .ok (.iand, 1) := by decide +kernel
theorem dX0_hold_50 : decode cX0_hold 50 = .ok (.ireturn, 1) := by decide +kernel
theorem dX0_hold_26 : decode cX0_hold 26 = .ok (.iload 5, 2) := by decide +kernel
theorem dX0_hold_28 : decode cX0_hold 28 = .ok (.iconst 1, 1) := by decide +kernel
theorem dX0_hold_29 : decode cX0_hold 29 = .ok (.iload_n 3, 1) := by decide +kernel
theorem dX0_hold_30 : decode cX0_hold 30 = .ok (.ishl, 1) := by decide +kernel
theorem dX0_hold_31 : decode cX0_hold 31 = .ok (.ior, 1) := by decide +kernel
theorem dX0_hold_32 : decode cX0_hold 32 = .ok (.goto 11, 3) := by decide +kernel
set_option maxRecDepth 100000 in
set_option maxHeartbeats 4000000 in
theorem e_hold (l : Launch) (E : EV) (ro : va_W) (e : Nat) (k : Nat) (i : Nat) (j : Int32) (is : Int32) (ecs : Nat) (erc : Nat) (ea : Nat) (eb : Nat) (ec : Nat) (ed : Nat) (efi : Nat → Option Nat) (efb : Nat → Int32) (efc : Nat → Int32) (efd : Nat → Int32) (hk : k < 4) (hi : i < 4) : CT l yX0_hold (Cond.code yX0_hold cX0_hold 6 (some .int) :: TB) ({ frames := 0, cells := 0, slots := 0, locals := 0 }) E ro [.ref e, .int (nI k), .int (nI i), .int j, .int is] [(e, .inr (0, [.int (nI ecs), .int (nI erc), .ref ea, .ref eb, .ref ec, .ref ed])), (ea, .inl (E.2.1 7, 4, .inr (.inr (.inr (.inr efi))))), (eb, .inl (E.2.1 1, 4, .inl efb)), (ec, .inl (E.2.1 1, 4, .inl efc)), (ed, .inl (E.2.1 1, 16, .inl efd))] (Qi E (fun (rz : Int32) uz => (∃ (fd2 : Nat → Int32), uz = [(e, .inr (0, [.int (nI ecs), .int (nI erc), .ref ea, .ref eb, .ref ec, .ref ed])), (ea, .inl (E.2.1 7, 4, .inr (.inr (.inr (.inr efi))))), (eb, .inl (E.2.1 1, 4, .inl efb)), (ec, .inl (E.2.1 1, 4, .inl efc)), (ed, .inl (E.2.1 1, 16, .inl fd2))] ∧ (upd efd (k * 4 + i) (hbt (efd (k * 4 + i)) j is) = fd2) ∧ (rz = efd (k * 4 + i) >>> (j &&& 31) &&& 1)))) 0 0 := by
  refine ct_of rfl rfl ?_
  intro X C hT hin hro
  show WW X 6 E 0 [(0, .ref e), (1, .int (nI k)), (2, .int (nI i)), (3, .int j), (4, .int is)] [] [(e, .inr (0, [.int (nI ecs), .int (nI erc), .ref ea, .ref eb, .ref ec, .ref ed])), (ea, .inl (E.2.1 7, 4, .inr (.inr (.inr (.inr efi))))), (eb, .inl (E.2.1 1, 4, .inl efb)), (ec, .inl (E.2.1 1, 4, .inl efc)), (ed, .inl (E.2.1 1, 16, .inl efd))] 0 0
  refine ww_aload_n C dX0_hold_0 0 rfl rfl ?_
  refine ww_get C fg_X0_24 0 rfl rfl dX0_hold_1 ?_
  refine ww_iload_n C dX0_hold_4 1 rfl rfl ?_
  refine ww_iconst (v := 4) C dX0_hold_5 rfl ?_
  refine ww_imul (v := (nI (k * 4))) C dX0_hold_6 (pk_mul k 4) ?_
  refine ww_iload_n C dX0_hold_7 2 rfl rfl ?_
  refine ww_iadd (v := (nI ((k * 4) + i))) C dX0_hold_8 (nI_add (k * 4) i) ?_
  obtain ⟨x_1, ex_1⟩ : ∃ z : Int32, efd ((k * 4) + i) = z := ⟨_, rfl⟩
  refine ww_iald (v := x_1) C 4 rfl (vp_in_nI (by omega) (by omega)) (ldn (by omega) ex_1) dX0_hold_9 ?_
  refine ww_istore (lv' := [(5, .int x_1), (0, .ref e), (1, .int (nI k)), (2, .int (nI i)), (3, .int j), (4, .int is)]) C dX0_hold_10 rfl rfl ?_
  refine ww_aload_n C dX0_hold_12 1 rfl rfl ?_
  refine ww_get C fg_X0_24 0 rfl rfl dX0_hold_13 ?_
  refine ww_iload_n C dX0_hold_16 2 rfl rfl ?_
  refine ww_iconst (v := 4) C dX0_hold_17 rfl ?_
  refine ww_imul (v := (nI (k * 4))) C dX0_hold_18 (pk_mul k 4) ?_
  refine ww_iload_n C dX0_hold_19 3 rfl rfl ?_
  refine ww_iadd (v := (nI ((k * 4) + i))) C dX0_hold_20 (nI_add (k * 4) i) ?_
  refine ww_iload C dX0_hold_21 5 rfl ?_
  refine ww_if_eq (tgt := 35) C dX0_hold_23 (by decide) (fun c_2 => ?_) (fun c_2 => ?_)
  · have zc_2 : is.toInt = 0 := i_eq rfl rfl c_2
    refine ww_iload C dX0_hold_35 0 rfl ?_
    refine ww_iconst (v := 1) C dX0_hold_37 rfl ?_
    refine ww_iload_n C dX0_hold_38 4 rfl rfl ?_
    obtain ⟨x_3, ex_3⟩ : ∃ z : Int32, (1 : Int32) <<< (j &&& 31) = z := ⟨_, rfl⟩
    refine ww_ishl (v := x_3) C dX0_hold_39 ex_3 ?_
    refine ww_iconst (v := (-1)) C dX0_hold_40 rfl ?_
    obtain ⟨x_4, ex_4⟩ : ∃ z : Int32, x_3 ^^^ ((-1) : Int32) = z := ⟨_, rfl⟩
    refine ww_ixor (v := x_4) C dX0_hold_41 ex_4 ?_
    obtain ⟨x_5, ex_5⟩ : ∃ z : Int32, x_1 &&& x_4 = z := ⟨_, rfl⟩
    refine ww_iand (v := x_5) C dX0_hold_42 ex_5 ?_
    obtain ⟨f_6, ef_6⟩ : ∃ z : Nat → Int32, upd efd ((k * 4) + i) x_5 = z := ⟨_, rfl⟩
    refine ww_iast (ws' := [(e, .inr (0, [.int (nI ecs), .int (nI erc), .ref ea, .ref eb, .ref ec, .ref ed])), (ea, .inl (E.2.1 7, 4, .inr (.inr (.inr (.inr efi))))), (eb, .inl (E.2.1 1, 4, .inl efb)), (ec, .inl (E.2.1 1, 4, .inl efc)), (ed, .inl (E.2.1 1, 16, .inl f_6))]) C 4 rfl (vp_in_nI (by omega) (by omega)) (ldn2 (by omega) ef_6) rfl dX0_hold_43 ?_
    refine ww_iload C dX0_hold_44 0 rfl ?_
    refine ww_iload_n C dX0_hold_46 4 rfl rfl ?_
    obtain ⟨x_7, ex_7⟩ : ∃ z : Int32, x_1 >>> (j &&& 31) = z := ⟨_, rfl⟩
    refine ww_ishr (v := x_7) C dX0_hold_47 ex_7 ?_
    refine ww_iconst (v := 1) C dX0_hold_48 rfl ?_
    obtain ⟨j_8, hj_8, ej_8⟩ := pk_andE x_7 (m := 1) 1 rfl
    refine ww_iand (v := (nI j_8)) C dX0_hold_49 ej_8 ?_
    exact ww_iret (u := [(e, .inr (0, [.int (nI ecs), .int (nI erc), .ref ea, .ref eb, .ref ec, .ref ed])), (ea, .inl (E.2.1 7, 4, .inr (.inr (.inr (.inr efi))))), (eb, .inl (E.2.1 1, 4, .inl efb)), (ec, .inl (E.2.1 1, 4, .inl efc)), (ed, .inl (E.2.1 1, 16, .inl f_6))]) C hT [0, 1, 2, 3, 4] rfl rfl rfl rfl dX0_hold_50 (⟨f_6, rfl, (by unfold hbt; rw [if_neg (fun h9 => h9 (by assumption)), ex_1, ex_3, ex_4, ex_5]; exact ef_6), (by rw [ex_1, ex_7, ej_8])⟩)
  · have zc_2 : is.toInt ≠ 0 := i_ne rfl rfl c_2
    refine ww_iload C dX0_hold_26 0 rfl ?_
    refine ww_iconst (v := 1) C dX0_hold_28 rfl ?_
    refine ww_iload_n C dX0_hold_29 4 rfl rfl ?_
    obtain ⟨x_9, ex_9⟩ : ∃ z : Int32, (1 : Int32) <<< (j &&& 31) = z := ⟨_, rfl⟩
    refine ww_ishl (v := x_9) C dX0_hold_30 ex_9 ?_
    obtain ⟨x_10, ex_10⟩ : ∃ z : Int32, x_1 ||| x_9 = z := ⟨_, rfl⟩
    refine ww_ior (v := x_10) C dX0_hold_31 ex_10 ?_
    refine ww_goto (tgt := 43) C dX0_hold_32 (by decide) ?_
    obtain ⟨f_11, ef_11⟩ : ∃ z : Nat → Int32, upd efd ((k * 4) + i) x_10 = z := ⟨_, rfl⟩
    refine ww_iast (ws' := [(e, .inr (0, [.int (nI ecs), .int (nI erc), .ref ea, .ref eb, .ref ec, .ref ed])), (ea, .inl (E.2.1 7, 4, .inr (.inr (.inr (.inr efi))))), (eb, .inl (E.2.1 1, 4, .inl efb)), (ec, .inl (E.2.1 1, 4, .inl efc)), (ed, .inl (E.2.1 1, 16, .inl f_11))]) C 4 rfl (vp_in_nI (by omega) (by omega)) (ldn2 (by omega) ef_11) rfl dX0_hold_43 ?_
    refine ww_iload C dX0_hold_44 0 rfl ?_
    refine ww_iload_n C dX0_hold_46 4 rfl rfl ?_
    obtain ⟨x_12, ex_12⟩ : ∃ z : Int32, x_1 >>> (j &&& 31) = z := ⟨_, rfl⟩
    refine ww_ishr (v := x_12) C dX0_hold_47 ex_12 ?_
    refine ww_iconst (v := 1) C dX0_hold_48 rfl ?_
    obtain ⟨j_13, hj_13, ej_13⟩ := pk_andE x_12 (m := 1) 1 rfl
    refine ww_iand (v := (nI j_13)) C dX0_hold_49 ej_13 ?_
    exact ww_iret (u := [(e, .inr (0, [.int (nI ecs), .int (nI erc), .ref ea, .ref eb, .ref ec, .ref ed])), (ea, .inl (E.2.1 7, 4, .inr (.inr (.inr (.inr efi))))), (eb, .inl (E.2.1 1, 4, .inl efb)), (ec, .inl (E.2.1 1, 4, .inl efc)), (ed, .inl (E.2.1 1, 16, .inl f_11))]) C hT [0, 1, 2, 3, 4] rfl rfl rfl rfl dX0_hold_50 (⟨f_11, rfl, (by unfold hbt; rw [if_pos (by assumption), ex_1, ex_9, ex_10]; exact ef_11), (by rw [ex_1, ex_12, ej_13])⟩)
theorem dX0_sayAloud_0 : decode cX0_sayAloud 0 = .ok (.aload_n 0, 1) := by decide +kernel
theorem dX0_sayAloud_1 : decode cX0_sayAloud 1 = .ok (.iconst 1, 1) := by decide +kernel
theorem dX0_sayAloud_2 : decode cX0_sayAloud 2 = .ok (.invokevirtual 34, 3) := by decide +kernel
theorem wl_X0_34 : Cond.methodLink RX0 34 yX0_begin ∈ TB := tbm (tq4 (List.mem_of_getElem? (i := 95) (by decide +kernel))) (by decide +kernel)
theorem wc_X0_begin : Cond.code yX0_begin cX0_begin 3 none ∈ TB := tbm (tq4 (List.mem_of_getElem? (i := 58) (rfl))) (by decide +kernel)
theorem wn_X0 : Cond.initialized RX0 ∈ TB := tbm (tq1 (List.mem_of_getElem? (i := 6) (by decide +kernel))) (by decide +kernel)
theorem wi_X0_begin : Cond.instanceMethod yX0_begin ∈ TB := tbm (tq4 (List.mem_of_getElem? (i := 56) (by decide +kernel))) (by decide +kernel)
theorem ws_X0_begin : Cond.selects RX0 yX0_begin yX0_begin ∈ TB := tbm (tq4 (List.mem_of_getElem? (i := 57) (by decide +kernel))) (by decide +kernel)
theorem mi_X0_begin : MI yX0_begin cX0_begin 3 none 1 := ⟨wc_X0_begin, wn_X0, ⟨by decide +kernel, by decide +kernel, by decide +kernel⟩, wi_X0_begin, ws_X0_begin⟩
theorem dX0_sayAloud_5 : decode cX0_sayAloud 5 = .ok (.aload_n 0, 1) := by decide +kernel
theorem dX0_sayAloud_6 : decode cX0_sayAloud 6 = .ok (.getfield 11, 3) := by decide +kernel
theorem dX0_sayAloud_9 : decode cX0_sayAloud 9 = .ok (.iconst 0, 1) := by decide +kernel
theorem dX0_sayAloud_10 : decode cX0_sayAloud 10 = .ok (.aload_n 1, 1) := by decide +kernel
theorem dX0_sayAloud_11 : decode cX0_sayAloud 11 = .ok (.aastore, 1) := by decide +kernel
theorem dX0_sayAloud_12 : decode cX0_sayAloud 12 = .ok (.iconst 0, 1) := by decide +kernel
theorem dX0_sayAloud_13 : decode cX0_sayAloud 13 = .ok (.istore_n 2, 1) := by decide +kernel
theorem dX0_sayAloud_14 : decode cX0_sayAloud 14 = .ok (.iload_n 2, 1) := by decide +kernel
theorem dX0_sayAloud_15 : decode cX0_sayAloud 15 = .ok (.iconst 4, 1) := by decide +kernel
theorem dX0_sayAloud_16 : decode cX0_sayAloud 16 = .ok (.if_icmp .ge 18, 3) := by decide +kernel
theorem dX0_sayAloud_34 : decode cX0_sayAloud 34 = .ok (.return_, 1) := by decide +kernel
theorem dX0_sayAloud_19 : decode cX0_sayAloud 19 = .ok (.aload_n 0, 1) := by decide +kernel
theorem dX0_sayAloud_20 : decode cX0_sayAloud 20 = .ok (.iload_n 2, 1) := by decide +kernel
theorem dX0_sayAloud_21 : decode cX0_sayAloud 21 = .ok (.iconst 0, 1) := by decide +kernel
theorem dX0_sayAloud_22 : decode cX0_sayAloud 22 = .ok (.iconst 0, 1) := by decide +kernel
theorem dX0_sayAloud_23 : decode cX0_sayAloud 23 = .ok (.iconst 1, 1) := by decide +kernel
theorem dX0_sayAloud_24 : decode cX0_sayAloud 24 = .ok (.invokevirtual 38, 3) := by decide +kernel
theorem wl_X0_38 : Cond.methodLink RX0 38 yX0_hold ∈ TB := tbm (tq4 (List.mem_of_getElem? (i := 96) (by decide +kernel))) (by decide +kernel)
theorem wc_X0_hold : Cond.code yX0_hold cX0_hold 6 (some .int) ∈ TB := tbm (tq4 (List.mem_of_getElem? (i := 82) (rfl))) (by decide +kernel)
theorem wi_X0_hold : Cond.instanceMethod yX0_hold ∈ TB := tbm (tq4 (List.mem_of_getElem? (i := 80) (by decide +kernel))) (by decide +kernel)
theorem ws_X0_hold : Cond.selects RX0 yX0_hold yX0_hold ∈ TB := tbm (tq4 (List.mem_of_getElem? (i := 81) (by decide +kernel))) (by decide +kernel)
theorem mi_X0_hold : MI yX0_hold cX0_hold 6 (some .int) 4 := ⟨wc_X0_hold, wn_X0, ⟨by decide +kernel, by decide +kernel, by decide +kernel⟩, wi_X0_hold, ws_X0_hold⟩
theorem dX0_sayAloud_27 : decode cX0_sayAloud 27 = .ok (.pop, 1) := by decide +kernel
theorem dX0_sayAloud_28 : decode cX0_sayAloud 28 = .ok (.iinc 2 1, 3) := by decide +kernel
theorem dX0_sayAloud_31 : decode cX0_sayAloud 31 = .ok (.goto (-17), 3) := by decide +kernel
set_option maxRecDepth 100000 in
set_option maxHeartbeats 4000000 in
theorem e_sayAloud (l : Launch) (E : EV) (ro : va_W) (e : Nat) (sa : Nat) (ecs : Nat) (erc : Nat) (ea : Nat) (eb : Nat) (ec : Nat) (ed : Nat) (efi : Nat → Option Nat) (efb : Nat → Int32) (efc : Nat → Int32) (efd : Nat → Int32) (eT : Nat → Option SVal) (SS : SVal) (hecs : ecs ≤ 4) (herc : erc ≤ 3) (hefi : SYT E ro 4 efi eT) (hsa : SYv E ro sa SS) : CT l yX0_sayAloud (Cond.code yX0_sayAloud cX0_sayAloud 3 none :: TB) ({ frames := 1, cells := 0, slots := 0, locals := 25 }) E ro [.ref e, .ref sa] [(e, .inr (0, [.int (nI ecs), .int (nI erc), .ref ea, .ref eb, .ref ec, .ref ed])), (ea, .inl (E.2.1 7, 4, .inr (.inr (.inr (.inr efi))))), (eb, .inl (E.2.1 1, 4, .inl efb)), (ec, .inl (E.2.1 1, 4, .inl efc)), (ed, .inl (E.2.1 1, 16, .inl efd))] (Qv E (fun uz => (∃ (fi2 : Nat → Option Nat) (fb2 : Nat → Int32) (fc2 : Nat → Int32) (fd2 : Nat → Int32) (T2 : Nat → Option SVal), uz = [(e, .inr (0, [.int 1, .int 0, .ref ea, .ref eb, .ref ec, .ref ed])), (ea, .inl (E.2.1 7, 4, .inr (.inr (.inr (.inr fi2))))), (eb, .inl (E.2.1 1, 4, .inl fb2)), (ec, .inl (E.2.1 1, 4, .inl fc2)), (ed, .inl (E.2.1 1, 16, .inl fd2))] ∧ (SYT E ro 4 fi2 T2) ∧ (∀ z, z < 4 → T2 z = if z = 0 then some SS else none) ∧ (∀ z, z < 4 → fb2 z = 0 ∧ fc2 z = 0) ∧ (SAx 4 fd2)))) 0 0 := by
  refine ct_of rfl rfl ?_
  intro X C hT hin hro
  show WW X 3 E 0 [(0, .ref e), (1, .ref sa)] [] [(e, .inr (0, [.int (nI ecs), .int (nI erc), .ref ea, .ref eb, .ref ec, .ref ed])), (ea, .inl (E.2.1 7, 4, .inr (.inr (.inr (.inr efi))))), (eb, .inl (E.2.1 1, 4, .inl efb)), (ec, .inl (E.2.1 1, 4, .inl efc)), (ed, .inl (E.2.1 1, 16, .inl efd))] 0 0
  refine ww_aload_n C dX0_sayAloud_0 0 rfl rfl ?_
  refine ww_iconst (v := 1) C dX0_sayAloud_1 rfl ?_
  refine ww_cv (wr := []) (k' := 0) (n' := 0) C (run_V (As := [.int 1]) (rest := []) C (e_begin X.2.1 E ro e 1 ecs erc ea eb ec ed efi efb efc efd eT (by omega) (by omega) hefi (by omega)) mi_X0_begin wl_X0_34 rfl 0 0 rfl rfl rfl rfl rfl dX0_sayAloud_2) (roK hro) [0, 1, 2, 3, 4] [] rfl rfl rfl rfl (fun uz hw => ?_)
  refine ex5 hw ?_
  clear hw
  intro fi2_2 fb2_3 fc2_4 fd2_5 T2_6 hw
  refine an4 hw ?_
  clear hw
  intro he_11 h_7 h_8 h_9 hw
  have h_10 := hw
  clear hw
  subst he_11
  refine ww_eq (ws' := [(e, .inr (0, [.int 1, .int 0, .ref ea, .ref eb, .ref ec, .ref ed])), (ea, .inl (E.2.1 7, 4, .inr (.inr (.inr (.inr fi2_2))))), (eb, .inl (E.2.1 1, 4, .inl fb2_3)), (ec, .inl (E.2.1 1, 4, .inl fc2_4)), (ed, .inl (E.2.1 1, 16, .inl fd2_5))]) ?_ rfl rfl rfl
  refine ww_aload_n C dX0_sayAloud_5 0 rfl rfl ?_
  refine ww_get C fg_X0_11 0 rfl rfl dX0_sayAloud_6 ?_
  refine ww_iconst (v := 0) C dX0_sayAloud_9 rfl ?_
  refine ww_aload_n C dX0_sayAloud_10 1 rfl rfl ?_
  obtain ⟨f_12, ef_12⟩ : ∃ z : Nat → Option Nat, va_up fi2_2 0 (some sa) = z := ⟨_, rfl⟩
  refine ww_astS (t0 := 7) (ws' := [(e, .inr (0, [.int 1, .int 0, .ref ea, .ref eb, .ref ec, .ref ed])), (ea, .inl (E.2.1 7, 4, .inr (.inr (.inr (.inr f_12))))), (eb, .inl (E.2.1 1, 4, .inl fb2_3)), (ec, .inl (E.2.1 1, 4, .inl fc2_4)), (ed, .inl (E.2.1 1, 16, .inl fd2_5))]) C hro 1 rfl rfl (SYg.o (SYv.g hsa)) (vin rfl) ef_12 rfl dX0_sayAloud_11 ?_
  refine ww_iconst (v := 0) C dX0_sayAloud_12 rfl ?_
  refine ww_istore_n (lv' := [(2, .int 0), (0, .ref e), (1, .ref sa)]) C dX0_sayAloud_13 rfl rfl rfl ?_
  have loop_14 : ∀ (fu : Nat) (i1 : Nat) (f1 : Nat → Int32), (i1 ≤ 4) → (SAx i1 f1) → 4 - i1 < fu → WW X 3 E 14 [(2, .int (nI i1)), (0, .ref e), (1, .ref sa)] [] [(e, .inr (0, [.int 1, .int 0, .ref ea, .ref eb, .ref ec, .ref ed])), (ea, .inl (E.2.1 7, 4, .inr (.inr (.inr (.inr f_12))))), (eb, .inl (E.2.1 1, 4, .inl fb2_3)), (ec, .inl (E.2.1 1, 4, .inl fc2_4)), (ed, .inl (E.2.1 1, 16, .inl f1))] 0 0 := by
    intro fu
    induction fu with
    | zero => intro i1 f1 hi1 hsa1 hmeas; exact absurd hmeas (Nat.not_lt_zero _)
    | succ fu ih_14 =>
      intro i1 f1 hi1 hsa1 hmeas
      refine ww_iload_n C dX0_sayAloud_14 0 rfl rfl ?_
      refine ww_iconst (v := 4) C dX0_sayAloud_15 rfl ?_
      refine ww_icmp_ge (tgt := 34) C dX0_sayAloud_16 (by decide) (fun c_13 => ?_) (fun c_13 => ?_)
      · have zc_13 : ((i1 : Nat) : Int) ≥ 4 := i_le rfl (nI_toInt (n := i1) (by omega)) c_13
        exact ww_vret (u := [(e, .inr (0, [.int 1, .int 0, .ref ea, .ref eb, .ref ec, .ref ed])), (ea, .inl (E.2.1 7, 4, .inr (.inr (.inr (.inr f_12))))), (eb, .inl (E.2.1 1, 4, .inl fb2_3)), (ec, .inl (E.2.1 1, 4, .inl fc2_4)), (ed, .inl (E.2.1 1, 16, .inl f1))]) C hT [0, 1, 2, 3, 4] rfl rfl rfl rfl dX0_sayAloud_34 (⟨f_12, fb2_3, fc2_4, f1, (va_up T2_6 0 (some SS)), rfl, (SYT.some h_7 hsa ef_12), (va_one h_10), (fun c hc => (h_8 c hc).2), (by rw [show (4 : Nat) = i1 by omega]; exact hsa1)⟩)
      · have zc_13 : ((i1 : Nat) : Int) < 4 := i_nle rfl (nI_toInt (n := i1) (by omega)) c_13
        refine ww_aload_n C dX0_sayAloud_19 1 rfl rfl ?_
        refine ww_iload_n C dX0_sayAloud_20 0 rfl rfl ?_
        refine ww_iconst (v := 0) C dX0_sayAloud_21 rfl ?_
        refine ww_iconst (v := 0) C dX0_sayAloud_22 rfl ?_
        refine ww_iconst (v := 1) C dX0_sayAloud_23 rfl ?_
        refine ww_ci (wr := []) (k' := 0) (n' := 0) C (run_V (As := [.int (nI i1), .int 0, .int 0, .int 1]) (rest := []) C (e_hold X.2.1 E ro e i1 0 0 1 1 0 ea eb ec ed f_12 fb2_3 fc2_4 f1 (by omega) (by omega)) mi_X0_hold wl_X0_38 rfl 0 0 rfl rfl rfl rfl rfl dX0_sayAloud_24) (roK hro) [0, 1, 2, 3, 4] [] rfl rfl rfl rfl (fun r_14 uz hw => ?_)
        refine ex1 hw ?_
        clear hw
        intro fd2_15 hw
        refine an2 hw ?_
        clear hw
        intro he_18 h_16 hw
        have h_17 := hw
        clear hw
        subst he_18
        refine ww_eq (ws' := [(e, .inr (0, [.int 1, .int 0, .ref ea, .ref eb, .ref ec, .ref ed])), (ea, .inl (E.2.1 7, 4, .inr (.inr (.inr (.inr f_12))))), (eb, .inl (E.2.1 1, 4, .inl fb2_3)), (ec, .inl (E.2.1 1, 4, .inl fc2_4)), (ed, .inl (E.2.1 1, 16, .inl fd2_15))]) ?_ rfl rfl rfl
        refine ww_pop C dX0_sayAloud_27 rfl ?_
        refine ww_iinc (j := 0) (v := (nI (i1 + 1))) (lv' := [(2, .int (nI (i1 + 1))), (0, .ref e), (1, .ref sa)]) C dX0_sayAloud_28 rfl (nI_add i1 1) rfl rfl ?_
        refine ww_goto (tgt := 14) C dX0_sayAloud_31 (by decide) ?_
        exact ww_lv [0, 1, 2] rfl (ww_sub [0, 1, 2, 3, 4] rfl rfl (ih_14 (i1 + 1) fd2_15 (by omega) (SAx.ext hsa1 (by omega) h_16) (by omega)))
  exact ww_lv [0, 1, 2] rfl (ww_sub [0, 1, 2, 3, 4] rfl rfl (loop_14 _ 0 fd2_5 (by omega) (SAx.nil h_9) (Nat.lt_succ_self _)))
theorem dX0_sayApart_0 : decode cX0_sayApart 0 = .ok (.aload_n 0, 1) := by decide +kernel
theorem dX0_sayApart_1 : decode cX0_sayApart 1 = .ok (.iconst 2, 1) := by decide +kernel
theorem dX0_sayApart_2 : decode cX0_sayApart 2 = .ok (.invokevirtual 34, 3) := by decide +kernel
theorem dX0_sayApart_5 : decode cX0_sayApart 5 = .ok (.aload_n 0, 1) := by decide +kernel
theorem dX0_sayApart_6 : decode cX0_sayApart 6 = .ok (.getfield 11, 3) := by decide +kernel
theorem dX0_sayApart_9 : decode cX0_sayApart 9 = .ok (.iload_n 2, 1) := by decide +kernel
theorem dX0_sayApart_10 : decode cX0_sayApart 10 = .ok (.aload_n 1, 1) := by decide +kernel
theorem dX0_sayApart_11 : decode cX0_sayApart 11 = .ok (.aastore, 1) := by decide +kernel
theorem dX0_sayApart_12 : decode cX0_sayApart 12 = .ok (.iconst 0, 1) := by decide +kernel
theorem dX0_sayApart_13 : decode cX0_sayApart 13 = .ok (.istore 4, 2) := by decide +kernel
theorem dX0_sayApart_15 : decode cX0_sayApart 15 = .ok (.iload 4, 2) := by decide +kernel
theorem dX0_sayApart_17 : decode cX0_sayApart 17 = .ok (.iconst 4, 1) := by decide +kernel
theorem dX0_sayApart_18 : decode cX0_sayApart 18 = .ok (.if_icmp .ge 42, 3) := by decide +kernel
theorem dX0_sayApart_60 : decode cX0_sayApart 60 = .ok (.return_, 1) := by decide +kernel
theorem dX0_sayApart_21 : decode cX0_sayApart 21 = .ok (.aload_n 0, 1) := by decide +kernel
theorem dX0_sayApart_22 : decode cX0_sayApart 22 = .ok (.iload 4, 2) := by decide +kernel
theorem dX0_sayApart_24 : decode cX0_sayApart 24 = .ok (.iconst 0, 1) := by decide +kernel
theorem dX0_sayApart_25 : decode cX0_sayApart 25 = .ok (.iload_n 3, 1) := by decide +kernel
theorem dX0_sayApart_26 : decode cX0_sayApart 26 = .ok (.iload 4, 2) := by decide +kernel
theorem dX0_sayApart_28 : decode cX0_sayApart 28 = .ok (.invokestatic 42, 3) := by decide +kernel
theorem dX0_sayApart_31 : decode cX0_sayApart 31 = .ok (.ifCond .eq 7, 3) := by decide +kernel
theorem dX0_sayApart_34 : decode cX0_sayApart 34 = .ok (.iconst 0, 1) := by decide +kernel
theorem dX0_sayApart_35 : decode cX0_sayApart 35 = .ok (.goto 4, 3) := by decide +kernel
theorem dX0_sayApart_39 : decode cX0_sayApart 39 = .ok (.iconst 1, 1) := by decide +kernel
theorem dX0_sayApart_40 : decode cX0_sayApart 40 = .ok (.invokevirtual 38, 3) := by decide +kernel
theorem dX0_sayApart_43 : decode cX0_sayApart 43 = .ok (.pop, 1) := by decide +kernel
theorem dX0_sayApart_44 : decode cX0_sayApart 44 = .ok (.aload_n 0, 1) := by decide +kernel
theorem dX0_sayApart_45 : decode cX0_sayApart 45 = .ok (.iload 4, 2) := by decide +kernel
theorem dX0_sayApart_47 : decode cX0_sayApart 47 = .ok (.iconst 1, 1) := by decide +kernel
theorem dX0_sayApart_48 : decode cX0_sayApart 48 = .ok (.iconst 1, 1) := by decide +kernel
theorem dX0_sayApart_49 : decode cX0_sayApart 49 = .ok (.iconst 1, 1) := by decide +kernel
theorem dX0_sayApart_50 : decode cX0_sayApart 50 = .ok (.invokevirtual 38, 3) := by decide +kernel
theorem dX0_sayApart_53 : decode cX0_sayApart 53 = .ok (.pop, 1) := by decide +kernel
theorem dX0_sayApart_54 : decode cX0_sayApart 54 = .ok (.iinc 4 1, 3) := by decide +kernel
theorem dX0_sayApart_57 : decode cX0_sayApart 57 = .ok (.goto (-42), 3) := by decide +kernel
theorem dX0_sayApart_38 : decode cX0_sayApart 38 = .ok (.iconst 1, 1) := by decide +kernel
set_option maxRecDepth 100000 in
set_option maxHeartbeats 4000000 in
theorem e_sayApart (l : Launch) (E : EV) (ro : va_W) (e : Nat) (sa : Nat) (c : Nat) (gr : Int32) (ecs : Nat) (erc : Nat) (ea : Nat) (eb : Nat) (ec : Nat) (ed : Nat) (efi : Nat → Option Nat) (efb : Nat → Int32) (efc : Nat → Int32) (efd : Nat → Int32) (eT : Nat → Option SVal) (SS : SVal) (hecs : ecs ≤ 4) (herc : erc ≤ 3) (hefi : SYT E ro 4 efi eT) (hsa : SYv E ro sa SS) (hc : c < 4) : CT l yX0_sayApart (Cond.code yX0_sayApart cX0_sayApart 5 none :: TB) ({ frames := 1, cells := 0, slots := 0, locals := 25 }) E ro [.ref e, .ref sa, .int (nI c), .int gr] [(e, .inr (0, [.int (nI ecs), .int (nI erc), .ref ea, .ref eb, .ref ec, .ref ed])), (ea, .inl (E.2.1 7, 4, .inr (.inr (.inr (.inr efi))))), (eb, .inl (E.2.1 1, 4, .inl efb)), (ec, .inl (E.2.1 1, 4, .inl efc)), (ed, .inl (E.2.1 1, 16, .inl efd))] (Qv E (fun uz => (∃ (fi2 : Nat → Option Nat) (fb2 : Nat → Int32) (fc2 : Nat → Int32) (fd2 : Nat → Int32) (T2 : Nat → Option SVal), uz = [(e, .inr (0, [.int 2, .int 0, .ref ea, .ref eb, .ref ec, .ref ed])), (ea, .inl (E.2.1 7, 4, .inr (.inr (.inr (.inr fi2))))), (eb, .inl (E.2.1 1, 4, .inl fb2)), (ec, .inl (E.2.1 1, 4, .inl fc2)), (ed, .inl (E.2.1 1, 16, .inl fd2))] ∧ (SYT E ro 4 fi2 T2) ∧ (∀ z, z < 4 → T2 z = if z = c then some SS else none) ∧ (∀ z, z < 4 → fb2 z = 0 ∧ fc2 z = 0) ∧ (SPx gr 4 fd2)))) 0 0 := by
  refine ct_of rfl rfl ?_
  intro X C hT hin hro
  show WW X 5 E 0 [(0, .ref e), (1, .ref sa), (2, .int (nI c)), (3, .int gr)] [] [(e, .inr (0, [.int (nI ecs), .int (nI erc), .ref ea, .ref eb, .ref ec, .ref ed])), (ea, .inl (E.2.1 7, 4, .inr (.inr (.inr (.inr efi))))), (eb, .inl (E.2.1 1, 4, .inl efb)), (ec, .inl (E.2.1 1, 4, .inl efc)), (ed, .inl (E.2.1 1, 16, .inl efd))] 0 0
  refine ww_aload_n C dX0_sayApart_0 0 rfl rfl ?_
  refine ww_iconst (v := 2) C dX0_sayApart_1 rfl ?_
  refine ww_cv (wr := []) (k' := 0) (n' := 0) C (run_V (As := [.int 2]) (rest := []) C (e_begin X.2.1 E ro e 2 ecs erc ea eb ec ed efi efb efc efd eT (by omega) (by omega) hefi (by omega)) mi_X0_begin wl_X0_34 rfl 0 0 rfl rfl rfl rfl rfl dX0_sayApart_2) (roK hro) [0, 1, 2, 3, 4] [] rfl rfl rfl rfl (fun uz hw => ?_)
  refine ex5 hw ?_
  clear hw
  intro fi2_2 fb2_3 fc2_4 fd2_5 T2_6 hw
  refine an4 hw ?_
  clear hw
  intro he_11 h_7 h_8 h_9 hw
  have h_10 := hw
  clear hw
  subst he_11
  refine ww_eq (ws' := [(e, .inr (0, [.int 2, .int 0, .ref ea, .ref eb, .ref ec, .ref ed])), (ea, .inl (E.2.1 7, 4, .inr (.inr (.inr (.inr fi2_2))))), (eb, .inl (E.2.1 1, 4, .inl fb2_3)), (ec, .inl (E.2.1 1, 4, .inl fc2_4)), (ed, .inl (E.2.1 1, 16, .inl fd2_5))]) ?_ rfl rfl rfl
  refine ww_aload_n C dX0_sayApart_5 0 rfl rfl ?_
  refine ww_get C fg_X0_11 0 rfl rfl dX0_sayApart_6 ?_
  refine ww_iload_n C dX0_sayApart_9 2 rfl rfl ?_
  refine ww_aload_n C dX0_sayApart_10 1 rfl rfl ?_
  obtain ⟨f_12, ef_12⟩ : ∃ z : Nat → Option Nat, va_up fi2_2 c (some sa) = z := ⟨_, rfl⟩
  refine ww_astS (t0 := 7) (ws' := [(e, .inr (0, [.int 2, .int 0, .ref ea, .ref eb, .ref ec, .ref ed])), (ea, .inl (E.2.1 7, 4, .inr (.inr (.inr (.inr f_12))))), (eb, .inl (E.2.1 1, 4, .inl fb2_3)), (ec, .inl (E.2.1 1, 4, .inl fc2_4)), (ed, .inl (E.2.1 1, 16, .inl fd2_5))]) C hro 1 rfl rfl (SYg.o (SYv.g hsa)) (vp_in_nI (by omega) (by omega)) (ldn2 (by omega) ef_12) rfl dX0_sayApart_11 ?_
  refine ww_iconst (v := 0) C dX0_sayApart_12 rfl ?_
  refine ww_istore (lv' := [(4, .int 0), (0, .ref e), (1, .ref sa), (2, .int (nI c)), (3, .int gr)]) C dX0_sayApart_13 rfl rfl ?_
  have loop_15 : ∀ (fu : Nat) (i1 : Nat) (f1 : Nat → Int32), (i1 ≤ 4) → (SPx gr i1 f1) → 4 - i1 < fu → WW X 5 E 15 [(4, .int (nI i1)), (0, .ref e), (1, .ref sa), (2, .int (nI c)), (3, .int gr)] [] [(e, .inr (0, [.int 2, .int 0, .ref ea, .ref eb, .ref ec, .ref ed])), (ea, .inl (E.2.1 7, 4, .inr (.inr (.inr (.inr f_12))))), (eb, .inl (E.2.1 1, 4, .inl fb2_3)), (ec, .inl (E.2.1 1, 4, .inl fc2_4)), (ed, .inl (E.2.1 1, 16, .inl f1))] 0 0 := by
    intro fu
    induction fu with
    | zero => intro i1 f1 hi1 hsp hmeas; exact absurd hmeas (Nat.not_lt_zero _)
    | succ fu ih_15 =>
      intro i1 f1 hi1 hsp hmeas
      refine ww_iload C dX0_sayApart_15 0 rfl ?_
      refine ww_iconst (v := 4) C dX0_sayApart_17 rfl ?_
      refine ww_icmp_ge (tgt := 60) C dX0_sayApart_18 (by decide) (fun c_13 => ?_) (fun c_13 => ?_)
      · have zc_13 : ((i1 : Nat) : Int) ≥ 4 := i_le rfl (nI_toInt (n := i1) (by omega)) c_13
        exact ww_vret (u := [(e, .inr (0, [.int 2, .int 0, .ref ea, .ref eb, .ref ec, .ref ed])), (ea, .inl (E.2.1 7, 4, .inr (.inr (.inr (.inr f_12))))), (eb, .inl (E.2.1 1, 4, .inl fb2_3)), (ec, .inl (E.2.1 1, 4, .inl fc2_4)), (ed, .inl (E.2.1 1, 16, .inl f1))]) C hT [0, 1, 2, 3, 4] rfl rfl rfl rfl dX0_sayApart_60 (⟨f_12, fb2_3, fc2_4, f1, (va_up T2_6 c (some SS)), rfl, (SYT.some h_7 hsa ef_12), (va_one h_10), (fun c hc => (h_8 c hc).2), (by rw [show (4 : Nat) = i1 by omega]; exact hsp)⟩)
      · have zc_13 : ((i1 : Nat) : Int) < 4 := i_nle rfl (nI_toInt (n := i1) (by omega)) c_13
        refine ww_aload_n C dX0_sayApart_21 1 rfl rfl ?_
        refine ww_iload C dX0_sayApart_22 0 rfl ?_
        refine ww_iconst (v := 0) C dX0_sayApart_24 rfl ?_
        refine ww_iload_n C dX0_sayApart_25 4 rfl rfl ?_
        refine ww_iload C dX0_sayApart_26 0 rfl ?_
        refine ww_ci (wr := [(e, .inr (0, [.int 2, .int 0, .ref ea, .ref eb, .ref ec, .ref ed])), (ea, .inl (E.2.1 7, 4, .inr (.inr (.inr (.inr f_12))))), (eb, .inl (E.2.1 1, 4, .inl fb2_3)), (ec, .inl (E.2.1 1, 4, .inl fc2_4)), (ed, .inl (E.2.1 1, 16, .inl f1))]) (k' := 0) (n' := 0) C (run_SN (As := [.int gr, .int (nI i1)]) (rest := [.int 0, .int (nI i1), .ref e]) C (c_hasN X.2.1 E ro gr i1 (by omega)) ms_X11_has (List.mem_of_getElem? (i := 17) rfl) rfl rfl rfl rfl dX0_sayApart_28) (roK hro) [] [0, 1, 2, 3, 4] rfl rfl rfl rfl (fun r_14 uz hw => ?_)
        rcases hw with hw | hw
        · refine an2 hw ?_
          clear hw
          intro he_16 he_17 hw
          have h_15 := hw
          clear hw
          have he_16 := he_16.symm
          subst he_16
          subst he_17
          refine ww_eq (ws' := [(e, .inr (0, [.int 2, .int 0, .ref ea, .ref eb, .ref ec, .ref ed])), (ea, .inl (E.2.1 7, 4, .inr (.inr (.inr (.inr f_12))))), (eb, .inl (E.2.1 1, 4, .inl fb2_3)), (ec, .inl (E.2.1 1, 4, .inl fc2_4)), (ed, .inl (E.2.1 1, 16, .inl f1))]) ?_ rfl rfl rfl
          refine ww_if_eq_f (tgt := 38) C dX0_sayApart_31 (by decide) (by decide) ?_
          refine ww_iconst (v := 0) C dX0_sayApart_34 rfl ?_
          refine ww_goto (tgt := 39) C dX0_sayApart_35 (by decide) ?_
          refine ww_iconst (v := 1) C dX0_sayApart_39 rfl ?_
          refine ww_ci (wr := []) (k' := 0) (n' := 0) C (run_V (As := [.int (nI i1), .int 0, .int 0, .int 1]) (rest := []) C (e_hold X.2.1 E ro e i1 0 0 1 2 0 ea eb ec ed f_12 fb2_3 fc2_4 f1 (by omega) (by omega)) mi_X0_hold wl_X0_38 rfl 0 0 rfl rfl rfl rfl rfl dX0_sayApart_40) (roK hro) [0, 1, 2, 3, 4] [] rfl rfl rfl rfl (fun r_21 uz hw => ?_)
          refine ex1 hw ?_
          clear hw
          intro fd2_22 hw
          refine an2 hw ?_
          clear hw
          intro he_25 h_23 hw
          have h_24 := hw
          clear hw
          subst he_25
          refine ww_eq (ws' := [(e, .inr (0, [.int 2, .int 0, .ref ea, .ref eb, .ref ec, .ref ed])), (ea, .inl (E.2.1 7, 4, .inr (.inr (.inr (.inr f_12))))), (eb, .inl (E.2.1 1, 4, .inl fb2_3)), (ec, .inl (E.2.1 1, 4, .inl fc2_4)), (ed, .inl (E.2.1 1, 16, .inl fd2_22))]) ?_ rfl rfl rfl
          refine ww_pop C dX0_sayApart_43 rfl ?_
          refine ww_aload_n C dX0_sayApart_44 1 rfl rfl ?_
          refine ww_iload C dX0_sayApart_45 0 rfl ?_
          refine ww_iconst (v := 1) C dX0_sayApart_47 rfl ?_
          refine ww_iconst (v := 1) C dX0_sayApart_48 rfl ?_
          refine ww_iconst (v := 1) C dX0_sayApart_49 rfl ?_
          refine ww_ci (wr := []) (k' := 0) (n' := 0) C (run_V (As := [.int (nI i1), .int 1, .int 1, .int 1]) (rest := []) C (e_hold X.2.1 E ro e i1 1 1 1 2 0 ea eb ec ed f_12 fb2_3 fc2_4 fd2_22 (by omega) (by omega)) mi_X0_hold wl_X0_38 rfl 0 0 rfl rfl rfl rfl rfl dX0_sayApart_50) (roK hro) [0, 1, 2, 3, 4] [] rfl rfl rfl rfl (fun r_26 uz hw => ?_)
          refine ex1 hw ?_
          clear hw
          intro fd2_27 hw
          refine an2 hw ?_
          clear hw
          intro he_30 h_28 hw
          have h_29 := hw
          clear hw
          subst he_30
          refine ww_eq (ws' := [(e, .inr (0, [.int 2, .int 0, .ref ea, .ref eb, .ref ec, .ref ed])), (ea, .inl (E.2.1 7, 4, .inr (.inr (.inr (.inr f_12))))), (eb, .inl (E.2.1 1, 4, .inl fb2_3)), (ec, .inl (E.2.1 1, 4, .inl fc2_4)), (ed, .inl (E.2.1 1, 16, .inl fd2_27))]) ?_ rfl rfl rfl
          refine ww_pop C dX0_sayApart_53 rfl ?_
          refine ww_iinc (j := 0) (v := (nI (i1 + 1))) (lv' := [(4, .int (nI (i1 + 1))), (0, .ref e), (1, .ref sa), (2, .int (nI c)), (3, .int gr)]) C dX0_sayApart_54 rfl (nI_add i1 1) rfl rfl ?_
          refine ww_goto (tgt := 15) C dX0_sayApart_57 (by decide) ?_
          exact ww_lv [0, 1, 2, 3, 4] rfl (ww_sub [0, 1, 2, 3, 4] rfl rfl (ih_15 (i1 + 1) fd2_27 (by omega) (SPx.ext hsp (by omega) (Or.inl ⟨h_15, rfl⟩) h_23 h_28) (by omega)))
        · refine an2 hw ?_
          clear hw
          intro he_19 he_20 hw
          have h_18 := hw
          clear hw
          have he_19 := he_19.symm
          subst he_19
          subst he_20
          refine ww_eq (ws' := [(e, .inr (0, [.int 2, .int 0, .ref ea, .ref eb, .ref ec, .ref ed])), (ea, .inl (E.2.1 7, 4, .inr (.inr (.inr (.inr f_12))))), (eb, .inl (E.2.1 1, 4, .inl fb2_3)), (ec, .inl (E.2.1 1, 4, .inl fc2_4)), (ed, .inl (E.2.1 1, 16, .inl f1))]) ?_ rfl rfl rfl
          refine ww_if_eq_t (tgt := 38) C dX0_sayApart_31 (by decide) (rfl) ?_
          refine ww_iconst (v := 1) C dX0_sayApart_38 rfl ?_
          refine ww_iconst (v := 1) C dX0_sayApart_39 rfl ?_
          refine ww_ci (wr := []) (k' := 0) (n' := 0) C (run_V (As := [.int (nI i1), .int 0, .int 1, .int 1]) (rest := []) C (e_hold X.2.1 E ro e i1 0 1 1 2 0 ea eb ec ed f_12 fb2_3 fc2_4 f1 (by omega) (by omega)) mi_X0_hold wl_X0_38 rfl 0 0 rfl rfl rfl rfl rfl dX0_sayApart_40) (roK hro) [0, 1, 2, 3, 4] [] rfl rfl rfl rfl (fun r_31 uz hw => ?_)
          refine ex1 hw ?_
          clear hw
          intro fd2_32 hw
          refine an2 hw ?_
          clear hw
          intro he_35 h_33 hw
          have h_34 := hw
          clear hw
          subst he_35
          refine ww_eq (ws' := [(e, .inr (0, [.int 2, .int 0, .ref ea, .ref eb, .ref ec, .ref ed])), (ea, .inl (E.2.1 7, 4, .inr (.inr (.inr (.inr f_12))))), (eb, .inl (E.2.1 1, 4, .inl fb2_3)), (ec, .inl (E.2.1 1, 4, .inl fc2_4)), (ed, .inl (E.2.1 1, 16, .inl fd2_32))]) ?_ rfl rfl rfl
          refine ww_pop C dX0_sayApart_43 rfl ?_
          refine ww_aload_n C dX0_sayApart_44 1 rfl rfl ?_
          refine ww_iload C dX0_sayApart_45 0 rfl ?_
          refine ww_iconst (v := 1) C dX0_sayApart_47 rfl ?_
          refine ww_iconst (v := 1) C dX0_sayApart_48 rfl ?_
          refine ww_iconst (v := 1) C dX0_sayApart_49 rfl ?_
          refine ww_ci (wr := []) (k' := 0) (n' := 0) C (run_V (As := [.int (nI i1), .int 1, .int 1, .int 1]) (rest := []) C (e_hold X.2.1 E ro e i1 1 1 1 2 0 ea eb ec ed f_12 fb2_3 fc2_4 fd2_32 (by omega) (by omega)) mi_X0_hold wl_X0_38 rfl 0 0 rfl rfl rfl rfl rfl dX0_sayApart_50) (roK hro) [0, 1, 2, 3, 4] [] rfl rfl rfl rfl (fun r_36 uz hw => ?_)
          refine ex1 hw ?_
          clear hw
          intro fd2_37 hw
          refine an2 hw ?_
          clear hw
          intro he_40 h_38 hw
          have h_39 := hw
          clear hw
          subst he_40
          refine ww_eq (ws' := [(e, .inr (0, [.int 2, .int 0, .ref ea, .ref eb, .ref ec, .ref ed])), (ea, .inl (E.2.1 7, 4, .inr (.inr (.inr (.inr f_12))))), (eb, .inl (E.2.1 1, 4, .inl fb2_3)), (ec, .inl (E.2.1 1, 4, .inl fc2_4)), (ed, .inl (E.2.1 1, 16, .inl fd2_37))]) ?_ rfl rfl rfl
          refine ww_pop C dX0_sayApart_53 rfl ?_
          refine ww_iinc (j := 0) (v := (nI (i1 + 1))) (lv' := [(4, .int (nI (i1 + 1))), (0, .ref e), (1, .ref sa), (2, .int (nI c)), (3, .int gr)]) C dX0_sayApart_54 rfl (nI_add i1 1) rfl rfl ?_
          refine ww_goto (tgt := 15) C dX0_sayApart_57 (by decide) ?_
          exact ww_lv [0, 1, 2, 3, 4] rfl (ww_sub [0, 1, 2, 3, 4] rfl rfl (ih_15 (i1 + 1) fd2_37 (by omega) (SPx.ext hsp (by omega) (Or.inr ⟨h_18, rfl⟩) h_33 h_38) (by omega)))
  exact ww_lv [0, 1, 2, 3, 4] rfl (ww_sub [0, 1, 2, 3, 4] rfl rfl (loop_15 _ 0 fd2_5 (by omega) (SPx.nil h_9) (Nat.lt_succ_self _)))
theorem EVr.cs {E : EV} {ro : va_W} {e cs rc : Nat} {T : Nat → Option SVal} {fb fc fd : Nat → Int32} (h : EVr E ro e cs rc T fb fc fd) : cs ≤ 4 := by
  obtain ⟨i0, i1, i2, i3, i4, a, b, c, d, fi, h0, h1, h2, h3, h4, h5, h6, h7⟩ := h; exact h5
theorem EVr.rc {E : EV} {ro : va_W} {e cs rc : Nat} {T : Nat → Option SVal} {fb fc fd : Nat → Int32} (h : EVr E ro e cs rc T fb fc fd) : rc ≤ 3 := by
  obtain ⟨i0, i1, i2, i3, i4, a, b, c, d, fi, h0, h1, h2, h3, h4, h5, h6, h7⟩ := h; exact h6
def chg (fb fc : Nat → Int32) (x : Int32) (c : Nat) : Int32 := x &&& (fc c ^^^ (-1 : Int32)) ||| fb c
theorem dX0_changed_0 : decode cX0_changed 0 = .ok (.iload_n 1, 1) := by decide +kernel
theorem dX0_changed_1 : decode cX0_changed 1 = .ok (.aload_n 0, 1) := by decide +kernel
theorem dX0_changed_2 : decode cX0_changed 2 = .ok (.getfield 21, 3) := by decide +kernel
theorem dX0_changed_5 : decode cX0_changed 5 = .ok (.iload_n 2, 1) := by decide +kernel
theorem dX0_changed_6 : decode cX0_changed 6 = .ok (.iaload, 1) := by decide +kernel
theorem dX0_changed_7 : decode cX0_changed 7 = .ok (.iconst (-1), 1) := by decide +kernel
theorem dX0_changed_8 : decode cX0_changed 8 = .ok (.ixor, 1) := by decide +kernel
theorem dX0_changed_9 : decode cX0_changed 9 = .ok (.iand, 1) := by decide +kernel
theorem dX0_changed_10 : decode cX0_changed 10 = .ok (.aload_n 0, 1) := by decide +kernel
theorem dX0_changed_11 : decode cX0_changed 11 = .ok (.getfield 17, 3) := by decide +kernel
theorem dX0_changed_14 : decode cX0_changed 14 = .ok (.iload_n 2, 1) := by decide +kernel
theorem dX0_changed_15 : decode cX0_changed 15 = .ok (.iaload, 1) := by decide +kernel
theorem dX0_changed_16 : decode cX0_changed 16 = .ok (.ior, 1) := by decide +kernel
theorem dX0_changed_17 : decode cX0_changed 17 = .ok (.ireturn, 1) := by decide +kernel
set_option maxRecDepth 100000 in
set_option maxHeartbeats 4000000 in
theorem e_changed (l : Launch) (E : EV) (ro : va_W) (e : Nat) (x : Int32) (c : Nat) (ecs : Nat) (erc : Nat) (eT : Nat → Option SVal) (efb : Nat → Int32) (efc : Nat → Int32) (efd : Nat → Int32) (hc : c < 4) (hev : EVr E ro e ecs erc eT efb efc efd) : CT l yX0_changed (Cond.code yX0_changed cX0_changed 3 (some .int) :: TB) ({ frames := 0, cells := 0, slots := 0, locals := 0 }) E ro [.ref e, .int x, .int (nI c)] [] (Qi E (fun (rz : Int32) uz => (rz = (chg efb efc x c) ∧ uz = []))) 0 0 := by
  refine ct_of rfl rfl ?_
  intro X C hT hin hro
  show WW X 3 E 0 [(0, .ref e), (1, .int x), (2, .int (nI c))] [] [] 0 0
  obtain ⟨i0y_1, i1y_1, i2y_1, i3y_1, i4y_1, cay_1, cby_1, ccy_1, cdy_1, fiy_1, g0y_1, g1y_1, g2y_1, g3y_1, g4y_1, hcsy_1, hrcy_1, hfiy_1⟩ := id hev
  refine ww_iload_n C dX0_changed_0 1 rfl rfl ?_
  refine ww_aload_n C dX0_changed_1 0 rfl rfl ?_
  refine ww_getR C hro fg_X0_21 i0y_1 g0y_1 rfl dX0_changed_2 ?_
  refine ww_iload_n C dX0_changed_5 2 rfl rfl ?_
  obtain ⟨x_2, ex_2⟩ : ∃ z : Int32, efc c = z := ⟨_, rfl⟩
  refine ww_ialdR (v := x_2) C hro i3y_1 g3y_1 (vp_in_nI (by omega) (by omega)) (ldn (by omega) ex_2) dX0_changed_6 ?_
  refine ww_iconst (v := (-1)) C dX0_changed_7 rfl ?_
  obtain ⟨x_3, ex_3⟩ : ∃ z : Int32, x_2 ^^^ ((-1) : Int32) = z := ⟨_, rfl⟩
  refine ww_ixor (v := x_3) C dX0_changed_8 ex_3 ?_
  obtain ⟨x_4, ex_4⟩ : ∃ z : Int32, x &&& x_3 = z := ⟨_, rfl⟩
  refine ww_iand (v := x_4) C dX0_changed_9 ex_4 ?_
  refine ww_aload_n C dX0_changed_10 0 rfl rfl ?_
  refine ww_getR C hro fg_X0_17 i0y_1 g0y_1 rfl dX0_changed_11 ?_
  refine ww_iload_n C dX0_changed_14 2 rfl rfl ?_
  obtain ⟨x_5, ex_5⟩ : ∃ z : Int32, efb c = z := ⟨_, rfl⟩
  refine ww_ialdR (v := x_5) C hro i2y_1 g2y_1 (vp_in_nI (by omega) (by omega)) (ldn (by omega) ex_5) dX0_changed_15 ?_
  obtain ⟨x_6, ex_6⟩ : ∃ z : Int32, x_4 ||| x_5 = z := ⟨_, rfl⟩
  refine ww_ior (v := x_6) C dX0_changed_16 ex_6 ?_
  exact ww_iret (u := []) C hT [] rfl rfl rfl rfl dX0_changed_17 (⟨(by unfold chg; rw [ex_2, ex_3, ex_4, ex_5, ex_6]), rfl⟩)
