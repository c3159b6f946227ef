theorem dX3_measure_0 : decode cX3_measure 0 = .ok (.aload_n 0, 1) := by decide +kernel
theorem dX3_measure_1 : decode cX3_measure 1 = .ok (.aload_n 1, 1) := by decide +kernel
theorem dX3_measure_2 : decode cX3_measure 2 = .ok (.getfield 28, 3) := by decide +kernel
theorem wf_X3_28 : Cond.fieldLink RX3 28 RX4 "size" "I" ∈ TB := tbm (tq1 (List.mem_of_getElem? (i := 35) (by decide +kernel))) (by decide +kernel)
theorem fg_X3_28 : FG RX3 28 4 0 := ⟨RX4, TX4, 4, uw_X4, wf_X3_28, rfl, by decide, rfl⟩
theorem dX3_measure_5 : decode cX3_measure 5 = .ok (.putfield 32, 3) := by decide +kernel
theorem uw_X3 : ∀ w ∈ u_ws RX3 TX3 6, w ∈ TB := uw_of [199, 201, 203, 205, 207, 209] (by decide +kernel) (by decide +kernel)
theorem wf_X3_32 : Cond.fieldLink RX3 32 RX3 "worlds" "I" ∈ TB := tbm (tq1 (List.mem_of_getElem? (i := 195) (by decide +kernel))) (by decide +kernel)
theorem fp_X3_32 : FP RX3 32 3 2 .int false := ⟨RX3, TX3, 6, tyX3, uw_X3, wf_X3_32, rfl, by decide, rfl, tyX3_ok, nmX3, rfl, by decide +kernel⟩
theorem dX3_measure_8 : decode cX3_measure 8 = .ok (.iconst 0, 1) := by decide +kernel
theorem dX3_measure_9 : decode cX3_measure 9 = .ok (.istore 4, 2) := by decide +kernel
theorem dX3_measure_11 : decode cX3_measure 11 = .ok (.iload 4, 2) := by decide +kernel
theorem dX3_measure_13 : decode cX3_measure 13 = .ok (.aload_n 0, 1) := by decide +kernel
theorem dX3_measure_14 : decode cX3_measure 14 = .ok (.getfield 32, 3) := by decide +kernel
theorem fg_X3_32 : FG RX3 32 3 2 := ⟨RX3, TX3, 6, uw_X3, wf_X3_32, rfl, by decide, rfl⟩
theorem dX3_measure_17 : decode cX3_measure 17 = .ok (.if_icmp .ge 17, 3) := by decide +kernel
theorem dX3_measure_34 : decode cX3_measure 34 = .ok (.iconst 0, 1) := by decide +kernel
theorem dX3_measure_35 : decode cX3_measure 35 = .ok (.istore 4, 2) := by decide +kernel
theorem dX3_measure_37 : decode cX3_measure 37 = .ok (.iload 4, 2) := by decide +kernel
theorem dX3_measure_39 : decode cX3_measure 39 = .ok (.aload_n 2, 1) := by decide +kernel
theorem dX3_measure_40 : decode cX3_measure 40 = .ok (.getfield 35, 3) := by decide +kernel
theorem wf_X3_35 : Cond.fieldLink RX3 35 RX0 "cases" "I" ∈ TB := tbm (tq1 (List.mem_of_getElem? (i := 151) (by decide +kernel))) (by decide +kernel)
theorem fg_X3_35 : FG RX3 35 0 0 := ⟨RX0, TX0, 6, uw_X0, wf_X3_35, rfl, by decide, rfl⟩
theorem dX3_measure_43 : decode cX3_measure 43 = .ok (.if_icmp .ge 77, 3) := by decide +kernel
theorem dX3_measure_120 : decode cX3_measure 120 = .ok (.aload_n 0, 1) := by decide +kernel
theorem dX3_measure_121 : decode cX3_measure 121 = .ok (.iconst 0, 1) := by decide +kernel
theorem dX3_measure_122 : decode cX3_measure 122 = .ok (.putfield 54, 3) := by decide +kernel
theorem wf_X3_54 : Cond.fieldLink RX3 54 RX3 "pairs" "I" ∈ TB := tbm (tq1 (List.mem_of_getElem? (i := 192) (by decide +kernel))) (by decide +kernel)
theorem fp_X3_54 : FP RX3 54 3 1 .int false := ⟨RX3, TX3, 6, tyX3, uw_X3, wf_X3_54, rfl, by decide, rfl, tyX3_ok, nmX3, rfl, by decide +kernel⟩
theorem dX3_measure_125 : decode cX3_measure 125 = .ok (.iconst 0, 1) := by decide +kernel
theorem dX3_measure_126 : decode cX3_measure 126 = .ok (.istore 4, 2) := by decide +kernel
theorem dX3_measure_128 : decode cX3_measure 128 = .ok (.iload 4, 2) := by decide +kernel
theorem dX3_measure_130 : decode cX3_measure 130 = .ok (.aload_n 0, 1) := by decide +kernel
theorem dX3_measure_131 : decode cX3_measure 131 = .ok (.getfield 32, 3) := by decide +kernel
theorem dX3_measure_134 : decode cX3_measure 134 = .ok (.if_icmp .ge 39, 3) := by decide +kernel
theorem dX3_measure_173 : decode cX3_measure 173 = .ok (.return_, 1) := by decide +kernel
theorem dX3_measure_137 : decode cX3_measure 137 = .ok (.aload_n 0, 1) := by decide +kernel
theorem dX3_measure_138 : decode cX3_measure 138 = .ok (.getfield 22, 3) := by decide +kernel
theorem wf_X3_22 : Cond.fieldLink RX3 22 RX3 "firstPair" "[I" ∈ TB := tbm (tq1 (List.mem_of_getElem? (i := 197) (by decide +kernel))) (by decide +kernel)
theorem fg_X3_22 : FG RX3 22 3 4 := ⟨RX3, TX3, 6, uw_X3, wf_X3_22, rfl, by decide, rfl⟩
theorem dX3_measure_141 : decode cX3_measure 141 = .ok (.iload 4, 2) := by decide +kernel
theorem dX3_measure_143 : decode cX3_measure 143 = .ok (.aload_n 0, 1) := by decide +kernel
theorem dX3_measure_144 : decode cX3_measure 144 = .ok (.getfield 54, 3) := by decide +kernel
theorem fg_X3_54 : FG RX3 54 3 1 := ⟨RX3, TX3, 6, uw_X3, wf_X3_54, rfl, by decide, rfl⟩
theorem dX3_measure_147 : decode cX3_measure 147 = .ok (.iastore, 1) := by decide +kernel
theorem dX3_measure_148 : decode cX3_measure 148 = .ok (.aload_n 0, 1) := by decide +kernel
theorem dX3_measure_149 : decode cX3_measure 149 = .ok (.dup, 1) := by decide +kernel
theorem dX3_measure_150 : decode cX3_measure 150 = .ok (.getfield 54, 3) := by decide +kernel
theorem dX3_measure_153 : decode cX3_measure 153 = .ok (.aload_n 0, 1) := by decide +kernel
theorem dX3_measure_154 : decode cX3_measure 154 = .ok (.getfield 18, 3) := by decide +kernel
theorem wf_X3_18 : Cond.fieldLink RX3 18 RX3 "canBe" "[I" ∈ TB := tbm (tq1 (List.mem_of_getElem? (i := 196) (by decide +kernel))) (by decide +kernel)
theorem fg_X3_18 : FG RX3 18 3 3 := ⟨RX3, TX3, 6, uw_X3, wf_X3_18, rfl, by decide, rfl⟩
theorem dX3_measure_157 : decode cX3_measure 157 = .ok (.iload 4, 2) := by decide +kernel
theorem dX3_measure_159 : decode cX3_measure 159 = .ok (.iaload, 1) := by decide +kernel
theorem dX3_measure_160 : decode cX3_measure 160 = .ok (.invokestatic 57, 3) := by decide +kernel
theorem wl_X3_57 : Cond.methodLink RX3 57 yJ6_bitCount_0f7a4 ∈ TB := tbm (tq4 (List.mem_of_getElem? (i := 2) (by decide +kernel))) (by decide +kernel)
theorem dX3_measure_163 : decode cX3_measure 163 = .ok (.iadd, 1) := by decide +kernel
theorem dX3_measure_164 : decode cX3_measure 164 = .ok (.putfield 54, 3) := by decide +kernel
theorem dX3_measure_167 : decode cX3_measure 167 = .ok (.iinc 4 1, 3) := by decide +kernel
theorem dX3_measure_170 : decode cX3_measure 170 = .ok (.goto (-42), 3) := by decide +kernel
theorem dX3_measure_46 : decode cX3_measure 46 = .ok (.aload_n 2, 1) := by decide +kernel
theorem dX3_measure_47 : decode cX3_measure 47 = .ok (.getfield 40, 3) := by decide +kernel
theorem wf_X3_40 : Cond.fieldLink RX3 40 RX0 "ifs" "[LWhoKnows$Saying;" ∈ TB := tbm (tq1 (List.mem_of_getElem? (i := 159) (by decide +kernel))) (by decide +kernel)
theorem fg_X3_40 : FG RX3 40 0 2 := ⟨RX0, TX0, 6, uw_X0, wf_X3_40, rfl, by decide, rfl⟩
theorem dX3_measure_50 : decode cX3_measure 50 = .ok (.iload 4, 2) := by decide +kernel
theorem dX3_measure_52 : decode cX3_measure 52 = .ok (.aaload, 1) := by decide +kernel
theorem dX3_measure_53 : decode cX3_measure 53 = .ok (.astore 5, 2) := by decide +kernel
theorem dX3_measure_55 : decode cX3_measure 55 = .ok (.aload 5, 2) := by decide +kernel
theorem dX3_measure_57 : decode cX3_measure 57 = .ok (.ifnonnull 10, 3) := by decide +kernel
theorem dX3_measure_60 : decode cX3_measure 60 = .ok (.aload_n 1, 1) := by decide +kernel
theorem dX3_measure_61 : decode cX3_measure 61 = .ok (.invokevirtual 44, 3) := by decide +kernel
theorem wl_X3_44 : Cond.methodLink RX3 44 yX4_all ∈ TB := tbm (tq3 (List.mem_of_getElem? (i := 219) (by decide +kernel))) (by decide +kernel)
theorem dX3_measure_64 : decode cX3_measure 64 = .ok (.goto 10, 3) := by decide +kernel
theorem dX3_measure_74 : decode cX3_measure 74 = .ok (.istore 6, 2) := by decide +kernel
theorem dX3_measure_76 : decode cX3_measure 76 = .ok (.iconst 0, 1) := by decide +kernel
theorem dX3_measure_77 : decode cX3_measure 77 = .ok (.istore 7, 2) := by decide +kernel
theorem dX3_measure_79 : decode cX3_measure 79 = .ok (.iload 7, 2) := by decide +kernel
theorem dX3_measure_81 : decode cX3_measure 81 = .ok (.aload_n 0, 1) := by decide +kernel
theorem dX3_measure_82 : decode cX3_measure 82 = .ok (.getfield 32, 3) := by decide +kernel
theorem dX3_measure_85 : decode cX3_measure 85 = .ok (.if_icmp .ge 29, 3) := by decide +kernel
theorem dX3_measure_114 : decode cX3_measure 114 = .ok (.iinc 4 1, 3) := by decide +kernel
theorem dX3_measure_117 : decode cX3_measure 117 = .ok (.goto (-80), 3) := by decide +kernel
theorem dX3_measure_88 : decode cX3_measure 88 = .ok (.aload_n 0, 1) := by decide +kernel
theorem dX3_measure_89 : decode cX3_measure 89 = .ok (.getfield 18, 3) := by decide +kernel
theorem dX3_measure_92 : decode cX3_measure 92 = .ok (.iload 7, 2) := by decide +kernel
theorem dX3_measure_94 : decode cX3_measure 94 = .ok (.dup2, 1) := by decide +kernel
theorem dX3_measure_95 : decode cX3_measure 95 = .ok (.iaload, 1) := by decide +kernel
theorem dX3_measure_96 : decode cX3_measure 96 = .ok (.iload 6, 2) := by decide +kernel
theorem dX3_measure_98 : decode cX3_measure 98 = .ok (.iload 7, 2) := by decide +kernel
theorem dX3_measure_100 : decode cX3_measure 100 = .ok (.ishr, 1) := by decide +kernel
theorem dX3_measure_101 : decode cX3_measure 101 = .ok (.iconst 1, 1) := by decide +kernel
theorem dX3_measure_102 : decode cX3_measure 102 = .ok (.iand, 1) := by decide +kernel
theorem dX3_measure_103 : decode cX3_measure 103 = .ok (.iload 4, 2) := by decide +kernel
theorem dX3_measure_105 : decode cX3_measure 105 = .ok (.ishl, 1) := by decide +kernel
theorem dX3_measure_106 : decode cX3_measure 106 = .ok (.ior, 1) := by decide +kernel
theorem dX3_measure_107 : decode cX3_measure 107 = .ok (.iastore, 1) := by decide +kernel
theorem dX3_measure_108 : decode cX3_measure 108 = .ok (.iinc 7 1, 3) := by decide +kernel
theorem dX3_measure_111 : decode cX3_measure 111 = .ok (.goto (-32), 3) := by decide +kernel
theorem dX3_measure_67 : decode cX3_measure 67 = .ok (.aload_n 3, 1) := by decide +kernel
theorem dX3_measure_68 : decode cX3_measure 68 = .ok (.aload_n 1, 1) := by decide +kernel
theorem dX3_measure_69 : decode cX3_measure 69 = .ok (.aload 5, 2) := by decide +kernel
theorem dX3_measure_71 : decode cX3_measure 71 = .ok (.invokevirtual 48, 3) := by decide +kernel
theorem wl_X3_48 : Cond.methodLink RX3 48 yX2_plain ∈ TB := tbm (tq3 (List.mem_of_getElem? (i := 223) (by decide +kernel))) (by decide +kernel)
theorem wc_X2_plain : Cond.code yX2_plain cX2_plain 11 (some .int) ∈ TB := tbm (tq3 (List.mem_of_getElem? (i := 226) (rfl))) (by decide +kernel)
theorem wn_X2 : Cond.initialized RX2 ∈ TB := tbm (tq1 (List.mem_of_getElem? (i := 5) (by decide +kernel))) (by decide +kernel)
theorem wi_X2_plain : Cond.instanceMethod yX2_plain ∈ TB := tbm (tq3 (List.mem_of_getElem? (i := 224) (by decide +kernel))) (by decide +kernel)
theorem ws_X2_plain : Cond.selects RX2 yX2_plain yX2_plain ∈ TB := tbm (tq3 (List.mem_of_getElem? (i := 225) (by decide +kernel))) (by decide +kernel)
theorem mi_X2_plain : MI yX2_plain cX2_plain 11 (some .int) 2 := ⟨wc_X2_plain, wn_X2, ⟨by decide +kernel, by decide +kernel, by decide +kernel⟩, wi_X2_plain, ws_X2_plain⟩
theorem dX3_measure_20 : decode cX3_measure 20 = .ok (.aload_n 0, 1) := by decide +kernel
theorem dX3_measure_21 : decode cX3_measure 21 = .ok (.getfield 18, 3) := by decide +kernel
theorem dX3_measure_24 : decode cX3_measure 24 = .ok (.iload 4, 2) := by decide +kernel
theorem dX3_measure_26 : decode cX3_measure 26 = .ok (.iconst 0, 1) := by decide +kernel
theorem dX3_measure_27 : decode cX3_measure 27 = .ok (.iastore, 1) := by decide +kernel
theorem dX3_measure_28 : decode cX3_measure 28 = .ok (.iinc 4 1, 3) := by decide +kernel
theorem dX3_measure_31 : decode cX3_measure 31 = .ok (.goto (-20), 3) := by decide +kernel
set_option maxRecDepth 100000 in
set_option maxHeartbeats 4000000 in
theorem l_measure (l : Launch) (E : EV) (ro : va_W) (ly : Nat) (h : Nat) (e : Nat) (qj : Nat) (lym : Nat) (pr : Int32) (wo : Int32) (lyc : Nat) (lyf : Nat) (lyq : Nat) (cf : Nat → Int32) (ff : Nat → Int32) (n : Nat) (r : Nat) (a : Nat) (b : Nat) (f : Nat → Int32) (gg : Nat → Int32) (jt : Nat) (je : Nat) (ju : Nat) (ja : Nat) (ft : Nat → Int32) (ecs : Nat) (erc : Nat) (eT : Nat → Option SVal) (efb : Nat → Int32) (efc : Nat → Int32) (efd : Nat → Int32) (hn : n ≤ 24) (hr : r < n ∨ r = 0) (hev : EVr E ro e ecs erc eT efb efc efd) (hwfm : WFm (am n r f gg)) : CT l yX3_measure (Cond.code yX3_measure cX3_measure 8 none :: TB) ({ frames := 3, cells := 0, slots := 0, locals := 81 }) E ro [.ref ly, .ref h, .ref e, .ref qj] [(ly, .inr (3, [.ref lym, .int pr, .int wo, .ref lyc, .ref lyf, .ref lyq])), (lyc, .inl (E.2.1 1, 24, .inl cf)), (lyf, .inl (E.2.1 1, 24, .inl ff)), (h, .inr (4, [.int (nI n), .int (nI r), .ref a, .ref b])), (a, .inl (E.2.1 1, 24, .inl f)), (b, .inl (E.2.1 1, 96, .inl gg)), (qj, .inr (2, [.ref jt, .ref je, .ref ju, .ref ja])), (ju, .inl (E.2.1 1, 32, .inl ft))] (Qv E (fun uz => (∃ (Pp : Nat) (cf2 : Nat → Int32) (ff2 : Nat → Int32) (ft2 : Nat → Int32), uz = [(ly, .inr (3, [.ref lym, .int (nI Pp), .int (nI n), .ref lyc, .ref lyf, .ref lyq])), (lyc, .inl (E.2.1 1, 24, .inl cf2)), (lyf, .inl (E.2.1 1, 24, .inl ff2)), (h, .inr (4, [.int (nI n), .int (nI r), .ref a, .ref b])), (a, .inl (E.2.1 1, 24, .inl f)), (b, .inl (E.2.1 1, 96, .inl gg)), (qj, .inr (2, [.ref jt, .ref je, .ref ju, .ref ja])), (ju, .inl (E.2.1 1, 32, .inl ft2))] ∧ (LYR n cf2 ff2 Pp) ∧ (Pp ≤ 96) ∧ (CBx n ecs cf2) ∧ (LYM n (lyP (am n r f gg) (ecs, erc, eT, efb, efc, efd)) cf2) ∧ (Pp = lyC (am n r f gg) (ecs, erc, eT, efb, efc, efd))))) 0 0 := by
  refine ct_of rfl rfl ?_
  intro X C hT hin hro
  show WW X 8 E 0 [(0, .ref ly), (1, .ref h), (2, .ref e), (3, .ref qj)] [] [(ly, .inr (3, [.ref lym, .int pr, .int wo, .ref lyc, .ref lyf, .ref lyq])), (lyc, .inl (E.2.1 1, 24, .inl cf)), (lyf, .inl (E.2.1 1, 24, .inl ff)), (h, .inr (4, [.int (nI n), .int (nI r), .ref a, .ref b])), (a, .inl (E.2.1 1, 24, .inl f)), (b, .inl (E.2.1 1, 96, .inl gg)), (qj, .inr (2, [.ref jt, .ref je, .ref ju, .ref ja])), (ju, .inl (E.2.1 1, 32, .inl ft))] 0 0
  obtain ⟨i0y_1, i1y_1, i2y_1, i3y_1, i4y_1, cay_1, cby_1, ccy_1, cdy_1, fiy_1, g0y_1, g1y_1, g2y_1, g3y_1, g4y_1, hcsy_1, hrcy_1, hfiy_1⟩ := id hev
  have hecs := hev.cs
  have herc := hev.rc
  refine ww_aload_n C dX3_measure_0 0 rfl rfl ?_
  refine ww_aload_n C dX3_measure_1 1 rfl rfl ?_
  refine ww_get C fg_X3_28 3 rfl rfl dX3_measure_2 ?_
  refine ww_put (ws' := [(ly, .inr (3, [.ref lym, .int pr, .int (nI n), .ref lyc, .ref lyf, .ref lyq])), (lyc, .inl (E.2.1 1, 24, .inl cf)), (lyf, .inl (E.2.1 1, 24, .inl ff)), (h, .inr (4, [.int (nI n), .int (nI r), .ref a, .ref b])), (a, .inl (E.2.1 1, 24, .inl f)), (b, .inl (E.2.1 1, 96, .inl gg)), (qj, .inr (2, [.ref jt, .ref je, .ref ju, .ref ja])), (ju, .inl (E.2.1 1, 32, .inl ft))]) C fp_X3_32 0 rfl rfl rfl rfl rfl dX3_measure_5 ?_
  refine ww_iconst (v := 0) C dX3_measure_8 rfl ?_
  refine ww_istore (lv' := [(4, .int 0), (0, .ref ly), (1, .ref h), (2, .ref e), (3, .ref qj)]) C dX3_measure_9 rfl rfl ?_
  have loop_11 : ∀ (fu : Nat) (i1 : Nat) (c1 : Nat → Int32), (i1 ≤ n) → (CBx i1 0 c1) → (Z0x i1 c1) → n - i1 < fu → WW X 8 E 11 [(4, .int (nI i1)), (0, .ref ly), (1, .ref h), (2, .ref e), (3, .ref qj)] [] [(ly, .inr (3, [.ref lym, .int pr, .int (nI n), .ref lyc, .ref lyf, .ref lyq])), (lyc, .inl (E.2.1 1, 24, .inl c1)), (lyf, .inl (E.2.1 1, 24, .inl ff)), (h, .inr (4, [.int (nI n), .int (nI r), .ref a, .ref b])), (a, .inl (E.2.1 1, 24, .inl f)), (b, .inl (E.2.1 1, 96, .inl gg)), (qj, .inr (2, [.ref jt, .ref je, .ref ju, .ref ja])), (ju, .inl (E.2.1 1, 32, .inl ft))] 0 0 := by
    intro fu
    induction fu with
    | zero => intro i1 c1 hi1 hc1 hz0 hmeas; exact absurd hmeas (Nat.not_lt_zero _)
    | succ fu ih_11 =>
      intro i1 c1 hi1 hc1 hz0 hmeas
      refine ww_iload C dX3_measure_11 0 rfl ?_
      refine ww_aload_n C dX3_measure_13 1 rfl rfl ?_
      refine ww_get C fg_X3_32 0 rfl rfl dX3_measure_14 ?_
      refine ww_icmp_ge (tgt := 34) C dX3_measure_17 (by decide) (fun c_2 => ?_) (fun c_2 => ?_)
      · have zc_2 : ((i1 : Nat) : Int) ≥ ((n : Nat) : Int) := i_le (nI_toInt (n := n) (by omega)) (nI_toInt (n := i1) (by omega)) c_2
        refine ww_iconst (v := 0) C dX3_measure_34 rfl ?_
        refine ww_istore (lv' := [(4, .int 0), (0, .ref ly), (1, .ref h), (2, .ref e), (3, .ref qj)]) C dX3_measure_35 rfl rfl ?_
        have hi1n : i1 = n := by omega
        rw [hi1n] at hc1 hz0
        have loop_37 : ∀ (fu : Nat) (i2 : Nat) (c2 : Nat → Int32) (t2 : Nat → Int32), (i2 ≤ ecs) → (CBx n i2 c2) → (LYx n (fun c w => canE (am n r f gg) (eT c) w) i2 0 c2) → ecs - i2 < fu → WW X 8 E 37 [(4, .int (nI i2)), (0, .ref ly), (1, .ref h), (2, .ref e), (3, .ref qj)] [] [(ly, .inr (3, [.ref lym, .int pr, .int (nI n), .ref lyc, .ref lyf, .ref lyq])), (lyc, .inl (E.2.1 1, 24, .inl c2)), (lyf, .inl (E.2.1 1, 24, .inl ff)), (h, .inr (4, [.int (nI n), .int (nI r), .ref a, .ref b])), (a, .inl (E.2.1 1, 24, .inl f)), (b, .inl (E.2.1 1, 96, .inl gg)), (qj, .inr (2, [.ref jt, .ref je, .ref ju, .ref ja])), (ju, .inl (E.2.1 1, 32, .inl t2))] 0 0 := by
          intro fu
          induction fu with
          | zero => intro i2 c2 t2 hi2 hc2 hlx2 hmeas; exact absurd hmeas (Nat.not_lt_zero _)
          | succ fu ih_37 =>
            intro i2 c2 t2 hi2 hc2 hlx2 hmeas
            refine ww_iload C dX3_measure_37 0 rfl ?_
            refine ww_aload_n C dX3_measure_39 3 rfl rfl ?_
            refine ww_getR C hro fg_X3_35 i0y_1 g0y_1 rfl dX3_measure_40 ?_
            refine ww_icmp_ge (tgt := 120) C dX3_measure_43 (by decide) (fun c_3 => ?_) (fun c_3 => ?_)
            · have zc_3 : ((i2 : Nat) : Int) ≥ ((ecs : Nat) : Int) := i_le (nI_toInt (n := ecs) (by omega)) (nI_toInt (n := i2) (by omega)) c_3
              refine ww_aload_n C dX3_measure_120 1 rfl rfl ?_
              refine ww_iconst (v := 0) C dX3_measure_121 rfl ?_
              refine ww_put (ws' := [(ly, .inr (3, [.ref lym, .int 0, .int (nI n), .ref lyc, .ref lyf, .ref lyq])), (lyc, .inl (E.2.1 1, 24, .inl c2)), (lyf, .inl (E.2.1 1, 24, .inl ff)), (h, .inr (4, [.int (nI n), .int (nI r), .ref a, .ref b])), (a, .inl (E.2.1 1, 24, .inl f)), (b, .inl (E.2.1 1, 96, .inl gg)), (qj, .inr (2, [.ref jt, .ref je, .ref ju, .ref ja])), (ju, .inl (E.2.1 1, 32, .inl t2))]) C fp_X3_54 0 rfl rfl rfl rfl rfl dX3_measure_122 ?_
              refine ww_iconst (v := 0) C dX3_measure_125 rfl ?_
              refine ww_istore (lv' := [(4, .int 0), (0, .ref ly), (1, .ref h), (2, .ref e), (3, .ref qj)]) C dX3_measure_126 rfl rfl ?_
              have loop_128 : ∀ (fu : Nat) (i4 : Nat) (f4 : Nat → Int32), (i4 ≤ n) → (FPx i4 c2 f4) → n - i4 < fu → WW X 8 E 128 [(4, .int (nI i4)), (0, .ref ly), (1, .ref h), (2, .ref e), (3, .ref qj)] [] [(ly, .inr (3, [.ref lym, .int (nI (pcs c2 i4)), .int (nI n), .ref lyc, .ref lyf, .ref lyq])), (lyc, .inl (E.2.1 1, 24, .inl c2)), (lyf, .inl (E.2.1 1, 24, .inl f4)), (h, .inr (4, [.int (nI n), .int (nI r), .ref a, .ref b])), (a, .inl (E.2.1 1, 24, .inl f)), (b, .inl (E.2.1 1, 96, .inl gg)), (qj, .inr (2, [.ref jt, .ref je, .ref ju, .ref ja])), (ju, .inl (E.2.1 1, 32, .inl t2))] 0 0 := by
                intro fu
                induction fu with
                | zero => intro i4 f4 hi4 hf4 hmeas; exact absurd hmeas (Nat.not_lt_zero _)
                | succ fu ih_128 =>
                  intro i4 f4 hi4 hf4 hmeas
                  refine ww_iload C dX3_measure_128 0 rfl ?_
                  refine ww_aload_n C dX3_measure_130 1 rfl rfl ?_
                  refine ww_get C fg_X3_32 0 rfl rfl dX3_measure_131 ?_
                  refine ww_icmp_ge (tgt := 173) C dX3_measure_134 (by decide) (fun c_4 => ?_) (fun c_4 => ?_)
                  · have zc_4 : ((i4 : Nat) : Int) ≥ ((n : Nat) : Int) := i_le (nI_toInt (n := n) (by omega)) (nI_toInt (n := i4) (by omega)) c_4
                    exact ww_vret (u := [(ly, .inr (3, [.ref lym, .int (nI (pcs c2 i4)), .int (nI n), .ref lyc, .ref lyf, .ref lyq])), (lyc, .inl (E.2.1 1, 24, .inl c2)), (lyf, .inl (E.2.1 1, 24, .inl f4)), (h, .inr (4, [.int (nI n), .int (nI r), .ref a, .ref b])), (a, .inl (E.2.1 1, 24, .inl f)), (b, .inl (E.2.1 1, 96, .inl gg)), (qj, .inr (2, [.ref jt, .ref je, .ref ju, .ref ja])), (ju, .inl (E.2.1 1, 32, .inl t2))]) C hT [0, 1, 2, 3, 4, 5, 6, 7] rfl rfl rfl rfl dX3_measure_173 (⟨(pcs c2 i4), c2, f4, t2, rfl, ⟨CBx.up hc2 (by omega), by rw [show n = i4 by omega]; exact hf4, by rw [show n = i4 by omega]⟩, (by have := pcs_le c2 i4; omega), (by rw [show ecs = i2 by omega]; exact hc2), (LYx.lym hlx2 (by omega)), (by rw [show i4 = n by omega]; exact ly_w (LYx.lym hlx2 (by omega)) n (Nat.le_refl _))⟩)
                  · have zc_4 : ((i4 : Nat) : Int) < ((n : Nat) : Int) := i_nle (nI_toInt (n := n) (by omega)) (nI_toInt (n := i4) (by omega)) c_4
                    refine ww_aload_n C dX3_measure_137 1 rfl rfl ?_
                    refine ww_get C fg_X3_22 0 rfl rfl dX3_measure_138 ?_
                    refine ww_iload C dX3_measure_141 0 rfl ?_
                    refine ww_aload_n C dX3_measure_143 1 rfl rfl ?_
                    refine ww_get C fg_X3_54 0 rfl rfl dX3_measure_144 ?_
                    obtain ⟨f_5, ef_5⟩ : ∃ z : Nat → Int32, upd f4 i4 (nI (pcs c2 i4)) = z := ⟨_, rfl⟩
                    refine ww_iast (ws' := [(ly, .inr (3, [.ref lym, .int (nI (pcs c2 i4)), .int (nI n), .ref lyc, .ref lyf, .ref lyq])), (lyc, .inl (E.2.1 1, 24, .inl c2)), (lyf, .inl (E.2.1 1, 24, .inl f_5)), (h, .inr (4, [.int (nI n), .int (nI r), .ref a, .ref b])), (a, .inl (E.2.1 1, 24, .inl f)), (b, .inl (E.2.1 1, 96, .inl gg)), (qj, .inr (2, [.ref jt, .ref je, .ref ju, .ref ja])), (ju, .inl (E.2.1 1, 32, .inl t2))]) C 2 rfl (vp_in_nI (by omega) (by omega)) (ldn2 (by omega) ef_5) rfl dX3_measure_147 ?_
                    refine ww_aload_n C dX3_measure_148 1 rfl rfl ?_
                    refine ww_dup C dX3_measure_149 rfl ?_
                    refine ww_get C fg_X3_54 0 rfl rfl dX3_measure_150 ?_
                    refine ww_aload_n C dX3_measure_153 1 rfl rfl ?_
                    refine ww_get C fg_X3_18 0 rfl rfl dX3_measure_154 ?_
                    refine ww_iload C dX3_measure_157 0 rfl ?_
                    have hbx_6 := (hc2 i4 (by omega)).2
                    have hcx_6 := CBx.lt hc2 (by omega) (show i4 < n by omega)
                    refine ww_iald (v := (nI (cN c2 i4))) C 1 rfl (vp_in_nI (by omega) (by omega)) (ldn (by omega) (hc2 i4 (by omega)).1) dX3_measure_159 ?_
                    refine ww_ci (wr := [(ly, .inr (3, [.ref lym, .int (nI (pcs c2 i4)), .int (nI n), .ref lyc, .ref lyf, .ref lyq])), (lyc, .inl (E.2.1 1, 24, .inl c2)), (lyf, .inl (E.2.1 1, 24, .inl f_5)), (h, .inr (4, [.int (nI n), .int (nI r), .ref a, .ref b])), (a, .inl (E.2.1 1, 24, .inl f)), (b, .inl (E.2.1 1, 96, .inl gg)), (qj, .inr (2, [.ref jt, .ref je, .ref ju, .ref ja])), (ju, .inl (E.2.1 1, 32, .inl t2))]) (k' := 0) (n' := 0) C (run_S (As := [.int (nI (cN c2 i4))]) (rest := [.int (nI (pcs c2 i4)), .ref ly]) C (c_bitCount X.2.1 E ro (nI (cN c2 i4))) ms_J6_bitCount_0f7a4 wl_X3_57 rfl rfl rfl rfl dX3_measure_160) (roK hro) [] [0, 1, 2, 3, 4, 5, 6, 7] rfl rfl rfl rfl (fun r_7 uz hw => ?_)
                    refine an1 hw ?_
                    clear hw
                    intro he_8 hw
                    have he_9 := hw
                    clear hw
                    have he_8 := he_8.symm
                    subst he_8
                    subst he_9
                    refine ww_eq (ws' := [(ly, .inr (3, [.ref lym, .int (nI (pcs c2 i4)), .int (nI n), .ref lyc, .ref lyf, .ref lyq])), (lyc, .inl (E.2.1 1, 24, .inl c2)), (lyf, .inl (E.2.1 1, 24, .inl f_5)), (h, .inr (4, [.int (nI n), .int (nI r), .ref a, .ref b])), (a, .inl (E.2.1 1, 24, .inl f)), (b, .inl (E.2.1 1, 96, .inl gg)), (qj, .inr (2, [.ref jt, .ref je, .ref ju, .ref ja])), (ju, .inl (E.2.1 1, 32, .inl t2))]) ?_ rfl rfl rfl
                    refine ww_iadd (v := (nI (pcs c2 (i4 + 1)))) C dX3_measure_163 (pcs_step (cf := c2) (w := i4) (by omega)) ?_
                    refine ww_put (ws' := [(ly, .inr (3, [.ref lym, .int (nI (pcs c2 (i4 + 1))), .int (nI n), .ref lyc, .ref lyf, .ref lyq])), (lyc, .inl (E.2.1 1, 24, .inl c2)), (lyf, .inl (E.2.1 1, 24, .inl f_5)), (h, .inr (4, [.int (nI n), .int (nI r), .ref a, .ref b])), (a, .inl (E.2.1 1, 24, .inl f)), (b, .inl (E.2.1 1, 96, .inl gg)), (qj, .inr (2, [.ref jt, .ref je, .ref ju, .ref ja])), (ju, .inl (E.2.1 1, 32, .inl t2))]) C fp_X3_54 0 rfl rfl rfl rfl rfl dX3_measure_164 ?_
                    refine ww_iinc (j := 0) (v := (nI (i4 + 1))) (lv' := [(4, .int (nI (i4 + 1))), (0, .ref ly), (1, .ref h), (2, .ref e), (3, .ref qj)]) C dX3_measure_167 rfl (nI_add i4 1) rfl rfl ?_
                    refine ww_goto (tgt := 128) C dX3_measure_170 (by decide) ?_
                    exact ww_lv [0, 1, 2, 3, 4] rfl (ww_sub [0, 1, 2, 3, 4, 5, 6, 7] rfl rfl (ih_128 (i4 + 1) f_5 (by omega) (FPx.ext hf4 ef_5) (by omega)))
              exact ww_lv [0, 1, 2, 3, 4] rfl (ww_sub [0, 1, 2, 3, 4, 5, 6, 7] rfl rfl (loop_128 _ 0 ff (by omega) FPx.zero (Nat.lt_succ_self _)))
            · have zc_3 : ((i2 : Nat) : Int) < ((ecs : Nat) : Int) := i_nle (nI_toInt (n := ecs) (by omega)) (nI_toInt (n := i2) (by omega)) c_3
              refine ww_aload_n C dX3_measure_46 3 rfl rfl ?_
              refine ww_getR C hro fg_X3_40 i0y_1 g0y_1 rfl dX3_measure_47 ?_
              refine ww_iload C dX3_measure_50 0 rfl ?_
              rcases hq_10 : fiy_1 i2 with _ | a_11
              · refine ww_aldR (v := none) (t0 := 7) C hro i1y_1 g1y_1 rfl (vp_in_nI (by omega) (by omega)) (ldn (by omega) hq_10) dX3_measure_52 ?_
                refine ww_eq (st' := [.null]) ?_ rfl rfl rfl
                refine ww_astoreN (lv' := [(5, .null), (4, .int (nI i2)), (0, .ref ly), (1, .ref h), (2, .ref e), (3, .ref qj)]) C dX3_measure_53 rfl rfl ?_
                refine ww_aloadN C dX3_measure_55 0 rfl ?_
                refine ww_ifnonnullN C dX3_measure_57 ?_
                refine ww_aload_n C dX3_measure_60 3 rfl rfl ?_
                refine ww_ci (wr := [(ly, .inr (3, [.ref lym, .int pr, .int (nI n), .ref lyc, .ref lyf, .ref lyq])), (lyc, .inl (E.2.1 1, 24, .inl c2)), (lyf, .inl (E.2.1 1, 24, .inl ff)), (a, .inl (E.2.1 1, 24, .inl f)), (b, .inl (E.2.1 1, 96, .inl gg)), (qj, .inr (2, [.ref jt, .ref je, .ref ju, .ref ja])), (ju, .inl (E.2.1 1, 32, .inl t2))]) (k' := 0) (n' := 0) C (run_V (As := []) (rest := []) C (m_all X.2.1 E ro h n r a b (by omega)) mi_X4_all wl_X3_44 rfl 0 4 rfl rfl rfl rfl rfl dX3_measure_61) (roK hro) [3] [0, 1, 2, 4, 5, 6, 7] rfl rfl rfl rfl (fun r_12 uz hw => ?_)
                refine an1 hw ?_
                clear hw
                intro he_14 hw
                have h_13 := hw
                clear hw
                subst he_14
                refine ww_eq (ws' := [(ly, .inr (3, [.ref lym, .int pr, .int (nI n), .ref lyc, .ref lyf, .ref lyq])), (lyc, .inl (E.2.1 1, 24, .inl c2)), (lyf, .inl (E.2.1 1, 24, .inl ff)), (a, .inl (E.2.1 1, 24, .inl f)), (b, .inl (E.2.1 1, 96, .inl gg)), (qj, .inr (2, [.ref jt, .ref je, .ref ju, .ref ja])), (ju, .inl (E.2.1 1, 32, .inl t2)), (h, .inr (4, [.int (nI n), .int (nI r), .ref a, .ref b]))]) ?_ rfl rfl rfl
                refine ww_goto (tgt := 74) C dX3_measure_64 (by decide) ?_
                refine ww_istore (lv' := [(6, .int r_12), (5, .null), (4, .int (nI i2)), (0, .ref ly), (1, .ref h), (2, .ref e), (3, .ref qj)]) C dX3_measure_74 rfl rfl ?_
                refine ww_iconst (v := 0) C dX3_measure_76 rfl ?_
                refine ww_istore (lv' := [(7, .int 0), (6, .int r_12), (5, .null), (4, .int (nI i2)), (0, .ref ly), (1, .ref h), (2, .ref e), (3, .ref qj)]) C dX3_measure_77 rfl rfl ?_
                have hwh : BS r_12 (canE (am n r f gg) (eT i2)) := by rw [SYT.no hfiy_1 (by omega) hq_10]; exact all_bs h_13
                have loop_79 : ∀ (fu : Nat) (i3_16 : Nat) (c3_15 : Nat → Int32), (i3_16 ≤ n) → (CBx n (i2 + 1) c3_15) → (LYx n (fun c w => canE (am n r f gg) (eT c) w) i2 i3_16 c3_15) → n - i3_16 < fu → WW X 8 E 79 [(7, .int (nI i3_16)), (6, .int r_12), (5, .null), (4, .int (nI i2)), (0, .ref ly), (1, .ref h), (2, .ref e), (3, .ref qj)] [] [(ly, .inr (3, [.ref lym, .int pr, .int (nI n), .ref lyc, .ref lyf, .ref lyq])), (lyc, .inl (E.2.1 1, 24, .inl c3_15)), (lyf, .inl (E.2.1 1, 24, .inl ff)), (a, .inl (E.2.1 1, 24, .inl f)), (b, .inl (E.2.1 1, 96, .inl gg)), (qj, .inr (2, [.ref jt, .ref je, .ref ju, .ref ja])), (ju, .inl (E.2.1 1, 32, .inl t2)), (h, .inr (4, [.int (nI n), .int (nI r), .ref a, .ref b]))] 0 0 := by
                  intro fu
                  induction fu with
                  | zero => intro i3_16 c3_15 hi3_16 hc3_15 hlx3 hmeas; exact absurd hmeas (Nat.not_lt_zero _)
                  | succ fu ih_79 =>
                    intro i3_16 c3_15 hi3_16 hc3_15 hlx3 hmeas
                    refine ww_iload C dX3_measure_79 0 rfl ?_
                    refine ww_aload_n C dX3_measure_81 4 rfl rfl ?_
                    refine ww_get C fg_X3_32 0 rfl rfl dX3_measure_82 ?_
                    refine ww_icmp_ge (tgt := 114) C dX3_measure_85 (by decide) (fun c_17 => ?_) (fun c_17 => ?_)
                    · have zc_17 : ((i3_16 : Nat) : Int) ≥ ((n : Nat) : Int) := i_le (nI_toInt (n := n) (by omega)) (nI_toInt (n := i3_16) (by omega)) c_17
                      refine ww_iinc (j := 3) (v := (nI (i2 + 1))) (lv' := [(4, .int (nI (i2 + 1))), (7, .int (nI i3_16)), (6, .int r_12), (5, .null), (0, .ref ly), (1, .ref h), (2, .ref e), (3, .ref qj)]) C dX3_measure_114 rfl (nI_add i2 1) rfl rfl ?_
                      refine ww_goto (tgt := 37) C dX3_measure_117 (by decide) ?_
                      exact ww_lv [0, 4, 5, 6, 7] rfl (ww_sub [0, 1, 2, 7, 3, 4, 5, 6] rfl rfl (ih_37 (i2 + 1) c3_15 t2 (by omega) hc3_15 (LYx.up hlx3 (by omega)) (by omega)))
                    · have zc_17 : ((i3_16 : Nat) : Int) < ((n : Nat) : Int) := i_nle (nI_toInt (n := n) (by omega)) (nI_toInt (n := i3_16) (by omega)) c_17
                      refine ww_aload_n C dX3_measure_88 4 rfl rfl ?_
                      refine ww_get C fg_X3_18 0 rfl rfl dX3_measure_89 ?_
                      refine ww_iload C dX3_measure_92 0 rfl ?_
                      refine ww_dup2 C dX3_measure_94 rfl rfl ?_
                      have hbx_18 := (hc3_15 i3_16 (by omega)).2
                      have hcx_18 := CBx.lt hc3_15 (by omega) (show i3_16 < n by omega)
                      refine ww_iald (v := (nI (cN c3_15 i3_16))) C 1 rfl (vp_in_nI (by omega) (by omega)) (ldn (by omega) (hc3_15 i3_16 (by omega)).1) dX3_measure_95 ?_
                      refine ww_iload C dX3_measure_96 1 rfl ?_
                      refine ww_iload C dX3_measure_98 0 rfl ?_
                      obtain ⟨x_19, ex_19⟩ : ∃ z : Int32, r_12 >>> ((nI i3_16) &&& 31) = z := ⟨_, rfl⟩
                      refine ww_ishr (v := x_19) C dX3_measure_100 ex_19 ?_
                      refine ww_iconst (v := 1) C dX3_measure_101 rfl ?_
                      obtain ⟨j_20, hj_20, ej_20⟩ := pk_andE x_19 (m := 1) 1 rfl
                      refine ww_iand (v := (nI j_20)) C dX3_measure_102 ej_20 ?_
                      refine ww_iload C dX3_measure_103 3 rfl ?_
                      obtain ⟨y_21, ey_21⟩ : ∃ z : Int32, (nI j_20) <<< ((nI i2) &&& 31) = z := ⟨_, rfl⟩
                      refine ww_ishl (v := y_21) C dX3_measure_105 ey_21 ?_
                      obtain ⟨t_22, ht_22, et_22, dt_22⟩ : ∃ z : Nat, z < 2 ^ (i2 + 1) ∧ nI (cN c3_15 i3_16) ||| y_21 = nI z ∧ z = cN c3_15 i3_16 ||| j_20 * 2 ^ i2 := (fun q => ⟨_, q.2, q.1, rfl⟩) (orshX (a := cN c3_15 i3_16) (j := j_20) (c := i2) (by omega) hbx_18 (by omega) ey_21)
                      refine ww_ior (v := (nI t_22)) C dX3_measure_106 et_22 ?_
                      obtain ⟨f_23, ef_23⟩ : ∃ z : Nat → Int32, upd c3_15 i3_16 (nI t_22) = z := ⟨_, rfl⟩
                      refine ww_iast (ws' := [(ly, .inr (3, [.ref lym, .int pr, .int (nI n), .ref lyc, .ref lyf, .ref lyq])), (lyc, .inl (E.2.1 1, 24, .inl f_23)), (lyf, .inl (E.2.1 1, 24, .inl ff)), (a, .inl (E.2.1 1, 24, .inl f)), (b, .inl (E.2.1 1, 96, .inl gg)), (qj, .inr (2, [.ref jt, .ref je, .ref ju, .ref ja])), (ju, .inl (E.2.1 1, 32, .inl t2)), (h, .inr (4, [.int (nI n), .int (nI r), .ref a, .ref b]))]) C 1 rfl (vp_in_nI (by omega) (by omega)) (ldn2 (by omega) ef_23) rfl dX3_measure_107 ?_
                      refine ww_iinc (j := 0) (v := (nI (i3_16 + 1))) (lv' := [(7, .int (nI (i3_16 + 1))), (6, .int r_12), (5, .null), (4, .int (nI i2)), (0, .ref ly), (1, .ref h), (2, .ref e), (3, .ref qj)]) C dX3_measure_108 rfl (nI_add i3_16 1) rfl rfl ?_
                      refine ww_goto (tgt := 79) C dX3_measure_111 (by decide) ?_
                      exact ww_lv [0, 1, 2, 3, 4, 5, 6, 7] rfl (ww_sub [0, 1, 2, 3, 4, 5, 6, 7] rfl rfl (ih_79 (i3_16 + 1) f_23 (by omega) (CBx.put hc3_15 (by omega) ht_22 ef_23) (LYx.ext hlx3 (by omega) (by omega) (shj_b hwh (by omega) ex_19 ej_20 (by omega)) (by omega) dt_22 (by have h9 : 2 ^ (i2 + 1) ≤ 2 ^ 4 := Nat.pow_le_pow_right (by decide) (by omega); omega) ef_23) (by omega)))
                exact ww_lv [0, 1, 2, 3, 4, 5, 6, 7] rfl (ww_sub [0, 1, 2, 3, 4, 5, 6, 7] rfl rfl (loop_79 _ 0 c2 (by omega) (CBx.up hc2 (by omega)) hlx2 (Nat.lt_succ_self _)))
              · refine ww_aldR (v := (some a_11)) (t0 := 7) C hro i1y_1 g1y_1 rfl (vp_in_nI (by omega) (by omega)) (ldn (by omega) hq_10) dX3_measure_52 ?_
                refine ww_eq (st' := [.ref a_11]) ?_ rfl rfl rfl
                refine ww_astore (lv' := [(5, .ref a_11), (4, .int (nI i2)), (0, .ref ly), (1, .ref h), (2, .ref e), (3, .ref qj)]) C dX3_measure_53 rfl rfl ?_
                refine ww_aload C dX3_measure_55 0 rfl ?_
                refine ww_ifnonnull (tgt := 67) C dX3_measure_57 (by decide) ?_
                refine ww_aload_n C dX3_measure_67 5 rfl rfl ?_
                refine ww_aload_n C dX3_measure_68 3 rfl rfl ?_
                refine ww_aload C dX3_measure_69 0 rfl ?_
                refine ww_ci (wr := [(ly, .inr (3, [.ref lym, .int pr, .int (nI n), .ref lyc, .ref lyf, .ref lyq])), (lyc, .inl (E.2.1 1, 24, .inl c2)), (lyf, .inl (E.2.1 1, 24, .inl ff))]) (k' := 0) (n' := 0) C (run_V (As := [.ref h, .ref a_11]) (rest := []) C (j_plain X.2.1 E ro qj h a_11 jt je ju ja t2 n r a b f gg ((eT i2).getD sv0) (by omega) (by omega) (SYT.v hfiy_1 (by omega) hq_10) (by omega)) mi_X2_plain wl_X3_48 rfl 0 2 rfl rfl rfl rfl rfl dX3_measure_71) (roK hro) [6, 7, 3, 4, 5] [0, 1, 2] rfl rfl rfl rfl (fun r_26 uz hw => ?_)
                refine ex1 hw ?_
                clear hw
                intro ft2_27 hw
                refine an1 hw ?_
                clear hw
                intro he_29 hw
                have h_28 := hw
                clear hw
                subst he_29
                refine ww_eq (ws' := [(ly, .inr (3, [.ref lym, .int pr, .int (nI n), .ref lyc, .ref lyf, .ref lyq])), (lyc, .inl (E.2.1 1, 24, .inl c2)), (lyf, .inl (E.2.1 1, 24, .inl ff)), (qj, .inr (2, [.ref jt, .ref je, .ref ju, .ref ja])), (ju, .inl (E.2.1 1, 32, .inl ft2_27)), (h, .inr (4, [.int (nI n), .int (nI r), .ref a, .ref b])), (a, .inl (E.2.1 1, 24, .inl f)), (b, .inl (E.2.1 1, 96, .inl gg))]) ?_ rfl rfl rfl
                refine ww_istore (lv' := [(6, .int r_26), (5, .ref a_11), (4, .int (nI i2)), (0, .ref ly), (1, .ref h), (2, .ref e), (3, .ref qj)]) C dX3_measure_74 rfl rfl ?_
                refine ww_iconst (v := 0) C dX3_measure_76 rfl ?_
                refine ww_istore (lv' := [(7, .int 0), (6, .int r_26), (5, .ref a_11), (4, .int (nI i2)), (0, .ref ly), (1, .ref h), (2, .ref e), (3, .ref qj)]) C dX3_measure_77 rfl rfl ?_
                have hwh : BS r_26 (canE (am n r f gg) (eT i2)) := by rw [SYT.vs hfiy_1 (by omega) hq_10]; exact h_28
                have loop_79 : ∀ (fu : Nat) (i3_31 : Nat) (c3_30 : Nat → Int32), (i3_31 ≤ n) → (CBx n (i2 + 1) c3_30) → (LYx n (fun c w => canE (am n r f gg) (eT c) w) i2 i3_31 c3_30) → n - i3_31 < fu → WW X 8 E 79 [(7, .int (nI i3_31)), (6, .int r_26), (5, .ref a_11), (4, .int (nI i2)), (0, .ref ly), (1, .ref h), (2, .ref e), (3, .ref qj)] [] [(ly, .inr (3, [.ref lym, .int pr, .int (nI n), .ref lyc, .ref lyf, .ref lyq])), (lyc, .inl (E.2.1 1, 24, .inl c3_30)), (lyf, .inl (E.2.1 1, 24, .inl ff)), (qj, .inr (2, [.ref jt, .ref je, .ref ju, .ref ja])), (ju, .inl (E.2.1 1, 32, .inl ft2_27)), (h, .inr (4, [.int (nI n), .int (nI r), .ref a, .ref b])), (a, .inl (E.2.1 1, 24, .inl f)), (b, .inl (E.2.1 1, 96, .inl gg))] 0 0 := by
                  intro fu
                  induction fu with
                  | zero => intro i3_31 c3_30 hi3_31 hc3_30 hlx3 hmeas; exact absurd hmeas (Nat.not_lt_zero _)
                  | succ fu ih_79 =>
                    intro i3_31 c3_30 hi3_31 hc3_30 hlx3 hmeas
                    refine ww_iload C dX3_measure_79 0 rfl ?_
                    refine ww_aload_n C dX3_measure_81 4 rfl rfl ?_
                    refine ww_get C fg_X3_32 0 rfl rfl dX3_measure_82 ?_
                    refine ww_icmp_ge (tgt := 114) C dX3_measure_85 (by decide) (fun c_32 => ?_) (fun c_32 => ?_)
                    · have zc_32 : ((i3_31 : Nat) : Int) ≥ ((n : Nat) : Int) := i_le (nI_toInt (n := n) (by omega)) (nI_toInt (n := i3_31) (by omega)) c_32
                      refine ww_iinc (j := 3) (v := (nI (i2 + 1))) (lv' := [(4, .int (nI (i2 + 1))), (7, .int (nI i3_31)), (6, .int r_26), (5, .ref a_11), (0, .ref ly), (1, .ref h), (2, .ref e), (3, .ref qj)]) C dX3_measure_114 rfl (nI_add i2 1) rfl rfl ?_
                      refine ww_goto (tgt := 37) C dX3_measure_117 (by decide) ?_
                      exact ww_lv [0, 4, 5, 6, 7] rfl (ww_sub [0, 1, 2, 5, 6, 7, 3, 4] rfl rfl (ih_37 (i2 + 1) c3_30 ft2_27 (by omega) hc3_30 (LYx.up hlx3 (by omega)) (by omega)))
                    · have zc_32 : ((i3_31 : Nat) : Int) < ((n : Nat) : Int) := i_nle (nI_toInt (n := n) (by omega)) (nI_toInt (n := i3_31) (by omega)) c_32
                      refine ww_aload_n C dX3_measure_88 4 rfl rfl ?_
                      refine ww_get C fg_X3_18 0 rfl rfl dX3_measure_89 ?_
                      refine ww_iload C dX3_measure_92 0 rfl ?_
                      refine ww_dup2 C dX3_measure_94 rfl rfl ?_
                      have hbx_33 := (hc3_30 i3_31 (by omega)).2
                      have hcx_33 := CBx.lt hc3_30 (by omega) (show i3_31 < n by omega)
                      refine ww_iald (v := (nI (cN c3_30 i3_31))) C 1 rfl (vp_in_nI (by omega) (by omega)) (ldn (by omega) (hc3_30 i3_31 (by omega)).1) dX3_measure_95 ?_
                      refine ww_iload C dX3_measure_96 1 rfl ?_
                      refine ww_iload C dX3_measure_98 0 rfl ?_
                      obtain ⟨x_34, ex_34⟩ : ∃ z : Int32, r_26 >>> ((nI i3_31) &&& 31) = z := ⟨_, rfl⟩
                      refine ww_ishr (v := x_34) C dX3_measure_100 ex_34 ?_
                      refine ww_iconst (v := 1) C dX3_measure_101 rfl ?_
                      obtain ⟨j_35, hj_35, ej_35⟩ := pk_andE x_34 (m := 1) 1 rfl
                      refine ww_iand (v := (nI j_35)) C dX3_measure_102 ej_35 ?_
                      refine ww_iload C dX3_measure_103 3 rfl ?_
                      obtain ⟨y_36, ey_36⟩ : ∃ z : Int32, (nI j_35) <<< ((nI i2) &&& 31) = z := ⟨_, rfl⟩
                      refine ww_ishl (v := y_36) C dX3_measure_105 ey_36 ?_
                      obtain ⟨t_37, ht_37, et_37, dt_37⟩ : ∃ z : Nat, z < 2 ^ (i2 + 1) ∧ nI (cN c3_30 i3_31) ||| y_36 = nI z ∧ z = cN c3_30 i3_31 ||| j_35 * 2 ^ i2 := (fun q => ⟨_, q.2, q.1, rfl⟩) (orshX (a := cN c3_30 i3_31) (j := j_35) (c := i2) (by omega) hbx_33 (by omega) ey_36)
                      refine ww_ior (v := (nI t_37)) C dX3_measure_106 et_37 ?_
                      obtain ⟨f_38, ef_38⟩ : ∃ z : Nat → Int32, upd c3_30 i3_31 (nI t_37) = z := ⟨_, rfl⟩
                      refine ww_iast (ws' := [(ly, .inr (3, [.ref lym, .int pr, .int (nI n), .ref lyc, .ref lyf, .ref lyq])), (lyc, .inl (E.2.1 1, 24, .inl f_38)), (lyf, .inl (E.2.1 1, 24, .inl ff)), (qj, .inr (2, [.ref jt, .ref je, .ref ju, .ref ja])), (ju, .inl (E.2.1 1, 32, .inl ft2_27)), (h, .inr (4, [.int (nI n), .int (nI r), .ref a, .ref b])), (a, .inl (E.2.1 1, 24, .inl f)), (b, .inl (E.2.1 1, 96, .inl gg))]) C 1 rfl (vp_in_nI (by omega) (by omega)) (ldn2 (by omega) ef_38) rfl dX3_measure_107 ?_
                      refine ww_iinc (j := 0) (v := (nI (i3_31 + 1))) (lv' := [(7, .int (nI (i3_31 + 1))), (6, .int r_26), (5, .ref a_11), (4, .int (nI i2)), (0, .ref ly), (1, .ref h), (2, .ref e), (3, .ref qj)]) C dX3_measure_108 rfl (nI_add i3_31 1) rfl rfl ?_
                      refine ww_goto (tgt := 79) C dX3_measure_111 (by decide) ?_
                      exact ww_lv [0, 1, 2, 3, 4, 5, 6, 7] rfl (ww_sub [0, 1, 2, 3, 4, 5, 6, 7] rfl rfl (ih_79 (i3_31 + 1) f_38 (by omega) (CBx.put hc3_30 (by omega) ht_37 ef_38) (LYx.ext hlx3 (by omega) (by omega) (shj_b hwh (by omega) ex_34 ej_35 (by omega)) (by omega) dt_37 (by have h9 : 2 ^ (i2 + 1) ≤ 2 ^ 4 := Nat.pow_le_pow_right (by decide) (by omega); omega) ef_38) (by omega)))
                exact ww_lv [0, 1, 2, 3, 4, 5, 6, 7] rfl (ww_sub [0, 1, 2, 3, 4, 5, 6, 7] rfl rfl (loop_79 _ 0 c2 (by omega) (CBx.up hc2 (by omega)) hlx2 (Nat.lt_succ_self _)))
        exact ww_lv [0, 1, 2, 3, 4] rfl (ww_sub [0, 1, 2, 3, 4, 5, 6, 7] rfl rfl (loop_37 _ 0 c1 ft (by omega) hc1 (LYx.zero hz0) (Nat.lt_succ_self _)))
      · have zc_2 : ((i1 : Nat) : Int) < ((n : Nat) : Int) := i_nle (nI_toInt (n := n) (by omega)) (nI_toInt (n := i1) (by omega)) c_2
        refine ww_aload_n C dX3_measure_20 1 rfl rfl ?_
        refine ww_get C fg_X3_18 0 rfl rfl dX3_measure_21 ?_
        refine ww_iload C dX3_measure_24 0 rfl ?_
        refine ww_iconst (v := 0) C dX3_measure_26 rfl ?_
        obtain ⟨f_41, ef_41⟩ : ∃ z : Nat → Int32, upd c1 i1 0 = z := ⟨_, rfl⟩
        refine ww_iast (ws' := [(ly, .inr (3, [.ref lym, .int pr, .int (nI n), .ref lyc, .ref lyf, .ref lyq])), (lyc, .inl (E.2.1 1, 24, .inl f_41)), (lyf, .inl (E.2.1 1, 24, .inl ff)), (h, .inr (4, [.int (nI n), .int (nI r), .ref a, .ref b])), (a, .inl (E.2.1 1, 24, .inl f)), (b, .inl (E.2.1 1, 96, .inl gg)), (qj, .inr (2, [.ref jt, .ref je, .ref ju, .ref ja])), (ju, .inl (E.2.1 1, 32, .inl ft))]) C 1 rfl (vp_in_nI (by omega) (by omega)) (ldn2 (by omega) ef_41) rfl dX3_measure_27 ?_
        refine ww_iinc (j := 0) (v := (nI (i1 + 1))) (lv' := [(4, .int (nI (i1 + 1))), (0, .ref ly), (1, .ref h), (2, .ref e), (3, .ref qj)]) C dX3_measure_28 rfl (nI_add i1 1) rfl rfl ?_
        refine ww_goto (tgt := 11) C dX3_measure_31 (by decide) ?_
        exact ww_lv [0, 1, 2, 3, 4] rfl (ww_sub [0, 1, 2, 3, 4, 5, 6, 7] rfl rfl (ih_11 (i1 + 1) f_41 (by omega) (CBx.ext hc1 (t := 0) (by omega) (by decide) ef_41) (Z0x.ext hz0 ef_41) (by omega)))
  exact ww_lv [0, 1, 2, 3, 4] rfl (ww_sub [0, 1, 2, 3, 4, 5, 6, 7] rfl rfl (loop_11 _ 0 cf (by omega) CBx.zero Z0x.nil (Nat.lt_succ_self _)))
theorem dX3_lets_0 : decode cX3_lets 0 = .ok (.iload_n 1, 1) := by decide +kernel
theorem dX3_lets_1 : decode cX3_lets 1 = .ok (.aload_n 0, 1) := by decide +kernel
theorem dX3_lets_2 : decode cX3_lets 2 = .ok (.getfield 32, 3) := by decide +kernel
theorem dX3_lets_5 : decode cX3_lets 5 = .ok (.if_icmp .ge 20, 3) := by decide +kernel
theorem dX3_lets_25 : decode cX3_lets 25 = .ok (.iconst 0, 1) := by decide +kernel
theorem dX3_lets_26 : decode cX3_lets 26 = .ok (.ireturn, 1) := by decide +kernel
theorem dX3_lets_8 : decode cX3_lets 8 = .ok (.aload_n 0, 1) := by decide +kernel
theorem dX3_lets_9 : decode cX3_lets 9 = .ok (.getfield 18, 3) := by decide +kernel
theorem dX3_lets_12 : decode cX3_lets 12 = .ok (.iload_n 1, 1) := by decide +kernel
theorem dX3_lets_13 : decode cX3_lets 13 = .ok (.iaload, 1) := by decide +kernel
theorem dX3_lets_14 : decode cX3_lets 14 = .ok (.iload_n 2, 1) := by decide +kernel
theorem dX3_lets_15 : decode cX3_lets 15 = .ok (.invokestatic 63, 3) := by decide +kernel
theorem dX3_lets_18 : decode cX3_lets 18 = .ok (.ifCond .eq 7, 3) := by decide +kernel
theorem dX3_lets_21 : decode cX3_lets 21 = .ok (.iconst 1, 1) := by decide +kernel
theorem dX3_lets_22 : decode cX3_lets 22 = .ok (.goto 4, 3) := by decide +kernel
set_option maxRecDepth 100000 in
set_option maxHeartbeats 4000000 in
theorem l_lets (l : Launch) (E : EV) (ro : va_W) (ly : Nat) (w : Nat) (c : Nat) (lym : Nat) (Pp : Nat) (n : Nat) (lyc : Nat) (lyf : Nat) (lyq : Nat) (cf : Nat → Int32) (hn : n ≤ 24) (hw : w < 24) (hc : c < 4) (hC : C16 n cf) : CT l yX3_lets (Cond.code yX3_lets cX3_lets 3 (some .boolean) :: TB) ({ frames := 1, cells := 0, slots := 0, locals := 21 }) E ro [.ref ly, .int (nI w), .int (nI c)] [(ly, .inr (3, [.ref lym, .int (nI Pp), .int (nI n), .ref lyc, .ref lyf, .ref lyq])), (lyc, .inl (E.2.1 1, 24, .inl cf))] (Qi E (fun (rz : Int32) uz => (rz = 1 ∧ uz = [(ly, .inr (3, [.ref lym, .int (nI Pp), .int (nI n), .ref lyc, .ref lyf, .ref lyq])), (lyc, .inl (E.2.1 1, 24, .inl cf))] ∧ (w < n) ∧ ((cN cf w).testBit c = true)) ∨ (rz = 0 ∧ uz = [(ly, .inr (3, [.ref lym, .int (nI Pp), .int (nI n), .ref lyc, .ref lyf, .ref lyq])), (lyc, .inl (E.2.1 1, 24, .inl cf))] ∧ (w < n → (cN cf w).testBit c = false)))) 0 0 := by
  refine ct_of rfl rfl ?_
  intro X C hT hin hro
  show WW X 3 E 0 [(0, .ref ly), (1, .int (nI w)), (2, .int (nI c))] [] [(ly, .inr (3, [.ref lym, .int (nI Pp), .int (nI n), .ref lyc, .ref lyf, .ref lyq])), (lyc, .inl (E.2.1 1, 24, .inl cf))] 0 0
  refine ww_iload_n C dX3_lets_0 1 rfl rfl ?_
  refine ww_aload_n C dX3_lets_1 0 rfl rfl ?_
  refine ww_get C fg_X3_32 0 rfl rfl dX3_lets_2 ?_
  refine ww_icmp_ge (tgt := 25) C dX3_lets_5 (by decide) (fun c_1 => ?_) (fun c_1 => ?_)
  · have zc_1 : ((w : Nat) : Int) ≥ ((n : Nat) : Int) := i_le (nI_toInt (n := n) (by omega)) (nI_toInt (n := w) (by omega)) c_1
    refine ww_iconst (v := 0) C dX3_lets_25 rfl ?_
    exact ww_zret (u := [(ly, .inr (3, [.ref lym, .int (nI Pp), .int (nI n), .ref lyc, .ref lyf, .ref lyq])), (lyc, .inl (E.2.1 1, 24, .inl cf))]) C hT [0, 1] rfl rfl rfl rfl rfl dX3_lets_26 (Or.inr ⟨rfl, rfl, (fun h => absurd h (by omega))⟩)
  · have zc_1 : ((w : Nat) : Int) < ((n : Nat) : Int) := i_nle (nI_toInt (n := n) (by omega)) (nI_toInt (n := w) (by omega)) c_1
    refine ww_aload_n C dX3_lets_8 0 rfl rfl ?_
    refine ww_get C fg_X3_18 0 rfl rfl dX3_lets_9 ?_
    refine ww_iload_n C dX3_lets_12 1 rfl rfl ?_
    refine ww_iald (v := (nI (cN cf w))) C 1 rfl (vp_in_nI (by omega) (by omega)) (ldn (by omega) (hC w (by omega)).1) dX3_lets_13 ?_
    refine ww_iload_n C dX3_lets_14 2 rfl rfl ?_
    refine ww_ci (wr := [(ly, .inr (3, [.ref lym, .int (nI Pp), .int (nI n), .ref lyc, .ref lyf, .ref lyq])), (lyc, .inl (E.2.1 1, 24, .inl cf))]) (k' := 0) (n' := 0) C (run_SN (As := [.int (nI (cN cf w)), .int (nI c)]) (rest := []) C (c_hasN X.2.1 E ro (nI (cN cf w)) c (by omega)) ms_X11_has (List.mem_of_getElem? (i := 16) rfl) rfl rfl rfl rfl dX3_lets_15) (roK hro) [] [0, 1] rfl rfl rfl rfl (fun r_3 uz hw => ?_)
    rcases hw with hw | hw
    · refine an2 hw ?_
      clear hw
      intro he_5 he_6 hw
      have h_4 := hw
      clear hw
      have he_5 := he_5.symm
      subst he_5
      subst he_6
      refine ww_eq (ws' := [(ly, .inr (3, [.ref lym, .int (nI Pp), .int (nI n), .ref lyc, .ref lyf, .ref lyq])), (lyc, .inl (E.2.1 1, 24, .inl cf))]) ?_ rfl rfl rfl
      refine ww_if_eq_f (tgt := 25) C dX3_lets_18 (by decide) (by decide) ?_
      refine ww_iconst (v := 1) C dX3_lets_21 rfl ?_
      refine ww_goto (tgt := 26) C dX3_lets_22 (by decide) ?_
      exact ww_zret (u := [(ly, .inr (3, [.ref lym, .int (nI Pp), .int (nI n), .ref lyc, .ref lyf, .ref lyq])), (lyc, .inl (E.2.1 1, 24, .inl cf))]) C hT [0, 1] rfl rfl rfl rfl rfl dX3_lets_26 (Or.inl ⟨rfl, rfl, (by first | assumption | omega | decide), (lets_1 (CBx.lt hC (by omega) (by omega)) hc (by assumption))⟩)
    · refine an2 hw ?_
      clear hw
      intro he_8 he_9 hw
      have h_7 := hw
      clear hw
      have he_8 := he_8.symm
      subst he_8
      subst he_9
      refine ww_eq (ws' := [(ly, .inr (3, [.ref lym, .int (nI Pp), .int (nI n), .ref lyc, .ref lyf, .ref lyq])), (lyc, .inl (E.2.1 1, 24, .inl cf))]) ?_ rfl rfl rfl
      refine ww_if_eq_t (tgt := 25) C dX3_lets_18 (by decide) (rfl) ?_
      refine ww_iconst (v := 0) C dX3_lets_25 rfl ?_
      exact ww_zret (u := [(ly, .inr (3, [.ref lym, .int (nI Pp), .int (nI n), .ref lyc, .ref lyf, .ref lyq])), (lyc, .inl (E.2.1 1, 24, .inl cf))]) C hT [0, 1] rfl rfl rfl rfl rfl dX3_lets_26 (Or.inr ⟨rfl, rfl, (fun _ => lets_0 (CBx.lt hC (by omega) (by omega)) hc (by assumption))⟩)
