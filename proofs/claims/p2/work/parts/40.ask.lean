theorem dX7_ask_0 : decode cX7_ask 0 = .ok (.aload_n 0, 1) := by decide +kernel
theorem dX7_ask_1 : decode cX7_ask 1 = .ok (.aload_n 1, 1) := by decide +kernel
theorem dX7_ask_2 : decode cX7_ask 2 = .ok (.invokevirtual 22, 3) := by decide +kernel
theorem wl_X7_22 : Cond.methodLink RX7 22 yX4_all ∈ TB := tbm (tq4 (List.mem_of_getElem? (i := 196) (by decide +kernel))) (by decide +kernel)
theorem dX7_ask_5 : decode cX7_ask 5 = .ok (.putfield 26, 3) := by decide +kernel
theorem uw_X7 : ∀ w ∈ u_ws RX7 TX7 5, w ∈ TB := uw_of [276, 278, 280, 282, 284] (by decide +kernel) (by decide +kernel)
theorem wf_X7_26 : Cond.fieldLink RX7 26 RX7 "stay" "I" ∈ TB := tbm (tq2 (List.mem_of_getElem? (i := 32) (by decide +kernel))) (by decide +kernel)
theorem fp_X7_26 : FP RX7 26 7 3 .int false := ⟨RX7, TX7, 5, tyX7, uw_X7, wf_X7_26, rfl, by decide, rfl, tyX7_ok, nmX7, rfl, by decide +kernel⟩
theorem dX7_ask_8 : decode cX7_ask 8 = .ok (.aload_n 0, 1) := by decide +kernel
theorem dX7_ask_9 : decode cX7_ask 9 = .ok (.iconst 0, 1) := by decide +kernel
theorem dX7_ask_10 : decode cX7_ask 10 = .ok (.putfield 30, 3) := by decide +kernel
theorem wf_X7_30 : Cond.fieldLink RX7 30 RX7 "knew" "I" ∈ TB := tbm (tq2 (List.mem_of_getElem? (i := 34) (by decide +kernel))) (by decide +kernel)
theorem fp_X7_30 : FP RX7 30 7 4 .int false := ⟨RX7, TX7, 5, tyX7, uw_X7, wf_X7_30, rfl, by decide, rfl, tyX7_ok, nmX7, rfl, by decide +kernel⟩
theorem dX7_ask_13 : decode cX7_ask 13 = .ok (.iconst 0, 1) := by decide +kernel
theorem dX7_ask_14 : decode cX7_ask 14 = .ok (.istore 5, 2) := by decide +kernel
theorem dX7_ask_16 : decode cX7_ask 16 = .ok (.iload 5, 2) := by decide +kernel
theorem dX7_ask_18 : decode cX7_ask 18 = .ok (.iconst 4, 1) := by decide +kernel
theorem dX7_ask_19 : decode cX7_ask 19 = .ok (.if_icmp .ge 153, 3) := by decide +kernel
theorem dX7_ask_172 : decode cX7_ask 172 = .ok (.return_, 1) := by decide +kernel
theorem dX7_ask_22 : decode cX7_ask 22 = .ok (.aload_n 2, 1) := by decide +kernel
theorem dX7_ask_23 : decode cX7_ask 23 = .ok (.getfield 33, 3) := by decide +kernel
theorem wf_X7_33 : Cond.fieldLink RX7 33 RX2 "told" "[LWhoKnows$Saying;" ∈ TB := tbm (tq1 (List.mem_of_getElem? (i := 213) (by decide +kernel))) (by decide +kernel)
theorem fg_X7_33 : FG RX7 33 2 0 := ⟨RX2, TX2, 4, uw_X2, wf_X7_33, rfl, by decide, rfl⟩
theorem dX7_ask_26 : decode cX7_ask 26 = .ok (.iload 4, 2) := by decide +kernel
theorem dX7_ask_28 : decode cX7_ask 28 = .ok (.iconst 3, 1) := by decide +kernel
theorem dX7_ask_29 : decode cX7_ask 29 = .ok (.iload 5, 2) := by decide +kernel
theorem dX7_ask_31 : decode cX7_ask 31 = .ok (.imul, 1) := by decide +kernel
theorem dX7_ask_32 : decode cX7_ask 32 = .ok (.ishr, 1) := by decide +kernel
theorem dX7_ask_33 : decode cX7_ask 33 = .ok (.bipush 7, 2) := by decide +kernel
theorem dX7_ask_35 : decode cX7_ask 35 = .ok (.iand, 1) := by decide +kernel
theorem dX7_ask_36 : decode cX7_ask 36 = .ok (.aaload, 1) := by decide +kernel
theorem dX7_ask_37 : decode cX7_ask 37 = .ok (.astore 6, 2) := by decide +kernel
theorem dX7_ask_39 : decode cX7_ask 39 = .ok (.iload_n 3, 1) := by decide +kernel
theorem dX7_ask_40 : decode cX7_ask 40 = .ok (.iload 5, 2) := by decide +kernel
theorem dX7_ask_42 : decode cX7_ask 42 = .ok (.invokestatic 39, 3) := by decide +kernel
theorem dX7_ask_45 : decode cX7_ask 45 = .ok (.ifCond .eq 121, 3) := by decide +kernel
theorem dX7_ask_48 : decode cX7_ask 48 = .ok (.aload 6, 2) := by decide +kernel
theorem dX7_ask_50 : decode cX7_ask 50 = .ok (.ifnull 116, 3) := by decide +kernel
theorem dX7_ask_166 : decode cX7_ask 166 = .ok (.iinc 5 1, 3) := by decide +kernel
theorem dX7_ask_169 : decode cX7_ask 169 = .ok (.goto (-153), 3) := by decide +kernel
theorem dX7_ask_53 : decode cX7_ask 53 = .ok (.aload_n 2, 1) := by decide +kernel
theorem dX7_ask_54 : decode cX7_ask 54 = .ok (.aload_n 1, 1) := by decide +kernel
theorem dX7_ask_55 : decode cX7_ask 55 = .ok (.aload 6, 2) := by decide +kernel
theorem dX7_ask_57 : decode cX7_ask 57 = .ok (.invokevirtual 43, 3) := by decide +kernel
theorem wl_X7_43 : Cond.methodLink RX7 43 yX2_whole ∈ TB := tbm (tq4 (List.mem_of_getElem? (i := 198) (by decide +kernel))) (by decide +kernel)
theorem wc_X2_whole : Cond.code yX2_whole cX2_whole 8 (some .int) ∈ TB := tbm (tq3 (List.mem_of_getElem? (i := 214) (rfl))) (by decide +kernel)
theorem wi_X2_whole : Cond.instanceMethod yX2_whole ∈ TB := tbm (tq3 (List.mem_of_getElem? (i := 212) (by decide +kernel))) (by decide +kernel)
theorem ws_X2_whole : Cond.selects RX2 yX2_whole yX2_whole ∈ TB := tbm (tq3 (List.mem_of_getElem? (i := 213) (by decide +kernel))) (by decide +kernel)
theorem mi_X2_whole : MI yX2_whole cX2_whole 8 (some .int) 2 := ⟨wc_X2_whole, wn_X2, ⟨by decide +kernel, by decide +kernel, by decide +kernel⟩, wi_X2_whole, ws_X2_whole⟩
theorem dX7_ask_60 : decode cX7_ask 60 = .ok (.istore 7, 2) := by decide +kernel
theorem dX7_ask_62 : decode cX7_ask 62 = .ok (.aload_n 1, 1) := by decide +kernel
theorem dX7_ask_63 : decode cX7_ask 63 = .ok (.iconst 1, 1) := by decide +kernel
theorem dX7_ask_64 : decode cX7_ask 64 = .ok (.iload 5, 2) := by decide +kernel
theorem dX7_ask_66 : decode cX7_ask 66 = .ok (.ishl, 1) := by decide +kernel
theorem dX7_ask_67 : decode cX7_ask 67 = .ok (.iload 7, 2) := by decide +kernel
theorem dX7_ask_69 : decode cX7_ask 69 = .ok (.iconst 1, 1) := by decide +kernel
theorem dX7_ask_70 : decode cX7_ask 70 = .ok (.invokevirtual 47, 3) := by decide +kernel
theorem wl_X7_47 : Cond.methodLink RX7 47 yX4_leadingTo ∈ TB := tbm (tq4 (List.mem_of_getElem? (i := 199) (by decide +kernel))) (by decide +kernel)
theorem dX7_ask_73 : decode cX7_ask 73 = .ok (.istore 8, 2) := by decide +kernel
theorem dX7_ask_75 : decode cX7_ask 75 = .ok (.aload_n 1, 1) := by decide +kernel
theorem dX7_ask_76 : decode cX7_ask 76 = .ok (.iconst 1, 1) := by decide +kernel
theorem dX7_ask_77 : decode cX7_ask 77 = .ok (.iload 5, 2) := by decide +kernel
theorem dX7_ask_79 : decode cX7_ask 79 = .ok (.ishl, 1) := by decide +kernel
theorem dX7_ask_80 : decode cX7_ask 80 = .ok (.aload_n 1, 1) := by decide +kernel
theorem dX7_ask_81 : decode cX7_ask 81 = .ok (.invokevirtual 22, 3) := by decide +kernel
theorem dX7_ask_84 : decode cX7_ask 84 = .ok (.iload 7, 2) := by decide +kernel
theorem dX7_ask_86 : decode cX7_ask 86 = .ok (.iconst (-1), 1) := by decide +kernel
theorem dX7_ask_87 : decode cX7_ask 87 = .ok (.ixor, 1) := by decide +kernel
theorem dX7_ask_88 : decode cX7_ask 88 = .ok (.iand, 1) := by decide +kernel
theorem dX7_ask_89 : decode cX7_ask 89 = .ok (.iconst 1, 1) := by decide +kernel
theorem dX7_ask_90 : decode cX7_ask 90 = .ok (.invokevirtual 47, 3) := by decide +kernel
theorem dX7_ask_93 : decode cX7_ask 93 = .ok (.istore 9, 2) := by decide +kernel
theorem dX7_ask_95 : decode cX7_ask 95 = .ok (.iload 8, 2) := by decide +kernel
theorem dX7_ask_97 : decode cX7_ask 97 = .ok (.iload 9, 2) := by decide +kernel
theorem dX7_ask_99 : decode cX7_ask 99 = .ok (.iand, 1) := by decide +kernel
theorem dX7_ask_100 : decode cX7_ask 100 = .ok (.istore 10, 2) := by decide +kernel
theorem dX7_ask_102 : decode cX7_ask 102 = .ok (.iload 10, 2) := by decide +kernel
theorem dX7_ask_104 : decode cX7_ask 104 = .ok (.aload_n 1, 1) := by decide +kernel
theorem dX7_ask_105 : decode cX7_ask 105 = .ok (.getfield 51, 3) := by decide +kernel
theorem wf_X7_51 : Cond.fieldLink RX7 51 RX4 "realOne" "I" ∈ TB := tbm (tq1 (List.mem_of_getElem? (i := 39) (by decide +kernel))) (by decide +kernel)
theorem fg_X7_51 : FG RX7 51 4 1 := ⟨RX4, TX4, 4, uw_X4, wf_X7_51, rfl, by decide, rfl⟩
theorem dX7_ask_108 : decode cX7_ask 108 = .ok (.invokestatic 39, 3) := by decide +kernel
theorem dX7_ask_111 : decode cX7_ask 111 = .ok (.ifCond .ne 7, 3) := by decide +kernel
theorem dX7_ask_118 : decode cX7_ask 118 = .ok (.iconst 0, 1) := by decide +kernel
theorem dX7_ask_119 : decode cX7_ask 119 = .ok (.istore 11, 2) := by decide +kernel
theorem dX7_ask_121 : decode cX7_ask 121 = .ok (.aload_n 0, 1) := by decide +kernel
theorem dX7_ask_122 : decode cX7_ask 122 = .ok (.dup, 1) := by decide +kernel
theorem dX7_ask_123 : decode cX7_ask 123 = .ok (.getfield 26, 3) := by decide +kernel
theorem fg_X7_26 : FG RX7 26 7 3 := ⟨RX7, TX7, 5, uw_X7, wf_X7_26, rfl, by decide, rfl⟩
theorem dX7_ask_126 : decode cX7_ask 126 = .ok (.iload 11, 2) := by decide +kernel
theorem dX7_ask_128 : decode cX7_ask 128 = .ok (.ifCond .eq 10, 3) := by decide +kernel
theorem dX7_ask_138 : decode cX7_ask 138 = .ok (.iload 10, 2) := by decide +kernel
theorem dX7_ask_140 : decode cX7_ask 140 = .ok (.iand, 1) := by decide +kernel
theorem dX7_ask_141 : decode cX7_ask 141 = .ok (.putfield 26, 3) := by decide +kernel
theorem dX7_ask_144 : decode cX7_ask 144 = .ok (.aload_n 0, 1) := by decide +kernel
theorem dX7_ask_145 : decode cX7_ask 145 = .ok (.dup, 1) := by decide +kernel
theorem dX7_ask_146 : decode cX7_ask 146 = .ok (.getfield 30, 3) := by decide +kernel
theorem fg_X7_30 : FG RX7 30 7 4 := ⟨RX7, TX7, 5, uw_X7, wf_X7_30, rfl, by decide, rfl⟩
theorem dX7_ask_149 : decode cX7_ask 149 = .ok (.iload 11, 2) := by decide +kernel
theorem dX7_ask_151 : decode cX7_ask 151 = .ok (.ifCond .eq 10, 3) := by decide +kernel
theorem dX7_ask_161 : decode cX7_ask 161 = .ok (.iconst 0, 1) := by decide +kernel
theorem dX7_ask_162 : decode cX7_ask 162 = .ok (.ior, 1) := by decide +kernel
theorem dX7_ask_163 : decode cX7_ask 163 = .ok (.putfield 30, 3) := by decide +kernel
theorem dX7_ask_114 : decode cX7_ask 114 = .ok (.iconst 1, 1) := by decide +kernel
theorem dX7_ask_115 : decode cX7_ask 115 = .ok (.goto 4, 3) := by decide +kernel
theorem dX7_ask_131 : decode cX7_ask 131 = .ok (.iload 10, 2) := by decide +kernel
theorem dX7_ask_133 : decode cX7_ask 133 = .ok (.iconst (-1), 1) := by decide +kernel
theorem dX7_ask_134 : decode cX7_ask 134 = .ok (.ixor, 1) := by decide +kernel
theorem dX7_ask_135 : decode cX7_ask 135 = .ok (.goto 5, 3) := by decide +kernel
theorem dX7_ask_154 : decode cX7_ask 154 = .ok (.iconst 1, 1) := by decide +kernel
theorem dX7_ask_155 : decode cX7_ask 155 = .ok (.iload 5, 2) := by decide +kernel
theorem dX7_ask_157 : decode cX7_ask 157 = .ok (.ishl, 1) := by decide +kernel
theorem dX7_ask_158 : decode cX7_ask 158 = .ok (.goto 4, 3) := by decide +kernel
set_option maxRecDepth 100000 in
set_option maxHeartbeats 4000000 in
theorem r_ask (l : Launch) (E : EV) (ro : va_W) (rd : Nat) (h : Nat) (qj : Nat) (gr : Int32) (sg : Int32) (rt : Nat) (rf : Nat) (go0 : Int32) (st0 : Int32) (kn0 : Int32) (jt : Nat) (je : Nat) (ju : Nat) (ja : Nat) (ft : Nat → Int32) (fa : Nat → Option Nat) (la0 : Nat) (la1 : Nat) (la0m : Nat) (la0p : Int32) (la0w : Int32) (la0c : Nat) (la0f : Nat) (la0q : Nat) (la0fc : Nat → Int32) (la0ff : Nat → Int32) (la0fq : Nat → Int32) (la0n : Nat) (la0r : Nat) (la0x : Nat) (la0y : Nat) (la0gx : Nat → Int32) (la0gy : Nat → Int32) (la1m : Nat) (la1p : Int32) (la1w : Int32) (la1c : Nat) (la1f : Nat) (la1q : Nat) (la1fc : Nat → Int32) (la1ff : Nat → Int32) (la1fq : Nat → Int32) (la1n : Nat) (la1r : Nat) (la1x : Nat) (la1y : Nat) (la1gx : Nat → Int32) (la1gy : Nat → Int32) (fto : Nat → Option Nat) (n : Nat) (r : Nat) (a : Nat) (b : Nat) (f : Nat → Int32) (gg : Nat → Int32) (vc : Nat → Nat) (vr : Nat → Nat) (vi : Nat → Nat → Option SVal) (vs : Nat → Nat → Int32) (vn : Nat → Nat → Int32) (vp : Nat → Nat → Int32) (tT : Nat → Option SVal) (k_fa_0 : fa 0 = some la0) (k_fa_1 : fa 1 = some la1) (hn : n ≤ 24) (hrn : r < n) (hla0n : la0n ≤ 24) (hla0r : la0r < la0n ∨ la0r = 0) (hla1n : la1n ≤ 24) (hla1r : la1r < la1n ∨ la1r = 0) (hEV : EVA E ro je vc vr vi vs vn vp) (hto : SYT E ro 8 fto tT) (hwfm : WFm (am n r f gg)) : CT l yX7_ask (Cond.code yX7_ask cX7_ask 12 none :: TB) ({ frames := 5, cells := 0, slots := 0, locals := 135 }) E ro [.ref rd, .ref h, .ref qj, .int gr, .int sg] [(rd, .inr (7, [.ref rt, .ref rf, .int go0, .int st0, .int kn0])), (qj, .inr (2, [.ref jt, .ref je, .ref ju, .ref ja])), (ju, .inl (E.2.1 1, 32, .inl ft)), (ja, .inl (E.2.1 5, 2, .inr (.inr (.inr (.inr fa))))), (la0, .inr (3, [.ref la0m, .int la0p, .int la0w, .ref la0c, .ref la0f, .ref la0q])), (la0c, .inl (E.2.1 1, 24, .inl la0fc)), (la0f, .inl (E.2.1 1, 24, .inl la0ff)), (la0q, .inl (E.2.1 1, 4, .inl la0fq)), (la0m, .inr (4, [.int (nI la0n), .int (nI la0r), .ref la0x, .ref la0y])), (la0x, .inl (E.2.1 1, 24, .inl la0gx)), (la0y, .inl (E.2.1 1, 96, .inl la0gy)), (la1, .inr (3, [.ref la1m, .int la1p, .int la1w, .ref la1c, .ref la1f, .ref la1q])), (la1c, .inl (E.2.1 1, 24, .inl la1fc)), (la1f, .inl (E.2.1 1, 24, .inl la1ff)), (la1q, .inl (E.2.1 1, 4, .inl la1fq)), (la1m, .inr (4, [.int (nI la1n), .int (nI la1r), .ref la1x, .ref la1y])), (la1x, .inl (E.2.1 1, 24, .inl la1gx)), (la1y, .inl (E.2.1 1, 96, .inl la1gy)), (jt, .inl (E.2.1 7, 8, .inr (.inr (.inr (.inr fto))))), (h, .inr (4, [.int (nI n), .int (nI r), .ref a, .ref b])), (a, .inl (E.2.1 1, 24, .inl f)), (b, .inl (E.2.1 1, 96, .inl gg))] (Qv E (fun uz => (∃ (st2 : Int32) (kn2 : Int32) (ft2 : Nat → Int32) (la0zp : Int32) (la0zw : Int32) (la0zn : Nat) (la0zr : Nat) (la0zfc : Nat → Int32) (la0zff : Nat → Int32) (la0zfq : Nat → Int32) (la0zgx : Nat → Int32) (la0zgy : Nat → Int32) (la1zp : Int32) (la1zw : Int32) (la1zn : Nat) (la1zr : Nat) (la1zfc : Nat → Int32) (la1zff : Nat → Int32) (la1zfq : Nat → Int32) (la1zgx : Nat → Int32) (la1zgy : Nat → Int32), uz = [(rd, .inr (7, [.ref rt, .ref rf, .int go0, .int st2, .int kn2])), (qj, .inr (2, [.ref jt, .ref je, .ref ju, .ref ja])), (ju, .inl (E.2.1 1, 32, .inl ft2)), (ja, .inl (E.2.1 5, 2, .inr (.inr (.inr (.inr fa))))), (la0, .inr (3, [.ref la0m, .int la0zp, .int la0zw, .ref la0c, .ref la0f, .ref la0q])), (la0c, .inl (E.2.1 1, 24, .inl la0zfc)), (la0f, .inl (E.2.1 1, 24, .inl la0zff)), (la0q, .inl (E.2.1 1, 4, .inl la0zfq)), (la0m, .inr (4, [.int (nI la0zn), .int (nI la0zr), .ref la0x, .ref la0y])), (la0x, .inl (E.2.1 1, 24, .inl la0zgx)), (la0y, .inl (E.2.1 1, 96, .inl la0zgy)), (la1, .inr (3, [.ref la1m, .int la1zp, .int la1zw, .ref la1c, .ref la1f, .ref la1q])), (la1c, .inl (E.2.1 1, 24, .inl la1zfc)), (la1f, .inl (E.2.1 1, 24, .inl la1zff)), (la1q, .inl (E.2.1 1, 4, .inl la1zfq)), (la1m, .inr (4, [.int (nI la1zn), .int (nI la1zr), .ref la1x, .ref la1y])), (la1x, .inl (E.2.1 1, 24, .inl la1zgx)), (la1y, .inl (E.2.1 1, 96, .inl la1zgy)), (jt, .inl (E.2.1 7, 8, .inr (.inr (.inr (.inr fto))))), (h, .inr (4, [.int (nI n), .int (nI r), .ref a, .ref b])), (a, .inl (E.2.1 1, 24, .inl f)), (b, .inl (E.2.1 1, 96, .inl gg))] ∧ (r < n → bt st2 r = true) ∧ (BS st2 (stS (am n r f gg) (ev6 vc vr vi vs vn vp) tT gr sg 4)) ∧ (BS kn2 (knS (am n r f gg) (ev6 vc vr vi vs vn vp) tT gr sg 4)) ∧ (la0zn ≤ 24) ∧ (la0zr < la0zn ∨ la0zr = 0) ∧ (la1zn ≤ 24) ∧ (la1zr < la1zn ∨ la1zr = 0)))) 0 0 := by
  refine ct_of rfl rfl ?_
  intro X C hT hin hro
  show WW X 12 E 0 [(0, .ref rd), (1, .ref h), (2, .ref qj), (3, .int gr), (4, .int sg)] [] [(rd, .inr (7, [.ref rt, .ref rf, .int go0, .int st0, .int kn0])), (qj, .inr (2, [.ref jt, .ref je, .ref ju, .ref ja])), (ju, .inl (E.2.1 1, 32, .inl ft)), (ja, .inl (E.2.1 5, 2, .inr (.inr (.inr (.inr fa))))), (la0, .inr (3, [.ref la0m, .int la0p, .int la0w, .ref la0c, .ref la0f, .ref la0q])), (la0c, .inl (E.2.1 1, 24, .inl la0fc)), (la0f, .inl (E.2.1 1, 24, .inl la0ff)), (la0q, .inl (E.2.1 1, 4, .inl la0fq)), (la0m, .inr (4, [.int (nI la0n), .int (nI la0r), .ref la0x, .ref la0y])), (la0x, .inl (E.2.1 1, 24, .inl la0gx)), (la0y, .inl (E.2.1 1, 96, .inl la0gy)), (la1, .inr (3, [.ref la1m, .int la1p, .int la1w, .ref la1c, .ref la1f, .ref la1q])), (la1c, .inl (E.2.1 1, 24, .inl la1fc)), (la1f, .inl (E.2.1 1, 24, .inl la1ff)), (la1q, .inl (E.2.1 1, 4, .inl la1fq)), (la1m, .inr (4, [.int (nI la1n), .int (nI la1r), .ref la1x, .ref la1y])), (la1x, .inl (E.2.1 1, 24, .inl la1gx)), (la1y, .inl (E.2.1 1, 96, .inl la1gy)), (jt, .inl (E.2.1 7, 8, .inr (.inr (.inr (.inr fto))))), (h, .inr (4, [.int (nI n), .int (nI r), .ref a, .ref b])), (a, .inl (E.2.1 1, 24, .inl f)), (b, .inl (E.2.1 1, 96, .inl gg))] 0 0
  obtain ⟨jei_, fe_, hje_, hall_⟩ := id hEV
  have hr : r < n ∨ r = 0 := Or.inl hrn
  refine ww_aload_n C dX7_ask_0 0 rfl rfl ?_
  refine ww_aload_n C dX7_ask_1 1 rfl rfl ?_
  refine ww_ci (wr := [(rd, .inr (7, [.ref rt, .ref rf, .int go0, .int st0, .int kn0])), (qj, .inr (2, [.ref jt, .ref je, .ref ju, .ref ja])), (ju, .inl (E.2.1 1, 32, .inl ft)), (ja, .inl (E.2.1 5, 2, .inr (.inr (.inr (.inr fa))))), (la0, .inr (3, [.ref la0m, .int la0p, .int la0w, .ref la0c, .ref la0f, .ref la0q])), (la0c, .inl (E.2.1 1, 24, .inl la0fc)), (la0f, .inl (E.2.1 1, 24, .inl la0ff)), (la0q, .inl (E.2.1 1, 4, .inl la0fq)), (la0m, .inr (4, [.int (nI la0n), .int (nI la0r), .ref la0x, .ref la0y])), (la0x, .inl (E.2.1 1, 24, .inl la0gx)), (la0y, .inl (E.2.1 1, 96, .inl la0gy)), (la1, .inr (3, [.ref la1m, .int la1p, .int la1w, .ref la1c, .ref la1f, .ref la1q])), (la1c, .inl (E.2.1 1, 24, .inl la1fc)), (la1f, .inl (E.2.1 1, 24, .inl la1ff)), (la1q, .inl (E.2.1 1, 4, .inl la1fq)), (la1m, .inr (4, [.int (nI la1n), .int (nI la1r), .ref la1x, .ref la1y])), (la1x, .inl (E.2.1 1, 24, .inl la1gx)), (la1y, .inl (E.2.1 1, 96, .inl la1gy)), (jt, .inl (E.2.1 7, 8, .inr (.inr (.inr (.inr fto))))), (a, .inl (E.2.1 1, 24, .inl f)), (b, .inl (E.2.1 1, 96, .inl gg))]) (k' := 0) (n' := 0) C (run_V (As := []) (rest := [.ref rd]) C (m_all X.2.1 E ro h n r a b (by omega)) mi_X4_all wl_X7_22 rfl 0 4 rfl rfl rfl rfl rfl dX7_ask_2) (roK hro) [19] [0, 1, 2, 3, 4, 5, 6, 7, 8, 9, 10, 11, 12, 13, 14, 15, 16, 17, 18, 20, 21] rfl rfl rfl rfl (fun r_1 uz hw => ?_)
  refine an1 hw ?_
  clear hw
  intro he_3 hw
  have h_2 := hw
  clear hw
  subst he_3
  refine ww_eq (ws' := [(rd, .inr (7, [.ref rt, .ref rf, .int go0, .int st0, .int kn0])), (qj, .inr (2, [.ref jt, .ref je, .ref ju, .ref ja])), (ju, .inl (E.2.1 1, 32, .inl ft)), (ja, .inl (E.2.1 5, 2, .inr (.inr (.inr (.inr fa))))), (la0, .inr (3, [.ref la0m, .int la0p, .int la0w, .ref la0c, .ref la0f, .ref la0q])), (la0c, .inl (E.2.1 1, 24, .inl la0fc)), (la0f, .inl (E.2.1 1, 24, .inl la0ff)), (la0q, .inl (E.2.1 1, 4, .inl la0fq)), (la0m, .inr (4, [.int (nI la0n), .int (nI la0r), .ref la0x, .ref la0y])), (la0x, .inl (E.2.1 1, 24, .inl la0gx)), (la0y, .inl (E.2.1 1, 96, .inl la0gy)), (la1, .inr (3, [.ref la1m, .int la1p, .int la1w, .ref la1c, .ref la1f, .ref la1q])), (la1c, .inl (E.2.1 1, 24, .inl la1fc)), (la1f, .inl (E.2.1 1, 24, .inl la1ff)), (la1q, .inl (E.2.1 1, 4, .inl la1fq)), (la1m, .inr (4, [.int (nI la1n), .int (nI la1r), .ref la1x, .ref la1y])), (la1x, .inl (E.2.1 1, 24, .inl la1gx)), (la1y, .inl (E.2.1 1, 96, .inl la1gy)), (jt, .inl (E.2.1 7, 8, .inr (.inr (.inr (.inr fto))))), (a, .inl (E.2.1 1, 24, .inl f)), (b, .inl (E.2.1 1, 96, .inl gg)), (h, .inr (4, [.int (nI n), .int (nI r), .ref a, .ref b]))]) ?_ rfl rfl rfl
  refine ww_put (ws' := [(rd, .inr (7, [.ref rt, .ref rf, .int go0, .int r_1, .int kn0])), (qj, .inr (2, [.ref jt, .ref je, .ref ju, .ref ja])), (ju, .inl (E.2.1 1, 32, .inl ft)), (ja, .inl (E.2.1 5, 2, .inr (.inr (.inr (.inr fa))))), (la0, .inr (3, [.ref la0m, .int la0p, .int la0w, .ref la0c, .ref la0f, .ref la0q])), (la0c, .inl (E.2.1 1, 24, .inl la0fc)), (la0f, .inl (E.2.1 1, 24, .inl la0ff)), (la0q, .inl (E.2.1 1, 4, .inl la0fq)), (la0m, .inr (4, [.int (nI la0n), .int (nI la0r), .ref la0x, .ref la0y])), (la0x, .inl (E.2.1 1, 24, .inl la0gx)), (la0y, .inl (E.2.1 1, 96, .inl la0gy)), (la1, .inr (3, [.ref la1m, .int la1p, .int la1w, .ref la1c, .ref la1f, .ref la1q])), (la1c, .inl (E.2.1 1, 24, .inl la1fc)), (la1f, .inl (E.2.1 1, 24, .inl la1ff)), (la1q, .inl (E.2.1 1, 4, .inl la1fq)), (la1m, .inr (4, [.int (nI la1n), .int (nI la1r), .ref la1x, .ref la1y])), (la1x, .inl (E.2.1 1, 24, .inl la1gx)), (la1y, .inl (E.2.1 1, 96, .inl la1gy)), (jt, .inl (E.2.1 7, 8, .inr (.inr (.inr (.inr fto))))), (a, .inl (E.2.1 1, 24, .inl f)), (b, .inl (E.2.1 1, 96, .inl gg)), (h, .inr (4, [.int (nI n), .int (nI r), .ref a, .ref b]))]) C fp_X7_26 0 rfl rfl rfl rfl rfl dX7_ask_5 ?_
  refine ww_aload_n C dX7_ask_8 0 rfl rfl ?_
  refine ww_iconst (v := 0) C dX7_ask_9 rfl ?_
  refine ww_put (ws' := [(rd, .inr (7, [.ref rt, .ref rf, .int go0, .int r_1, .int 0])), (qj, .inr (2, [.ref jt, .ref je, .ref ju, .ref ja])), (ju, .inl (E.2.1 1, 32, .inl ft)), (ja, .inl (E.2.1 5, 2, .inr (.inr (.inr (.inr fa))))), (la0, .inr (3, [.ref la0m, .int la0p, .int la0w, .ref la0c, .ref la0f, .ref la0q])), (la0c, .inl (E.2.1 1, 24, .inl la0fc)), (la0f, .inl (E.2.1 1, 24, .inl la0ff)), (la0q, .inl (E.2.1 1, 4, .inl la0fq)), (la0m, .inr (4, [.int (nI la0n), .int (nI la0r), .ref la0x, .ref la0y])), (la0x, .inl (E.2.1 1, 24, .inl la0gx)), (la0y, .inl (E.2.1 1, 96, .inl la0gy)), (la1, .inr (3, [.ref la1m, .int la1p, .int la1w, .ref la1c, .ref la1f, .ref la1q])), (la1c, .inl (E.2.1 1, 24, .inl la1fc)), (la1f, .inl (E.2.1 1, 24, .inl la1ff)), (la1q, .inl (E.2.1 1, 4, .inl la1fq)), (la1m, .inr (4, [.int (nI la1n), .int (nI la1r), .ref la1x, .ref la1y])), (la1x, .inl (E.2.1 1, 24, .inl la1gx)), (la1y, .inl (E.2.1 1, 96, .inl la1gy)), (jt, .inl (E.2.1 7, 8, .inr (.inr (.inr (.inr fto))))), (a, .inl (E.2.1 1, 24, .inl f)), (b, .inl (E.2.1 1, 96, .inl gg)), (h, .inr (4, [.int (nI n), .int (nI r), .ref a, .ref b]))]) C fp_X7_30 0 rfl rfl rfl rfl rfl dX7_ask_10 ?_
  refine ww_iconst (v := 0) C dX7_ask_13 rfl ?_
  refine ww_istore (lv' := [(5, .int 0), (0, .ref rd), (1, .ref h), (2, .ref qj), (3, .int gr), (4, .int sg)]) C dX7_ask_14 rfl rfl ?_
  have loop_16 : ∀ (fu : Nat) (k1 : Nat) (st1 : Int32) (kn1 : Int32) (ftq : Nat → Int32) (la0qp : Int32) (la0qw : Int32) (la0qn : Nat) (la0qr : Nat) (la0qfc : Nat → Int32) (la0qff : Nat → Int32) (la0qfq : Nat → Int32) (la0qgx : Nat → Int32) (la0qgy : Nat → Int32) (la1qp : Int32) (la1qw : Int32) (la1qn : Nat) (la1qr : Nat) (la1qfc : Nat → Int32) (la1qff : Nat → Int32) (la1qfq : Nat → Int32) (la1qgx : Nat → Int32) (la1qgy : Nat → Int32), (k1 ≤ 4) → (BS st1 (stS (am n r f gg) (ev6 vc vr vi vs vn vp) tT gr sg k1)) → (BS kn1 (knS (am n r f gg) (ev6 vc vr vi vs vn vp) tT gr sg k1)) → (la0qn ≤ 24) → (la0qr < la0qn ∨ la0qr = 0) → (la1qn ≤ 24) → (la1qr < la1qn ∨ la1qr = 0) → 4 - k1 < fu → WW X 12 E 16 [(5, .int (nI k1)), (0, .ref rd), (1, .ref h), (2, .ref qj), (3, .int gr), (4, .int sg)] [] [(rd, .inr (7, [.ref rt, .ref rf, .int go0, .int st1, .int kn1])), (qj, .inr (2, [.ref jt, .ref je, .ref ju, .ref ja])), (ju, .inl (E.2.1 1, 32, .inl ftq)), (ja, .inl (E.2.1 5, 2, .inr (.inr (.inr (.inr fa))))), (la0, .inr (3, [.ref la0m, .int la0qp, .int la0qw, .ref la0c, .ref la0f, .ref la0q])), (la0c, .inl (E.2.1 1, 24, .inl la0qfc)), (la0f, .inl (E.2.1 1, 24, .inl la0qff)), (la0q, .inl (E.2.1 1, 4, .inl la0qfq)), (la0m, .inr (4, [.int (nI la0qn), .int (nI la0qr), .ref la0x, .ref la0y])), (la0x, .inl (E.2.1 1, 24, .inl la0qgx)), (la0y, .inl (E.2.1 1, 96, .inl la0qgy)), (la1, .inr (3, [.ref la1m, .int la1qp, .int la1qw, .ref la1c, .ref la1f, .ref la1q])), (la1c, .inl (E.2.1 1, 24, .inl la1qfc)), (la1f, .inl (E.2.1 1, 24, .inl la1qff)), (la1q, .inl (E.2.1 1, 4, .inl la1qfq)), (la1m, .inr (4, [.int (nI la1qn), .int (nI la1qr), .ref la1x, .ref la1y])), (la1x, .inl (E.2.1 1, 24, .inl la1qgx)), (la1y, .inl (E.2.1 1, 96, .inl la1qgy)), (jt, .inl (E.2.1 7, 8, .inr (.inr (.inr (.inr fto))))), (a, .inl (E.2.1 1, 24, .inl f)), (b, .inl (E.2.1 1, 96, .inl gg)), (h, .inr (4, [.int (nI n), .int (nI r), .ref a, .ref b]))] 0 0 := by
    intro fu
    induction fu with
    | zero => intro k1 st1 kn1 ftq la0qp la0qw la0qn la0qr la0qfc la0qff la0qfq la0qgx la0qgy la1qp la1qw la1qn la1qr la1qfc la1qff la1qfq la1qgx la1qgy hk1 hst hkn hla0qn_ hla0qr_ hla1qn_ hla1qr_ hmeas; exact absurd hmeas (Nat.not_lt_zero _)
    | succ fu ih_16 =>
      intro k1 st1 kn1 ftq la0qp la0qw la0qn la0qr la0qfc la0qff la0qfq la0qgx la0qgy la1qp la1qw la1qn la1qr la1qfc la1qff la1qfq la1qgx la1qgy hk1 hst hkn hla0qn_ hla0qr_ hla1qn_ hla1qr_ hmeas
      refine ww_iload C dX7_ask_16 0 rfl ?_
      refine ww_iconst (v := 4) C dX7_ask_18 rfl ?_
      refine ww_icmp_ge (tgt := 172) C dX7_ask_19 (by decide) (fun c_4 => ?_) (fun c_4 => ?_)
      · have zc_4 : ((k1 : Nat) : Int) ≥ 4 := i_le rfl (nI_toInt (n := k1) (by omega)) c_4
        exact ww_vret (u := [(rd, .inr (7, [.ref rt, .ref rf, .int go0, .int st1, .int kn1])), (qj, .inr (2, [.ref jt, .ref je, .ref ju, .ref ja])), (ju, .inl (E.2.1 1, 32, .inl ftq)), (ja, .inl (E.2.1 5, 2, .inr (.inr (.inr (.inr fa))))), (la0, .inr (3, [.ref la0m, .int la0qp, .int la0qw, .ref la0c, .ref la0f, .ref la0q])), (la0c, .inl (E.2.1 1, 24, .inl la0qfc)), (la0f, .inl (E.2.1 1, 24, .inl la0qff)), (la0q, .inl (E.2.1 1, 4, .inl la0qfq)), (la0m, .inr (4, [.int (nI la0qn), .int (nI la0qr), .ref la0x, .ref la0y])), (la0x, .inl (E.2.1 1, 24, .inl la0qgx)), (la0y, .inl (E.2.1 1, 96, .inl la0qgy)), (la1, .inr (3, [.ref la1m, .int la1qp, .int la1qw, .ref la1c, .ref la1f, .ref la1q])), (la1c, .inl (E.2.1 1, 24, .inl la1qfc)), (la1f, .inl (E.2.1 1, 24, .inl la1qff)), (la1q, .inl (E.2.1 1, 4, .inl la1qfq)), (la1m, .inr (4, [.int (nI la1qn), .int (nI la1qr), .ref la1x, .ref la1y])), (la1x, .inl (E.2.1 1, 24, .inl la1qgx)), (la1y, .inl (E.2.1 1, 96, .inl la1qgy)), (jt, .inl (E.2.1 7, 8, .inr (.inr (.inr (.inr fto))))), (h, .inr (4, [.int (nI n), .int (nI r), .ref a, .ref b])), (a, .inl (E.2.1 1, 24, .inl f)), (b, .inl (E.2.1 1, 96, .inl gg))]) C hT [0, 1, 2, 3, 4, 5, 6, 7, 8, 9, 10, 11, 12, 13, 14, 15, 16, 17, 18, 21, 19, 20] rfl rfl rfl rfl dX7_ask_172 (⟨st1, kn1, ftq, la0qp, la0qw, la0qn, la0qr, la0qfc, la0qff, la0qfq, la0qgx, la0qgy, la1qp, la1qw, la1qn, la1qr, la1qfc, la1qff, la1qfq, la1qgx, la1qgy, rfl, (fun _ => by have h8 := (by have h9 : k1 = 4 := (by omega); rw [h9] at hst; exact hst); rw [h8 r (by omega)]; exact stS_real hwfm hrn 4), (by have h9 : k1 = 4 := (by omega); rw [h9] at hst; exact hst), (by have h9 : k1 = 4 := (by omega); rw [h9] at hkn; exact hkn), (by first | assumption | omega | decide), (by first | assumption | omega | decide), (by first | assumption | omega | decide), (by first | assumption | omega | decide)⟩)
      · have zc_4 : ((k1 : Nat) : Int) < 4 := i_nle rfl (nI_toInt (n := k1) (by omega)) c_4
        refine ww_aload_n C dX7_ask_22 3 rfl rfl ?_
        refine ww_get C fg_X7_33 1 rfl rfl dX7_ask_23 ?_
        refine ww_iload C dX7_ask_26 5 rfl ?_
        refine ww_iconst (v := 3) C dX7_ask_28 rfl ?_
        refine ww_iload C dX7_ask_29 0 rfl ?_
        refine ww_imul (v := (nI (3 * k1))) C dX7_ask_31 (pk_mul 3 k1) ?_
        obtain ⟨x_5, ex_5⟩ : ∃ z : Int32, sg >>> ((nI (3 * k1)) &&& 31) = z := ⟨_, rfl⟩
        refine ww_ishr (v := x_5) C dX7_ask_32 ex_5 ?_
        refine ww_bipush (v := 7) C dX7_ask_33 rfl ?_
        obtain ⟨j_6, hj_6, ej_6⟩ := pk_andE x_5 (m := 7) 3 rfl
        refine ww_iand (v := (nI j_6)) C dX7_ask_35 ej_6 ?_
        rcases hq_7 : fto j_6 with _ | a_8
        · refine ww_ald (v := none) (t0 := 7) C 18 rfl rfl (vp_in_nI (by omega) (by omega)) (ldn (by omega) hq_7) dX7_ask_36 ?_
          refine ww_eq (st' := [.null]) ?_ rfl rfl rfl
          refine ww_astoreN (lv' := [(6, .null), (5, .int (nI k1)), (0, .ref rd), (1, .ref h), (2, .ref qj), (3, .int gr), (4, .int sg)]) C dX7_ask_37 rfl rfl ?_
          refine ww_iload_n C dX7_ask_39 5 rfl rfl ?_
          refine ww_iload C dX7_ask_40 1 rfl ?_
          refine ww_ci (wr := [(rd, .inr (7, [.ref rt, .ref rf, .int go0, .int st1, .int kn1])), (qj, .inr (2, [.ref jt, .ref je, .ref ju, .ref ja])), (ju, .inl (E.2.1 1, 32, .inl ftq)), (ja, .inl (E.2.1 5, 2, .inr (.inr (.inr (.inr fa))))), (la0, .inr (3, [.ref la0m, .int la0qp, .int la0qw, .ref la0c, .ref la0f, .ref la0q])), (la0c, .inl (E.2.1 1, 24, .inl la0qfc)), (la0f, .inl (E.2.1 1, 24, .inl la0qff)), (la0q, .inl (E.2.1 1, 4, .inl la0qfq)), (la0m, .inr (4, [.int (nI la0qn), .int (nI la0qr), .ref la0x, .ref la0y])), (la0x, .inl (E.2.1 1, 24, .inl la0qgx)), (la0y, .inl (E.2.1 1, 96, .inl la0qgy)), (la1, .inr (3, [.ref la1m, .int la1qp, .int la1qw, .ref la1c, .ref la1f, .ref la1q])), (la1c, .inl (E.2.1 1, 24, .inl la1qfc)), (la1f, .inl (E.2.1 1, 24, .inl la1qff)), (la1q, .inl (E.2.1 1, 4, .inl la1qfq)), (la1m, .inr (4, [.int (nI la1qn), .int (nI la1qr), .ref la1x, .ref la1y])), (la1x, .inl (E.2.1 1, 24, .inl la1qgx)), (la1y, .inl (E.2.1 1, 96, .inl la1qgy)), (jt, .inl (E.2.1 7, 8, .inr (.inr (.inr (.inr fto))))), (a, .inl (E.2.1 1, 24, .inl f)), (b, .inl (E.2.1 1, 96, .inl gg)), (h, .inr (4, [.int (nI n), .int (nI r), .ref a, .ref b]))]) (k' := 0) (n' := 0) C (run_SN (As := [.int gr, .int (nI k1)]) (rest := []) C (c_hasN X.2.1 E ro gr k1 (by omega)) ms_X11_has (List.mem_of_getElem? (i := 19) rfl) rfl rfl rfl rfl dX7_ask_42) (roK hro) [] [0, 1, 2, 3, 4, 5, 6, 7, 8, 9, 10, 11, 12, 13, 14, 15, 16, 17, 18, 19, 20, 21] rfl rfl rfl rfl (fun r_9 uz hw => ?_)
          rcases hw with hw | hw
          · refine an2 hw ?_
            clear hw
            intro he_11 he_12 hw
            have h_10 := hw
            clear hw
            have he_11 := he_11.symm
            subst he_11
            subst he_12
            refine ww_eq (ws' := [(rd, .inr (7, [.ref rt, .ref rf, .int go0, .int st1, .int kn1])), (qj, .inr (2, [.ref jt, .ref je, .ref ju, .ref ja])), (ju, .inl (E.2.1 1, 32, .inl ftq)), (ja, .inl (E.2.1 5, 2, .inr (.inr (.inr (.inr fa))))), (la0, .inr (3, [.ref la0m, .int la0qp, .int la0qw, .ref la0c, .ref la0f, .ref la0q])), (la0c, .inl (E.2.1 1, 24, .inl la0qfc)), (la0f, .inl (E.2.1 1, 24, .inl la0qff)), (la0q, .inl (E.2.1 1, 4, .inl la0qfq)), (la0m, .inr (4, [.int (nI la0qn), .int (nI la0qr), .ref la0x, .ref la0y])), (la0x, .inl (E.2.1 1, 24, .inl la0qgx)), (la0y, .inl (E.2.1 1, 96, .inl la0qgy)), (la1, .inr (3, [.ref la1m, .int la1qp, .int la1qw, .ref la1c, .ref la1f, .ref la1q])), (la1c, .inl (E.2.1 1, 24, .inl la1qfc)), (la1f, .inl (E.2.1 1, 24, .inl la1qff)), (la1q, .inl (E.2.1 1, 4, .inl la1qfq)), (la1m, .inr (4, [.int (nI la1qn), .int (nI la1qr), .ref la1x, .ref la1y])), (la1x, .inl (E.2.1 1, 24, .inl la1qgx)), (la1y, .inl (E.2.1 1, 96, .inl la1qgy)), (jt, .inl (E.2.1 7, 8, .inr (.inr (.inr (.inr fto))))), (a, .inl (E.2.1 1, 24, .inl f)), (b, .inl (E.2.1 1, 96, .inl gg)), (h, .inr (4, [.int (nI n), .int (nI r), .ref a, .ref b]))]) ?_ rfl rfl rfl
            refine ww_if_eq_f (tgt := 166) C dX7_ask_45 (by decide) (by decide) ?_
            refine ww_aloadN C dX7_ask_48 0 rfl ?_
            refine ww_ifnullN (tgt := 166) C dX7_ask_50 (by decide) ?_
            refine ww_iinc (j := 1) (v := (nI (k1 + 1))) (lv' := [(5, .int (nI (k1 + 1))), (6, .null), (0, .ref rd), (1, .ref h), (2, .ref qj), (3, .int gr), (4, .int sg)]) C dX7_ask_166 rfl (nI_add k1 1) rfl rfl ?_
            refine ww_goto (tgt := 16) C dX7_ask_169 (by decide) ?_
            exact ww_lv [0, 2, 3, 4, 5, 6] rfl (ww_sub [0, 1, 2, 3, 4, 5, 6, 7, 8, 9, 10, 11, 12, 13, 14, 15, 16, 17, 18, 19, 20, 21] rfl rfl (ih_16 (k1 + 1) st1 kn1 ftq la0qp la0qw la0qn la0qr la0qfc la0qff la0qfq la0qgx la0qgy la1qp la1qw la1qn la1qr la1qfc la1qff la1qfq la1qgx la1qgy (by omega) (as_0 hst (askd_n (sgI_of ex_5 ej_6 (by omega)) (SYT.no hto (by omega) hq_7))) (kn_0 hkn (askd_n (sgI_of ex_5 ej_6 (by omega)) (SYT.no hto (by omega) hq_7))) (by omega) (by omega) (by omega) (by omega) (by omega)))
          · refine an2 hw ?_
            clear hw
            intro he_14 he_15 hw
            have h_13 := hw
            clear hw
            have he_14 := he_14.symm
            subst he_14
            subst he_15
            refine ww_eq (ws' := [(rd, .inr (7, [.ref rt, .ref rf, .int go0, .int st1, .int kn1])), (qj, .inr (2, [.ref jt, .ref je, .ref ju, .ref ja])), (ju, .inl (E.2.1 1, 32, .inl ftq)), (ja, .inl (E.2.1 5, 2, .inr (.inr (.inr (.inr fa))))), (la0, .inr (3, [.ref la0m, .int la0qp, .int la0qw, .ref la0c, .ref la0f, .ref la0q])), (la0c, .inl (E.2.1 1, 24, .inl la0qfc)), (la0f, .inl (E.2.1 1, 24, .inl la0qff)), (la0q, .inl (E.2.1 1, 4, .inl la0qfq)), (la0m, .inr (4, [.int (nI la0qn), .int (nI la0qr), .ref la0x, .ref la0y])), (la0x, .inl (E.2.1 1, 24, .inl la0qgx)), (la0y, .inl (E.2.1 1, 96, .inl la0qgy)), (la1, .inr (3, [.ref la1m, .int la1qp, .int la1qw, .ref la1c, .ref la1f, .ref la1q])), (la1c, .inl (E.2.1 1, 24, .inl la1qfc)), (la1f, .inl (E.2.1 1, 24, .inl la1qff)), (la1q, .inl (E.2.1 1, 4, .inl la1qfq)), (la1m, .inr (4, [.int (nI la1qn), .int (nI la1qr), .ref la1x, .ref la1y])), (la1x, .inl (E.2.1 1, 24, .inl la1qgx)), (la1y, .inl (E.2.1 1, 96, .inl la1qgy)), (jt, .inl (E.2.1 7, 8, .inr (.inr (.inr (.inr fto))))), (a, .inl (E.2.1 1, 24, .inl f)), (b, .inl (E.2.1 1, 96, .inl gg)), (h, .inr (4, [.int (nI n), .int (nI r), .ref a, .ref b]))]) ?_ rfl rfl rfl
            refine ww_if_eq_t (tgt := 166) C dX7_ask_45 (by decide) (rfl) ?_
            refine ww_iinc (j := 1) (v := (nI (k1 + 1))) (lv' := [(5, .int (nI (k1 + 1))), (6, .null), (0, .ref rd), (1, .ref h), (2, .ref qj), (3, .int gr), (4, .int sg)]) C dX7_ask_166 rfl (nI_add k1 1) rfl rfl ?_
            refine ww_goto (tgt := 16) C dX7_ask_169 (by decide) ?_
            exact ww_lv [0, 2, 3, 4, 5, 6] rfl (ww_sub [0, 1, 2, 3, 4, 5, 6, 7, 8, 9, 10, 11, 12, 13, 14, 15, 16, 17, 18, 19, 20, 21] rfl rfl (ih_16 (k1 + 1) st1 kn1 ftq la0qp la0qw la0qn la0qr la0qfc la0qff la0qfq la0qgx la0qgy la1qp la1qw la1qn la1qr la1qfc la1qff la1qfq la1qgx la1qgy (by omega) (as_0 hst (askd_0 h_13)) (kn_0 hkn (askd_0 h_13)) (by omega) (by omega) (by omega) (by omega) (by omega)))
        · refine ww_ald (v := (some a_8)) (t0 := 7) C 18 rfl rfl (vp_in_nI (by omega) (by omega)) (ldn (by omega) hq_7) dX7_ask_36 ?_
          refine ww_eq (st' := [.ref a_8]) ?_ rfl rfl rfl
          refine ww_astore (lv' := [(6, .ref a_8), (5, .int (nI k1)), (0, .ref rd), (1, .ref h), (2, .ref qj), (3, .int gr), (4, .int sg)]) C dX7_ask_37 rfl rfl ?_
          refine ww_iload_n C dX7_ask_39 5 rfl rfl ?_
          refine ww_iload C dX7_ask_40 1 rfl ?_
          refine ww_ci (wr := [(rd, .inr (7, [.ref rt, .ref rf, .int go0, .int st1, .int kn1])), (qj, .inr (2, [.ref jt, .ref je, .ref ju, .ref ja])), (ju, .inl (E.2.1 1, 32, .inl ftq)), (ja, .inl (E.2.1 5, 2, .inr (.inr (.inr (.inr fa))))), (la0, .inr (3, [.ref la0m, .int la0qp, .int la0qw, .ref la0c, .ref la0f, .ref la0q])), (la0c, .inl (E.2.1 1, 24, .inl la0qfc)), (la0f, .inl (E.2.1 1, 24, .inl la0qff)), (la0q, .inl (E.2.1 1, 4, .inl la0qfq)), (la0m, .inr (4, [.int (nI la0qn), .int (nI la0qr), .ref la0x, .ref la0y])), (la0x, .inl (E.2.1 1, 24, .inl la0qgx)), (la0y, .inl (E.2.1 1, 96, .inl la0qgy)), (la1, .inr (3, [.ref la1m, .int la1qp, .int la1qw, .ref la1c, .ref la1f, .ref la1q])), (la1c, .inl (E.2.1 1, 24, .inl la1qfc)), (la1f, .inl (E.2.1 1, 24, .inl la1qff)), (la1q, .inl (E.2.1 1, 4, .inl la1qfq)), (la1m, .inr (4, [.int (nI la1qn), .int (nI la1qr), .ref la1x, .ref la1y])), (la1x, .inl (E.2.1 1, 24, .inl la1qgx)), (la1y, .inl (E.2.1 1, 96, .inl la1qgy)), (jt, .inl (E.2.1 7, 8, .inr (.inr (.inr (.inr fto))))), (a, .inl (E.2.1 1, 24, .inl f)), (b, .inl (E.2.1 1, 96, .inl gg)), (h, .inr (4, [.int (nI n), .int (nI r), .ref a, .ref b]))]) (k' := 0) (n' := 0) C (run_SN (As := [.int gr, .int (nI k1)]) (rest := []) C (c_hasN X.2.1 E ro gr k1 (by omega)) ms_X11_has (List.mem_of_getElem? (i := 19) rfl) rfl rfl rfl rfl dX7_ask_42) (roK hro) [] [0, 1, 2, 3, 4, 5, 6, 7, 8, 9, 10, 11, 12, 13, 14, 15, 16, 17, 18, 19, 20, 21] rfl rfl rfl rfl (fun r_16 uz hw => ?_)
          rcases hw with hw | hw
          · refine an2 hw ?_
            clear hw
            intro he_18 he_19 hw
            have h_17 := hw
            clear hw
            have he_18 := he_18.symm
            subst he_18
            subst he_19
            refine ww_eq (ws' := [(rd, .inr (7, [.ref rt, .ref rf, .int go0, .int st1, .int kn1])), (qj, .inr (2, [.ref jt, .ref je, .ref ju, .ref ja])), (ju, .inl (E.2.1 1, 32, .inl ftq)), (ja, .inl (E.2.1 5, 2, .inr (.inr (.inr (.inr fa))))), (la0, .inr (3, [.ref la0m, .int la0qp, .int la0qw, .ref la0c, .ref la0f, .ref la0q])), (la0c, .inl (E.2.1 1, 24, .inl la0qfc)), (la0f, .inl (E.2.1 1, 24, .inl la0qff)), (la0q, .inl (E.2.1 1, 4, .inl la0qfq)), (la0m, .inr (4, [.int (nI la0qn), .int (nI la0qr), .ref la0x, .ref la0y])), (la0x, .inl (E.2.1 1, 24, .inl la0qgx)), (la0y, .inl (E.2.1 1, 96, .inl la0qgy)), (la1, .inr (3, [.ref la1m, .int la1qp, .int la1qw, .ref la1c, .ref la1f, .ref la1q])), (la1c, .inl (E.2.1 1, 24, .inl la1qfc)), (la1f, .inl (E.2.1 1, 24, .inl la1qff)), (la1q, .inl (E.2.1 1, 4, .inl la1qfq)), (la1m, .inr (4, [.int (nI la1qn), .int (nI la1qr), .ref la1x, .ref la1y])), (la1x, .inl (E.2.1 1, 24, .inl la1qgx)), (la1y, .inl (E.2.1 1, 96, .inl la1qgy)), (jt, .inl (E.2.1 7, 8, .inr (.inr (.inr (.inr fto))))), (a, .inl (E.2.1 1, 24, .inl f)), (b, .inl (E.2.1 1, 96, .inl gg)), (h, .inr (4, [.int (nI n), .int (nI r), .ref a, .ref b]))]) ?_ rfl rfl rfl
            refine ww_if_eq_f (tgt := 166) C dX7_ask_45 (by decide) (by decide) ?_
            refine ww_aload C dX7_ask_48 0 rfl ?_
            refine ww_ifnull C dX7_ask_50 ?_
            refine ww_aload_n C dX7_ask_53 4 rfl rfl ?_
            refine ww_aload_n C dX7_ask_54 3 rfl rfl ?_
            refine ww_aload C dX7_ask_55 0 rfl ?_
            refine ww_ci (wr := [(rd, .inr (7, [.ref rt, .ref rf, .int go0, .int st1, .int kn1])), (jt, .inl (E.2.1 7, 8, .inr (.inr (.inr (.inr fto)))))]) (k' := 0) (n' := 0) C (run_V (As := [.ref h, .ref a_8]) (rest := []) C (j_whole X.2.1 E ro qj h a_8 jt je ju ja ftq fa la0 la1 la0m la0qp la0qw la0c la0f la0q la0qfc la0qff la0qfq la0qn la0qr la0x la0y la0qgx la0qgy la1m la1qp la1qw la1c la1f la1q la1qfc la1qff la1qfq la1qn la1qr la1x la1y la1qgx la1qgy n r a b f gg vc vr vi vs vn vp ((tT j_6).getD sv0) k_fa_0 k_fa_1 (by omega) (by omega) (by omega) (by omega) (by omega) (by omega) hEV (SYT.v hto (by omega) hq_7) hwfm) mi_X2_whole wl_X7_43 rfl 0 2 rfl rfl rfl rfl rfl dX7_ask_57) (roK hro) [1, 2, 3, 4, 5, 6, 7, 8, 9, 10, 11, 12, 13, 14, 15, 16, 17, 21, 19, 20] [0, 18] rfl rfl rfl rfl (fun r_23 uz hw => ?_)
            refine ex8 hw ?_
            clear hw
            intro ft2_24 la0zp_25 la0zw_26 la0zn_27 la0zr_28 la0zfc_29 la0zff_30 la0zfq_31 hw
            refine ex8 hw ?_
            clear hw
            intro la0zgx_32 la0zgy_33 la1zp_34 la1zw_35 la1zn_36 la1zr_37 la1zfc_38 la1zff_39 hw
            refine ex3 hw ?_
            clear hw
            intro la1zfq_40 la1zgx_41 la1zgy_42 hw
            refine an5 hw ?_
            clear hw
            intro he_48 h_43 h_44 h_45 h_46 hw
            have h_47 := hw
            clear hw
            subst he_48
            refine ww_eq (ws' := [(rd, .inr (7, [.ref rt, .ref rf, .int go0, .int st1, .int kn1])), (jt, .inl (E.2.1 7, 8, .inr (.inr (.inr (.inr fto))))), (qj, .inr (2, [.ref jt, .ref je, .ref ju, .ref ja])), (ju, .inl (E.2.1 1, 32, .inl ft2_24)), (ja, .inl (E.2.1 5, 2, .inr (.inr (.inr (.inr fa))))), (la0, .inr (3, [.ref la0m, .int la0zp_25, .int la0zw_26, .ref la0c, .ref la0f, .ref la0q])), (la0c, .inl (E.2.1 1, 24, .inl la0zfc_29)), (la0f, .inl (E.2.1 1, 24, .inl la0zff_30)), (la0q, .inl (E.2.1 1, 4, .inl la0zfq_31)), (la0m, .inr (4, [.int (nI la0zn_27), .int (nI la0zr_28), .ref la0x, .ref la0y])), (la0x, .inl (E.2.1 1, 24, .inl la0zgx_32)), (la0y, .inl (E.2.1 1, 96, .inl la0zgy_33)), (la1, .inr (3, [.ref la1m, .int la1zp_34, .int la1zw_35, .ref la1c, .ref la1f, .ref la1q])), (la1c, .inl (E.2.1 1, 24, .inl la1zfc_38)), (la1f, .inl (E.2.1 1, 24, .inl la1zff_39)), (la1q, .inl (E.2.1 1, 4, .inl la1zfq_40)), (la1m, .inr (4, [.int (nI la1zn_36), .int (nI la1zr_37), .ref la1x, .ref la1y])), (la1x, .inl (E.2.1 1, 24, .inl la1zgx_41)), (la1y, .inl (E.2.1 1, 96, .inl la1zgy_42)), (h, .inr (4, [.int (nI n), .int (nI r), .ref a, .ref b])), (a, .inl (E.2.1 1, 24, .inl f)), (b, .inl (E.2.1 1, 96, .inl gg))]) ?_ rfl rfl rfl
            refine ww_istore (lv' := [(7, .int r_23), (6, .ref a_8), (5, .int (nI k1)), (0, .ref rd), (1, .ref h), (2, .ref qj), (3, .int gr), (4, .int sg)]) C dX7_ask_60 rfl rfl ?_
            refine ww_aload_n C dX7_ask_62 4 rfl rfl ?_
            refine ww_iconst (v := 1) C dX7_ask_63 rfl ?_
            refine ww_iload C dX7_ask_64 2 rfl ?_
            obtain ⟨x_49, ex_49⟩ : ∃ z : Int32, (1 : Int32) <<< ((nI k1) &&& 31) = z := ⟨_, rfl⟩
            refine ww_ishl (v := x_49) C dX7_ask_66 ex_49 ?_
            refine ww_iload C dX7_ask_67 0 rfl ?_
            refine ww_iconst (v := 1) C dX7_ask_69 rfl ?_
            refine ww_ci (wr := [(rd, .inr (7, [.ref rt, .ref rf, .int go0, .int st1, .int kn1])), (jt, .inl (E.2.1 7, 8, .inr (.inr (.inr (.inr fto))))), (qj, .inr (2, [.ref jt, .ref je, .ref ju, .ref ja])), (ju, .inl (E.2.1 1, 32, .inl ft2_24)), (ja, .inl (E.2.1 5, 2, .inr (.inr (.inr (.inr fa))))), (la0, .inr (3, [.ref la0m, .int la0zp_25, .int la0zw_26, .ref la0c, .ref la0f, .ref la0q])), (la0c, .inl (E.2.1 1, 24, .inl la0zfc_29)), (la0f, .inl (E.2.1 1, 24, .inl la0zff_30)), (la0q, .inl (E.2.1 1, 4, .inl la0zfq_31)), (la0m, .inr (4, [.int (nI la0zn_27), .int (nI la0zr_28), .ref la0x, .ref la0y])), (la0x, .inl (E.2.1 1, 24, .inl la0zgx_32)), (la0y, .inl (E.2.1 1, 96, .inl la0zgy_33)), (la1, .inr (3, [.ref la1m, .int la1zp_34, .int la1zw_35, .ref la1c, .ref la1f, .ref la1q])), (la1c, .inl (E.2.1 1, 24, .inl la1zfc_38)), (la1f, .inl (E.2.1 1, 24, .inl la1zff_39)), (la1q, .inl (E.2.1 1, 4, .inl la1zfq_40)), (la1m, .inr (4, [.int (nI la1zn_36), .int (nI la1zr_37), .ref la1x, .ref la1y])), (la1x, .inl (E.2.1 1, 24, .inl la1zgx_41)), (la1y, .inl (E.2.1 1, 96, .inl la1zgy_42))]) (k' := 0) (n' := 0) C (run_V (As := [.int x_49, .int r_23, .int 1]) (rest := []) C (m_leadingTo X.2.1 E ro h x_49 r_23 1 n r a b f gg (by omega) (by omega) (by omega)) mi_X4_leadingTo wl_X7_47 rfl 0 4 rfl rfl rfl rfl rfl dX7_ask_70) (roK hro) [19, 20, 21] [0, 1, 2, 3, 4, 5, 6, 7, 8, 9, 10, 11, 12, 13, 14, 15, 16, 17, 18] rfl rfl rfl rfl (fun r_50 uz hw => ?_)
            refine an1 hw ?_
            clear hw
            intro he_52 hw
            have h_51 := hw
            clear hw
            subst he_52
            refine ww_eq (ws' := [(rd, .inr (7, [.ref rt, .ref rf, .int go0, .int st1, .int kn1])), (jt, .inl (E.2.1 7, 8, .inr (.inr (.inr (.inr fto))))), (qj, .inr (2, [.ref jt, .ref je, .ref ju, .ref ja])), (ju, .inl (E.2.1 1, 32, .inl ft2_24)), (ja, .inl (E.2.1 5, 2, .inr (.inr (.inr (.inr fa))))), (la0, .inr (3, [.ref la0m, .int la0zp_25, .int la0zw_26, .ref la0c, .ref la0f, .ref la0q])), (la0c, .inl (E.2.1 1, 24, .inl la0zfc_29)), (la0f, .inl (E.2.1 1, 24, .inl la0zff_30)), (la0q, .inl (E.2.1 1, 4, .inl la0zfq_31)), (la0m, .inr (4, [.int (nI la0zn_27), .int (nI la0zr_28), .ref la0x, .ref la0y])), (la0x, .inl (E.2.1 1, 24, .inl la0zgx_32)), (la0y, .inl (E.2.1 1, 96, .inl la0zgy_33)), (la1, .inr (3, [.ref la1m, .int la1zp_34, .int la1zw_35, .ref la1c, .ref la1f, .ref la1q])), (la1c, .inl (E.2.1 1, 24, .inl la1zfc_38)), (la1f, .inl (E.2.1 1, 24, .inl la1zff_39)), (la1q, .inl (E.2.1 1, 4, .inl la1zfq_40)), (la1m, .inr (4, [.int (nI la1zn_36), .int (nI la1zr_37), .ref la1x, .ref la1y])), (la1x, .inl (E.2.1 1, 24, .inl la1zgx_41)), (la1y, .inl (E.2.1 1, 96, .inl la1zgy_42)), (h, .inr (4, [.int (nI n), .int (nI r), .ref a, .ref b])), (a, .inl (E.2.1 1, 24, .inl f)), (b, .inl (E.2.1 1, 96, .inl gg))]) ?_ rfl rfl rfl
            refine ww_istore (lv' := [(8, .int r_50), (7, .int r_23), (6, .ref a_8), (5, .int (nI k1)), (0, .ref rd), (1, .ref h), (2, .ref qj), (3, .int gr), (4, .int sg)]) C dX7_ask_73 rfl rfl ?_
            refine ww_aload_n C dX7_ask_75 5 rfl rfl ?_
            refine ww_iconst (v := 1) C dX7_ask_76 rfl ?_
            refine ww_iload C dX7_ask_77 3 rfl ?_
            obtain ⟨x_53, ex_53⟩ : ∃ z : Int32, (1 : Int32) <<< ((nI k1) &&& 31) = z := ⟨_, rfl⟩
            refine ww_ishl (v := x_53) C dX7_ask_79 ex_53 ?_
            refine ww_aload_n C dX7_ask_80 5 rfl rfl ?_
            refine ww_ci (wr := [(rd, .inr (7, [.ref rt, .ref rf, .int go0, .int st1, .int kn1])), (jt, .inl (E.2.1 7, 8, .inr (.inr (.inr (.inr fto))))), (qj, .inr (2, [.ref jt, .ref je, .ref ju, .ref ja])), (ju, .inl (E.2.1 1, 32, .inl ft2_24)), (ja, .inl (E.2.1 5, 2, .inr (.inr (.inr (.inr fa))))), (la0, .inr (3, [.ref la0m, .int la0zp_25, .int la0zw_26, .ref la0c, .ref la0f, .ref la0q])), (la0c, .inl (E.2.1 1, 24, .inl la0zfc_29)), (la0f, .inl (E.2.1 1, 24, .inl la0zff_30)), (la0q, .inl (E.2.1 1, 4, .inl la0zfq_31)), (la0m, .inr (4, [.int (nI la0zn_27), .int (nI la0zr_28), .ref la0x, .ref la0y])), (la0x, .inl (E.2.1 1, 24, .inl la0zgx_32)), (la0y, .inl (E.2.1 1, 96, .inl la0zgy_33)), (la1, .inr (3, [.ref la1m, .int la1zp_34, .int la1zw_35, .ref la1c, .ref la1f, .ref la1q])), (la1c, .inl (E.2.1 1, 24, .inl la1zfc_38)), (la1f, .inl (E.2.1 1, 24, .inl la1zff_39)), (la1q, .inl (E.2.1 1, 4, .inl la1zfq_40)), (la1m, .inr (4, [.int (nI la1zn_36), .int (nI la1zr_37), .ref la1x, .ref la1y])), (la1x, .inl (E.2.1 1, 24, .inl la1zgx_41)), (la1y, .inl (E.2.1 1, 96, .inl la1zgy_42)), (a, .inl (E.2.1 1, 24, .inl f)), (b, .inl (E.2.1 1, 96, .inl gg))]) (k' := 0) (n' := 0) C (run_V (As := []) (rest := [.int x_53, .ref h]) C (m_all X.2.1 E ro h n r a b (by omega)) mi_X4_all wl_X7_22 rfl 0 4 rfl rfl rfl rfl rfl dX7_ask_81) (roK hro) [19] [0, 1, 2, 3, 4, 5, 6, 7, 8, 9, 10, 11, 12, 13, 14, 15, 16, 17, 18, 20, 21] rfl rfl rfl rfl (fun r_54 uz hw => ?_)
            refine an1 hw ?_
            clear hw
            intro he_56 hw
            have h_55 := hw
            clear hw
            subst he_56
            refine ww_eq (ws' := [(rd, .inr (7, [.ref rt, .ref rf, .int go0, .int st1, .int kn1])), (jt, .inl (E.2.1 7, 8, .inr (.inr (.inr (.inr fto))))), (qj, .inr (2, [.ref jt, .ref je, .ref ju, .ref ja])), (ju, .inl (E.2.1 1, 32, .inl ft2_24)), (ja, .inl (E.2.1 5, 2, .inr (.inr (.inr (.inr fa))))), (la0, .inr (3, [.ref la0m, .int la0zp_25, .int la0zw_26, .ref la0c, .ref la0f, .ref la0q])), (la0c, .inl (E.2.1 1, 24, .inl la0zfc_29)), (la0f, .inl (E.2.1 1, 24, .inl la0zff_30)), (la0q, .inl (E.2.1 1, 4, .inl la0zfq_31)), (la0m, .inr (4, [.int (nI la0zn_27), .int (nI la0zr_28), .ref la0x, .ref la0y])), (la0x, .inl (E.2.1 1, 24, .inl la0zgx_32)), (la0y, .inl (E.2.1 1, 96, .inl la0zgy_33)), (la1, .inr (3, [.ref la1m, .int la1zp_34, .int la1zw_35, .ref la1c, .ref la1f, .ref la1q])), (la1c, .inl (E.2.1 1, 24, .inl la1zfc_38)), (la1f, .inl (E.2.1 1, 24, .inl la1zff_39)), (la1q, .inl (E.2.1 1, 4, .inl la1zfq_40)), (la1m, .inr (4, [.int (nI la1zn_36), .int (nI la1zr_37), .ref la1x, .ref la1y])), (la1x, .inl (E.2.1 1, 24, .inl la1zgx_41)), (la1y, .inl (E.2.1 1, 96, .inl la1zgy_42)), (a, .inl (E.2.1 1, 24, .inl f)), (b, .inl (E.2.1 1, 96, .inl gg)), (h, .inr (4, [.int (nI n), .int (nI r), .ref a, .ref b]))]) ?_ rfl rfl rfl
            refine ww_iload C dX7_ask_84 1 rfl ?_
            refine ww_iconst (v := (-1)) C dX7_ask_86 rfl ?_
            obtain ⟨x_57, ex_57⟩ : ∃ z : Int32, r_23 ^^^ ((-1) : Int32) = z := ⟨_, rfl⟩
            refine ww_ixor (v := x_57) C dX7_ask_87 ex_57 ?_
            obtain ⟨x_58, ex_58⟩ : ∃ z : Int32, r_54 &&& x_57 = z := ⟨_, rfl⟩
            refine ww_iand (v := x_58) C dX7_ask_88 ex_58 ?_
            refine ww_iconst (v := 1) C dX7_ask_89 rfl ?_
            refine ww_ci (wr := [(rd, .inr (7, [.ref rt, .ref rf, .int go0, .int st1, .int kn1])), (jt, .inl (E.2.1 7, 8, .inr (.inr (.inr (.inr fto))))), (qj, .inr (2, [.ref jt, .ref je, .ref ju, .ref ja])), (ju, .inl (E.2.1 1, 32, .inl ft2_24)), (ja, .inl (E.2.1 5, 2, .inr (.inr (.inr (.inr fa))))), (la0, .inr (3, [.ref la0m, .int la0zp_25, .int la0zw_26, .ref la0c, .ref la0f, .ref la0q])), (la0c, .inl (E.2.1 1, 24, .inl la0zfc_29)), (la0f, .inl (E.2.1 1, 24, .inl la0zff_30)), (la0q, .inl (E.2.1 1, 4, .inl la0zfq_31)), (la0m, .inr (4, [.int (nI la0zn_27), .int (nI la0zr_28), .ref la0x, .ref la0y])), (la0x, .inl (E.2.1 1, 24, .inl la0zgx_32)), (la0y, .inl (E.2.1 1, 96, .inl la0zgy_33)), (la1, .inr (3, [.ref la1m, .int la1zp_34, .int la1zw_35, .ref la1c, .ref la1f, .ref la1q])), (la1c, .inl (E.2.1 1, 24, .inl la1zfc_38)), (la1f, .inl (E.2.1 1, 24, .inl la1zff_39)), (la1q, .inl (E.2.1 1, 4, .inl la1zfq_40)), (la1m, .inr (4, [.int (nI la1zn_36), .int (nI la1zr_37), .ref la1x, .ref la1y])), (la1x, .inl (E.2.1 1, 24, .inl la1zgx_41)), (la1y, .inl (E.2.1 1, 96, .inl la1zgy_42))]) (k' := 0) (n' := 0) C (run_V (As := [.int x_53, .int x_58, .int 1]) (rest := []) C (m_leadingTo X.2.1 E ro h x_53 x_58 1 n r a b f gg (by omega) (by omega) (by omega)) mi_X4_leadingTo wl_X7_47 rfl 0 4 rfl rfl rfl rfl rfl dX7_ask_90) (roK hro) [21, 19, 20] [0, 1, 2, 3, 4, 5, 6, 7, 8, 9, 10, 11, 12, 13, 14, 15, 16, 17, 18] rfl rfl rfl rfl (fun r_59 uz hw => ?_)
            refine an1 hw ?_
            clear hw
            intro he_61 hw
            have h_60 := hw
            clear hw
            subst he_61
            refine ww_eq (ws' := [(rd, .inr (7, [.ref rt, .ref rf, .int go0, .int st1, .int kn1])), (jt, .inl (E.2.1 7, 8, .inr (.inr (.inr (.inr fto))))), (qj, .inr (2, [.ref jt, .ref je, .ref ju, .ref ja])), (ju, .inl (E.2.1 1, 32, .inl ft2_24)), (ja, .inl (E.2.1 5, 2, .inr (.inr (.inr (.inr fa))))), (la0, .inr (3, [.ref la0m, .int la0zp_25, .int la0zw_26, .ref la0c, .ref la0f, .ref la0q])), (la0c, .inl (E.2.1 1, 24, .inl la0zfc_29)), (la0f, .inl (E.2.1 1, 24, .inl la0zff_30)), (la0q, .inl (E.2.1 1, 4, .inl la0zfq_31)), (la0m, .inr (4, [.int (nI la0zn_27), .int (nI la0zr_28), .ref la0x, .ref la0y])), (la0x, .inl (E.2.1 1, 24, .inl la0zgx_32)), (la0y, .inl (E.2.1 1, 96, .inl la0zgy_33)), (la1, .inr (3, [.ref la1m, .int la1zp_34, .int la1zw_35, .ref la1c, .ref la1f, .ref la1q])), (la1c, .inl (E.2.1 1, 24, .inl la1zfc_38)), (la1f, .inl (E.2.1 1, 24, .inl la1zff_39)), (la1q, .inl (E.2.1 1, 4, .inl la1zfq_40)), (la1m, .inr (4, [.int (nI la1zn_36), .int (nI la1zr_37), .ref la1x, .ref la1y])), (la1x, .inl (E.2.1 1, 24, .inl la1zgx_41)), (la1y, .inl (E.2.1 1, 96, .inl la1zgy_42)), (h, .inr (4, [.int (nI n), .int (nI r), .ref a, .ref b])), (a, .inl (E.2.1 1, 24, .inl f)), (b, .inl (E.2.1 1, 96, .inl gg))]) ?_ rfl rfl rfl
            refine ww_istore (lv' := [(9, .int r_59), (8, .int r_50), (7, .int r_23), (6, .ref a_8), (5, .int (nI k1)), (0, .ref rd), (1, .ref h), (2, .ref qj), (3, .int gr), (4, .int sg)]) C dX7_ask_93 rfl rfl ?_
            refine ww_iload C dX7_ask_95 1 rfl ?_
            refine ww_iload C dX7_ask_97 0 rfl ?_
            obtain ⟨x_62, ex_62⟩ : ∃ z : Int32, r_50 &&& r_59 = z := ⟨_, rfl⟩
            refine ww_iand (v := x_62) C dX7_ask_99 ex_62 ?_
            refine ww_istore (lv' := [(10, .int x_62), (9, .int r_59), (8, .int r_50), (7, .int r_23), (6, .ref a_8), (5, .int (nI k1)), (0, .ref rd), (1, .ref h), (2, .ref qj), (3, .int gr), (4, .int sg)]) C dX7_ask_100 rfl rfl ?_
            refine ww_iload C dX7_ask_102 0 rfl ?_
            refine ww_aload_n C dX7_ask_104 7 rfl rfl ?_
            refine ww_get C fg_X7_51 19 rfl rfl dX7_ask_105 ?_
            refine ww_ci (wr := [(rd, .inr (7, [.ref rt, .ref rf, .int go0, .int st1, .int kn1])), (jt, .inl (E.2.1 7, 8, .inr (.inr (.inr (.inr fto))))), (qj, .inr (2, [.ref jt, .ref je, .ref ju, .ref ja])), (ju, .inl (E.2.1 1, 32, .inl ft2_24)), (ja, .inl (E.2.1 5, 2, .inr (.inr (.inr (.inr fa))))), (la0, .inr (3, [.ref la0m, .int la0zp_25, .int la0zw_26, .ref la0c, .ref la0f, .ref la0q])), (la0c, .inl (E.2.1 1, 24, .inl la0zfc_29)), (la0f, .inl (E.2.1 1, 24, .inl la0zff_30)), (la0q, .inl (E.2.1 1, 4, .inl la0zfq_31)), (la0m, .inr (4, [.int (nI la0zn_27), .int (nI la0zr_28), .ref la0x, .ref la0y])), (la0x, .inl (E.2.1 1, 24, .inl la0zgx_32)), (la0y, .inl (E.2.1 1, 96, .inl la0zgy_33)), (la1, .inr (3, [.ref la1m, .int la1zp_34, .int la1zw_35, .ref la1c, .ref la1f, .ref la1q])), (la1c, .inl (E.2.1 1, 24, .inl la1zfc_38)), (la1f, .inl (E.2.1 1, 24, .inl la1zff_39)), (la1q, .inl (E.2.1 1, 4, .inl la1zfq_40)), (la1m, .inr (4, [.int (nI la1zn_36), .int (nI la1zr_37), .ref la1x, .ref la1y])), (la1x, .inl (E.2.1 1, 24, .inl la1zgx_41)), (la1y, .inl (E.2.1 1, 96, .inl la1zgy_42)), (h, .inr (4, [.int (nI n), .int (nI r), .ref a, .ref b])), (a, .inl (E.2.1 1, 24, .inl f)), (b, .inl (E.2.1 1, 96, .inl gg))]) (k' := 0) (n' := 0) C (run_SN (As := [.int x_62, .int (nI r)]) (rest := []) C (c_hasN X.2.1 E ro x_62 r (by omega)) ms_X11_has (List.mem_of_getElem? (i := 19) rfl) rfl rfl rfl rfl dX7_ask_108) (roK hro) [] [0, 1, 2, 3, 4, 5, 6, 7, 8, 9, 10, 11, 12, 13, 14, 15, 16, 17, 18, 19, 20, 21] rfl rfl rfl rfl (fun r_63 uz hw => ?_)
            rcases hw with hw | hw
            · refine an2 hw ?_
              clear hw
              intro he_65 he_66 hw
              have h_64 := hw
              clear hw
              have he_65 := he_65.symm
              subst he_65
              subst he_66
              refine ww_eq (ws' := [(rd, .inr (7, [.ref rt, .ref rf, .int go0, .int st1, .int kn1])), (jt, .inl (E.2.1 7, 8, .inr (.inr (.inr (.inr fto))))), (qj, .inr (2, [.ref jt, .ref je, .ref ju, .ref ja])), (ju, .inl (E.2.1 1, 32, .inl ft2_24)), (ja, .inl (E.2.1 5, 2, .inr (.inr (.inr (.inr fa))))), (la0, .inr (3, [.ref la0m, .int la0zp_25, .int la0zw_26, .ref la0c, .ref la0f, .ref la0q])), (la0c, .inl (E.2.1 1, 24, .inl la0zfc_29)), (la0f, .inl (E.2.1 1, 24, .inl la0zff_30)), (la0q, .inl (E.2.1 1, 4, .inl la0zfq_31)), (la0m, .inr (4, [.int (nI la0zn_27), .int (nI la0zr_28), .ref la0x, .ref la0y])), (la0x, .inl (E.2.1 1, 24, .inl la0zgx_32)), (la0y, .inl (E.2.1 1, 96, .inl la0zgy_33)), (la1, .inr (3, [.ref la1m, .int la1zp_34, .int la1zw_35, .ref la1c, .ref la1f, .ref la1q])), (la1c, .inl (E.2.1 1, 24, .inl la1zfc_38)), (la1f, .inl (E.2.1 1, 24, .inl la1zff_39)), (la1q, .inl (E.2.1 1, 4, .inl la1zfq_40)), (la1m, .inr (4, [.int (nI la1zn_36), .int (nI la1zr_37), .ref la1x, .ref la1y])), (la1x, .inl (E.2.1 1, 24, .inl la1zgx_41)), (la1y, .inl (E.2.1 1, 96, .inl la1zgy_42)), (h, .inr (4, [.int (nI n), .int (nI r), .ref a, .ref b])), (a, .inl (E.2.1 1, 24, .inl f)), (b, .inl (E.2.1 1, 96, .inl gg))]) ?_ rfl rfl rfl
              refine ww_if_ne_t (tgt := 118) C dX7_ask_111 (by decide) (by decide) ?_
              refine ww_iconst (v := 0) C dX7_ask_118 rfl ?_
              refine ww_istore (lv' := [(11, .int 0), (10, .int x_62), (9, .int r_59), (8, .int r_50), (7, .int r_23), (6, .ref a_8), (5, .int (nI k1)), (0, .ref rd), (1, .ref h), (2, .ref qj), (3, .int gr), (4, .int sg)]) C dX7_ask_119 rfl rfl ?_
              refine ww_aload_n C dX7_ask_121 7 rfl rfl ?_
              refine ww_dup C dX7_ask_122 rfl ?_
              refine ww_get C fg_X7_26 0 rfl rfl dX7_ask_123 ?_
              refine ww_iload C dX7_ask_126 0 rfl ?_
              refine ww_if_eq_t (tgt := 138) C dX7_ask_128 (by decide) (rfl) ?_
              refine ww_iload C dX7_ask_138 1 rfl ?_
              obtain ⟨x_70, ex_70⟩ : ∃ z : Int32, st1 &&& x_62 = z := ⟨_, rfl⟩
              refine ww_iand (v := x_70) C dX7_ask_140 ex_70 ?_
              refine ww_put (ws' := [(rd, .inr (7, [.ref rt, .ref rf, .int go0, .int x_70, .int kn1])), (jt, .inl (E.2.1 7, 8, .inr (.inr (.inr (.inr fto))))), (qj, .inr (2, [.ref jt, .ref je, .ref ju, .ref ja])), (ju, .inl (E.2.1 1, 32, .inl ft2_24)), (ja, .inl (E.2.1 5, 2, .inr (.inr (.inr (.inr fa))))), (la0, .inr (3, [.ref la0m, .int la0zp_25, .int la0zw_26, .ref la0c, .ref la0f, .ref la0q])), (la0c, .inl (E.2.1 1, 24, .inl la0zfc_29)), (la0f, .inl (E.2.1 1, 24, .inl la0zff_30)), (la0q, .inl (E.2.1 1, 4, .inl la0zfq_31)), (la0m, .inr (4, [.int (nI la0zn_27), .int (nI la0zr_28), .ref la0x, .ref la0y])), (la0x, .inl (E.2.1 1, 24, .inl la0zgx_32)), (la0y, .inl (E.2.1 1, 96, .inl la0zgy_33)), (la1, .inr (3, [.ref la1m, .int la1zp_34, .int la1zw_35, .ref la1c, .ref la1f, .ref la1q])), (la1c, .inl (E.2.1 1, 24, .inl la1zfc_38)), (la1f, .inl (E.2.1 1, 24, .inl la1zff_39)), (la1q, .inl (E.2.1 1, 4, .inl la1zfq_40)), (la1m, .inr (4, [.int (nI la1zn_36), .int (nI la1zr_37), .ref la1x, .ref la1y])), (la1x, .inl (E.2.1 1, 24, .inl la1zgx_41)), (la1y, .inl (E.2.1 1, 96, .inl la1zgy_42)), (h, .inr (4, [.int (nI n), .int (nI r), .ref a, .ref b])), (a, .inl (E.2.1 1, 24, .inl f)), (b, .inl (E.2.1 1, 96, .inl gg))]) C fp_X7_26 0 rfl rfl rfl rfl rfl dX7_ask_141 ?_
              refine ww_aload_n C dX7_ask_144 7 rfl rfl ?_
              refine ww_dup C dX7_ask_145 rfl ?_
              refine ww_get C fg_X7_30 0 rfl rfl dX7_ask_146 ?_
              refine ww_iload C dX7_ask_149 0 rfl ?_
              refine ww_if_eq_t (tgt := 161) C dX7_ask_151 (by decide) (rfl) ?_
              refine ww_iconst (v := 0) C dX7_ask_161 rfl ?_
              obtain ⟨x_71, ex_71⟩ : ∃ z : Int32, kn1 ||| (0 : Int32) = z := ⟨_, rfl⟩
              refine ww_ior (v := x_71) C dX7_ask_162 ex_71 ?_
              refine ww_put (ws' := [(rd, .inr (7, [.ref rt, .ref rf, .int go0, .int x_70, .int x_71])), (jt, .inl (E.2.1 7, 8, .inr (.inr (.inr (.inr fto))))), (qj, .inr (2, [.ref jt, .ref je, .ref ju, .ref ja])), (ju, .inl (E.2.1 1, 32, .inl ft2_24)), (ja, .inl (E.2.1 5, 2, .inr (.inr (.inr (.inr fa))))), (la0, .inr (3, [.ref la0m, .int la0zp_25, .int la0zw_26, .ref la0c, .ref la0f, .ref la0q])), (la0c, .inl (E.2.1 1, 24, .inl la0zfc_29)), (la0f, .inl (E.2.1 1, 24, .inl la0zff_30)), (la0q, .inl (E.2.1 1, 4, .inl la0zfq_31)), (la0m, .inr (4, [.int (nI la0zn_27), .int (nI la0zr_28), .ref la0x, .ref la0y])), (la0x, .inl (E.2.1 1, 24, .inl la0zgx_32)), (la0y, .inl (E.2.1 1, 96, .inl la0zgy_33)), (la1, .inr (3, [.ref la1m, .int la1zp_34, .int la1zw_35, .ref la1c, .ref la1f, .ref la1q])), (la1c, .inl (E.2.1 1, 24, .inl la1zfc_38)), (la1f, .inl (E.2.1 1, 24, .inl la1zff_39)), (la1q, .inl (E.2.1 1, 4, .inl la1zfq_40)), (la1m, .inr (4, [.int (nI la1zn_36), .int (nI la1zr_37), .ref la1x, .ref la1y])), (la1x, .inl (E.2.1 1, 24, .inl la1zgx_41)), (la1y, .inl (E.2.1 1, 96, .inl la1zgy_42)), (h, .inr (4, [.int (nI n), .int (nI r), .ref a, .ref b])), (a, .inl (E.2.1 1, 24, .inl f)), (b, .inl (E.2.1 1, 96, .inl gg))]) C fp_X7_30 0 rfl rfl rfl rfl rfl dX7_ask_163 ?_
              refine ww_iinc (j := 6) (v := (nI (k1 + 1))) (lv' := [(5, .int (nI (k1 + 1))), (11, .int 0), (10, .int x_62), (9, .int r_59), (8, .int r_50), (7, .int r_23), (6, .ref a_8), (0, .ref rd), (1, .ref h), (2, .ref qj), (3, .int gr), (4, .int sg)]) C dX7_ask_166 rfl (nI_add k1 1) rfl rfl ?_
              refine ww_goto (tgt := 16) C dX7_ask_169 (by decide) ?_
              exact ww_lv [0, 7, 8, 9, 10, 11] rfl (ww_sub [0, 2, 3, 4, 5, 6, 7, 8, 9, 10, 11, 12, 13, 14, 15, 16, 17, 18, 1, 20, 21, 19] rfl rfl (ih_16 (k1 + 1) x_70 x_71 ft2_24 la0zp_25 la0zw_26 la0zn_27 la0zr_28 la0zfc_29 la0zff_30 la0zfq_31 la0zgx_32 la0zgy_33 la1zp_34 la1zw_35 la1zn_36 la1zr_37 la1zfc_38 la1zff_39 la1zfq_40 la1zgx_41 la1zgy_42 (by omega) (as_n hwfm (show r < n from hrn) hst (askd_1 h_17 (sgI_of ex_5 ej_6 (by omega)) (SYT.vs hto (by omega) hq_7)) (sgI_of ex_5 ej_6 (by omega)) (uns_bs (all_bs (r := r) (f := f) (g := gg) h_55) h_47 ex_57 ex_58 ex_49 ex_53 h_51 h_60 ex_62) h_64 (show r < 32 by omega) ex_70) (kn_n hwfm (show r < n from hrn) hkn (sgI_of ex_5 ej_6 (by omega)) (uns_bs (all_bs (r := r) (f := f) (g := gg) h_55) h_47 ex_57 ex_58 ex_49 ex_53 h_51 h_60 ex_62) h_64 (show r < 32 by omega) ex_71) (by omega) (by omega) (by omega) (by omega) (by omega)))
            · refine an2 hw ?_
              clear hw
              intro he_68 he_69 hw
              have h_67 := hw
              clear hw
              have he_68 := he_68.symm
              subst he_68
              subst he_69
              refine ww_eq (ws' := [(rd, .inr (7, [.ref rt, .ref rf, .int go0, .int st1, .int kn1])), (jt, .inl (E.2.1 7, 8, .inr (.inr (.inr (.inr fto))))), (qj, .inr (2, [.ref jt, .ref je, .ref ju, .ref ja])), (ju, .inl (E.2.1 1, 32, .inl ft2_24)), (ja, .inl (E.2.1 5, 2, .inr (.inr (.inr (.inr fa))))), (la0, .inr (3, [.ref la0m, .int la0zp_25, .int la0zw_26, .ref la0c, .ref la0f, .ref la0q])), (la0c, .inl (E.2.1 1, 24, .inl la0zfc_29)), (la0f, .inl (E.2.1 1, 24, .inl la0zff_30)), (la0q, .inl (E.2.1 1, 4, .inl la0zfq_31)), (la0m, .inr (4, [.int (nI la0zn_27), .int (nI la0zr_28), .ref la0x, .ref la0y])), (la0x, .inl (E.2.1 1, 24, .inl la0zgx_32)), (la0y, .inl (E.2.1 1, 96, .inl la0zgy_33)), (la1, .inr (3, [.ref la1m, .int la1zp_34, .int la1zw_35, .ref la1c, .ref la1f, .ref la1q])), (la1c, .inl (E.2.1 1, 24, .inl la1zfc_38)), (la1f, .inl (E.2.1 1, 24, .inl la1zff_39)), (la1q, .inl (E.2.1 1, 4, .inl la1zfq_40)), (la1m, .inr (4, [.int (nI la1zn_36), .int (nI la1zr_37), .ref la1x, .ref la1y])), (la1x, .inl (E.2.1 1, 24, .inl la1zgx_41)), (la1y, .inl (E.2.1 1, 96, .inl la1zgy_42)), (h, .inr (4, [.int (nI n), .int (nI r), .ref a, .ref b])), (a, .inl (E.2.1 1, 24, .inl f)), (b, .inl (E.2.1 1, 96, .inl gg))]) ?_ rfl rfl rfl
              refine ww_if_ne_f (tgt := 118) C dX7_ask_111 (by decide) (rfl) ?_
              refine ww_iconst (v := 1) C dX7_ask_114 rfl ?_
              refine ww_goto (tgt := 119) C dX7_ask_115 (by decide) ?_
              refine ww_istore (lv' := [(11, .int 1), (10, .int x_62), (9, .int r_59), (8, .int r_50), (7, .int r_23), (6, .ref a_8), (5, .int (nI k1)), (0, .ref rd), (1, .ref h), (2, .ref qj), (3, .int gr), (4, .int sg)]) C dX7_ask_119 rfl rfl ?_
              refine ww_aload_n C dX7_ask_121 7 rfl rfl ?_
              refine ww_dup C dX7_ask_122 rfl ?_
              refine ww_get C fg_X7_26 0 rfl rfl dX7_ask_123 ?_
              refine ww_iload C dX7_ask_126 0 rfl ?_
              refine ww_if_eq_f (tgt := 138) C dX7_ask_128 (by decide) (by decide) ?_
              refine ww_iload C dX7_ask_131 1 rfl ?_
              refine ww_iconst (v := (-1)) C dX7_ask_133 rfl ?_
              obtain ⟨x_72, ex_72⟩ : ∃ z : Int32, x_62 ^^^ ((-1) : Int32) = z := ⟨_, rfl⟩
              refine ww_ixor (v := x_72) C dX7_ask_134 ex_72 ?_
              refine ww_goto (tgt := 140) C dX7_ask_135 (by decide) ?_
              obtain ⟨x_73, ex_73⟩ : ∃ z : Int32, st1 &&& x_72 = z := ⟨_, rfl⟩
              refine ww_iand (v := x_73) C dX7_ask_140 ex_73 ?_
              refine ww_put (ws' := [(rd, .inr (7, [.ref rt, .ref rf, .int go0, .int x_73, .int kn1])), (jt, .inl (E.2.1 7, 8, .inr (.inr (.inr (.inr fto))))), (qj, .inr (2, [.ref jt, .ref je, .ref ju, .ref ja])), (ju, .inl (E.2.1 1, 32, .inl ft2_24)), (ja, .inl (E.2.1 5, 2, .inr (.inr (.inr (.inr fa))))), (la0, .inr (3, [.ref la0m, .int la0zp_25, .int la0zw_26, .ref la0c, .ref la0f, .ref la0q])), (la0c, .inl (E.2.1 1, 24, .inl la0zfc_29)), (la0f, .inl (E.2.1 1, 24, .inl la0zff_30)), (la0q, .inl (E.2.1 1, 4, .inl la0zfq_31)), (la0m, .inr (4, [.int (nI la0zn_27), .int (nI la0zr_28), .ref la0x, .ref la0y])), (la0x, .inl (E.2.1 1, 24, .inl la0zgx_32)), (la0y, .inl (E.2.1 1, 96, .inl la0zgy_33)), (la1, .inr (3, [.ref la1m, .int la1zp_34, .int la1zw_35, .ref la1c, .ref la1f, .ref la1q])), (la1c, .inl (E.2.1 1, 24, .inl la1zfc_38)), (la1f, .inl (E.2.1 1, 24, .inl la1zff_39)), (la1q, .inl (E.2.1 1, 4, .inl la1zfq_40)), (la1m, .inr (4, [.int (nI la1zn_36), .int (nI la1zr_37), .ref la1x, .ref la1y])), (la1x, .inl (E.2.1 1, 24, .inl la1zgx_41)), (la1y, .inl (E.2.1 1, 96, .inl la1zgy_42)), (h, .inr (4, [.int (nI n), .int (nI r), .ref a, .ref b])), (a, .inl (E.2.1 1, 24, .inl f)), (b, .inl (E.2.1 1, 96, .inl gg))]) C fp_X7_26 0 rfl rfl rfl rfl rfl dX7_ask_141 ?_
              refine ww_aload_n C dX7_ask_144 7 rfl rfl ?_
              refine ww_dup C dX7_ask_145 rfl ?_
              refine ww_get C fg_X7_30 0 rfl rfl dX7_ask_146 ?_
              refine ww_iload C dX7_ask_149 0 rfl ?_
              refine ww_if_eq_f (tgt := 161) C dX7_ask_151 (by decide) (by decide) ?_
              refine ww_iconst (v := 1) C dX7_ask_154 rfl ?_
              refine ww_iload C dX7_ask_155 6 rfl ?_
              obtain ⟨x_74, ex_74⟩ : ∃ z : Int32, (1 : Int32) <<< ((nI k1) &&& 31) = z := ⟨_, rfl⟩
              refine ww_ishl (v := x_74) C dX7_ask_157 ex_74 ?_
              refine ww_goto (tgt := 162) C dX7_ask_158 (by decide) ?_
              obtain ⟨x_75, ex_75⟩ : ∃ z : Int32, kn1 ||| x_74 = z := ⟨_, rfl⟩
              refine ww_ior (v := x_75) C dX7_ask_162 ex_75 ?_
              refine ww_put (ws' := [(rd, .inr (7, [.ref rt, .ref rf, .int go0, .int x_73, .int x_75])), (jt, .inl (E.2.1 7, 8, .inr (.inr (.inr (.inr fto))))), (qj, .inr (2, [.ref jt, .ref je, .ref ju, .ref ja])), (ju, .inl (E.2.1 1, 32, .inl ft2_24)), (ja, .inl (E.2.1 5, 2, .inr (.inr (.inr (.inr fa))))), (la0, .inr (3, [.ref la0m, .int la0zp_25, .int la0zw_26, .ref la0c, .ref la0f, .ref la0q])), (la0c, .inl (E.2.1 1, 24, .inl la0zfc_29)), (la0f, .inl (E.2.1 1, 24, .inl la0zff_30)), (la0q, .inl (E.2.1 1, 4, .inl la0zfq_31)), (la0m, .inr (4, [.int (nI la0zn_27), .int (nI la0zr_28), .ref la0x, .ref la0y])), (la0x, .inl (E.2.1 1, 24, .inl la0zgx_32)), (la0y, .inl (E.2.1 1, 96, .inl la0zgy_33)), (la1, .inr (3, [.ref la1m, .int la1zp_34, .int la1zw_35, .ref la1c, .ref la1f, .ref la1q])), (la1c, .inl (E.2.1 1, 24, .inl la1zfc_38)), (la1f, .inl (E.2.1 1, 24, .inl la1zff_39)), (la1q, .inl (E.2.1 1, 4, .inl la1zfq_40)), (la1m, .inr (4, [.int (nI la1zn_36), .int (nI la1zr_37), .ref la1x, .ref la1y])), (la1x, .inl (E.2.1 1, 24, .inl la1zgx_41)), (la1y, .inl (E.2.1 1, 96, .inl la1zgy_42)), (h, .inr (4, [.int (nI n), .int (nI r), .ref a, .ref b])), (a, .inl (E.2.1 1, 24, .inl f)), (b, .inl (E.2.1 1, 96, .inl gg))]) C fp_X7_30 0 rfl rfl rfl rfl rfl dX7_ask_163 ?_
              refine ww_iinc (j := 6) (v := (nI (k1 + 1))) (lv' := [(5, .int (nI (k1 + 1))), (11, .int 1), (10, .int x_62), (9, .int r_59), (8, .int r_50), (7, .int r_23), (6, .ref a_8), (0, .ref rd), (1, .ref h), (2, .ref qj), (3, .int gr), (4, .int sg)]) C dX7_ask_166 rfl (nI_add k1 1) rfl rfl ?_
              refine ww_goto (tgt := 16) C dX7_ask_169 (by decide) ?_
              exact ww_lv [0, 7, 8, 9, 10, 11] rfl (ww_sub [0, 2, 3, 4, 5, 6, 7, 8, 9, 10, 11, 12, 13, 14, 15, 16, 17, 18, 1, 20, 21, 19] rfl rfl (ih_16 (k1 + 1) x_73 x_75 ft2_24 la0zp_25 la0zw_26 la0zn_27 la0zr_28 la0zfc_29 la0zff_30 la0zfq_31 la0zgx_32 la0zgy_33 la1zp_34 la1zw_35 la1zn_36 la1zr_37 la1zfc_38 la1zff_39 la1zfq_40 la1zgx_41 la1zgy_42 (by omega) (as_y hwfm (show r < n from hrn) hst (askd_1 h_17 (sgI_of ex_5 ej_6 (by omega)) (SYT.vs hto (by omega) hq_7)) (sgI_of ex_5 ej_6 (by omega)) (uns_bs (all_bs (r := r) (f := f) (g := gg) h_55) h_47 ex_57 ex_58 ex_49 ex_53 h_51 h_60 ex_62) h_67 (show r < 32 by omega) ex_72 ex_73) (kn_y hwfm (show r < n from hrn) hkn (by omega) (askd_1 h_17 (sgI_of ex_5 ej_6 (by omega)) (SYT.vs hto (by omega) hq_7)) (sgI_of ex_5 ej_6 (by omega)) (uns_bs (all_bs (r := r) (f := f) (g := gg) h_55) h_47 ex_57 ex_58 ex_49 ex_53 h_51 h_60 ex_62) h_67 (show r < 32 by omega) ex_74 ex_75) (by omega) (by omega) (by omega) (by omega) (by omega)))
          · refine an2 hw ?_
            clear hw
            intro he_21 he_22 hw
            have h_20 := hw
            clear hw
            have he_21 := he_21.symm
            subst he_21
            subst he_22
            refine ww_eq (ws' := [(rd, .inr (7, [.ref rt, .ref rf, .int go0, .int st1, .int kn1])), (qj, .inr (2, [.ref jt, .ref je, .ref ju, .ref ja])), (ju, .inl (E.2.1 1, 32, .inl ftq)), (ja, .inl (E.2.1 5, 2, .inr (.inr (.inr (.inr fa))))), (la0, .inr (3, [.ref la0m, .int la0qp, .int la0qw, .ref la0c, .ref la0f, .ref la0q])), (la0c, .inl (E.2.1 1, 24, .inl la0qfc)), (la0f, .inl (E.2.1 1, 24, .inl la0qff)), (la0q, .inl (E.2.1 1, 4, .inl la0qfq)), (la0m, .inr (4, [.int (nI la0qn), .int (nI la0qr), .ref la0x, .ref la0y])), (la0x, .inl (E.2.1 1, 24, .inl la0qgx)), (la0y, .inl (E.2.1 1, 96, .inl la0qgy)), (la1, .inr (3, [.ref la1m, .int la1qp, .int la1qw, .ref la1c, .ref la1f, .ref la1q])), (la1c, .inl (E.2.1 1, 24, .inl la1qfc)), (la1f, .inl (E.2.1 1, 24, .inl la1qff)), (la1q, .inl (E.2.1 1, 4, .inl la1qfq)), (la1m, .inr (4, [.int (nI la1qn), .int (nI la1qr), .ref la1x, .ref la1y])), (la1x, .inl (E.2.1 1, 24, .inl la1qgx)), (la1y, .inl (E.2.1 1, 96, .inl la1qgy)), (jt, .inl (E.2.1 7, 8, .inr (.inr (.inr (.inr fto))))), (a, .inl (E.2.1 1, 24, .inl f)), (b, .inl (E.2.1 1, 96, .inl gg)), (h, .inr (4, [.int (nI n), .int (nI r), .ref a, .ref b]))]) ?_ rfl rfl rfl
            refine ww_if_eq_t (tgt := 166) C dX7_ask_45 (by decide) (rfl) ?_
            refine ww_iinc (j := 1) (v := (nI (k1 + 1))) (lv' := [(5, .int (nI (k1 + 1))), (6, .ref a_8), (0, .ref rd), (1, .ref h), (2, .ref qj), (3, .int gr), (4, .int sg)]) C dX7_ask_166 rfl (nI_add k1 1) rfl rfl ?_
            refine ww_goto (tgt := 16) C dX7_ask_169 (by decide) ?_
            exact ww_lv [0, 2, 3, 4, 5, 6] rfl (ww_sub [0, 1, 2, 3, 4, 5, 6, 7, 8, 9, 10, 11, 12, 13, 14, 15, 16, 17, 18, 19, 20, 21] rfl rfl (ih_16 (k1 + 1) st1 kn1 ftq la0qp la0qw la0qn la0qr la0qfc la0qff la0qfq la0qgx la0qgy la1qp la1qw la1qn la1qr la1qfc la1qff la1qfq la1qgx la1qgy (by omega) (as_0 hst (askd_0 h_20)) (kn_0 hkn (askd_0 h_20)) (by omega) (by omega) (by omega) (by omega) (by omega)))
  exact ww_lv [0, 1, 2, 3, 4, 5] rfl (ww_sub [0, 1, 2, 3, 4, 5, 6, 7, 8, 9, 10, 11, 12, 13, 14, 15, 16, 17, 18, 19, 20, 21] rfl rfl (loop_16 _ 0 r_1 0 ft la0p la0w la0n la0r la0fc la0ff la0fq la0gx la0gy la1p la1w la1n la1r la1fc la1ff la1fq la1gx la1gy (by omega) (all_bs (r := r) (f := f) (g := gg) h_2) (BS.z.cg (fun i _ => by unfold knS; rw [decide_eq_false (Nat.not_lt_zero i), Bool.false_and])) (by omega) (by omega) (by omega) (by omega) (Nat.lt_succ_self _)))
