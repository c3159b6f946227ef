theorem dX2_whole_0 : decode cX2_whole 0 = .ok (.aload_n 1, 1) := by decide +kernel
theorem dX2_whole_1 : decode cX2_whole 1 = .ok (.astore_n 3, 1) := by decide +kernel
theorem dX2_whole_2 : decode cX2_whole 2 = .ok (.iconst 0, 1) := by decide +kernel
theorem dX2_whole_3 : decode cX2_whole 3 = .ok (.istore 4, 2) := by decide +kernel
theorem dX2_whole_5 : decode cX2_whole 5 = .ok (.iconst 1, 1) := by decide +kernel
theorem dX2_whole_6 : decode cX2_whole 6 = .ok (.istore 5, 2) := by decide +kernel
theorem dX2_whole_8 : decode cX2_whole 8 = .ok (.iload 4, 2) := by decide +kernel
theorem dX2_whole_10 : decode cX2_whole 10 = .ok (.aload_n 2, 1) := by decide +kernel
theorem dX2_whole_11 : decode cX2_whole 11 = .ok (.getfield 35, 3) := by decide +kernel
theorem wf_X2_35 : Cond.fieldLink RX2 35 RX8 "afters" "I" ∈ TB := tbm (tq3 (List.mem_of_getElem? (i := 163) (by decide +kernel))) (by decide +kernel)
theorem fg_X2_35 : FG RX2 35 8 3 := ⟨RX8, TX8, 7, uw_X8, wf_X2_35, rfl, by decide, rfl⟩
theorem dX2_whole_14 : decode cX2_whole 14 = .ok (.if_icmp .ge 93, 3) := by decide +kernel
theorem dX2_whole_107 : decode cX2_whole 107 = .ok (.iload 5, 2) := by decide +kernel
theorem dX2_whole_109 : decode cX2_whole 109 = .ok (.ifCond .eq 12, 3) := by decide +kernel
theorem dX2_whole_112 : decode cX2_whole 112 = .ok (.aload_n 0, 1) := by decide +kernel
theorem dX2_whole_113 : decode cX2_whole 113 = .ok (.aload_n 3, 1) := by decide +kernel
theorem dX2_whole_114 : decode cX2_whole 114 = .ok (.aload_n 2, 1) := by decide +kernel
theorem dX2_whole_115 : decode cX2_whole 115 = .ok (.invokevirtual 57, 3) := by decide +kernel
theorem wl_X2_57 : Cond.methodLink RX2 57 yX2_plain ∈ TB := tbm (tq4 (List.mem_of_getElem? (i := 38) (by decide +kernel))) (by decide +kernel)
theorem dX2_whole_118 : decode cX2_whole 118 = .ok (.goto 7, 3) := by decide +kernel
theorem dX2_whole_125 : decode cX2_whole 125 = .ok (.istore 6, 2) := by decide +kernel
theorem dX2_whole_127 : decode cX2_whole 127 = .ok (.iload 4, 2) := by decide +kernel
theorem dX2_whole_129 : decode cX2_whole 129 = .ok (.iconst 1, 1) := by decide +kernel
theorem dX2_whole_130 : decode cX2_whole 130 = .ok (.isub, 1) := by decide +kernel
theorem dX2_whole_131 : decode cX2_whole 131 = .ok (.istore 7, 2) := by decide +kernel
theorem dX2_whole_133 : decode cX2_whole 133 = .ok (.iload 7, 2) := by decide +kernel
theorem dX2_whole_135 : decode cX2_whole 135 = .ok (.ifCond .lt 38, 3) := by decide +kernel
theorem dX2_whole_173 : decode cX2_whole 173 = .ok (.iload 6, 2) := by decide +kernel
theorem dX2_whole_175 : decode cX2_whole 175 = .ok (.ireturn, 1) := by decide +kernel
theorem dX2_whole_17 : decode cX2_whole 17 = .ok (.iload 5, 2) := by decide +kernel
theorem dX2_whole_19 : decode cX2_whole 19 = .ok (.ifCond .eq 88, 3) := by decide +kernel
theorem dX2_whole_22 : decode cX2_whole 22 = .ok (.aload_n 0, 1) := by decide +kernel
theorem dX2_whole_23 : decode cX2_whole 23 = .ok (.getfield 19, 3) := by decide +kernel
theorem wf_X2_19 : Cond.fieldLink RX2 19 RX2 "events" "[LWhoKnows$Event;" ∈ TB := tbm (tq1 (List.mem_of_getElem? (i := 215) (by decide +kernel))) (by decide +kernel)
theorem fg_X2_19 : FG RX2 19 2 1 := ⟨RX2, TX2, 4, uw_X2, wf_X2_19, rfl, by decide, rfl⟩
theorem dX2_whole_26 : decode cX2_whole 26 = .ok (.aload_n 2, 1) := by decide +kernel
theorem dX2_whole_27 : decode cX2_whole 27 = .ok (.getfield 39, 3) := by decide +kernel
theorem wf_X2_39 : Cond.fieldLink RX2 39 RX8 "after" "[I" ∈ TB := tbm (tq3 (List.mem_of_getElem? (i := 166) (by decide +kernel))) (by decide +kernel)
theorem fg_X2_39 : FG RX2 39 8 4 := ⟨RX8, TX8, 7, uw_X8, wf_X2_39, rfl, by decide, rfl⟩
theorem dX2_whole_30 : decode cX2_whole 30 = .ok (.iload 4, 2) := by decide +kernel
theorem dX2_whole_32 : decode cX2_whole 32 = .ok (.iaload, 1) := by decide +kernel
theorem dX2_whole_33 : decode cX2_whole 33 = .ok (.aaload, 1) := by decide +kernel
theorem dX2_whole_34 : decode cX2_whole 34 = .ok (.astore 6, 2) := by decide +kernel
theorem dX2_whole_36 : decode cX2_whole 36 = .ok (.aload_n 0, 1) := by decide +kernel
theorem dX2_whole_37 : decode cX2_whole 37 = .ok (.getfield 29, 3) := by decide +kernel
theorem wf_X2_29 : Cond.fieldLink RX2 29 RX2 "ahead" "[LWhoKnows$Layer;" ∈ TB := tbm (tq1 (List.mem_of_getElem? (i := 219) (by decide +kernel))) (by decide +kernel)
theorem fg_X2_29 : FG RX2 29 2 3 := ⟨RX2, TX2, 4, uw_X2, wf_X2_29, rfl, by decide, rfl⟩
theorem dX2_whole_40 : decode cX2_whole 40 = .ok (.iload 4, 2) := by decide +kernel
theorem dX2_whole_42 : decode cX2_whole 42 = .ok (.aaload, 1) := by decide +kernel
theorem dX2_whole_43 : decode cX2_whole 43 = .ok (.aload_n 3, 1) := by decide +kernel
theorem dX2_whole_44 : decode cX2_whole 44 = .ok (.aload 6, 2) := by decide +kernel
theorem dX2_whole_46 : decode cX2_whole 46 = .ok (.aload_n 0, 1) := by decide +kernel
theorem dX2_whole_47 : decode cX2_whole 47 = .ok (.invokevirtual 42, 3) := by decide +kernel
theorem wl_X2_42 : Cond.methodLink RX2 42 yX3_measure ∈ TB := tbm (tq3 (List.mem_of_getElem? (i := 215) (by decide +kernel))) (by decide +kernel)
theorem wc_X3_measure : Cond.code yX3_measure cX3_measure 8 none ∈ TB := tbm (tq3 (List.mem_of_getElem? (i := 218) (rfl))) (by decide +kernel)
theorem wi_X3_measure : Cond.instanceMethod yX3_measure ∈ TB := tbm (tq3 (List.mem_of_getElem? (i := 216) (by decide +kernel))) (by decide +kernel)
theorem ws_X3_measure : Cond.selects RX3 yX3_measure yX3_measure ∈ TB := tbm (tq3 (List.mem_of_getElem? (i := 217) (by decide +kernel))) (by decide +kernel)
theorem mi_X3_measure : MI yX3_measure cX3_measure 8 none 3 := ⟨wc_X3_measure, wn_X3, ⟨by decide +kernel, by decide +kernel, by decide +kernel⟩, wi_X3_measure, ws_X3_measure⟩
theorem dX2_whole_50 : decode cX2_whole 50 = .ok (.aload_n 0, 1) := by decide +kernel
theorem dX2_whole_51 : decode cX2_whole 51 = .ok (.getfield 29, 3) := by decide +kernel
theorem dX2_whole_54 : decode cX2_whole 54 = .ok (.iload 4, 2) := by decide +kernel
theorem dX2_whole_56 : decode cX2_whole 56 = .ok (.aaload, 1) := by decide +kernel
theorem dX2_whole_57 : decode cX2_whole 57 = .ok (.getfield 46, 3) := by decide +kernel
theorem wf_X2_46 : Cond.fieldLink RX2 46 RX3 "pairs" "I" ∈ TB := tbm (tq1 (List.mem_of_getElem? (i := 191) (by decide +kernel))) (by decide +kernel)
theorem fg_X2_46 : FG RX2 46 3 1 := ⟨RX3, TX3, 6, uw_X3, wf_X2_46, rfl, by decide, rfl⟩
theorem dX2_whole_60 : decode cX2_whole 60 = .ok (.bipush 24, 2) := by decide +kernel
theorem dX2_whole_62 : decode cX2_whole 62 = .ok (.if_icmp .gt 7, 3) := by decide +kernel
theorem dX2_whole_69 : decode cX2_whole 69 = .ok (.iconst 0, 1) := by decide +kernel
theorem dX2_whole_70 : decode cX2_whole 70 = .ok (.istore 5, 2) := by decide +kernel
theorem dX2_whole_72 : decode cX2_whole 72 = .ok (.iload 5, 2) := by decide +kernel
theorem dX2_whole_74 : decode cX2_whole 74 = .ok (.ifCond .eq 30, 3) := by decide +kernel
theorem dX2_whole_104 : decode cX2_whole 104 = .ok (.goto (-96), 3) := by decide +kernel
theorem dX2_whole_121 : decode cX2_whole 121 = .ok (.aload_n 3, 1) := by decide +kernel
theorem dX2_whole_122 : decode cX2_whole 122 = .ok (.invokevirtual 61, 3) := by decide +kernel
theorem dX2_whole_65 : decode cX2_whole 65 = .ok (.iconst 1, 1) := by decide +kernel
theorem dX2_whole_66 : decode cX2_whole 66 = .ok (.goto 4, 3) := by decide +kernel
theorem dX2_whole_77 : decode cX2_whole 77 = .ok (.aload_n 0, 1) := by decide +kernel
theorem dX2_whole_78 : decode cX2_whole 78 = .ok (.getfield 29, 3) := by decide +kernel
theorem dX2_whole_81 : decode cX2_whole 81 = .ok (.iload 4, 2) := by decide +kernel
theorem dX2_whole_83 : decode cX2_whole 83 = .ok (.aaload, 1) := by decide +kernel
theorem dX2_whole_84 : decode cX2_whole 84 = .ok (.aload_n 3, 1) := by decide +kernel
theorem dX2_whole_85 : decode cX2_whole 85 = .ok (.aload 6, 2) := by decide +kernel
theorem dX2_whole_87 : decode cX2_whole 87 = .ok (.invokevirtual 49, 3) := by decide +kernel
theorem wl_X2_49 : Cond.methodLink RX2 49 yX3_build ∈ TB := tbm (tq4 (List.mem_of_getElem? (i := 3) (by decide +kernel))) (by decide +kernel)
theorem wc_X3_build : Cond.code yX3_build cX3_build 5 none ∈ TB := tbm (tq4 (List.mem_of_getElem? (i := 6) (rfl))) (by decide +kernel)
theorem wi_X3_build : Cond.instanceMethod yX3_build ∈ TB := tbm (tq4 (List.mem_of_getElem? (i := 4) (by decide +kernel))) (by decide +kernel)
theorem ws_X3_build : Cond.selects RX3 yX3_build yX3_build ∈ TB := tbm (tq4 (List.mem_of_getElem? (i := 5) (by decide +kernel))) (by decide +kernel)
theorem mi_X3_build : MI yX3_build cX3_build 5 none 2 := ⟨wc_X3_build, wn_X3, ⟨by decide +kernel, by decide +kernel, by decide +kernel⟩, wi_X3_build, ws_X3_build⟩
theorem dX2_whole_90 : decode cX2_whole 90 = .ok (.aload_n 0, 1) := by decide +kernel
theorem dX2_whole_91 : decode cX2_whole 91 = .ok (.getfield 29, 3) := by decide +kernel
theorem dX2_whole_94 : decode cX2_whole 94 = .ok (.iload 4, 2) := by decide +kernel
theorem dX2_whole_96 : decode cX2_whole 96 = .ok (.aaload, 1) := by decide +kernel
theorem dX2_whole_97 : decode cX2_whole 97 = .ok (.getfield 53, 3) := by decide +kernel
theorem wf_X2_53 : Cond.fieldLink RX2 53 RX3 "behind" "LWhoKnows$Model;" ∈ TB := tbm (tq1 (List.mem_of_getElem? (i := 188) (by decide +kernel))) (by decide +kernel)
theorem fg_X2_53 : FG RX2 53 3 0 := ⟨RX3, TX3, 6, uw_X3, wf_X2_53, rfl, by decide, rfl⟩
theorem dX2_whole_100 : decode cX2_whole 100 = .ok (.astore_n 3, 1) := by decide +kernel
theorem dX2_whole_101 : decode cX2_whole 101 = .ok (.iinc 4 1, 3) := by decide +kernel
theorem dX2_whole_138 : decode cX2_whole 138 = .ok (.aload_n 0, 1) := by decide +kernel
theorem dX2_whole_139 : decode cX2_whole 139 = .ok (.getfield 29, 3) := by decide +kernel
theorem dX2_whole_142 : decode cX2_whole 142 = .ok (.iload 7, 2) := by decide +kernel
theorem dX2_whole_144 : decode cX2_whole 144 = .ok (.aaload, 1) := by decide +kernel
theorem dX2_whole_145 : decode cX2_whole 145 = .ok (.iload 6, 2) := by decide +kernel
theorem dX2_whole_147 : decode cX2_whole 147 = .ok (.aload_n 0, 1) := by decide +kernel
theorem dX2_whole_148 : decode cX2_whole 148 = .ok (.getfield 19, 3) := by decide +kernel
theorem dX2_whole_151 : decode cX2_whole 151 = .ok (.aload_n 2, 1) := by decide +kernel
theorem dX2_whole_152 : decode cX2_whole 152 = .ok (.getfield 39, 3) := by decide +kernel
theorem dX2_whole_155 : decode cX2_whole 155 = .ok (.iload 7, 2) := by decide +kernel
theorem dX2_whole_157 : decode cX2_whole 157 = .ok (.iaload, 1) := by decide +kernel
theorem dX2_whole_158 : decode cX2_whole 158 = .ok (.aaload, 1) := by decide +kernel
theorem dX2_whole_159 : decode cX2_whole 159 = .ok (.getfield 67, 3) := by decide +kernel
theorem wf_X2_67 : Cond.fieldLink RX2 67 RX0 "realCase" "I" ∈ TB := tbm (tq1 (List.mem_of_getElem? (i := 154) (by decide +kernel))) (by decide +kernel)
theorem fg_X2_67 : FG RX2 67 0 1 := ⟨RX0, TX0, 6, uw_X0, wf_X2_67, rfl, by decide, rfl⟩
theorem dX2_whole_162 : decode cX2_whole 162 = .ok (.invokevirtual 70, 3) := by decide +kernel
theorem wl_X2_70 : Cond.methodLink RX2 70 yX3_comingTo ∈ TB := tbm (tq4 (List.mem_of_getElem? (i := 39) (by decide +kernel))) (by decide +kernel)
theorem wc_X3_comingTo : Cond.code yX3_comingTo cX3_comingTo 5 (some .int) ∈ TB := tbm (tq4 (List.mem_of_getElem? (i := 42) (rfl))) (by decide +kernel)
theorem wi_X3_comingTo : Cond.instanceMethod yX3_comingTo ∈ TB := tbm (tq4 (List.mem_of_getElem? (i := 40) (by decide +kernel))) (by decide +kernel)
theorem ws_X3_comingTo : Cond.selects RX3 yX3_comingTo yX3_comingTo ∈ TB := tbm (tq4 (List.mem_of_getElem? (i := 41) (by decide +kernel))) (by decide +kernel)
theorem mi_X3_comingTo : MI yX3_comingTo cX3_comingTo 5 (some .int) 2 := ⟨wc_X3_comingTo, wn_X3, ⟨by decide +kernel, by decide +kernel, by decide +kernel⟩, wi_X3_comingTo, ws_X3_comingTo⟩
theorem dX2_whole_165 : decode cX2_whole 165 = .ok (.istore 6, 2) := by decide +kernel
theorem dX2_whole_167 : decode cX2_whole 167 = .ok (.iinc 7 (-1), 3) := by decide +kernel
theorem dX2_whole_170 : decode cX2_whole 170 = .ok (.goto (-37), 3) := by decide +kernel
set_option maxRecDepth 100000 in
set_option maxHeartbeats 4000000 in
theorem j_whole (l : Launch) (E : EV) (ro : va_W) (qj : Nat) (h : Nat) (sa : Nat) (jt : Nat) (je : Nat) (ju : Nat) (ja : Nat) (ft : Nat → Int32) (fa : Nat → Option Nat) (la0 : Nat) (la1 : Nat) (la0m : Nat) (la0p : Int32) (la0w : Int32) (la0c : Nat) (la0f : Nat) (la0q : Nat) (la0fc : Nat → Int32) (la0ff : Nat → Int32) (la0fq : Nat → Int32) (la0n : Nat) (la0r : Nat) (la0x : Nat) (la0y : Nat) (la0gx : Nat → Int32) (la0gy : Nat → Int32) (la1m : Nat) (la1p : Int32) (la1w : Int32) (la1c : Nat) (la1f : Nat) (la1q : Nat) (la1fc : Nat → Int32) (la1ff : Nat → Int32) (la1fq : Nat → Int32) (la1n : Nat) (la1r : Nat) (la1x : Nat) (la1y : Nat) (la1gx : Nat → Int32) (la1gy : Nat → Int32) (n : Nat) (r : Nat) (a : Nat) (b : Nat) (f : Nat → Int32) (gg : Nat → Int32) (vc : Nat → Nat) (vr : Nat → Nat) (vi : Nat → Nat → Option Nat) (vs : Nat → Nat → Int32) (vn : Nat → Nat → Int32) (vp : Nat → Nat → Int32) (k_fa_0 : fa 0 = some la0) (k_fa_1 : fa 1 = some la1) (hn : n ≤ 24) (hr : r < n ∨ r = 0) (hla0n : la0n ≤ 24) (hla0r : la0r < la0n ∨ la0r = 0) (hla1n : la1n ≤ 24) (hla1r : la1r < la1n ∨ la1r = 0) (hEV : EVA E ro je vc vr vi vs vn vp) (hsa : SYg E ro sa) : CT l yX2_whole (Cond.code yX2_whole cX2_whole 8 (some .int) :: TB) ({ frames := 4, cells := 0, slots := 0, locals := 108 }) E ro [.ref qj, .ref h, .ref sa] [(qj, .inr (2, [.ref jt, .ref je, .ref ju, .ref ja])), (ju, .inl (E.2.1 1, 32, .inl ft)), (ja, .inl (E.2.1 5, 2, .inr (.inr (.inr (.inr fa))))), (la0, .inr (3, [.ref la0m, .int la0p, .int la0w, .ref la0c, .ref la0f, .ref la0q])), (la0c, .inl (E.2.1 1, 24, .inl la0fc)), (la0f, .inl (E.2.1 1, 24, .inl la0ff)), (la0q, .inl (E.2.1 1, 4, .inl la0fq)), (la0m, .inr (4, [.int (nI la0n), .int (nI la0r), .ref la0x, .ref la0y])), (la0x, .inl (E.2.1 1, 24, .inl la0gx)), (la0y, .inl (E.2.1 1, 96, .inl la0gy)), (la1, .inr (3, [.ref la1m, .int la1p, .int la1w, .ref la1c, .ref la1f, .ref la1q])), (la1c, .inl (E.2.1 1, 24, .inl la1fc)), (la1f, .inl (E.2.1 1, 24, .inl la1ff)), (la1q, .inl (E.2.1 1, 4, .inl la1fq)), (la1m, .inr (4, [.int (nI la1n), .int (nI la1r), .ref la1x, .ref la1y])), (la1x, .inl (E.2.1 1, 24, .inl la1gx)), (la1y, .inl (E.2.1 1, 96, .inl la1gy)), (h, .inr (4, [.int (nI n), .int (nI r), .ref a, .ref b])), (a, .inl (E.2.1 1, 24, .inl f)), (b, .inl (E.2.1 1, 96, .inl gg))] (Qi E (fun (rz : Int32) uz => (∃ (ft2 : Nat → Int32) (la0zp : Int32) (la0zw : Int32) (la0zn : Nat) (la0zr : Nat) (la0zfc : Nat → Int32) (la0zff : Nat → Int32) (la0zfq : Nat → Int32) (la0zgx : Nat → Int32) (la0zgy : Nat → Int32) (la1zp : Int32) (la1zw : Int32) (la1zn : Nat) (la1zr : Nat) (la1zfc : Nat → Int32) (la1zff : Nat → Int32) (la1zfq : Nat → Int32) (la1zgx : Nat → Int32) (la1zgy : Nat → Int32), uz = [(qj, .inr (2, [.ref jt, .ref je, .ref ju, .ref ja])), (ju, .inl (E.2.1 1, 32, .inl ft2)), (ja, .inl (E.2.1 5, 2, .inr (.inr (.inr (.inr fa))))), (la0, .inr (3, [.ref la0m, .int la0zp, .int la0zw, .ref la0c, .ref la0f, .ref la0q])), (la0c, .inl (E.2.1 1, 24, .inl la0zfc)), (la0f, .inl (E.2.1 1, 24, .inl la0zff)), (la0q, .inl (E.2.1 1, 4, .inl la0zfq)), (la0m, .inr (4, [.int (nI la0zn), .int (nI la0zr), .ref la0x, .ref la0y])), (la0x, .inl (E.2.1 1, 24, .inl la0zgx)), (la0y, .inl (E.2.1 1, 96, .inl la0zgy)), (la1, .inr (3, [.ref la1m, .int la1zp, .int la1zw, .ref la1c, .ref la1f, .ref la1q])), (la1c, .inl (E.2.1 1, 24, .inl la1zfc)), (la1f, .inl (E.2.1 1, 24, .inl la1zff)), (la1q, .inl (E.2.1 1, 4, .inl la1zfq)), (la1m, .inr (4, [.int (nI la1zn), .int (nI la1zr), .ref la1x, .ref la1y])), (la1x, .inl (E.2.1 1, 24, .inl la1zgx)), (la1y, .inl (E.2.1 1, 96, .inl la1zgy)), (h, .inr (4, [.int (nI n), .int (nI r), .ref a, .ref b])), (a, .inl (E.2.1 1, 24, .inl f)), (b, .inl (E.2.1 1, 96, .inl gg))] ∧ (la0zn ≤ 24) ∧ (la0zr < la0zn ∨ la0zr = 0) ∧ (la1zn ≤ 24) ∧ (la1zr < la1zn ∨ la1zr = 0)))) 0 0 := by
  refine ct_of rfl rfl ?_
  intro X C hT hin hro
  show WW X 8 E 0 [(0, .ref qj), (1, .ref h), (2, .ref sa)] [] [(qj, .inr (2, [.ref jt, .ref je, .ref ju, .ref ja])), (ju, .inl (E.2.1 1, 32, .inl ft)), (ja, .inl (E.2.1 5, 2, .inr (.inr (.inr (.inr fa))))), (la0, .inr (3, [.ref la0m, .int la0p, .int la0w, .ref la0c, .ref la0f, .ref la0q])), (la0c, .inl (E.2.1 1, 24, .inl la0fc)), (la0f, .inl (E.2.1 1, 24, .inl la0ff)), (la0q, .inl (E.2.1 1, 4, .inl la0fq)), (la0m, .inr (4, [.int (nI la0n), .int (nI la0r), .ref la0x, .ref la0y])), (la0x, .inl (E.2.1 1, 24, .inl la0gx)), (la0y, .inl (E.2.1 1, 96, .inl la0gy)), (la1, .inr (3, [.ref la1m, .int la1p, .int la1w, .ref la1c, .ref la1f, .ref la1q])), (la1c, .inl (E.2.1 1, 24, .inl la1fc)), (la1f, .inl (E.2.1 1, 24, .inl la1ff)), (la1q, .inl (E.2.1 1, 4, .inl la1fq)), (la1m, .inr (4, [.int (nI la1n), .int (nI la1r), .ref la1x, .ref la1y])), (la1x, .inl (E.2.1 1, 24, .inl la1gx)), (la1y, .inl (E.2.1 1, 96, .inl la1gy)), (h, .inr (4, [.int (nI n), .int (nI r), .ref a, .ref b])), (a, .inl (E.2.1 1, 24, .inl f)), (b, .inl (E.2.1 1, 96, .inl gg))] 0 0
  obtain ⟨jei_, fe_, hje_, hall_⟩ := id hEV
  obtain ⟨nn, so, sr, sf, tk, dp, nm, na, i0, i1, i2, i3, sx, sy, sz, h0, h1, h2, h3, hwf, hna, haf⟩ := id hsa
  have hwn : 1 ≤ nn ∧ nn ≤ 32 := ⟨hwf.1, hwf.2.1⟩
  refine ww_aload_n C dX2_whole_0 1 rfl rfl ?_
  refine ww_astore_n (lv' := [(3, .ref h), (0, .ref qj), (1, .ref h), (2, .ref sa)]) C dX2_whole_1 rfl rfl rfl ?_
  refine ww_iconst (v := 0) C dX2_whole_2 rfl ?_
  refine ww_istore (lv' := [(4, .int 0), (3, .ref h), (0, .ref qj), (1, .ref h), (2, .ref sa)]) C dX2_whole_3 rfl rfl ?_
  refine ww_iconst (v := 1) C dX2_whole_5 rfl ?_
  refine ww_istore (lv' := [(5, .int 1), (4, .int 0), (3, .ref h), (0, .ref qj), (1, .ref h), (2, .ref sa)]) C dX2_whole_6 rfl rfl ?_
  refine ww_iload C dX2_whole_8 1 rfl ?_
  refine ww_aload_n C dX2_whole_10 5 rfl rfl ?_
  refine ww_getR C hro fg_X2_35 i0 h0 rfl dX2_whole_11 ?_
  refine ww_icmp_ge (tgt := 107) C dX2_whole_14 (by decide) (fun c_1 => ?_) (fun c_1 => ?_)
  · have zc_1 : 0 ≥ ((na : Nat) : Int) := i_le (nI_toInt (n := na) (by omega)) rfl c_1
    refine ww_iload C dX2_whole_107 0 rfl ?_
    refine ww_if_eq_f (tgt := 121) C dX2_whole_109 (by decide) (by decide) ?_
    refine ww_aload_n C dX2_whole_112 3 rfl rfl ?_
    refine ww_aload_n C dX2_whole_113 2 rfl rfl ?_
    refine ww_aload_n C dX2_whole_114 5 rfl rfl ?_
    refine ww_ci (wr := [(ja, .inl (E.2.1 5, 2, .inr (.inr (.inr (.inr fa))))), (la0, .inr (3, [.ref la0m, .int la0p, .int la0w, .ref la0c, .ref la0f, .ref la0q])), (la0c, .inl (E.2.1 1, 24, .inl la0fc)), (la0f, .inl (E.2.1 1, 24, .inl la0ff)), (la0q, .inl (E.2.1 1, 4, .inl la0fq)), (la0m, .inr (4, [.int (nI la0n), .int (nI la0r), .ref la0x, .ref la0y])), (la0x, .inl (E.2.1 1, 24, .inl la0gx)), (la0y, .inl (E.2.1 1, 96, .inl la0gy)), (la1, .inr (3, [.ref la1m, .int la1p, .int la1w, .ref la1c, .ref la1f, .ref la1q])), (la1c, .inl (E.2.1 1, 24, .inl la1fc)), (la1f, .inl (E.2.1 1, 24, .inl la1ff)), (la1q, .inl (E.2.1 1, 4, .inl la1fq)), (la1m, .inr (4, [.int (nI la1n), .int (nI la1r), .ref la1x, .ref la1y])), (la1x, .inl (E.2.1 1, 24, .inl la1gx)), (la1y, .inl (E.2.1 1, 96, .inl la1gy))]) (k' := 0) (n' := 0) C (run_V (As := [.ref h, .ref sa]) (rest := []) C (j_plain X.2.1 E ro qj h sa jt je ju ja ft n r a b f gg (by omega) (by omega) hsa) mi_X2_plain wl_X2_57 rfl 0 2 rfl rfl rfl rfl rfl dX2_whole_115) (roK hro) [0, 1, 17, 18, 19] [2, 3, 4, 5, 6, 7, 8, 9, 10, 11, 12, 13, 14, 15, 16] rfl rfl rfl rfl (fun r_2 uz hw => ?_)
    refine ex1 hw ?_
    clear hw
    intro ft2_3 hw
    have he_4 := hw
    clear hw
    subst he_4
    refine ww_eq (ws' := [(ja, .inl (E.2.1 5, 2, .inr (.inr (.inr (.inr fa))))), (la0, .inr (3, [.ref la0m, .int la0p, .int la0w, .ref la0c, .ref la0f, .ref la0q])), (la0c, .inl (E.2.1 1, 24, .inl la0fc)), (la0f, .inl (E.2.1 1, 24, .inl la0ff)), (la0q, .inl (E.2.1 1, 4, .inl la0fq)), (la0m, .inr (4, [.int (nI la0n), .int (nI la0r), .ref la0x, .ref la0y])), (la0x, .inl (E.2.1 1, 24, .inl la0gx)), (la0y, .inl (E.2.1 1, 96, .inl la0gy)), (la1, .inr (3, [.ref la1m, .int la1p, .int la1w, .ref la1c, .ref la1f, .ref la1q])), (la1c, .inl (E.2.1 1, 24, .inl la1fc)), (la1f, .inl (E.2.1 1, 24, .inl la1ff)), (la1q, .inl (E.2.1 1, 4, .inl la1fq)), (la1m, .inr (4, [.int (nI la1n), .int (nI la1r), .ref la1x, .ref la1y])), (la1x, .inl (E.2.1 1, 24, .inl la1gx)), (la1y, .inl (E.2.1 1, 96, .inl la1gy)), (qj, .inr (2, [.ref jt, .ref je, .ref ju, .ref ja])), (ju, .inl (E.2.1 1, 32, .inl ft2_3)), (h, .inr (4, [.int (nI n), .int (nI r), .ref a, .ref b])), (a, .inl (E.2.1 1, 24, .inl f)), (b, .inl (E.2.1 1, 96, .inl gg))]) ?_ rfl rfl rfl
    refine ww_goto (tgt := 125) C dX2_whole_118 (by decide) ?_
    refine ww_istore (lv' := [(6, .int r_2), (5, .int 1), (4, .int 0), (3, .ref h), (0, .ref qj), (1, .ref h), (2, .ref sa)]) C dX2_whole_125 rfl rfl ?_
    refine ww_iload C dX2_whole_127 2 rfl ?_
    refine ww_iconst (v := 1) C dX2_whole_129 rfl ?_
    refine ww_isub (v := (-1)) C dX2_whole_130 (by decide) ?_
    refine ww_istore (lv' := [(7, .int (-1)), (6, .int r_2), (5, .int 1), (4, .int 0), (3, .ref h), (0, .ref qj), (1, .ref h), (2, .ref sa)]) C dX2_whole_131 rfl rfl ?_
    refine ww_iload C dX2_whole_133 0 rfl ?_
    refine ww_if_lt_t (tgt := 173) C dX2_whole_135 (by decide) (by decide) ?_
    refine ww_iload C dX2_whole_173 1 rfl ?_
    exact ww_iret (u := [(qj, .inr (2, [.ref jt, .ref je, .ref ju, .ref ja])), (ju, .inl (E.2.1 1, 32, .inl ft2_3)), (ja, .inl (E.2.1 5, 2, .inr (.inr (.inr (.inr fa))))), (la0, .inr (3, [.ref la0m, .int la0p, .int la0w, .ref la0c, .ref la0f, .ref la0q])), (la0c, .inl (E.2.1 1, 24, .inl la0fc)), (la0f, .inl (E.2.1 1, 24, .inl la0ff)), (la0q, .inl (E.2.1 1, 4, .inl la0fq)), (la0m, .inr (4, [.int (nI la0n), .int (nI la0r), .ref la0x, .ref la0y])), (la0x, .inl (E.2.1 1, 24, .inl la0gx)), (la0y, .inl (E.2.1 1, 96, .inl la0gy)), (la1, .inr (3, [.ref la1m, .int la1p, .int la1w, .ref la1c, .ref la1f, .ref la1q])), (la1c, .inl (E.2.1 1, 24, .inl la1fc)), (la1f, .inl (E.2.1 1, 24, .inl la1ff)), (la1q, .inl (E.2.1 1, 4, .inl la1fq)), (la1m, .inr (4, [.int (nI la1n), .int (nI la1r), .ref la1x, .ref la1y])), (la1x, .inl (E.2.1 1, 24, .inl la1gx)), (la1y, .inl (E.2.1 1, 96, .inl la1gy)), (h, .inr (4, [.int (nI n), .int (nI r), .ref a, .ref b])), (a, .inl (E.2.1 1, 24, .inl f)), (b, .inl (E.2.1 1, 96, .inl gg))]) C hT [15, 16, 0, 1, 2, 3, 4, 5, 6, 7, 8, 9, 10, 11, 12, 13, 14, 17, 18, 19] rfl rfl rfl rfl dX2_whole_175 (⟨ft2_3, la0p, la0w, la0n, la0r, la0fc, la0ff, la0fq, la0gx, la0gy, la1p, la1w, la1n, la1r, la1fc, la1ff, la1fq, la1gx, la1gy, rfl, (by first | assumption | omega | decide), (by first | assumption | omega | decide), (by first | assumption | omega | decide), (by first | assumption | omega | decide)⟩)
  · have zc_1 : 0 < ((na : Nat) : Int) := i_nle (nI_toInt (n := na) (by omega)) rfl c_1
    refine ww_iload C dX2_whole_17 0 rfl ?_
    refine ww_if_eq_f (tgt := 107) C dX2_whole_19 (by decide) (by decide) ?_
    refine ww_aload_n C dX2_whole_22 3 rfl rfl ?_
    refine ww_get C fg_X2_19 0 rfl rfl dX2_whole_23 ?_
    refine ww_aload_n C dX2_whole_26 5 rfl rfl ?_
    refine ww_getR C hro fg_X2_39 i0 h0 rfl dX2_whole_27 ?_
    refine ww_iload C dX2_whole_30 1 rfl ?_
    obtain ⟨j_6, hj_6, ej_6⟩ := haf 0 (by omega)
    refine ww_ialdR (v := (nI j_6)) C hro i3 h3 (vin rfl) ej_6 dX2_whole_32 ?_
    obtain ⟨e_7, he_8, hev_9⟩ := hall_ j_6 (by omega)
    refine ww_aldR (v := (some e_7)) (t0 := 4) C hro jei_ hje_ rfl (vp_in_nI (by omega) (by omega)) (ldn (by omega) he_8) dX2_whole_33 ?_
    obtain ⟨i0y_10, i1y_10, i2y_10, i3y_10, i4y_10, cay_10, cby_10, ccy_10, cdy_10, g0y_10, g1y_10, g2y_10, g3y_10, g4y_10, hcsy_10, hrcy_10, hfiy_10⟩ := id hev_9
    refine ww_eq (st' := [.ref e_7]) ?_ rfl rfl rfl
    refine ww_astore (lv' := [(6, .ref e_7), (5, .int 1), (4, .int 0), (3, .ref h), (0, .ref qj), (1, .ref h), (2, .ref sa)]) C dX2_whole_34 rfl rfl ?_
    refine ww_aload_n C dX2_whole_36 4 rfl rfl ?_
    refine ww_get C fg_X2_29 0 rfl rfl dX2_whole_37 ?_
    refine ww_iload C dX2_whole_40 2 rfl ?_
    refine ww_ald (v := (some la0)) (t0 := 5) C 2 rfl rfl (vin rfl) k_fa_0 dX2_whole_42 ?_
    refine ww_eq (st' := [.ref la0]) ?_ rfl rfl rfl
    refine ww_aload_n C dX2_whole_43 3 rfl rfl ?_
    refine ww_aload C dX2_whole_44 0 rfl ?_
    refine ww_aload_n C dX2_whole_46 4 rfl rfl ?_
    refine ww_cv (wr := [(ja, .inl (E.2.1 5, 2, .inr (.inr (.inr (.inr fa))))), (la0q, .inl (E.2.1 1, 4, .inl la0fq)), (la0m, .inr (4, [.int (nI la0n), .int (nI la0r), .ref la0x, .ref la0y])), (la0x, .inl (E.2.1 1, 24, .inl la0gx)), (la0y, .inl (E.2.1 1, 96, .inl la0gy)), (la1, .inr (3, [.ref la1m, .int la1p, .int la1w, .ref la1c, .ref la1f, .ref la1q])), (la1c, .inl (E.2.1 1, 24, .inl la1fc)), (la1f, .inl (E.2.1 1, 24, .inl la1ff)), (la1q, .inl (E.2.1 1, 4, .inl la1fq)), (la1m, .inr (4, [.int (nI la1n), .int (nI la1r), .ref la1x, .ref la1y])), (la1x, .inl (E.2.1 1, 24, .inl la1gx)), (la1y, .inl (E.2.1 1, 96, .inl la1gy))]) (k' := 0) (n' := 0) C (run_V (As := [.ref h, .ref e_7, .ref qj]) (rest := []) C (l_measure X.2.1 E ro la0 h e_7 qj la0m la0p la0w la0c la0f la0q la0fc la0ff n r a b f gg jt je ju ja ft (vc j_6) (vr j_6) (vi j_6) (vs j_6) (vn j_6) (vp j_6) (by omega) (by omega) hev_9) mi_X3_measure wl_X2_42 rfl 0 3 rfl rfl rfl rfl rfl dX2_whole_47) (roK hro) [3, 4, 5, 17, 18, 19, 0, 1] [2, 6, 7, 8, 9, 10, 11, 12, 13, 14, 15, 16] rfl rfl rfl rfl (fun uz hw => ?_)
    refine ex4 hw ?_
    clear hw
    intro Pp_12 cf2_13 ff2_14 ft2_15 hw
    refine an3 hw ?_
    clear hw
    intro he_19 h_16 h_17 hw
    have h_18 := hw
    clear hw
    subst he_19
    refine ww_eq (ws' := [(ja, .inl (E.2.1 5, 2, .inr (.inr (.inr (.inr fa))))), (la0q, .inl (E.2.1 1, 4, .inl la0fq)), (la0m, .inr (4, [.int (nI la0n), .int (nI la0r), .ref la0x, .ref la0y])), (la0x, .inl (E.2.1 1, 24, .inl la0gx)), (la0y, .inl (E.2.1 1, 96, .inl la0gy)), (la1, .inr (3, [.ref la1m, .int la1p, .int la1w, .ref la1c, .ref la1f, .ref la1q])), (la1c, .inl (E.2.1 1, 24, .inl la1fc)), (la1f, .inl (E.2.1 1, 24, .inl la1ff)), (la1q, .inl (E.2.1 1, 4, .inl la1fq)), (la1m, .inr (4, [.int (nI la1n), .int (nI la1r), .ref la1x, .ref la1y])), (la1x, .inl (E.2.1 1, 24, .inl la1gx)), (la1y, .inl (E.2.1 1, 96, .inl la1gy)), (la0, .inr (3, [.ref la0m, .int (nI Pp_12), .int (nI n), .ref la0c, .ref la0f, .ref la0q])), (la0c, .inl (E.2.1 1, 24, .inl cf2_13)), (la0f, .inl (E.2.1 1, 24, .inl ff2_14)), (h, .inr (4, [.int (nI n), .int (nI r), .ref a, .ref b])), (a, .inl (E.2.1 1, 24, .inl f)), (b, .inl (E.2.1 1, 96, .inl gg)), (qj, .inr (2, [.ref jt, .ref je, .ref ju, .ref ja])), (ju, .inl (E.2.1 1, 32, .inl ft2_15))]) ?_ rfl rfl rfl
    refine ww_aload_n C dX2_whole_50 4 rfl rfl ?_
    refine ww_get C fg_X2_29 18 rfl rfl dX2_whole_51 ?_
    refine ww_iload C dX2_whole_54 2 rfl ?_
    refine ww_ald (v := (some la0)) (t0 := 5) C 0 rfl rfl (vin rfl) k_fa_0 dX2_whole_56 ?_
    refine ww_eq (st' := [.ref la0]) ?_ rfl rfl rfl
    refine ww_get C fg_X2_46 12 rfl rfl dX2_whole_57 ?_
    refine ww_bipush (v := 24) C dX2_whole_60 rfl ?_
    refine ww_icmp_gt (tgt := 69) C dX2_whole_62 (by decide) (fun c_20 => ?_) (fun c_20 => ?_)
    · have zc_20 : ((Pp_12 : Nat) : Int) > 24 := i_lt rfl (nI_toInt (n := Pp_12) (by omega)) c_20
      refine ww_iconst (v := 0) C dX2_whole_69 rfl ?_
      refine ww_istore (lv' := [(5, .int 0), (6, .ref e_7), (4, .int 0), (3, .ref h), (0, .ref qj), (1, .ref h), (2, .ref sa)]) C dX2_whole_70 rfl rfl ?_
      refine ww_iload C dX2_whole_72 0 rfl ?_
      refine ww_if_eq_t (tgt := 104) C dX2_whole_74 (by decide) (rfl) ?_
      refine ww_goto (tgt := 8) C dX2_whole_104 (by decide) ?_
      refine ww_iload C dX2_whole_8 2 rfl ?_
      refine ww_aload_n C dX2_whole_10 6 rfl rfl ?_
      refine ww_getR C hro fg_X2_35 i0 h0 rfl dX2_whole_11 ?_
      refine ww_icmp_ge (tgt := 107) C dX2_whole_14 (by decide) (fun c_21 => ?_) (fun c_21 => ?_)
      · have zc_21 : 0 ≥ ((na : Nat) : Int) := i_le (nI_toInt (n := na) (by omega)) rfl c_21
        omega
      · have zc_21 : 0 < ((na : Nat) : Int) := i_nle (nI_toInt (n := na) (by omega)) rfl c_21
        refine ww_iload C dX2_whole_17 0 rfl ?_
        refine ww_if_eq_t (tgt := 107) C dX2_whole_19 (by decide) (rfl) ?_
        refine ww_iload C dX2_whole_107 0 rfl ?_
        refine ww_if_eq_t (tgt := 121) C dX2_whole_109 (by decide) (rfl) ?_
        refine ww_aload_n C dX2_whole_121 3 rfl rfl ?_
        refine ww_ci (wr := [(ja, .inl (E.2.1 5, 2, .inr (.inr (.inr (.inr fa))))), (la0q, .inl (E.2.1 1, 4, .inl la0fq)), (la0m, .inr (4, [.int (nI la0n), .int (nI la0r), .ref la0x, .ref la0y])), (la0x, .inl (E.2.1 1, 24, .inl la0gx)), (la0y, .inl (E.2.1 1, 96, .inl la0gy)), (la1, .inr (3, [.ref la1m, .int la1p, .int la1w, .ref la1c, .ref la1f, .ref la1q])), (la1c, .inl (E.2.1 1, 24, .inl la1fc)), (la1f, .inl (E.2.1 1, 24, .inl la1ff)), (la1q, .inl (E.2.1 1, 4, .inl la1fq)), (la1m, .inr (4, [.int (nI la1n), .int (nI la1r), .ref la1x, .ref la1y])), (la1x, .inl (E.2.1 1, 24, .inl la1gx)), (la1y, .inl (E.2.1 1, 96, .inl la1gy)), (la0, .inr (3, [.ref la0m, .int (nI Pp_12), .int (nI n), .ref la0c, .ref la0f, .ref la0q])), (la0c, .inl (E.2.1 1, 24, .inl cf2_13)), (la0f, .inl (E.2.1 1, 24, .inl ff2_14)), (a, .inl (E.2.1 1, 24, .inl f)), (b, .inl (E.2.1 1, 96, .inl gg)), (qj, .inr (2, [.ref jt, .ref je, .ref ju, .ref ja])), (ju, .inl (E.2.1 1, 32, .inl ft2_15))]) (k' := 0) (n' := 0) C (run_V (As := []) (rest := []) C (m_all X.2.1 E ro h n r a b (by omega)) mi_X4_all wl_X2_61 rfl 0 4 rfl rfl rfl rfl rfl dX2_whole_122) (roK hro) [15] [0, 1, 2, 3, 4, 5, 6, 7, 8, 9, 10, 11, 12, 13, 14, 16, 17, 18, 19] rfl rfl rfl rfl (fun r_22 uz hw => ?_)
        refine an1 hw ?_
        clear hw
        intro he_24 hw
        have h_23 := hw
        clear hw
        subst he_24
        refine ww_eq (ws' := [(ja, .inl (E.2.1 5, 2, .inr (.inr (.inr (.inr fa))))), (la0q, .inl (E.2.1 1, 4, .inl la0fq)), (la0m, .inr (4, [.int (nI la0n), .int (nI la0r), .ref la0x, .ref la0y])), (la0x, .inl (E.2.1 1, 24, .inl la0gx)), (la0y, .inl (E.2.1 1, 96, .inl la0gy)), (la1, .inr (3, [.ref la1m, .int la1p, .int la1w, .ref la1c, .ref la1f, .ref la1q])), (la1c, .inl (E.2.1 1, 24, .inl la1fc)), (la1f, .inl (E.2.1 1, 24, .inl la1ff)), (la1q, .inl (E.2.1 1, 4, .inl la1fq)), (la1m, .inr (4, [.int (nI la1n), .int (nI la1r), .ref la1x, .ref la1y])), (la1x, .inl (E.2.1 1, 24, .inl la1gx)), (la1y, .inl (E.2.1 1, 96, .inl la1gy)), (la0, .inr (3, [.ref la0m, .int (nI Pp_12), .int (nI n), .ref la0c, .ref la0f, .ref la0q])), (la0c, .inl (E.2.1 1, 24, .inl cf2_13)), (la0f, .inl (E.2.1 1, 24, .inl ff2_14)), (a, .inl (E.2.1 1, 24, .inl f)), (b, .inl (E.2.1 1, 96, .inl gg)), (qj, .inr (2, [.ref jt, .ref je, .ref ju, .ref ja])), (ju, .inl (E.2.1 1, 32, .inl ft2_15)), (h, .inr (4, [.int (nI n), .int (nI r), .ref a, .ref b]))]) ?_ rfl rfl rfl
        refine ww_istore (lv' := [(6, .int r_22), (5, .int 0), (4, .int 0), (3, .ref h), (0, .ref qj), (1, .ref h), (2, .ref sa)]) C dX2_whole_125 rfl rfl ?_
        refine ww_iload C dX2_whole_127 2 rfl ?_
        refine ww_iconst (v := 1) C dX2_whole_129 rfl ?_
        refine ww_isub (v := (-1)) C dX2_whole_130 (by decide) ?_
        refine ww_istore (lv' := [(7, .int (-1)), (6, .int r_22), (5, .int 0), (4, .int 0), (3, .ref h), (0, .ref qj), (1, .ref h), (2, .ref sa)]) C dX2_whole_131 rfl rfl ?_
        refine ww_iload C dX2_whole_133 0 rfl ?_
        refine ww_if_lt_t (tgt := 173) C dX2_whole_135 (by decide) (by decide) ?_
        refine ww_iload C dX2_whole_173 1 rfl ?_
        exact ww_iret (u := [(qj, .inr (2, [.ref jt, .ref je, .ref ju, .ref ja])), (ju, .inl (E.2.1 1, 32, .inl ft2_15)), (ja, .inl (E.2.1 5, 2, .inr (.inr (.inr (.inr fa))))), (la0, .inr (3, [.ref la0m, .int (nI Pp_12), .int (nI n), .ref la0c, .ref la0f, .ref la0q])), (la0c, .inl (E.2.1 1, 24, .inl cf2_13)), (la0f, .inl (E.2.1 1, 24, .inl ff2_14)), (la0q, .inl (E.2.1 1, 4, .inl la0fq)), (la0m, .inr (4, [.int (nI la0n), .int (nI la0r), .ref la0x, .ref la0y])), (la0x, .inl (E.2.1 1, 24, .inl la0gx)), (la0y, .inl (E.2.1 1, 96, .inl la0gy)), (la1, .inr (3, [.ref la1m, .int la1p, .int la1w, .ref la1c, .ref la1f, .ref la1q])), (la1c, .inl (E.2.1 1, 24, .inl la1fc)), (la1f, .inl (E.2.1 1, 24, .inl la1ff)), (la1q, .inl (E.2.1 1, 4, .inl la1fq)), (la1m, .inr (4, [.int (nI la1n), .int (nI la1r), .ref la1x, .ref la1y])), (la1x, .inl (E.2.1 1, 24, .inl la1gx)), (la1y, .inl (E.2.1 1, 96, .inl la1gy)), (h, .inr (4, [.int (nI n), .int (nI r), .ref a, .ref b])), (a, .inl (E.2.1 1, 24, .inl f)), (b, .inl (E.2.1 1, 96, .inl gg))]) C hT [17, 18, 0, 12, 13, 14, 1, 2, 3, 4, 5, 6, 7, 8, 9, 10, 11, 19, 15, 16] rfl rfl rfl rfl dX2_whole_175 (⟨ft2_15, (nI Pp_12), (nI n), la0n, la0r, cf2_13, ff2_14, la0fq, la0gx, la0gy, la1p, la1w, la1n, la1r, la1fc, la1ff, la1fq, la1gx, la1gy, rfl, (by first | assumption | omega | decide), (by first | assumption | omega | decide), (by first | assumption | omega | decide), (by first | assumption | omega | decide)⟩)
    · have zc_20 : ((Pp_12 : Nat) : Int) ≤ 24 := i_nlt rfl (nI_toInt (n := Pp_12) (by omega)) c_20
      refine ww_iconst (v := 1) C dX2_whole_65 rfl ?_
      refine ww_goto (tgt := 70) C dX2_whole_66 (by decide) ?_
      refine ww_istore (lv' := [(5, .int 1), (6, .ref e_7), (4, .int 0), (3, .ref h), (0, .ref qj), (1, .ref h), (2, .ref sa)]) C dX2_whole_70 rfl rfl ?_
      refine ww_iload C dX2_whole_72 0 rfl ?_
      refine ww_if_eq_f (tgt := 104) C dX2_whole_74 (by decide) (by decide) ?_
      refine ww_aload_n C dX2_whole_77 4 rfl rfl ?_
      refine ww_get C fg_X2_29 18 rfl rfl dX2_whole_78 ?_
      refine ww_iload C dX2_whole_81 2 rfl ?_
      refine ww_ald (v := (some la0)) (t0 := 5) C 0 rfl rfl (vin rfl) k_fa_0 dX2_whole_83 ?_
      refine ww_eq (st' := [.ref la0]) ?_ rfl rfl rfl
      refine ww_aload_n C dX2_whole_84 3 rfl rfl ?_
      refine ww_aload C dX2_whole_85 1 rfl ?_
      refine ww_cv (wr := [(ja, .inl (E.2.1 5, 2, .inr (.inr (.inr (.inr fa))))), (la1, .inr (3, [.ref la1m, .int la1p, .int la1w, .ref la1c, .ref la1f, .ref la1q])), (la1c, .inl (E.2.1 1, 24, .inl la1fc)), (la1f, .inl (E.2.1 1, 24, .inl la1ff)), (la1q, .inl (E.2.1 1, 4, .inl la1fq)), (la1m, .inr (4, [.int (nI la1n), .int (nI la1r), .ref la1x, .ref la1y])), (la1x, .inl (E.2.1 1, 24, .inl la1gx)), (la1y, .inl (E.2.1 1, 96, .inl la1gy)), (qj, .inr (2, [.ref jt, .ref je, .ref ju, .ref ja])), (ju, .inl (E.2.1 1, 32, .inl ft2_15))]) (k' := 0) (n' := 0) C (run_V (As := [.ref h, .ref e_7]) (rest := []) C (l_build X.2.1 E ro la0 h e_7 la0m Pp_12 n la0c la0f la0q cf2_13 ff2_14 la0fq la0n la0r la0x la0y la0gx la0gy r a b f gg (vc j_6) (vr j_6) (vi j_6) (vs j_6) (vn j_6) (vp j_6) (by omega) (by omega) hev_9 h_16 (by omega) h_18) mi_X3_build wl_X2_49 rfl 0 3 rfl rfl rfl rfl rfl dX2_whole_87) (roK hro) [12, 13, 14, 1, 2, 3, 4, 15, 16, 17] [0, 5, 6, 7, 8, 9, 10, 11, 18, 19] rfl rfl rfl rfl (fun uz hw => ?_)
      refine ex5 hw ?_
      clear hw
      intro bn2_26 br2_27 fq2_28 bf2_29 bg2_30 hw
      refine an2 hw ?_
      clear hw
      intro he_33 h_31 hw
      have h_32 := hw
      clear hw
      subst he_33
      refine ww_eq (ws' := [(ja, .inl (E.2.1 5, 2, .inr (.inr (.inr (.inr fa))))), (la1, .inr (3, [.ref la1m, .int la1p, .int la1w, .ref la1c, .ref la1f, .ref la1q])), (la1c, .inl (E.2.1 1, 24, .inl la1fc)), (la1f, .inl (E.2.1 1, 24, .inl la1ff)), (la1q, .inl (E.2.1 1, 4, .inl la1fq)), (la1m, .inr (4, [.int (nI la1n), .int (nI la1r), .ref la1x, .ref la1y])), (la1x, .inl (E.2.1 1, 24, .inl la1gx)), (la1y, .inl (E.2.1 1, 96, .inl la1gy)), (qj, .inr (2, [.ref jt, .ref je, .ref ju, .ref ja])), (ju, .inl (E.2.1 1, 32, .inl ft2_15)), (la0, .inr (3, [.ref la0m, .int (nI Pp_12), .int (nI n), .ref la0c, .ref la0f, .ref la0q])), (la0c, .inl (E.2.1 1, 24, .inl cf2_13)), (la0f, .inl (E.2.1 1, 24, .inl ff2_14)), (la0q, .inl (E.2.1 1, 4, .inl fq2_28)), (la0m, .inr (4, [.int (nI bn2_26), .int (nI br2_27), .ref la0x, .ref la0y])), (la0x, .inl (E.2.1 1, 24, .inl bf2_29)), (la0y, .inl (E.2.1 1, 96, .inl bg2_30)), (h, .inr (4, [.int (nI n), .int (nI r), .ref a, .ref b])), (a, .inl (E.2.1 1, 24, .inl f)), (b, .inl (E.2.1 1, 96, .inl gg))]) ?_ rfl rfl rfl
      refine ww_aload_n C dX2_whole_90 4 rfl rfl ?_
      refine ww_get C fg_X2_29 8 rfl rfl dX2_whole_91 ?_
      refine ww_iload C dX2_whole_94 2 rfl ?_
      refine ww_ald (v := (some la0)) (t0 := 5) C 0 rfl rfl (vin rfl) k_fa_0 dX2_whole_96 ?_
      refine ww_eq (st' := [.ref la0]) ?_ rfl rfl rfl
      refine ww_get C fg_X2_53 10 rfl rfl dX2_whole_97 ?_
      refine ww_astore_n (lv' := [(3, .ref la0m), (5, .int 1), (6, .ref e_7), (4, .int 0), (0, .ref qj), (1, .ref h), (2, .ref sa)]) C dX2_whole_100 rfl rfl rfl ?_
      refine ww_iinc (j := 3) (v := 1) (lv' := [(4, .int 1), (3, .ref la0m), (5, .int 1), (6, .ref e_7), (0, .ref qj), (1, .ref h), (2, .ref sa)]) C dX2_whole_101 rfl rfl rfl rfl ?_
      refine ww_goto (tgt := 8) C dX2_whole_104 (by decide) ?_
      refine ww_iload C dX2_whole_8 0 rfl ?_
      refine ww_aload_n C dX2_whole_10 6 rfl rfl ?_
      refine ww_getR C hro fg_X2_35 i0 h0 rfl dX2_whole_11 ?_
      refine ww_icmp_ge (tgt := 107) C dX2_whole_14 (by decide) (fun c_34 => ?_) (fun c_34 => ?_)
      · have zc_34 : 1 ≥ ((na : Nat) : Int) := i_le (nI_toInt (n := na) (by omega)) rfl c_34
        refine ww_iload C dX2_whole_107 2 rfl ?_
        refine ww_if_eq_f (tgt := 121) C dX2_whole_109 (by decide) (by decide) ?_
        refine ww_aload_n C dX2_whole_112 4 rfl rfl ?_
        refine ww_aload_n C dX2_whole_113 1 rfl rfl ?_
        refine ww_aload_n C dX2_whole_114 6 rfl rfl ?_
        refine ww_ci (wr := [(ja, .inl (E.2.1 5, 2, .inr (.inr (.inr (.inr fa))))), (la1, .inr (3, [.ref la1m, .int la1p, .int la1w, .ref la1c, .ref la1f, .ref la1q])), (la1c, .inl (E.2.1 1, 24, .inl la1fc)), (la1f, .inl (E.2.1 1, 24, .inl la1ff)), (la1q, .inl (E.2.1 1, 4, .inl la1fq)), (la1m, .inr (4, [.int (nI la1n), .int (nI la1r), .ref la1x, .ref la1y])), (la1x, .inl (E.2.1 1, 24, .inl la1gx)), (la1y, .inl (E.2.1 1, 96, .inl la1gy)), (la0, .inr (3, [.ref la0m, .int (nI Pp_12), .int (nI n), .ref la0c, .ref la0f, .ref la0q])), (la0c, .inl (E.2.1 1, 24, .inl cf2_13)), (la0f, .inl (E.2.1 1, 24, .inl ff2_14)), (la0q, .inl (E.2.1 1, 4, .inl fq2_28)), (h, .inr (4, [.int (nI n), .int (nI r), .ref a, .ref b])), (a, .inl (E.2.1 1, 24, .inl f)), (b, .inl (E.2.1 1, 96, .inl gg))]) (k' := 0) (n' := 0) C (run_V (As := [.ref la0m, .ref sa]) (rest := []) C (j_plain X.2.1 E ro qj la0m sa jt je ju ja ft2_15 bn2_26 br2_27 la0x la0y bf2_29 bg2_30 (by omega) (by omega) hsa) mi_X2_plain wl_X2_57 rfl 0 2 rfl rfl rfl rfl rfl dX2_whole_115) (roK hro) [8, 9, 14, 15, 16] [0, 1, 2, 3, 4, 5, 6, 7, 10, 11, 12, 13, 17, 18, 19] rfl rfl rfl rfl (fun r_35 uz hw => ?_)
        refine ex1 hw ?_
        clear hw
        intro ft2_36 hw
        have he_37 := hw
        clear hw
        subst he_37
        refine ww_eq (ws' := [(ja, .inl (E.2.1 5, 2, .inr (.inr (.inr (.inr fa))))), (la1, .inr (3, [.ref la1m, .int la1p, .int la1w, .ref la1c, .ref la1f, .ref la1q])), (la1c, .inl (E.2.1 1, 24, .inl la1fc)), (la1f, .inl (E.2.1 1, 24, .inl la1ff)), (la1q, .inl (E.2.1 1, 4, .inl la1fq)), (la1m, .inr (4, [.int (nI la1n), .int (nI la1r), .ref la1x, .ref la1y])), (la1x, .inl (E.2.1 1, 24, .inl la1gx)), (la1y, .inl (E.2.1 1, 96, .inl la1gy)), (la0, .inr (3, [.ref la0m, .int (nI Pp_12), .int (nI n), .ref la0c, .ref la0f, .ref la0q])), (la0c, .inl (E.2.1 1, 24, .inl cf2_13)), (la0f, .inl (E.2.1 1, 24, .inl ff2_14)), (la0q, .inl (E.2.1 1, 4, .inl fq2_28)), (h, .inr (4, [.int (nI n), .int (nI r), .ref a, .ref b])), (a, .inl (E.2.1 1, 24, .inl f)), (b, .inl (E.2.1 1, 96, .inl gg)), (qj, .inr (2, [.ref jt, .ref je, .ref ju, .ref ja])), (ju, .inl (E.2.1 1, 32, .inl ft2_36)), (la0m, .inr (4, [.int (nI bn2_26), .int (nI br2_27), .ref la0x, .ref la0y])), (la0x, .inl (E.2.1 1, 24, .inl bf2_29)), (la0y, .inl (E.2.1 1, 96, .inl bg2_30))]) ?_ rfl rfl rfl
        refine ww_goto (tgt := 125) C dX2_whole_118 (by decide) ?_
        refine ww_istore (lv' := [(6, .int r_35), (4, .int 1), (3, .ref la0m), (5, .int 1), (0, .ref qj), (1, .ref h), (2, .ref sa)]) C dX2_whole_125 rfl rfl ?_
        refine ww_iload C dX2_whole_127 1 rfl ?_
        refine ww_iconst (v := 1) C dX2_whole_129 rfl ?_
        refine ww_isub (v := 0) C dX2_whole_130 (by decide) ?_
        refine ww_istore (lv' := [(7, .int 0), (6, .int r_35), (4, .int 1), (3, .ref la0m), (5, .int 1), (0, .ref qj), (1, .ref h), (2, .ref sa)]) C dX2_whole_131 rfl rfl ?_
        refine ww_iload C dX2_whole_133 0 rfl ?_
        refine ww_if_lt_f (tgt := 173) C dX2_whole_135 (by decide) (by decide) ?_
        refine ww_aload_n C dX2_whole_138 5 rfl rfl ?_
        refine ww_get C fg_X2_29 15 rfl rfl dX2_whole_139 ?_
        refine ww_iload C dX2_whole_142 0 rfl ?_
        refine ww_ald (v := (some la0)) (t0 := 5) C 0 rfl rfl (vin rfl) k_fa_0 dX2_whole_144 ?_
        refine ww_eq (st' := [.ref la0]) ?_ rfl rfl rfl
        refine ww_iload C dX2_whole_145 1 rfl ?_
        refine ww_aload_n C dX2_whole_147 5 rfl rfl ?_
        refine ww_get C fg_X2_19 15 rfl rfl dX2_whole_148 ?_
        refine ww_aload_n C dX2_whole_151 7 rfl rfl ?_
        refine ww_getR C hro fg_X2_39 i0 h0 rfl dX2_whole_152 ?_
        refine ww_iload C dX2_whole_155 0 rfl ?_
        refine ww_ialdR (v := (nI j_6)) C hro i3 h3 (vin rfl) ej_6 dX2_whole_157 ?_
        obtain ⟨e_38, he_39, hev_40⟩ := hall_ j_6 (by omega)
        refine ww_aldR (v := (some e_38)) (t0 := 4) C hro jei_ hje_ rfl (vp_in_nI (by omega) (by omega)) (ldn (by omega) he_39) dX2_whole_158 ?_
        obtain ⟨i0y_41, i1y_41, i2y_41, i3y_41, i4y_41, cay_41, cby_41, ccy_41, cdy_41, g0y_41, g1y_41, g2y_41, g3y_41, g4y_41, hcsy_41, hrcy_41, hfiy_41⟩ := id hev_40
        refine ww_eq (st' := [.ref e_38, .int r_35, .ref la0]) ?_ rfl rfl rfl
        refine ww_getR C hro fg_X2_67 i0y_41 g0y_41 rfl dX2_whole_159 ?_
        refine ww_ci (wr := [(ja, .inl (E.2.1 5, 2, .inr (.inr (.inr (.inr fa))))), (la1, .inr (3, [.ref la1m, .int la1p, .int la1w, .ref la1c, .ref la1f, .ref la1q])), (la1c, .inl (E.2.1 1, 24, .inl la1fc)), (la1f, .inl (E.2.1 1, 24, .inl la1ff)), (la1q, .inl (E.2.1 1, 4, .inl la1fq)), (la1m, .inr (4, [.int (nI la1n), .int (nI la1r), .ref la1x, .ref la1y])), (la1x, .inl (E.2.1 1, 24, .inl la1gx)), (la1y, .inl (E.2.1 1, 96, .inl la1gy)), (la0q, .inl (E.2.1 1, 4, .inl fq2_28)), (h, .inr (4, [.int (nI n), .int (nI r), .ref a, .ref b])), (a, .inl (E.2.1 1, 24, .inl f)), (b, .inl (E.2.1 1, 96, .inl gg)), (qj, .inr (2, [.ref jt, .ref je, .ref ju, .ref ja])), (ju, .inl (E.2.1 1, 32, .inl ft2_36)), (la0m, .inr (4, [.int (nI bn2_26), .int (nI br2_27), .ref la0x, .ref la0y])), (la0x, .inl (E.2.1 1, 24, .inl bf2_29)), (la0y, .inl (E.2.1 1, 96, .inl bg2_30))]) (k' := 0) (n' := 0) C (run_V (As := [.int r_35, .int (nI (vr j_6))]) (rest := []) C (l_comingTo X.2.1 E ro la0 r_35 (vr j_6) la0m Pp_12 n la0c la0f la0q cf2_13 ff2_14 (by omega) (by omega) h_16) mi_X3_comingTo wl_X2_70 rfl 0 3 rfl rfl rfl rfl rfl dX2_whole_162) (roK hro) [8, 9, 10] [0, 1, 2, 3, 4, 5, 6, 7, 11, 12, 13, 14, 15, 16, 17, 18, 19] rfl rfl rfl rfl (fun r_42 uz hw => ?_)
        have he_43 := hw
        clear hw
        subst he_43
        refine ww_eq (ws' := [(ja, .inl (E.2.1 5, 2, .inr (.inr (.inr (.inr fa))))), (la1, .inr (3, [.ref la1m, .int la1p, .int la1w, .ref la1c, .ref la1f, .ref la1q])), (la1c, .inl (E.2.1 1, 24, .inl la1fc)), (la1f, .inl (E.2.1 1, 24, .inl la1ff)), (la1q, .inl (E.2.1 1, 4, .inl la1fq)), (la1m, .inr (4, [.int (nI la1n), .int (nI la1r), .ref la1x, .ref la1y])), (la1x, .inl (E.2.1 1, 24, .inl la1gx)), (la1y, .inl (E.2.1 1, 96, .inl la1gy)), (la0q, .inl (E.2.1 1, 4, .inl fq2_28)), (h, .inr (4, [.int (nI n), .int (nI r), .ref a, .ref b])), (a, .inl (E.2.1 1, 24, .inl f)), (b, .inl (E.2.1 1, 96, .inl gg)), (qj, .inr (2, [.ref jt, .ref je, .ref ju, .ref ja])), (ju, .inl (E.2.1 1, 32, .inl ft2_36)), (la0m, .inr (4, [.int (nI bn2_26), .int (nI br2_27), .ref la0x, .ref la0y])), (la0x, .inl (E.2.1 1, 24, .inl bf2_29)), (la0y, .inl (E.2.1 1, 96, .inl bg2_30)), (la0, .inr (3, [.ref la0m, .int (nI Pp_12), .int (nI n), .ref la0c, .ref la0f, .ref la0q])), (la0c, .inl (E.2.1 1, 24, .inl cf2_13)), (la0f, .inl (E.2.1 1, 24, .inl ff2_14))]) ?_ rfl rfl rfl
        refine ww_istore (lv' := [(6, .int r_42), (7, .int 0), (4, .int 1), (3, .ref la0m), (5, .int 1), (0, .ref qj), (1, .ref h), (2, .ref sa)]) C dX2_whole_165 rfl rfl ?_
        refine ww_iinc (j := 1) (v := (-1)) (lv' := [(7, .int (-1)), (6, .int r_42), (4, .int 1), (3, .ref la0m), (5, .int 1), (0, .ref qj), (1, .ref h), (2, .ref sa)]) C dX2_whole_167 rfl rfl rfl rfl ?_
        refine ww_goto (tgt := 133) C dX2_whole_170 (by decide) ?_
        refine ww_iload C dX2_whole_133 0 rfl ?_
        refine ww_if_lt_t (tgt := 173) C dX2_whole_135 (by decide) (by decide) ?_
        refine ww_iload C dX2_whole_173 1 rfl ?_
        exact ww_iret (u := [(qj, .inr (2, [.ref jt, .ref je, .ref ju, .ref ja])), (ju, .inl (E.2.1 1, 32, .inl ft2_36)), (ja, .inl (E.2.1 5, 2, .inr (.inr (.inr (.inr fa))))), (la0, .inr (3, [.ref la0m, .int (nI Pp_12), .int (nI n), .ref la0c, .ref la0f, .ref la0q])), (la0c, .inl (E.2.1 1, 24, .inl cf2_13)), (la0f, .inl (E.2.1 1, 24, .inl ff2_14)), (la0q, .inl (E.2.1 1, 4, .inl fq2_28)), (la0m, .inr (4, [.int (nI bn2_26), .int (nI br2_27), .ref la0x, .ref la0y])), (la0x, .inl (E.2.1 1, 24, .inl bf2_29)), (la0y, .inl (E.2.1 1, 96, .inl bg2_30)), (la1, .inr (3, [.ref la1m, .int la1p, .int la1w, .ref la1c, .ref la1f, .ref la1q])), (la1c, .inl (E.2.1 1, 24, .inl la1fc)), (la1f, .inl (E.2.1 1, 24, .inl la1ff)), (la1q, .inl (E.2.1 1, 4, .inl la1fq)), (la1m, .inr (4, [.int (nI la1n), .int (nI la1r), .ref la1x, .ref la1y])), (la1x, .inl (E.2.1 1, 24, .inl la1gx)), (la1y, .inl (E.2.1 1, 96, .inl la1gy)), (h, .inr (4, [.int (nI n), .int (nI r), .ref a, .ref b])), (a, .inl (E.2.1 1, 24, .inl f)), (b, .inl (E.2.1 1, 96, .inl gg))]) C hT [12, 13, 0, 17, 18, 19, 8, 14, 15, 16, 1, 2, 3, 4, 5, 6, 7, 9, 10, 11] rfl rfl rfl rfl dX2_whole_175 (⟨ft2_36, (nI Pp_12), (nI n), bn2_26, br2_27, cf2_13, ff2_14, fq2_28, bf2_29, bg2_30, la1p, la1w, la1n, la1r, la1fc, la1ff, la1fq, la1gx, la1gy, rfl, (by first | assumption | omega | decide), (by first | assumption | omega | decide), (by first | assumption | omega | decide), (by first | assumption | omega | decide)⟩)
      · have zc_34 : 1 < ((na : Nat) : Int) := i_nle (nI_toInt (n := na) (by omega)) rfl c_34
        refine ww_iload C dX2_whole_17 2 rfl ?_
        refine ww_if_eq_f (tgt := 107) C dX2_whole_19 (by decide) (by decide) ?_
        refine ww_aload_n C dX2_whole_22 4 rfl rfl ?_
        refine ww_get C fg_X2_19 8 rfl rfl dX2_whole_23 ?_
        refine ww_aload_n C dX2_whole_26 6 rfl rfl ?_
        refine ww_getR C hro fg_X2_39 i0 h0 rfl dX2_whole_27 ?_
        refine ww_iload C dX2_whole_30 0 rfl ?_
        obtain ⟨j_45, hj_45, ej_45⟩ := haf 1 (by omega)
        refine ww_ialdR (v := (nI j_45)) C hro i3 h3 (vin rfl) ej_45 dX2_whole_32 ?_
        obtain ⟨e_46, he_47, hev_48⟩ := hall_ j_45 (by omega)
        refine ww_aldR (v := (some e_46)) (t0 := 4) C hro jei_ hje_ rfl (vp_in_nI (by omega) (by omega)) (ldn (by omega) he_47) dX2_whole_33 ?_
        obtain ⟨i0y_49, i1y_49, i2y_49, i3y_49, i4y_49, cay_49, cby_49, ccy_49, cdy_49, g0y_49, g1y_49, g2y_49, g3y_49, g4y_49, hcsy_49, hrcy_49, hfiy_49⟩ := id hev_48
        refine ww_eq (st' := [.ref e_46]) ?_ rfl rfl rfl
        refine ww_astore (lv' := [(6, .ref e_46), (4, .int 1), (3, .ref la0m), (5, .int 1), (0, .ref qj), (1, .ref h), (2, .ref sa)]) C dX2_whole_34 rfl rfl ?_
        refine ww_aload_n C dX2_whole_36 4 rfl rfl ?_
        refine ww_get C fg_X2_29 8 rfl rfl dX2_whole_37 ?_
        refine ww_iload C dX2_whole_40 1 rfl ?_
        refine ww_ald (v := (some la1)) (t0 := 5) C 0 rfl rfl (vin rfl) k_fa_1 dX2_whole_42 ?_
        refine ww_eq (st' := [.ref la1]) ?_ rfl rfl rfl
        refine ww_aload_n C dX2_whole_43 2 rfl rfl ?_
        refine ww_aload C dX2_whole_44 0 rfl ?_
        refine ww_aload_n C dX2_whole_46 4 rfl rfl ?_
        refine ww_cv (wr := [(ja, .inl (E.2.1 5, 2, .inr (.inr (.inr (.inr fa))))), (la1q, .inl (E.2.1 1, 4, .inl la1fq)), (la1m, .inr (4, [.int (nI la1n), .int (nI la1r), .ref la1x, .ref la1y])), (la1x, .inl (E.2.1 1, 24, .inl la1gx)), (la1y, .inl (E.2.1 1, 96, .inl la1gy)), (la0, .inr (3, [.ref la0m, .int (nI Pp_12), .int (nI n), .ref la0c, .ref la0f, .ref la0q])), (la0c, .inl (E.2.1 1, 24, .inl cf2_13)), (la0f, .inl (E.2.1 1, 24, .inl ff2_14)), (la0q, .inl (E.2.1 1, 4, .inl fq2_28)), (h, .inr (4, [.int (nI n), .int (nI r), .ref a, .ref b])), (a, .inl (E.2.1 1, 24, .inl f)), (b, .inl (E.2.1 1, 96, .inl gg))]) (k' := 0) (n' := 0) C (run_V (As := [.ref la0m, .ref e_46, .ref qj]) (rest := []) C (l_measure X.2.1 E ro la1 la0m e_46 qj la1m la1p la1w la1c la1f la1q la1fc la1ff bn2_26 br2_27 la0x la0y bf2_29 bg2_30 jt je ju ja ft2_15 (vc j_45) (vr j_45) (vi j_45) (vs j_45) (vn j_45) (vp j_45) (by omega) (by omega) hev_48) mi_X3_measure wl_X2_42 rfl 0 3 rfl rfl rfl rfl rfl dX2_whole_47) (roK hro) [1, 2, 3, 14, 15, 16, 8, 9] [0, 4, 5, 6, 7, 10, 11, 12, 13, 17, 18, 19] rfl rfl rfl rfl (fun uz hw => ?_)
        refine ex4 hw ?_
        clear hw
        intro Pp_51 cf2_52 ff2_53 ft2_54 hw
        refine an3 hw ?_
        clear hw
        intro he_58 h_55 h_56 hw
        have h_57 := hw
        clear hw
        subst he_58
        refine ww_eq (ws' := [(ja, .inl (E.2.1 5, 2, .inr (.inr (.inr (.inr fa))))), (la1q, .inl (E.2.1 1, 4, .inl la1fq)), (la1m, .inr (4, [.int (nI la1n), .int (nI la1r), .ref la1x, .ref la1y])), (la1x, .inl (E.2.1 1, 24, .inl la1gx)), (la1y, .inl (E.2.1 1, 96, .inl la1gy)), (la0, .inr (3, [.ref la0m, .int (nI Pp_12), .int (nI n), .ref la0c, .ref la0f, .ref la0q])), (la0c, .inl (E.2.1 1, 24, .inl cf2_13)), (la0f, .inl (E.2.1 1, 24, .inl ff2_14)), (la0q, .inl (E.2.1 1, 4, .inl fq2_28)), (h, .inr (4, [.int (nI n), .int (nI r), .ref a, .ref b])), (a, .inl (E.2.1 1, 24, .inl f)), (b, .inl (E.2.1 1, 96, .inl gg)), (la1, .inr (3, [.ref la1m, .int (nI Pp_51), .int (nI bn2_26), .ref la1c, .ref la1f, .ref la1q])), (la1c, .inl (E.2.1 1, 24, .inl cf2_52)), (la1f, .inl (E.2.1 1, 24, .inl ff2_53)), (la0m, .inr (4, [.int (nI bn2_26), .int (nI br2_27), .ref la0x, .ref la0y])), (la0x, .inl (E.2.1 1, 24, .inl bf2_29)), (la0y, .inl (E.2.1 1, 96, .inl bg2_30)), (qj, .inr (2, [.ref jt, .ref je, .ref ju, .ref ja])), (ju, .inl (E.2.1 1, 32, .inl ft2_54))]) ?_ rfl rfl rfl
        refine ww_aload_n C dX2_whole_50 4 rfl rfl ?_
        refine ww_get C fg_X2_29 18 rfl rfl dX2_whole_51 ?_
        refine ww_iload C dX2_whole_54 1 rfl ?_
        refine ww_ald (v := (some la1)) (t0 := 5) C 0 rfl rfl (vin rfl) k_fa_1 dX2_whole_56 ?_
        refine ww_eq (st' := [.ref la1]) ?_ rfl rfl rfl
        refine ww_get C fg_X2_46 12 rfl rfl dX2_whole_57 ?_
        refine ww_bipush (v := 24) C dX2_whole_60 rfl ?_
        refine ww_icmp_gt (tgt := 69) C dX2_whole_62 (by decide) (fun c_59 => ?_) (fun c_59 => ?_)
        · have zc_59 : ((Pp_51 : Nat) : Int) > 24 := i_lt rfl (nI_toInt (n := Pp_51) (by omega)) c_59
          refine ww_iconst (v := 0) C dX2_whole_69 rfl ?_
          refine ww_istore (lv' := [(5, .int 0), (6, .ref e_46), (4, .int 1), (3, .ref la0m), (0, .ref qj), (1, .ref h), (2, .ref sa)]) C dX2_whole_70 rfl rfl ?_
          refine ww_iload C dX2_whole_72 0 rfl ?_
          refine ww_if_eq_t (tgt := 104) C dX2_whole_74 (by decide) (rfl) ?_
          refine ww_goto (tgt := 8) C dX2_whole_104 (by decide) ?_
          refine ww_iload C dX2_whole_8 2 rfl ?_
          refine ww_aload_n C dX2_whole_10 6 rfl rfl ?_
          refine ww_getR C hro fg_X2_35 i0 h0 rfl dX2_whole_11 ?_
          refine ww_icmp_ge (tgt := 107) C dX2_whole_14 (by decide) (fun c_60 => ?_) (fun c_60 => ?_)
          · have zc_60 : 1 ≥ ((na : Nat) : Int) := i_le (nI_toInt (n := na) (by omega)) rfl c_60
            omega
          · have zc_60 : 1 < ((na : Nat) : Int) := i_nle (nI_toInt (n := na) (by omega)) rfl c_60
            refine ww_iload C dX2_whole_17 0 rfl ?_
            refine ww_if_eq_t (tgt := 107) C dX2_whole_19 (by decide) (rfl) ?_
            refine ww_iload C dX2_whole_107 0 rfl ?_
            refine ww_if_eq_t (tgt := 121) C dX2_whole_109 (by decide) (rfl) ?_
            refine ww_aload_n C dX2_whole_121 3 rfl rfl ?_
            refine ww_ci (wr := [(ja, .inl (E.2.1 5, 2, .inr (.inr (.inr (.inr fa))))), (la1q, .inl (E.2.1 1, 4, .inl la1fq)), (la1m, .inr (4, [.int (nI la1n), .int (nI la1r), .ref la1x, .ref la1y])), (la1x, .inl (E.2.1 1, 24, .inl la1gx)), (la1y, .inl (E.2.1 1, 96, .inl la1gy)), (la0, .inr (3, [.ref la0m, .int (nI Pp_12), .int (nI n), .ref la0c, .ref la0f, .ref la0q])), (la0c, .inl (E.2.1 1, 24, .inl cf2_13)), (la0f, .inl (E.2.1 1, 24, .inl ff2_14)), (la0q, .inl (E.2.1 1, 4, .inl fq2_28)), (h, .inr (4, [.int (nI n), .int (nI r), .ref a, .ref b])), (a, .inl (E.2.1 1, 24, .inl f)), (b, .inl (E.2.1 1, 96, .inl gg)), (la1, .inr (3, [.ref la1m, .int (nI Pp_51), .int (nI bn2_26), .ref la1c, .ref la1f, .ref la1q])), (la1c, .inl (E.2.1 1, 24, .inl cf2_52)), (la1f, .inl (E.2.1 1, 24, .inl ff2_53)), (la0x, .inl (E.2.1 1, 24, .inl bf2_29)), (la0y, .inl (E.2.1 1, 96, .inl bg2_30)), (qj, .inr (2, [.ref jt, .ref je, .ref ju, .ref ja])), (ju, .inl (E.2.1 1, 32, .inl ft2_54))]) (k' := 0) (n' := 0) C (run_V (As := []) (rest := []) C (m_all X.2.1 E ro la0m bn2_26 br2_27 la0x la0y (by omega)) mi_X4_all wl_X2_61 rfl 0 4 rfl rfl rfl rfl rfl dX2_whole_122) (roK hro) [15] [0, 1, 2, 3, 4, 5, 6, 7, 8, 9, 10, 11, 12, 13, 14, 16, 17, 18, 19] rfl rfl rfl rfl (fun r_61 uz hw => ?_)
            refine an1 hw ?_
            clear hw
            intro he_63 hw
            have h_62 := hw
            clear hw
            subst he_63
            refine ww_eq (ws' := [(ja, .inl (E.2.1 5, 2, .inr (.inr (.inr (.inr fa))))), (la1q, .inl (E.2.1 1, 4, .inl la1fq)), (la1m, .inr (4, [.int (nI la1n), .int (nI la1r), .ref la1x, .ref la1y])), (la1x, .inl (E.2.1 1, 24, .inl la1gx)), (la1y, .inl (E.2.1 1, 96, .inl la1gy)), (la0, .inr (3, [.ref la0m, .int (nI Pp_12), .int (nI n), .ref la0c, .ref la0f, .ref la0q])), (la0c, .inl (E.2.1 1, 24, .inl cf2_13)), (la0f, .inl (E.2.1 1, 24, .inl ff2_14)), (la0q, .inl (E.2.1 1, 4, .inl fq2_28)), (h, .inr (4, [.int (nI n), .int (nI r), .ref a, .ref b])), (a, .inl (E.2.1 1, 24, .inl f)), (b, .inl (E.2.1 1, 96, .inl gg)), (la1, .inr (3, [.ref la1m, .int (nI Pp_51), .int (nI bn2_26), .ref la1c, .ref la1f, .ref la1q])), (la1c, .inl (E.2.1 1, 24, .inl cf2_52)), (la1f, .inl (E.2.1 1, 24, .inl ff2_53)), (la0x, .inl (E.2.1 1, 24, .inl bf2_29)), (la0y, .inl (E.2.1 1, 96, .inl bg2_30)), (qj, .inr (2, [.ref jt, .ref je, .ref ju, .ref ja])), (ju, .inl (E.2.1 1, 32, .inl ft2_54)), (la0m, .inr (4, [.int (nI bn2_26), .int (nI br2_27), .ref la0x, .ref la0y]))]) ?_ rfl rfl rfl
            refine ww_istore (lv' := [(6, .int r_61), (5, .int 0), (4, .int 1), (3, .ref la0m), (0, .ref qj), (1, .ref h), (2, .ref sa)]) C dX2_whole_125 rfl rfl ?_
            refine ww_iload C dX2_whole_127 2 rfl ?_
            refine ww_iconst (v := 1) C dX2_whole_129 rfl ?_
            refine ww_isub (v := 0) C dX2_whole_130 (by decide) ?_
            refine ww_istore (lv' := [(7, .int 0), (6, .int r_61), (5, .int 0), (4, .int 1), (3, .ref la0m), (0, .ref qj), (1, .ref h), (2, .ref sa)]) C dX2_whole_131 rfl rfl ?_
            refine ww_iload C dX2_whole_133 0 rfl ?_
            refine ww_if_lt_f (tgt := 173) C dX2_whole_135 (by decide) (by decide) ?_
            refine ww_aload_n C dX2_whole_138 5 rfl rfl ?_
            refine ww_get C fg_X2_29 17 rfl rfl dX2_whole_139 ?_
            refine ww_iload C dX2_whole_142 0 rfl ?_
            refine ww_ald (v := (some la0)) (t0 := 5) C 0 rfl rfl (vin rfl) k_fa_0 dX2_whole_144 ?_
            refine ww_eq (st' := [.ref la0]) ?_ rfl rfl rfl
            refine ww_iload C dX2_whole_145 1 rfl ?_
            refine ww_aload_n C dX2_whole_147 5 rfl rfl ?_
            refine ww_get C fg_X2_19 17 rfl rfl dX2_whole_148 ?_
            refine ww_aload_n C dX2_whole_151 7 rfl rfl ?_
            refine ww_getR C hro fg_X2_39 i0 h0 rfl dX2_whole_152 ?_
            refine ww_iload C dX2_whole_155 0 rfl ?_
            refine ww_ialdR (v := (nI j_6)) C hro i3 h3 (vin rfl) ej_6 dX2_whole_157 ?_
            obtain ⟨e_64, he_65, hev_66⟩ := hall_ j_6 (by omega)
            refine ww_aldR (v := (some e_64)) (t0 := 4) C hro jei_ hje_ rfl (vp_in_nI (by omega) (by omega)) (ldn (by omega) he_65) dX2_whole_158 ?_
            obtain ⟨i0y_67, i1y_67, i2y_67, i3y_67, i4y_67, cay_67, cby_67, ccy_67, cdy_67, g0y_67, g1y_67, g2y_67, g3y_67, g4y_67, hcsy_67, hrcy_67, hfiy_67⟩ := id hev_66
            refine ww_eq (st' := [.ref e_64, .int r_61, .ref la0]) ?_ rfl rfl rfl
            refine ww_getR C hro fg_X2_67 i0y_67 g0y_67 rfl dX2_whole_159 ?_
            refine ww_ci (wr := [(ja, .inl (E.2.1 5, 2, .inr (.inr (.inr (.inr fa))))), (la1q, .inl (E.2.1 1, 4, .inl la1fq)), (la1m, .inr (4, [.int (nI la1n), .int (nI la1r), .ref la1x, .ref la1y])), (la1x, .inl (E.2.1 1, 24, .inl la1gx)), (la1y, .inl (E.2.1 1, 96, .inl la1gy)), (la0q, .inl (E.2.1 1, 4, .inl fq2_28)), (h, .inr (4, [.int (nI n), .int (nI r), .ref a, .ref b])), (a, .inl (E.2.1 1, 24, .inl f)), (b, .inl (E.2.1 1, 96, .inl gg)), (la1, .inr (3, [.ref la1m, .int (nI Pp_51), .int (nI bn2_26), .ref la1c, .ref la1f, .ref la1q])), (la1c, .inl (E.2.1 1, 24, .inl cf2_52)), (la1f, .inl (E.2.1 1, 24, .inl ff2_53)), (la0x, .inl (E.2.1 1, 24, .inl bf2_29)), (la0y, .inl (E.2.1 1, 96, .inl bg2_30)), (qj, .inr (2, [.ref jt, .ref je, .ref ju, .ref ja])), (ju, .inl (E.2.1 1, 32, .inl ft2_54)), (la0m, .inr (4, [.int (nI bn2_26), .int (nI br2_27), .ref la0x, .ref la0y]))]) (k' := 0) (n' := 0) C (run_V (As := [.int r_61, .int (nI (vr j_6))]) (rest := []) C (l_comingTo X.2.1 E ro la0 r_61 (vr j_6) la0m Pp_12 n la0c la0f la0q cf2_13 ff2_14 (by omega) (by omega) h_16) mi_X3_comingTo wl_X2_70 rfl 0 3 rfl rfl rfl rfl rfl dX2_whole_162) (roK hro) [5, 6, 7] [0, 1, 2, 3, 4, 8, 9, 10, 11, 12, 13, 14, 15, 16, 17, 18, 19] rfl rfl rfl rfl (fun r_68 uz hw => ?_)
            have he_69 := hw
            clear hw
            subst he_69
            refine ww_eq (ws' := [(ja, .inl (E.2.1 5, 2, .inr (.inr (.inr (.inr fa))))), (la1q, .inl (E.2.1 1, 4, .inl la1fq)), (la1m, .inr (4, [.int (nI la1n), .int (nI la1r), .ref la1x, .ref la1y])), (la1x, .inl (E.2.1 1, 24, .inl la1gx)), (la1y, .inl (E.2.1 1, 96, .inl la1gy)), (la0q, .inl (E.2.1 1, 4, .inl fq2_28)), (h, .inr (4, [.int (nI n), .int (nI r), .ref a, .ref b])), (a, .inl (E.2.1 1, 24, .inl f)), (b, .inl (E.2.1 1, 96, .inl gg)), (la1, .inr (3, [.ref la1m, .int (nI Pp_51), .int (nI bn2_26), .ref la1c, .ref la1f, .ref la1q])), (la1c, .inl (E.2.1 1, 24, .inl cf2_52)), (la1f, .inl (E.2.1 1, 24, .inl ff2_53)), (la0x, .inl (E.2.1 1, 24, .inl bf2_29)), (la0y, .inl (E.2.1 1, 96, .inl bg2_30)), (qj, .inr (2, [.ref jt, .ref je, .ref ju, .ref ja])), (ju, .inl (E.2.1 1, 32, .inl ft2_54)), (la0m, .inr (4, [.int (nI bn2_26), .int (nI br2_27), .ref la0x, .ref la0y])), (la0, .inr (3, [.ref la0m, .int (nI Pp_12), .int (nI n), .ref la0c, .ref la0f, .ref la0q])), (la0c, .inl (E.2.1 1, 24, .inl cf2_13)), (la0f, .inl (E.2.1 1, 24, .inl ff2_14))]) ?_ rfl rfl rfl
            refine ww_istore (lv' := [(6, .int r_68), (7, .int 0), (5, .int 0), (4, .int 1), (3, .ref la0m), (0, .ref qj), (1, .ref h), (2, .ref sa)]) C dX2_whole_165 rfl rfl ?_
            refine ww_iinc (j := 1) (v := (-1)) (lv' := [(7, .int (-1)), (6, .int r_68), (5, .int 0), (4, .int 1), (3, .ref la0m), (0, .ref qj), (1, .ref h), (2, .ref sa)]) C dX2_whole_167 rfl rfl rfl rfl ?_
            refine ww_goto (tgt := 133) C dX2_whole_170 (by decide) ?_
            refine ww_iload C dX2_whole_133 0 rfl ?_
            refine ww_if_lt_t (tgt := 173) C dX2_whole_135 (by decide) (by decide) ?_
            refine ww_iload C dX2_whole_173 1 rfl ?_
            exact ww_iret (u := [(qj, .inr (2, [.ref jt, .ref je, .ref ju, .ref ja])), (ju, .inl (E.2.1 1, 32, .inl ft2_54)), (ja, .inl (E.2.1 5, 2, .inr (.inr (.inr (.inr fa))))), (la0, .inr (3, [.ref la0m, .int (nI Pp_12), .int (nI n), .ref la0c, .ref la0f, .ref la0q])), (la0c, .inl (E.2.1 1, 24, .inl cf2_13)), (la0f, .inl (E.2.1 1, 24, .inl ff2_14)), (la0q, .inl (E.2.1 1, 4, .inl fq2_28)), (la0m, .inr (4, [.int (nI bn2_26), .int (nI br2_27), .ref la0x, .ref la0y])), (la0x, .inl (E.2.1 1, 24, .inl bf2_29)), (la0y, .inl (E.2.1 1, 96, .inl bg2_30)), (la1, .inr (3, [.ref la1m, .int (nI Pp_51), .int (nI bn2_26), .ref la1c, .ref la1f, .ref la1q])), (la1c, .inl (E.2.1 1, 24, .inl cf2_52)), (la1f, .inl (E.2.1 1, 24, .inl ff2_53)), (la1q, .inl (E.2.1 1, 4, .inl la1fq)), (la1m, .inr (4, [.int (nI la1n), .int (nI la1r), .ref la1x, .ref la1y])), (la1x, .inl (E.2.1 1, 24, .inl la1gx)), (la1y, .inl (E.2.1 1, 96, .inl la1gy)), (h, .inr (4, [.int (nI n), .int (nI r), .ref a, .ref b])), (a, .inl (E.2.1 1, 24, .inl f)), (b, .inl (E.2.1 1, 96, .inl gg))]) C hT [14, 15, 0, 17, 18, 19, 5, 16, 12, 13, 9, 10, 11, 1, 2, 3, 4, 6, 7, 8] rfl rfl rfl rfl dX2_whole_175 (⟨ft2_54, (nI Pp_12), (nI n), bn2_26, br2_27, cf2_13, ff2_14, fq2_28, bf2_29, bg2_30, (nI Pp_51), (nI bn2_26), la1n, la1r, cf2_52, ff2_53, la1fq, la1gx, la1gy, rfl, (by first | assumption | omega | decide), (by first | assumption | omega | decide), (by first | assumption | omega | decide), (by first | assumption | omega | decide)⟩)
        · have zc_59 : ((Pp_51 : Nat) : Int) ≤ 24 := i_nlt rfl (nI_toInt (n := Pp_51) (by omega)) c_59
          refine ww_iconst (v := 1) C dX2_whole_65 rfl ?_
          refine ww_goto (tgt := 70) C dX2_whole_66 (by decide) ?_
          refine ww_istore (lv' := [(5, .int 1), (6, .ref e_46), (4, .int 1), (3, .ref la0m), (0, .ref qj), (1, .ref h), (2, .ref sa)]) C dX2_whole_70 rfl rfl ?_
          refine ww_iload C dX2_whole_72 0 rfl ?_
          refine ww_if_eq_f (tgt := 104) C dX2_whole_74 (by decide) (by decide) ?_
          refine ww_aload_n C dX2_whole_77 4 rfl rfl ?_
          refine ww_get C fg_X2_29 18 rfl rfl dX2_whole_78 ?_
          refine ww_iload C dX2_whole_81 2 rfl ?_
          refine ww_ald (v := (some la1)) (t0 := 5) C 0 rfl rfl (vin rfl) k_fa_1 dX2_whole_83 ?_
          refine ww_eq (st' := [.ref la1]) ?_ rfl rfl rfl
          refine ww_aload_n C dX2_whole_84 3 rfl rfl ?_
          refine ww_aload C dX2_whole_85 1 rfl ?_
          refine ww_cv (wr := [(ja, .inl (E.2.1 5, 2, .inr (.inr (.inr (.inr fa))))), (la0, .inr (3, [.ref la0m, .int (nI Pp_12), .int (nI n), .ref la0c, .ref la0f, .ref la0q])), (la0c, .inl (E.2.1 1, 24, .inl cf2_13)), (la0f, .inl (E.2.1 1, 24, .inl ff2_14)), (la0q, .inl (E.2.1 1, 4, .inl fq2_28)), (h, .inr (4, [.int (nI n), .int (nI r), .ref a, .ref b])), (a, .inl (E.2.1 1, 24, .inl f)), (b, .inl (E.2.1 1, 96, .inl gg)), (qj, .inr (2, [.ref jt, .ref je, .ref ju, .ref ja])), (ju, .inl (E.2.1 1, 32, .inl ft2_54))]) (k' := 0) (n' := 0) C (run_V (As := [.ref la0m, .ref e_46]) (rest := []) C (l_build X.2.1 E ro la1 la0m e_46 la1m Pp_51 bn2_26 la1c la1f la1q cf2_52 ff2_53 la1fq la1n la1r la1x la1y la1gx la1gy br2_27 la0x la0y bf2_29 bg2_30 (vc j_45) (vr j_45) (vi j_45) (vs j_45) (vn j_45) (vp j_45) (by omega) (by omega) hev_48 h_55 (by omega) h_57) mi_X3_build wl_X2_49 rfl 0 3 rfl rfl rfl rfl rfl dX2_whole_87) (roK hro) [12, 13, 14, 1, 2, 3, 4, 15, 16, 17] [0, 5, 6, 7, 8, 9, 10, 11, 18, 19] rfl rfl rfl rfl (fun uz hw => ?_)
          refine ex5 hw ?_
          clear hw
          intro bn2_71 br2_72 fq2_73 bf2_74 bg2_75 hw
          refine an2 hw ?_
          clear hw
          intro he_78 h_76 hw
          have h_77 := hw
          clear hw
          subst he_78
          refine ww_eq (ws' := [(ja, .inl (E.2.1 5, 2, .inr (.inr (.inr (.inr fa))))), (la0, .inr (3, [.ref la0m, .int (nI Pp_12), .int (nI n), .ref la0c, .ref la0f, .ref la0q])), (la0c, .inl (E.2.1 1, 24, .inl cf2_13)), (la0f, .inl (E.2.1 1, 24, .inl ff2_14)), (la0q, .inl (E.2.1 1, 4, .inl fq2_28)), (h, .inr (4, [.int (nI n), .int (nI r), .ref a, .ref b])), (a, .inl (E.2.1 1, 24, .inl f)), (b, .inl (E.2.1 1, 96, .inl gg)), (qj, .inr (2, [.ref jt, .ref je, .ref ju, .ref ja])), (ju, .inl (E.2.1 1, 32, .inl ft2_54)), (la1, .inr (3, [.ref la1m, .int (nI Pp_51), .int (nI bn2_26), .ref la1c, .ref la1f, .ref la1q])), (la1c, .inl (E.2.1 1, 24, .inl cf2_52)), (la1f, .inl (E.2.1 1, 24, .inl ff2_53)), (la1q, .inl (E.2.1 1, 4, .inl fq2_73)), (la1m, .inr (4, [.int (nI bn2_71), .int (nI br2_72), .ref la1x, .ref la1y])), (la1x, .inl (E.2.1 1, 24, .inl bf2_74)), (la1y, .inl (E.2.1 1, 96, .inl bg2_75)), (la0m, .inr (4, [.int (nI bn2_26), .int (nI br2_27), .ref la0x, .ref la0y])), (la0x, .inl (E.2.1 1, 24, .inl bf2_29)), (la0y, .inl (E.2.1 1, 96, .inl bg2_30))]) ?_ rfl rfl rfl
          refine ww_aload_n C dX2_whole_90 4 rfl rfl ?_
          refine ww_get C fg_X2_29 8 rfl rfl dX2_whole_91 ?_
          refine ww_iload C dX2_whole_94 2 rfl ?_
          refine ww_ald (v := (some la1)) (t0 := 5) C 0 rfl rfl (vin rfl) k_fa_1 dX2_whole_96 ?_
          refine ww_eq (st' := [.ref la1]) ?_ rfl rfl rfl
          refine ww_get C fg_X2_53 10 rfl rfl dX2_whole_97 ?_
          refine ww_astore_n (lv' := [(3, .ref la1m), (5, .int 1), (6, .ref e_46), (4, .int 1), (0, .ref qj), (1, .ref h), (2, .ref sa)]) C dX2_whole_100 rfl rfl rfl ?_
          refine ww_iinc (j := 3) (v := 2) (lv' := [(4, .int 2), (3, .ref la1m), (5, .int 1), (6, .ref e_46), (0, .ref qj), (1, .ref h), (2, .ref sa)]) C dX2_whole_101 rfl rfl rfl rfl ?_
          refine ww_goto (tgt := 8) C dX2_whole_104 (by decide) ?_
          refine ww_iload C dX2_whole_8 0 rfl ?_
          refine ww_aload_n C dX2_whole_10 6 rfl rfl ?_
          refine ww_getR C hro fg_X2_35 i0 h0 rfl dX2_whole_11 ?_
          refine ww_icmp_ge (tgt := 107) C dX2_whole_14 (by decide) (fun c_79 => ?_) (fun c_79 => ?_)
          · have zc_79 : 2 ≥ ((na : Nat) : Int) := i_le (nI_toInt (n := na) (by omega)) rfl c_79
            refine ww_iload C dX2_whole_107 2 rfl ?_
            refine ww_if_eq_f (tgt := 121) C dX2_whole_109 (by decide) (by decide) ?_
            refine ww_aload_n C dX2_whole_112 4 rfl rfl ?_
            refine ww_aload_n C dX2_whole_113 1 rfl rfl ?_
            refine ww_aload_n C dX2_whole_114 6 rfl rfl ?_
            refine ww_ci (wr := [(ja, .inl (E.2.1 5, 2, .inr (.inr (.inr (.inr fa))))), (la0, .inr (3, [.ref la0m, .int (nI Pp_12), .int (nI n), .ref la0c, .ref la0f, .ref la0q])), (la0c, .inl (E.2.1 1, 24, .inl cf2_13)), (la0f, .inl (E.2.1 1, 24, .inl ff2_14)), (la0q, .inl (E.2.1 1, 4, .inl fq2_28)), (h, .inr (4, [.int (nI n), .int (nI r), .ref a, .ref b])), (a, .inl (E.2.1 1, 24, .inl f)), (b, .inl (E.2.1 1, 96, .inl gg)), (la1, .inr (3, [.ref la1m, .int (nI Pp_51), .int (nI bn2_26), .ref la1c, .ref la1f, .ref la1q])), (la1c, .inl (E.2.1 1, 24, .inl cf2_52)), (la1f, .inl (E.2.1 1, 24, .inl ff2_53)), (la1q, .inl (E.2.1 1, 4, .inl fq2_73)), (la0m, .inr (4, [.int (nI bn2_26), .int (nI br2_27), .ref la0x, .ref la0y])), (la0x, .inl (E.2.1 1, 24, .inl bf2_29)), (la0y, .inl (E.2.1 1, 96, .inl bg2_30))]) (k' := 0) (n' := 0) C (run_V (As := [.ref la1m, .ref sa]) (rest := []) C (j_plain X.2.1 E ro qj la1m sa jt je ju ja ft2_54 bn2_71 br2_72 la1x la1y bf2_74 bg2_75 (by omega) (by omega) hsa) mi_X2_plain wl_X2_57 rfl 0 2 rfl rfl rfl rfl rfl dX2_whole_115) (roK hro) [8, 9, 14, 15, 16] [0, 1, 2, 3, 4, 5, 6, 7, 10, 11, 12, 13, 17, 18, 19] rfl rfl rfl rfl (fun r_80 uz hw => ?_)
            refine ex1 hw ?_
            clear hw
            intro ft2_81 hw
            have he_82 := hw
            clear hw
            subst he_82
            refine ww_eq (ws' := [(ja, .inl (E.2.1 5, 2, .inr (.inr (.inr (.inr fa))))), (la0, .inr (3, [.ref la0m, .int (nI Pp_12), .int (nI n), .ref la0c, .ref la0f, .ref la0q])), (la0c, .inl (E.2.1 1, 24, .inl cf2_13)), (la0f, .inl (E.2.1 1, 24, .inl ff2_14)), (la0q, .inl (E.2.1 1, 4, .inl fq2_28)), (h, .inr (4, [.int (nI n), .int (nI r), .ref a, .ref b])), (a, .inl (E.2.1 1, 24, .inl f)), (b, .inl (E.2.1 1, 96, .inl gg)), (la1, .inr (3, [.ref la1m, .int (nI Pp_51), .int (nI bn2_26), .ref la1c, .ref la1f, .ref la1q])), (la1c, .inl (E.2.1 1, 24, .inl cf2_52)), (la1f, .inl (E.2.1 1, 24, .inl ff2_53)), (la1q, .inl (E.2.1 1, 4, .inl fq2_73)), (la0m, .inr (4, [.int (nI bn2_26), .int (nI br2_27), .ref la0x, .ref la0y])), (la0x, .inl (E.2.1 1, 24, .inl bf2_29)), (la0y, .inl (E.2.1 1, 96, .inl bg2_30)), (qj, .inr (2, [.ref jt, .ref je, .ref ju, .ref ja])), (ju, .inl (E.2.1 1, 32, .inl ft2_81)), (la1m, .inr (4, [.int (nI bn2_71), .int (nI br2_72), .ref la1x, .ref la1y])), (la1x, .inl (E.2.1 1, 24, .inl bf2_74)), (la1y, .inl (E.2.1 1, 96, .inl bg2_75))]) ?_ rfl rfl rfl
            refine ww_goto (tgt := 125) C dX2_whole_118 (by decide) ?_
            refine ww_istore (lv' := [(6, .int r_80), (4, .int 2), (3, .ref la1m), (5, .int 1), (0, .ref qj), (1, .ref h), (2, .ref sa)]) C dX2_whole_125 rfl rfl ?_
            refine ww_iload C dX2_whole_127 1 rfl ?_
            refine ww_iconst (v := 1) C dX2_whole_129 rfl ?_
            refine ww_isub (v := 1) C dX2_whole_130 (by decide) ?_
            refine ww_istore (lv' := [(7, .int 1), (6, .int r_80), (4, .int 2), (3, .ref la1m), (5, .int 1), (0, .ref qj), (1, .ref h), (2, .ref sa)]) C dX2_whole_131 rfl rfl ?_
            refine ww_iload C dX2_whole_133 0 rfl ?_
            refine ww_if_lt_f (tgt := 173) C dX2_whole_135 (by decide) (by decide) ?_
            refine ww_aload_n C dX2_whole_138 5 rfl rfl ?_
            refine ww_get C fg_X2_29 15 rfl rfl dX2_whole_139 ?_
            refine ww_iload C dX2_whole_142 0 rfl ?_
            refine ww_ald (v := (some la1)) (t0 := 5) C 0 rfl rfl (vin rfl) k_fa_1 dX2_whole_144 ?_
            refine ww_eq (st' := [.ref la1]) ?_ rfl rfl rfl
            refine ww_iload C dX2_whole_145 1 rfl ?_
            refine ww_aload_n C dX2_whole_147 5 rfl rfl ?_
            refine ww_get C fg_X2_19 15 rfl rfl dX2_whole_148 ?_
            refine ww_aload_n C dX2_whole_151 7 rfl rfl ?_
            refine ww_getR C hro fg_X2_39 i0 h0 rfl dX2_whole_152 ?_
            refine ww_iload C dX2_whole_155 0 rfl ?_
            refine ww_ialdR (v := (nI j_45)) C hro i3 h3 (vin rfl) ej_45 dX2_whole_157 ?_
            obtain ⟨e_83, he_84, hev_85⟩ := hall_ j_45 (by omega)
            refine ww_aldR (v := (some e_83)) (t0 := 4) C hro jei_ hje_ rfl (vp_in_nI (by omega) (by omega)) (ldn (by omega) he_84) dX2_whole_158 ?_
            obtain ⟨i0y_86, i1y_86, i2y_86, i3y_86, i4y_86, cay_86, cby_86, ccy_86, cdy_86, g0y_86, g1y_86, g2y_86, g3y_86, g4y_86, hcsy_86, hrcy_86, hfiy_86⟩ := id hev_85
            refine ww_eq (st' := [.ref e_83, .int r_80, .ref la1]) ?_ rfl rfl rfl
            refine ww_getR C hro fg_X2_67 i0y_86 g0y_86 rfl dX2_whole_159 ?_
            refine ww_ci (wr := [(ja, .inl (E.2.1 5, 2, .inr (.inr (.inr (.inr fa))))), (la0, .inr (3, [.ref la0m, .int (nI Pp_12), .int (nI n), .ref la0c, .ref la0f, .ref la0q])), (la0c, .inl (E.2.1 1, 24, .inl cf2_13)), (la0f, .inl (E.2.1 1, 24, .inl ff2_14)), (la0q, .inl (E.2.1 1, 4, .inl fq2_28)), (h, .inr (4, [.int (nI n), .int (nI r), .ref a, .ref b])), (a, .inl (E.2.1 1, 24, .inl f)), (b, .inl (E.2.1 1, 96, .inl gg)), (la1q, .inl (E.2.1 1, 4, .inl fq2_73)), (la0m, .inr (4, [.int (nI bn2_26), .int (nI br2_27), .ref la0x, .ref la0y])), (la0x, .inl (E.2.1 1, 24, .inl bf2_29)), (la0y, .inl (E.2.1 1, 96, .inl bg2_30)), (qj, .inr (2, [.ref jt, .ref je, .ref ju, .ref ja])), (ju, .inl (E.2.1 1, 32, .inl ft2_81)), (la1m, .inr (4, [.int (nI bn2_71), .int (nI br2_72), .ref la1x, .ref la1y])), (la1x, .inl (E.2.1 1, 24, .inl bf2_74)), (la1y, .inl (E.2.1 1, 96, .inl bg2_75))]) (k' := 0) (n' := 0) C (run_V (As := [.int r_80, .int (nI (vr j_45))]) (rest := []) C (l_comingTo X.2.1 E ro la1 r_80 (vr j_45) la1m Pp_51 bn2_26 la1c la1f la1q cf2_52 ff2_53 (by omega) (by omega) h_55) mi_X3_comingTo wl_X2_70 rfl 0 3 rfl rfl rfl rfl rfl dX2_whole_162) (roK hro) [8, 9, 10] [0, 1, 2, 3, 4, 5, 6, 7, 11, 12, 13, 14, 15, 16, 17, 18, 19] rfl rfl rfl rfl (fun r_87 uz hw => ?_)
            have he_88 := hw
            clear hw
            subst he_88
            refine ww_eq (ws' := [(ja, .inl (E.2.1 5, 2, .inr (.inr (.inr (.inr fa))))), (la0, .inr (3, [.ref la0m, .int (nI Pp_12), .int (nI n), .ref la0c, .ref la0f, .ref la0q])), (la0c, .inl (E.2.1 1, 24, .inl cf2_13)), (la0f, .inl (E.2.1 1, 24, .inl ff2_14)), (la0q, .inl (E.2.1 1, 4, .inl fq2_28)), (h, .inr (4, [.int (nI n), .int (nI r), .ref a, .ref b])), (a, .inl (E.2.1 1, 24, .inl f)), (b, .inl (E.2.1 1, 96, .inl gg)), (la1q, .inl (E.2.1 1, 4, .inl fq2_73)), (la0m, .inr (4, [.int (nI bn2_26), .int (nI br2_27), .ref la0x, .ref la0y])), (la0x, .inl (E.2.1 1, 24, .inl bf2_29)), (la0y, .inl (E.2.1 1, 96, .inl bg2_30)), (qj, .inr (2, [.ref jt, .ref je, .ref ju, .ref ja])), (ju, .inl (E.2.1 1, 32, .inl ft2_81)), (la1m, .inr (4, [.int (nI bn2_71), .int (nI br2_72), .ref la1x, .ref la1y])), (la1x, .inl (E.2.1 1, 24, .inl bf2_74)), (la1y, .inl (E.2.1 1, 96, .inl bg2_75)), (la1, .inr (3, [.ref la1m, .int (nI Pp_51), .int (nI bn2_26), .ref la1c, .ref la1f, .ref la1q])), (la1c, .inl (E.2.1 1, 24, .inl cf2_52)), (la1f, .inl (E.2.1 1, 24, .inl ff2_53))]) ?_ rfl rfl rfl
            refine ww_istore (lv' := [(6, .int r_87), (7, .int 1), (4, .int 2), (3, .ref la1m), (5, .int 1), (0, .ref qj), (1, .ref h), (2, .ref sa)]) C dX2_whole_165 rfl rfl ?_
            refine ww_iinc (j := 1) (v := 0) (lv' := [(7, .int 0), (6, .int r_87), (4, .int 2), (3, .ref la1m), (5, .int 1), (0, .ref qj), (1, .ref h), (2, .ref sa)]) C dX2_whole_167 rfl rfl rfl rfl ?_
            refine ww_goto (tgt := 133) C dX2_whole_170 (by decide) ?_
            refine ww_iload C dX2_whole_133 0 rfl ?_
            refine ww_if_lt_f (tgt := 173) C dX2_whole_135 (by decide) (by decide) ?_
            refine ww_aload_n C dX2_whole_138 5 rfl rfl ?_
            refine ww_get C fg_X2_29 12 rfl rfl dX2_whole_139 ?_
            refine ww_iload C dX2_whole_142 0 rfl ?_
            refine ww_ald (v := (some la0)) (t0 := 5) C 0 rfl rfl (vin rfl) k_fa_0 dX2_whole_144 ?_
            refine ww_eq (st' := [.ref la0]) ?_ rfl rfl rfl
            refine ww_iload C dX2_whole_145 1 rfl ?_
            refine ww_aload_n C dX2_whole_147 5 rfl rfl ?_
            refine ww_get C fg_X2_19 12 rfl rfl dX2_whole_148 ?_
            refine ww_aload_n C dX2_whole_151 7 rfl rfl ?_
            refine ww_getR C hro fg_X2_39 i0 h0 rfl dX2_whole_152 ?_
            refine ww_iload C dX2_whole_155 0 rfl ?_
            refine ww_ialdR (v := (nI j_6)) C hro i3 h3 (vin rfl) ej_6 dX2_whole_157 ?_
            obtain ⟨e_89, he_90, hev_91⟩ := hall_ j_6 (by omega)
            refine ww_aldR (v := (some e_89)) (t0 := 4) C hro jei_ hje_ rfl (vp_in_nI (by omega) (by omega)) (ldn (by omega) he_90) dX2_whole_158 ?_
            obtain ⟨i0y_92, i1y_92, i2y_92, i3y_92, i4y_92, cay_92, cby_92, ccy_92, cdy_92, g0y_92, g1y_92, g2y_92, g3y_92, g4y_92, hcsy_92, hrcy_92, hfiy_92⟩ := id hev_91
            refine ww_eq (st' := [.ref e_89, .int r_87, .ref la0]) ?_ rfl rfl rfl
            refine ww_getR C hro fg_X2_67 i0y_92 g0y_92 rfl dX2_whole_159 ?_
            refine ww_ci (wr := [(ja, .inl (E.2.1 5, 2, .inr (.inr (.inr (.inr fa))))), (la0q, .inl (E.2.1 1, 4, .inl fq2_28)), (h, .inr (4, [.int (nI n), .int (nI r), .ref a, .ref b])), (a, .inl (E.2.1 1, 24, .inl f)), (b, .inl (E.2.1 1, 96, .inl gg)), (la1q, .inl (E.2.1 1, 4, .inl fq2_73)), (la0m, .inr (4, [.int (nI bn2_26), .int (nI br2_27), .ref la0x, .ref la0y])), (la0x, .inl (E.2.1 1, 24, .inl bf2_29)), (la0y, .inl (E.2.1 1, 96, .inl bg2_30)), (qj, .inr (2, [.ref jt, .ref je, .ref ju, .ref ja])), (ju, .inl (E.2.1 1, 32, .inl ft2_81)), (la1m, .inr (4, [.int (nI bn2_71), .int (nI br2_72), .ref la1x, .ref la1y])), (la1x, .inl (E.2.1 1, 24, .inl bf2_74)), (la1y, .inl (E.2.1 1, 96, .inl bg2_75)), (la1, .inr (3, [.ref la1m, .int (nI Pp_51), .int (nI bn2_26), .ref la1c, .ref la1f, .ref la1q])), (la1c, .inl (E.2.1 1, 24, .inl cf2_52)), (la1f, .inl (E.2.1 1, 24, .inl ff2_53))]) (k' := 0) (n' := 0) C (run_V (As := [.int r_87, .int (nI (vr j_6))]) (rest := []) C (l_comingTo X.2.1 E ro la0 r_87 (vr j_6) la0m Pp_12 n la0c la0f la0q cf2_13 ff2_14 (by omega) (by omega) h_16) mi_X3_comingTo wl_X2_70 rfl 0 3 rfl rfl rfl rfl rfl dX2_whole_162) (roK hro) [1, 2, 3] [0, 4, 5, 6, 7, 8, 9, 10, 11, 12, 13, 14, 15, 16, 17, 18, 19] rfl rfl rfl rfl (fun r_93 uz hw => ?_)
            have he_94 := hw
            clear hw
            subst he_94
            refine ww_eq (ws' := [(ja, .inl (E.2.1 5, 2, .inr (.inr (.inr (.inr fa))))), (la0q, .inl (E.2.1 1, 4, .inl fq2_28)), (h, .inr (4, [.int (nI n), .int (nI r), .ref a, .ref b])), (a, .inl (E.2.1 1, 24, .inl f)), (b, .inl (E.2.1 1, 96, .inl gg)), (la1q, .inl (E.2.1 1, 4, .inl fq2_73)), (la0m, .inr (4, [.int (nI bn2_26), .int (nI br2_27), .ref la0x, .ref la0y])), (la0x, .inl (E.2.1 1, 24, .inl bf2_29)), (la0y, .inl (E.2.1 1, 96, .inl bg2_30)), (qj, .inr (2, [.ref jt, .ref je, .ref ju, .ref ja])), (ju, .inl (E.2.1 1, 32, .inl ft2_81)), (la1m, .inr (4, [.int (nI bn2_71), .int (nI br2_72), .ref la1x, .ref la1y])), (la1x, .inl (E.2.1 1, 24, .inl bf2_74)), (la1y, .inl (E.2.1 1, 96, .inl bg2_75)), (la1, .inr (3, [.ref la1m, .int (nI Pp_51), .int (nI bn2_26), .ref la1c, .ref la1f, .ref la1q])), (la1c, .inl (E.2.1 1, 24, .inl cf2_52)), (la1f, .inl (E.2.1 1, 24, .inl ff2_53)), (la0, .inr (3, [.ref la0m, .int (nI Pp_12), .int (nI n), .ref la0c, .ref la0f, .ref la0q])), (la0c, .inl (E.2.1 1, 24, .inl cf2_13)), (la0f, .inl (E.2.1 1, 24, .inl ff2_14))]) ?_ rfl rfl rfl
            refine ww_istore (lv' := [(6, .int r_93), (7, .int 0), (4, .int 2), (3, .ref la1m), (5, .int 1), (0, .ref qj), (1, .ref h), (2, .ref sa)]) C dX2_whole_165 rfl rfl ?_
            refine ww_iinc (j := 1) (v := (-1)) (lv' := [(7, .int (-1)), (6, .int r_93), (4, .int 2), (3, .ref la1m), (5, .int 1), (0, .ref qj), (1, .ref h), (2, .ref sa)]) C dX2_whole_167 rfl rfl rfl rfl ?_
            refine ww_goto (tgt := 133) C dX2_whole_170 (by decide) ?_
            refine ww_iload C dX2_whole_133 0 rfl ?_
            refine ww_if_lt_t (tgt := 173) C dX2_whole_135 (by decide) (by decide) ?_
            refine ww_iload C dX2_whole_173 1 rfl ?_
            exact ww_iret (u := [(qj, .inr (2, [.ref jt, .ref je, .ref ju, .ref ja])), (ju, .inl (E.2.1 1, 32, .inl ft2_81)), (ja, .inl (E.2.1 5, 2, .inr (.inr (.inr (.inr fa))))), (la0, .inr (3, [.ref la0m, .int (nI Pp_12), .int (nI n), .ref la0c, .ref la0f, .ref la0q])), (la0c, .inl (E.2.1 1, 24, .inl cf2_13)), (la0f, .inl (E.2.1 1, 24, .inl ff2_14)), (la0q, .inl (E.2.1 1, 4, .inl fq2_28)), (la0m, .inr (4, [.int (nI bn2_26), .int (nI br2_27), .ref la0x, .ref la0y])), (la0x, .inl (E.2.1 1, 24, .inl bf2_29)), (la0y, .inl (E.2.1 1, 96, .inl bg2_30)), (la1, .inr (3, [.ref la1m, .int (nI Pp_51), .int (nI bn2_26), .ref la1c, .ref la1f, .ref la1q])), (la1c, .inl (E.2.1 1, 24, .inl cf2_52)), (la1f, .inl (E.2.1 1, 24, .inl ff2_53)), (la1q, .inl (E.2.1 1, 4, .inl fq2_73)), (la1m, .inr (4, [.int (nI bn2_71), .int (nI br2_72), .ref la1x, .ref la1y])), (la1x, .inl (E.2.1 1, 24, .inl bf2_74)), (la1y, .inl (E.2.1 1, 96, .inl bg2_75)), (h, .inr (4, [.int (nI n), .int (nI r), .ref a, .ref b])), (a, .inl (E.2.1 1, 24, .inl f)), (b, .inl (E.2.1 1, 96, .inl gg))]) C hT [9, 10, 0, 17, 18, 19, 1, 6, 7, 8, 14, 15, 16, 5, 11, 12, 13, 2, 3, 4] rfl rfl rfl rfl dX2_whole_175 (⟨ft2_81, (nI Pp_12), (nI n), bn2_26, br2_27, cf2_13, ff2_14, fq2_28, bf2_29, bg2_30, (nI Pp_51), (nI bn2_26), bn2_71, br2_72, cf2_52, ff2_53, fq2_73, bf2_74, bg2_75, rfl, (by first | assumption | omega | decide), (by first | assumption | omega | decide), (by first | assumption | omega | decide), (by first | assumption | omega | decide)⟩)
          · have zc_79 : 2 < ((na : Nat) : Int) := i_nle (nI_toInt (n := na) (by omega)) rfl c_79
            omega
