def ev6 (vc vr : Nat → Nat) (vi : Nat → Nat → Option SVal) (vs vn vp : Nat → Nat → Int32) : Nat → EVl := fun j => (vc j, vr j, vi j, vs j, vn j, vp j)
theorem dX2_whole_0 : decode cX2_whole 0 = .ok (.aload_n 1, 1) := by decide +kernel
theorem dX2_whole_1 : decode cX2_whole 1 = .ok (.astore_n 3, 1) := by decide +kernel
theorem dX2_whole_2 : decode cX2_whole 2 = .ok (.iconst 0, 1) := by decide +kernel
theorem dX2_whole_3 : decode cX2_whole 3 = .ok (.istore 4, 2) := by decide +kernel
theorem dX2_whole_5 : decode cX2_whole 5 = .ok (.iconst 1, 1) := by decide +kernel
theorem dX2_whole_6 : decode cX2_whole 6 = .ok (.istore 5, 2) := by decide +kernel
theorem dX2_whole_8 : decode cX2_whole 8 = .ok (.iload 4, 2) := by decide +kernel
theorem dX2_whole_10 : decode cX2_whole 10 = .ok (.aload_n 2, 1) := by decide +kernel
theorem dX2_whole_11 : decode cX2_whole 11 = .ok (.getfield 35, 3) := by decide +kernel
theorem wf_X2_35 : Cond.fieldLink RX2 35 RX8 "afters" "I" ∈ TB := tbm (tq3 (List.mem_of_getElem? (i := 163) (by decide +kernel))) (by decide +kernel)
theorem fg_X2_35 : FG RX2 35 8 3 := ⟨RX8, TX8, 7, uw_X8, wf_X2_35, rfl, by decide, rfl⟩
theorem dX2_whole_14 : decode cX2_whole 14 = .ok (.if_icmp .ge 93, 3) := by decide +kernel
theorem dX2_whole_107 : decode cX2_whole 107 = .ok (.iload 5, 2) := by decide +kernel
theorem dX2_whole_109 : decode cX2_whole 109 = .ok (.ifCond .eq 12, 3) := by decide +kernel
theorem dX2_whole_112 : decode cX2_whole 112 = .ok (.aload_n 0, 1) := by decide +kernel
theorem dX2_whole_113 : decode cX2_whole 113 = .ok (.aload_n 3, 1) := by decide +kernel
theorem dX2_whole_114 : decode cX2_whole 114 = .ok (.aload_n 2, 1) := by decide +kernel
theorem dX2_whole_115 : decode cX2_whole 115 = .ok (.invokevirtual 57, 3) := by decide +kernel
theorem wl_X2_57 : Cond.methodLink RX2 57 yX2_plain ∈ TB := tbm (tq4 (List.mem_of_getElem? (i := 38) (by decide +kernel))) (by decide +kernel)
theorem dX2_whole_118 : decode cX2_whole 118 = .ok (.goto 7, 3) := by decide +kernel
theorem dX2_whole_125 : decode cX2_whole 125 = .ok (.istore 6, 2) := by decide +kernel
theorem dX2_whole_127 : decode cX2_whole 127 = .ok (.iload 4, 2) := by decide +kernel
theorem dX2_whole_129 : decode cX2_whole 129 = .ok (.iconst 1, 1) := by decide +kernel
theorem dX2_whole_130 : decode cX2_whole 130 = .ok (.isub, 1) := by decide +kernel
theorem dX2_whole_131 : decode cX2_whole 131 = .ok (.istore 7, 2) := by decide +kernel
theorem dX2_whole_133 : decode cX2_whole 133 = .ok (.iload 7, 2) := by decide +kernel
theorem dX2_whole_135 : decode cX2_whole 135 = .ok (.ifCond .lt 38, 3) := by decide +kernel
theorem dX2_whole_173 : decode cX2_whole 173 = .ok (.iload 6, 2) := by decide +kernel
theorem dX2_whole_175 : decode cX2_whole 175 = .ok (.ireturn, 1) := by decide +kernel
theorem dX2_whole_17 : decode cX2_whole 17 = .ok (.iload 5, 2) := by decide +kernel
theorem dX2_whole_19 : decode cX2_whole 19 = .ok (.ifCond .eq 88, 3) := by decide +kernel
theorem dX2_whole_22 : decode cX2_whole 22 = .ok (.aload_n 0, 1) := by decide +kernel
theorem dX2_whole_23 : decode cX2_whole 23 = .ok (.getfield 19, 3) := by decide +kernel
theorem wf_X2_19 : Cond.fieldLink RX2 19 RX2 "events" "[LWhoKnows$Event;" ∈ TB := tbm (tq1 (List.mem_of_getElem? (i := 215) (by decide +kernel))) (by decide +kernel)
theorem fg_X2_19 : FG RX2 19 2 1 := ⟨RX2, TX2, 4, uw_X2, wf_X2_19, rfl, by decide, rfl⟩
theorem dX2_whole_26 : decode cX2_whole 26 = .ok (.aload_n 2, 1) := by decide +kernel
theorem dX2_whole_27 : decode cX2_whole 27 = .ok (.getfield 39, 3) := by decide +kernel
theorem wf_X2_39 : Cond.fieldLink RX2 39 RX8 "after" "[I" ∈ TB := tbm (tq3 (List.mem_of_getElem? (i := 166) (by decide +kernel))) (by decide +kernel)
theorem fg_X2_39 : FG RX2 39 8 4 := ⟨RX8, TX8, 7, uw_X8, wf_X2_39, rfl, by decide, rfl⟩
theorem dX2_whole_30 : decode cX2_whole 30 = .ok (.iload 4, 2) := by decide +kernel
theorem dX2_whole_32 : decode cX2_whole 32 = .ok (.iaload, 1) := by decide +kernel
theorem dX2_whole_33 : decode cX2_whole 33 = .ok (.aaload, 1) := by decide +kernel
theorem dX2_whole_34 : decode cX2_whole 34 = .ok (.astore 6, 2) := by decide +kernel
theorem dX2_whole_36 : decode cX2_whole 36 = .ok (.aload_n 0, 1) := by decide +kernel
theorem dX2_whole_37 : decode cX2_whole 37 = .ok (.getfield 29, 3) := by decide +kernel
theorem wf_X2_29 : Cond.fieldLink RX2 29 RX2 "ahead" "[LWhoKnows$Layer;" ∈ TB := tbm (tq1 (List.mem_of_getElem? (i := 219) (by decide +kernel))) (by decide +kernel)
theorem fg_X2_29 : FG RX2 29 2 3 := ⟨RX2, TX2, 4, uw_X2, wf_X2_29, rfl, by decide, rfl⟩
theorem dX2_whole_40 : decode cX2_whole 40 = .ok (.iload 4, 2) := by decide +kernel
theorem dX2_whole_42 : decode cX2_whole 42 = .ok (.aaload, 1) := by decide +kernel
theorem dX2_whole_43 : decode cX2_whole 43 = .ok (.aload_n 3, 1) := by decide +kernel
theorem dX2_whole_44 : decode cX2_whole 44 = .ok (.aload 6, 2) := by decide +kernel
theorem dX2_whole_46 : decode cX2_whole 46 = .ok (.aload_n 0, 1) := by decide +kernel
theorem dX2_whole_47 : decode cX2_whole 47 = .ok (.invokevirtual 42, 3) := by decide +kernel
theorem wl_X2_42 : Cond.methodLink RX2 42 yX3_measure ∈ TB := tbm (tq3 (List.mem_of_getElem? (i := 215) (by decide +kernel))) (by decide +kernel)
theorem wc_X3_measure : Cond.code yX3_measure cX3_measure 8 none ∈ TB := tbm (tq3 (List.mem_of_getElem? (i := 218) (rfl))) (by decide +kernel)
theorem wi_X3_measure : Cond.instanceMethod yX3_measure ∈ TB := tbm (tq3 (List.mem_of_getElem? (i := 216) (by decide +kernel))) (by decide +kernel)
theorem ws_X3_measure : Cond.selects RX3 yX3_measure yX3_measure ∈ TB := tbm (tq3 (List.mem_of_getElem? (i := 217) (by decide +kernel))) (by decide +kernel)
theorem mi_X3_measure : MI yX3_measure cX3_measure 8 none 3 := ⟨wc_X3_measure, wn_X3, ⟨by decide +kernel, by decide +kernel, by decide +kernel⟩, wi_X3_measure, ws_X3_measure⟩
theorem dX2_whole_50 : decode cX2_whole 50 = .ok (.aload_n 0, 1) := by decide +kernel
theorem dX2_whole_51 : decode cX2_whole 51 = .ok (.getfield 29, 3) := by decide +kernel
theorem dX2_whole_54 : decode cX2_whole 54 = .ok (.iload 4, 2) := by decide +kernel
theorem dX2_whole_56 : decode cX2_whole 56 = .ok (.aaload, 1) := by decide +kernel
theorem dX2_whole_57 : decode cX2_whole 57 = .ok (.getfield 46, 3) := by decide +kernel
theorem wf_X2_46 : Cond.fieldLink RX2 46 RX3 "pairs" "I" ∈ TB := tbm (tq1 (List.mem_of_getElem? (i := 191) (by decide +kernel))) (by decide +kernel)
theorem fg_X2_46 : FG RX2 46 3 1 := ⟨RX3, TX3, 6, uw_X3, wf_X2_46, rfl, by decide, rfl⟩
theorem dX2_whole_60 : decode cX2_whole 60 = .ok (.bipush 24, 2) := by decide +kernel
theorem dX2_whole_62 : decode cX2_whole 62 = .ok (.if_icmp .gt 7, 3) := by decide +kernel
theorem dX2_whole_69 : decode cX2_whole 69 = .ok (.iconst 0, 1) := by decide +kernel
theorem dX2_whole_70 : decode cX2_whole 70 = .ok (.istore 5, 2) := by decide +kernel
theorem dX2_whole_72 : decode cX2_whole 72 = .ok (.iload 5, 2) := by decide +kernel
theorem dX2_whole_74 : decode cX2_whole 74 = .ok (.ifCond .eq 30, 3) := by decide +kernel
theorem dX2_whole_104 : decode cX2_whole 104 = .ok (.goto (-96), 3) := by decide +kernel
theorem dX2_whole_121 : decode cX2_whole 121 = .ok (.aload_n 3, 1) := by decide +kernel
theorem dX2_whole_122 : decode cX2_whole 122 = .ok (.invokevirtual 61, 3) := by decide +kernel
theorem dX2_whole_65 : decode cX2_whole 65 = .ok (.iconst 1, 1) := by decide +kernel
theorem dX2_whole_66 : decode cX2_whole 66 = .ok (.goto 4, 3) := by decide +kernel
theorem dX2_whole_77 : decode cX2_whole 77 = .ok (.aload_n 0, 1) := by decide +kernel
theorem dX2_whole_78 : decode cX2_whole 78 = .ok (.getfield 29, 3) := by decide +kernel
theorem dX2_whole_81 : decode cX2_whole 81 = .ok (.iload 4, 2) := by decide +kernel
theorem dX2_whole_83 : decode cX2_whole 83 = .ok (.aaload, 1) := by decide +kernel
theorem dX2_whole_84 : decode cX2_whole 84 = .ok (.aload_n 3, 1) := by decide +kernel
theorem dX2_whole_85 : decode cX2_whole 85 = .ok (.aload 6, 2) := by decide +kernel
theorem dX2_whole_87 : decode cX2_whole 87 = .ok (.invokevirtual 49, 3) := by decide +kernel
theorem wl_X2_49 : Cond.methodLink RX2 49 yX3_build ∈ TB := tbm (tq4 (List.mem_of_getElem? (i := 3) (by decide +kernel))) (by decide +kernel)
theorem wc_X3_build : Cond.code yX3_build cX3_build 5 none ∈ TB := tbm (tq4 (List.mem_of_getElem? (i := 6) (rfl))) (by decide +kernel)
theorem wi_X3_build : Cond.instanceMethod yX3_build ∈ TB := tbm (tq4 (List.mem_of_getElem? (i := 4) (by decide +kernel))) (by decide +kernel)
theorem ws_X3_build : Cond.selects RX3 yX3_build yX3_build ∈ TB := tbm (tq4 (List.mem_of_getElem? (i := 5) (by decide +kernel))) (by decide +kernel)
theorem mi_X3_build : MI yX3_build cX3_build 5 none 2 := ⟨wc_X3_build, wn_X3, ⟨by decide +kernel, by decide +kernel, by decide +kernel⟩, wi_X3_build, ws_X3_build⟩
theorem dX2_whole_90 : decode cX2_whole 90 = .ok (.aload_n 0, 1) := by decide +kernel
theorem dX2_whole_91 : decode cX2_whole 91 = .ok (.getfield 29, 3) := by decide +kernel
theorem dX2_whole_94 : decode cX2_whole 94 = .ok (.iload 4, 2) := by decide +kernel
theorem dX2_whole_96 : decode cX2_whole 96 = .ok (.aaload, 1) := by decide +kernel
theorem dX2_whole_97 : decode cX2_whole 97 = .ok (.getfield 53, 3) := by decide +kernel
theorem wf_X2_53 : Cond.fieldLink RX2 53 RX3 "behind" "LWhoKnows$Model;" ∈ TB := tbm (tq1 (List.mem_of_getElem? (i := 188) (by decide +kernel))) (by decide +kernel)
theorem fg_X2_53 : FG RX2 53 3 0 := ⟨RX3, TX3, 6, uw_X3, wf_X2_53, rfl, by decide, rfl⟩
theorem dX2_whole_100 : decode cX2_whole 100 = .ok (.astore_n 3, 1) := by decide +kernel
theorem dX2_whole_101 : decode cX2_whole 101 = .ok (.iinc 4 1, 3) := by decide +kernel
theorem dX2_whole_138 : decode cX2_whole 138 = .ok (.aload_n 0, 1) := by decide +kernel
theorem dX2_whole_139 : decode cX2_whole 139 = .ok (.getfield 29, 3) := by decide +kernel
theorem dX2_whole_142 : decode cX2_whole 142 = .ok (.iload 7, 2) := by decide +kernel
theorem dX2_whole_144 : decode cX2_whole 144 = .ok (.aaload, 1) := by decide +kernel
theorem dX2_whole_145 : decode cX2_whole 145 = .ok (.iload 6, 2) := by decide +kernel
theorem dX2_whole_147 : decode cX2_whole 147 = .ok (.aload_n 0, 1) := by decide +kernel
theorem dX2_whole_148 : decode cX2_whole 148 = .ok (.getfield 19, 3) := by decide +kernel
theorem dX2_whole_151 : decode cX2_whole 151 = .ok (.aload_n 2, 1) := by decide +kernel
theorem dX2_whole_152 : decode cX2_whole 152 = .ok (.getfield 39, 3) := by decide +kernel
theorem dX2_whole_155 : decode cX2_whole 155 = .ok (.iload 7, 2) := by decide +kernel
theorem dX2_whole_157 : decode cX2_whole 157 = .ok (.iaload, 1) := by decide +kernel
theorem dX2_whole_158 : decode cX2_whole 158 = .ok (.aaload, 1) := by decide +kernel
theorem dX2_whole_159 : decode cX2_whole 159 = .ok (.getfield 67, 3) := by decide +kernel
theorem wf_X2_67 : Cond.fieldLink RX2 67 RX0 "realCase" "I" ∈ TB := tbm (tq1 (List.mem_of_getElem? (i := 154) (by decide +kernel))) (by decide +kernel)
theorem fg_X2_67 : FG RX2 67 0 1 := ⟨RX0, TX0, 6, uw_X0, wf_X2_67, rfl, by decide, rfl⟩
theorem dX2_whole_162 : decode cX2_whole 162 = .ok (.invokevirtual 70, 3) := by decide +kernel
theorem wl_X2_70 : Cond.methodLink RX2 70 yX3_comingTo ∈ TB := tbm (tq4 (List.mem_of_getElem? (i := 39) (by decide +kernel))) (by decide +kernel)
theorem wc_X3_comingTo : Cond.code yX3_comingTo cX3_comingTo 5 (some .int) ∈ TB := tbm (tq4 (List.mem_of_getElem? (i := 42) (rfl))) (by decide +kernel)
theorem wi_X3_comingTo : Cond.instanceMethod yX3_comingTo ∈ TB := tbm (tq4 (List.mem_of_getElem? (i := 40) (by decide +kernel))) (by decide +kernel)
theorem ws_X3_comingTo : Cond.selects RX3 yX3_comingTo yX3_comingTo ∈ TB := tbm (tq4 (List.mem_of_getElem? (i := 41) (by decide +kernel))) (by decide +kernel)
theorem mi_X3_comingTo : MI yX3_comingTo cX3_comingTo 5 (some .int) 2 := ⟨wc_X3_comingTo, wn_X3, ⟨by decide +kernel, by decide +kernel, by decide +kernel⟩, wi_X3_comingTo, ws_X3_comingTo⟩
theorem dX2_whole_165 : decode cX2_whole 165 = .ok (.istore 6, 2) := by decide +kernel
theorem dX2_whole_167 : decode cX2_whole 167 = .ok (.iinc 7 (-1), 3) := by decide +kernel
theorem dX2_whole_170 : decode cX2_whole 170 = .ok (.goto (-37), 3) := by decide +kernel
set_option maxRecDepth 100000 in
set_option maxHeartbeats 4000000 in
theorem j_whole (l : Launch) (E : EV) (ro : va_W) (qj : Nat) (h : Nat) (sa : Nat) (jt : Nat) (je : Nat) (ju : Nat) (ja : Nat) (ft : Nat → Int32) (fa : Nat → Option Nat) (la0 : Nat) (la1 : Nat) (la0m : Nat) (la0p : Int32) (la0w : Int32) (la0c : Nat) (la0f : Nat) (la0q : Nat) (la0fc : Nat → Int32) (la0ff : Nat → Int32) (la0fq : Nat → Int32) (la0n : Nat) (la0r : Nat) (la0x : Nat) (la0y : Nat) (la0gx : Nat → Int32) (la0gy : Nat → Int32) (la1m : Nat) (la1p : Int32) (la1w : Int32) (la1c : Nat) (la1f : Nat) (la1q : Nat) (la1fc : Nat → Int32) (la1ff : Nat → Int32) (la1fq : Nat → Int32) (la1n : Nat) (la1r : Nat) (la1x : Nat) (la1y : Nat) (la1gx : Nat → Int32) (la1gy : Nat → Int32) (n : Nat) (r : Nat) (a : Nat) (b : Nat) (f : Nat → Int32) (gg : Nat → Int32) (vc : Nat → Nat) (vr : Nat → Nat) (vi : Nat → Nat → Option SVal) (vs : Nat → Nat → Int32) (vn : Nat → Nat → Int32) (vp : Nat → Nat → Int32) (SS : SVal) (k_fa_0 : fa 0 = some la0) (k_fa_1 : fa 1 = some la1) (hn : n ≤ 24) (hr : r < n ∨ r = 0) (hla0n : la0n ≤ 24) (hla0r : la0r < la0n ∨ la0r = 0) (hla1n : la1n ≤ 24) (hla1r : la1r < la1n ∨ la1r = 0) (hEV : EVA E ro je vc vr vi vs vn vp) (hsa : SYv E ro sa SS) (hwfm : WFm (am n r f gg)) : CT l yX2_whole (Cond.code yX2_whole cX2_whole 8 (some .int) :: TB) ({ frames := 4, cells := 0, slots := 0, locals := 108 }) E ro [.ref qj, .ref h, .ref sa] [(qj, .inr (2, [.ref jt, .ref je, .ref ju, .ref ja])), (ju, .inl (E.2.1 1, 32, .inl ft)), (ja, .inl (E.2.1 5, 2, .inr (.inr (.inr (.inr fa))))), (la0, .inr (3, [.ref la0m, .int la0p, .int la0w, .ref la0c, .ref la0f, .ref la0q])), (la0c, .inl (E.2.1 1, 24, .inl la0fc)), (la0f, .inl (E.2.1 1, 24, .inl la0ff)), (la0q, .inl (E.2.1 1, 4, .inl la0fq)), (la0m, .inr (4, [.int (nI la0n), .int (nI la0r), .ref la0x, .ref la0y])), (la0x, .inl (E.2.1 1, 24, .inl la0gx)), (la0y, .inl (E.2.1 1, 96, .inl la0gy)), (la1, .inr (3, [.ref la1m, .int la1p, .int la1w, .ref la1c, .ref la1f, .ref la1q])), (la1c, .inl (E.2.1 1, 24, .inl la1fc)), (la1f, .inl (E.2.1 1, 24, .inl la1ff)), (la1q, .inl (E.2.1 1, 4, .inl la1fq)), (la1m, .inr (4, [.int (nI la1n), .int (nI la1r), .ref la1x, .ref la1y])), (la1x, .inl (E.2.1 1, 24, .inl la1gx)), (la1y, .inl (E.2.1 1, 96, .inl la1gy)), (h, .inr (4, [.int (nI n), .int (nI r), .ref a, .ref b])), (a, .inl (E.2.1 1, 24, .inl f)), (b, .inl (E.2.1 1, 96, .inl gg))] (Qi E (fun (rz : Int32) uz => (∃ (ft2 : Nat → Int32) (la0zp : Int32) (la0zw : Int32) (la0zn : Nat) (la0zr : Nat) (la0zfc : Nat → Int32) (la0zff : Nat → Int32) (la0zfq : Nat → Int32) (la0zgx : Nat → Int32) (la0zgy : Nat → Int32) (la1zp : Int32) (la1zw : Int32) (la1zn : Nat) (la1zr : Nat) (la1zfc : Nat → Int32) (la1zff : Nat → Int32) (la1zfq : Nat → Int32) (la1zgx : Nat → Int32) (la1zgy : Nat → Int32), uz = [(qj, .inr (2, [.ref jt, .ref je, .ref ju, .ref ja])), (ju, .inl (E.2.1 1, 32, .inl ft2)), (ja, .inl (E.2.1 5, 2, .inr (.inr (.inr (.inr fa))))), (la0, .inr (3, [.ref la0m, .int la0zp, .int la0zw, .ref la0c, .ref la0f, .ref la0q])), (la0c, .inl (E.2.1 1, 24, .inl la0zfc)), (la0f, .inl (E.2.1 1, 24, .inl la0zff)), (la0q, .inl (E.2.1 1, 4, .inl la0zfq)), (la0m, .inr (4, [.int (nI la0zn), .int (nI la0zr), .ref la0x, .ref la0y])), (la0x, .inl (E.2.1 1, 24, .inl la0zgx)), (la0y, .inl (E.2.1 1, 96, .inl la0zgy)), (la1, .inr (3, [.ref la1m, .int la1zp, .int la1zw, .ref la1c, .ref la1f, .ref la1q])), (la1c, .inl (E.2.1 1, 24, .inl la1zfc)), (la1f, .inl (E.2.1 1, 24, .inl la1zff)), (la1q, .inl (E.2.1 1, 4, .inl la1zfq)), (la1m, .inr (4, [.int (nI la1zn), .int (nI la1zr), .ref la1x, .ref la1y])), (la1x, .inl (E.2.1 1, 24, .inl la1zgx)), (la1y, .inl (E.2.1 1, 96, .inl la1zgy)), (h, .inr (4, [.int (nI n), .int (nI r), .ref a, .ref b])), (a, .inl (E.2.1 1, 24, .inl f)), (b, .inl (E.2.1 1, 96, .inl gg))] ∧ (la0zn ≤ 24) ∧ (la0zr < la0zn ∨ la0zr = 0) ∧ (la1zn ≤ 24) ∧ (la1zr < la1zn ∨ la1zr = 0) ∧ (BS rz (vWho (am n r f gg) (ev6 vc vr vi vs vn vp) SS))))) 0 0 := by
  refine ct_of rfl rfl ?_
  intro X C hT hin hro
  show WW X 8 E 0 [(0, .ref qj), (1, .ref h), (2, .ref sa)] [] [(qj, .inr (2, [.ref jt, .ref je, .ref ju, .ref ja])), (ju, .inl (E.2.1 1, 32, .inl ft)), (ja, .inl (E.2.1 5, 2, .inr (.inr (.inr (.inr fa))))), (la0, .inr (3, [.ref la0m, .int la0p, .int la0w, .ref la0c, .ref la0f, .ref la0q])), (la0c, .inl (E.2.1 1, 24, .inl la0fc)), (la0f, .inl (E.2.1 1, 24, .inl la0ff)), (la0q, .inl (E.2.1 1, 4, .inl la0fq)), (la0m, .inr (4, [.int (nI la0n), .int (nI la0r), .ref la0x, .ref la0y])), (la0x, .inl (E.2.1 1, 24, .inl la0gx)), (la0y, .inl (E.2.1 1, 96, .inl la0gy)), (la1, .inr (3, [.ref la1m, .int la1p, .int la1w, .ref la1c, .ref la1f, .ref la1q])), (la1c, .inl (E.2.1 1, 24, .inl la1fc)), (la1f, .inl (E.2.1 1, 24, .inl la1ff)), (la1q, .inl (E.2.1 1, 4, .inl la1fq)), (la1m, .inr (4, [.int (nI la1n), .int (nI la1r), .ref la1x, .ref la1y])), (la1x, .inl (E.2.1 1, 24, .inl la1gx)), (la1y, .inl (E.2.1 1, 96, .inl la1gy)), (h, .inr (4, [.int (nI n), .int (nI r), .ref a, .ref b])), (a, .inl (E.2.1 1, 24, .inl f)), (b, .inl (E.2.1 1, 96, .inl gg))] 0 0
  obtain ⟨jei_, fe_, hje_, hall_⟩ := id hEV
  obtain ⟨nn, so, sr, sf, tk, dp, nm, na⟩ := SS
  obtain ⟨i0, i1, i2, i3, sx, sy, sz, h0, h1, h2, h3, hwf, hna, haf⟩ := id hsa
  have h0 : ro[i0]? = some (sa, .inr (8, [.ref sx, .ref sy, .int (nI tk), .int (nI na), .ref sz, .int dp, .int nm])) := h0
  have h1 : ro[i1]? = some (sx, .inl (E.2.1 1, nn, .inl so)) := h1
  have h2 : ro[i2]? = some (sy, .inl (E.2.1 1, nn, .inl sr)) := h2
  have h3 : ro[i3]? = some (sz, .inl (E.2.1 1, 2, .inl sf)) := h3
  have hwf : WFs nn so := hwf
  have hna : na ≤ 2 := hna
  have haf : ∀ k, k < na → ∃ j : Nat, j < 4 ∧ sf k = nI j := haf
  have hwn : 1 ≤ nn ∧ nn ≤ 32 := ⟨hwf.1, hwf.2.1⟩
  refine ww_aload_n C dX2_whole_0 1 rfl rfl ?_
  refine ww_astore_n (lv' := [(3, .ref h), (0, .ref qj), (1, .ref h), (2, .ref sa)]) C dX2_whole_1 rfl rfl rfl ?_
  refine ww_iconst (v := 0) C dX2_whole_2 rfl ?_
  refine ww_istore (lv' := [(4, .int 0), (3, .ref h), (0, .ref qj), (1, .ref h), (2, .ref sa)]) C dX2_whole_3 rfl rfl ?_
  refine ww_iconst (v := 1) C dX2_whole_5 rfl ?_
  refine ww_istore (lv' := [(5, .int 1), (4, .int 0), (3, .ref h), (0, .ref qj), (1, .ref h), (2, .ref sa)]) C dX2_whole_6 rfl rfl ?_
  refine ww_iload C dX2_whole_8 1 rfl ?_
  refine ww_aload_n C dX2_whole_10 5 rfl rfl ?_
  refine ww_getR C hro fg_X2_35 i0 h0 rfl dX2_whole_11 ?_
  refine ww_icmp_ge (tgt := 107) C dX2_whole_14 (by decide) (fun c_1 => ?_) (fun c_1 => ?_)
  · have zc_1 : 0 ≥ ((na : Nat) : Int) := i_le (nI_toInt (n := na) (by omega)) rfl c_1
    refine ww_iload C dX2_whole_107 0 rfl ?_
    refine ww_if_eq_f (tgt := 121) C dX2_whole_109 (by decide) (by decide) ?_
    refine ww_aload_n C dX2_whole_112 3 rfl rfl ?_
    refine ww_aload_n C dX2_whole_113 2 rfl rfl ?_
    refine ww_aload_n C dX2_whole_114 5 rfl rfl ?_
    refine ww_ci (wr := [(ja, .inl (E.2.1 5, 2, .inr (.inr (.inr (.inr fa))))), (la0, .inr (3, [.ref la0m, .int la0p, .int la0w, .ref la0c, .ref la0f, .ref la0q])), (la0c, .inl (E.2.1 1, 24, .inl la0fc)), (la0f, .inl (E.2.1 1, 24, .inl la0ff)), (la0q, .inl (E.2.1 1, 4, .inl la0fq)), (la0m, .inr (4, [.int (nI la0n), .int (nI la0r), .ref la0x, .ref la0y])), (la0x, .inl (E.2.1 1, 24, .inl la0gx)), (la0y, .inl (E.2.1 1, 96, .inl la0gy)), (la1, .inr (3, [.ref la1m, .int la1p, .int la1w, .ref la1c, .ref la1f, .ref la1q])), (la1c, .inl (E.2.1 1, 24, .inl la1fc)), (la1f, .inl (E.2.1 1, 24, .inl la1ff)), (la1q, .inl (E.2.1 1, 4, .inl la1fq)), (la1m, .inr (4, [.int (nI la1n), .int (nI la1r), .ref la1x, .ref la1y])), (la1x, .inl (E.2.1 1, 24, .inl la1gx)), (la1y, .inl (E.2.1 1, 96, .inl la1gy))]) (k' := 0) (n' := 0) C (run_V (As := [.ref h, .ref sa]) (rest := []) C (j_plain X.2.1 E ro qj h sa jt je ju ja ft n r a b f gg (nn, so, sr, sf, tk, dp, nm, na) (by omega) (by omega) hsa hwfm) mi_X2_plain wl_X2_57 rfl 0 2 rfl rfl rfl rfl rfl dX2_whole_115) (roK hro) [0, 1, 17, 18, 19] [2, 3, 4, 5, 6, 7, 8, 9, 10, 11, 12, 13, 14, 15, 16] rfl rfl rfl rfl (fun r_2 uz hw => ?_)
    refine ex1 hw ?_
    clear hw
    intro ft2_3 hw
    refine an1 hw ?_
    clear hw
    intro he_5 hw
    have h_4 := hw
    clear hw
    subst he_5
    refine ww_eq (ws' := [(ja, .inl (E.2.1 5, 2, .inr (.inr (.inr (.inr fa))))), (la0, .inr (3, [.ref la0m, .int la0p, .int la0w, .ref la0c, .ref la0f, .ref la0q])), (la0c, .inl (E.2.1 1, 24, .inl la0fc)), (la0f, .inl (E.2.1 1, 24, .inl la0ff)), (la0q, .inl (E.2.1 1, 4, .inl la0fq)), (la0m, .inr (4, [.int (nI la0n), .int (nI la0r), .ref la0x, .ref la0y])), (la0x, .inl (E.2.1 1, 24, .inl la0gx)), (la0y, .inl (E.2.1 1, 96, .inl la0gy)), (la1, .inr (3, [.ref la1m, .int la1p, .int la1w, .ref la1c, .ref la1f, .ref la1q])), (la1c, .inl (E.2.1 1, 24, .inl la1fc)), (la1f, .inl (E.2.1 1, 24, .inl la1ff)), (la1q, .inl (E.2.1 1, 4, .inl la1fq)), (la1m, .inr (4, [.int (nI la1n), .int (nI la1r), .ref la1x, .ref la1y])), (la1x, .inl (E.2.1 1, 24, .inl la1gx)), (la1y, .inl (E.2.1 1, 96, .inl la1gy)), (qj, .inr (2, [.ref jt, .ref je, .ref ju, .ref ja])), (ju, .inl (E.2.1 1, 32, .inl ft2_3)), (h, .inr (4, [.int (nI n), .int (nI r), .ref a, .ref b])), (a, .inl (E.2.1 1, 24, .inl f)), (b, .inl (E.2.1 1, 96, .inl gg))]) ?_ rfl rfl rfl
    refine ww_goto (tgt := 125) C dX2_whole_118 (by decide) ?_
    refine ww_istore (lv' := [(6, .int r_2), (5, .int 1), (4, .int 0), (3, .ref h), (0, .ref qj), (1, .ref h), (2, .ref sa)]) C dX2_whole_125 rfl rfl ?_
    refine ww_iload C dX2_whole_127 2 rfl ?_
    refine ww_iconst (v := 1) C dX2_whole_129 rfl ?_
    refine ww_isub (v := (-1)) C dX2_whole_130 (by decide) ?_
    refine ww_istore (lv' := [(7, .int (-1)), (6, .int r_2), (5, .int 1), (4, .int 0), (3, .ref h), (0, .ref qj), (1, .ref h), (2, .ref sa)]) C dX2_whole_131 rfl rfl ?_
    refine ww_iload C dX2_whole_133 0 rfl ?_
    refine ww_if_lt_t (tgt := 173) C dX2_whole_135 (by decide) (by decide) ?_
    refine ww_iload C dX2_whole_173 1 rfl ?_
    exact ww_iret (u := [(qj, .inr (2, [.ref jt, .ref je, .ref ju, .ref ja])), (ju, .inl (E.2.1 1, 32, .inl ft2_3)), (ja, .inl (E.2.1 5, 2, .inr (.inr (.inr (.inr fa))))), (la0, .inr (3, [.ref la0m, .int la0p, .int la0w, .ref la0c, .ref la0f, .ref la0q])), (la0c, .inl (E.2.1 1, 24, .inl la0fc)), (la0f, .inl (E.2.1 1, 24, .inl la0ff)), (la0q, .inl (E.2.1 1, 4, .inl la0fq)), (la0m, .inr (4, [.int (nI la0n), .int (nI la0r), .ref la0x, .ref la0y])), (la0x, .inl (E.2.1 1, 24, .inl la0gx)), (la0y, .inl (E.2.1 1, 96, .inl la0gy)), (la1, .inr (3, [.ref la1m, .int la1p, .int la1w, .ref la1c, .ref la1f, .ref la1q])), (la1c, .inl (E.2.1 1, 24, .inl la1fc)), (la1f, .inl (E.2.1 1, 24, .inl la1ff)), (la1q, .inl (E.2.1 1, 4, .inl la1fq)), (la1m, .inr (4, [.int (nI la1n), .int (nI la1r), .ref la1x, .ref la1y])), (la1x, .inl (E.2.1 1, 24, .inl la1gx)), (la1y, .inl (E.2.1 1, 96, .inl la1gy)), (h, .inr (4, [.int (nI n), .int (nI r), .ref a, .ref b])), (a, .inl (E.2.1 1, 24, .inl f)), (b, .inl (E.2.1 1, 96, .inl gg))]) C hT [15, 16, 0, 1, 2, 3, 4, 5, 6, 7, 8, 9, 10, 11, 12, 13, 14, 17, 18, 19] rfl rfl rfl rfl dX2_whole_175 (⟨ft2_3, la0p, la0w, la0n, la0r, la0fc, la0ff, la0fq, la0gx, la0gy, la1p, la1w, la1n, la1r, la1fc, la1ff, la1fq, la1gx, la1gy, rfl, (by first | assumption | omega | decide), (by first | assumption | omega | decide), (by first | assumption | omega | decide), (by first | assumption | omega | decide), (w_0 (S := (nn, so, sr, sf, tk, dp, nm, na)) (ev := (ev6 vc vr vi vs vn vp)) (show na = 0 by omega) h_4)⟩)
  · have zc_1 : 0 < ((na : Nat) : Int) := i_nle (nI_toInt (n := na) (by omega)) rfl c_1
    refine ww_iload C dX2_whole_17 0 rfl ?_
    refine ww_if_eq_f (tgt := 107) C dX2_whole_19 (by decide) (by decide) ?_
    refine ww_aload_n C dX2_whole_22 3 rfl rfl ?_
    refine ww_get C fg_X2_19 0 rfl rfl dX2_whole_23 ?_
    refine ww_aload_n C dX2_whole_26 5 rfl rfl ?_
    refine ww_getR C hro fg_X2_39 i0 h0 rfl dX2_whole_27 ?_
    refine ww_iload C dX2_whole_30 1 rfl ?_
    obtain ⟨j_7, hj_7, ej_7⟩ := haf 0 (by omega)
    refine ww_ialdR (v := (nI j_7)) C hro i3 h3 (vin rfl) ej_7 dX2_whole_32 ?_
    obtain ⟨e_8, he_9, hev_10⟩ := hall_ j_7 (by omega)
    refine ww_aldR (v := (some e_8)) (t0 := 4) C hro jei_ hje_ rfl (vp_in_nI (by omega) (by omega)) (ldn (by omega) he_9) dX2_whole_33 ?_
    obtain ⟨i0y_11, i1y_11, i2y_11, i3y_11, i4y_11, cay_11, cby_11, ccy_11, cdy_11, fiy_11, g0y_11, g1y_11, g2y_11, g3y_11, g4y_11, hcsy_11, hrcy_11, hfiy_11⟩ := id hev_10
    refine ww_eq (st' := [.ref e_8]) ?_ rfl rfl rfl
    refine ww_astore (lv' := [(6, .ref e_8), (5, .int 1), (4, .int 0), (3, .ref h), (0, .ref qj), (1, .ref h), (2, .ref sa)]) C dX2_whole_34 rfl rfl ?_
    refine ww_aload_n C dX2_whole_36 4 rfl rfl ?_
    refine ww_get C fg_X2_29 0 rfl rfl dX2_whole_37 ?_
    refine ww_iload C dX2_whole_40 2 rfl ?_
    refine ww_ald (v := (some la0)) (t0 := 5) C 2 rfl rfl (vin rfl) k_fa_0 dX2_whole_42 ?_
    refine ww_eq (st' := [.ref la0]) ?_ rfl rfl rfl
    refine ww_aload_n C dX2_whole_43 3 rfl rfl ?_
    refine ww_aload C dX2_whole_44 0 rfl ?_
    refine ww_aload_n C dX2_whole_46 4 rfl rfl ?_
    refine ww_cv (wr := [(ja, .inl (E.2.1 5, 2, .inr (.inr (.inr (.inr fa))))), (la0q, .inl (E.2.1 1, 4, .inl la0fq)), (la0m, .inr (4, [.int (nI la0n), .int (nI la0r), .ref la0x, .ref la0y])), (la0x, .inl (E.2.1 1, 24, .inl la0gx)), (la0y, .inl (E.2.1 1, 96, .inl la0gy)), (la1, .inr (3, [.ref la1m, .int la1p, .int la1w, .ref la1c, .ref la1f, .ref la1q])), (la1c, .inl (E.2.1 1, 24, .inl la1fc)), (la1f, .inl (E.2.1 1, 24, .inl la1ff)), (la1q, .inl (E.2.1 1, 4, .inl la1fq)), (la1m, .inr (4, [.int (nI la1n), .int (nI la1r), .ref la1x, .ref la1y])), (la1x, .inl (E.2.1 1, 24, .inl la1gx)), (la1y, .inl (E.2.1 1, 96, .inl la1gy))]) (k' := 0) (n' := 0) C (run_V (As := [.ref h, .ref e_8, .ref qj]) (rest := []) C (l_measure X.2.1 E ro la0 h e_8 qj la0m la0p la0w la0c la0f la0q la0fc la0ff n r a b f gg jt je ju ja ft (vc j_7) (vr j_7) (vi j_7) (vs j_7) (vn j_7) (vp j_7) (by omega) (by omega) hev_10 hwfm) mi_X3_measure wl_X2_42 rfl 0 3 rfl rfl rfl rfl rfl dX2_whole_47) (roK hro) [3, 4, 5, 17, 18, 19, 0, 1] [2, 6, 7, 8, 9, 10, 11, 12, 13, 14, 15, 16] rfl rfl rfl rfl (fun uz hw => ?_)
    refine ex4 hw ?_
    clear hw
    intro Pp_13 cf2_14 ff2_15 ft2_16 hw
    refine an5 hw ?_
    clear hw
    intro he_22 h_17 h_18 h_19 h_20 hw
    have h_21 := hw
    clear hw
    subst he_22
    refine ww_eq (ws' := [(ja, .inl (E.2.1 5, 2, .inr (.inr (.inr (.inr fa))))), (la0q, .inl (E.2.1 1, 4, .inl la0fq)), (la0m, .inr (4, [.int (nI la0n), .int (nI la0r), .ref la0x, .ref la0y])), (la0x, .inl (E.2.1 1, 24, .inl la0gx)), (la0y, .inl (E.2.1 1, 96, .inl la0gy)), (la1, .inr (3, [.ref la1m, .int la1p, .int la1w, .ref la1c, .ref la1f, .ref la1q])), (la1c, .inl (E.2.1 1, 24, .inl la1fc)), (la1f, .inl (E.2.1 1, 24, .inl la1ff)), (la1q, .inl (E.2.1 1, 4, .inl la1fq)), (la1m, .inr (4, [.int (nI la1n), .int (nI la1r), .ref la1x, .ref la1y])), (la1x, .inl (E.2.1 1, 24, .inl la1gx)), (la1y, .inl (E.2.1 1, 96, .inl la1gy)), (la0, .inr (3, [.ref la0m, .int (nI Pp_13), .int (nI n), .ref la0c, .ref la0f, .ref la0q])), (la0c, .inl (E.2.1 1, 24, .inl cf2_14)), (la0f, .inl (E.2.1 1, 24, .inl ff2_15)), (h, .inr (4, [.int (nI n), .int (nI r), .ref a, .ref b])), (a, .inl (E.2.1 1, 24, .inl f)), (b, .inl (E.2.1 1, 96, .inl gg)), (qj, .inr (2, [.ref jt, .ref je, .ref ju, .ref ja])), (ju, .inl (E.2.1 1, 32, .inl ft2_16))]) ?_ rfl rfl rfl
    refine ww_aload_n C dX2_whole_50 4 rfl rfl ?_
    refine ww_get C fg_X2_29 18 rfl rfl dX2_whole_51 ?_
    refine ww_iload C dX2_whole_54 2 rfl ?_
    refine ww_ald (v := (some la0)) (t0 := 5) C 0 rfl rfl (vin rfl) k_fa_0 dX2_whole_56 ?_
    refine ww_eq (st' := [.ref la0]) ?_ rfl rfl rfl
    refine ww_get C fg_X2_46 12 rfl rfl dX2_whole_57 ?_
    refine ww_bipush (v := 24) C dX2_whole_60 rfl ?_
    refine ww_icmp_gt (tgt := 69) C dX2_whole_62 (by decide) (fun c_23 => ?_) (fun c_23 => ?_)
    · have zc_23 : ((Pp_13 : Nat) : Int) > 24 := i_lt rfl (nI_toInt (n := Pp_13) (by omega)) c_23
      refine ww_iconst (v := 0) C dX2_whole_69 rfl ?_
      refine ww_istore (lv' := [(5, .int 0), (6, .ref e_8), (4, .int 0), (3, .ref h), (0, .ref qj), (1, .ref h), (2, .ref sa)]) C dX2_whole_70 rfl rfl ?_
      refine ww_iload C dX2_whole_72 0 rfl ?_
      refine ww_if_eq_t (tgt := 104) C dX2_whole_74 (by decide) (rfl) ?_
      refine ww_goto (tgt := 8) C dX2_whole_104 (by decide) ?_
      refine ww_iload C dX2_whole_8 2 rfl ?_
      refine ww_aload_n C dX2_whole_10 6 rfl rfl ?_
      refine ww_getR C hro fg_X2_35 i0 h0 rfl dX2_whole_11 ?_
      refine ww_icmp_ge (tgt := 107) C dX2_whole_14 (by decide) (fun c_24 => ?_) (fun c_24 => ?_)
      · have zc_24 : 0 ≥ ((na : Nat) : Int) := i_le (nI_toInt (n := na) (by omega)) rfl c_24
        omega
      · have zc_24 : 0 < ((na : Nat) : Int) := i_nle (nI_toInt (n := na) (by omega)) rfl c_24
        refine ww_iload C dX2_whole_17 0 rfl ?_
        refine ww_if_eq_t (tgt := 107) C dX2_whole_19 (by decide) (rfl) ?_
        refine ww_iload C dX2_whole_107 0 rfl ?_
        refine ww_if_eq_t (tgt := 121) C dX2_whole_109 (by decide) (rfl) ?_
        refine ww_aload_n C dX2_whole_121 3 rfl rfl ?_
        refine ww_ci (wr := [(ja, .inl (E.2.1 5, 2, .inr (.inr (.inr (.inr fa))))), (la0q, .inl (E.2.1 1, 4, .inl la0fq)), (la0m, .inr (4, [.int (nI la0n), .int (nI la0r), .ref la0x, .ref la0y])), (la0x, .inl (E.2.1 1, 24, .inl la0gx)), (la0y, .inl (E.2.1 1, 96, .inl la0gy)), (la1, .inr (3, [.ref la1m, .int la1p, .int la1w, .ref la1c, .ref la1f, .ref la1q])), (la1c, .inl (E.2.1 1, 24, .inl la1fc)), (la1f, .inl (E.2.1 1, 24, .inl la1ff)), (la1q, .inl (E.2.1 1, 4, .inl la1fq)), (la1m, .inr (4, [.int (nI la1n), .int (nI la1r), .ref la1x, .ref la1y])), (la1x, .inl (E.2.1 1, 24, .inl la1gx)), (la1y, .inl (E.2.1 1, 96, .inl la1gy)), (la0, .inr (3, [.ref la0m, .int (nI Pp_13), .int (nI n), .ref la0c, .ref la0f, .ref la0q])), (la0c, .inl (E.2.1 1, 24, .inl cf2_14)), (la0f, .inl (E.2.1 1, 24, .inl ff2_15)), (a, .inl (E.2.1 1, 24, .inl f)), (b, .inl (E.2.1 1, 96, .inl gg)), (qj, .inr (2, [.ref jt, .ref je, .ref ju, .ref ja])), (ju, .inl (E.2.1 1, 32, .inl ft2_16))]) (k' := 0) (n' := 0) C (run_V (As := []) (rest := []) C (m_all X.2.1 E ro h n r a b (by omega)) mi_X4_all wl_X2_61 rfl 0 4 rfl rfl rfl rfl rfl dX2_whole_122) (roK hro) [15] [0, 1, 2, 3, 4, 5, 6, 7, 8, 9, 10, 11, 12, 13, 14, 16, 17, 18, 19] rfl rfl rfl rfl (fun r_25 uz hw => ?_)
        refine an1 hw ?_
        clear hw
        intro he_27 hw
        have h_26 := hw
        clear hw
        subst he_27
        refine ww_eq (ws' := [(ja, .inl (E.2.1 5, 2, .inr (.inr (.inr (.inr fa))))), (la0q, .inl (E.2.1 1, 4, .inl la0fq)), (la0m, .inr (4, [.int (nI la0n), .int (nI la0r), .ref la0x, .ref la0y])), (la0x, .inl (E.2.1 1, 24, .inl la0gx)), (la0y, .inl (E.2.1 1, 96, .inl la0gy)), (la1, .inr (3, [.ref la1m, .int la1p, .int la1w, .ref la1c, .ref la1f, .ref la1q])), (la1c, .inl (E.2.1 1, 24, .inl la1fc)), (la1f, .inl (E.2.1 1, 24, .inl la1ff)), (la1q, .inl (E.2.1 1, 4, .inl la1fq)), (la1m, .inr (4, [.int (nI la1n), .int (nI la1r), .ref la1x, .ref la1y])), (la1x, .inl (E.2.1 1, 24, .inl la1gx)), (la1y, .inl (E.2.1 1, 96, .inl la1gy)), (la0, .inr (3, [.ref la0m, .int (nI Pp_13), .int (nI n), .ref la0c, .ref la0f, .ref la0q])), (la0c, .inl (E.2.1 1, 24, .inl cf2_14)), (la0f, .inl (E.2.1 1, 24, .inl ff2_15)), (a, .inl (E.2.1 1, 24, .inl f)), (b, .inl (E.2.1 1, 96, .inl gg)), (qj, .inr (2, [.ref jt, .ref je, .ref ju, .ref ja])), (ju, .inl (E.2.1 1, 32, .inl ft2_16)), (h, .inr (4, [.int (nI n), .int (nI r), .ref a, .ref b]))]) ?_ rfl rfl rfl
        refine ww_istore (lv' := [(6, .int r_25), (5, .int 0), (4, .int 0), (3, .ref h), (0, .ref qj), (1, .ref h), (2, .ref sa)]) C dX2_whole_125 rfl rfl ?_
        refine ww_iload C dX2_whole_127 2 rfl ?_
        refine ww_iconst (v := 1) C dX2_whole_129 rfl ?_
        refine ww_isub (v := (-1)) C dX2_whole_130 (by decide) ?_
        refine ww_istore (lv' := [(7, .int (-1)), (6, .int r_25), (5, .int 0), (4, .int 0), (3, .ref h), (0, .ref qj), (1, .ref h), (2, .ref sa)]) C dX2_whole_131 rfl rfl ?_
        refine ww_iload C dX2_whole_133 0 rfl ?_
        refine ww_if_lt_t (tgt := 173) C dX2_whole_135 (by decide) (by decide) ?_
        refine ww_iload C dX2_whole_173 1 rfl ?_
        exact ww_iret (u := [(qj, .inr (2, [.ref jt, .ref je, .ref ju, .ref ja])), (ju, .inl (E.2.1 1, 32, .inl ft2_16)), (ja, .inl (E.2.1 5, 2, .inr (.inr (.inr (.inr fa))))), (la0, .inr (3, [.ref la0m, .int (nI Pp_13), .int (nI n), .ref la0c, .ref la0f, .ref la0q])), (la0c, .inl (E.2.1 1, 24, .inl cf2_14)), (la0f, .inl (E.2.1 1, 24, .inl ff2_15)), (la0q, .inl (E.2.1 1, 4, .inl la0fq)), (la0m, .inr (4, [.int (nI la0n), .int (nI la0r), .ref la0x, .ref la0y])), (la0x, .inl (E.2.1 1, 24, .inl la0gx)), (la0y, .inl (E.2.1 1, 96, .inl la0gy)), (la1, .inr (3, [.ref la1m, .int la1p, .int la1w, .ref la1c, .ref la1f, .ref la1q])), (la1c, .inl (E.2.1 1, 24, .inl la1fc)), (la1f, .inl (E.2.1 1, 24, .inl la1ff)), (la1q, .inl (E.2.1 1, 4, .inl la1fq)), (la1m, .inr (4, [.int (nI la1n), .int (nI la1r), .ref la1x, .ref la1y])), (la1x, .inl (E.2.1 1, 24, .inl la1gx)), (la1y, .inl (E.2.1 1, 96, .inl la1gy)), (h, .inr (4, [.int (nI n), .int (nI r), .ref a, .ref b])), (a, .inl (E.2.1 1, 24, .inl f)), (b, .inl (E.2.1 1, 96, .inl gg))]) C hT [17, 18, 0, 12, 13, 14, 1, 2, 3, 4, 5, 6, 7, 8, 9, 10, 11, 19, 15, 16] rfl rfl rfl rfl dX2_whole_175 (⟨ft2_16, (nI Pp_13), (nI n), la0n, la0r, cf2_14, ff2_15, la0fq, la0gx, la0gy, la1p, la1w, la1n, la1r, la1fc, la1ff, la1fq, la1gx, la1gy, rfl, (by first | assumption | omega | decide), (by first | assumption | omega | decide), (by first | assumption | omega | decide), (by first | assumption | omega | decide), (w_n (S := (nn, so, sr, sf, tk, dp, nm, na)) (ev := (ev6 vc vr vi vs vn vp)) (show na ≠ 0 by omega) (cN_of ej_7 (by omega)) (show ¬ lyC (am n r f gg) ((ev6 vc vr vi vs vn vp) j_7) ≤ 24 from (show Pp_13 = lyC (am n r f gg) ((ev6 vc vr vi vs vn vp) j_7) from h_21) ▸ (show ¬ Pp_13 ≤ 24 by omega)) (show BS _ (vAll (am n r f gg)) from h_26))⟩)
    · have zc_23 : ((Pp_13 : Nat) : Int) ≤ 24 := i_nlt rfl (nI_toInt (n := Pp_13) (by omega)) c_23
      refine ww_iconst (v := 1) C dX2_whole_65 rfl ?_
      refine ww_goto (tgt := 70) C dX2_whole_66 (by decide) ?_
      refine ww_istore (lv' := [(5, .int 1), (6, .ref e_8), (4, .int 0), (3, .ref h), (0, .ref qj), (1, .ref h), (2, .ref sa)]) C dX2_whole_70 rfl rfl ?_
      refine ww_iload C dX2_whole_72 0 rfl ?_
      refine ww_if_eq_f (tgt := 104) C dX2_whole_74 (by decide) (by decide) ?_
      refine ww_aload_n C dX2_whole_77 4 rfl rfl ?_
      refine ww_get C fg_X2_29 18 rfl rfl dX2_whole_78 ?_
      refine ww_iload C dX2_whole_81 2 rfl ?_
      refine ww_ald (v := (some la0)) (t0 := 5) C 0 rfl rfl (vin rfl) k_fa_0 dX2_whole_83 ?_
      refine ww_eq (st' := [.ref la0]) ?_ rfl rfl rfl
      refine ww_aload_n C dX2_whole_84 3 rfl rfl ?_
      refine ww_aload C dX2_whole_85 1 rfl ?_
      refine ww_cv (wr := [(ja, .inl (E.2.1 5, 2, .inr (.inr (.inr (.inr fa))))), (la1, .inr (3, [.ref la1m, .int la1p, .int la1w, .ref la1c, .ref la1f, .ref la1q])), (la1c, .inl (E.2.1 1, 24, .inl la1fc)), (la1f, .inl (E.2.1 1, 24, .inl la1ff)), (la1q, .inl (E.2.1 1, 4, .inl la1fq)), (la1m, .inr (4, [.int (nI la1n), .int (nI la1r), .ref la1x, .ref la1y])), (la1x, .inl (E.2.1 1, 24, .inl la1gx)), (la1y, .inl (E.2.1 1, 96, .inl la1gy)), (qj, .inr (2, [.ref jt, .ref je, .ref ju, .ref ja])), (ju, .inl (E.2.1 1, 32, .inl ft2_16))]) (k' := 0) (n' := 0) C (run_V (As := [.ref h, .ref e_8]) (rest := []) C (l_build X.2.1 E ro la0 h e_8 la0m Pp_13 n la0c la0f la0q cf2_14 ff2_15 la0fq la0n la0r la0x la0y la0gx la0gy r a b f gg (vc j_7) (vr j_7) (vi j_7) (vs j_7) (vn j_7) (vp j_7) (by omega) (by omega) hev_10 h_17 (by omega) h_19 h_20) mi_X3_build wl_X2_49 rfl 0 3 rfl rfl rfl rfl rfl dX2_whole_87) (roK hro) [12, 13, 14, 1, 2, 3, 4, 15, 16, 17] [0, 5, 6, 7, 8, 9, 10, 11, 18, 19] rfl rfl rfl rfl (fun uz hw => ?_)
      refine ex5 hw ?_
      clear hw
      intro bn2_29 br2_30 fq2_31 bf2_32 bg2_33 hw
      refine an4 hw ?_
      clear hw
      intro he_38 h_34 h_35 h_36 hw
      have h_37 := hw
      clear hw
      subst he_38
      refine ww_eq (ws' := [(ja, .inl (E.2.1 5, 2, .inr (.inr (.inr (.inr fa))))), (la1, .inr (3, [.ref la1m, .int la1p, .int la1w, .ref la1c, .ref la1f, .ref la1q])), (la1c, .inl (E.2.1 1, 24, .inl la1fc)), (la1f, .inl (E.2.1 1, 24, .inl la1ff)), (la1q, .inl (E.2.1 1, 4, .inl la1fq)), (la1m, .inr (4, [.int (nI la1n), .int (nI la1r), .ref la1x, .ref la1y])), (la1x, .inl (E.2.1 1, 24, .inl la1gx)), (la1y, .inl (E.2.1 1, 96, .inl la1gy)), (qj, .inr (2, [.ref jt, .ref je, .ref ju, .ref ja])), (ju, .inl (E.2.1 1, 32, .inl ft2_16)), (la0, .inr (3, [.ref la0m, .int (nI Pp_13), .int (nI n), .ref la0c, .ref la0f, .ref la0q])), (la0c, .inl (E.2.1 1, 24, .inl cf2_14)), (la0f, .inl (E.2.1 1, 24, .inl ff2_15)), (la0q, .inl (E.2.1 1, 4, .inl fq2_31)), (la0m, .inr (4, [.int (nI bn2_29), .int (nI br2_30), .ref la0x, .ref la0y])), (la0x, .inl (E.2.1 1, 24, .inl bf2_32)), (la0y, .inl (E.2.1 1, 96, .inl bg2_33)), (h, .inr (4, [.int (nI n), .int (nI r), .ref a, .ref b])), (a, .inl (E.2.1 1, 24, .inl f)), (b, .inl (E.2.1 1, 96, .inl gg))]) ?_ rfl rfl rfl
      refine ww_aload_n C dX2_whole_90 4 rfl rfl ?_
      refine ww_get C fg_X2_29 8 rfl rfl dX2_whole_91 ?_
      refine ww_iload C dX2_whole_94 2 rfl ?_
      refine ww_ald (v := (some la0)) (t0 := 5) C 0 rfl rfl (vin rfl) k_fa_0 dX2_whole_96 ?_
      refine ww_eq (st' := [.ref la0]) ?_ rfl rfl rfl
      refine ww_get C fg_X2_53 10 rfl rfl dX2_whole_97 ?_
      refine ww_astore_n (lv' := [(3, .ref la0m), (5, .int 1), (6, .ref e_8), (4, .int 0), (0, .ref qj), (1, .ref h), (2, .ref sa)]) C dX2_whole_100 rfl rfl rfl ?_
      refine ww_iinc (j := 3) (v := 1) (lv' := [(4, .int 1), (3, .ref la0m), (5, .int 1), (6, .ref e_8), (0, .ref qj), (1, .ref h), (2, .ref sa)]) C dX2_whole_101 rfl rfl rfl rfl ?_
      refine ww_goto (tgt := 8) C dX2_whole_104 (by decide) ?_
      refine ww_iload C dX2_whole_8 0 rfl ?_
      refine ww_aload_n C dX2_whole_10 6 rfl rfl ?_
      refine ww_getR C hro fg_X2_35 i0 h0 rfl dX2_whole_11 ?_
      refine ww_icmp_ge (tgt := 107) C dX2_whole_14 (by decide) (fun c_39 => ?_) (fun c_39 => ?_)
      · have zc_39 : 1 ≥ ((na : Nat) : Int) := i_le (nI_toInt (n := na) (by omega)) rfl c_39
        refine ww_iload C dX2_whole_107 2 rfl ?_
        refine ww_if_eq_f (tgt := 121) C dX2_whole_109 (by decide) (by decide) ?_
        refine ww_aload_n C dX2_whole_112 4 rfl rfl ?_
        refine ww_aload_n C dX2_whole_113 1 rfl rfl ?_
        refine ww_aload_n C dX2_whole_114 6 rfl rfl ?_
        refine ww_ci (wr := [(ja, .inl (E.2.1 5, 2, .inr (.inr (.inr (.inr fa))))), (la1, .inr (3, [.ref la1m, .int la1p, .int la1w, .ref la1c, .ref la1f, .ref la1q])), (la1c, .inl (E.2.1 1, 24, .inl la1fc)), (la1f, .inl (E.2.1 1, 24, .inl la1ff)), (la1q, .inl (E.2.1 1, 4, .inl la1fq)), (la1m, .inr (4, [.int (nI la1n), .int (nI la1r), .ref la1x, .ref la1y])), (la1x, .inl (E.2.1 1, 24, .inl la1gx)), (la1y, .inl (E.2.1 1, 96, .inl la1gy)), (la0, .inr (3, [.ref la0m, .int (nI Pp_13), .int (nI n), .ref la0c, .ref la0f, .ref la0q])), (la0c, .inl (E.2.1 1, 24, .inl cf2_14)), (la0f, .inl (E.2.1 1, 24, .inl ff2_15)), (la0q, .inl (E.2.1 1, 4, .inl fq2_31)), (h, .inr (4, [.int (nI n), .int (nI r), .ref a, .ref b])), (a, .inl (E.2.1 1, 24, .inl f)), (b, .inl (E.2.1 1, 96, .inl gg))]) (k' := 0) (n' := 0) C (run_V (As := [.ref la0m, .ref sa]) (rest := []) C (j_plain X.2.1 E ro qj la0m sa jt je ju ja ft2_16 bn2_29 br2_30 la0x la0y bf2_32 bg2_33 (nn, so, sr, sf, tk, dp, nm, na) (by omega) (by omega) hsa (by rw [h_37]; exact cmp_wf)) mi_X2_plain wl_X2_57 rfl 0 2 rfl rfl rfl rfl rfl dX2_whole_115) (roK hro) [8, 9, 14, 15, 16] [0, 1, 2, 3, 4, 5, 6, 7, 10, 11, 12, 13, 17, 18, 19] rfl rfl rfl rfl (fun r_40 uz hw => ?_)
        refine ex1 hw ?_
        clear hw
        intro ft2_41 hw
        refine an1 hw ?_
        clear hw
        intro he_43 hw
        have h_42 := hw
        clear hw
        subst he_43
        refine ww_eq (ws' := [(ja, .inl (E.2.1 5, 2, .inr (.inr (.inr (.inr fa))))), (la1, .inr (3, [.ref la1m, .int la1p, .int la1w, .ref la1c, .ref la1f, .ref la1q])), (la1c, .inl (E.2.1 1, 24, .inl la1fc)), (la1f, .inl (E.2.1 1, 24, .inl la1ff)), (la1q, .inl (E.2.1 1, 4, .inl la1fq)), (la1m, .inr (4, [.int (nI la1n), .int (nI la1r), .ref la1x, .ref la1y])), (la1x, .inl (E.2.1 1, 24, .inl la1gx)), (la1y, .inl (E.2.1 1, 96, .inl la1gy)), (la0, .inr (3, [.ref la0m, .int (nI Pp_13), .int (nI n), .ref la0c, .ref la0f, .ref la0q])), (la0c, .inl (E.2.1 1, 24, .inl cf2_14)), (la0f, .inl (E.2.1 1, 24, .inl ff2_15)), (la0q, .inl (E.2.1 1, 4, .inl fq2_31)), (h, .inr (4, [.int (nI n), .int (nI r), .ref a, .ref b])), (a, .inl (E.2.1 1, 24, .inl f)), (b, .inl (E.2.1 1, 96, .inl gg)), (qj, .inr (2, [.ref jt, .ref je, .ref ju, .ref ja])), (ju, .inl (E.2.1 1, 32, .inl ft2_41)), (la0m, .inr (4, [.int (nI bn2_29), .int (nI br2_30), .ref la0x, .ref la0y])), (la0x, .inl (E.2.1 1, 24, .inl bf2_32)), (la0y, .inl (E.2.1 1, 96, .inl bg2_33))]) ?_ rfl rfl rfl
        refine ww_goto (tgt := 125) C dX2_whole_118 (by decide) ?_
        refine ww_istore (lv' := [(6, .int r_40), (4, .int 1), (3, .ref la0m), (5, .int 1), (0, .ref qj), (1, .ref h), (2, .ref sa)]) C dX2_whole_125 rfl rfl ?_
        refine ww_iload C dX2_whole_127 1 rfl ?_
        refine ww_iconst (v := 1) C dX2_whole_129 rfl ?_
        refine ww_isub (v := 0) C dX2_whole_130 (by decide) ?_
        refine ww_istore (lv' := [(7, .int 0), (6, .int r_40), (4, .int 1), (3, .ref la0m), (5, .int 1), (0, .ref qj), (1, .ref h), (2, .ref sa)]) C dX2_whole_131 rfl rfl ?_
        refine ww_iload C dX2_whole_133 0 rfl ?_
        refine ww_if_lt_f (tgt := 173) C dX2_whole_135 (by decide) (by decide) ?_
        refine ww_aload_n C dX2_whole_138 5 rfl rfl ?_
        refine ww_get C fg_X2_29 15 rfl rfl dX2_whole_139 ?_
        refine ww_iload C dX2_whole_142 0 rfl ?_
        refine ww_ald (v := (some la0)) (t0 := 5) C 0 rfl rfl (vin rfl) k_fa_0 dX2_whole_144 ?_
        refine ww_eq (st' := [.ref la0]) ?_ rfl rfl rfl
        refine ww_iload C dX2_whole_145 1 rfl ?_
        refine ww_aload_n C dX2_whole_147 5 rfl rfl ?_
        refine ww_get C fg_X2_19 15 rfl rfl dX2_whole_148 ?_
        refine ww_aload_n C dX2_whole_151 7 rfl rfl ?_
        refine ww_getR C hro fg_X2_39 i0 h0 rfl dX2_whole_152 ?_
        refine ww_iload C dX2_whole_155 0 rfl ?_
        refine ww_ialdR (v := (nI j_7)) C hro i3 h3 (vin rfl) ej_7 dX2_whole_157 ?_
        obtain ⟨e_44, he_45, hev_46⟩ := hall_ j_7 (by omega)
        refine ww_aldR (v := (some e_44)) (t0 := 4) C hro jei_ hje_ rfl (vp_in_nI (by omega) (by omega)) (ldn (by omega) he_45) dX2_whole_158 ?_
        obtain ⟨i0y_47, i1y_47, i2y_47, i3y_47, i4y_47, cay_47, cby_47, ccy_47, cdy_47, fiy_47, g0y_47, g1y_47, g2y_47, g3y_47, g4y_47, hcsy_47, hrcy_47, hfiy_47⟩ := id hev_46
        refine ww_eq (st' := [.ref e_44, .int r_40, .ref la0]) ?_ rfl rfl rfl
        refine ww_getR C hro fg_X2_67 i0y_47 g0y_47 rfl dX2_whole_159 ?_
        refine ww_ci (wr := [(ja, .inl (E.2.1 5, 2, .inr (.inr (.inr (.inr fa))))), (la1, .inr (3, [.ref la1m, .int la1p, .int la1w, .ref la1c, .ref la1f, .ref la1q])), (la1c, .inl (E.2.1 1, 24, .inl la1fc)), (la1f, .inl (E.2.1 1, 24, .inl la1ff)), (la1q, .inl (E.2.1 1, 4, .inl la1fq)), (la1m, .inr (4, [.int (nI la1n), .int (nI la1r), .ref la1x, .ref la1y])), (la1x, .inl (E.2.1 1, 24, .inl la1gx)), (la1y, .inl (E.2.1 1, 96, .inl la1gy)), (la0q, .inl (E.2.1 1, 4, .inl fq2_31)), (h, .inr (4, [.int (nI n), .int (nI r), .ref a, .ref b])), (a, .inl (E.2.1 1, 24, .inl f)), (b, .inl (E.2.1 1, 96, .inl gg)), (qj, .inr (2, [.ref jt, .ref je, .ref ju, .ref ja])), (ju, .inl (E.2.1 1, 32, .inl ft2_41)), (la0m, .inr (4, [.int (nI bn2_29), .int (nI br2_30), .ref la0x, .ref la0y])), (la0x, .inl (E.2.1 1, 24, .inl bf2_32)), (la0y, .inl (E.2.1 1, 96, .inl bg2_33))]) (k' := 0) (n' := 0) C (run_V (As := [.int r_40, .int (nI (vr j_7))]) (rest := []) C (l_comingTo X.2.1 E ro la0 r_40 (vr j_7) la0m Pp_13 n la0c la0f la0q cf2_14 ff2_15 (lyP (am n r f gg) ((vc j_7), (vr j_7), (vi j_7), (vs j_7), (vn j_7), (vp j_7))) (by omega) (by omega) h_17 h_20 (by omega)) mi_X3_comingTo wl_X2_70 rfl 0 3 rfl rfl rfl rfl rfl dX2_whole_162) (roK hro) [8, 9, 10] [0, 1, 2, 3, 4, 5, 6, 7, 11, 12, 13, 14, 15, 16, 17, 18, 19] rfl rfl rfl rfl (fun r_48 uz hw => ?_)
        refine an1 hw ?_
        clear hw
        intro he_50 hw
        have h_49 := hw
        clear hw
        subst he_50
        refine ww_eq (ws' := [(ja, .inl (E.2.1 5, 2, .inr (.inr (.inr (.inr fa))))), (la1, .inr (3, [.ref la1m, .int la1p, .int la1w, .ref la1c, .ref la1f, .ref la1q])), (la1c, .inl (E.2.1 1, 24, .inl la1fc)), (la1f, .inl (E.2.1 1, 24, .inl la1ff)), (la1q, .inl (E.2.1 1, 4, .inl la1fq)), (la1m, .inr (4, [.int (nI la1n), .int (nI la1r), .ref la1x, .ref la1y])), (la1x, .inl (E.2.1 1, 24, .inl la1gx)), (la1y, .inl (E.2.1 1, 96, .inl la1gy)), (la0q, .inl (E.2.1 1, 4, .inl fq2_31)), (h, .inr (4, [.int (nI n), .int (nI r), .ref a, .ref b])), (a, .inl (E.2.1 1, 24, .inl f)), (b, .inl (E.2.1 1, 96, .inl gg)), (qj, .inr (2, [.ref jt, .ref je, .ref ju, .ref ja])), (ju, .inl (E.2.1 1, 32, .inl ft2_41)), (la0m, .inr (4, [.int (nI bn2_29), .int (nI br2_30), .ref la0x, .ref la0y])), (la0x, .inl (E.2.1 1, 24, .inl bf2_32)), (la0y, .inl (E.2.1 1, 96, .inl bg2_33)), (la0, .inr (3, [.ref la0m, .int (nI Pp_13), .int (nI n), .ref la0c, .ref la0f, .ref la0q])), (la0c, .inl (E.2.1 1, 24, .inl cf2_14)), (la0f, .inl (E.2.1 1, 24, .inl ff2_15))]) ?_ rfl rfl rfl
        refine ww_istore (lv' := [(6, .int r_48), (7, .int 0), (4, .int 1), (3, .ref la0m), (5, .int 1), (0, .ref qj), (1, .ref h), (2, .ref sa)]) C dX2_whole_165 rfl rfl ?_
        refine ww_iinc (j := 1) (v := (-1)) (lv' := [(7, .int (-1)), (6, .int r_48), (4, .int 1), (3, .ref la0m), (5, .int 1), (0, .ref qj), (1, .ref h), (2, .ref sa)]) C dX2_whole_167 rfl rfl rfl rfl ?_
        refine ww_goto (tgt := 133) C dX2_whole_170 (by decide) ?_
        refine ww_iload C dX2_whole_133 0 rfl ?_
        refine ww_if_lt_t (tgt := 173) C dX2_whole_135 (by decide) (by decide) ?_
        refine ww_iload C dX2_whole_173 1 rfl ?_
        exact ww_iret (u := [(qj, .inr (2, [.ref jt, .ref je, .ref ju, .ref ja])), (ju, .inl (E.2.1 1, 32, .inl ft2_41)), (ja, .inl (E.2.1 5, 2, .inr (.inr (.inr (.inr fa))))), (la0, .inr (3, [.ref la0m, .int (nI Pp_13), .int (nI n), .ref la0c, .ref la0f, .ref la0q])), (la0c, .inl (E.2.1 1, 24, .inl cf2_14)), (la0f, .inl (E.2.1 1, 24, .inl ff2_15)), (la0q, .inl (E.2.1 1, 4, .inl fq2_31)), (la0m, .inr (4, [.int (nI bn2_29), .int (nI br2_30), .ref la0x, .ref la0y])), (la0x, .inl (E.2.1 1, 24, .inl bf2_32)), (la0y, .inl (E.2.1 1, 96, .inl bg2_33)), (la1, .inr (3, [.ref la1m, .int la1p, .int la1w, .ref la1c, .ref la1f, .ref la1q])), (la1c, .inl (E.2.1 1, 24, .inl la1fc)), (la1f, .inl (E.2.1 1, 24, .inl la1ff)), (la1q, .inl (E.2.1 1, 4, .inl la1fq)), (la1m, .inr (4, [.int (nI la1n), .int (nI la1r), .ref la1x, .ref la1y])), (la1x, .inl (E.2.1 1, 24, .inl la1gx)), (la1y, .inl (E.2.1 1, 96, .inl la1gy)), (h, .inr (4, [.int (nI n), .int (nI r), .ref a, .ref b])), (a, .inl (E.2.1 1, 24, .inl f)), (b, .inl (E.2.1 1, 96, .inl gg))]) C hT [12, 13, 0, 17, 18, 19, 8, 14, 15, 16, 1, 2, 3, 4, 5, 6, 7, 9, 10, 11] rfl rfl rfl rfl dX2_whole_175 (⟨ft2_41, (nI Pp_13), (nI n), bn2_29, br2_30, cf2_14, ff2_15, fq2_31, bf2_32, bg2_33, la1p, la1w, la1n, la1r, la1fc, la1ff, la1fq, la1gx, la1gy, rfl, (by first | assumption | omega | decide), (by first | assumption | omega | decide), (by first | assumption | omega | decide), (by first | assumption | omega | decide), (w_1 (S := (nn, so, sr, sf, tk, dp, nm, na)) (ev := (ev6 vc vr vi vs vn vp)) (show na = 1 by omega) (cN_of ej_7 (by omega)) (show lyC (am n r f gg) ((ev6 vc vr vi vs vn vp) j_7) ≤ 24 from (show Pp_13 = lyC (am n r f gg) ((ev6 vc vr vi vs vn vp) j_7) from h_21) ▸ (show Pp_13 ≤ 24 by omega)) (show vr j_7 < 4 by have h9 := hrcy_47; omega) ((show (am bn2_29 br2_30 bf2_32 bg2_33) = aLay (am n r f gg) ((ev6 vc vr vi vs vn vp) j_7) from h_37) ▸ h_42) h_49)⟩)
      · have zc_39 : 1 < ((na : Nat) : Int) := i_nle (nI_toInt (n := na) (by omega)) rfl c_39
        refine ww_iload C dX2_whole_17 2 rfl ?_
        refine ww_if_eq_f (tgt := 107) C dX2_whole_19 (by decide) (by decide) ?_
        refine ww_aload_n C dX2_whole_22 4 rfl rfl ?_
        refine ww_get C fg_X2_19 8 rfl rfl dX2_whole_23 ?_
        refine ww_aload_n C dX2_whole_26 6 rfl rfl ?_
        refine ww_getR C hro fg_X2_39 i0 h0 rfl dX2_whole_27 ?_
        refine ww_iload C dX2_whole_30 0 rfl ?_
        obtain ⟨j_52, hj_52, ej_52⟩ := haf 1 (by omega)
        refine ww_ialdR (v := (nI j_52)) C hro i3 h3 (vin rfl) ej_52 dX2_whole_32 ?_
        obtain ⟨e_53, he_54, hev_55⟩ := hall_ j_52 (by omega)
        refine ww_aldR (v := (some e_53)) (t0 := 4) C hro jei_ hje_ rfl (vp_in_nI (by omega) (by omega)) (ldn (by omega) he_54) dX2_whole_33 ?_
        obtain ⟨i0y_56, i1y_56, i2y_56, i3y_56, i4y_56, cay_56, cby_56, ccy_56, cdy_56, fiy_56, g0y_56, g1y_56, g2y_56, g3y_56, g4y_56, hcsy_56, hrcy_56, hfiy_56⟩ := id hev_55
        refine ww_eq (st' := [.ref e_53]) ?_ rfl rfl rfl
        refine ww_astore (lv' := [(6, .ref e_53), (4, .int 1), (3, .ref la0m), (5, .int 1), (0, .ref qj), (1, .ref h), (2, .ref sa)]) C dX2_whole_34 rfl rfl ?_
        refine ww_aload_n C dX2_whole_36 4 rfl rfl ?_
        refine ww_get C fg_X2_29 8 rfl rfl dX2_whole_37 ?_
        refine ww_iload C dX2_whole_40 1 rfl ?_
        refine ww_ald (v := (some la1)) (t0 := 5) C 0 rfl rfl (vin rfl) k_fa_1 dX2_whole_42 ?_
        refine ww_eq (st' := [.ref la1]) ?_ rfl rfl rfl
        refine ww_aload_n C dX2_whole_43 2 rfl rfl ?_
        refine ww_aload C dX2_whole_44 0 rfl ?_
        refine ww_aload_n C dX2_whole_46 4 rfl rfl ?_
        refine ww_cv (wr := [(ja, .inl (E.2.1 5, 2, .inr (.inr (.inr (.inr fa))))), (la1q, .inl (E.2.1 1, 4, .inl la1fq)), (la1m, .inr (4, [.int (nI la1n), .int (nI la1r), .ref la1x, .ref la1y])), (la1x, .inl (E.2.1 1, 24, .inl la1gx)), (la1y, .inl (E.2.1 1, 96, .inl la1gy)), (la0, .inr (3, [.ref la0m, .int (nI Pp_13), .int (nI n), .ref la0c, .ref la0f, .ref la0q])), (la0c, .inl (E.2.1 1, 24, .inl cf2_14)), (la0f, .inl (E.2.1 1, 24, .inl ff2_15)), (la0q, .inl (E.2.1 1, 4, .inl fq2_31)), (h, .inr (4, [.int (nI n), .int (nI r), .ref a, .ref b])), (a, .inl (E.2.1 1, 24, .inl f)), (b, .inl (E.2.1 1, 96, .inl gg))]) (k' := 0) (n' := 0) C (run_V (As := [.ref la0m, .ref e_53, .ref qj]) (rest := []) C (l_measure X.2.1 E ro la1 la0m e_53 qj la1m la1p la1w la1c la1f la1q la1fc la1ff bn2_29 br2_30 la0x la0y bf2_32 bg2_33 jt je ju ja ft2_16 (vc j_52) (vr j_52) (vi j_52) (vs j_52) (vn j_52) (vp j_52) (by omega) (by omega) hev_55 (by rw [h_37]; exact cmp_wf)) mi_X3_measure wl_X2_42 rfl 0 3 rfl rfl rfl rfl rfl dX2_whole_47) (roK hro) [1, 2, 3, 14, 15, 16, 8, 9] [0, 4, 5, 6, 7, 10, 11, 12, 13, 17, 18, 19] rfl rfl rfl rfl (fun uz hw => ?_)
        refine ex4 hw ?_
        clear hw
        intro Pp_58 cf2_59 ff2_60 ft2_61 hw
        refine an5 hw ?_
        clear hw
        intro he_67 h_62 h_63 h_64 h_65 hw
        have h_66 := hw
        clear hw
        subst he_67
        refine ww_eq (ws' := [(ja, .inl (E.2.1 5, 2, .inr (.inr (.inr (.inr fa))))), (la1q, .inl (E.2.1 1, 4, .inl la1fq)), (la1m, .inr (4, [.int (nI la1n), .int (nI la1r), .ref la1x, .ref la1y])), (la1x, .inl (E.2.1 1, 24, .inl la1gx)), (la1y, .inl (E.2.1 1, 96, .inl la1gy)), (la0, .inr (3, [.ref la0m, .int (nI Pp_13), .int (nI n), .ref la0c, .ref la0f, .ref la0q])), (la0c, .inl (E.2.1 1, 24, .inl cf2_14)), (la0f, .inl (E.2.1 1, 24, .inl ff2_15)), (la0q, .inl (E.2.1 1, 4, .inl fq2_31)), (h, .inr (4, [.int (nI n), .int (nI r), .ref a, .ref b])), (a, .inl (E.2.1 1, 24, .inl f)), (b, .inl (E.2.1 1, 96, .inl gg)), (la1, .inr (3, [.ref la1m, .int (nI Pp_58), .int (nI bn2_29), .ref la1c, .ref la1f, .ref la1q])), (la1c, .inl (E.2.1 1, 24, .inl cf2_59)), (la1f, .inl (E.2.1 1, 24, .inl ff2_60)), (la0m, .inr (4, [.int (nI bn2_29), .int (nI br2_30), .ref la0x, .ref la0y])), (la0x, .inl (E.2.1 1, 24, .inl bf2_32)), (la0y, .inl (E.2.1 1, 96, .inl bg2_33)), (qj, .inr (2, [.ref jt, .ref je, .ref ju, .ref ja])), (ju, .inl (E.2.1 1, 32, .inl ft2_61))]) ?_ rfl rfl rfl
        refine ww_aload_n C dX2_whole_50 4 rfl rfl ?_
        refine ww_get C fg_X2_29 18 rfl rfl dX2_whole_51 ?_
        refine ww_iload C dX2_whole_54 1 rfl ?_
        refine ww_ald (v := (some la1)) (t0 := 5) C 0 rfl rfl (vin rfl) k_fa_1 dX2_whole_56 ?_
        refine ww_eq (st' := [.ref la1]) ?_ rfl rfl rfl
        refine ww_get C fg_X2_46 12 rfl rfl dX2_whole_57 ?_
        refine ww_bipush (v := 24) C dX2_whole_60 rfl ?_
        refine ww_icmp_gt (tgt := 69) C dX2_whole_62 (by decide) (fun c_68 => ?_) (fun c_68 => ?_)
        · have zc_68 : ((Pp_58 : Nat) : Int) > 24 := i_lt rfl (nI_toInt (n := Pp_58) (by omega)) c_68
          refine ww_iconst (v := 0) C dX2_whole_69 rfl ?_
          refine ww_istore (lv' := [(5, .int 0), (6, .ref e_53), (4, .int 1), (3, .ref la0m), (0, .ref qj), (1, .ref h), (2, .ref sa)]) C dX2_whole_70 rfl rfl ?_
          refine ww_iload C dX2_whole_72 0 rfl ?_
          refine ww_if_eq_t (tgt := 104) C dX2_whole_74 (by decide) (rfl) ?_
          refine ww_goto (tgt := 8) C dX2_whole_104 (by decide) ?_
          refine ww_iload C dX2_whole_8 2 rfl ?_
          refine ww_aload_n C dX2_whole_10 6 rfl rfl ?_
          refine ww_getR C hro fg_X2_35 i0 h0 rfl dX2_whole_11 ?_
          refine ww_icmp_ge (tgt := 107) C dX2_whole_14 (by decide) (fun c_69 => ?_) (fun c_69 => ?_)
          · have zc_69 : 1 ≥ ((na : Nat) : Int) := i_le (nI_toInt (n := na) (by omega)) rfl c_69
            omega
          · have zc_69 : 1 < ((na : Nat) : Int) := i_nle (nI_toInt (n := na) (by omega)) rfl c_69
            refine ww_iload C dX2_whole_17 0 rfl ?_
            refine ww_if_eq_t (tgt := 107) C dX2_whole_19 (by decide) (rfl) ?_
            refine ww_iload C dX2_whole_107 0 rfl ?_
            refine ww_if_eq_t (tgt := 121) C dX2_whole_109 (by decide) (rfl) ?_
            refine ww_aload_n C dX2_whole_121 3 rfl rfl ?_
            refine ww_ci (wr := [(ja, .inl (E.2.1 5, 2, .inr (.inr (.inr (.inr fa))))), (la1q, .inl (E.2.1 1, 4, .inl la1fq)), (la1m, .inr (4, [.int (nI la1n), .int (nI la1r), .ref la1x, .ref la1y])), (la1x, .inl (E.2.1 1, 24, .inl la1gx)), (la1y, .inl (E.2.1 1, 96, .inl la1gy)), (la0, .inr (3, [.ref la0m, .int (nI Pp_13), .int (nI n), .ref la0c, .ref la0f, .ref la0q])), (la0c, .inl (E.2.1 1, 24, .inl cf2_14)), (la0f, .inl (E.2.1 1, 24, .inl ff2_15)), (la0q, .inl (E.2.1 1, 4, .inl fq2_31)), (h, .inr (4, [.int (nI n), .int (nI r), .ref a, .ref b])), (a, .inl (E.2.1 1, 24, .inl f)), (b, .inl (E.2.1 1, 96, .inl gg)), (la1, .inr (3, [.ref la1m, .int (nI Pp_58), .int (nI bn2_29), .ref la1c, .ref la1f, .ref la1q])), (la1c, .inl (E.2.1 1, 24, .inl cf2_59)), (la1f, .inl (E.2.1 1, 24, .inl ff2_60)), (la0x, .inl (E.2.1 1, 24, .inl bf2_32)), (la0y, .inl (E.2.1 1, 96, .inl bg2_33)), (qj, .inr (2, [.ref jt, .ref je, .ref ju, .ref ja])), (ju, .inl (E.2.1 1, 32, .inl ft2_61))]) (k' := 0) (n' := 0) C (run_V (As := []) (rest := []) C (m_all X.2.1 E ro la0m bn2_29 br2_30 la0x la0y (by omega)) mi_X4_all wl_X2_61 rfl 0 4 rfl rfl rfl rfl rfl dX2_whole_122) (roK hro) [15] [0, 1, 2, 3, 4, 5, 6, 7, 8, 9, 10, 11, 12, 13, 14, 16, 17, 18, 19] rfl rfl rfl rfl (fun r_70 uz hw => ?_)
            refine an1 hw ?_
            clear hw
            intro he_72 hw
            have h_71 := hw
            clear hw
            subst he_72
            refine ww_eq (ws' := [(ja, .inl (E.2.1 5, 2, .inr (.inr (.inr (.inr fa))))), (la1q, .inl (E.2.1 1, 4, .inl la1fq)), (la1m, .inr (4, [.int (nI la1n), .int (nI la1r), .ref la1x, .ref la1y])), (la1x, .inl (E.2.1 1, 24, .inl la1gx)), (la1y, .inl (E.2.1 1, 96, .inl la1gy)), (la0, .inr (3, [.ref la0m, .int (nI Pp_13), .int (nI n), .ref la0c, .ref la0f, .ref la0q])), (la0c, .inl (E.2.1 1, 24, .inl cf2_14)), (la0f, .inl (E.2.1 1, 24, .inl ff2_15)), (la0q, .inl (E.2.1 1, 4, .inl fq2_31)), (h, .inr (4, [.int (nI n), .int (nI r), .ref a, .ref b])), (a, .inl (E.2.1 1, 24, .inl f)), (b, .inl (E.2.1 1, 96, .inl gg)), (la1, .inr (3, [.ref la1m, .int (nI Pp_58), .int (nI bn2_29), .ref la1c, .ref la1f, .ref la1q])), (la1c, .inl (E.2.1 1, 24, .inl cf2_59)), (la1f, .inl (E.2.1 1, 24, .inl ff2_60)), (la0x, .inl (E.2.1 1, 24, .inl bf2_32)), (la0y, .inl (E.2.1 1, 96, .inl bg2_33)), (qj, .inr (2, [.ref jt, .ref je, .ref ju, .ref ja])), (ju, .inl (E.2.1 1, 32, .inl ft2_61)), (la0m, .inr (4, [.int (nI bn2_29), .int (nI br2_30), .ref la0x, .ref la0y]))]) ?_ rfl rfl rfl
            refine ww_istore (lv' := [(6, .int r_70), (5, .int 0), (4, .int 1), (3, .ref la0m), (0, .ref qj), (1, .ref h), (2, .ref sa)]) C dX2_whole_125 rfl rfl ?_
            refine ww_iload C dX2_whole_127 2 rfl ?_
            refine ww_iconst (v := 1) C dX2_whole_129 rfl ?_
            refine ww_isub (v := 0) C dX2_whole_130 (by decide) ?_
            refine ww_istore (lv' := [(7, .int 0), (6, .int r_70), (5, .int 0), (4, .int 1), (3, .ref la0m), (0, .ref qj), (1, .ref h), (2, .ref sa)]) C dX2_whole_131 rfl rfl ?_
            refine ww_iload C dX2_whole_133 0 rfl ?_
            refine ww_if_lt_f (tgt := 173) C dX2_whole_135 (by decide) (by decide) ?_
            refine ww_aload_n C dX2_whole_138 5 rfl rfl ?_
            refine ww_get C fg_X2_29 17 rfl rfl dX2_whole_139 ?_
            refine ww_iload C dX2_whole_142 0 rfl ?_
            refine ww_ald (v := (some la0)) (t0 := 5) C 0 rfl rfl (vin rfl) k_fa_0 dX2_whole_144 ?_
            refine ww_eq (st' := [.ref la0]) ?_ rfl rfl rfl
            refine ww_iload C dX2_whole_145 1 rfl ?_
            refine ww_aload_n C dX2_whole_147 5 rfl rfl ?_
            refine ww_get C fg_X2_19 17 rfl rfl dX2_whole_148 ?_
            refine ww_aload_n C dX2_whole_151 7 rfl rfl ?_
            refine ww_getR C hro fg_X2_39 i0 h0 rfl dX2_whole_152 ?_
            refine ww_iload C dX2_whole_155 0 rfl ?_
            refine ww_ialdR (v := (nI j_7)) C hro i3 h3 (vin rfl) ej_7 dX2_whole_157 ?_
            obtain ⟨e_73, he_74, hev_75⟩ := hall_ j_7 (by omega)
            refine ww_aldR (v := (some e_73)) (t0 := 4) C hro jei_ hje_ rfl (vp_in_nI (by omega) (by omega)) (ldn (by omega) he_74) dX2_whole_158 ?_
            obtain ⟨i0y_76, i1y_76, i2y_76, i3y_76, i4y_76, cay_76, cby_76, ccy_76, cdy_76, fiy_76, g0y_76, g1y_76, g2y_76, g3y_76, g4y_76, hcsy_76, hrcy_76, hfiy_76⟩ := id hev_75
            refine ww_eq (st' := [.ref e_73, .int r_70, .ref la0]) ?_ rfl rfl rfl
            refine ww_getR C hro fg_X2_67 i0y_76 g0y_76 rfl dX2_whole_159 ?_
            refine ww_ci (wr := [(ja, .inl (E.2.1 5, 2, .inr (.inr (.inr (.inr fa))))), (la1q, .inl (E.2.1 1, 4, .inl la1fq)), (la1m, .inr (4, [.int (nI la1n), .int (nI la1r), .ref la1x, .ref la1y])), (la1x, .inl (E.2.1 1, 24, .inl la1gx)), (la1y, .inl (E.2.1 1, 96, .inl la1gy)), (la0q, .inl (E.2.1 1, 4, .inl fq2_31)), (h, .inr (4, [.int (nI n), .int (nI r), .ref a, .ref b])), (a, .inl (E.2.1 1, 24, .inl f)), (b, .inl (E.2.1 1, 96, .inl gg)), (la1, .inr (3, [.ref la1m, .int (nI Pp_58), .int (nI bn2_29), .ref la1c, .ref la1f, .ref la1q])), (la1c, .inl (E.2.1 1, 24, .inl cf2_59)), (la1f, .inl (E.2.1 1, 24, .inl ff2_60)), (la0x, .inl (E.2.1 1, 24, .inl bf2_32)), (la0y, .inl (E.2.1 1, 96, .inl bg2_33)), (qj, .inr (2, [.ref jt, .ref je, .ref ju, .ref ja])), (ju, .inl (E.2.1 1, 32, .inl ft2_61)), (la0m, .inr (4, [.int (nI bn2_29), .int (nI br2_30), .ref la0x, .ref la0y]))]) (k' := 0) (n' := 0) C (run_V (As := [.int r_70, .int (nI (vr j_7))]) (rest := []) C (l_comingTo X.2.1 E ro la0 r_70 (vr j_7) la0m Pp_13 n la0c la0f la0q cf2_14 ff2_15 (lyP (am n r f gg) ((vc j_7), (vr j_7), (vi j_7), (vs j_7), (vn j_7), (vp j_7))) (by omega) (by omega) h_17 h_20 (by omega)) mi_X3_comingTo wl_X2_70 rfl 0 3 rfl rfl rfl rfl rfl dX2_whole_162) (roK hro) [5, 6, 7] [0, 1, 2, 3, 4, 8, 9, 10, 11, 12, 13, 14, 15, 16, 17, 18, 19] rfl rfl rfl rfl (fun r_77 uz hw => ?_)
            refine an1 hw ?_
            clear hw
            intro he_79 hw
            have h_78 := hw
            clear hw
            subst he_79
            refine ww_eq (ws' := [(ja, .inl (E.2.1 5, 2, .inr (.inr (.inr (.inr fa))))), (la1q, .inl (E.2.1 1, 4, .inl la1fq)), (la1m, .inr (4, [.int (nI la1n), .int (nI la1r), .ref la1x, .ref la1y])), (la1x, .inl (E.2.1 1, 24, .inl la1gx)), (la1y, .inl (E.2.1 1, 96, .inl la1gy)), (la0q, .inl (E.2.1 1, 4, .inl fq2_31)), (h, .inr (4, [.int (nI n), .int (nI r), .ref a, .ref b])), (a, .inl (E.2.1 1, 24, .inl f)), (b, .inl (E.2.1 1, 96, .inl gg)), (la1, .inr (3, [.ref la1m, .int (nI Pp_58), .int (nI bn2_29), .ref la1c, .ref la1f, .ref la1q])), (la1c, .inl (E.2.1 1, 24, .inl cf2_59)), (la1f, .inl (E.2.1 1, 24, .inl ff2_60)), (la0x, .inl (E.2.1 1, 24, .inl bf2_32)), (la0y, .inl (E.2.1 1, 96, .inl bg2_33)), (qj, .inr (2, [.ref jt, .ref je, .ref ju, .ref ja])), (ju, .inl (E.2.1 1, 32, .inl ft2_61)), (la0m, .inr (4, [.int (nI bn2_29), .int (nI br2_30), .ref la0x, .ref la0y])), (la0, .inr (3, [.ref la0m, .int (nI Pp_13), .int (nI n), .ref la0c, .ref la0f, .ref la0q])), (la0c, .inl (E.2.1 1, 24, .inl cf2_14)), (la0f, .inl (E.2.1 1, 24, .inl ff2_15))]) ?_ rfl rfl rfl
            refine ww_istore (lv' := [(6, .int r_77), (7, .int 0), (5, .int 0), (4, .int 1), (3, .ref la0m), (0, .ref qj), (1, .ref h), (2, .ref sa)]) C dX2_whole_165 rfl rfl ?_
            refine ww_iinc (j := 1) (v := (-1)) (lv' := [(7, .int (-1)), (6, .int r_77), (5, .int 0), (4, .int 1), (3, .ref la0m), (0, .ref qj), (1, .ref h), (2, .ref sa)]) C dX2_whole_167 rfl rfl rfl rfl ?_
            refine ww_goto (tgt := 133) C dX2_whole_170 (by decide) ?_
            refine ww_iload C dX2_whole_133 0 rfl ?_
            refine ww_if_lt_t (tgt := 173) C dX2_whole_135 (by decide) (by decide) ?_
            refine ww_iload C dX2_whole_173 1 rfl ?_
            exact ww_iret (u := [(qj, .inr (2, [.ref jt, .ref je, .ref ju, .ref ja])), (ju, .inl (E.2.1 1, 32, .inl ft2_61)), (ja, .inl (E.2.1 5, 2, .inr (.inr (.inr (.inr fa))))), (la0, .inr (3, [.ref la0m, .int (nI Pp_13), .int (nI n), .ref la0c, .ref la0f, .ref la0q])), (la0c, .inl (E.2.1 1, 24, .inl cf2_14)), (la0f, .inl (E.2.1 1, 24, .inl ff2_15)), (la0q, .inl (E.2.1 1, 4, .inl fq2_31)), (la0m, .inr (4, [.int (nI bn2_29), .int (nI br2_30), .ref la0x, .ref la0y])), (la0x, .inl (E.2.1 1, 24, .inl bf2_32)), (la0y, .inl (E.2.1 1, 96, .inl bg2_33)), (la1, .inr (3, [.ref la1m, .int (nI Pp_58), .int (nI bn2_29), .ref la1c, .ref la1f, .ref la1q])), (la1c, .inl (E.2.1 1, 24, .inl cf2_59)), (la1f, .inl (E.2.1 1, 24, .inl ff2_60)), (la1q, .inl (E.2.1 1, 4, .inl la1fq)), (la1m, .inr (4, [.int (nI la1n), .int (nI la1r), .ref la1x, .ref la1y])), (la1x, .inl (E.2.1 1, 24, .inl la1gx)), (la1y, .inl (E.2.1 1, 96, .inl la1gy)), (h, .inr (4, [.int (nI n), .int (nI r), .ref a, .ref b])), (a, .inl (E.2.1 1, 24, .inl f)), (b, .inl (E.2.1 1, 96, .inl gg))]) C hT [14, 15, 0, 17, 18, 19, 5, 16, 12, 13, 9, 10, 11, 1, 2, 3, 4, 6, 7, 8] rfl rfl rfl rfl dX2_whole_175 (⟨ft2_61, (nI Pp_13), (nI n), bn2_29, br2_30, cf2_14, ff2_15, fq2_31, bf2_32, bg2_33, (nI Pp_58), (nI bn2_29), la1n, la1r, cf2_59, ff2_60, la1fq, la1gx, la1gy, rfl, (by first | assumption | omega | decide), (by first | assumption | omega | decide), (by first | assumption | omega | decide), (by first | assumption | omega | decide), (w_2n (S := (nn, so, sr, sf, tk, dp, nm, na)) (ev := (ev6 vc vr vi vs vn vp)) (show na = 2 by omega) (cN_of ej_7 (by omega)) (cN_of ej_52 (by omega)) (show lyC (am n r f gg) ((ev6 vc vr vi vs vn vp) j_7) ≤ 24 from (show Pp_13 = lyC (am n r f gg) ((ev6 vc vr vi vs vn vp) j_7) from h_21) ▸ (show Pp_13 ≤ 24 by omega)) (show vr j_7 < 4 by have h9 := hrcy_76; omega) ((show (am bn2_29 br2_30 bf2_32 bg2_33) = aLay (am n r f gg) ((ev6 vc vr vi vs vn vp) j_7) from h_37) ▸ (show ¬ lyC (am bn2_29 br2_30 bf2_32 bg2_33) ((ev6 vc vr vi vs vn vp) j_52) ≤ 24 from (show Pp_58 = lyC (am bn2_29 br2_30 bf2_32 bg2_33) ((ev6 vc vr vi vs vn vp) j_52) from h_66) ▸ (show ¬ Pp_58 ≤ 24 by omega))) ((show (am bn2_29 br2_30 bf2_32 bg2_33) = aLay (am n r f gg) ((ev6 vc vr vi vs vn vp) j_7) from h_37) ▸ (show BS _ (vAll (am bn2_29 br2_30 bf2_32 bg2_33)) from h_71)) h_78)⟩)
        · have zc_68 : ((Pp_58 : Nat) : Int) ≤ 24 := i_nlt rfl (nI_toInt (n := Pp_58) (by omega)) c_68
          refine ww_iconst (v := 1) C dX2_whole_65 rfl ?_
          refine ww_goto (tgt := 70) C dX2_whole_66 (by decide) ?_
          refine ww_istore (lv' := [(5, .int 1), (6, .ref e_53), (4, .int 1), (3, .ref la0m), (0, .ref qj), (1, .ref h), (2, .ref sa)]) C dX2_whole_70 rfl rfl ?_
          refine ww_iload C dX2_whole_72 0 rfl ?_
          refine ww_if_eq_f (tgt := 104) C dX2_whole_74 (by decide) (by decide) ?_
          refine ww_aload_n C dX2_whole_77 4 rfl rfl ?_
          refine ww_get C fg_X2_29 18 rfl rfl dX2_whole_78 ?_
          refine ww_iload C dX2_whole_81 2 rfl ?_
          refine ww_ald (v := (some la1)) (t0 := 5) C 0 rfl rfl (vin rfl) k_fa_1 dX2_whole_83 ?_
          refine ww_eq (st' := [.ref la1]) ?_ rfl rfl rfl
          refine ww_aload_n C dX2_whole_84 3 rfl rfl ?_
          refine ww_aload C dX2_whole_85 1 rfl ?_
          refine ww_cv (wr := [(ja, .inl (E.2.1 5, 2, .inr (.inr (.inr (.inr fa))))), (la0, .inr (3, [.ref la0m, .int (nI Pp_13), .int (nI n), .ref la0c, .ref la0f, .ref la0q])), (la0c, .inl (E.2.1 1, 24, .inl cf2_14)), (la0f, .inl (E.2.1 1, 24, .inl ff2_15)), (la0q, .inl (E.2.1 1, 4, .inl fq2_31)), (h, .inr (4, [.int (nI n), .int (nI r), .ref a, .ref b])), (a, .inl (E.2.1 1, 24, .inl f)), (b, .inl (E.2.1 1, 96, .inl gg)), (qj, .inr (2, [.ref jt, .ref je, .ref ju, .ref ja])), (ju, .inl (E.2.1 1, 32, .inl ft2_61))]) (k' := 0) (n' := 0) C (run_V (As := [.ref la0m, .ref e_53]) (rest := []) C (l_build X.2.1 E ro la1 la0m e_53 la1m Pp_58 bn2_29 la1c la1f la1q cf2_59 ff2_60 la1fq la1n la1r la1x la1y la1gx la1gy br2_30 la0x la0y bf2_32 bg2_33 (vc j_52) (vr j_52) (vi j_52) (vs j_52) (vn j_52) (vp j_52) (by omega) (by omega) hev_55 h_62 (by omega) h_64 h_65) mi_X3_build wl_X2_49 rfl 0 3 rfl rfl rfl rfl rfl dX2_whole_87) (roK hro) [12, 13, 14, 1, 2, 3, 4, 15, 16, 17] [0, 5, 6, 7, 8, 9, 10, 11, 18, 19] rfl rfl rfl rfl (fun uz hw => ?_)
          refine ex5 hw ?_
          clear hw
          intro bn2_81 br2_82 fq2_83 bf2_84 bg2_85 hw
          refine an4 hw ?_
          clear hw
          intro he_90 h_86 h_87 h_88 hw
          have h_89 := hw
          clear hw
          subst he_90
          refine ww_eq (ws' := [(ja, .inl (E.2.1 5, 2, .inr (.inr (.inr (.inr fa))))), (la0, .inr (3, [.ref la0m, .int (nI Pp_13), .int (nI n), .ref la0c, .ref la0f, .ref la0q])), (la0c, .inl (E.2.1 1, 24, .inl cf2_14)), (la0f, .inl (E.2.1 1, 24, .inl ff2_15)), (la0q, .inl (E.2.1 1, 4, .inl fq2_31)), (h, .inr (4, [.int (nI n), .int (nI r), .ref a, .ref b])), (a, .inl (E.2.1 1, 24, .inl f)), (b, .inl (E.2.1 1, 96, .inl gg)), (qj, .inr (2, [.ref jt, .ref je, .ref ju, .ref ja])), (ju, .inl (E.2.1 1, 32, .inl ft2_61)), (la1, .inr (3, [.ref la1m, .int (nI Pp_58), .int (nI bn2_29), .ref la1c, .ref la1f, .ref la1q])), (la1c, .inl (E.2.1 1, 24, .inl cf2_59)), (la1f, .inl (E.2.1 1, 24, .inl ff2_60)), (la1q, .inl (E.2.1 1, 4, .inl fq2_83)), (la1m, .inr (4, [.int (nI bn2_81), .int (nI br2_82), .ref la1x, .ref la1y])), (la1x, .inl (E.2.1 1, 24, .inl bf2_84)), (la1y, .inl (E.2.1 1, 96, .inl bg2_85)), (la0m, .inr (4, [.int (nI bn2_29), .int (nI br2_30), .ref la0x, .ref la0y])), (la0x, .inl (E.2.1 1, 24, .inl bf2_32)), (la0y, .inl (E.2.1 1, 96, .inl bg2_33))]) ?_ rfl rfl rfl
          refine ww_aload_n C dX2_whole_90 4 rfl rfl ?_
          refine ww_get C fg_X2_29 8 rfl rfl dX2_whole_91 ?_
          refine ww_iload C dX2_whole_94 2 rfl ?_
          refine ww_ald (v := (some la1)) (t0 := 5) C 0 rfl rfl (vin rfl) k_fa_1 dX2_whole_96 ?_
          refine ww_eq (st' := [.ref la1]) ?_ rfl rfl rfl
          refine ww_get C fg_X2_53 10 rfl rfl dX2_whole_97 ?_
          refine ww_astore_n (lv' := [(3, .ref la1m), (5, .int 1), (6, .ref e_53), (4, .int 1), (0, .ref qj), (1, .ref h), (2, .ref sa)]) C dX2_whole_100 rfl rfl rfl ?_
          refine ww_iinc (j := 3) (v := 2) (lv' := [(4, .int 2), (3, .ref la1m), (5, .int 1), (6, .ref e_53), (0, .ref qj), (1, .ref h), (2, .ref sa)]) C dX2_whole_101 rfl rfl rfl rfl ?_
          refine ww_goto (tgt := 8) C dX2_whole_104 (by decide) ?_
          refine ww_iload C dX2_whole_8 0 rfl ?_
          refine ww_aload_n C dX2_whole_10 6 rfl rfl ?_
          refine ww_getR C hro fg_X2_35 i0 h0 rfl dX2_whole_11 ?_
          refine ww_icmp_ge (tgt := 107) C dX2_whole_14 (by decide) (fun c_91 => ?_) (fun c_91 => ?_)
          · have zc_91 : 2 ≥ ((na : Nat) : Int) := i_le (nI_toInt (n := na) (by omega)) rfl c_91
            refine ww_iload C dX2_whole_107 2 rfl ?_
            refine ww_if_eq_f (tgt := 121) C dX2_whole_109 (by decide) (by decide) ?_
            refine ww_aload_n C dX2_whole_112 4 rfl rfl ?_
            refine ww_aload_n C dX2_whole_113 1 rfl rfl ?_
            refine ww_aload_n C dX2_whole_114 6 rfl rfl ?_
            refine ww_ci (wr := [(ja, .inl (E.2.1 5, 2, .inr (.inr (.inr (.inr fa))))), (la0, .inr (3, [.ref la0m, .int (nI Pp_13), .int (nI n), .ref la0c, .ref la0f, .ref la0q])), (la0c, .inl (E.2.1 1, 24, .inl cf2_14)), (la0f, .inl (E.2.1 1, 24, .inl ff2_15)), (la0q, .inl (E.2.1 1, 4, .inl fq2_31)), (h, .inr (4, [.int (nI n), .int (nI r), .ref a, .ref b])), (a, .inl (E.2.1 1, 24, .inl f)), (b, .inl (E.2.1 1, 96, .inl gg)), (la1, .inr (3, [.ref la1m, .int (nI Pp_58), .int (nI bn2_29), .ref la1c, .ref la1f, .ref la1q])), (la1c, .inl (E.2.1 1, 24, .inl cf2_59)), (la1f, .inl (E.2.1 1, 24, .inl ff2_60)), (la1q, .inl (E.2.1 1, 4, .inl fq2_83)), (la0m, .inr (4, [.int (nI bn2_29), .int (nI br2_30), .ref la0x, .ref la0y])), (la0x, .inl (E.2.1 1, 24, .inl bf2_32)), (la0y, .inl (E.2.1 1, 96, .inl bg2_33))]) (k' := 0) (n' := 0) C (run_V (As := [.ref la1m, .ref sa]) (rest := []) C (j_plain X.2.1 E ro qj la1m sa jt je ju ja ft2_61 bn2_81 br2_82 la1x la1y bf2_84 bg2_85 (nn, so, sr, sf, tk, dp, nm, na) (by omega) (by omega) hsa (by rw [h_89]; exact cmp_wf)) mi_X2_plain wl_X2_57 rfl 0 2 rfl rfl rfl rfl rfl dX2_whole_115) (roK hro) [8, 9, 14, 15, 16] [0, 1, 2, 3, 4, 5, 6, 7, 10, 11, 12, 13, 17, 18, 19] rfl rfl rfl rfl (fun r_92 uz hw => ?_)
            refine ex1 hw ?_
            clear hw
            intro ft2_93 hw
            refine an1 hw ?_
            clear hw
            intro he_95 hw
            have h_94 := hw
            clear hw
            subst he_95
            refine ww_eq (ws' := [(ja, .inl (E.2.1 5, 2, .inr (.inr (.inr (.inr fa))))), (la0, .inr (3, [.ref la0m, .int (nI Pp_13), .int (nI n), .ref la0c, .ref la0f, .ref la0q])), (la0c, .inl (E.2.1 1, 24, .inl cf2_14)), (la0f, .inl (E.2.1 1, 24, .inl ff2_15)), (la0q, .inl (E.2.1 1, 4, .inl fq2_31)), (h, .inr (4, [.int (nI n), .int (nI r), .ref a, .ref b])), (a, .inl (E.2.1 1, 24, .inl f)), (b, .inl (E.2.1 1, 96, .inl gg)), (la1, .inr (3, [.ref la1m, .int (nI Pp_58), .int (nI bn2_29), .ref la1c, .ref la1f, .ref la1q])), (la1c, .inl (E.2.1 1, 24, .inl cf2_59)), (la1f, .inl (E.2.1 1, 24, .inl ff2_60)), (la1q, .inl (E.2.1 1, 4, .inl fq2_83)), (la0m, .inr (4, [.int (nI bn2_29), .int (nI br2_30), .ref la0x, .ref la0y])), (la0x, .inl (E.2.1 1, 24, .inl bf2_32)), (la0y, .inl (E.2.1 1, 96, .inl bg2_33)), (qj, .inr (2, [.ref jt, .ref je, .ref ju, .ref ja])), (ju, .inl (E.2.1 1, 32, .inl ft2_93)), (la1m, .inr (4, [.int (nI bn2_81), .int (nI br2_82), .ref la1x, .ref la1y])), (la1x, .inl (E.2.1 1, 24, .inl bf2_84)), (la1y, .inl (E.2.1 1, 96, .inl bg2_85))]) ?_ rfl rfl rfl
            refine ww_goto (tgt := 125) C dX2_whole_118 (by decide) ?_
            refine ww_istore (lv' := [(6, .int r_92), (4, .int 2), (3, .ref la1m), (5, .int 1), (0, .ref qj), (1, .ref h), (2, .ref sa)]) C dX2_whole_125 rfl rfl ?_
            refine ww_iload C dX2_whole_127 1 rfl ?_
            refine ww_iconst (v := 1) C dX2_whole_129 rfl ?_
            refine ww_isub (v := 1) C dX2_whole_130 (by decide) ?_
            refine ww_istore (lv' := [(7, .int 1), (6, .int r_92), (4, .int 2), (3, .ref la1m), (5, .int 1), (0, .ref qj), (1, .ref h), (2, .ref sa)]) C dX2_whole_131 rfl rfl ?_
            refine ww_iload C dX2_whole_133 0 rfl ?_
            refine ww_if_lt_f (tgt := 173) C dX2_whole_135 (by decide) (by decide) ?_
            refine ww_aload_n C dX2_whole_138 5 rfl rfl ?_
            refine ww_get C fg_X2_29 15 rfl rfl dX2_whole_139 ?_
            refine ww_iload C dX2_whole_142 0 rfl ?_
            refine ww_ald (v := (some la1)) (t0 := 5) C 0 rfl rfl (vin rfl) k_fa_1 dX2_whole_144 ?_
            refine ww_eq (st' := [.ref la1]) ?_ rfl rfl rfl
            refine ww_iload C dX2_whole_145 1 rfl ?_
            refine ww_aload_n C dX2_whole_147 5 rfl rfl ?_
            refine ww_get C fg_X2_19 15 rfl rfl dX2_whole_148 ?_
            refine ww_aload_n C dX2_whole_151 7 rfl rfl ?_
            refine ww_getR C hro fg_X2_39 i0 h0 rfl dX2_whole_152 ?_
            refine ww_iload C dX2_whole_155 0 rfl ?_
            refine ww_ialdR (v := (nI j_52)) C hro i3 h3 (vin rfl) ej_52 dX2_whole_157 ?_
            obtain ⟨e_96, he_97, hev_98⟩ := hall_ j_52 (by omega)
            refine ww_aldR (v := (some e_96)) (t0 := 4) C hro jei_ hje_ rfl (vp_in_nI (by omega) (by omega)) (ldn (by omega) he_97) dX2_whole_158 ?_
            obtain ⟨i0y_99, i1y_99, i2y_99, i3y_99, i4y_99, cay_99, cby_99, ccy_99, cdy_99, fiy_99, g0y_99, g1y_99, g2y_99, g3y_99, g4y_99, hcsy_99, hrcy_99, hfiy_99⟩ := id hev_98
            refine ww_eq (st' := [.ref e_96, .int r_92, .ref la1]) ?_ rfl rfl rfl
            refine ww_getR C hro fg_X2_67 i0y_99 g0y_99 rfl dX2_whole_159 ?_
            refine ww_ci (wr := [(ja, .inl (E.2.1 5, 2, .inr (.inr (.inr (.inr fa))))), (la0, .inr (3, [.ref la0m, .int (nI Pp_13), .int (nI n), .ref la0c, .ref la0f, .ref la0q])), (la0c, .inl (E.2.1 1, 24, .inl cf2_14)), (la0f, .inl (E.2.1 1, 24, .inl ff2_15)), (la0q, .inl (E.2.1 1, 4, .inl fq2_31)), (h, .inr (4, [.int (nI n), .int (nI r), .ref a, .ref b])), (a, .inl (E.2.1 1, 24, .inl f)), (b, .inl (E.2.1 1, 96, .inl gg)), (la1q, .inl (E.2.1 1, 4, .inl fq2_83)), (la0m, .inr (4, [.int (nI bn2_29), .int (nI br2_30), .ref la0x, .ref la0y])), (la0x, .inl (E.2.1 1, 24, .inl bf2_32)), (la0y, .inl (E.2.1 1, 96, .inl bg2_33)), (qj, .inr (2, [.ref jt, .ref je, .ref ju, .ref ja])), (ju, .inl (E.2.1 1, 32, .inl ft2_93)), (la1m, .inr (4, [.int (nI bn2_81), .int (nI br2_82), .ref la1x, .ref la1y])), (la1x, .inl (E.2.1 1, 24, .inl bf2_84)), (la1y, .inl (E.2.1 1, 96, .inl bg2_85))]) (k' := 0) (n' := 0) C (run_V (As := [.int r_92, .int (nI (vr j_52))]) (rest := []) C (l_comingTo X.2.1 E ro la1 r_92 (vr j_52) la1m Pp_58 bn2_29 la1c la1f la1q cf2_59 ff2_60 (lyP (am bn2_29 br2_30 bf2_32 bg2_33) ((vc j_52), (vr j_52), (vi j_52), (vs j_52), (vn j_52), (vp j_52))) (by omega) (by omega) h_62 h_65 (by omega)) mi_X3_comingTo wl_X2_70 rfl 0 3 rfl rfl rfl rfl rfl dX2_whole_162) (roK hro) [8, 9, 10] [0, 1, 2, 3, 4, 5, 6, 7, 11, 12, 13, 14, 15, 16, 17, 18, 19] rfl rfl rfl rfl (fun r_100 uz hw => ?_)
            refine an1 hw ?_
            clear hw
            intro he_102 hw
            have h_101 := hw
            clear hw
            subst he_102
            refine ww_eq (ws' := [(ja, .inl (E.2.1 5, 2, .inr (.inr (.inr (.inr fa))))), (la0, .inr (3, [.ref la0m, .int (nI Pp_13), .int (nI n), .ref la0c, .ref la0f, .ref la0q])), (la0c, .inl (E.2.1 1, 24, .inl cf2_14)), (la0f, .inl (E.2.1 1, 24, .inl ff2_15)), (la0q, .inl (E.2.1 1, 4, .inl fq2_31)), (h, .inr (4, [.int (nI n), .int (nI r), .ref a, .ref b])), (a, .inl (E.2.1 1, 24, .inl f)), (b, .inl (E.2.1 1, 96, .inl gg)), (la1q, .inl (E.2.1 1, 4, .inl fq2_83)), (la0m, .inr (4, [.int (nI bn2_29), .int (nI br2_30), .ref la0x, .ref la0y])), (la0x, .inl (E.2.1 1, 24, .inl bf2_32)), (la0y, .inl (E.2.1 1, 96, .inl bg2_33)), (qj, .inr (2, [.ref jt, .ref je, .ref ju, .ref ja])), (ju, .inl (E.2.1 1, 32, .inl ft2_93)), (la1m, .inr (4, [.int (nI bn2_81), .int (nI br2_82), .ref la1x, .ref la1y])), (la1x, .inl (E.2.1 1, 24, .inl bf2_84)), (la1y, .inl (E.2.1 1, 96, .inl bg2_85)), (la1, .inr (3, [.ref la1m, .int (nI Pp_58), .int (nI bn2_29), .ref la1c, .ref la1f, .ref la1q])), (la1c, .inl (E.2.1 1, 24, .inl cf2_59)), (la1f, .inl (E.2.1 1, 24, .inl ff2_60))]) ?_ rfl rfl rfl
            refine ww_istore (lv' := [(6, .int r_100), (7, .int 1), (4, .int 2), (3, .ref la1m), (5, .int 1), (0, .ref qj), (1, .ref h), (2, .ref sa)]) C dX2_whole_165 rfl rfl ?_
            refine ww_iinc (j := 1) (v := 0) (lv' := [(7, .int 0), (6, .int r_100), (4, .int 2), (3, .ref la1m), (5, .int 1), (0, .ref qj), (1, .ref h), (2, .ref sa)]) C dX2_whole_167 rfl rfl rfl rfl ?_
            refine ww_goto (tgt := 133) C dX2_whole_170 (by decide) ?_
            refine ww_iload C dX2_whole_133 0 rfl ?_
            refine ww_if_lt_f (tgt := 173) C dX2_whole_135 (by decide) (by decide) ?_
            refine ww_aload_n C dX2_whole_138 5 rfl rfl ?_
            refine ww_get C fg_X2_29 12 rfl rfl dX2_whole_139 ?_
            refine ww_iload C dX2_whole_142 0 rfl ?_
            refine ww_ald (v := (some la0)) (t0 := 5) C 0 rfl rfl (vin rfl) k_fa_0 dX2_whole_144 ?_
            refine ww_eq (st' := [.ref la0]) ?_ rfl rfl rfl
            refine ww_iload C dX2_whole_145 1 rfl ?_
            refine ww_aload_n C dX2_whole_147 5 rfl rfl ?_
            refine ww_get C fg_X2_19 12 rfl rfl dX2_whole_148 ?_
            refine ww_aload_n C dX2_whole_151 7 rfl rfl ?_
            refine ww_getR C hro fg_X2_39 i0 h0 rfl dX2_whole_152 ?_
            refine ww_iload C dX2_whole_155 0 rfl ?_
            refine ww_ialdR (v := (nI j_7)) C hro i3 h3 (vin rfl) ej_7 dX2_whole_157 ?_
            obtain ⟨e_103, he_104, hev_105⟩ := hall_ j_7 (by omega)
            refine ww_aldR (v := (some e_103)) (t0 := 4) C hro jei_ hje_ rfl (vp_in_nI (by omega) (by omega)) (ldn (by omega) he_104) dX2_whole_158 ?_
            obtain ⟨i0y_106, i1y_106, i2y_106, i3y_106, i4y_106, cay_106, cby_106, ccy_106, cdy_106, fiy_106, g0y_106, g1y_106, g2y_106, g3y_106, g4y_106, hcsy_106, hrcy_106, hfiy_106⟩ := id hev_105
            refine ww_eq (st' := [.ref e_103, .int r_100, .ref la0]) ?_ rfl rfl rfl
            refine ww_getR C hro fg_X2_67 i0y_106 g0y_106 rfl dX2_whole_159 ?_
            refine ww_ci (wr := [(ja, .inl (E.2.1 5, 2, .inr (.inr (.inr (.inr fa))))), (la0q, .inl (E.2.1 1, 4, .inl fq2_31)), (h, .inr (4, [.int (nI n), .int (nI r), .ref a, .ref b])), (a, .inl (E.2.1 1, 24, .inl f)), (b, .inl (E.2.1 1, 96, .inl gg)), (la1q, .inl (E.2.1 1, 4, .inl fq2_83)), (la0m, .inr (4, [.int (nI bn2_29), .int (nI br2_30), .ref la0x, .ref la0y])), (la0x, .inl (E.2.1 1, 24, .inl bf2_32)), (la0y, .inl (E.2.1 1, 96, .inl bg2_33)), (qj, .inr (2, [.ref jt, .ref je, .ref ju, .ref ja])), (ju, .inl (E.2.1 1, 32, .inl ft2_93)), (la1m, .inr (4, [.int (nI bn2_81), .int (nI br2_82), .ref la1x, .ref la1y])), (la1x, .inl (E.2.1 1, 24, .inl bf2_84)), (la1y, .inl (E.2.1 1, 96, .inl bg2_85)), (la1, .inr (3, [.ref la1m, .int (nI Pp_58), .int (nI bn2_29), .ref la1c, .ref la1f, .ref la1q])), (la1c, .inl (E.2.1 1, 24, .inl cf2_59)), (la1f, .inl (E.2.1 1, 24, .inl ff2_60))]) (k' := 0) (n' := 0) C (run_V (As := [.int r_100, .int (nI (vr j_7))]) (rest := []) C (l_comingTo X.2.1 E ro la0 r_100 (vr j_7) la0m Pp_13 n la0c la0f la0q cf2_14 ff2_15 (lyP (am n r f gg) ((vc j_7), (vr j_7), (vi j_7), (vs j_7), (vn j_7), (vp j_7))) (by omega) (by omega) h_17 h_20 (by omega)) mi_X3_comingTo wl_X2_70 rfl 0 3 rfl rfl rfl rfl rfl dX2_whole_162) (roK hro) [1, 2, 3] [0, 4, 5, 6, 7, 8, 9, 10, 11, 12, 13, 14, 15, 16, 17, 18, 19] rfl rfl rfl rfl (fun r_107 uz hw => ?_)
            refine an1 hw ?_
            clear hw
            intro he_109 hw
            have h_108 := hw
            clear hw
            subst he_109
            refine ww_eq (ws' := [(ja, .inl (E.2.1 5, 2, .inr (.inr (.inr (.inr fa))))), (la0q, .inl (E.2.1 1, 4, .inl fq2_31)), (h, .inr (4, [.int (nI n), .int (nI r), .ref a, .ref b])), (a, .inl (E.2.1 1, 24, .inl f)), (b, .inl (E.2.1 1, 96, .inl gg)), (la1q, .inl (E.2.1 1, 4, .inl fq2_83)), (la0m, .inr (4, [.int (nI bn2_29), .int (nI br2_30), .ref la0x, .ref la0y])), (la0x, .inl (E.2.1 1, 24, .inl bf2_32)), (la0y, .inl (E.2.1 1, 96, .inl bg2_33)), (qj, .inr (2, [.ref jt, .ref je, .ref ju, .ref ja])), (ju, .inl (E.2.1 1, 32, .inl ft2_93)), (la1m, .inr (4, [.int (nI bn2_81), .int (nI br2_82), .ref la1x, .ref la1y])), (la1x, .inl (E.2.1 1, 24, .inl bf2_84)), (la1y, .inl (E.2.1 1, 96, .inl bg2_85)), (la1, .inr (3, [.ref la1m, .int (nI Pp_58), .int (nI bn2_29), .ref la1c, .ref la1f, .ref la1q])), (la1c, .inl (E.2.1 1, 24, .inl cf2_59)), (la1f, .inl (E.2.1 1, 24, .inl ff2_60)), (la0, .inr (3, [.ref la0m, .int (nI Pp_13), .int (nI n), .ref la0c, .ref la0f, .ref la0q])), (la0c, .inl (E.2.1 1, 24, .inl cf2_14)), (la0f, .inl (E.2.1 1, 24, .inl ff2_15))]) ?_ rfl rfl rfl
            refine ww_istore (lv' := [(6, .int r_107), (7, .int 0), (4, .int 2), (3, .ref la1m), (5, .int 1), (0, .ref qj), (1, .ref h), (2, .ref sa)]) C dX2_whole_165 rfl rfl ?_
            refine ww_iinc (j := 1) (v := (-1)) (lv' := [(7, .int (-1)), (6, .int r_107), (4, .int 2), (3, .ref la1m), (5, .int 1), (0, .ref qj), (1, .ref h), (2, .ref sa)]) C dX2_whole_167 rfl rfl rfl rfl ?_
            refine ww_goto (tgt := 133) C dX2_whole_170 (by decide) ?_
            refine ww_iload C dX2_whole_133 0 rfl ?_
            refine ww_if_lt_t (tgt := 173) C dX2_whole_135 (by decide) (by decide) ?_
            refine ww_iload C dX2_whole_173 1 rfl ?_
            exact ww_iret (u := [(qj, .inr (2, [.ref jt, .ref je, .ref ju, .ref ja])), (ju, .inl (E.2.1 1, 32, .inl ft2_93)), (ja, .inl (E.2.1 5, 2, .inr (.inr (.inr (.inr fa))))), (la0, .inr (3, [.ref la0m, .int (nI Pp_13), .int (nI n), .ref la0c, .ref la0f, .ref la0q])), (la0c, .inl (E.2.1 1, 24, .inl cf2_14)), (la0f, .inl (E.2.1 1, 24, .inl ff2_15)), (la0q, .inl (E.2.1 1, 4, .inl fq2_31)), (la0m, .inr (4, [.int (nI bn2_29), .int (nI br2_30), .ref la0x, .ref la0y])), (la0x, .inl (E.2.1 1, 24, .inl bf2_32)), (la0y, .inl (E.2.1 1, 96, .inl bg2_33)), (la1, .inr (3, [.ref la1m, .int (nI Pp_58), .int (nI bn2_29), .ref la1c, .ref la1f, .ref la1q])), (la1c, .inl (E.2.1 1, 24, .inl cf2_59)), (la1f, .inl (E.2.1 1, 24, .inl ff2_60)), (la1q, .inl (E.2.1 1, 4, .inl fq2_83)), (la1m, .inr (4, [.int (nI bn2_81), .int (nI br2_82), .ref la1x, .ref la1y])), (la1x, .inl (E.2.1 1, 24, .inl bf2_84)), (la1y, .inl (E.2.1 1, 96, .inl bg2_85)), (h, .inr (4, [.int (nI n), .int (nI r), .ref a, .ref b])), (a, .inl (E.2.1 1, 24, .inl f)), (b, .inl (E.2.1 1, 96, .inl gg))]) C hT [9, 10, 0, 17, 18, 19, 1, 6, 7, 8, 14, 15, 16, 5, 11, 12, 13, 2, 3, 4] rfl rfl rfl rfl dX2_whole_175 (⟨ft2_93, (nI Pp_13), (nI n), bn2_29, br2_30, cf2_14, ff2_15, fq2_31, bf2_32, bg2_33, (nI Pp_58), (nI bn2_29), bn2_81, br2_82, cf2_59, ff2_60, fq2_83, bf2_84, bg2_85, rfl, (by first | assumption | omega | decide), (by first | assumption | omega | decide), (by first | assumption | omega | decide), (by first | assumption | omega | decide), (w_2 (S := (nn, so, sr, sf, tk, dp, nm, na)) (ev := (ev6 vc vr vi vs vn vp)) (show na = 2 by omega) (cN_of ej_7 (by omega)) (cN_of ej_52 (by omega)) (show lyC (am n r f gg) ((ev6 vc vr vi vs vn vp) j_7) ≤ 24 from (show Pp_13 = lyC (am n r f gg) ((ev6 vc vr vi vs vn vp) j_7) from h_21) ▸ (show Pp_13 ≤ 24 by omega)) (show vr j_7 < 4 by have h9 := hrcy_106; omega) ((show (am bn2_29 br2_30 bf2_32 bg2_33) = aLay (am n r f gg) ((ev6 vc vr vi vs vn vp) j_7) from h_37) ▸ (show lyC (am bn2_29 br2_30 bf2_32 bg2_33) ((ev6 vc vr vi vs vn vp) j_52) ≤ 24 from (show Pp_58 = lyC (am bn2_29 br2_30 bf2_32 bg2_33) ((ev6 vc vr vi vs vn vp) j_52) from h_66) ▸ (show Pp_58 ≤ 24 by omega))) (show vr j_52 < 4 by have h9 := hrcy_99; omega) ((show (am bn2_29 br2_30 bf2_32 bg2_33) = aLay (am n r f gg) ((ev6 vc vr vi vs vn vp) j_7) from h_37) ▸ (show (am bn2_81 br2_82 bf2_84 bg2_85) = aLay (am bn2_29 br2_30 bf2_32 bg2_33) ((ev6 vc vr vi vs vn vp) j_52) from h_89) ▸ h_94) ((show (am bn2_29 br2_30 bf2_32 bg2_33) = aLay (am n r f gg) ((ev6 vc vr vi vs vn vp) j_7) from h_37) ▸ (show BS _ (vBack (am bn2_29 br2_30 bf2_32 bg2_33) ((ev6 vc vr vi vs vn vp) j_52) (bt _)) from h_101)) h_108)⟩)
          · have zc_91 : 2 < ((na : Nat) : Int) := i_nle (nI_toInt (n := na) (by omega)) rfl c_91
            omega
