theorem or0c {bs x z : Int32} {NN : Nat → Nat} {i : Nat} (h : CLx bs NN i x) (hb : bt bs i = false) (e : x ||| (0 : Int32) = z) : CLx bs NN (i + 1) z := by rw [or0 e]; exact CLx.f h hb
theorem dX12_melt_0 : decode cX12_melt 0 = .ok (.aload_n 0, 1) := by decide +kernel
theorem dX12_melt_1 : decode cX12_melt 1 = .ok (.getfield 7, 3) := by decide +kernel
theorem dX12_melt_4 : decode cX12_melt 4 = .ok (.iconst 0, 1) := by decide +kernel
theorem dX12_melt_5 : decode cX12_melt 5 = .ok (.iaload, 1) := by decide +kernel
theorem dX12_melt_6 : decode cX12_melt 6 = .ok (.ifCond .ne 6, 3) := by decide +kernel
theorem dX12_melt_12 : decode cX12_melt 12 = .ok (.aload_n 0, 1) := by decide +kernel
theorem dX12_melt_13 : decode cX12_melt 13 = .ok (.iconst 0, 1) := by decide +kernel
theorem dX12_melt_14 : decode cX12_melt 14 = .ok (.bipush (-4), 2) := by decide +kernel
theorem dX12_melt_16 : decode cX12_melt 16 = .ok (.invokevirtual 298, 3) := by decide +kernel
theorem dX12_melt_19 : decode cX12_melt 19 = .ok (.aload_n 0, 1) := by decide +kernel
theorem dX12_melt_20 : decode cX12_melt 20 = .ok (.invokevirtual 121, 3) := by decide +kernel
theorem dX12_melt_23 : decode cX12_melt 23 = .ok (.aload_n 0, 1) := by decide +kernel
theorem dX12_melt_24 : decode cX12_melt 24 = .ok (.iconst 0, 1) := by decide +kernel
theorem dX12_melt_25 : decode cX12_melt 25 = .ok (.iconst 1, 1) := by decide +kernel
theorem dX12_melt_26 : decode cX12_melt 26 = .ok (.invokevirtual 109, 3) := by decide +kernel
theorem dX12_melt_29 : decode cX12_melt 29 = .ok (.iconst 0, 1) := by decide +kernel
theorem dX12_melt_30 : decode cX12_melt 30 = .ok (.istore_n 1, 1) := by decide +kernel
theorem dX12_melt_31 : decode cX12_melt 31 = .ok (.iconst 0, 1) := by decide +kernel
theorem dX12_melt_32 : decode cX12_melt 32 = .ok (.istore_n 2, 1) := by decide +kernel
theorem dX12_melt_33 : decode cX12_melt 33 = .ok (.iload_n 2, 1) := by decide +kernel
theorem dX12_melt_34 : decode cX12_melt 34 = .ok (.aload_n 0, 1) := by decide +kernel
theorem dX12_melt_35 : decode cX12_melt 35 = .ok (.getfield 7, 3) := by decide +kernel
theorem dX12_melt_38 : decode cX12_melt 38 = .ok (.iconst 1, 1) := by decide +kernel
theorem dX12_melt_39 : decode cX12_melt 39 = .ok (.iaload, 1) := by decide +kernel
theorem dX12_melt_40 : decode cX12_melt 40 = .ok (.if_icmp .ge 28, 3) := by decide +kernel
theorem dX12_melt_68 : decode cX12_melt 68 = .ok (.iconst 0, 1) := by decide +kernel
theorem dX12_melt_69 : decode cX12_melt 69 = .ok (.istore_n 2, 1) := by decide +kernel
theorem dX12_melt_70 : decode cX12_melt 70 = .ok (.iload_n 2, 1) := by decide +kernel
theorem dX12_melt_71 : decode cX12_melt 71 = .ok (.aload_n 0, 1) := by decide +kernel
theorem dX12_melt_72 : decode cX12_melt 72 = .ok (.getfield 7, 3) := by decide +kernel
theorem dX12_melt_75 : decode cX12_melt 75 = .ok (.iconst 1, 1) := by decide +kernel
theorem dX12_melt_76 : decode cX12_melt 76 = .ok (.iaload, 1) := by decide +kernel
theorem dX12_melt_77 : decode cX12_melt 77 = .ok (.if_icmp .ge 130, 3) := by decide +kernel
theorem dX12_melt_207 : decode cX12_melt 207 = .ok (.aload_n 0, 1) := by decide +kernel
theorem dX12_melt_208 : decode cX12_melt 208 = .ok (.getfield 13, 3) := by decide +kernel
theorem dX12_melt_211 : decode cX12_melt 211 = .ok (.iconst 0, 1) := by decide +kernel
theorem dX12_melt_212 : decode cX12_melt 212 = .ok (.aload_n 0, 1) := by decide +kernel
theorem dX12_melt_213 : decode cX12_melt 213 = .ok (.getfield 81, 3) := by decide +kernel
theorem wf_X12_81 : Cond.fieldLink RX12 81 RX12 "newAt" "[I" ∈ TB := tbm (tq5 (List.mem_of_getElem? (i := 114) (by decide +kernel))) (by decide +kernel)
theorem fg_X12_81 : FG RX12 81 12 36 := ⟨RX12, TX12, 45, uw_X12, wf_X12_81, rfl, by decide, rfl⟩
theorem dX12_melt_216 : decode cX12_melt 216 = .ok (.aload_n 0, 1) := by decide +kernel
theorem dX12_melt_217 : decode cX12_melt 217 = .ok (.aload_n 0, 1) := by decide +kernel
theorem dX12_melt_218 : decode cX12_melt 218 = .ok (.getfield 13, 3) := by decide +kernel
theorem dX12_melt_221 : decode cX12_melt 221 = .ok (.iconst 1, 1) := by decide +kernel
theorem dX12_melt_222 : decode cX12_melt 222 = .ok (.iaload, 1) := by decide +kernel
theorem dX12_melt_223 : decode cX12_melt 223 = .ok (.invokevirtual 301, 3) := by decide +kernel
theorem dX12_melt_226 : decode cX12_melt 226 = .ok (.iaload, 1) := by decide +kernel
theorem dX12_melt_227 : decode cX12_melt 227 = .ok (.iastore, 1) := by decide +kernel
theorem dX12_melt_228 : decode cX12_melt 228 = .ok (.aload_n 0, 1) := by decide +kernel
theorem dX12_melt_229 : decode cX12_melt 229 = .ok (.getfield 7, 3) := by decide +kernel
theorem dX12_melt_232 : decode cX12_melt 232 = .ok (.iconst 0, 1) := by decide +kernel
theorem dX12_melt_233 : decode cX12_melt 233 = .ok (.iload_n 1, 1) := by decide +kernel
theorem dX12_melt_234 : decode cX12_melt 234 = .ok (.iastore, 1) := by decide +kernel
theorem dX12_melt_235 : decode cX12_melt 235 = .ok (.iload_n 1, 1) := by decide +kernel
theorem dX12_melt_236 : decode cX12_melt 236 = .ok (.ireturn, 1) := by decide +kernel
theorem dX12_melt_80 : decode cX12_melt 80 = .ok (.aload_n 0, 1) := by decide +kernel
theorem dX12_melt_81 : decode cX12_melt 81 = .ok (.iload_n 2, 1) := by decide +kernel
theorem dX12_melt_82 : decode cX12_melt 82 = .ok (.invokevirtual 301, 3) := by decide +kernel
theorem dX12_melt_85 : decode cX12_melt 85 = .ok (.iload_n 2, 1) := by decide +kernel
theorem dX12_melt_86 : decode cX12_melt 86 = .ok (.if_icmp .ne 115, 3) := by decide +kernel
theorem dX12_melt_201 : decode cX12_melt 201 = .ok (.iinc 2 1, 3) := by decide +kernel
theorem dX12_melt_204 : decode cX12_melt 204 = .ok (.goto (-134), 3) := by decide +kernel
theorem dX12_melt_89 : decode cX12_melt 89 = .ok (.aload_n 0, 1) := by decide +kernel
theorem dX12_melt_90 : decode cX12_melt 90 = .ok (.getfield 16, 3) := by decide +kernel
theorem dX12_melt_93 : decode cX12_melt 93 = .ok (.aload_n 0, 1) := by decide +kernel
theorem dX12_melt_94 : decode cX12_melt 94 = .ok (.getfield 81, 3) := by decide +kernel
theorem dX12_melt_97 : decode cX12_melt 97 = .ok (.iload_n 2, 1) := by decide +kernel
theorem dX12_melt_98 : decode cX12_melt 98 = .ok (.iaload, 1) := by decide +kernel
theorem dX12_melt_99 : decode cX12_melt 99 = .ok (.aload_n 0, 1) := by decide +kernel
theorem dX12_melt_100 : decode cX12_melt 100 = .ok (.getfield 16, 3) := by decide +kernel
theorem dX12_melt_103 : decode cX12_melt 103 = .ok (.bipush 24, 2) := by decide +kernel
theorem dX12_melt_105 : decode cX12_melt 105 = .ok (.iload_n 2, 1) := by decide +kernel
theorem dX12_melt_106 : decode cX12_melt 106 = .ok (.iadd, 1) := by decide +kernel
theorem dX12_melt_107 : decode cX12_melt 107 = .ok (.iaload, 1) := by decide +kernel
theorem dX12_melt_108 : decode cX12_melt 108 = .ok (.iastore, 1) := by decide +kernel
theorem dX12_melt_109 : decode cX12_melt 109 = .ok (.iconst 0, 1) := by decide +kernel
theorem dX12_melt_110 : decode cX12_melt 110 = .ok (.istore_n 3, 1) := by decide +kernel
theorem dX12_melt_111 : decode cX12_melt 111 = .ok (.iload_n 3, 1) := by decide +kernel
theorem dX12_melt_112 : decode cX12_melt 112 = .ok (.iconst 4, 1) := by decide +kernel
theorem dX12_melt_113 : decode cX12_melt 113 = .ok (.if_icmp .ge 88, 3) := by decide +kernel
theorem dX12_melt_116 : decode cX12_melt 116 = .ok (.iconst 0, 1) := by decide +kernel
theorem dX12_melt_117 : decode cX12_melt 117 = .ok (.istore 4, 2) := by decide +kernel
theorem dX12_melt_119 : decode cX12_melt 119 = .ok (.iconst 0, 1) := by decide +kernel
theorem dX12_melt_120 : decode cX12_melt 120 = .ok (.istore 5, 2) := by decide +kernel
theorem dX12_melt_122 : decode cX12_melt 122 = .ok (.iload 5, 2) := by decide +kernel
theorem dX12_melt_124 : decode cX12_melt 124 = .ok (.aload_n 0, 1) := by decide +kernel
theorem dX12_melt_125 : decode cX12_melt 125 = .ok (.getfield 7, 3) := by decide +kernel
theorem dX12_melt_128 : decode cX12_melt 128 = .ok (.iconst 1, 1) := by decide +kernel
theorem dX12_melt_129 : decode cX12_melt 129 = .ok (.iaload, 1) := by decide +kernel
theorem dX12_melt_130 : decode cX12_melt 130 = .ok (.if_icmp .ge 47, 3) := by decide +kernel
theorem dX12_melt_177 : decode cX12_melt 177 = .ok (.aload_n 0, 1) := by decide +kernel
theorem dX12_melt_178 : decode cX12_melt 178 = .ok (.getfield 19, 3) := by decide +kernel
theorem dX12_melt_181 : decode cX12_melt 181 = .ok (.bipush 24, 2) := by decide +kernel
theorem dX12_melt_183 : decode cX12_melt 183 = .ok (.iload_n 3, 1) := by decide +kernel
theorem dX12_melt_184 : decode cX12_melt 184 = .ok (.imul, 1) := by decide +kernel
theorem dX12_melt_185 : decode cX12_melt 185 = .ok (.aload_n 0, 1) := by decide +kernel
theorem dX12_melt_186 : decode cX12_melt 186 = .ok (.getfield 81, 3) := by decide +kernel
theorem dX12_melt_189 : decode cX12_melt 189 = .ok (.iload_n 2, 1) := by decide +kernel
theorem dX12_melt_190 : decode cX12_melt 190 = .ok (.iaload, 1) := by decide +kernel
theorem dX12_melt_191 : decode cX12_melt 191 = .ok (.iadd, 1) := by decide +kernel
theorem dX12_melt_192 : decode cX12_melt 192 = .ok (.iload 4, 2) := by decide +kernel
theorem dX12_melt_194 : decode cX12_melt 194 = .ok (.iastore, 1) := by decide +kernel
theorem dX12_melt_195 : decode cX12_melt 195 = .ok (.iinc 3 1, 3) := by decide +kernel
theorem dX12_melt_198 : decode cX12_melt 198 = .ok (.goto (-87), 3) := by decide +kernel
theorem dX12_melt_133 : decode cX12_melt 133 = .ok (.iload 4, 2) := by decide +kernel
theorem dX12_melt_135 : decode cX12_melt 135 = .ok (.aload_n 0, 1) := by decide +kernel
theorem dX12_melt_136 : decode cX12_melt 136 = .ok (.iconst 1, 1) := by decide +kernel
theorem dX12_melt_137 : decode cX12_melt 137 = .ok (.iload_n 3, 1) := by decide +kernel
theorem dX12_melt_138 : decode cX12_melt 138 = .ok (.iload_n 2, 1) := by decide +kernel
theorem dX12_melt_139 : decode cX12_melt 139 = .ok (.invokevirtual 135, 3) := by decide +kernel
theorem dX12_melt_142 : decode cX12_melt 142 = .ok (.iload 5, 2) := by decide +kernel
theorem dX12_melt_144 : decode cX12_melt 144 = .ok (.ishr, 1) := by decide +kernel
theorem dX12_melt_145 : decode cX12_melt 145 = .ok (.iconst 1, 1) := by decide +kernel
theorem dX12_melt_146 : decode cX12_melt 146 = .ok (.iand, 1) := by decide +kernel
theorem dX12_melt_147 : decode cX12_melt 147 = .ok (.iconst 1, 1) := by decide +kernel
theorem dX12_melt_148 : decode cX12_melt 148 = .ok (.if_icmp .ne 19, 3) := by decide +kernel
theorem dX12_melt_167 : decode cX12_melt 167 = .ok (.iconst 0, 1) := by decide +kernel
theorem dX12_melt_168 : decode cX12_melt 168 = .ok (.ior, 1) := by decide +kernel
theorem dX12_melt_169 : decode cX12_melt 169 = .ok (.istore 4, 2) := by decide +kernel
theorem dX12_melt_171 : decode cX12_melt 171 = .ok (.iinc 5 1, 3) := by decide +kernel
theorem dX12_melt_174 : decode cX12_melt 174 = .ok (.goto (-52), 3) := by decide +kernel
theorem dX12_melt_151 : decode cX12_melt 151 = .ok (.iconst 1, 1) := by decide +kernel
theorem dX12_melt_152 : decode cX12_melt 152 = .ok (.aload_n 0, 1) := by decide +kernel
theorem dX12_melt_153 : decode cX12_melt 153 = .ok (.getfield 81, 3) := by decide +kernel
theorem dX12_melt_156 : decode cX12_melt 156 = .ok (.aload_n 0, 1) := by decide +kernel
theorem dX12_melt_157 : decode cX12_melt 157 = .ok (.iload 5, 2) := by decide +kernel
theorem dX12_melt_159 : decode cX12_melt 159 = .ok (.invokevirtual 301, 3) := by decide +kernel
theorem dX12_melt_162 : decode cX12_melt 162 = .ok (.iaload, 1) := by decide +kernel
theorem dX12_melt_163 : decode cX12_melt 163 = .ok (.ishl, 1) := by decide +kernel
theorem dX12_melt_164 : decode cX12_melt 164 = .ok (.goto 4, 3) := by decide +kernel
theorem dX12_melt_43 : decode cX12_melt 43 = .ok (.aload_n 0, 1) := by decide +kernel
theorem dX12_melt_44 : decode cX12_melt 44 = .ok (.iload_n 2, 1) := by decide +kernel
theorem dX12_melt_45 : decode cX12_melt 45 = .ok (.invokevirtual 301, 3) := by decide +kernel
theorem dX12_melt_48 : decode cX12_melt 48 = .ok (.iload_n 2, 1) := by decide +kernel
theorem dX12_melt_49 : decode cX12_melt 49 = .ok (.if_icmp .ne 13, 3) := by decide +kernel
theorem dX12_melt_62 : decode cX12_melt 62 = .ok (.iinc 2 1, 3) := by decide +kernel
theorem dX12_melt_65 : decode cX12_melt 65 = .ok (.goto (-32), 3) := by decide +kernel
theorem dX12_melt_52 : decode cX12_melt 52 = .ok (.aload_n 0, 1) := by decide +kernel
theorem dX12_melt_53 : decode cX12_melt 53 = .ok (.getfield 81, 3) := by decide +kernel
theorem dX12_melt_56 : decode cX12_melt 56 = .ok (.iload_n 2, 1) := by decide +kernel
theorem dX12_melt_57 : decode cX12_melt 57 = .ok (.iload_n 1, 1) := by decide +kernel
theorem dX12_melt_58 : decode cX12_melt 58 = .ok (.iastore, 1) := by decide +kernel
theorem dX12_melt_59 : decode cX12_melt 59 = .ok (.iinc 1 1, 3) := by decide +kernel
theorem dX12_melt_9 : decode cX12_melt 9 = .ok (.bipush (-2), 2) := by decide +kernel
theorem dX12_melt_11 : decode cX12_melt 11 = .ok (.ireturn, 1) := by decide +kernel
set_option maxRecDepth 100000 in
set_option maxHeartbeats 4000000 in
theorem y_melt (l : Launch) (E : EV) (ro : va_W) (hm : Nat) (m_manys : Nat) (m_reals : Nat) (m_factsOf : Nat) (m_possible : Nat) (q_undos : Nat) (q_models : Nat) (m_tape : Nat) (q_taped : Nat) (q_fault : Int32) (q_wrong : Int32) (q_wrongAt : Int32) (q_spot : Int32) (q_place : Int32) (q_token : Int32) (q_value : Int32) (m_ends : Nat) (m_letters : Nat) (m_actOf : Nat) (m_whom : Nat) (m_actMany : Nat) (m_tokens : Nat) (m_afters : Nat) (m_afterOf : Nat) (q_counted : Int32) (m_pile : Nat) (m_caseMany : Nat) (m_happen : Nat) (m_hasIf : Nat) (m_becomes : Nat) (m_goneOf : Nat) (m_heard : Nat) (m_pairs : Nat) (m_heaps : Nat) (q_rounds : Int32) (q_heapMany : Int32) (m_led : Nat) (m_newAt : Nat) (m_knowing : Nat) (m_firsts : Nat) (q_people : Nat) (m_secrets : Nat) (m_tried : Nat) (m_lanes : Nat) (m_lengths : Nat) (m_cells : Nat) (f_manys : Nat → Int32) (f_reals : Nat → Int32) (f_factsOf : Nat → Int32) (f_possible : Nat → Int32) (f_heaps : Nat → Int32) (f_led : Nat → Int64) (f_newAt : Nat → Int32) (hb_manys : NB 18 24 f_manys) (hb_reals : NB 18 23 f_reals) (hpg : PG f_manys f_reals) (hwf : WFP (pgs f_manys f_reals f_factsOf f_possible)) (hq_undos : q_undos ≤ 8) : CT l yX12_melt (Cond.code yX12_melt cX12_melt 6 (some .int) :: TB) ({ frames := 3, cells := 0, slots := 0, locals := 78 }) E ro [.ref hm] [(hm, .inr (12, [.ref m_manys, .ref m_reals, .ref m_factsOf, .ref m_possible, .int (nI q_undos), .int (nI q_models), .ref m_tape, .int (nI q_taped), .int q_fault, .int q_wrong, .int q_wrongAt, .int q_spot, .int q_place, .int q_token, .int q_value, .ref m_ends, .ref m_letters, .ref m_actOf, .ref m_whom, .ref m_actMany, .ref m_tokens, .ref m_afters, .ref m_afterOf, .int q_counted, .ref m_pile, .ref m_caseMany, .ref m_happen, .ref m_hasIf, .ref m_becomes, .ref m_goneOf, .ref m_heard, .ref m_pairs, .ref m_heaps, .int q_rounds, .int q_heapMany, .ref m_led, .ref m_newAt, .ref m_knowing, .ref m_firsts, .int (nI q_people), .ref m_secrets, .ref m_tried, .ref m_lanes, .ref m_lengths, .ref m_cells])), (m_manys, .inl (E.2.1 1, 18, .inl f_manys)), (m_reals, .inl (E.2.1 1, 18, .inl f_reals)), (m_factsOf, .inl (E.2.1 1, 432, .inl f_factsOf)), (m_possible, .inl (E.2.1 1, 1728, .inl f_possible)), (m_heaps, .inl (E.2.1 1, 2400, .inl f_heaps)), (m_led, .inl (E.2.1 2, 192, .inr (.inl f_led))), (m_newAt, .inl (E.2.1 1, 24, .inl f_newAt))] (Qi E (fun (rz : Int32) uz => (∃ (uz_ : Nat) (rz_ : Int32) (hmz : Int32) (f_manysz : Nat → Int32) (f_realsz : Nat → Int32) (f_factsOfz : Nat → Int32) (f_possiblez : Nat → Int32) (f_heapsz : Nat → Int32) (f_ledz : Nat → Int64) (f_newAtz : Nat → Int32), uz = [(hm, .inr (12, [.ref m_manys, .ref m_reals, .ref m_factsOf, .ref m_possible, .int (nI uz_), .int (nI q_models), .ref m_tape, .int (nI q_taped), .int q_fault, .int q_wrong, .int q_wrongAt, .int q_spot, .int q_place, .int q_token, .int q_value, .ref m_ends, .ref m_letters, .ref m_actOf, .ref m_whom, .ref m_actMany, .ref m_tokens, .ref m_afters, .ref m_afterOf, .int q_counted, .ref m_pile, .ref m_caseMany, .ref m_happen, .ref m_hasIf, .ref m_becomes, .ref m_goneOf, .ref m_heard, .ref m_pairs, .ref m_heaps, .int rz_, .int hmz, .ref m_led, .ref m_newAt, .ref m_knowing, .ref m_firsts, .int (nI q_people), .ref m_secrets, .ref m_tried, .ref m_lanes, .ref m_lengths, .ref m_cells])), (m_manys, .inl (E.2.1 1, 18, .inl f_manysz)), (m_reals, .inl (E.2.1 1, 18, .inl f_realsz)), (m_factsOf, .inl (E.2.1 1, 432, .inl f_factsOfz)), (m_possible, .inl (E.2.1 1, 1728, .inl f_possiblez)), (m_heaps, .inl (E.2.1 1, 2400, .inl f_heapsz)), (m_led, .inl (E.2.1 2, 192, .inr (.inl f_ledz))), (m_newAt, .inl (E.2.1 1, 24, .inl f_newAtz))] ∧ (NB 18 24 f_manysz) ∧ (NB 18 23 f_realsz) ∧ (PG f_manysz f_realsz) ∧ (WFP (pgs f_manysz f_realsz f_factsOfz f_possiblez)) ∧ (uz_ ≤ 8) ∧ ((asM uz_ (pgs f_manysz f_realsz f_factsOfz f_possiblez), rz) = opMelt (asM q_undos (pgs f_manys f_reals f_factsOf f_possible))) ∧ (KP6 (pgs f_manys f_reals f_factsOf f_possible) (pgs f_manysz f_realsz f_factsOfz f_possiblez))))) 0 0 := by
  refine ct_of rfl rfl ?_
  intro X C hT hin hro
  show WW X 6 E 0 [(0, .ref hm)] [] [(hm, .inr (12, [.ref m_manys, .ref m_reals, .ref m_factsOf, .ref m_possible, .int (nI q_undos), .int (nI q_models), .ref m_tape, .int (nI q_taped), .int q_fault, .int q_wrong, .int q_wrongAt, .int q_spot, .int q_place, .int q_token, .int q_value, .ref m_ends, .ref m_letters, .ref m_actOf, .ref m_whom, .ref m_actMany, .ref m_tokens, .ref m_afters, .ref m_afterOf, .int q_counted, .ref m_pile, .ref m_caseMany, .ref m_happen, .ref m_hasIf, .ref m_becomes, .ref m_goneOf, .ref m_heard, .ref m_pairs, .ref m_heaps, .int q_rounds, .int q_heapMany, .ref m_led, .ref m_newAt, .ref m_knowing, .ref m_firsts, .int (nI q_people), .ref m_secrets, .ref m_tried, .ref m_lanes, .ref m_lengths, .ref m_cells])), (m_manys, .inl (E.2.1 1, 18, .inl f_manys)), (m_reals, .inl (E.2.1 1, 18, .inl f_reals)), (m_factsOf, .inl (E.2.1 1, 432, .inl f_factsOf)), (m_possible, .inl (E.2.1 1, 1728, .inl f_possible)), (m_heaps, .inl (E.2.1 1, 2400, .inl f_heaps)), (m_led, .inl (E.2.1 2, 192, .inr (.inl f_led))), (m_newAt, .inl (E.2.1 1, 24, .inl f_newAt))] 0 0
  have hmn0 := (hb_manys 0 (by omega)).2
  have hpg0 := hpg 0 (by omega)
  refine ww_aload_n C dX12_melt_0 0 rfl rfl ?_
  refine ww_get C fg_X12_7 0 rfl rfl dX12_melt_1 ?_
  refine ww_iconst (v := 0) C dX12_melt_4 rfl ?_
  have hbx_1 := (hb_manys 0 (by omega)).2
  refine ww_iald (v := (nI (cN f_manys 0))) C 1 rfl (vin rfl) (hb_manys 0 (by omega)).1 dX12_melt_5 ?_
  refine ww_if_ne (tgt := 12) C dX12_melt_6 (by decide) (fun c_2 => ?_) (fun c_2 => ?_)
  · have zc_2 : ((cN f_manys 0 : Nat) : Int) ≠ 0 := i_ne (nI_toInt (n := cN f_manys 0) (by omega)) rfl c_2
    refine ww_aload_n C dX12_melt_12 0 rfl rfl ?_
    refine ww_iconst (v := 0) C dX12_melt_13 rfl ?_
    refine ww_bipush (v := (-4)) C dX12_melt_14 rfl ?_
    refine ww_cv (wr := [(m_newAt, .inl (E.2.1 1, 24, .inl f_newAt))]) (k' := 0) (n' := 0) C (run_V (As := [.int 0, .int (-4)]) (rest := []) C (r_layHeapsN X.2.1 E ro hm m_manys m_reals m_factsOf m_possible q_undos q_models m_tape q_taped q_fault q_wrong q_wrongAt q_spot q_place q_token q_value m_ends m_letters m_actOf m_whom m_actMany m_tokens m_afters m_afterOf q_counted m_pile m_caseMany m_happen m_hasIf m_becomes m_goneOf m_heard m_pairs m_heaps q_rounds q_heapMany m_led m_newAt m_knowing m_firsts q_people m_secrets m_tried m_lanes m_lengths m_cells f_manys f_reals f_factsOf f_possible f_heaps f_led hb_manys hb_reals hpg hwf) mi_X12_layHeaps wl_X12_298 rfl 0 12 rfl rfl rfl rfl rfl dX12_melt_16) (roK hro) [0, 1, 2, 3, 4, 5, 6] [7] rfl rfl rfl rfl (fun uz hw => ?_)
    refine ex4 hw ?_
    clear hw
    intro rz__4 hmz_5 f_heapsz_6 f_ledz_7 hw
    refine an5 hw ?_
    clear hw
    intro he_13 h_8 h_9 h_10 h_11 hw
    have h_12 := hw
    clear hw
    subst he_13
    refine ww_eq (ws' := [(m_newAt, .inl (E.2.1 1, 24, .inl f_newAt)), (hm, .inr (12, [.ref m_manys, .ref m_reals, .ref m_factsOf, .ref m_possible, .int (nI q_undos), .int (nI q_models), .ref m_tape, .int (nI q_taped), .int q_fault, .int q_wrong, .int q_wrongAt, .int q_spot, .int q_place, .int q_token, .int q_value, .ref m_ends, .ref m_letters, .ref m_actOf, .ref m_whom, .ref m_actMany, .ref m_tokens, .ref m_afters, .ref m_afterOf, .int q_counted, .ref m_pile, .ref m_caseMany, .ref m_happen, .ref m_hasIf, .ref m_becomes, .ref m_goneOf, .ref m_heard, .ref m_pairs, .ref m_heaps, .int (nI rz__4), .int (nI hmz_5), .ref m_led, .ref m_newAt, .ref m_knowing, .ref m_firsts, .int (nI q_people), .ref m_secrets, .ref m_tried, .ref m_lanes, .ref m_lengths, .ref m_cells])), (m_manys, .inl (E.2.1 1, 18, .inl f_manys)), (m_reals, .inl (E.2.1 1, 18, .inl f_reals)), (m_factsOf, .inl (E.2.1 1, 432, .inl f_factsOf)), (m_possible, .inl (E.2.1 1, 1728, .inl f_possible)), (m_heaps, .inl (E.2.1 1, 2400, .inl f_heapsz_6)), (m_led, .inl (E.2.1 2, 192, .inr (.inl f_ledz_7)))]) ?_ rfl rfl rfl
    have hre := (RST.end h_12 (cm1_wf (hwf 0 (by omega))) h_11)
    refine ww_aload_n C dX12_melt_19 0 rfl rfl ?_
    refine ww_cv (wr := [(m_newAt, .inl (E.2.1 1, 24, .inl f_newAt)), (m_heaps, .inl (E.2.1 1, 2400, .inl f_heapsz_6)), (m_led, .inl (E.2.1 2, 192, .inr (.inl f_ledz_7)))]) (k' := 0) (n' := 0) C (run_V (As := []) (rest := []) C (r_acts X.2.1 E ro hm m_manys m_reals m_factsOf m_possible q_undos q_models m_tape q_taped q_fault q_wrong q_wrongAt q_spot q_place q_token q_value m_ends m_letters m_actOf m_whom m_actMany m_tokens m_afters m_afterOf q_counted m_pile m_caseMany m_happen m_hasIf m_becomes m_goneOf m_heard m_pairs m_heaps (nI rz__4) (nI hmz_5) m_led m_newAt m_knowing m_firsts q_people m_secrets m_tried m_lanes m_lengths m_cells f_manys f_reals f_factsOf f_possible hb_manys hb_reals hpg hwf (by omega)) mi_X12_acts wl_X12_121 rfl 0 12 rfl rfl rfl rfl rfl dX12_melt_20) (roK hro) [1, 2, 3, 4, 5] [0, 6, 7] rfl rfl rfl rfl (fun uz hw => ?_)
    refine ex5 hw ?_
    clear hw
    intro uz__15 f_manysz_16 f_realsz_17 f_factsOfz_18 f_possiblez_19 hw
    refine an8 hw ?_
    clear hw
    intro he_30 h_20 h_21 h_22 h_23 h_24 h_25 h_26 hw
    refine an2 hw ?_
    clear hw
    intro h_27 h_28 hw
    have h_29 := hw
    clear hw
    subst he_30
    refine ww_eq (ws' := [(m_newAt, .inl (E.2.1 1, 24, .inl f_newAt)), (m_heaps, .inl (E.2.1 1, 2400, .inl f_heapsz_6)), (m_led, .inl (E.2.1 2, 192, .inr (.inl f_ledz_7))), (hm, .inr (12, [.ref m_manys, .ref m_reals, .ref m_factsOf, .ref m_possible, .int (nI uz__15), .int (nI q_models), .ref m_tape, .int (nI q_taped), .int q_fault, .int q_wrong, .int q_wrongAt, .int q_spot, .int q_place, .int q_token, .int q_value, .ref m_ends, .ref m_letters, .ref m_actOf, .ref m_whom, .ref m_actMany, .ref m_tokens, .ref m_afters, .ref m_afterOf, .int q_counted, .ref m_pile, .ref m_caseMany, .ref m_happen, .ref m_hasIf, .ref m_becomes, .ref m_goneOf, .ref m_heard, .ref m_pairs, .ref m_heaps, .int (nI rz__4), .int (nI hmz_5), .ref m_led, .ref m_newAt, .ref m_knowing, .ref m_firsts, .int (nI q_people), .ref m_secrets, .ref m_tried, .ref m_lanes, .ref m_lengths, .ref m_cells])), (m_manys, .inl (E.2.1 1, 18, .inl f_manysz_16)), (m_reals, .inl (E.2.1 1, 18, .inl f_realsz_17)), (m_factsOf, .inl (E.2.1 1, 432, .inl f_factsOfz_18)), (m_possible, .inl (E.2.1 1, 1728, .inl f_possiblez_19))]) ?_ rfl rfl rfl
    have hmb := (h_20 0 (by omega)).2
    have hrb := (h_21 0 (by omega)).2
    refine ww_aload_n C dX12_melt_23 0 rfl rfl ?_
    refine ww_iconst (v := 0) C dX12_melt_24 rfl ?_
    refine ww_iconst (v := 1) C dX12_melt_25 rfl ?_
    refine ww_cv (wr := [(m_newAt, .inl (E.2.1 1, 24, .inl f_newAt)), (m_heaps, .inl (E.2.1 1, 2400, .inl f_heapsz_6)), (m_led, .inl (E.2.1 2, 192, .inr (.inl f_ledz_7)))]) (k' := 0) (n' := 0) C (run_V (As := [.int 0, .int 1]) (rest := []) C (r_copy X.2.1 E ro hm 0 1 m_manys m_reals m_factsOf m_possible uz__15 q_models m_tape q_taped q_fault q_wrong q_wrongAt q_spot q_place q_token q_value m_ends m_letters m_actOf m_whom m_actMany m_tokens m_afters m_afterOf q_counted m_pile m_caseMany m_happen m_hasIf m_becomes m_goneOf m_heard m_pairs m_heaps (nI rz__4) (nI hmz_5) m_led m_newAt m_knowing m_firsts q_people m_secrets m_tried m_lanes m_lengths m_cells f_manysz_16 f_realsz_17 f_factsOfz_18 f_possiblez_19 h_20 h_21 h_22 h_23 (by omega) (by omega)) mi_X12_copy wl_X12_109 rfl 0 12 rfl rfl rfl rfl rfl dX12_melt_26) (roK hro) [3, 4, 5, 6, 7] [0, 1, 2] rfl rfl rfl rfl (fun uz hw => ?_)
    refine ex4 hw ?_
    clear hw
    intro f_manysz_32 f_realsz_33 f_factsOfz_34 f_possiblez_35 hw
    refine an8 hw ?_
    clear hw
    intro he_45 h_36 h_37 h_38 h_39 h_40 h_41 h_42 hw
    refine an1 hw ?_
    clear hw
    intro h_43 hw
    have h_44 := hw
    clear hw
    subst he_45
    refine ww_eq (ws' := [(m_newAt, .inl (E.2.1 1, 24, .inl f_newAt)), (m_heaps, .inl (E.2.1 1, 2400, .inl f_heapsz_6)), (m_led, .inl (E.2.1 2, 192, .inr (.inl f_ledz_7))), (hm, .inr (12, [.ref m_manys, .ref m_reals, .ref m_factsOf, .ref m_possible, .int (nI uz__15), .int (nI q_models), .ref m_tape, .int (nI q_taped), .int q_fault, .int q_wrong, .int q_wrongAt, .int q_spot, .int q_place, .int q_token, .int q_value, .ref m_ends, .ref m_letters, .ref m_actOf, .ref m_whom, .ref m_actMany, .ref m_tokens, .ref m_afters, .ref m_afterOf, .int q_counted, .ref m_pile, .ref m_caseMany, .ref m_happen, .ref m_hasIf, .ref m_becomes, .ref m_goneOf, .ref m_heard, .ref m_pairs, .ref m_heaps, .int (nI rz__4), .int (nI hmz_5), .ref m_led, .ref m_newAt, .ref m_knowing, .ref m_firsts, .int (nI q_people), .ref m_secrets, .ref m_tried, .ref m_lanes, .ref m_lengths, .ref m_cells])), (m_manys, .inl (E.2.1 1, 18, .inl f_manysz_32)), (m_reals, .inl (E.2.1 1, 18, .inl f_realsz_33)), (m_factsOf, .inl (E.2.1 1, 432, .inl f_factsOfz_34)), (m_possible, .inl (E.2.1 1, 1728, .inl f_possiblez_35))]) ?_ rfl rfl rfl
    have hm1 := cN_s (by omega) h_40
    have hr1 := cN_s (by omega) h_41
    have hm10 := cN_n (j := 0) h_40 (by omega)
    have hkm := KP.at h_25 (p := 0) (by omega)
    have hkr := KP.at h_26 (p := 0) (by omega)
    have hp1 := (h_44 1 (by omega)).trans ((if_pos rfl).trans (REMS.p0 h_29))
    refine ww_iconst (v := 0) C dX12_melt_29 rfl ?_
    refine ww_istore_n (lv' := [(1, .int 0), (0, .ref hm)]) C dX12_melt_30 rfl rfl rfl ?_
    refine ww_iconst (v := 0) C dX12_melt_31 rfl ?_
    refine ww_istore_n (lv' := [(2, .int 0), (1, .int 0), (0, .ref hm)]) C dX12_melt_32 rfl rfl rfl ?_
    have loop_33 : ∀ (fu : Nat) (w1 : Nat) (c1 : Nat) (g1 : Nat → Int32), (w1 ≤ cN f_manys 0) → (c1 ≤ w1) → (c1 = cb (mlP (pgs f_manys f_reals f_factsOf f_possible 0)) w1) → (MNx (mlP (pgs f_manys f_reals f_factsOf f_possible 0)) w1 g1) → cN f_manys 0 - w1 < fu → WW X 6 E 33 [(2, .int (nI w1)), (1, .int (nI c1)), (0, .ref hm)] [] [(m_newAt, .inl (E.2.1 1, 24, .inl g1)), (m_heaps, .inl (E.2.1 1, 2400, .inl f_heapsz_6)), (m_led, .inl (E.2.1 2, 192, .inr (.inl f_ledz_7))), (hm, .inr (12, [.ref m_manys, .ref m_reals, .ref m_factsOf, .ref m_possible, .int (nI uz__15), .int (nI q_models), .ref m_tape, .int (nI q_taped), .int q_fault, .int q_wrong, .int q_wrongAt, .int q_spot, .int q_place, .int q_token, .int q_value, .ref m_ends, .ref m_letters, .ref m_actOf, .ref m_whom, .ref m_actMany, .ref m_tokens, .ref m_afters, .ref m_afterOf, .int q_counted, .ref m_pile, .ref m_caseMany, .ref m_happen, .ref m_hasIf, .ref m_becomes, .ref m_goneOf, .ref m_heard, .ref m_pairs, .ref m_heaps, .int (nI rz__4), .int (nI hmz_5), .ref m_led, .ref m_newAt, .ref m_knowing, .ref m_firsts, .int (nI q_people), .ref m_secrets, .ref m_tried, .ref m_lanes, .ref m_lengths, .ref m_cells])), (m_manys, .inl (E.2.1 1, 18, .inl f_manysz_32)), (m_reals, .inl (E.2.1 1, 18, .inl f_realsz_33)), (m_factsOf, .inl (E.2.1 1, 432, .inl f_factsOfz_34)), (m_possible, .inl (E.2.1 1, 1728, .inl f_possiblez_35))] 0 0 := by
      intro fu
      induction fu with
      | zero => intro w1 c1 g1 hw1 hcw hc1 hmn hmeas; exact absurd hmeas (Nat.not_lt_zero _)
      | succ fu ih_33 =>
        intro w1 c1 g1 hw1 hcw hc1 hmn hmeas
        refine ww_iload_n C dX12_melt_33 0 rfl rfl ?_
        refine ww_aload_n C dX12_melt_34 2 rfl rfl ?_
        refine ww_get C fg_X12_7 3 rfl rfl dX12_melt_35 ?_
        refine ww_iconst (v := 1) C dX12_melt_38 rfl ?_
        have hbx_46 := (h_36 1 (by omega)).2
        refine ww_iald (v := (nI (cN f_manysz_32 1))) C 4 rfl (vin rfl) (h_36 1 (by omega)).1 dX12_melt_39 ?_
        refine ww_icmp_ge (tgt := 68) C dX12_melt_40 (by decide) (fun c_47 => ?_) (fun c_47 => ?_)
        · have zc_47 : ((w1 : Nat) : Int) ≥ ((cN f_manysz_32 1 : Nat) : Int) := i_le (nI_toInt (n := cN f_manysz_32 1) (by omega)) (nI_toInt (n := w1) (by omega)) c_47
          refine ww_iconst (v := 0) C dX12_melt_68 rfl ?_
          refine ww_istore_n (lv' := [(2, .int 0), (1, .int (nI c1)), (0, .ref hm)]) C dX12_melt_69 rfl rfl rfl ?_
          have hw1n : w1 = cN f_manys 0 := by omega
          rw [hw1n] at hmn hc1
          have hC24 := cb_le (mlP (pgs f_manys f_reals f_factsOf f_possible 0)) (cN f_manys 0)
          have loop_70 : ∀ (fu : Nat) (w2 : Nat) (g_fa : Nat → Int32) (g_po : Nat → Int32), (w2 ≤ cN f_manys 0) → (PFx (mlP (pgs f_manys f_reals f_factsOf f_possible 0)) w2 (pgs f_manys f_reals f_factsOf f_possible 0).2.2.1 g_fa) → (OFF 24 0 f_factsOfz_34 g_fa) → (PRy (mlP (pgs f_manys f_reals f_factsOf f_possible 0)) (cN f_manys 0) w2 0 (fun k p q => anyN (fun v => (pgs f_manys f_reals f_factsOf f_possible 0).2.2.2 k p v && decide (clsS (cm1 (pgs f_manys f_reals f_factsOf f_possible 0)) v = q)) 24) g_po) → (OFF 96 0 f_possiblez_35 g_po) → cN f_manys 0 - w2 < fu → WW X 6 E 70 [(2, .int (nI w2)), (1, .int (nI c1)), (0, .ref hm)] [] [(m_newAt, .inl (E.2.1 1, 24, .inl g1)), (m_heaps, .inl (E.2.1 1, 2400, .inl f_heapsz_6)), (m_led, .inl (E.2.1 2, 192, .inr (.inl f_ledz_7))), (hm, .inr (12, [.ref m_manys, .ref m_reals, .ref m_factsOf, .ref m_possible, .int (nI uz__15), .int (nI q_models), .ref m_tape, .int (nI q_taped), .int q_fault, .int q_wrong, .int q_wrongAt, .int q_spot, .int q_place, .int q_token, .int q_value, .ref m_ends, .ref m_letters, .ref m_actOf, .ref m_whom, .ref m_actMany, .ref m_tokens, .ref m_afters, .ref m_afterOf, .int q_counted, .ref m_pile, .ref m_caseMany, .ref m_happen, .ref m_hasIf, .ref m_becomes, .ref m_goneOf, .ref m_heard, .ref m_pairs, .ref m_heaps, .int (nI rz__4), .int (nI hmz_5), .ref m_led, .ref m_newAt, .ref m_knowing, .ref m_firsts, .int (nI q_people), .ref m_secrets, .ref m_tried, .ref m_lanes, .ref m_lengths, .ref m_cells])), (m_manys, .inl (E.2.1 1, 18, .inl f_manysz_32)), (m_reals, .inl (E.2.1 1, 18, .inl f_realsz_33)), (m_factsOf, .inl (E.2.1 1, 432, .inl g_fa)), (m_possible, .inl (E.2.1 1, 1728, .inl g_po))] 0 0 := by
            intro fu
            induction fu with
            | zero => intro w2 g_fa g_po hw2 hpf hof hpy hog hmeas; exact absurd hmeas (Nat.not_lt_zero _)
            | succ fu ih_70 =>
              intro w2 g_fa g_po hw2 hpf hof hpy hog hmeas
              refine ww_iload_n C dX12_melt_70 0 rfl rfl ?_
              refine ww_aload_n C dX12_melt_71 2 rfl rfl ?_
              refine ww_get C fg_X12_7 3 rfl rfl dX12_melt_72 ?_
              refine ww_iconst (v := 1) C dX12_melt_75 rfl ?_
              have hbx_48 := (h_36 1 (by omega)).2
              refine ww_iald (v := (nI (cN f_manysz_32 1))) C 4 rfl (vin rfl) (h_36 1 (by omega)).1 dX12_melt_76 ?_
              refine ww_icmp_ge (tgt := 207) C dX12_melt_77 (by decide) (fun c_49 => ?_) (fun c_49 => ?_)
              · have zc_49 : ((w2 : Nat) : Int) ≥ ((cN f_manysz_32 1 : Nat) : Int) := i_le (nI_toInt (n := cN f_manysz_32 1) (by omega)) (nI_toInt (n := w2) (by omega)) c_49
                refine ww_aload_n C dX12_melt_207 2 rfl rfl ?_
                refine ww_get C fg_X12_13 3 rfl rfl dX12_melt_208 ?_
                refine ww_iconst (v := 0) C dX12_melt_211 rfl ?_
                refine ww_aload_n C dX12_melt_212 2 rfl rfl ?_
                refine ww_get C fg_X12_81 3 rfl rfl dX12_melt_213 ?_
                refine ww_aload_n C dX12_melt_216 2 rfl rfl ?_
                refine ww_aload_n C dX12_melt_217 2 rfl rfl ?_
                refine ww_get C fg_X12_13 3 rfl rfl dX12_melt_218 ?_
                refine ww_iconst (v := 1) C dX12_melt_221 rfl ?_
                have hbx_50 := (h_37 1 (by omega)).2
                refine ww_iald (v := (nI (cN f_realsz_33 1))) C 5 rfl (vin rfl) (h_37 1 (by omega)).1 dX12_melt_222 ?_
                refine ww_ci (wr := [(m_newAt, .inl (E.2.1 1, 24, .inl g1)), (m_led, .inl (E.2.1 2, 192, .inr (.inl f_ledz_7))), (m_manys, .inl (E.2.1 1, 18, .inl f_manysz_32)), (m_reals, .inl (E.2.1 1, 18, .inl f_realsz_33)), (m_factsOf, .inl (E.2.1 1, 432, .inl g_fa)), (m_possible, .inl (E.2.1 1, 1728, .inl g_po))]) (k' := 0) (n' := 0) C (run_V (As := [.int (nI (cN f_realsz_33 1))]) (rest := [.ref m_newAt, .int 0, .ref m_reals]) C (r_heapOf X.2.1 E ro hm (cN f_realsz_33 1) m_manys m_reals m_factsOf m_possible uz__15 q_models m_tape q_taped q_fault q_wrong q_wrongAt q_spot q_place q_token q_value m_ends m_letters m_actOf m_whom m_actMany m_tokens m_afters m_afterOf q_counted m_pile m_caseMany m_happen m_hasIf m_becomes m_goneOf m_heard m_pairs m_heaps rz__4 (nI hmz_5) m_led m_newAt m_knowing m_firsts q_people m_secrets m_tried m_lanes m_lengths m_cells f_heapsz_6 (by omega) (by omega)) mi_X12_heapOf wl_X12_301 rfl 0 12 rfl rfl rfl rfl rfl dX12_melt_223) (roK hro) [3, 1] [0, 2, 4, 5, 6, 7] rfl rfl rfl rfl (fun r_51 uz hw => ?_)
                refine an1 hw ?_
                clear hw
                intro he_52 hw
                have he_53 := hw
                clear hw
                have he_52 := he_52.symm
                subst he_52
                subst he_53
                refine ww_eq (ws' := [(m_newAt, .inl (E.2.1 1, 24, .inl g1)), (m_led, .inl (E.2.1 2, 192, .inr (.inl f_ledz_7))), (m_manys, .inl (E.2.1 1, 18, .inl f_manysz_32)), (m_reals, .inl (E.2.1 1, 18, .inl f_realsz_33)), (m_factsOf, .inl (E.2.1 1, 432, .inl g_fa)), (m_possible, .inl (E.2.1 1, 1728, .inl g_po)), (hm, .inr (12, [.ref m_manys, .ref m_reals, .ref m_factsOf, .ref m_possible, .int (nI uz__15), .int (nI q_models), .ref m_tape, .int (nI q_taped), .int q_fault, .int q_wrong, .int q_wrongAt, .int q_spot, .int q_place, .int q_token, .int q_value, .ref m_ends, .ref m_letters, .ref m_actOf, .ref m_whom, .ref m_actMany, .ref m_tokens, .ref m_afters, .ref m_afterOf, .int q_counted, .ref m_pile, .ref m_caseMany, .ref m_happen, .ref m_hasIf, .ref m_becomes, .ref m_goneOf, .ref m_heard, .ref m_pairs, .ref m_heaps, .int (nI rz__4), .int (nI hmz_5), .ref m_led, .ref m_newAt, .ref m_knowing, .ref m_firsts, .int (nI q_people), .ref m_secrets, .ref m_tried, .ref m_lanes, .ref m_lengths, .ref m_cells])), (m_heaps, .inl (E.2.1 1, 2400, .inl f_heapsz_6))]) ?_ rfl rfl rfl
                have hcu_c_54 := hre (cN f_realsz_33 1) (show cN f_realsz_33 1 < cN f_manys 0 by omega)
                have hle_hcu_c_54 := ml_le (m := (pgs f_manys f_reals f_factsOf f_possible 0)) (cN f_realsz_33 1)
                have hcb_hcu_c_54 := cb_le (mlP (pgs f_manys f_reals f_factsOf f_possible 0)) (clsS (cm1 (pgs f_manys f_reals f_factsOf f_possible 0)) (cN f_realsz_33 1))
                refine ww_eq (st' := [.int (nI (clsS (cm1 (pgs f_manys f_reals f_factsOf f_possible 0)) (cN f_realsz_33 1))), .ref m_newAt, .int 0, .ref m_reals]) ?_ rfl (by rw [show (f_heapsz_6 (48 * rz__4 + (cN f_realsz_33 1))) = nI (clsS (cm1 (pgs f_manys f_reals f_factsOf f_possible 0)) (cN f_realsz_33 1)) from hcu_c_54]) rfl
                refine ww_iald (v := (nI (cb (mlP (pgs f_manys f_reals f_factsOf f_possible 0)) (clsS (cm1 (pgs f_manys f_reals f_factsOf f_possible 0)) (cN f_realsz_33 1))))) C 0 rfl (vp_in_nI (by omega) (by omega)) (ldn (by omega) (hmn (clsS (cm1 (pgs f_manys f_reals f_factsOf f_possible 0)) (cN f_realsz_33 1)) (by omega) (ml_cls (m := (pgs f_manys f_reals f_factsOf f_possible 0)) (cN f_realsz_33 1)))) dX12_melt_226 ?_
                obtain ⟨f_56, ef_56⟩ : ∃ z : Nat → Int32, upd f_realsz_33 0 (nI (cb (mlP (pgs f_manys f_reals f_factsOf f_possible 0)) (clsS (cm1 (pgs f_manys f_reals f_factsOf f_possible 0)) (cN f_realsz_33 1)))) = z := ⟨_, rfl⟩
                refine ww_iast (ws' := [(m_newAt, .inl (E.2.1 1, 24, .inl g1)), (m_led, .inl (E.2.1 2, 192, .inr (.inl f_ledz_7))), (m_manys, .inl (E.2.1 1, 18, .inl f_manysz_32)), (m_reals, .inl (E.2.1 1, 18, .inl f_56)), (m_factsOf, .inl (E.2.1 1, 432, .inl g_fa)), (m_possible, .inl (E.2.1 1, 1728, .inl g_po)), (hm, .inr (12, [.ref m_manys, .ref m_reals, .ref m_factsOf, .ref m_possible, .int (nI uz__15), .int (nI q_models), .ref m_tape, .int (nI q_taped), .int q_fault, .int q_wrong, .int q_wrongAt, .int q_spot, .int q_place, .int q_token, .int q_value, .ref m_ends, .ref m_letters, .ref m_actOf, .ref m_whom, .ref m_actMany, .ref m_tokens, .ref m_afters, .ref m_afterOf, .int q_counted, .ref m_pile, .ref m_caseMany, .ref m_happen, .ref m_hasIf, .ref m_becomes, .ref m_goneOf, .ref m_heard, .ref m_pairs, .ref m_heaps, .int (nI rz__4), .int (nI hmz_5), .ref m_led, .ref m_newAt, .ref m_knowing, .ref m_firsts, .int (nI q_people), .ref m_secrets, .ref m_tried, .ref m_lanes, .ref m_lengths, .ref m_cells])), (m_heaps, .inl (E.2.1 1, 2400, .inl f_heapsz_6))]) C 3 rfl (vin rfl) ef_56 rfl dX12_melt_227 ?_
                refine ww_aload_n C dX12_melt_228 2 rfl rfl ?_
                refine ww_get C fg_X12_7 6 rfl rfl dX12_melt_229 ?_
                refine ww_iconst (v := 0) C dX12_melt_232 rfl ?_
                refine ww_iload_n C dX12_melt_233 1 rfl rfl ?_
                obtain ⟨f_57, ef_57⟩ : ∃ z : Nat → Int32, upd f_manysz_32 0 (nI c1) = z := ⟨_, rfl⟩
                refine ww_iast (ws' := [(m_newAt, .inl (E.2.1 1, 24, .inl g1)), (m_led, .inl (E.2.1 2, 192, .inr (.inl f_ledz_7))), (m_manys, .inl (E.2.1 1, 18, .inl f_57)), (m_reals, .inl (E.2.1 1, 18, .inl f_56)), (m_factsOf, .inl (E.2.1 1, 432, .inl g_fa)), (m_possible, .inl (E.2.1 1, 1728, .inl g_po)), (hm, .inr (12, [.ref m_manys, .ref m_reals, .ref m_factsOf, .ref m_possible, .int (nI uz__15), .int (nI q_models), .ref m_tape, .int (nI q_taped), .int q_fault, .int q_wrong, .int q_wrongAt, .int q_spot, .int q_place, .int q_token, .int q_value, .ref m_ends, .ref m_letters, .ref m_actOf, .ref m_whom, .ref m_actMany, .ref m_tokens, .ref m_afters, .ref m_afterOf, .int q_counted, .ref m_pile, .ref m_caseMany, .ref m_happen, .ref m_hasIf, .ref m_becomes, .ref m_goneOf, .ref m_heard, .ref m_pairs, .ref m_heaps, .int (nI rz__4), .int (nI hmz_5), .ref m_led, .ref m_newAt, .ref m_knowing, .ref m_firsts, .int (nI q_people), .ref m_secrets, .ref m_tried, .ref m_lanes, .ref m_lengths, .ref m_cells])), (m_heaps, .inl (E.2.1 1, 2400, .inl f_heapsz_6))]) C 2 rfl (vin rfl) ef_57 rfl dX12_melt_234 ?_
                refine ww_iload_n C dX12_melt_235 1 rfl rfl ?_
                exact ww_iret (u := [(hm, .inr (12, [.ref m_manys, .ref m_reals, .ref m_factsOf, .ref m_possible, .int (nI uz__15), .int (nI q_models), .ref m_tape, .int (nI q_taped), .int q_fault, .int q_wrong, .int q_wrongAt, .int q_spot, .int q_place, .int q_token, .int q_value, .ref m_ends, .ref m_letters, .ref m_actOf, .ref m_whom, .ref m_actMany, .ref m_tokens, .ref m_afters, .ref m_afterOf, .int q_counted, .ref m_pile, .ref m_caseMany, .ref m_happen, .ref m_hasIf, .ref m_becomes, .ref m_goneOf, .ref m_heard, .ref m_pairs, .ref m_heaps, .int (nI rz__4), .int (nI hmz_5), .ref m_led, .ref m_newAt, .ref m_knowing, .ref m_firsts, .int (nI q_people), .ref m_secrets, .ref m_tried, .ref m_lanes, .ref m_lengths, .ref m_cells])), (m_manys, .inl (E.2.1 1, 18, .inl f_57)), (m_reals, .inl (E.2.1 1, 18, .inl f_56)), (m_factsOf, .inl (E.2.1 1, 432, .inl g_fa)), (m_possible, .inl (E.2.1 1, 1728, .inl g_po)), (m_heaps, .inl (E.2.1 1, 2400, .inl f_heapsz_6)), (m_led, .inl (E.2.1 2, 192, .inr (.inl f_ledz_7))), (m_newAt, .inl (E.2.1 1, 24, .inl g1))]) C hT [6, 2, 3, 4, 5, 7, 1, 0] rfl rfl rfl rfl dX12_melt_236 (⟨uz__15, (nI rz__4), (nI hmz_5), f_57, f_56, g_fa, g_po, f_heapsz_6, f_ledz_7, g1, rfl, (NB.put h_36 (t := c1) (by omega) (by decide) ef_57), (NB.put h_37 (t := cb (mlP (pgs f_manys f_reals f_factsOf f_possible 0)) (clsS (cm1 (pgs f_manys f_reals f_factsOf f_possible 0)) (cN f_realsz_33 1))) (by omega) (by decide) ef_56), (PG.put (a := c1) (b := cb (mlP (pgs f_manys f_reals f_factsOf f_possible 0)) (clsS (cm1 (pgs f_manys f_reals f_factsOf f_possible 0)) (cN f_realsz_33 1))) h_38 ef_57 ef_56 (by omega) (by omega) (Or.inl (by rw [hc1]; exact cb_lt (by have := ml_le (m := (pgs f_manys f_reals f_factsOf f_possible 0)) (cN f_realsz_33 1); omega) (ml_cls (m := (pgs f_manys f_reals f_factsOf f_possible 0)) _)))), (WFP.at (WFP.copy (REMS.wf h_29 hwf) (by omega) h_44) (pgs_oth h_36 (OFF.put OFF.rf (by omega) (by omega) ef_57) (OFF.put OFF.rf (by omega) (by omega) ef_56) hof hog) (by rw [(pg_melt (m := (pgs f_manys f_reals f_factsOf f_possible 0)) (show cN f_manys 0 ≤ 24 by omega) (by rw [cN_s (by omega) ef_57]; exact hc1) (by rw [cN_s (by omega) ef_56]; show cb (mlP (pgs f_manys f_reals f_factsOf f_possible 0)) (clsS (cm1 (pgs f_manys f_reals f_factsOf f_possible 0)) (cN f_realsz_33 1)) = cb (mlP (pgs f_manys f_reals f_factsOf f_possible 0)) (clsS (cm1 (pgs f_manys f_reals f_factsOf f_possible 0)) (cN f_reals 0)); rw [show cN f_realsz_33 1 = cN f_reals 0 by omega]) (by have h9 : w2 = cN f_manys 0 := (by omega); rw [h9] at hpf; exact hpf) (by have h9 : w2 = cN f_manys 0 := (by omega); rw [h9] at hpy; exact hpy))]; exact cmp_wf)), (by omega), (by show _ = if (cN f_manys 0) = 0 then ((asM q_undos (pgs f_manys f_reals f_factsOf f_possible)), -2) else (aRem (asM q_undos (pgs f_manys f_reals f_factsOf f_possible)) (aMelt (pgs f_manys f_reals f_factsOf f_possible 0)), nI (cb (mlP (pgs f_manys f_reals f_factsOf f_possible 0)) (cN f_manys 0))); rw [if_neg (show ¬ ((cN f_manys 0) = 0) by omega)]; exact Prod.ext (rm_end hq_undos h_29 (fun p a b => ((pgs_oth h_36 (OFF.put OFF.rf (by omega) (by omega) ef_57) (OFF.put OFF.rf (by omega) (by omega) ef_56) hof hog) p b (by omega)).trans ((h_44 p b).trans (if_neg (by omega)))) (pg_melt (m := (pgs f_manys f_reals f_factsOf f_possible 0)) (show cN f_manys 0 ≤ 24 by omega) (by rw [cN_s (by omega) ef_57]; exact hc1) (by rw [cN_s (by omega) ef_56]; show cb (mlP (pgs f_manys f_reals f_factsOf f_possible 0)) (clsS (cm1 (pgs f_manys f_reals f_factsOf f_possible 0)) (cN f_realsz_33 1)) = cb (mlP (pgs f_manys f_reals f_factsOf f_possible 0)) (clsS (cm1 (pgs f_manys f_reals f_factsOf f_possible 0)) (cN f_reals 0)); rw [show cN f_realsz_33 1 = cN f_reals 0 by omega]) (by have h9 : w2 = cN f_manys 0 := (by omega); rw [h9] at hpf; exact hpf) (by have h9 : w2 = cN f_manys 0 := (by omega); rw [h9] at hpy; exact hpy))) (by rw [hc1])), (KP6.rem h_29 (fun p a b => ((pgs_oth h_36 (OFF.put OFF.rf (by omega) (by omega) ef_57) (OFF.put OFF.rf (by omega) (by omega) ef_56) hof hog) p b (by omega)).trans ((h_44 p b).trans (if_neg (by omega)))))⟩)
              · have zc_49 : ((w2 : Nat) : Int) < ((cN f_manysz_32 1 : Nat) : Int) := i_nle (nI_toInt (n := cN f_manysz_32 1) (by omega)) (nI_toInt (n := w2) (by omega)) c_49
                refine ww_aload_n C dX12_melt_80 2 rfl rfl ?_
                refine ww_iload_n C dX12_melt_81 0 rfl rfl ?_
                refine ww_ci (wr := [(m_newAt, .inl (E.2.1 1, 24, .inl g1)), (m_led, .inl (E.2.1 2, 192, .inr (.inl f_ledz_7))), (m_manys, .inl (E.2.1 1, 18, .inl f_manysz_32)), (m_reals, .inl (E.2.1 1, 18, .inl f_realsz_33)), (m_factsOf, .inl (E.2.1 1, 432, .inl g_fa)), (m_possible, .inl (E.2.1 1, 1728, .inl g_po))]) (k' := 0) (n' := 0) C (run_V (As := [.int (nI w2)]) (rest := []) C (r_heapOf X.2.1 E ro hm w2 m_manys m_reals m_factsOf m_possible uz__15 q_models m_tape q_taped q_fault q_wrong q_wrongAt q_spot q_place q_token q_value m_ends m_letters m_actOf m_whom m_actMany m_tokens m_afters m_afterOf q_counted m_pile m_caseMany m_happen m_hasIf m_becomes m_goneOf m_heard m_pairs m_heaps rz__4 (nI hmz_5) m_led m_newAt m_knowing m_firsts q_people m_secrets m_tried m_lanes m_lengths m_cells f_heapsz_6 (by omega) (by omega)) mi_X12_heapOf wl_X12_301 rfl 0 12 rfl rfl rfl rfl rfl dX12_melt_82) (roK hro) [3, 1] [0, 2, 4, 5, 6, 7] rfl rfl rfl rfl (fun r_58 uz hw => ?_)
                refine an1 hw ?_
                clear hw
                intro he_59 hw
                have he_60 := hw
                clear hw
                have he_59 := he_59.symm
                subst he_59
                subst he_60
                refine ww_eq (ws' := [(m_newAt, .inl (E.2.1 1, 24, .inl g1)), (m_led, .inl (E.2.1 2, 192, .inr (.inl f_ledz_7))), (m_manys, .inl (E.2.1 1, 18, .inl f_manysz_32)), (m_reals, .inl (E.2.1 1, 18, .inl f_realsz_33)), (m_factsOf, .inl (E.2.1 1, 432, .inl g_fa)), (m_possible, .inl (E.2.1 1, 1728, .inl g_po)), (hm, .inr (12, [.ref m_manys, .ref m_reals, .ref m_factsOf, .ref m_possible, .int (nI uz__15), .int (nI q_models), .ref m_tape, .int (nI q_taped), .int q_fault, .int q_wrong, .int q_wrongAt, .int q_spot, .int q_place, .int q_token, .int q_value, .ref m_ends, .ref m_letters, .ref m_actOf, .ref m_whom, .ref m_actMany, .ref m_tokens, .ref m_afters, .ref m_afterOf, .int q_counted, .ref m_pile, .ref m_caseMany, .ref m_happen, .ref m_hasIf, .ref m_becomes, .ref m_goneOf, .ref m_heard, .ref m_pairs, .ref m_heaps, .int (nI rz__4), .int (nI hmz_5), .ref m_led, .ref m_newAt, .ref m_knowing, .ref m_firsts, .int (nI q_people), .ref m_secrets, .ref m_tried, .ref m_lanes, .ref m_lengths, .ref m_cells])), (m_heaps, .inl (E.2.1 1, 2400, .inl f_heapsz_6))]) ?_ rfl rfl rfl
                refine ww_iload_n C dX12_melt_85 0 rfl rfl ?_
                refine ww_icmp_ne (tgt := 201) C dX12_melt_86 (by decide) (fun c_61 => ?_) (fun c_61 => ?_)
                · have zc_61 : (f_heapsz_6 (48 * rz__4 + w2)).toInt ≠ ((w2 : Nat) : Int) := i_ne rfl (nI_toInt (n := w2) (by omega)) c_61
                  refine ww_iinc (j := 0) (v := (nI (w2 + 1))) (lv' := [(2, .int (nI (w2 + 1))), (1, .int (nI c1)), (0, .ref hm)]) C dX12_melt_201 rfl (nI_add w2 1) rfl rfl ?_
                  refine ww_goto (tgt := 70) C dX12_melt_204 (by decide) ?_
                  exact ww_lv [0, 1, 2] rfl (ww_sub [0, 7, 1, 6, 2, 3, 4, 5] rfl rfl (ih_70 (w2 + 1) g_fa g_po (by omega) (PFx.f hpf (mlg_0 (m := (pgs f_manys f_reals f_factsOf f_possible 0)) (show cN f_manys 0 ≤ 48 by omega) hre (show w2 < cN f_manys 0 by omega) (show rowH f_heapsz_6 rz__4 w2 = _ from rfl) (by assumption))) hof (PRy.fs (i := w2) hpy (by omega) (fun p a b => by rw [show p = w2 by omega]; exact (mlg_0 (m := (pgs f_manys f_reals f_factsOf f_possible 0)) (show cN f_manys 0 ≤ 48 by omega) hre (show w2 < cN f_manys 0 by omega) (show rowH f_heapsz_6 rz__4 w2 = _ from rfl) (by assumption)))) hog (by omega)))
                · have zc_61 : (f_heapsz_6 (48 * rz__4 + w2)).toInt = ((w2 : Nat) : Int) := i_eq rfl (nI_toInt (n := w2) (by omega)) c_61
                  have hP2 := (mlg_1 (m := (pgs f_manys f_reals f_factsOf f_possible 0)) (show cN f_manys 0 ≤ 48 by omega) hre (show w2 < cN f_manys 0 by omega) (show rowH f_heapsz_6 rz__4 w2 = _ from rfl) (by assumption))
                  have hcb2 := cb_le (mlP (pgs f_manys f_reals f_factsOf f_possible 0)) w2
                  refine ww_aload_n C dX12_melt_89 2 rfl rfl ?_
                  refine ww_get C fg_X12_16 6 rfl rfl dX12_melt_90 ?_
                  refine ww_aload_n C dX12_melt_93 2 rfl rfl ?_
                  refine ww_get C fg_X12_81 6 rfl rfl dX12_melt_94 ?_
                  refine ww_iload_n C dX12_melt_97 0 rfl rfl ?_
                  refine ww_iald (v := (nI (cb (mlP (pgs f_manys f_reals f_factsOf f_possible 0)) w2))) C 0 rfl (vp_in_nI (by omega) (by omega)) (ldn (by omega) (hmn w2 (by omega) hP2)) dX12_melt_98 ?_
                  refine ww_aload_n C dX12_melt_99 2 rfl rfl ?_
                  refine ww_get C fg_X12_16 6 rfl rfl dX12_melt_100 ?_
                  refine ww_bipush (v := 24) C dX12_melt_103 rfl ?_
                  refine ww_iload_n C dX12_melt_105 0 rfl rfl ?_
                  refine ww_iadd (v := (nI (24 + w2))) C dX12_melt_106 (nI_add 24 w2) ?_
                  obtain ⟨x_63, ex_63⟩ : ∃ z : Int32, g_fa (24 + w2) = z := ⟨_, rfl⟩
                  refine ww_iald (v := x_63) C 4 rfl (vp_in_nI (by omega) (by omega)) (ldn (by omega) ex_63) dX12_melt_107 ?_
                  obtain ⟨f_64, ef_64⟩ : ∃ z : Nat → Int32, upd g_fa (cb (mlP (pgs f_manys f_reals f_factsOf f_possible 0)) w2) x_63 = z := ⟨_, rfl⟩
                  refine ww_iast (ws' := [(m_newAt, .inl (E.2.1 1, 24, .inl g1)), (m_led, .inl (E.2.1 2, 192, .inr (.inl f_ledz_7))), (m_manys, .inl (E.2.1 1, 18, .inl f_manysz_32)), (m_reals, .inl (E.2.1 1, 18, .inl f_realsz_33)), (m_factsOf, .inl (E.2.1 1, 432, .inl f_64)), (m_possible, .inl (E.2.1 1, 1728, .inl g_po)), (hm, .inr (12, [.ref m_manys, .ref m_reals, .ref m_factsOf, .ref m_possible, .int (nI uz__15), .int (nI q_models), .ref m_tape, .int (nI q_taped), .int q_fault, .int q_wrong, .int q_wrongAt, .int q_spot, .int q_place, .int q_token, .int q_value, .ref m_ends, .ref m_letters, .ref m_actOf, .ref m_whom, .ref m_actMany, .ref m_tokens, .ref m_afters, .ref m_afterOf, .int q_counted, .ref m_pile, .ref m_caseMany, .ref m_happen, .ref m_hasIf, .ref m_becomes, .ref m_goneOf, .ref m_heard, .ref m_pairs, .ref m_heaps, .int (nI rz__4), .int (nI hmz_5), .ref m_led, .ref m_newAt, .ref m_knowing, .ref m_firsts, .int (nI q_people), .ref m_secrets, .ref m_tried, .ref m_lanes, .ref m_lengths, .ref m_cells])), (m_heaps, .inl (E.2.1 1, 2400, .inl f_heapsz_6))]) C 4 rfl (vp_in_nI (by omega) (by omega)) (ldn2 (by omega) ef_64) rfl dX12_melt_108 ?_
                  refine ww_iconst (v := 0) C dX12_melt_109 rfl ?_
                  refine ww_istore_n (lv' := [(3, .int 0), (2, .int (nI w2)), (1, .int (nI c1)), (0, .ref hm)]) C dX12_melt_110 rfl rfl rfl ?_
                  have loop_111 : ∀ (fu : Nat) (k3 : Nat) (g_po3 : Nat → Int32), (k3 ≤ 4) → (PRy (mlP (pgs f_manys f_reals f_factsOf f_possible 0)) (cN f_manys 0) w2 k3 (fun k p q => anyN (fun v => (pgs f_manys f_reals f_factsOf f_possible 0).2.2.2 k p v && decide (clsS (cm1 (pgs f_manys f_reals f_factsOf f_possible 0)) v = q)) 24) g_po3) → (OFF 96 0 f_possiblez_35 g_po3) → 4 - k3 < fu → WW X 6 E 111 [(3, .int (nI k3)), (2, .int (nI w2)), (1, .int (nI c1)), (0, .ref hm)] [] [(m_newAt, .inl (E.2.1 1, 24, .inl g1)), (m_led, .inl (E.2.1 2, 192, .inr (.inl f_ledz_7))), (m_manys, .inl (E.2.1 1, 18, .inl f_manysz_32)), (m_reals, .inl (E.2.1 1, 18, .inl f_realsz_33)), (m_factsOf, .inl (E.2.1 1, 432, .inl f_64)), (m_possible, .inl (E.2.1 1, 1728, .inl g_po3)), (hm, .inr (12, [.ref m_manys, .ref m_reals, .ref m_factsOf, .ref m_possible, .int (nI uz__15), .int (nI q_models), .ref m_tape, .int (nI q_taped), .int q_fault, .int q_wrong, .int q_wrongAt, .int q_spot, .int q_place, .int q_token, .int q_value, .ref m_ends, .ref m_letters, .ref m_actOf, .ref m_whom, .ref m_actMany, .ref m_tokens, .ref m_afters, .ref m_afterOf, .int q_counted, .ref m_pile, .ref m_caseMany, .ref m_happen, .ref m_hasIf, .ref m_becomes, .ref m_goneOf, .ref m_heard, .ref m_pairs, .ref m_heaps, .int (nI rz__4), .int (nI hmz_5), .ref m_led, .ref m_newAt, .ref m_knowing, .ref m_firsts, .int (nI q_people), .ref m_secrets, .ref m_tried, .ref m_lanes, .ref m_lengths, .ref m_cells])), (m_heaps, .inl (E.2.1 1, 2400, .inl f_heapsz_6))] 0 0 := by
                    intro fu
                    induction fu with
                    | zero => intro k3 g_po3 hk3 hpy3 hog3 hmeas; exact absurd hmeas (Nat.not_lt_zero _)
                    | succ fu ih_111 =>
                      intro k3 g_po3 hk3 hpy3 hog3 hmeas
                      refine ww_iload_n C dX12_melt_111 0 rfl rfl ?_
                      refine ww_iconst (v := 4) C dX12_melt_112 rfl ?_
                      refine ww_icmp_ge (tgt := 201) C dX12_melt_113 (by decide) (fun c_65 => ?_) (fun c_65 => ?_)
                      · have zc_65 : ((k3 : Nat) : Int) ≥ 4 := i_le rfl (nI_toInt (n := k3) (by omega)) c_65
                        refine ww_iinc (j := 1) (v := (nI (w2 + 1))) (lv' := [(2, .int (nI (w2 + 1))), (3, .int (nI k3)), (1, .int (nI c1)), (0, .ref hm)]) C dX12_melt_201 rfl (nI_add w2 1) rfl rfl ?_
                        refine ww_goto (tgt := 70) C dX12_melt_204 (by decide) ?_
                        exact ww_lv [0, 2, 3] rfl (ww_sub [0, 7, 1, 6, 2, 3, 4, 5] rfl rfl (ih_70 (w2 + 1) f_64 g_po3 (by omega) (PFx.t hpf hP2 rfl (by have h9 : (pgs f_manys f_reals f_factsOf f_possible 0).2.2.1 w2 = _ := (congrArg (fun m : AM => m.2.2.1 w2) hp1).symm; rw [h9]; show _ = (pgs f_manysz_32 f_realsz_33 f_factsOfz_34 f_possiblez_35 1).2.2.1 w2; rw [pg_F (by omega), ← hof (24 * 1 + w2) (by omega)]; exact (by first | exact ex_63.symm | rfl)) ef_64) (OFF.put hof (by omega) (by omega) ef_64) (PRy.up hpy3 (by omega)) hog3 (by omega)))
                      · have zc_65 : ((k3 : Nat) : Int) < 4 := i_nle rfl (nI_toInt (n := k3) (by omega)) c_65
                        refine ww_iconst (v := 0) C dX12_melt_116 rfl ?_
                        refine ww_istore (lv' := [(4, .int 0), (3, .int (nI k3)), (2, .int (nI w2)), (1, .int (nI c1)), (0, .ref hm)]) C dX12_melt_117 rfl rfl ?_
                        refine ww_iconst (v := 0) C dX12_melt_119 rfl ?_
                        refine ww_istore (lv' := [(5, .int 0), (4, .int 0), (3, .int (nI k3)), (2, .int (nI w2)), (1, .int (nI c1)), (0, .ref hm)]) C dX12_melt_120 rfl rfl ?_
                        have hrow : ∀ v, (pgs f_manys f_reals f_factsOf f_possible 0).2.2.2 k3 w2 v = bt (g_po3 (96 * 1 + 24 * k3 + w2)) v := fun v => by rw [← hp1, pg_S (by omega) (by omega), ← hog3 (96 * 1 + 24 * k3 + w2) (by omega)]
                        have wfrow : ∀ v, cN f_manys 0 ≤ v → v < 32 → bt (g_po3 (96 * 1 + 24 * k3 + w2)) v = false := fun v a b => by rw [← hrow v]; cases hq : (pgs f_manys f_reals f_factsOf f_possible 0).2.2.2 k3 w2 v with | false => rfl | true => exact absurd (hwf 0 (by omega) k3 w2 v hq) (show ¬ v < cN f_manys 0 by omega)
                        have loop_122 : ∀ (fu : Nat) (u4 : Nat) (so4 : Int32), (u4 ≤ cN f_manys 0) → (CLx (g_po3 (96 * 1 + 24 * k3 + w2)) (fun v => cb (mlP (pgs f_manys f_reals f_factsOf f_possible 0)) (clsS (cm1 (pgs f_manys f_reals f_factsOf f_possible 0)) v)) u4 so4) → cN f_manys 0 - u4 < fu → WW X 6 E 122 [(5, .int (nI u4)), (4, .int so4), (3, .int (nI k3)), (2, .int (nI w2)), (1, .int (nI c1)), (0, .ref hm)] [] [(m_newAt, .inl (E.2.1 1, 24, .inl g1)), (m_led, .inl (E.2.1 2, 192, .inr (.inl f_ledz_7))), (m_manys, .inl (E.2.1 1, 18, .inl f_manysz_32)), (m_reals, .inl (E.2.1 1, 18, .inl f_realsz_33)), (m_factsOf, .inl (E.2.1 1, 432, .inl f_64)), (m_possible, .inl (E.2.1 1, 1728, .inl g_po3)), (hm, .inr (12, [.ref m_manys, .ref m_reals, .ref m_factsOf, .ref m_possible, .int (nI uz__15), .int (nI q_models), .ref m_tape, .int (nI q_taped), .int q_fault, .int q_wrong, .int q_wrongAt, .int q_spot, .int q_place, .int q_token, .int q_value, .ref m_ends, .ref m_letters, .ref m_actOf, .ref m_whom, .ref m_actMany, .ref m_tokens, .ref m_afters, .ref m_afterOf, .int q_counted, .ref m_pile, .ref m_caseMany, .ref m_happen, .ref m_hasIf, .ref m_becomes, .ref m_goneOf, .ref m_heard, .ref m_pairs, .ref m_heaps, .int (nI rz__4), .int (nI hmz_5), .ref m_led, .ref m_newAt, .ref m_knowing, .ref m_firsts, .int (nI q_people), .ref m_secrets, .ref m_tried, .ref m_lanes, .ref m_lengths, .ref m_cells])), (m_heaps, .inl (E.2.1 1, 2400, .inl f_heapsz_6))] 0 0 := by
                          intro fu
                          induction fu with
                          | zero => intro u4 so4 hu4 hcl hmeas; exact absurd hmeas (Nat.not_lt_zero _)
                          | succ fu ih_122 =>
                            intro u4 so4 hu4 hcl hmeas
                            refine ww_iload C dX12_melt_122 0 rfl ?_
                            refine ww_aload_n C dX12_melt_124 5 rfl rfl ?_
                            refine ww_get C fg_X12_7 6 rfl rfl dX12_melt_125 ?_
                            refine ww_iconst (v := 1) C dX12_melt_128 rfl ?_
                            have hbx_66 := (h_36 1 (by omega)).2
                            refine ww_iald (v := (nI (cN f_manysz_32 1))) C 2 rfl (vin rfl) (h_36 1 (by omega)).1 dX12_melt_129 ?_
                            refine ww_icmp_ge (tgt := 177) C dX12_melt_130 (by decide) (fun c_67 => ?_) (fun c_67 => ?_)
                            · have zc_67 : ((u4 : Nat) : Int) ≥ ((cN f_manysz_32 1 : Nat) : Int) := i_le (nI_toInt (n := cN f_manysz_32 1) (by omega)) (nI_toInt (n := u4) (by omega)) c_67
                              refine ww_aload_n C dX12_melt_177 5 rfl rfl ?_
                              refine ww_get C fg_X12_19 6 rfl rfl dX12_melt_178 ?_
                              refine ww_bipush (v := 24) C dX12_melt_181 rfl ?_
                              refine ww_iload_n C dX12_melt_183 2 rfl rfl ?_
                              refine ww_imul (v := (nI (24 * k3))) C dX12_melt_184 (pk_mul 24 k3) ?_
                              refine ww_aload_n C dX12_melt_185 5 rfl rfl ?_
                              refine ww_get C fg_X12_81 6 rfl rfl dX12_melt_186 ?_
                              refine ww_iload_n C dX12_melt_189 3 rfl rfl ?_
                              refine ww_iald (v := (nI (cb (mlP (pgs f_manys f_reals f_factsOf f_possible 0)) w2))) C 0 rfl (vp_in_nI (by omega) (by omega)) (ldn (by omega) (hmn w2 (by omega) hP2)) dX12_melt_190 ?_
                              refine ww_iadd (v := (nI ((24 * k3) + (cb (mlP (pgs f_manys f_reals f_factsOf f_possible 0)) w2)))) C dX12_melt_191 (nI_add (24 * k3) (cb (mlP (pgs f_manys f_reals f_factsOf f_possible 0)) w2)) ?_
                              refine ww_iload C dX12_melt_192 1 rfl ?_
                              obtain ⟨f_69, ef_69⟩ : ∃ z : Nat → Int32, upd g_po3 ((24 * k3) + (cb (mlP (pgs f_manys f_reals f_factsOf f_possible 0)) w2)) so4 = z := ⟨_, rfl⟩
                              refine ww_iast (ws' := [(m_newAt, .inl (E.2.1 1, 24, .inl g1)), (m_led, .inl (E.2.1 2, 192, .inr (.inl f_ledz_7))), (m_manys, .inl (E.2.1 1, 18, .inl f_manysz_32)), (m_reals, .inl (E.2.1 1, 18, .inl f_realsz_33)), (m_factsOf, .inl (E.2.1 1, 432, .inl f_64)), (m_possible, .inl (E.2.1 1, 1728, .inl f_69)), (hm, .inr (12, [.ref m_manys, .ref m_reals, .ref m_factsOf, .ref m_possible, .int (nI uz__15), .int (nI q_models), .ref m_tape, .int (nI q_taped), .int q_fault, .int q_wrong, .int q_wrongAt, .int q_spot, .int q_place, .int q_token, .int q_value, .ref m_ends, .ref m_letters, .ref m_actOf, .ref m_whom, .ref m_actMany, .ref m_tokens, .ref m_afters, .ref m_afterOf, .int q_counted, .ref m_pile, .ref m_caseMany, .ref m_happen, .ref m_hasIf, .ref m_becomes, .ref m_goneOf, .ref m_heard, .ref m_pairs, .ref m_heaps, .int (nI rz__4), .int (nI hmz_5), .ref m_led, .ref m_newAt, .ref m_knowing, .ref m_firsts, .int (nI q_people), .ref m_secrets, .ref m_tried, .ref m_lanes, .ref m_lengths, .ref m_cells])), (m_heaps, .inl (E.2.1 1, 2400, .inl f_heapsz_6))]) C 5 rfl (vp_in_nI (by omega) (by omega)) (ldn2 (by omega) ef_69) rfl dX12_melt_194 ?_
                              refine ww_iinc (j := 2) (v := (nI (k3 + 1))) (lv' := [(3, .int (nI (k3 + 1))), (5, .int (nI u4)), (4, .int so4), (2, .int (nI w2)), (1, .int (nI c1)), (0, .ref hm)]) C dX12_melt_195 rfl (nI_add k3 1) rfl rfl ?_
                              refine ww_goto (tgt := 111) C dX12_melt_198 (by decide) ?_
                              exact ww_lv [0, 3, 4, 5] rfl (ww_sub [0, 1, 2, 3, 4, 5, 6, 7] rfl rfl (ih_111 (k3 + 1) f_69 (by omega) (PRy.t hpy3 (by omega) (show w2 < cN f_manys 0 by omega) (by omega) hP2 rfl (melt_row (show cN f_manys 0 ≤ 24 by omega) (hwf 0 (by omega)) hrow (CLx.fin hcl (by omega) (fun v a b => wfrow v (by omega) (by omega)))) (sh_up0 ef_69)) (OFF.put hog3 (by omega) (by omega) ef_69) (by omega)))
                            · have zc_67 : ((u4 : Nat) : Int) < ((cN f_manysz_32 1 : Nat) : Int) := i_nle (nI_toInt (n := cN f_manysz_32 1) (by omega)) (nI_toInt (n := u4) (by omega)) c_67
                              refine ww_iload C dX12_melt_133 1 rfl ?_
                              refine ww_aload_n C dX12_melt_135 5 rfl rfl ?_
                              refine ww_iconst (v := 1) C dX12_melt_136 rfl ?_
                              refine ww_iload_n C dX12_melt_137 2 rfl rfl ?_
                              refine ww_iload_n C dX12_melt_138 3 rfl rfl ?_
                              refine ww_ci (wr := [(m_newAt, .inl (E.2.1 1, 24, .inl g1)), (m_led, .inl (E.2.1 2, 192, .inr (.inl f_ledz_7))), (m_manys, .inl (E.2.1 1, 18, .inl f_manysz_32)), (m_reals, .inl (E.2.1 1, 18, .inl f_realsz_33)), (m_factsOf, .inl (E.2.1 1, 432, .inl f_64)), (m_heaps, .inl (E.2.1 1, 2400, .inl f_heapsz_6))]) (k' := 0) (n' := 0) C (run_V (As := [.int 1, .int (nI k3), .int (nI w2)]) (rest := [.int so4]) C (r_seen X.2.1 E ro hm 1 k3 w2 m_manys m_reals m_factsOf m_possible uz__15 q_models m_tape q_taped q_fault q_wrong q_wrongAt q_spot q_place q_token q_value m_ends m_letters m_actOf m_whom m_actMany m_tokens m_afters m_afterOf q_counted m_pile m_caseMany m_happen m_hasIf m_becomes m_goneOf m_heard m_pairs m_heaps (nI rz__4) (nI hmz_5) m_led m_newAt m_knowing m_firsts q_people m_secrets m_tried m_lanes m_lengths m_cells g_po3 (by omega) (by omega) (by omega)) mi_X12_seen wl_X12_135 rfl 0 12 rfl rfl rfl rfl rfl dX12_melt_139) (roK hro) [6, 5] [0, 1, 2, 3, 4, 7] rfl rfl rfl rfl (fun r_70 uz hw => ?_)
                              refine an1 hw ?_
                              clear hw
                              intro he_71 hw
                              have he_72 := hw
                              clear hw
                              have he_71 := he_71.symm
                              subst he_71
                              subst he_72
                              refine ww_eq (ws' := [(m_newAt, .inl (E.2.1 1, 24, .inl g1)), (m_led, .inl (E.2.1 2, 192, .inr (.inl f_ledz_7))), (m_manys, .inl (E.2.1 1, 18, .inl f_manysz_32)), (m_reals, .inl (E.2.1 1, 18, .inl f_realsz_33)), (m_factsOf, .inl (E.2.1 1, 432, .inl f_64)), (m_heaps, .inl (E.2.1 1, 2400, .inl f_heapsz_6)), (hm, .inr (12, [.ref m_manys, .ref m_reals, .ref m_factsOf, .ref m_possible, .int (nI uz__15), .int (nI q_models), .ref m_tape, .int (nI q_taped), .int q_fault, .int q_wrong, .int q_wrongAt, .int q_spot, .int q_place, .int q_token, .int q_value, .ref m_ends, .ref m_letters, .ref m_actOf, .ref m_whom, .ref m_actMany, .ref m_tokens, .ref m_afters, .ref m_afterOf, .int q_counted, .ref m_pile, .ref m_caseMany, .ref m_happen, .ref m_hasIf, .ref m_becomes, .ref m_goneOf, .ref m_heard, .ref m_pairs, .ref m_heaps, .int (nI rz__4), .int (nI hmz_5), .ref m_led, .ref m_newAt, .ref m_knowing, .ref m_firsts, .int (nI q_people), .ref m_secrets, .ref m_tried, .ref m_lanes, .ref m_lengths, .ref m_cells])), (m_possible, .inl (E.2.1 1, 1728, .inl g_po3))]) ?_ rfl rfl rfl
                              refine ww_iload C dX12_melt_142 0 rfl ?_
                              obtain ⟨x_73, ex_73⟩ : ∃ z : Int32, (g_po3 (96 * 1 + 24 * k3 + w2)) >>> ((nI u4) &&& 31) = z := ⟨_, rfl⟩
                              refine ww_ishr (v := x_73) C dX12_melt_144 ex_73 ?_
                              refine ww_iconst (v := 1) C dX12_melt_145 rfl ?_
                              obtain ⟨j_74, hj_74, ej_74⟩ := pk_andE x_73 (m := 1) 1 rfl
                              refine ww_iand (v := (nI j_74)) C dX12_melt_146 ej_74 ?_
                              refine ww_iconst (v := 1) C dX12_melt_147 rfl ?_
                              refine ww_icmp_ne (tgt := 167) C dX12_melt_148 (by decide) (fun c_75 => ?_) (fun c_75 => ?_)
                              · have zc_75 : ((j_74 : Nat) : Int) ≠ 1 := i_ne (nI_toInt (n := j_74) (by omega)) rfl c_75
                                refine ww_iconst (v := 0) C dX12_melt_167 rfl ?_
                                obtain ⟨x_76, ex_76⟩ : ∃ z : Int32, so4 ||| (0 : Int32) = z := ⟨_, rfl⟩
                                refine ww_ior (v := x_76) C dX12_melt_168 ex_76 ?_
                                refine ww_istore (lv' := [(4, .int x_76), (5, .int (nI u4)), (3, .int (nI k3)), (2, .int (nI w2)), (1, .int (nI c1)), (0, .ref hm)]) C dX12_melt_169 rfl rfl ?_
                                refine ww_iinc (j := 1) (v := (nI (u4 + 1))) (lv' := [(5, .int (nI (u4 + 1))), (4, .int x_76), (3, .int (nI k3)), (2, .int (nI w2)), (1, .int (nI c1)), (0, .ref hm)]) C dX12_melt_171 rfl (nI_add u4 1) rfl rfl ?_
                                refine ww_goto (tgt := 122) C dX12_melt_174 (by decide) ?_
                                exact ww_lv [0, 1, 2, 3, 4, 5] rfl (ww_sub [0, 1, 2, 3, 4, 7, 6, 5] rfl rfl (ih_122 (u4 + 1) x_76 (by omega) (by first | exact CLx.t hcl (hasb_1 (p := u4) (by omega) (by assumption) (by assumption) (by omega)) (show cb (mlP (pgs f_manys f_reals f_factsOf f_possible 0)) (clsS (cm1 (pgs f_manys f_reals f_factsOf f_possible 0)) u4) ≤ 30 by omega) (by assumption) (by assumption) | exact or0c hcl (hasb_0 (p := u4) (by omega) (by assumption) (by assumption) (by omega)) (by assumption)) (by omega)))
                              · have zc_75 : ((j_74 : Nat) : Int) = 1 := i_eq (nI_toInt (n := j_74) (by omega)) rfl c_75
                                refine ww_iconst (v := 1) C dX12_melt_151 rfl ?_
                                refine ww_aload_n C dX12_melt_152 5 rfl rfl ?_
                                refine ww_get C fg_X12_81 6 rfl rfl dX12_melt_153 ?_
                                refine ww_aload_n C dX12_melt_156 5 rfl rfl ?_
                                refine ww_iload C dX12_melt_157 0 rfl ?_
                                refine ww_ci (wr := [(m_newAt, .inl (E.2.1 1, 24, .inl g1)), (m_led, .inl (E.2.1 2, 192, .inr (.inl f_ledz_7))), (m_manys, .inl (E.2.1 1, 18, .inl f_manysz_32)), (m_reals, .inl (E.2.1 1, 18, .inl f_realsz_33)), (m_factsOf, .inl (E.2.1 1, 432, .inl f_64)), (m_possible, .inl (E.2.1 1, 1728, .inl g_po3))]) (k' := 0) (n' := 0) C (run_V (As := [.int (nI u4)]) (rest := [.ref m_newAt, .int 1, .int so4]) C (r_heapOf X.2.1 E ro hm u4 m_manys m_reals m_factsOf m_possible uz__15 q_models m_tape q_taped q_fault q_wrong q_wrongAt q_spot q_place q_token q_value m_ends m_letters m_actOf m_whom m_actMany m_tokens m_afters m_afterOf q_counted m_pile m_caseMany m_happen m_hasIf m_becomes m_goneOf m_heard m_pairs m_heaps rz__4 (nI hmz_5) m_led m_newAt m_knowing m_firsts q_people m_secrets m_tried m_lanes m_lengths m_cells f_heapsz_6 (by omega) (by omega)) mi_X12_heapOf wl_X12_301 rfl 0 12 rfl rfl rfl rfl rfl dX12_melt_159) (roK hro) [6, 5] [0, 1, 2, 3, 4, 7] rfl rfl rfl rfl (fun r_77 uz hw => ?_)
                                refine an1 hw ?_
                                clear hw
                                intro he_78 hw
                                have he_79 := hw
                                clear hw
                                have he_78 := he_78.symm
                                subst he_78
                                subst he_79
                                refine ww_eq (ws' := [(m_newAt, .inl (E.2.1 1, 24, .inl g1)), (m_led, .inl (E.2.1 2, 192, .inr (.inl f_ledz_7))), (m_manys, .inl (E.2.1 1, 18, .inl f_manysz_32)), (m_reals, .inl (E.2.1 1, 18, .inl f_realsz_33)), (m_factsOf, .inl (E.2.1 1, 432, .inl f_64)), (m_possible, .inl (E.2.1 1, 1728, .inl g_po3)), (hm, .inr (12, [.ref m_manys, .ref m_reals, .ref m_factsOf, .ref m_possible, .int (nI uz__15), .int (nI q_models), .ref m_tape, .int (nI q_taped), .int q_fault, .int q_wrong, .int q_wrongAt, .int q_spot, .int q_place, .int q_token, .int q_value, .ref m_ends, .ref m_letters, .ref m_actOf, .ref m_whom, .ref m_actMany, .ref m_tokens, .ref m_afters, .ref m_afterOf, .int q_counted, .ref m_pile, .ref m_caseMany, .ref m_happen, .ref m_hasIf, .ref m_becomes, .ref m_goneOf, .ref m_heard, .ref m_pairs, .ref m_heaps, .int (nI rz__4), .int (nI hmz_5), .ref m_led, .ref m_newAt, .ref m_knowing, .ref m_firsts, .int (nI q_people), .ref m_secrets, .ref m_tried, .ref m_lanes, .ref m_lengths, .ref m_cells])), (m_heaps, .inl (E.2.1 1, 2400, .inl f_heapsz_6))]) ?_ rfl rfl rfl
                                have hcu_c_80 := hre u4 (show u4 < cN f_manys 0 by omega)
                                have hle_hcu_c_80 := ml_le (m := (pgs f_manys f_reals f_factsOf f_possible 0)) u4
                                have hcb_hcu_c_80 := cb_le (mlP (pgs f_manys f_reals f_factsOf f_possible 0)) (clsS (cm1 (pgs f_manys f_reals f_factsOf f_possible 0)) u4)
                                refine ww_eq (st' := [.int (nI (clsS (cm1 (pgs f_manys f_reals f_factsOf f_possible 0)) u4)), .ref m_newAt, .int 1, .int so4]) ?_ rfl (by rw [show (f_heapsz_6 (48 * rz__4 + u4)) = nI (clsS (cm1 (pgs f_manys f_reals f_factsOf f_possible 0)) u4) from hcu_c_80]) rfl
                                refine ww_iald (v := (nI (cb (mlP (pgs f_manys f_reals f_factsOf f_possible 0)) (clsS (cm1 (pgs f_manys f_reals f_factsOf f_possible 0)) u4)))) C 0 rfl (vp_in_nI (by omega) (by omega)) (ldn (by omega) (hmn (clsS (cm1 (pgs f_manys f_reals f_factsOf f_possible 0)) u4) (by omega) (ml_cls (m := (pgs f_manys f_reals f_factsOf f_possible 0)) u4))) dX12_melt_162 ?_
                                obtain ⟨x_82, ex_82⟩ : ∃ z : Int32, (1 : Int32) <<< ((nI (cb (mlP (pgs f_manys f_reals f_factsOf f_possible 0)) (clsS (cm1 (pgs f_manys f_reals f_factsOf f_possible 0)) u4))) &&& 31) = z := ⟨_, rfl⟩
                                refine ww_ishl (v := x_82) C dX12_melt_163 ex_82 ?_
                                refine ww_goto (tgt := 168) C dX12_melt_164 (by decide) ?_
                                obtain ⟨x_83, ex_83⟩ : ∃ z : Int32, so4 ||| x_82 = z := ⟨_, rfl⟩
                                refine ww_ior (v := x_83) C dX12_melt_168 ex_83 ?_
                                refine ww_istore (lv' := [(4, .int x_83), (5, .int (nI u4)), (3, .int (nI k3)), (2, .int (nI w2)), (1, .int (nI c1)), (0, .ref hm)]) C dX12_melt_169 rfl rfl ?_
                                refine ww_iinc (j := 1) (v := (nI (u4 + 1))) (lv' := [(5, .int (nI (u4 + 1))), (4, .int x_83), (3, .int (nI k3)), (2, .int (nI w2)), (1, .int (nI c1)), (0, .ref hm)]) C dX12_melt_171 rfl (nI_add u4 1) rfl rfl ?_
                                refine ww_goto (tgt := 122) C dX12_melt_174 (by decide) ?_
                                exact ww_lv [0, 1, 2, 3, 4, 5] rfl (ww_sub [0, 1, 2, 3, 4, 5, 6, 7] rfl rfl (ih_122 (u4 + 1) x_83 (by omega) (by first | exact CLx.t hcl (hasb_1 (p := u4) (by omega) (by assumption) (by assumption) (by omega)) (show cb (mlP (pgs f_manys f_reals f_factsOf f_possible 0)) (clsS (cm1 (pgs f_manys f_reals f_factsOf f_possible 0)) u4) ≤ 30 by omega) (by assumption) (by assumption) | exact or0c hcl (hasb_0 (p := u4) (by omega) (by assumption) (by assumption) (by omega)) (by assumption)) (by omega)))
                        exact ww_lv [0, 1, 2, 3, 4, 5] rfl (ww_sub [0, 1, 2, 3, 4, 5, 6, 7] rfl rfl (loop_122 _ 0 0 (by omega) CLx.nil (Nat.lt_succ_self _)))
                  exact ww_lv [0, 1, 2, 3] rfl (ww_sub [0, 1, 2, 3, 4, 5, 6, 7] rfl rfl (loop_111 _ 0 g_po (by omega) hpy hog (Nat.lt_succ_self _)))
          exact ww_lv [0, 1, 2] rfl (ww_sub [0, 1, 2, 3, 4, 5, 6, 7] rfl rfl (loop_70 _ 0 f_factsOfz_34 f_possiblez_35 (by omega) PFx.nil OFF.rf PRy.nil OFF.rf (Nat.lt_succ_self _)))
        · have zc_47 : ((w1 : Nat) : Int) < ((cN f_manysz_32 1 : Nat) : Int) := i_nle (nI_toInt (n := cN f_manysz_32 1) (by omega)) (nI_toInt (n := w1) (by omega)) c_47
          refine ww_aload_n C dX12_melt_43 2 rfl rfl ?_
          refine ww_iload_n C dX12_melt_44 0 rfl rfl ?_
          refine ww_ci (wr := [(m_newAt, .inl (E.2.1 1, 24, .inl g1)), (m_led, .inl (E.2.1 2, 192, .inr (.inl f_ledz_7))), (m_manys, .inl (E.2.1 1, 18, .inl f_manysz_32)), (m_reals, .inl (E.2.1 1, 18, .inl f_realsz_33)), (m_factsOf, .inl (E.2.1 1, 432, .inl f_factsOfz_34)), (m_possible, .inl (E.2.1 1, 1728, .inl f_possiblez_35))]) (k' := 0) (n' := 0) C (run_V (As := [.int (nI w1)]) (rest := []) C (r_heapOf X.2.1 E ro hm w1 m_manys m_reals m_factsOf m_possible uz__15 q_models m_tape q_taped q_fault q_wrong q_wrongAt q_spot q_place q_token q_value m_ends m_letters m_actOf m_whom m_actMany m_tokens m_afters m_afterOf q_counted m_pile m_caseMany m_happen m_hasIf m_becomes m_goneOf m_heard m_pairs m_heaps rz__4 (nI hmz_5) m_led m_newAt m_knowing m_firsts q_people m_secrets m_tried m_lanes m_lengths m_cells f_heapsz_6 (by omega) (by omega)) mi_X12_heapOf wl_X12_301 rfl 0 12 rfl rfl rfl rfl rfl dX12_melt_45) (roK hro) [3, 1] [0, 2, 4, 5, 6, 7] rfl rfl rfl rfl (fun r_84 uz hw => ?_)
          refine an1 hw ?_
          clear hw
          intro he_85 hw
          have he_86 := hw
          clear hw
          have he_85 := he_85.symm
          subst he_85
          subst he_86
          refine ww_eq (ws' := [(m_newAt, .inl (E.2.1 1, 24, .inl g1)), (m_led, .inl (E.2.1 2, 192, .inr (.inl f_ledz_7))), (m_manys, .inl (E.2.1 1, 18, .inl f_manysz_32)), (m_reals, .inl (E.2.1 1, 18, .inl f_realsz_33)), (m_factsOf, .inl (E.2.1 1, 432, .inl f_factsOfz_34)), (m_possible, .inl (E.2.1 1, 1728, .inl f_possiblez_35)), (hm, .inr (12, [.ref m_manys, .ref m_reals, .ref m_factsOf, .ref m_possible, .int (nI uz__15), .int (nI q_models), .ref m_tape, .int (nI q_taped), .int q_fault, .int q_wrong, .int q_wrongAt, .int q_spot, .int q_place, .int q_token, .int q_value, .ref m_ends, .ref m_letters, .ref m_actOf, .ref m_whom, .ref m_actMany, .ref m_tokens, .ref m_afters, .ref m_afterOf, .int q_counted, .ref m_pile, .ref m_caseMany, .ref m_happen, .ref m_hasIf, .ref m_becomes, .ref m_goneOf, .ref m_heard, .ref m_pairs, .ref m_heaps, .int (nI rz__4), .int (nI hmz_5), .ref m_led, .ref m_newAt, .ref m_knowing, .ref m_firsts, .int (nI q_people), .ref m_secrets, .ref m_tried, .ref m_lanes, .ref m_lengths, .ref m_cells])), (m_heaps, .inl (E.2.1 1, 2400, .inl f_heapsz_6))]) ?_ rfl rfl rfl
          refine ww_iload_n C dX12_melt_48 0 rfl rfl ?_
          refine ww_icmp_ne (tgt := 62) C dX12_melt_49 (by decide) (fun c_87 => ?_) (fun c_87 => ?_)
          · have zc_87 : (f_heapsz_6 (48 * rz__4 + w1)).toInt ≠ ((w1 : Nat) : Int) := i_ne rfl (nI_toInt (n := w1) (by omega)) c_87
            refine ww_iinc (j := 0) (v := (nI (w1 + 1))) (lv' := [(2, .int (nI (w1 + 1))), (1, .int (nI c1)), (0, .ref hm)]) C dX12_melt_62 rfl (nI_add w1 1) rfl rfl ?_
            refine ww_goto (tgt := 33) C dX12_melt_65 (by decide) ?_
            exact ww_lv [0, 1, 2] rfl (ww_sub [0, 7, 1, 6, 2, 3, 4, 5] rfl rfl (ih_33 (w1 + 1) c1 g1 (by omega) (by omega) (hc1.trans (cb_f (mlg_0 (m := (pgs f_manys f_reals f_factsOf f_possible 0)) (show cN f_manys 0 ≤ 48 by omega) hre (show w1 < cN f_manys 0 by omega) (show rowH f_heapsz_6 rz__4 w1 = _ from rfl) (by assumption))).symm) (MNx.f hmn (mlg_0 (m := (pgs f_manys f_reals f_factsOf f_possible 0)) (show cN f_manys 0 ≤ 48 by omega) hre (show w1 < cN f_manys 0 by omega) (show rowH f_heapsz_6 rz__4 w1 = _ from rfl) (by assumption))) (by omega)))
          · have zc_87 : (f_heapsz_6 (48 * rz__4 + w1)).toInt = ((w1 : Nat) : Int) := i_eq rfl (nI_toInt (n := w1) (by omega)) c_87
            refine ww_aload_n C dX12_melt_52 2 rfl rfl ?_
            refine ww_get C fg_X12_81 6 rfl rfl dX12_melt_53 ?_
            refine ww_iload_n C dX12_melt_56 0 rfl rfl ?_
            refine ww_iload_n C dX12_melt_57 1 rfl rfl ?_
            obtain ⟨f_88, ef_88⟩ : ∃ z : Nat → Int32, upd g1 w1 (nI c1) = z := ⟨_, rfl⟩
            refine ww_iast (ws' := [(m_newAt, .inl (E.2.1 1, 24, .inl f_88)), (m_led, .inl (E.2.1 2, 192, .inr (.inl f_ledz_7))), (m_manys, .inl (E.2.1 1, 18, .inl f_manysz_32)), (m_reals, .inl (E.2.1 1, 18, .inl f_realsz_33)), (m_factsOf, .inl (E.2.1 1, 432, .inl f_factsOfz_34)), (m_possible, .inl (E.2.1 1, 1728, .inl f_possiblez_35)), (hm, .inr (12, [.ref m_manys, .ref m_reals, .ref m_factsOf, .ref m_possible, .int (nI uz__15), .int (nI q_models), .ref m_tape, .int (nI q_taped), .int q_fault, .int q_wrong, .int q_wrongAt, .int q_spot, .int q_place, .int q_token, .int q_value, .ref m_ends, .ref m_letters, .ref m_actOf, .ref m_whom, .ref m_actMany, .ref m_tokens, .ref m_afters, .ref m_afterOf, .int q_counted, .ref m_pile, .ref m_caseMany, .ref m_happen, .ref m_hasIf, .ref m_becomes, .ref m_goneOf, .ref m_heard, .ref m_pairs, .ref m_heaps, .int (nI rz__4), .int (nI hmz_5), .ref m_led, .ref m_newAt, .ref m_knowing, .ref m_firsts, .int (nI q_people), .ref m_secrets, .ref m_tried, .ref m_lanes, .ref m_lengths, .ref m_cells])), (m_heaps, .inl (E.2.1 1, 2400, .inl f_heapsz_6))]) C 0 rfl (vp_in_nI (by omega) (by omega)) (ldn2 (by omega) ef_88) rfl dX12_melt_58 ?_
            refine ww_iinc (j := 1) (v := (nI (c1 + 1))) (lv' := [(1, .int (nI (c1 + 1))), (2, .int (nI w1)), (0, .ref hm)]) C dX12_melt_59 rfl (nI_add c1 1) rfl rfl ?_
            refine ww_iinc (j := 1) (v := (nI (w1 + 1))) (lv' := [(2, .int (nI (w1 + 1))), (1, .int (nI (c1 + 1))), (0, .ref hm)]) C dX12_melt_62 rfl (nI_add w1 1) rfl rfl ?_
            refine ww_goto (tgt := 33) C dX12_melt_65 (by decide) ?_
            exact ww_lv [0, 1, 2] rfl (ww_sub [0, 7, 1, 6, 2, 3, 4, 5] rfl rfl (ih_33 (w1 + 1) (c1 + 1) f_88 (by omega) (by omega) (by rw [cb_t (mlg_1 (m := (pgs f_manys f_reals f_factsOf f_possible 0)) (show cN f_manys 0 ≤ 48 by omega) hre (show w1 < cN f_manys 0 by omega) (show rowH f_heapsz_6 rz__4 w1 = _ from rfl) (by assumption)), ← hc1]) (MNx.t hmn hc1 ef_88) (by omega)))
    exact ww_lv [0, 1, 2] rfl (ww_sub [0, 1, 2, 3, 4, 5, 6, 7] rfl rfl (loop_33 _ 0 0 f_newAt (by omega) (by omega) rfl MNx.nil (Nat.lt_succ_self _)))
  · have zc_2 : ((cN f_manys 0 : Nat) : Int) = 0 := i_eq (nI_toInt (n := cN f_manys 0) (by omega)) rfl c_2
    refine ww_bipush (v := (-2)) C dX12_melt_9 rfl ?_
    exact ww_iret (u := [(hm, .inr (12, [.ref m_manys, .ref m_reals, .ref m_factsOf, .ref m_possible, .int (nI q_undos), .int (nI q_models), .ref m_tape, .int (nI q_taped), .int q_fault, .int q_wrong, .int q_wrongAt, .int q_spot, .int q_place, .int q_token, .int q_value, .ref m_ends, .ref m_letters, .ref m_actOf, .ref m_whom, .ref m_actMany, .ref m_tokens, .ref m_afters, .ref m_afterOf, .int q_counted, .ref m_pile, .ref m_caseMany, .ref m_happen, .ref m_hasIf, .ref m_becomes, .ref m_goneOf, .ref m_heard, .ref m_pairs, .ref m_heaps, .int q_rounds, .int q_heapMany, .ref m_led, .ref m_newAt, .ref m_knowing, .ref m_firsts, .int (nI q_people), .ref m_secrets, .ref m_tried, .ref m_lanes, .ref m_lengths, .ref m_cells])), (m_manys, .inl (E.2.1 1, 18, .inl f_manys)), (m_reals, .inl (E.2.1 1, 18, .inl f_reals)), (m_factsOf, .inl (E.2.1 1, 432, .inl f_factsOf)), (m_possible, .inl (E.2.1 1, 1728, .inl f_possible)), (m_heaps, .inl (E.2.1 1, 2400, .inl f_heaps)), (m_led, .inl (E.2.1 2, 192, .inr (.inl f_led))), (m_newAt, .inl (E.2.1 1, 24, .inl f_newAt))]) C hT [0, 1, 2, 3, 4, 5, 6, 7] rfl rfl rfl rfl dX12_melt_11 (⟨q_undos, q_rounds, q_heapMany, f_manys, f_reals, f_factsOf, f_possible, f_heaps, f_led, f_newAt, rfl, hb_manys, hb_reals, hpg, hwf, (by omega), (by show _ = if (cN f_manys 0) = 0 then ((asM q_undos (pgs f_manys f_reals f_factsOf f_possible)), -2) else (aRem (asM q_undos (pgs f_manys f_reals f_factsOf f_possible)) (aMelt (pgs f_manys f_reals f_factsOf f_possible 0)), nI (cb (mlP (pgs f_manys f_reals f_factsOf f_possible 0)) (cN f_manys 0))); rw [if_pos (show (cN f_manys 0) = 0 by omega)]), KP6.rf⟩)
