theorem dX12_melt_0 : decode cX12_melt 0 = .ok (.aload_n 0, 1) := by decide +kernel
theorem dX12_melt_1 : decode cX12_melt 1 = .ok (.getfield 7, 3) := by decide +kernel
theorem dX12_melt_4 : decode cX12_melt 4 = .ok (.iconst 0, 1) := by decide +kernel
theorem dX12_melt_5 : decode cX12_melt 5 = .ok (.iaload, 1) := by decide +kernel
theorem dX12_melt_6 : decode cX12_melt 6 = .ok (.ifCond .ne 6, 3) := by decide +kernel
theorem dX12_melt_12 : decode cX12_melt 12 = .ok (.aload_n 0, 1) := by decide +kernel
theorem dX12_melt_13 : decode cX12_melt 13 = .ok (.iconst 0, 1) := by decide +kernel
theorem dX12_melt_14 : decode cX12_melt 14 = .ok (.bipush (-4), 2) := by decide +kernel
theorem dX12_melt_16 : decode cX12_melt 16 = .ok (.invokevirtual 298, 3) := by decide +kernel
theorem dX12_melt_19 : decode cX12_melt 19 = .ok (.aload_n 0, 1) := by decide +kernel
theorem dX12_melt_20 : decode cX12_melt 20 = .ok (.invokevirtual 121, 3) := by decide +kernel
theorem dX12_melt_23 : decode cX12_melt 23 = .ok (.aload_n 0, 1) := by decide +kernel
theorem dX12_melt_24 : decode cX12_melt 24 = .ok (.iconst 0, 1) := by decide +kernel
theorem dX12_melt_25 : decode cX12_melt 25 = .ok (.iconst 1, 1) := by decide +kernel
theorem dX12_melt_26 : decode cX12_melt 26 = .ok (.invokevirtual 109, 3) := by decide +kernel
theorem dX12_melt_29 : decode cX12_melt 29 = .ok (.iconst 0, 1) := by decide +kernel
theorem dX12_melt_30 : decode cX12_melt 30 = .ok (.istore_n 1, 1) := by decide +kernel
theorem dX12_melt_31 : decode cX12_melt 31 = .ok (.iconst 0, 1) := by decide +kernel
theorem dX12_melt_32 : decode cX12_melt 32 = .ok (.istore_n 2, 1) := by decide +kernel
theorem dX12_melt_33 : decode cX12_melt 33 = .ok (.iload_n 2, 1) := by decide +kernel
theorem dX12_melt_34 : decode cX12_melt 34 = .ok (.aload_n 0, 1) := by decide +kernel
theorem dX12_melt_35 : decode cX12_melt 35 = .ok (.getfield 7, 3) := by decide +kernel
theorem dX12_melt_38 : decode cX12_melt 38 = .ok (.iconst 1, 1) := by decide +kernel
theorem dX12_melt_39 : decode cX12_melt 39 = .ok (.iaload, 1) := by decide +kernel
theorem dX12_melt_40 : decode cX12_melt 40 = .ok (.if_icmp .ge 28, 3) := by decide +kernel
theorem dX12_melt_68 : decode cX12_melt 68 = .ok (.iconst 0, 1) := by decide +kernel
theorem dX12_melt_69 : decode cX12_melt 69 = .ok (.istore_n 2, 1) := by decide +kernel
theorem dX12_melt_70 : decode cX12_melt 70 = .ok (.iload_n 2, 1) := by decide +kernel
theorem dX12_melt_71 : decode cX12_melt 71 = .ok (.aload_n 0, 1) := by decide +kernel
theorem dX12_melt_72 : decode cX12_melt 72 = .ok (.getfield 7, 3) := by decide +kernel
theorem dX12_melt_75 : decode cX12_melt 75 = .ok (.iconst 1, 1) := by decide +kernel
theorem dX12_melt_76 : decode cX12_melt 76 = .ok (.iaload, 1) := by decide +kernel
theorem dX12_melt_77 : decode cX12_melt 77 = .ok (.if_icmp .ge 130, 3) := by decide +kernel
theorem dX12_melt_207 : decode cX12_melt 207 = .ok (.aload_n 0, 1) := by decide +kernel
theorem dX12_melt_208 : decode cX12_melt 208 = .ok (.getfield 13, 3) := by decide +kernel
theorem dX12_melt_211 : decode cX12_melt 211 = .ok (.iconst 0, 1) := by decide +kernel
theorem dX12_melt_212 : decode cX12_melt 212 = .ok (.aload_n 0, 1) := by decide +kernel
theorem dX12_melt_213 : decode cX12_melt 213 = .ok (.getfield 81, 3) := by decide +kernel
theorem wf_X12_81 : Cond.fieldLink RX12 81 RX12 "newAt" "[I" ∈ TB := tbm (tq5 (List.mem_of_getElem? (i := 114) (by decide +kernel))) (by decide +kernel)
theorem fg_X12_81 : FG RX12 81 12 36 := ⟨RX12, TX12, 45, uw_X12, wf_X12_81, rfl, by decide, rfl⟩
theorem dX12_melt_216 : decode cX12_melt 216 = .ok (.aload_n 0, 1) := by decide +kernel
theorem dX12_melt_217 : decode cX12_melt 217 = .ok (.aload_n 0, 1) := by decide +kernel
theorem dX12_melt_218 : decode cX12_melt 218 = .ok (.getfield 13, 3) := by decide +kernel
theorem dX12_melt_221 : decode cX12_melt 221 = .ok (.iconst 1, 1) := by decide +kernel
theorem dX12_melt_222 : decode cX12_melt 222 = .ok (.iaload, 1) := by decide +kernel
theorem dX12_melt_223 : decode cX12_melt 223 = .ok (.invokevirtual 301, 3) := by decide +kernel
theorem dX12_melt_226 : decode cX12_melt 226 = .ok (.iaload, 1) := by decide +kernel
theorem dX12_melt_227 : decode cX12_melt 227 = .ok (.iastore, 1) := by decide +kernel
theorem dX12_melt_228 : decode cX12_melt 228 = .ok (.aload_n 0, 1) := by decide +kernel
theorem dX12_melt_229 : decode cX12_melt 229 = .ok (.getfield 7, 3) := by decide +kernel
theorem dX12_melt_232 : decode cX12_melt 232 = .ok (.iconst 0, 1) := by decide +kernel
theorem dX12_melt_233 : decode cX12_melt 233 = .ok (.iload_n 1, 1) := by decide +kernel
theorem dX12_melt_234 : decode cX12_melt 234 = .ok (.iastore, 1) := by decide +kernel
theorem dX12_melt_235 : decode cX12_melt 235 = .ok (.iload_n 1, 1) := by decide +kernel
theorem dX12_melt_236 : decode cX12_melt 236 = .ok (.ireturn, 1) := by decide +kernel
theorem dX12_melt_80 : decode cX12_melt 80 = .ok (.aload_n 0, 1) := by decide +kernel
theorem dX12_melt_81 : decode cX12_melt 81 = .ok (.iload_n 2, 1) := by decide +kernel
theorem dX12_melt_82 : decode cX12_melt 82 = .ok (.invokevirtual 301, 3) := by decide +kernel
theorem dX12_melt_85 : decode cX12_melt 85 = .ok (.iload_n 2, 1) := by decide +kernel
theorem dX12_melt_86 : decode cX12_melt 86 = .ok (.if_icmp .ne 115, 3) := by decide +kernel
theorem dX12_melt_201 : decode cX12_melt 201 = .ok (.iinc 2 1, 3) := by decide +kernel
theorem dX12_melt_204 : decode cX12_melt 204 = .ok (.goto (-134), 3) := by decide +kernel
theorem dX12_melt_89 : decode cX12_melt 89 = .ok (.aload_n 0, 1) := by decide +kernel
theorem dX12_melt_90 : decode cX12_melt 90 = .ok (.getfield 16, 3) := by decide +kernel
theorem dX12_melt_93 : decode cX12_melt 93 = .ok (.aload_n 0, 1) := by decide +kernel
theorem dX12_melt_94 : decode cX12_melt 94 = .ok (.getfield 81, 3) := by decide +kernel
theorem dX12_melt_97 : decode cX12_melt 97 = .ok (.iload_n 2, 1) := by decide +kernel
theorem dX12_melt_98 : decode cX12_melt 98 = .ok (.iaload, 1) := by decide +kernel
theorem dX12_melt_99 : decode cX12_melt 99 = .ok (.aload_n 0, 1) := by decide +kernel
theorem dX12_melt_100 : decode cX12_melt 100 = .ok (.getfield 16, 3) := by decide +kernel
theorem dX12_melt_103 : decode cX12_melt 103 = .ok (.bipush 24, 2) := by decide +kernel
theorem dX12_melt_105 : decode cX12_melt 105 = .ok (.iload_n 2, 1) := by decide +kernel
theorem dX12_melt_106 : decode cX12_melt 106 = .ok (.iadd, 1) := by decide +kernel
theorem dX12_melt_107 : decode cX12_melt 107 = .ok (.iaload, 1) := by decide +kernel
theorem dX12_melt_108 : decode cX12_melt 108 = .ok (.iastore, 1) := by decide +kernel
theorem dX12_melt_109 : decode cX12_melt 109 = .ok (.iconst 0, 1) := by decide +kernel
theorem dX12_melt_110 : decode cX12_melt 110 = .ok (.istore_n 3, 1) := by decide +kernel
theorem dX12_melt_111 : decode cX12_melt 111 = .ok (.iload_n 3, 1) := by decide +kernel
theorem dX12_melt_112 : decode cX12_melt 112 = .ok (.iconst 4, 1) := by decide +kernel
theorem dX12_melt_113 : decode cX12_melt 113 = .ok (.if_icmp .ge 88, 3) := by decide +kernel
theorem dX12_melt_116 : decode cX12_melt 116 = .ok (.iconst 0, 1) := by decide +kernel
theorem dX12_melt_117 : decode cX12_melt 117 = .ok (.istore 4, 2) := by decide +kernel
theorem dX12_melt_119 : decode cX12_melt 119 = .ok (.iconst 0, 1) := by decide +kernel
theorem dX12_melt_120 : decode cX12_melt 120 = .ok (.istore 5, 2) := by decide +kernel
theorem dX12_melt_122 : decode cX12_melt 122 = .ok (.iload 5, 2) := by decide +kernel
theorem dX12_melt_124 : decode cX12_melt 124 = .ok (.aload_n 0, 1) := by decide +kernel
theorem dX12_melt_125 : decode cX12_melt 125 = .ok (.getfield 7, 3) := by decide +kernel
theorem dX12_melt_128 : decode cX12_melt 128 = .ok (.iconst 1, 1) := by decide +kernel
theorem dX12_melt_129 : decode cX12_melt 129 = .ok (.iaload, 1) := by decide +kernel
theorem dX12_melt_130 : decode cX12_melt 130 = .ok (.if_icmp .ge 47, 3) := by decide +kernel
theorem dX12_melt_177 : decode cX12_melt 177 = .ok (.aload_n 0, 1) := by decide +kernel
theorem dX12_melt_178 : decode cX12_melt 178 = .ok (.getfield 19, 3) := by decide +kernel
theorem dX12_melt_181 : decode cX12_melt 181 = .ok (.bipush 24, 2) := by decide +kernel
theorem dX12_melt_183 : decode cX12_melt 183 = .ok (.iload_n 3, 1) := by decide +kernel
theorem dX12_melt_184 : decode cX12_melt 184 = .ok (.imul, 1) := by decide +kernel
theorem dX12_melt_185 : decode cX12_melt 185 = .ok (.aload_n 0, 1) := by decide +kernel
theorem dX12_melt_186 : decode cX12_melt 186 = .ok (.getfield 81, 3) := by decide +kernel
theorem dX12_melt_189 : decode cX12_melt 189 = .ok (.iload_n 2, 1) := by decide +kernel
theorem dX12_melt_190 : decode cX12_melt 190 = .ok (.iaload, 1) := by decide +kernel
theorem dX12_melt_191 : decode cX12_melt 191 = .ok (.iadd, 1) := by decide +kernel
theorem dX12_melt_192 : decode cX12_melt 192 = .ok (.iload 4, 2) := by decide +kernel
theorem dX12_melt_194 : decode cX12_melt 194 = .ok (.iastore, 1) := by decide +kernel
theorem dX12_melt_195 : decode cX12_melt 195 = .ok (.iinc 3 1, 3) := by decide +kernel
theorem dX12_melt_198 : decode cX12_melt 198 = .ok (.goto (-87), 3) := by decide +kernel
theorem dX12_melt_133 : decode cX12_melt 133 = .ok (.iload 4, 2) := by decide +kernel
theorem dX12_melt_135 : decode cX12_melt 135 = .ok (.aload_n 0, 1) := by decide +kernel
theorem dX12_melt_136 : decode cX12_melt 136 = .ok (.iconst 1, 1) := by decide +kernel
theorem dX12_melt_137 : decode cX12_melt 137 = .ok (.iload_n 3, 1) := by decide +kernel
theorem dX12_melt_138 : decode cX12_melt 138 = .ok (.iload_n 2, 1) := by decide +kernel
theorem dX12_melt_139 : decode cX12_melt 139 = .ok (.invokevirtual 135, 3) := by decide +kernel
theorem dX12_melt_142 : decode cX12_melt 142 = .ok (.iload 5, 2) := by decide +kernel
theorem dX12_melt_144 : decode cX12_melt 144 = .ok (.ishr, 1) := by decide +kernel
theorem dX12_melt_145 : decode cX12_melt 145 = .ok (.iconst 1, 1) := by decide +kernel
theorem dX12_melt_146 : decode cX12_melt 146 = .ok (.iand, 1) := by decide +kernel
theorem dX12_melt_147 : decode cX12_melt 147 = .ok (.iconst 1, 1) := by decide +kernel
theorem dX12_melt_148 : decode cX12_melt 148 = .ok (.if_icmp .ne 19, 3) := by decide +kernel
theorem dX12_melt_167 : decode cX12_melt 167 = .ok (.iconst 0, 1) := by decide +kernel
theorem dX12_melt_168 : decode cX12_melt 168 = .ok (.ior, 1) := by decide +kernel
theorem dX12_melt_169 : decode cX12_melt 169 = .ok (.istore 4, 2) := by decide +kernel
theorem dX12_melt_171 : decode cX12_melt 171 = .ok (.iinc 5 1, 3) := by decide +kernel
theorem dX12_melt_174 : decode cX12_melt 174 = .ok (.goto (-52), 3) := by decide +kernel
theorem dX12_melt_151 : decode cX12_melt 151 = .ok (.iconst 1, 1) := by decide +kernel
theorem dX12_melt_152 : decode cX12_melt 152 = .ok (.aload_n 0, 1) := by decide +kernel
theorem dX12_melt_153 : decode cX12_melt 153 = .ok (.getfield 81, 3) := by decide +kernel
theorem dX12_melt_156 : decode cX12_melt 156 = .ok (.aload_n 0, 1) := by decide +kernel
theorem dX12_melt_157 : decode cX12_melt 157 = .ok (.iload 5, 2) := by decide +kernel
theorem dX12_melt_159 : decode cX12_melt 159 = .ok (.invokevirtual 301, 3) := by decide +kernel
theorem dX12_melt_162 : decode cX12_melt 162 = .ok (.iaload, 1) := by decide +kernel
theorem dX12_melt_163 : decode cX12_melt 163 = .ok (.ishl, 1) := by decide +kernel
theorem dX12_melt_164 : decode cX12_melt 164 = .ok (.goto 4, 3) := by decide +kernel
theorem dX12_melt_43 : decode cX12_melt 43 = .ok (.aload_n 0, 1) := by decide +kernel
theorem dX12_melt_44 : decode cX12_melt 44 = .ok (.iload_n 2, 1) := by decide +kernel
theorem dX12_melt_45 : decode cX12_melt 45 = .ok (.invokevirtual 301, 3) := by decide +kernel
theorem dX12_melt_48 : decode cX12_melt 48 = .ok (.iload_n 2, 1) := by decide +kernel
theorem dX12_melt_49 : decode cX12_melt 49 = .ok (.if_icmp .ne 13, 3) := by decide +kernel
theorem dX12_melt_62 : decode cX12_melt 62 = .ok (.iinc 2 1, 3) := by decide +kernel
theorem dX12_melt_65 : decode cX12_melt 65 = .ok (.goto (-32), 3) := by decide +kernel
theorem dX12_melt_52 : decode cX12_melt 52 = .ok (.aload_n 0, 1) := by decide +kernel
theorem dX12_melt_53 : decode cX12_melt 53 = .ok (.getfield 81, 3) := by decide +kernel
theorem dX12_melt_56 : decode cX12_melt 56 = .ok (.iload_n 2, 1) := by decide +kernel
theorem dX12_melt_57 : decode cX12_melt 57 = .ok (.iload_n 1, 1) := by decide +kernel
theorem dX12_melt_58 : decode cX12_melt 58 = .ok (.iastore, 1) := by decide +kernel
theorem dX12_melt_59 : decode cX12_melt 59 = .ok (.iinc 1 1, 3) := by decide +kernel
theorem dX12_melt_9 : decode cX12_melt 9 = .ok (.bipush (-2), 2) := by decide +kernel
theorem dX12_melt_11 : decode cX12_melt 11 = .ok (.ireturn, 1) := by decide +kernel
set_option maxRecDepth 100000 in
set_option maxHeartbeats 4000000 in
theorem y_melt (l : Launch) (E : EV) (ro : va_W) (hm : Nat) (m_manys : Nat) (m_reals : Nat) (m_factsOf : Nat) (m_possible : Nat) (q_undos : Nat) (q_models : Nat) (m_tape : Nat) (q_taped : Nat) (q_fault : Int32) (q_wrong : Int32) (q_wrongAt : Int32) (q_spot : Int32) (q_place : Int32) (q_token : Int32) (q_value : Int32) (m_ends : Nat) (m_letters : Nat) (m_actOf : Nat) (m_whom : Nat) (m_actMany : Nat) (m_tokens : Nat) (m_afters : Nat) (m_afterOf : Nat) (q_counted : Int32) (m_pile : Nat) (m_caseMany : Nat) (m_happen : Nat) (m_hasIf : Nat) (m_becomes : Nat) (m_goneOf : Nat) (m_heard : Nat) (m_pairs : Nat) (m_heaps : Nat) (q_rounds : Int32) (q_heapMany : Int32) (m_led : Nat) (m_newAt : Nat) (m_knowing : Nat) (m_firsts : Nat) (q_people : Nat) (m_secrets : Nat) (m_tried : Nat) (m_lanes : Nat) (m_lengths : Nat) (m_cells : Nat) (f_manys : Nat → Int32) (f_reals : Nat → Int32) (f_factsOf : Nat → Int32) (f_possible : Nat → Int32) (f_heaps : Nat → Int32) (f_led : Nat → Int64) (f_newAt : Nat → Int32) (hb_manys : NB 18 24 f_manys) (hb_reals : NB 18 23 f_reals) (hpg : PG f_manys f_reals) (hq_undos : q_undos ≤ 8) : CT l yX12_melt (Cond.code yX12_melt cX12_melt 6 (some .int) :: TB) ({ frames := 3, cells := 0, slots := 0, locals := 78 }) E ro [.ref hm] [(hm, .inr (12, [.ref m_manys, .ref m_reals, .ref m_factsOf, .ref m_possible, .int (nI q_undos), .int (nI q_models), .ref m_tape, .int (nI q_taped), .int q_fault, .int q_wrong, .int q_wrongAt, .int q_spot, .int q_place, .int q_token, .int q_value, .ref m_ends, .ref m_letters, .ref m_actOf, .ref m_whom, .ref m_actMany, .ref m_tokens, .ref m_afters, .ref m_afterOf, .int q_counted, .ref m_pile, .ref m_caseMany, .ref m_happen, .ref m_hasIf, .ref m_becomes, .ref m_goneOf, .ref m_heard, .ref m_pairs, .ref m_heaps, .int q_rounds, .int q_heapMany, .ref m_led, .ref m_newAt, .ref m_knowing, .ref m_firsts, .int (nI q_people), .ref m_secrets, .ref m_tried, .ref m_lanes, .ref m_lengths, .ref m_cells])), (m_manys, .inl (E.2.1 1, 18, .inl f_manys)), (m_reals, .inl (E.2.1 1, 18, .inl f_reals)), (m_factsOf, .inl (E.2.1 1, 432, .inl f_factsOf)), (m_possible, .inl (E.2.1 1, 1728, .inl f_possible)), (m_heaps, .inl (E.2.1 1, 2400, .inl f_heaps)), (m_led, .inl (E.2.1 2, 192, .inr (.inl f_led))), (m_newAt, .inl (E.2.1 1, 24, .inl f_newAt))] (Qi E (fun (rz : Int32) uz => (∃ (uz_ : Nat) (rz_ : Int32) (hmz : Int32) (f_manysz : Nat → Int32) (f_realsz : Nat → Int32) (f_factsOfz : Nat → Int32) (f_possiblez : Nat → Int32) (f_heapsz : Nat → Int32) (f_ledz : Nat → Int64) (f_newAtz : Nat → Int32), uz = [(hm, .inr (12, [.ref m_manys, .ref m_reals, .ref m_factsOf, .ref m_possible, .int (nI uz_), .int (nI q_models), .ref m_tape, .int (nI q_taped), .int q_fault, .int q_wrong, .int q_wrongAt, .int q_spot, .int q_place, .int q_token, .int q_value, .ref m_ends, .ref m_letters, .ref m_actOf, .ref m_whom, .ref m_actMany, .ref m_tokens, .ref m_afters, .ref m_afterOf, .int q_counted, .ref m_pile, .ref m_caseMany, .ref m_happen, .ref m_hasIf, .ref m_becomes, .ref m_goneOf, .ref m_heard, .ref m_pairs, .ref m_heaps, .int rz_, .int hmz, .ref m_led, .ref m_newAt, .ref m_knowing, .ref m_firsts, .int (nI q_people), .ref m_secrets, .ref m_tried, .ref m_lanes, .ref m_lengths, .ref m_cells])), (m_manys, .inl (E.2.1 1, 18, .inl f_manysz)), (m_reals, .inl (E.2.1 1, 18, .inl f_realsz)), (m_factsOf, .inl (E.2.1 1, 432, .inl f_factsOfz)), (m_possible, .inl (E.2.1 1, 1728, .inl f_possiblez)), (m_heaps, .inl (E.2.1 1, 2400, .inl f_heapsz)), (m_led, .inl (E.2.1 2, 192, .inr (.inl f_ledz))), (m_newAt, .inl (E.2.1 1, 24, .inl f_newAtz))] ∧ (uz_ ≤ 8) ∧ (NB 18 24 f_manysz) ∧ (NB 18 23 f_realsz) ∧ (PG f_manysz f_realsz)))) 0 0 := by
  refine ct_of rfl rfl ?_
  intro X C hT hin hro
  show WW X 6 E 0 [(0, .ref hm)] [] [(hm, .inr (12, [.ref m_manys, .ref m_reals, .ref m_factsOf, .ref m_possible, .int (nI q_undos), .int (nI q_models), .ref m_tape, .int (nI q_taped), .int q_fault, .int q_wrong, .int q_wrongAt, .int q_spot, .int q_place, .int q_token, .int q_value, .ref m_ends, .ref m_letters, .ref m_actOf, .ref m_whom, .ref m_actMany, .ref m_tokens, .ref m_afters, .ref m_afterOf, .int q_counted, .ref m_pile, .ref m_caseMany, .ref m_happen, .ref m_hasIf, .ref m_becomes, .ref m_goneOf, .ref m_heard, .ref m_pairs, .ref m_heaps, .int q_rounds, .int q_heapMany, .ref m_led, .ref m_newAt, .ref m_knowing, .ref m_firsts, .int (nI q_people), .ref m_secrets, .ref m_tried, .ref m_lanes, .ref m_lengths, .ref m_cells])), (m_manys, .inl (E.2.1 1, 18, .inl f_manys)), (m_reals, .inl (E.2.1 1, 18, .inl f_reals)), (m_factsOf, .inl (E.2.1 1, 432, .inl f_factsOf)), (m_possible, .inl (E.2.1 1, 1728, .inl f_possible)), (m_heaps, .inl (E.2.1 1, 2400, .inl f_heaps)), (m_led, .inl (E.2.1 2, 192, .inr (.inl f_led))), (m_newAt, .inl (E.2.1 1, 24, .inl f_newAt))] 0 0
  have hmn0 := (hb_manys 0 (by omega)).2
  have hpg0 := hpg 0 (by omega)
  refine ww_aload_n C dX12_melt_0 0 rfl rfl ?_
  refine ww_get C fg_X12_7 0 rfl rfl dX12_melt_1 ?_
  refine ww_iconst (v := 0) C dX12_melt_4 rfl ?_
  have hbx_1 := (hb_manys 0 (by omega)).2
  refine ww_iald (v := (nI (cN f_manys 0))) C 1 rfl (vin rfl) (hb_manys 0 (by omega)).1 dX12_melt_5 ?_
  refine ww_if_ne (tgt := 12) C dX12_melt_6 (by decide) (fun c_2 => ?_) (fun c_2 => ?_)
  · have zc_2 : ((cN f_manys 0 : Nat) : Int) ≠ 0 := i_ne (nI_toInt (n := cN f_manys 0) (by omega)) rfl c_2
    refine ww_aload_n C dX12_melt_12 0 rfl rfl ?_
    refine ww_iconst (v := 0) C dX12_melt_13 rfl ?_
    refine ww_bipush (v := (-4)) C dX12_melt_14 rfl ?_
    refine ww_cv (wr := [(m_reals, .inl (E.2.1 1, 18, .inl f_reals)), (m_newAt, .inl (E.2.1 1, 24, .inl f_newAt))]) (k' := 0) (n' := 0) C (run_V (As := [.int 0, .int (-4)]) (rest := []) C (r_layHeapsN X.2.1 E ro hm m_manys m_reals m_factsOf m_possible q_undos q_models m_tape q_taped q_fault q_wrong q_wrongAt q_spot q_place q_token q_value m_ends m_letters m_actOf m_whom m_actMany m_tokens m_afters m_afterOf q_counted m_pile m_caseMany m_happen m_hasIf m_becomes m_goneOf m_heard m_pairs m_heaps q_rounds q_heapMany m_led m_newAt m_knowing m_firsts q_people m_secrets m_tried m_lanes m_lengths m_cells f_manys f_possible f_factsOf f_heaps f_led hb_manys) mi_X12_layHeaps wl_X12_298 rfl 0 12 rfl rfl rfl rfl rfl dX12_melt_16) (roK hro) [0, 1, 4, 3, 5, 6] [2, 7] rfl rfl rfl rfl (fun uz hw => ?_)
    refine ex4 hw ?_
    clear hw
    intro rz__4 hmz_5 f_heapsz_6 f_ledz_7 hw
    refine an3 hw ?_
    clear hw
    intro he_11 h_8 h_9 hw
    have h_10 := hw
    clear hw
    subst he_11
    refine ww_eq (ws' := [(m_reals, .inl (E.2.1 1, 18, .inl f_reals)), (m_newAt, .inl (E.2.1 1, 24, .inl f_newAt)), (hm, .inr (12, [.ref m_manys, .ref m_reals, .ref m_factsOf, .ref m_possible, .int (nI q_undos), .int (nI q_models), .ref m_tape, .int (nI q_taped), .int q_fault, .int q_wrong, .int q_wrongAt, .int q_spot, .int q_place, .int q_token, .int q_value, .ref m_ends, .ref m_letters, .ref m_actOf, .ref m_whom, .ref m_actMany, .ref m_tokens, .ref m_afters, .ref m_afterOf, .int q_counted, .ref m_pile, .ref m_caseMany, .ref m_happen, .ref m_hasIf, .ref m_becomes, .ref m_goneOf, .ref m_heard, .ref m_pairs, .ref m_heaps, .int (nI rz__4), .int (nI hmz_5), .ref m_led, .ref m_newAt, .ref m_knowing, .ref m_firsts, .int (nI q_people), .ref m_secrets, .ref m_tried, .ref m_lanes, .ref m_lengths, .ref m_cells])), (m_manys, .inl (E.2.1 1, 18, .inl f_manys)), (m_possible, .inl (E.2.1 1, 1728, .inl f_possible)), (m_factsOf, .inl (E.2.1 1, 432, .inl f_factsOf)), (m_heaps, .inl (E.2.1 1, 2400, .inl f_heapsz_6)), (m_led, .inl (E.2.1 2, 192, .inr (.inl f_ledz_7)))]) ?_ rfl rfl rfl
    refine ww_aload_n C dX12_melt_19 0 rfl rfl ?_
    refine ww_cv (wr := [(m_newAt, .inl (E.2.1 1, 24, .inl f_newAt)), (m_heaps, .inl (E.2.1 1, 2400, .inl f_heapsz_6)), (m_led, .inl (E.2.1 2, 192, .inr (.inl f_ledz_7)))]) (k' := 0) (n' := 0) C (run_V (As := []) (rest := []) C (r_acts X.2.1 E ro hm m_manys m_reals m_factsOf m_possible q_undos q_models m_tape q_taped q_fault q_wrong q_wrongAt q_spot q_place q_token q_value m_ends m_letters m_actOf m_whom m_actMany m_tokens m_afters m_afterOf q_counted m_pile m_caseMany m_happen m_hasIf m_becomes m_goneOf m_heard m_pairs m_heaps (nI rz__4) (nI hmz_5) m_led m_newAt m_knowing m_firsts q_people m_secrets m_tried m_lanes m_lengths m_cells f_manys f_reals f_factsOf f_possible hb_manys hb_reals hpg (by omega)) mi_X12_acts wl_X12_121 rfl 0 12 rfl rfl rfl rfl rfl dX12_melt_20) (roK hro) [2, 3, 0, 5, 4] [1, 6, 7] rfl rfl rfl rfl (fun uz hw => ?_)
    refine ex5 hw ?_
    clear hw
    intro uz__13 f_manysz_14 f_realsz_15 f_factsOfz_16 f_possiblez_17 hw
    refine an8 hw ?_
    clear hw
    intro he_26 h_18 h_19 h_20 h_21 h_22 h_23 h_24 hw
    have h_25 := hw
    clear hw
    subst he_26
    refine ww_eq (ws' := [(m_newAt, .inl (E.2.1 1, 24, .inl f_newAt)), (m_heaps, .inl (E.2.1 1, 2400, .inl f_heapsz_6)), (m_led, .inl (E.2.1 2, 192, .inr (.inl f_ledz_7))), (hm, .inr (12, [.ref m_manys, .ref m_reals, .ref m_factsOf, .ref m_possible, .int (nI uz__13), .int (nI q_models), .ref m_tape, .int (nI q_taped), .int q_fault, .int q_wrong, .int q_wrongAt, .int q_spot, .int q_place, .int q_token, .int q_value, .ref m_ends, .ref m_letters, .ref m_actOf, .ref m_whom, .ref m_actMany, .ref m_tokens, .ref m_afters, .ref m_afterOf, .int q_counted, .ref m_pile, .ref m_caseMany, .ref m_happen, .ref m_hasIf, .ref m_becomes, .ref m_goneOf, .ref m_heard, .ref m_pairs, .ref m_heaps, .int (nI rz__4), .int (nI hmz_5), .ref m_led, .ref m_newAt, .ref m_knowing, .ref m_firsts, .int (nI q_people), .ref m_secrets, .ref m_tried, .ref m_lanes, .ref m_lengths, .ref m_cells])), (m_manys, .inl (E.2.1 1, 18, .inl f_manysz_14)), (m_reals, .inl (E.2.1 1, 18, .inl f_realsz_15)), (m_factsOf, .inl (E.2.1 1, 432, .inl f_factsOfz_16)), (m_possible, .inl (E.2.1 1, 1728, .inl f_possiblez_17))]) ?_ rfl rfl rfl
    have hmb := (h_18 0 (by omega)).2
    have hrb := (h_19 0 (by omega)).2
    refine ww_aload_n C dX12_melt_23 0 rfl rfl ?_
    refine ww_iconst (v := 0) C dX12_melt_24 rfl ?_
    refine ww_iconst (v := 1) C dX12_melt_25 rfl ?_
    refine ww_cv (wr := [(m_newAt, .inl (E.2.1 1, 24, .inl f_newAt)), (m_heaps, .inl (E.2.1 1, 2400, .inl f_heapsz_6)), (m_led, .inl (E.2.1 2, 192, .inr (.inl f_ledz_7)))]) (k' := 0) (n' := 0) C (run_V (As := [.int 0, .int 1]) (rest := []) C (r_copy X.2.1 E ro hm 0 1 m_manys m_reals m_factsOf m_possible uz__13 q_models m_tape q_taped q_fault q_wrong q_wrongAt q_spot q_place q_token q_value m_ends m_letters m_actOf m_whom m_actMany m_tokens m_afters m_afterOf q_counted m_pile m_caseMany m_happen m_hasIf m_becomes m_goneOf m_heard m_pairs m_heaps (nI rz__4) (nI hmz_5) m_led m_newAt m_knowing m_firsts q_people m_secrets m_tried m_lanes m_lengths m_cells f_manysz_14 f_realsz_15 f_factsOfz_16 f_possiblez_17 h_18 h_19 h_20 (by omega) (by omega)) mi_X12_copy wl_X12_109 rfl 0 12 rfl rfl rfl rfl rfl dX12_melt_26) (roK hro) [3, 4, 5, 6, 7] [0, 1, 2] rfl rfl rfl rfl (fun uz hw => ?_)
    refine ex4 hw ?_
    clear hw
    intro f_manysz_28 f_realsz_29 f_factsOfz_30 f_possiblez_31 hw
    refine an7 hw ?_
    clear hw
    intro he_39 h_32 h_33 h_34 h_35 h_36 h_37 hw
    have h_38 := hw
    clear hw
    subst he_39
    refine ww_eq (ws' := [(m_newAt, .inl (E.2.1 1, 24, .inl f_newAt)), (m_heaps, .inl (E.2.1 1, 2400, .inl f_heapsz_6)), (m_led, .inl (E.2.1 2, 192, .inr (.inl f_ledz_7))), (hm, .inr (12, [.ref m_manys, .ref m_reals, .ref m_factsOf, .ref m_possible, .int (nI uz__13), .int (nI q_models), .ref m_tape, .int (nI q_taped), .int q_fault, .int q_wrong, .int q_wrongAt, .int q_spot, .int q_place, .int q_token, .int q_value, .ref m_ends, .ref m_letters, .ref m_actOf, .ref m_whom, .ref m_actMany, .ref m_tokens, .ref m_afters, .ref m_afterOf, .int q_counted, .ref m_pile, .ref m_caseMany, .ref m_happen, .ref m_hasIf, .ref m_becomes, .ref m_goneOf, .ref m_heard, .ref m_pairs, .ref m_heaps, .int (nI rz__4), .int (nI hmz_5), .ref m_led, .ref m_newAt, .ref m_knowing, .ref m_firsts, .int (nI q_people), .ref m_secrets, .ref m_tried, .ref m_lanes, .ref m_lengths, .ref m_cells])), (m_manys, .inl (E.2.1 1, 18, .inl f_manysz_28)), (m_reals, .inl (E.2.1 1, 18, .inl f_realsz_29)), (m_factsOf, .inl (E.2.1 1, 432, .inl f_factsOfz_30)), (m_possible, .inl (E.2.1 1, 1728, .inl f_possiblez_31))]) ?_ rfl rfl rfl
    have hm1 := cN_s (by omega) h_35
    have hr1 := cN_s (by omega) h_36
    have hm10 := cN_n (j := 0) h_35 (by omega)
    have hkm := KP.at h_22 (p := 0) (by omega)
    have hkr := KP.at h_23 (p := 0) (by omega)
    refine ww_iconst (v := 0) C dX12_melt_29 rfl ?_
    refine ww_istore_n (lv' := [(1, .int 0), (0, .ref hm)]) C dX12_melt_30 rfl rfl rfl ?_
    refine ww_iconst (v := 0) C dX12_melt_31 rfl ?_
    refine ww_istore_n (lv' := [(2, .int 0), (1, .int 0), (0, .ref hm)]) C dX12_melt_32 rfl rfl rfl ?_
    have loop_33 : ∀ (fu : Nat) (w1 : Nat) (c1 : Nat) (g1 : Nat → Int32), (w1 ≤ cN f_manys 0) → (c1 ≤ w1) → (MDx (rowH f_heapsz_6 rz__4) w1 c1 g1) → cN f_manys 0 - w1 < fu → WW X 6 E 33 [(2, .int (nI w1)), (1, .int (nI c1)), (0, .ref hm)] [] [(m_newAt, .inl (E.2.1 1, 24, .inl g1)), (m_heaps, .inl (E.2.1 1, 2400, .inl f_heapsz_6)), (m_led, .inl (E.2.1 2, 192, .inr (.inl f_ledz_7))), (hm, .inr (12, [.ref m_manys, .ref m_reals, .ref m_factsOf, .ref m_possible, .int (nI uz__13), .int (nI q_models), .ref m_tape, .int (nI q_taped), .int q_fault, .int q_wrong, .int q_wrongAt, .int q_spot, .int q_place, .int q_token, .int q_value, .ref m_ends, .ref m_letters, .ref m_actOf, .ref m_whom, .ref m_actMany, .ref m_tokens, .ref m_afters, .ref m_afterOf, .int q_counted, .ref m_pile, .ref m_caseMany, .ref m_happen, .ref m_hasIf, .ref m_becomes, .ref m_goneOf, .ref m_heard, .ref m_pairs, .ref m_heaps, .int (nI rz__4), .int (nI hmz_5), .ref m_led, .ref m_newAt, .ref m_knowing, .ref m_firsts, .int (nI q_people), .ref m_secrets, .ref m_tried, .ref m_lanes, .ref m_lengths, .ref m_cells])), (m_manys, .inl (E.2.1 1, 18, .inl f_manysz_28)), (m_reals, .inl (E.2.1 1, 18, .inl f_realsz_29)), (m_factsOf, .inl (E.2.1 1, 432, .inl f_factsOfz_30)), (m_possible, .inl (E.2.1 1, 1728, .inl f_possiblez_31))] 0 0 := by
      intro fu
      induction fu with
      | zero => intro w1 c1 g1 hw1 hc1 hmd hmeas; exact absurd hmeas (Nat.not_lt_zero _)
      | succ fu ih_33 =>
        intro w1 c1 g1 hw1 hc1 hmd hmeas
        refine ww_iload_n C dX12_melt_33 0 rfl rfl ?_
        refine ww_aload_n C dX12_melt_34 2 rfl rfl ?_
        refine ww_get C fg_X12_7 3 rfl rfl dX12_melt_35 ?_
        refine ww_iconst (v := 1) C dX12_melt_38 rfl ?_
        have hbx_40 := (h_32 1 (by omega)).2
        refine ww_iald (v := (nI (cN f_manysz_28 1))) C 4 rfl (vin rfl) (h_32 1 (by omega)).1 dX12_melt_39 ?_
        refine ww_icmp_ge (tgt := 68) C dX12_melt_40 (by decide) (fun c_41 => ?_) (fun c_41 => ?_)
        · have zc_41 : ((w1 : Nat) : Int) ≥ ((cN f_manysz_28 1 : Nat) : Int) := i_le (nI_toInt (n := cN f_manysz_28 1) (by omega)) (nI_toInt (n := w1) (by omega)) c_41
          refine ww_iconst (v := 0) C dX12_melt_68 rfl ?_
          refine ww_istore_n (lv' := [(2, .int 0), (1, .int (nI c1)), (0, .ref hm)]) C dX12_melt_69 rfl rfl rfl ?_
          have hw1n : w1 = cN f_manys 0 := by omega
          rw [hw1n] at hmd
          have loop_70 : ∀ (fu : Nat) (w2 : Nat) (g_fa : Nat → Int32) (g_po : Nat → Int32), (w2 ≤ cN f_manys 0) → cN f_manys 0 - w2 < fu → WW X 6 E 70 [(2, .int (nI w2)), (1, .int (nI c1)), (0, .ref hm)] [] [(m_newAt, .inl (E.2.1 1, 24, .inl g1)), (m_heaps, .inl (E.2.1 1, 2400, .inl f_heapsz_6)), (m_led, .inl (E.2.1 2, 192, .inr (.inl f_ledz_7))), (hm, .inr (12, [.ref m_manys, .ref m_reals, .ref m_factsOf, .ref m_possible, .int (nI uz__13), .int (nI q_models), .ref m_tape, .int (nI q_taped), .int q_fault, .int q_wrong, .int q_wrongAt, .int q_spot, .int q_place, .int q_token, .int q_value, .ref m_ends, .ref m_letters, .ref m_actOf, .ref m_whom, .ref m_actMany, .ref m_tokens, .ref m_afters, .ref m_afterOf, .int q_counted, .ref m_pile, .ref m_caseMany, .ref m_happen, .ref m_hasIf, .ref m_becomes, .ref m_goneOf, .ref m_heard, .ref m_pairs, .ref m_heaps, .int (nI rz__4), .int (nI hmz_5), .ref m_led, .ref m_newAt, .ref m_knowing, .ref m_firsts, .int (nI q_people), .ref m_secrets, .ref m_tried, .ref m_lanes, .ref m_lengths, .ref m_cells])), (m_manys, .inl (E.2.1 1, 18, .inl f_manysz_28)), (m_reals, .inl (E.2.1 1, 18, .inl f_realsz_29)), (m_factsOf, .inl (E.2.1 1, 432, .inl g_fa)), (m_possible, .inl (E.2.1 1, 1728, .inl g_po))] 0 0 := by
            intro fu
            induction fu with
            | zero => intro w2 g_fa g_po hw2 hmeas; exact absurd hmeas (Nat.not_lt_zero _)
            | succ fu ih_70 =>
              intro w2 g_fa g_po hw2 hmeas
              refine ww_iload_n C dX12_melt_70 0 rfl rfl ?_
              refine ww_aload_n C dX12_melt_71 2 rfl rfl ?_
              refine ww_get C fg_X12_7 3 rfl rfl dX12_melt_72 ?_
              refine ww_iconst (v := 1) C dX12_melt_75 rfl ?_
              have hbx_42 := (h_32 1 (by omega)).2
              refine ww_iald (v := (nI (cN f_manysz_28 1))) C 4 rfl (vin rfl) (h_32 1 (by omega)).1 dX12_melt_76 ?_
              refine ww_icmp_ge (tgt := 207) C dX12_melt_77 (by decide) (fun c_43 => ?_) (fun c_43 => ?_)
              · have zc_43 : ((w2 : Nat) : Int) ≥ ((cN f_manysz_28 1 : Nat) : Int) := i_le (nI_toInt (n := cN f_manysz_28 1) (by omega)) (nI_toInt (n := w2) (by omega)) c_43
                refine ww_aload_n C dX12_melt_207 2 rfl rfl ?_
                refine ww_get C fg_X12_13 3 rfl rfl dX12_melt_208 ?_
                refine ww_iconst (v := 0) C dX12_melt_211 rfl ?_
                refine ww_aload_n C dX12_melt_212 2 rfl rfl ?_
                refine ww_get C fg_X12_81 3 rfl rfl dX12_melt_213 ?_
                refine ww_aload_n C dX12_melt_216 2 rfl rfl ?_
                refine ww_aload_n C dX12_melt_217 2 rfl rfl ?_
                refine ww_get C fg_X12_13 3 rfl rfl dX12_melt_218 ?_
                refine ww_iconst (v := 1) C dX12_melt_221 rfl ?_
                have hbx_44 := (h_33 1 (by omega)).2
                refine ww_iald (v := (nI (cN f_realsz_29 1))) C 5 rfl (vin rfl) (h_33 1 (by omega)).1 dX12_melt_222 ?_
                refine ww_ci (wr := [(m_newAt, .inl (E.2.1 1, 24, .inl g1)), (m_led, .inl (E.2.1 2, 192, .inr (.inl f_ledz_7))), (m_manys, .inl (E.2.1 1, 18, .inl f_manysz_28)), (m_reals, .inl (E.2.1 1, 18, .inl f_realsz_29)), (m_factsOf, .inl (E.2.1 1, 432, .inl g_fa)), (m_possible, .inl (E.2.1 1, 1728, .inl g_po))]) (k' := 0) (n' := 0) C (run_V (As := [.int (nI (cN f_realsz_29 1))]) (rest := [.ref m_newAt, .int 0, .ref m_reals]) C (r_heapOf X.2.1 E ro hm (cN f_realsz_29 1) m_manys m_reals m_factsOf m_possible uz__13 q_models m_tape q_taped q_fault q_wrong q_wrongAt q_spot q_place q_token q_value m_ends m_letters m_actOf m_whom m_actMany m_tokens m_afters m_afterOf q_counted m_pile m_caseMany m_happen m_hasIf m_becomes m_goneOf m_heard m_pairs m_heaps rz__4 (nI hmz_5) m_led m_newAt m_knowing m_firsts q_people m_secrets m_tried m_lanes m_lengths m_cells f_heapsz_6 (by omega) (by omega)) mi_X12_heapOf wl_X12_301 rfl 0 12 rfl rfl rfl rfl rfl dX12_melt_223) (roK hro) [3, 1] [0, 2, 4, 5, 6, 7] rfl rfl rfl rfl (fun r_45 uz hw => ?_)
                refine an1 hw ?_
                clear hw
                intro he_46 hw
                have he_47 := hw
                clear hw
                have he_46 := he_46.symm
                subst he_46
                subst he_47
                refine ww_eq (ws' := [(m_newAt, .inl (E.2.1 1, 24, .inl g1)), (m_led, .inl (E.2.1 2, 192, .inr (.inl f_ledz_7))), (m_manys, .inl (E.2.1 1, 18, .inl f_manysz_28)), (m_reals, .inl (E.2.1 1, 18, .inl f_realsz_29)), (m_factsOf, .inl (E.2.1 1, 432, .inl g_fa)), (m_possible, .inl (E.2.1 1, 1728, .inl g_po)), (hm, .inr (12, [.ref m_manys, .ref m_reals, .ref m_factsOf, .ref m_possible, .int (nI uz__13), .int (nI q_models), .ref m_tape, .int (nI q_taped), .int q_fault, .int q_wrong, .int q_wrongAt, .int q_spot, .int q_place, .int q_token, .int q_value, .ref m_ends, .ref m_letters, .ref m_actOf, .ref m_whom, .ref m_actMany, .ref m_tokens, .ref m_afters, .ref m_afterOf, .int q_counted, .ref m_pile, .ref m_caseMany, .ref m_happen, .ref m_hasIf, .ref m_becomes, .ref m_goneOf, .ref m_heard, .ref m_pairs, .ref m_heaps, .int (nI rz__4), .int (nI hmz_5), .ref m_led, .ref m_newAt, .ref m_knowing, .ref m_firsts, .int (nI q_people), .ref m_secrets, .ref m_tried, .ref m_lanes, .ref m_lengths, .ref m_cells])), (m_heaps, .inl (E.2.1 1, 2400, .inl f_heapsz_6))]) ?_ rfl rfl rfl
                obtain ⟨v_48, hlv_48, elv_48, flv_48⟩ := h_10 (cN f_realsz_29 1) (by omega)
                refine ww_eq (st' := [.int (nI v_48), .ref m_newAt, .int 0, .ref m_reals]) ?_ rfl (by rw [show (f_heapsz_6 (48 * rz__4 + (cN f_realsz_29 1))) = nI v_48 from elv_48]) rfl
                obtain ⟨tx_49, htx_49, etx_49⟩ := hmd v_48 (by omega) flv_48
                refine ww_iald (v := (nI tx_49)) C 0 rfl (vp_in_nI (by omega) (by omega)) (ldn (by omega) etx_49) dX12_melt_226 ?_
                obtain ⟨f_50, ef_50⟩ : ∃ z : Nat → Int32, upd f_realsz_29 0 (nI tx_49) = z := ⟨_, rfl⟩
                refine ww_iast (ws' := [(m_newAt, .inl (E.2.1 1, 24, .inl g1)), (m_led, .inl (E.2.1 2, 192, .inr (.inl f_ledz_7))), (m_manys, .inl (E.2.1 1, 18, .inl f_manysz_28)), (m_reals, .inl (E.2.1 1, 18, .inl f_50)), (m_factsOf, .inl (E.2.1 1, 432, .inl g_fa)), (m_possible, .inl (E.2.1 1, 1728, .inl g_po)), (hm, .inr (12, [.ref m_manys, .ref m_reals, .ref m_factsOf, .ref m_possible, .int (nI uz__13), .int (nI q_models), .ref m_tape, .int (nI q_taped), .int q_fault, .int q_wrong, .int q_wrongAt, .int q_spot, .int q_place, .int q_token, .int q_value, .ref m_ends, .ref m_letters, .ref m_actOf, .ref m_whom, .ref m_actMany, .ref m_tokens, .ref m_afters, .ref m_afterOf, .int q_counted, .ref m_pile, .ref m_caseMany, .ref m_happen, .ref m_hasIf, .ref m_becomes, .ref m_goneOf, .ref m_heard, .ref m_pairs, .ref m_heaps, .int (nI rz__4), .int (nI hmz_5), .ref m_led, .ref m_newAt, .ref m_knowing, .ref m_firsts, .int (nI q_people), .ref m_secrets, .ref m_tried, .ref m_lanes, .ref m_lengths, .ref m_cells])), (m_heaps, .inl (E.2.1 1, 2400, .inl f_heapsz_6))]) C 3 rfl (vin rfl) ef_50 rfl dX12_melt_227 ?_
                refine ww_aload_n C dX12_melt_228 2 rfl rfl ?_
                refine ww_get C fg_X12_7 6 rfl rfl dX12_melt_229 ?_
                refine ww_iconst (v := 0) C dX12_melt_232 rfl ?_
                refine ww_iload_n C dX12_melt_233 1 rfl rfl ?_
                obtain ⟨f_51, ef_51⟩ : ∃ z : Nat → Int32, upd f_manysz_28 0 (nI c1) = z := ⟨_, rfl⟩
                refine ww_iast (ws' := [(m_newAt, .inl (E.2.1 1, 24, .inl g1)), (m_led, .inl (E.2.1 2, 192, .inr (.inl f_ledz_7))), (m_manys, .inl (E.2.1 1, 18, .inl f_51)), (m_reals, .inl (E.2.1 1, 18, .inl f_50)), (m_factsOf, .inl (E.2.1 1, 432, .inl g_fa)), (m_possible, .inl (E.2.1 1, 1728, .inl g_po)), (hm, .inr (12, [.ref m_manys, .ref m_reals, .ref m_factsOf, .ref m_possible, .int (nI uz__13), .int (nI q_models), .ref m_tape, .int (nI q_taped), .int q_fault, .int q_wrong, .int q_wrongAt, .int q_spot, .int q_place, .int q_token, .int q_value, .ref m_ends, .ref m_letters, .ref m_actOf, .ref m_whom, .ref m_actMany, .ref m_tokens, .ref m_afters, .ref m_afterOf, .int q_counted, .ref m_pile, .ref m_caseMany, .ref m_happen, .ref m_hasIf, .ref m_becomes, .ref m_goneOf, .ref m_heard, .ref m_pairs, .ref m_heaps, .int (nI rz__4), .int (nI hmz_5), .ref m_led, .ref m_newAt, .ref m_knowing, .ref m_firsts, .int (nI q_people), .ref m_secrets, .ref m_tried, .ref m_lanes, .ref m_lengths, .ref m_cells])), (m_heaps, .inl (E.2.1 1, 2400, .inl f_heapsz_6))]) C 2 rfl (vin rfl) ef_51 rfl dX12_melt_234 ?_
                refine ww_iload_n C dX12_melt_235 1 rfl rfl ?_
                exact ww_iret (u := [(hm, .inr (12, [.ref m_manys, .ref m_reals, .ref m_factsOf, .ref m_possible, .int (nI uz__13), .int (nI q_models), .ref m_tape, .int (nI q_taped), .int q_fault, .int q_wrong, .int q_wrongAt, .int q_spot, .int q_place, .int q_token, .int q_value, .ref m_ends, .ref m_letters, .ref m_actOf, .ref m_whom, .ref m_actMany, .ref m_tokens, .ref m_afters, .ref m_afterOf, .int q_counted, .ref m_pile, .ref m_caseMany, .ref m_happen, .ref m_hasIf, .ref m_becomes, .ref m_goneOf, .ref m_heard, .ref m_pairs, .ref m_heaps, .int (nI rz__4), .int (nI hmz_5), .ref m_led, .ref m_newAt, .ref m_knowing, .ref m_firsts, .int (nI q_people), .ref m_secrets, .ref m_tried, .ref m_lanes, .ref m_lengths, .ref m_cells])), (m_manys, .inl (E.2.1 1, 18, .inl f_51)), (m_reals, .inl (E.2.1 1, 18, .inl f_50)), (m_factsOf, .inl (E.2.1 1, 432, .inl g_fa)), (m_possible, .inl (E.2.1 1, 1728, .inl g_po)), (m_heaps, .inl (E.2.1 1, 2400, .inl f_heapsz_6)), (m_led, .inl (E.2.1 2, 192, .inr (.inl f_ledz_7))), (m_newAt, .inl (E.2.1 1, 24, .inl g1))]) C hT [6, 2, 3, 4, 5, 7, 1, 0] rfl rfl rfl rfl dX12_melt_236 (⟨uz__13, (nI rz__4), (nI hmz_5), f_51, f_50, g_fa, g_po, f_heapsz_6, f_ledz_7, g1, rfl, (by omega), (NB.put h_32 (t := c1) (by omega) (by decide) ef_51), (NB.put h_33 (t := tx_49) (by omega) (by decide) ef_50), (PG.put (a := c1) (b := tx_49) h_34 ef_51 ef_50 (by omega) (by omega) (by omega))⟩)
              · have zc_43 : ((w2 : Nat) : Int) < ((cN f_manysz_28 1 : Nat) : Int) := i_nle (nI_toInt (n := cN f_manysz_28 1) (by omega)) (nI_toInt (n := w2) (by omega)) c_43
                refine ww_aload_n C dX12_melt_80 2 rfl rfl ?_
                refine ww_iload_n C dX12_melt_81 0 rfl rfl ?_
                refine ww_ci (wr := [(m_newAt, .inl (E.2.1 1, 24, .inl g1)), (m_led, .inl (E.2.1 2, 192, .inr (.inl f_ledz_7))), (m_manys, .inl (E.2.1 1, 18, .inl f_manysz_28)), (m_reals, .inl (E.2.1 1, 18, .inl f_realsz_29)), (m_factsOf, .inl (E.2.1 1, 432, .inl g_fa)), (m_possible, .inl (E.2.1 1, 1728, .inl g_po))]) (k' := 0) (n' := 0) C (run_V (As := [.int (nI w2)]) (rest := []) C (r_heapOf X.2.1 E ro hm w2 m_manys m_reals m_factsOf m_possible uz__13 q_models m_tape q_taped q_fault q_wrong q_wrongAt q_spot q_place q_token q_value m_ends m_letters m_actOf m_whom m_actMany m_tokens m_afters m_afterOf q_counted m_pile m_caseMany m_happen m_hasIf m_becomes m_goneOf m_heard m_pairs m_heaps rz__4 (nI hmz_5) m_led m_newAt m_knowing m_firsts q_people m_secrets m_tried m_lanes m_lengths m_cells f_heapsz_6 (by omega) (by omega)) mi_X12_heapOf wl_X12_301 rfl 0 12 rfl rfl rfl rfl rfl dX12_melt_82) (roK hro) [3, 1] [0, 2, 4, 5, 6, 7] rfl rfl rfl rfl (fun r_52 uz hw => ?_)
                refine an1 hw ?_
                clear hw
                intro he_53 hw
                have he_54 := hw
                clear hw
                have he_53 := he_53.symm
                subst he_53
                subst he_54
                refine ww_eq (ws' := [(m_newAt, .inl (E.2.1 1, 24, .inl g1)), (m_led, .inl (E.2.1 2, 192, .inr (.inl f_ledz_7))), (m_manys, .inl (E.2.1 1, 18, .inl f_manysz_28)), (m_reals, .inl (E.2.1 1, 18, .inl f_realsz_29)), (m_factsOf, .inl (E.2.1 1, 432, .inl g_fa)), (m_possible, .inl (E.2.1 1, 1728, .inl g_po)), (hm, .inr (12, [.ref m_manys, .ref m_reals, .ref m_factsOf, .ref m_possible, .int (nI uz__13), .int (nI q_models), .ref m_tape, .int (nI q_taped), .int q_fault, .int q_wrong, .int q_wrongAt, .int q_spot, .int q_place, .int q_token, .int q_value, .ref m_ends, .ref m_letters, .ref m_actOf, .ref m_whom, .ref m_actMany, .ref m_tokens, .ref m_afters, .ref m_afterOf, .int q_counted, .ref m_pile, .ref m_caseMany, .ref m_happen, .ref m_hasIf, .ref m_becomes, .ref m_goneOf, .ref m_heard, .ref m_pairs, .ref m_heaps, .int (nI rz__4), .int (nI hmz_5), .ref m_led, .ref m_newAt, .ref m_knowing, .ref m_firsts, .int (nI q_people), .ref m_secrets, .ref m_tried, .ref m_lanes, .ref m_lengths, .ref m_cells])), (m_heaps, .inl (E.2.1 1, 2400, .inl f_heapsz_6))]) ?_ rfl rfl rfl
                refine ww_iload_n C dX12_melt_85 0 rfl rfl ?_
                refine ww_icmp_ne (tgt := 201) C dX12_melt_86 (by decide) (fun c_55 => ?_) (fun c_55 => ?_)
                · have zc_55 : (f_heapsz_6 (48 * rz__4 + w2)).toInt ≠ ((w2 : Nat) : Int) := i_ne rfl (nI_toInt (n := w2) (by omega)) c_55
                  refine ww_iinc (j := 0) (v := (nI (w2 + 1))) (lv' := [(2, .int (nI (w2 + 1))), (1, .int (nI c1)), (0, .ref hm)]) C dX12_melt_201 rfl (nI_add w2 1) rfl rfl ?_
                  refine ww_goto (tgt := 70) C dX12_melt_204 (by decide) ?_
                  exact ww_lv [0, 1, 2] rfl (ww_sub [0, 7, 1, 6, 2, 3, 4, 5] rfl rfl (ih_70 (w2 + 1) g_fa g_po (by omega) (by omega)))
                · have zc_55 : (f_heapsz_6 (48 * rz__4 + w2)).toInt = ((w2 : Nat) : Int) := i_eq rfl (nI_toInt (n := w2) (by omega)) c_55
                  have hw2e : f_heapsz_6 (48 * rz__4 + w2) = nI w2 := Int32.toInt_inj.mp (by rw [nI_toInt (by omega)]; assumption)
                  refine ww_aload_n C dX12_melt_89 2 rfl rfl ?_
                  refine ww_get C fg_X12_16 6 rfl rfl dX12_melt_90 ?_
                  refine ww_aload_n C dX12_melt_93 2 rfl rfl ?_
                  refine ww_get C fg_X12_81 6 rfl rfl dX12_melt_94 ?_
                  refine ww_iload_n C dX12_melt_97 0 rfl rfl ?_
                  obtain ⟨tx_56, htx_56, etx_56⟩ := hmd w2 (by omega) hw2e
                  refine ww_iald (v := (nI tx_56)) C 0 rfl (vp_in_nI (by omega) (by omega)) (ldn (by omega) etx_56) dX12_melt_98 ?_
                  refine ww_aload_n C dX12_melt_99 2 rfl rfl ?_
                  refine ww_get C fg_X12_16 6 rfl rfl dX12_melt_100 ?_
                  refine ww_bipush (v := 24) C dX12_melt_103 rfl ?_
                  refine ww_iload_n C dX12_melt_105 0 rfl rfl ?_
                  refine ww_iadd (v := (nI (24 + w2))) C dX12_melt_106 (nI_add 24 w2) ?_
                  obtain ⟨x_57, ex_57⟩ : ∃ z : Int32, g_fa (24 + w2) = z := ⟨_, rfl⟩
                  refine ww_iald (v := x_57) C 4 rfl (vp_in_nI (by omega) (by omega)) (ldn (by omega) ex_57) dX12_melt_107 ?_
                  obtain ⟨f_58, ef_58⟩ : ∃ z : Nat → Int32, upd g_fa tx_56 x_57 = z := ⟨_, rfl⟩
                  refine ww_iast (ws' := [(m_newAt, .inl (E.2.1 1, 24, .inl g1)), (m_led, .inl (E.2.1 2, 192, .inr (.inl f_ledz_7))), (m_manys, .inl (E.2.1 1, 18, .inl f_manysz_28)), (m_reals, .inl (E.2.1 1, 18, .inl f_realsz_29)), (m_factsOf, .inl (E.2.1 1, 432, .inl f_58)), (m_possible, .inl (E.2.1 1, 1728, .inl g_po)), (hm, .inr (12, [.ref m_manys, .ref m_reals, .ref m_factsOf, .ref m_possible, .int (nI uz__13), .int (nI q_models), .ref m_tape, .int (nI q_taped), .int q_fault, .int q_wrong, .int q_wrongAt, .int q_spot, .int q_place, .int q_token, .int q_value, .ref m_ends, .ref m_letters, .ref m_actOf, .ref m_whom, .ref m_actMany, .ref m_tokens, .ref m_afters, .ref m_afterOf, .int q_counted, .ref m_pile, .ref m_caseMany, .ref m_happen, .ref m_hasIf, .ref m_becomes, .ref m_goneOf, .ref m_heard, .ref m_pairs, .ref m_heaps, .int (nI rz__4), .int (nI hmz_5), .ref m_led, .ref m_newAt, .ref m_knowing, .ref m_firsts, .int (nI q_people), .ref m_secrets, .ref m_tried, .ref m_lanes, .ref m_lengths, .ref m_cells])), (m_heaps, .inl (E.2.1 1, 2400, .inl f_heapsz_6))]) C 4 rfl (vp_in_nI (by omega) (by omega)) (ldn2 (by omega) ef_58) rfl dX12_melt_108 ?_
                  refine ww_iconst (v := 0) C dX12_melt_109 rfl ?_
                  refine ww_istore_n (lv' := [(3, .int 0), (2, .int (nI w2)), (1, .int (nI c1)), (0, .ref hm)]) C dX12_melt_110 rfl rfl rfl ?_
                  have loop_111 : ∀ (fu : Nat) (k3 : Nat) (g_po3 : Nat → Int32), (k3 ≤ 4) → 4 - k3 < fu → WW X 6 E 111 [(3, .int (nI k3)), (2, .int (nI w2)), (1, .int (nI c1)), (0, .ref hm)] [] [(m_newAt, .inl (E.2.1 1, 24, .inl g1)), (m_led, .inl (E.2.1 2, 192, .inr (.inl f_ledz_7))), (m_manys, .inl (E.2.1 1, 18, .inl f_manysz_28)), (m_reals, .inl (E.2.1 1, 18, .inl f_realsz_29)), (m_factsOf, .inl (E.2.1 1, 432, .inl f_58)), (m_possible, .inl (E.2.1 1, 1728, .inl g_po3)), (hm, .inr (12, [.ref m_manys, .ref m_reals, .ref m_factsOf, .ref m_possible, .int (nI uz__13), .int (nI q_models), .ref m_tape, .int (nI q_taped), .int q_fault, .int q_wrong, .int q_wrongAt, .int q_spot, .int q_place, .int q_token, .int q_value, .ref m_ends, .ref m_letters, .ref m_actOf, .ref m_whom, .ref m_actMany, .ref m_tokens, .ref m_afters, .ref m_afterOf, .int q_counted, .ref m_pile, .ref m_caseMany, .ref m_happen, .ref m_hasIf, .ref m_becomes, .ref m_goneOf, .ref m_heard, .ref m_pairs, .ref m_heaps, .int (nI rz__4), .int (nI hmz_5), .ref m_led, .ref m_newAt, .ref m_knowing, .ref m_firsts, .int (nI q_people), .ref m_secrets, .ref m_tried, .ref m_lanes, .ref m_lengths, .ref m_cells])), (m_heaps, .inl (E.2.1 1, 2400, .inl f_heapsz_6))] 0 0 := by
                    intro fu
                    induction fu with
                    | zero => intro k3 g_po3 hk3 hmeas; exact absurd hmeas (Nat.not_lt_zero _)
                    | succ fu ih_111 =>
                      intro k3 g_po3 hk3 hmeas
                      refine ww_iload_n C dX12_melt_111 0 rfl rfl ?_
                      refine ww_iconst (v := 4) C dX12_melt_112 rfl ?_
                      refine ww_icmp_ge (tgt := 201) C dX12_melt_113 (by decide) (fun c_59 => ?_) (fun c_59 => ?_)
                      · have zc_59 : ((k3 : Nat) : Int) ≥ 4 := i_le rfl (nI_toInt (n := k3) (by omega)) c_59
                        refine ww_iinc (j := 1) (v := (nI (w2 + 1))) (lv' := [(2, .int (nI (w2 + 1))), (3, .int (nI k3)), (1, .int (nI c1)), (0, .ref hm)]) C dX12_melt_201 rfl (nI_add w2 1) rfl rfl ?_
                        refine ww_goto (tgt := 70) C dX12_melt_204 (by decide) ?_
                        exact ww_lv [0, 2, 3] rfl (ww_sub [0, 7, 1, 6, 2, 3, 4, 5] rfl rfl (ih_70 (w2 + 1) f_58 g_po3 (by omega) (by omega)))
                      · have zc_59 : ((k3 : Nat) : Int) < 4 := i_nle rfl (nI_toInt (n := k3) (by omega)) c_59
                        refine ww_iconst (v := 0) C dX12_melt_116 rfl ?_
                        refine ww_istore (lv' := [(4, .int 0), (3, .int (nI k3)), (2, .int (nI w2)), (1, .int (nI c1)), (0, .ref hm)]) C dX12_melt_117 rfl rfl ?_
                        refine ww_iconst (v := 0) C dX12_melt_119 rfl ?_
                        refine ww_istore (lv' := [(5, .int 0), (4, .int 0), (3, .int (nI k3)), (2, .int (nI w2)), (1, .int (nI c1)), (0, .ref hm)]) C dX12_melt_120 rfl rfl ?_
                        have loop_122 : ∀ (fu : Nat) (u4 : Nat) (so4 : Int32), (u4 ≤ cN f_manys 0) → cN f_manys 0 - u4 < fu → WW X 6 E 122 [(5, .int (nI u4)), (4, .int so4), (3, .int (nI k3)), (2, .int (nI w2)), (1, .int (nI c1)), (0, .ref hm)] [] [(m_newAt, .inl (E.2.1 1, 24, .inl g1)), (m_led, .inl (E.2.1 2, 192, .inr (.inl f_ledz_7))), (m_manys, .inl (E.2.1 1, 18, .inl f_manysz_28)), (m_reals, .inl (E.2.1 1, 18, .inl f_realsz_29)), (m_factsOf, .inl (E.2.1 1, 432, .inl f_58)), (m_possible, .inl (E.2.1 1, 1728, .inl g_po3)), (hm, .inr (12, [.ref m_manys, .ref m_reals, .ref m_factsOf, .ref m_possible, .int (nI uz__13), .int (nI q_models), .ref m_tape, .int (nI q_taped), .int q_fault, .int q_wrong, .int q_wrongAt, .int q_spot, .int q_place, .int q_token, .int q_value, .ref m_ends, .ref m_letters, .ref m_actOf, .ref m_whom, .ref m_actMany, .ref m_tokens, .ref m_afters, .ref m_afterOf, .int q_counted, .ref m_pile, .ref m_caseMany, .ref m_happen, .ref m_hasIf, .ref m_becomes, .ref m_goneOf, .ref m_heard, .ref m_pairs, .ref m_heaps, .int (nI rz__4), .int (nI hmz_5), .ref m_led, .ref m_newAt, .ref m_knowing, .ref m_firsts, .int (nI q_people), .ref m_secrets, .ref m_tried, .ref m_lanes, .ref m_lengths, .ref m_cells])), (m_heaps, .inl (E.2.1 1, 2400, .inl f_heapsz_6))] 0 0 := by
                          intro fu
                          induction fu with
                          | zero => intro u4 so4 hu4 hmeas; exact absurd hmeas (Nat.not_lt_zero _)
                          | succ fu ih_122 =>
                            intro u4 so4 hu4 hmeas
                            refine ww_iload C dX12_melt_122 0 rfl ?_
                            refine ww_aload_n C dX12_melt_124 5 rfl rfl ?_
                            refine ww_get C fg_X12_7 6 rfl rfl dX12_melt_125 ?_
                            refine ww_iconst (v := 1) C dX12_melt_128 rfl ?_
                            have hbx_60 := (h_32 1 (by omega)).2
                            refine ww_iald (v := (nI (cN f_manysz_28 1))) C 2 rfl (vin rfl) (h_32 1 (by omega)).1 dX12_melt_129 ?_
                            refine ww_icmp_ge (tgt := 177) C dX12_melt_130 (by decide) (fun c_61 => ?_) (fun c_61 => ?_)
                            · have zc_61 : ((u4 : Nat) : Int) ≥ ((cN f_manysz_28 1 : Nat) : Int) := i_le (nI_toInt (n := cN f_manysz_28 1) (by omega)) (nI_toInt (n := u4) (by omega)) c_61
                              refine ww_aload_n C dX12_melt_177 5 rfl rfl ?_
                              refine ww_get C fg_X12_19 6 rfl rfl dX12_melt_178 ?_
                              refine ww_bipush (v := 24) C dX12_melt_181 rfl ?_
                              refine ww_iload_n C dX12_melt_183 2 rfl rfl ?_
                              refine ww_imul (v := (nI (24 * k3))) C dX12_melt_184 (pk_mul 24 k3) ?_
                              refine ww_aload_n C dX12_melt_185 5 rfl rfl ?_
                              refine ww_get C fg_X12_81 6 rfl rfl dX12_melt_186 ?_
                              refine ww_iload_n C dX12_melt_189 3 rfl rfl ?_
                              obtain ⟨tx_62, htx_62, etx_62⟩ := hmd w2 (by omega) hw2e
                              refine ww_iald (v := (nI tx_62)) C 0 rfl (vp_in_nI (by omega) (by omega)) (ldn (by omega) etx_62) dX12_melt_190 ?_
                              refine ww_iadd (v := (nI ((24 * k3) + tx_62))) C dX12_melt_191 (nI_add (24 * k3) tx_62) ?_
                              refine ww_iload C dX12_melt_192 1 rfl ?_
                              obtain ⟨f_63, ef_63⟩ : ∃ z : Nat → Int32, upd g_po3 ((24 * k3) + tx_62) so4 = z := ⟨_, rfl⟩
                              refine ww_iast (ws' := [(m_newAt, .inl (E.2.1 1, 24, .inl g1)), (m_led, .inl (E.2.1 2, 192, .inr (.inl f_ledz_7))), (m_manys, .inl (E.2.1 1, 18, .inl f_manysz_28)), (m_reals, .inl (E.2.1 1, 18, .inl f_realsz_29)), (m_factsOf, .inl (E.2.1 1, 432, .inl f_58)), (m_possible, .inl (E.2.1 1, 1728, .inl f_63)), (hm, .inr (12, [.ref m_manys, .ref m_reals, .ref m_factsOf, .ref m_possible, .int (nI uz__13), .int (nI q_models), .ref m_tape, .int (nI q_taped), .int q_fault, .int q_wrong, .int q_wrongAt, .int q_spot, .int q_place, .int q_token, .int q_value, .ref m_ends, .ref m_letters, .ref m_actOf, .ref m_whom, .ref m_actMany, .ref m_tokens, .ref m_afters, .ref m_afterOf, .int q_counted, .ref m_pile, .ref m_caseMany, .ref m_happen, .ref m_hasIf, .ref m_becomes, .ref m_goneOf, .ref m_heard, .ref m_pairs, .ref m_heaps, .int (nI rz__4), .int (nI hmz_5), .ref m_led, .ref m_newAt, .ref m_knowing, .ref m_firsts, .int (nI q_people), .ref m_secrets, .ref m_tried, .ref m_lanes, .ref m_lengths, .ref m_cells])), (m_heaps, .inl (E.2.1 1, 2400, .inl f_heapsz_6))]) C 5 rfl (vp_in_nI (by omega) (by omega)) (ldn2 (by omega) ef_63) rfl dX12_melt_194 ?_
                              refine ww_iinc (j := 2) (v := (nI (k3 + 1))) (lv' := [(3, .int (nI (k3 + 1))), (5, .int (nI u4)), (4, .int so4), (2, .int (nI w2)), (1, .int (nI c1)), (0, .ref hm)]) C dX12_melt_195 rfl (nI_add k3 1) rfl rfl ?_
                              refine ww_goto (tgt := 111) C dX12_melt_198 (by decide) ?_
                              exact ww_lv [0, 3, 4, 5] rfl (ww_sub [0, 1, 2, 3, 4, 5, 6, 7] rfl rfl (ih_111 (k3 + 1) f_63 (by omega) (by omega)))
                            · have zc_61 : ((u4 : Nat) : Int) < ((cN f_manysz_28 1 : Nat) : Int) := i_nle (nI_toInt (n := cN f_manysz_28 1) (by omega)) (nI_toInt (n := u4) (by omega)) c_61
                              refine ww_iload C dX12_melt_133 1 rfl ?_
                              refine ww_aload_n C dX12_melt_135 5 rfl rfl ?_
                              refine ww_iconst (v := 1) C dX12_melt_136 rfl ?_
                              refine ww_iload_n C dX12_melt_137 2 rfl rfl ?_
                              refine ww_iload_n C dX12_melt_138 3 rfl rfl ?_
                              refine ww_ci (wr := [(m_newAt, .inl (E.2.1 1, 24, .inl g1)), (m_led, .inl (E.2.1 2, 192, .inr (.inl f_ledz_7))), (m_manys, .inl (E.2.1 1, 18, .inl f_manysz_28)), (m_reals, .inl (E.2.1 1, 18, .inl f_realsz_29)), (m_factsOf, .inl (E.2.1 1, 432, .inl f_58)), (m_heaps, .inl (E.2.1 1, 2400, .inl f_heapsz_6))]) (k' := 0) (n' := 0) C (run_V (As := [.int 1, .int (nI k3), .int (nI w2)]) (rest := [.int so4]) C (r_seen X.2.1 E ro hm 1 k3 w2 m_manys m_reals m_factsOf m_possible uz__13 q_models m_tape q_taped q_fault q_wrong q_wrongAt q_spot q_place q_token q_value m_ends m_letters m_actOf m_whom m_actMany m_tokens m_afters m_afterOf q_counted m_pile m_caseMany m_happen m_hasIf m_becomes m_goneOf m_heard m_pairs m_heaps (nI rz__4) (nI hmz_5) m_led m_newAt m_knowing m_firsts q_people m_secrets m_tried m_lanes m_lengths m_cells g_po3 (by omega) (by omega) (by omega)) mi_X12_seen wl_X12_135 rfl 0 12 rfl rfl rfl rfl rfl dX12_melt_139) (roK hro) [6, 5] [0, 1, 2, 3, 4, 7] rfl rfl rfl rfl (fun r_64 uz hw => ?_)
                              refine an1 hw ?_
                              clear hw
                              intro he_65 hw
                              have he_66 := hw
                              clear hw
                              have he_65 := he_65.symm
                              subst he_65
                              subst he_66
                              refine ww_eq (ws' := [(m_newAt, .inl (E.2.1 1, 24, .inl g1)), (m_led, .inl (E.2.1 2, 192, .inr (.inl f_ledz_7))), (m_manys, .inl (E.2.1 1, 18, .inl f_manysz_28)), (m_reals, .inl (E.2.1 1, 18, .inl f_realsz_29)), (m_factsOf, .inl (E.2.1 1, 432, .inl f_58)), (m_heaps, .inl (E.2.1 1, 2400, .inl f_heapsz_6)), (hm, .inr (12, [.ref m_manys, .ref m_reals, .ref m_factsOf, .ref m_possible, .int (nI uz__13), .int (nI q_models), .ref m_tape, .int (nI q_taped), .int q_fault, .int q_wrong, .int q_wrongAt, .int q_spot, .int q_place, .int q_token, .int q_value, .ref m_ends, .ref m_letters, .ref m_actOf, .ref m_whom, .ref m_actMany, .ref m_tokens, .ref m_afters, .ref m_afterOf, .int q_counted, .ref m_pile, .ref m_caseMany, .ref m_happen, .ref m_hasIf, .ref m_becomes, .ref m_goneOf, .ref m_heard, .ref m_pairs, .ref m_heaps, .int (nI rz__4), .int (nI hmz_5), .ref m_led, .ref m_newAt, .ref m_knowing, .ref m_firsts, .int (nI q_people), .ref m_secrets, .ref m_tried, .ref m_lanes, .ref m_lengths, .ref m_cells])), (m_possible, .inl (E.2.1 1, 1728, .inl g_po3))]) ?_ rfl rfl rfl
                              refine ww_iload C dX12_melt_142 0 rfl ?_
                              obtain ⟨x_67, ex_67⟩ : ∃ z : Int32, (g_po3 (96 * 1 + 24 * k3 + w2)) >>> ((nI u4) &&& 31) = z := ⟨_, rfl⟩
                              refine ww_ishr (v := x_67) C dX12_melt_144 ex_67 ?_
                              refine ww_iconst (v := 1) C dX12_melt_145 rfl ?_
                              obtain ⟨j_68, hj_68, ej_68⟩ := pk_andE x_67 (m := 1) 1 rfl
                              refine ww_iand (v := (nI j_68)) C dX12_melt_146 ej_68 ?_
                              refine ww_iconst (v := 1) C dX12_melt_147 rfl ?_
                              refine ww_icmp_ne (tgt := 167) C dX12_melt_148 (by decide) (fun c_69 => ?_) (fun c_69 => ?_)
                              · have zc_69 : ((j_68 : Nat) : Int) ≠ 1 := i_ne (nI_toInt (n := j_68) (by omega)) rfl c_69
                                refine ww_iconst (v := 0) C dX12_melt_167 rfl ?_
                                obtain ⟨x_70, ex_70⟩ : ∃ z : Int32, so4 ||| (0 : Int32) = z := ⟨_, rfl⟩
                                refine ww_ior (v := x_70) C dX12_melt_168 ex_70 ?_
                                refine ww_istore (lv' := [(4, .int x_70), (5, .int (nI u4)), (3, .int (nI k3)), (2, .int (nI w2)), (1, .int (nI c1)), (0, .ref hm)]) C dX12_melt_169 rfl rfl ?_
                                refine ww_iinc (j := 1) (v := (nI (u4 + 1))) (lv' := [(5, .int (nI (u4 + 1))), (4, .int x_70), (3, .int (nI k3)), (2, .int (nI w2)), (1, .int (nI c1)), (0, .ref hm)]) C dX12_melt_171 rfl (nI_add u4 1) rfl rfl ?_
                                refine ww_goto (tgt := 122) C dX12_melt_174 (by decide) ?_
                                exact ww_lv [0, 1, 2, 3, 4, 5] rfl (ww_sub [0, 1, 2, 3, 4, 7, 6, 5] rfl rfl (ih_122 (u4 + 1) x_70 (by omega) (by omega)))
                              · have zc_69 : ((j_68 : Nat) : Int) = 1 := i_eq (nI_toInt (n := j_68) (by omega)) rfl c_69
                                refine ww_iconst (v := 1) C dX12_melt_151 rfl ?_
                                refine ww_aload_n C dX12_melt_152 5 rfl rfl ?_
                                refine ww_get C fg_X12_81 6 rfl rfl dX12_melt_153 ?_
                                refine ww_aload_n C dX12_melt_156 5 rfl rfl ?_
                                refine ww_iload C dX12_melt_157 0 rfl ?_
                                refine ww_ci (wr := [(m_newAt, .inl (E.2.1 1, 24, .inl g1)), (m_led, .inl (E.2.1 2, 192, .inr (.inl f_ledz_7))), (m_manys, .inl (E.2.1 1, 18, .inl f_manysz_28)), (m_reals, .inl (E.2.1 1, 18, .inl f_realsz_29)), (m_factsOf, .inl (E.2.1 1, 432, .inl f_58)), (m_possible, .inl (E.2.1 1, 1728, .inl g_po3))]) (k' := 0) (n' := 0) C (run_V (As := [.int (nI u4)]) (rest := [.ref m_newAt, .int 1, .int so4]) C (r_heapOf X.2.1 E ro hm u4 m_manys m_reals m_factsOf m_possible uz__13 q_models m_tape q_taped q_fault q_wrong q_wrongAt q_spot q_place q_token q_value m_ends m_letters m_actOf m_whom m_actMany m_tokens m_afters m_afterOf q_counted m_pile m_caseMany m_happen m_hasIf m_becomes m_goneOf m_heard m_pairs m_heaps rz__4 (nI hmz_5) m_led m_newAt m_knowing m_firsts q_people m_secrets m_tried m_lanes m_lengths m_cells f_heapsz_6 (by omega) (by omega)) mi_X12_heapOf wl_X12_301 rfl 0 12 rfl rfl rfl rfl rfl dX12_melt_159) (roK hro) [6, 5] [0, 1, 2, 3, 4, 7] rfl rfl rfl rfl (fun r_71 uz hw => ?_)
                                refine an1 hw ?_
                                clear hw
                                intro he_72 hw
                                have he_73 := hw
                                clear hw
                                have he_72 := he_72.symm
                                subst he_72
                                subst he_73
                                refine ww_eq (ws' := [(m_newAt, .inl (E.2.1 1, 24, .inl g1)), (m_led, .inl (E.2.1 2, 192, .inr (.inl f_ledz_7))), (m_manys, .inl (E.2.1 1, 18, .inl f_manysz_28)), (m_reals, .inl (E.2.1 1, 18, .inl f_realsz_29)), (m_factsOf, .inl (E.2.1 1, 432, .inl f_58)), (m_possible, .inl (E.2.1 1, 1728, .inl g_po3)), (hm, .inr (12, [.ref m_manys, .ref m_reals, .ref m_factsOf, .ref m_possible, .int (nI uz__13), .int (nI q_models), .ref m_tape, .int (nI q_taped), .int q_fault, .int q_wrong, .int q_wrongAt, .int q_spot, .int q_place, .int q_token, .int q_value, .ref m_ends, .ref m_letters, .ref m_actOf, .ref m_whom, .ref m_actMany, .ref m_tokens, .ref m_afters, .ref m_afterOf, .int q_counted, .ref m_pile, .ref m_caseMany, .ref m_happen, .ref m_hasIf, .ref m_becomes, .ref m_goneOf, .ref m_heard, .ref m_pairs, .ref m_heaps, .int (nI rz__4), .int (nI hmz_5), .ref m_led, .ref m_newAt, .ref m_knowing, .ref m_firsts, .int (nI q_people), .ref m_secrets, .ref m_tried, .ref m_lanes, .ref m_lengths, .ref m_cells])), (m_heaps, .inl (E.2.1 1, 2400, .inl f_heapsz_6))]) ?_ rfl rfl rfl
                                obtain ⟨v_74, hlv_74, elv_74, flv_74⟩ := h_10 u4 (by omega)
                                refine ww_eq (st' := [.int (nI v_74), .ref m_newAt, .int 1, .int so4]) ?_ rfl (by rw [show (f_heapsz_6 (48 * rz__4 + u4)) = nI v_74 from elv_74]) rfl
                                obtain ⟨x_75, ex_75⟩ : ∃ z : Int32, g1 v_74 = z := ⟨_, rfl⟩
                                refine ww_iald (v := x_75) C 0 rfl (vp_in_nI (by omega) (by omega)) (ldn (by omega) ex_75) dX12_melt_162 ?_
                                obtain ⟨x_76, ex_76⟩ : ∃ z : Int32, (1 : Int32) <<< (x_75 &&& 31) = z := ⟨_, rfl⟩
                                refine ww_ishl (v := x_76) C dX12_melt_163 ex_76 ?_
                                refine ww_goto (tgt := 168) C dX12_melt_164 (by decide) ?_
                                obtain ⟨x_77, ex_77⟩ : ∃ z : Int32, so4 ||| x_76 = z := ⟨_, rfl⟩
                                refine ww_ior (v := x_77) C dX12_melt_168 ex_77 ?_
                                refine ww_istore (lv' := [(4, .int x_77), (5, .int (nI u4)), (3, .int (nI k3)), (2, .int (nI w2)), (1, .int (nI c1)), (0, .ref hm)]) C dX12_melt_169 rfl rfl ?_
                                refine ww_iinc (j := 1) (v := (nI (u4 + 1))) (lv' := [(5, .int (nI (u4 + 1))), (4, .int x_77), (3, .int (nI k3)), (2, .int (nI w2)), (1, .int (nI c1)), (0, .ref hm)]) C dX12_melt_171 rfl (nI_add u4 1) rfl rfl ?_
                                refine ww_goto (tgt := 122) C dX12_melt_174 (by decide) ?_
                                exact ww_lv [0, 1, 2, 3, 4, 5] rfl (ww_sub [0, 1, 2, 3, 4, 5, 6, 7] rfl rfl (ih_122 (u4 + 1) x_77 (by omega) (by omega)))
                        exact ww_lv [0, 1, 2, 3, 4, 5] rfl (ww_sub [0, 1, 2, 3, 4, 5, 6, 7] rfl rfl (loop_122 _ 0 0 (by omega) (Nat.lt_succ_self _)))
                  exact ww_lv [0, 1, 2, 3] rfl (ww_sub [0, 1, 2, 3, 4, 5, 6, 7] rfl rfl (loop_111 _ 0 g_po (by omega) (Nat.lt_succ_self _)))
          exact ww_lv [0, 1, 2] rfl (ww_sub [0, 1, 2, 3, 4, 5, 6, 7] rfl rfl (loop_70 _ 0 f_factsOfz_30 f_possiblez_31 (by omega) (Nat.lt_succ_self _)))
        · have zc_41 : ((w1 : Nat) : Int) < ((cN f_manysz_28 1 : Nat) : Int) := i_nle (nI_toInt (n := cN f_manysz_28 1) (by omega)) (nI_toInt (n := w1) (by omega)) c_41
          refine ww_aload_n C dX12_melt_43 2 rfl rfl ?_
          refine ww_iload_n C dX12_melt_44 0 rfl rfl ?_
          refine ww_ci (wr := [(m_newAt, .inl (E.2.1 1, 24, .inl g1)), (m_led, .inl (E.2.1 2, 192, .inr (.inl f_ledz_7))), (m_manys, .inl (E.2.1 1, 18, .inl f_manysz_28)), (m_reals, .inl (E.2.1 1, 18, .inl f_realsz_29)), (m_factsOf, .inl (E.2.1 1, 432, .inl f_factsOfz_30)), (m_possible, .inl (E.2.1 1, 1728, .inl f_possiblez_31))]) (k' := 0) (n' := 0) C (run_V (As := [.int (nI w1)]) (rest := []) C (r_heapOf X.2.1 E ro hm w1 m_manys m_reals m_factsOf m_possible uz__13 q_models m_tape q_taped q_fault q_wrong q_wrongAt q_spot q_place q_token q_value m_ends m_letters m_actOf m_whom m_actMany m_tokens m_afters m_afterOf q_counted m_pile m_caseMany m_happen m_hasIf m_becomes m_goneOf m_heard m_pairs m_heaps rz__4 (nI hmz_5) m_led m_newAt m_knowing m_firsts q_people m_secrets m_tried m_lanes m_lengths m_cells f_heapsz_6 (by omega) (by omega)) mi_X12_heapOf wl_X12_301 rfl 0 12 rfl rfl rfl rfl rfl dX12_melt_45) (roK hro) [3, 1] [0, 2, 4, 5, 6, 7] rfl rfl rfl rfl (fun r_78 uz hw => ?_)
          refine an1 hw ?_
          clear hw
          intro he_79 hw
          have he_80 := hw
          clear hw
          have he_79 := he_79.symm
          subst he_79
          subst he_80
          refine ww_eq (ws' := [(m_newAt, .inl (E.2.1 1, 24, .inl g1)), (m_led, .inl (E.2.1 2, 192, .inr (.inl f_ledz_7))), (m_manys, .inl (E.2.1 1, 18, .inl f_manysz_28)), (m_reals, .inl (E.2.1 1, 18, .inl f_realsz_29)), (m_factsOf, .inl (E.2.1 1, 432, .inl f_factsOfz_30)), (m_possible, .inl (E.2.1 1, 1728, .inl f_possiblez_31)), (hm, .inr (12, [.ref m_manys, .ref m_reals, .ref m_factsOf, .ref m_possible, .int (nI uz__13), .int (nI q_models), .ref m_tape, .int (nI q_taped), .int q_fault, .int q_wrong, .int q_wrongAt, .int q_spot, .int q_place, .int q_token, .int q_value, .ref m_ends, .ref m_letters, .ref m_actOf, .ref m_whom, .ref m_actMany, .ref m_tokens, .ref m_afters, .ref m_afterOf, .int q_counted, .ref m_pile, .ref m_caseMany, .ref m_happen, .ref m_hasIf, .ref m_becomes, .ref m_goneOf, .ref m_heard, .ref m_pairs, .ref m_heaps, .int (nI rz__4), .int (nI hmz_5), .ref m_led, .ref m_newAt, .ref m_knowing, .ref m_firsts, .int (nI q_people), .ref m_secrets, .ref m_tried, .ref m_lanes, .ref m_lengths, .ref m_cells])), (m_heaps, .inl (E.2.1 1, 2400, .inl f_heapsz_6))]) ?_ rfl rfl rfl
          refine ww_iload_n C dX12_melt_48 0 rfl rfl ?_
          refine ww_icmp_ne (tgt := 62) C dX12_melt_49 (by decide) (fun c_81 => ?_) (fun c_81 => ?_)
          · have zc_81 : (f_heapsz_6 (48 * rz__4 + w1)).toInt ≠ ((w1 : Nat) : Int) := i_ne rfl (nI_toInt (n := w1) (by omega)) c_81
            refine ww_iinc (j := 0) (v := (nI (w1 + 1))) (lv' := [(2, .int (nI (w1 + 1))), (1, .int (nI c1)), (0, .ref hm)]) C dX12_melt_62 rfl (nI_add w1 1) rfl rfl ?_
            refine ww_goto (tgt := 33) C dX12_melt_65 (by decide) ?_
            exact ww_lv [0, 1, 2] rfl (ww_sub [0, 7, 1, 6, 2, 3, 4, 5] rfl rfl (ih_33 (w1 + 1) c1 g1 (by omega) (by omega) (MDx.no hmd (rfl : _ = f_heapsz_6 (48 * rz__4 + w1)) (fun h9 => by have h8 := congrArg Int32.toInt h9; rw [nI_toInt (by omega)] at h8; omega)) (by omega)))
          · have zc_81 : (f_heapsz_6 (48 * rz__4 + w1)).toInt = ((w1 : Nat) : Int) := i_eq rfl (nI_toInt (n := w1) (by omega)) c_81
            refine ww_aload_n C dX12_melt_52 2 rfl rfl ?_
            refine ww_get C fg_X12_81 6 rfl rfl dX12_melt_53 ?_
            refine ww_iload_n C dX12_melt_56 0 rfl rfl ?_
            refine ww_iload_n C dX12_melt_57 1 rfl rfl ?_
            obtain ⟨f_82, ef_82⟩ : ∃ z : Nat → Int32, upd g1 w1 (nI c1) = z := ⟨_, rfl⟩
            refine ww_iast (ws' := [(m_newAt, .inl (E.2.1 1, 24, .inl f_82)), (m_led, .inl (E.2.1 2, 192, .inr (.inl f_ledz_7))), (m_manys, .inl (E.2.1 1, 18, .inl f_manysz_28)), (m_reals, .inl (E.2.1 1, 18, .inl f_realsz_29)), (m_factsOf, .inl (E.2.1 1, 432, .inl f_factsOfz_30)), (m_possible, .inl (E.2.1 1, 1728, .inl f_possiblez_31)), (hm, .inr (12, [.ref m_manys, .ref m_reals, .ref m_factsOf, .ref m_possible, .int (nI uz__13), .int (nI q_models), .ref m_tape, .int (nI q_taped), .int q_fault, .int q_wrong, .int q_wrongAt, .int q_spot, .int q_place, .int q_token, .int q_value, .ref m_ends, .ref m_letters, .ref m_actOf, .ref m_whom, .ref m_actMany, .ref m_tokens, .ref m_afters, .ref m_afterOf, .int q_counted, .ref m_pile, .ref m_caseMany, .ref m_happen, .ref m_hasIf, .ref m_becomes, .ref m_goneOf, .ref m_heard, .ref m_pairs, .ref m_heaps, .int (nI rz__4), .int (nI hmz_5), .ref m_led, .ref m_newAt, .ref m_knowing, .ref m_firsts, .int (nI q_people), .ref m_secrets, .ref m_tried, .ref m_lanes, .ref m_lengths, .ref m_cells])), (m_heaps, .inl (E.2.1 1, 2400, .inl f_heapsz_6))]) C 0 rfl (vp_in_nI (by omega) (by omega)) (ldn2 (by omega) ef_82) rfl dX12_melt_58 ?_
            refine ww_iinc (j := 1) (v := (nI (c1 + 1))) (lv' := [(1, .int (nI (c1 + 1))), (2, .int (nI w1)), (0, .ref hm)]) C dX12_melt_59 rfl (nI_add c1 1) rfl rfl ?_
            refine ww_iinc (j := 1) (v := (nI (w1 + 1))) (lv' := [(2, .int (nI (w1 + 1))), (1, .int (nI (c1 + 1))), (0, .ref hm)]) C dX12_melt_62 rfl (nI_add w1 1) rfl rfl ?_
            refine ww_goto (tgt := 33) C dX12_melt_65 (by decide) ?_
            exact ww_lv [0, 1, 2] rfl (ww_sub [0, 7, 1, 6, 2, 3, 4, 5] rfl rfl (ih_33 (w1 + 1) (c1 + 1) f_82 (by omega) (by omega) (MDx.yes hmd ef_82) (by omega)))
    exact ww_lv [0, 1, 2] rfl (ww_sub [0, 1, 2, 3, 4, 5, 6, 7] rfl rfl (loop_33 _ 0 0 f_newAt (by omega) (by omega) MDx.zero (Nat.lt_succ_self _)))
  · have zc_2 : ((cN f_manys 0 : Nat) : Int) = 0 := i_eq (nI_toInt (n := cN f_manys 0) (by omega)) rfl c_2
    refine ww_bipush (v := (-2)) C dX12_melt_9 rfl ?_
    exact ww_iret (u := [(hm, .inr (12, [.ref m_manys, .ref m_reals, .ref m_factsOf, .ref m_possible, .int (nI q_undos), .int (nI q_models), .ref m_tape, .int (nI q_taped), .int q_fault, .int q_wrong, .int q_wrongAt, .int q_spot, .int q_place, .int q_token, .int q_value, .ref m_ends, .ref m_letters, .ref m_actOf, .ref m_whom, .ref m_actMany, .ref m_tokens, .ref m_afters, .ref m_afterOf, .int q_counted, .ref m_pile, .ref m_caseMany, .ref m_happen, .ref m_hasIf, .ref m_becomes, .ref m_goneOf, .ref m_heard, .ref m_pairs, .ref m_heaps, .int q_rounds, .int q_heapMany, .ref m_led, .ref m_newAt, .ref m_knowing, .ref m_firsts, .int (nI q_people), .ref m_secrets, .ref m_tried, .ref m_lanes, .ref m_lengths, .ref m_cells])), (m_manys, .inl (E.2.1 1, 18, .inl f_manys)), (m_reals, .inl (E.2.1 1, 18, .inl f_reals)), (m_factsOf, .inl (E.2.1 1, 432, .inl f_factsOf)), (m_possible, .inl (E.2.1 1, 1728, .inl f_possible)), (m_heaps, .inl (E.2.1 1, 2400, .inl f_heaps)), (m_led, .inl (E.2.1 2, 192, .inr (.inl f_led))), (m_newAt, .inl (E.2.1 1, 24, .inl f_newAt))]) C hT [0, 1, 2, 3, 4, 5, 6, 7] rfl rfl rfl rfl dX12_melt_11 (⟨q_undos, q_rounds, q_heapMany, f_manys, f_reals, f_factsOf, f_possible, f_heaps, f_led, f_newAt, rfl, (by omega), hb_manys, hb_reals, hpg⟩)
