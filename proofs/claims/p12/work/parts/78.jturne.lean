theorem dX12_allKnow_0 : decode cX12_allKnow 0 = .ok (.iconst 0, 1) := by decide +kernel
theorem dX12_allKnow_1 : decode cX12_allKnow 1 = .ok (.istore_n 3, 1) := by decide +kernel
theorem dX12_allKnow_2 : decode cX12_allKnow 2 = .ok (.iload_n 3, 1) := by decide +kernel
theorem dX12_allKnow_3 : decode cX12_allKnow 3 = .ok (.aload_n 0, 1) := by decide +kernel
theorem dX12_allKnow_4 : decode cX12_allKnow 4 = .ok (.getfield 332, 3) := by decide +kernel
theorem dX12_allKnow_7 : decode cX12_allKnow 7 = .ok (.if_icmp .ge 21, 3) := by decide +kernel
theorem dX12_allKnow_28 : decode cX12_allKnow 28 = .ok (.iconst 1, 1) := by decide +kernel
theorem dX12_allKnow_29 : decode cX12_allKnow 29 = .ok (.istore_n 3, 1) := by decide +kernel
theorem dX12_allKnow_30 : decode cX12_allKnow 30 = .ok (.iconst 1, 1) := by decide +kernel
theorem dX12_allKnow_31 : decode cX12_allKnow 31 = .ok (.istore 4, 2) := by decide +kernel
theorem dX12_allKnow_33 : decode cX12_allKnow 33 = .ok (.iload 4, 2) := by decide +kernel
theorem dX12_allKnow_35 : decode cX12_allKnow 35 = .ok (.iload_n 2, 1) := by decide +kernel
theorem dX12_allKnow_36 : decode cX12_allKnow 36 = .ok (.if_icmp .ge 14, 3) := by decide +kernel
theorem dX12_allKnow_50 : decode cX12_allKnow 50 = .ok (.iload_n 1, 1) := by decide +kernel
theorem dX12_allKnow_51 : decode cX12_allKnow 51 = .ok (.istore 4, 2) := by decide +kernel
theorem dX12_allKnow_53 : decode cX12_allKnow 53 = .ok (.iconst 1, 1) := by decide +kernel
theorem dX12_allKnow_54 : decode cX12_allKnow 54 = .ok (.istore 5, 2) := by decide +kernel
theorem dX12_allKnow_56 : decode cX12_allKnow 56 = .ok (.iconst 0, 1) := by decide +kernel
theorem dX12_allKnow_57 : decode cX12_allKnow 57 = .ok (.istore 6, 2) := by decide +kernel
theorem dX12_allKnow_59 : decode cX12_allKnow 59 = .ok (.iload 6, 2) := by decide +kernel
theorem dX12_allKnow_61 : decode cX12_allKnow 61 = .ok (.iload_n 2, 1) := by decide +kernel
theorem dX12_allKnow_62 : decode cX12_allKnow 62 = .ok (.if_icmp .ge 135, 3) := by decide +kernel
theorem dX12_allKnow_197 : decode cX12_allKnow 197 = .ok (.iconst 0, 1) := by decide +kernel
theorem dX12_allKnow_198 : decode cX12_allKnow 198 = .ok (.istore 6, 2) := by decide +kernel
theorem dX12_allKnow_200 : decode cX12_allKnow 200 = .ok (.iload 6, 2) := by decide +kernel
theorem dX12_allKnow_202 : decode cX12_allKnow 202 = .ok (.aload_n 0, 1) := by decide +kernel
theorem dX12_allKnow_203 : decode cX12_allKnow 203 = .ok (.getfield 332, 3) := by decide +kernel
theorem dX12_allKnow_206 : decode cX12_allKnow 206 = .ok (.if_icmp .ge 38, 3) := by decide +kernel
theorem dX12_allKnow_244 : decode cX12_allKnow 244 = .ok (.iload 5, 2) := by decide +kernel
theorem dX12_allKnow_246 : decode cX12_allKnow 246 = .ok (.ireturn, 1) := by decide +kernel
theorem dX12_allKnow_209 : decode cX12_allKnow 209 = .ok (.iload 5, 2) := by decide +kernel
theorem dX12_allKnow_211 : decode cX12_allKnow 211 = .ok (.ifCond .eq 24, 3) := by decide +kernel
theorem dX12_allKnow_235 : decode cX12_allKnow 235 = .ok (.iconst 0, 1) := by decide +kernel
theorem dX12_allKnow_236 : decode cX12_allKnow 236 = .ok (.istore 5, 2) := by decide +kernel
theorem dX12_allKnow_238 : decode cX12_allKnow 238 = .ok (.iinc 6 1, 3) := by decide +kernel
theorem dX12_allKnow_241 : decode cX12_allKnow 241 = .ok (.goto (-41), 3) := by decide +kernel
theorem dX12_allKnow_214 : decode cX12_allKnow 214 = .ok (.aload_n 0, 1) := by decide +kernel
theorem dX12_allKnow_215 : decode cX12_allKnow 215 = .ok (.getfield 93, 3) := by decide +kernel
theorem wf_X12_93 : Cond.fieldLink RX12 93 RX12 "tried" "[I" ∈ TB := tbm (tq5 (List.mem_of_getElem? (i := 119) (by decide +kernel))) (by decide +kernel)
theorem fg_X12_93 : FG RX12 93 12 41 := ⟨RX12, TX12, 45, uw_X12, wf_X12_93, rfl, by decide, rfl⟩
theorem dX12_allKnow_218 : decode cX12_allKnow 218 = .ok (.iload 6, 2) := by decide +kernel
theorem dX12_allKnow_220 : decode cX12_allKnow 220 = .ok (.iaload, 1) := by decide +kernel
theorem dX12_allKnow_221 : decode cX12_allKnow 221 = .ok (.aload_n 0, 1) := by decide +kernel
theorem dX12_allKnow_222 : decode cX12_allKnow 222 = .ok (.getfield 332, 3) := by decide +kernel
theorem dX12_allKnow_225 : decode cX12_allKnow 225 = .ok (.invokestatic 230, 3) := by decide +kernel
theorem dX12_allKnow_228 : decode cX12_allKnow 228 = .ok (.if_icmp .ne 7, 3) := by decide +kernel
theorem dX12_allKnow_231 : decode cX12_allKnow 231 = .ok (.iconst 1, 1) := by decide +kernel
theorem dX12_allKnow_232 : decode cX12_allKnow 232 = .ok (.goto 4, 3) := by decide +kernel
theorem dX12_allKnow_65 : decode cX12_allKnow 65 = .ok (.iload 5, 2) := by decide +kernel
theorem dX12_allKnow_67 : decode cX12_allKnow 67 = .ok (.ifCond .eq 130, 3) := by decide +kernel
theorem dX12_allKnow_70 : decode cX12_allKnow 70 = .ok (.iload 4, 2) := by decide +kernel
theorem dX12_allKnow_72 : decode cX12_allKnow 72 = .ok (.iload_n 3, 1) := by decide +kernel
theorem dX12_allKnow_73 : decode cX12_allKnow 73 = .ok (.idiv, 1) := by decide +kernel
theorem dX12_allKnow_74 : decode cX12_allKnow 74 = .ok (.istore 7, 2) := by decide +kernel
theorem dX12_allKnow_76 : decode cX12_allKnow 76 = .ok (.iload 4, 2) := by decide +kernel
theorem dX12_allKnow_78 : decode cX12_allKnow 78 = .ok (.iload_n 3, 1) := by decide +kernel
theorem dX12_allKnow_79 : decode cX12_allKnow 79 = .ok (.irem, 1) := by decide +kernel
theorem dX12_allKnow_80 : decode cX12_allKnow 80 = .ok (.istore 4, 2) := by decide +kernel
theorem dX12_allKnow_82 : decode cX12_allKnow 82 = .ok (.iload_n 3, 1) := by decide +kernel
theorem dX12_allKnow_83 : decode cX12_allKnow 83 = .ok (.bipush 6, 2) := by decide +kernel
theorem dX12_allKnow_85 : decode cX12_allKnow 85 = .ok (.idiv, 1) := by decide +kernel
theorem dX12_allKnow_86 : decode cX12_allKnow 86 = .ok (.istore_n 3, 1) := by decide +kernel
theorem dX12_allKnow_87 : decode cX12_allKnow 87 = .ok (.iload 7, 2) := by decide +kernel
theorem dX12_allKnow_89 : decode cX12_allKnow 89 = .ok (.iconst 3, 1) := by decide +kernel
theorem dX12_allKnow_90 : decode cX12_allKnow 90 = .ok (.if_icmp .ge 7, 3) := by decide +kernel
theorem dX12_allKnow_97 : decode cX12_allKnow 97 = .ok (.iload 7, 2) := by decide +kernel
theorem dX12_allKnow_99 : decode cX12_allKnow 99 = .ok (.iconst 5, 1) := by decide +kernel
theorem dX12_allKnow_100 : decode cX12_allKnow 100 = .ok (.if_icmp .ge 7, 3) := by decide +kernel
theorem dX12_allKnow_107 : decode cX12_allKnow 107 = .ok (.iconst 2, 1) := by decide +kernel
theorem dX12_allKnow_108 : decode cX12_allKnow 108 = .ok (.istore 8, 2) := by decide +kernel
theorem dX12_allKnow_110 : decode cX12_allKnow 110 = .ok (.iload 7, 2) := by decide +kernel
theorem dX12_allKnow_112 : decode cX12_allKnow 112 = .ok (.iconst 3, 1) := by decide +kernel
theorem dX12_allKnow_113 : decode cX12_allKnow 113 = .ok (.if_icmp .ge 10, 3) := by decide +kernel
theorem dX12_allKnow_123 : decode cX12_allKnow 123 = .ok (.iload 7, 2) := by decide +kernel
theorem dX12_allKnow_125 : decode cX12_allKnow 125 = .ok (.iconst 5, 1) := by decide +kernel
theorem dX12_allKnow_126 : decode cX12_allKnow 126 = .ok (.if_icmp .ge 10, 3) := by decide +kernel
theorem dX12_allKnow_136 : decode cX12_allKnow 136 = .ok (.iconst 3, 1) := by decide +kernel
theorem dX12_allKnow_137 : decode cX12_allKnow 137 = .ok (.istore 9, 2) := by decide +kernel
theorem dX12_allKnow_139 : decode cX12_allKnow 139 = .ok (.iload 9, 2) := by decide +kernel
theorem dX12_allKnow_141 : decode cX12_allKnow 141 = .ok (.aload_n 0, 1) := by decide +kernel
theorem dX12_allKnow_142 : decode cX12_allKnow 142 = .ok (.getfield 332, 3) := by decide +kernel
theorem dX12_allKnow_145 : decode cX12_allKnow 145 = .ok (.if_icmp .ge 7, 3) := by decide +kernel
theorem dX12_allKnow_152 : decode cX12_allKnow 152 = .ok (.iconst 0, 1) := by decide +kernel
theorem dX12_allKnow_153 : decode cX12_allKnow 153 = .ok (.istore 5, 2) := by decide +kernel
theorem dX12_allKnow_155 : decode cX12_allKnow 155 = .ok (.iload 5, 2) := by decide +kernel
theorem dX12_allKnow_157 : decode cX12_allKnow 157 = .ok (.ifCond .eq 34, 3) := by decide +kernel
theorem dX12_allKnow_191 : decode cX12_allKnow 191 = .ok (.iinc 6 1, 3) := by decide +kernel
theorem dX12_allKnow_194 : decode cX12_allKnow 194 = .ok (.goto (-135), 3) := by decide +kernel
theorem dX12_allKnow_148 : decode cX12_allKnow 148 = .ok (.iconst 1, 1) := by decide +kernel
theorem dX12_allKnow_149 : decode cX12_allKnow 149 = .ok (.goto 4, 3) := by decide +kernel
theorem dX12_allKnow_160 : decode cX12_allKnow 160 = .ok (.aload_n 0, 1) := by decide +kernel
theorem dX12_allKnow_161 : decode cX12_allKnow 161 = .ok (.getfield 93, 3) := by decide +kernel
theorem dX12_allKnow_164 : decode cX12_allKnow 164 = .ok (.iload 8, 2) := by decide +kernel
theorem dX12_allKnow_166 : decode cX12_allKnow 166 = .ok (.dup2, 1) := by decide +kernel
theorem dX12_allKnow_167 : decode cX12_allKnow 167 = .ok (.iaload, 1) := by decide +kernel
theorem dX12_allKnow_168 : decode cX12_allKnow 168 = .ok (.aload_n 0, 1) := by decide +kernel
theorem dX12_allKnow_169 : decode cX12_allKnow 169 = .ok (.getfield 93, 3) := by decide +kernel
theorem dX12_allKnow_172 : decode cX12_allKnow 172 = .ok (.iload 9, 2) := by decide +kernel
theorem dX12_allKnow_174 : decode cX12_allKnow 174 = .ok (.iaload, 1) := by decide +kernel
theorem dX12_allKnow_175 : decode cX12_allKnow 175 = .ok (.ior, 1) := by decide +kernel
theorem dX12_allKnow_176 : decode cX12_allKnow 176 = .ok (.iastore, 1) := by decide +kernel
theorem dX12_allKnow_177 : decode cX12_allKnow 177 = .ok (.aload_n 0, 1) := by decide +kernel
theorem dX12_allKnow_178 : decode cX12_allKnow 178 = .ok (.getfield 93, 3) := by decide +kernel
theorem dX12_allKnow_181 : decode cX12_allKnow 181 = .ok (.iload 9, 2) := by decide +kernel
theorem dX12_allKnow_183 : decode cX12_allKnow 183 = .ok (.aload_n 0, 1) := by decide +kernel
theorem dX12_allKnow_184 : decode cX12_allKnow 184 = .ok (.getfield 93, 3) := by decide +kernel
theorem dX12_allKnow_187 : decode cX12_allKnow 187 = .ok (.iload 8, 2) := by decide +kernel
theorem dX12_allKnow_189 : decode cX12_allKnow 189 = .ok (.iaload, 1) := by decide +kernel
theorem dX12_allKnow_190 : decode cX12_allKnow 190 = .ok (.iastore, 1) := by decide +kernel
theorem dX12_allKnow_103 : decode cX12_allKnow 103 = .ok (.iconst 1, 1) := by decide +kernel
theorem dX12_allKnow_104 : decode cX12_allKnow 104 = .ok (.goto 4, 3) := by decide +kernel
theorem dX12_allKnow_129 : decode cX12_allKnow 129 = .ok (.iload 7, 2) := by decide +kernel
theorem dX12_allKnow_131 : decode cX12_allKnow 131 = .ok (.iconst 1, 1) := by decide +kernel
theorem dX12_allKnow_132 : decode cX12_allKnow 132 = .ok (.isub, 1) := by decide +kernel
theorem dX12_allKnow_133 : decode cX12_allKnow 133 = .ok (.goto 4, 3) := by decide +kernel
theorem dX12_allKnow_93 : decode cX12_allKnow 93 = .ok (.iconst 0, 1) := by decide +kernel
theorem dX12_allKnow_94 : decode cX12_allKnow 94 = .ok (.goto 14, 3) := by decide +kernel
theorem dX12_allKnow_116 : decode cX12_allKnow 116 = .ok (.iload 7, 2) := by decide +kernel
theorem dX12_allKnow_118 : decode cX12_allKnow 118 = .ok (.iconst 1, 1) := by decide +kernel
theorem dX12_allKnow_119 : decode cX12_allKnow 119 = .ok (.iadd, 1) := by decide +kernel
theorem dX12_allKnow_120 : decode cX12_allKnow 120 = .ok (.goto 17, 3) := by decide +kernel
theorem dX12_allKnow_39 : decode cX12_allKnow 39 = .ok (.iload_n 3, 1) := by decide +kernel
theorem dX12_allKnow_40 : decode cX12_allKnow 40 = .ok (.bipush 6, 2) := by decide +kernel
theorem dX12_allKnow_42 : decode cX12_allKnow 42 = .ok (.imul, 1) := by decide +kernel
theorem dX12_allKnow_43 : decode cX12_allKnow 43 = .ok (.istore_n 3, 1) := by decide +kernel
theorem dX12_allKnow_44 : decode cX12_allKnow 44 = .ok (.iinc 4 1, 3) := by decide +kernel
theorem dX12_allKnow_47 : decode cX12_allKnow 47 = .ok (.goto (-14), 3) := by decide +kernel
theorem dX12_allKnow_10 : decode cX12_allKnow 10 = .ok (.aload_n 0, 1) := by decide +kernel
theorem dX12_allKnow_11 : decode cX12_allKnow 11 = .ok (.getfield 93, 3) := by decide +kernel
theorem dX12_allKnow_14 : decode cX12_allKnow 14 = .ok (.iload_n 3, 1) := by decide +kernel
theorem dX12_allKnow_15 : decode cX12_allKnow 15 = .ok (.aload_n 0, 1) := by decide +kernel
theorem dX12_allKnow_16 : decode cX12_allKnow 16 = .ok (.getfield 90, 3) := by decide +kernel
theorem dX12_allKnow_19 : decode cX12_allKnow 19 = .ok (.iload_n 3, 1) := by decide +kernel
theorem dX12_allKnow_20 : decode cX12_allKnow 20 = .ok (.iaload, 1) := by decide +kernel
theorem dX12_allKnow_21 : decode cX12_allKnow 21 = .ok (.iastore, 1) := by decide +kernel
theorem dX12_allKnow_22 : decode cX12_allKnow 22 = .ok (.iinc 3 1, 3) := by decide +kernel
theorem dX12_allKnow_25 : decode cX12_allKnow 25 = .ok (.goto (-23), 3) := by decide +kernel
set_option maxRecDepth 100000 in
set_option maxHeartbeats 4000000 in
theorem r_allKnow (l : Launch) (E : EV) (ro : va_W) (hm : Nat) (row : Nat) (n : Nat) (m_manys : Nat) (m_reals : Nat) (m_factsOf : Nat) (m_possible : Nat) (q_undos : Nat) (q_models : Nat) (m_tape : Nat) (q_taped : Nat) (q_fault : Int32) (q_wrong : Int32) (q_wrongAt : Int32) (q_spot : Int32) (q_place : Int32) (q_token : Int32) (q_value : Int32) (m_ends : Nat) (m_letters : Nat) (m_actOf : Nat) (m_whom : Nat) (m_actMany : Nat) (m_tokens : Nat) (m_afters : Nat) (m_afterOf : Nat) (q_counted : Int32) (m_pile : Nat) (m_caseMany : Nat) (m_happen : Nat) (m_hasIf : Nat) (m_becomes : Nat) (m_goneOf : Nat) (m_heard : Nat) (m_pairs : Nat) (m_heaps : Nat) (q_rounds : Int32) (q_heapMany : Int32) (m_led : Nat) (m_newAt : Nat) (m_knowing : Nat) (m_firsts : Nat) (q_people : Nat) (m_secrets : Nat) (m_tried : Nat) (m_lanes : Nat) (m_lengths : Nat) (m_cells : Nat) (f_secrets : Nat → Int32) (f_tried : Nat → Int32) (hq_people : q_people ≤ 4) (hn : n ≤ 5) (hrow : row ≤ 7775) : CT l yX12_allKnow (Cond.code yX12_allKnow cX12_allKnow 10 (some .boolean) :: TB) ({ frames := 1, cells := 0, slots := 0, locals := 20 }) E ro [.ref hm, .int (nI row), .int (nI n)] [(hm, .inr (12, [.ref m_manys, .ref m_reals, .ref m_factsOf, .ref m_possible, .int (nI q_undos), .int (nI q_models), .ref m_tape, .int (nI q_taped), .int q_fault, .int q_wrong, .int q_wrongAt, .int q_spot, .int q_place, .int q_token, .int q_value, .ref m_ends, .ref m_letters, .ref m_actOf, .ref m_whom, .ref m_actMany, .ref m_tokens, .ref m_afters, .ref m_afterOf, .int q_counted, .ref m_pile, .ref m_caseMany, .ref m_happen, .ref m_hasIf, .ref m_becomes, .ref m_goneOf, .ref m_heard, .ref m_pairs, .ref m_heaps, .int q_rounds, .int q_heapMany, .ref m_led, .ref m_newAt, .ref m_knowing, .ref m_firsts, .int (nI q_people), .ref m_secrets, .ref m_tried, .ref m_lanes, .ref m_lengths, .ref m_cells])), (m_secrets, .inl (E.2.1 1, 4, .inl f_secrets)), (m_tried, .inl (E.2.1 1, 4, .inl f_tried))] (Qi E (fun (rz : Int32) uz => (∃ (f_triedz : Nat → Int32), rz = 1 ∧ uz = [(hm, .inr (12, [.ref m_manys, .ref m_reals, .ref m_factsOf, .ref m_possible, .int (nI q_undos), .int (nI q_models), .ref m_tape, .int (nI q_taped), .int q_fault, .int q_wrong, .int q_wrongAt, .int q_spot, .int q_place, .int q_token, .int q_value, .ref m_ends, .ref m_letters, .ref m_actOf, .ref m_whom, .ref m_actMany, .ref m_tokens, .ref m_afters, .ref m_afterOf, .int q_counted, .ref m_pile, .ref m_caseMany, .ref m_happen, .ref m_hasIf, .ref m_becomes, .ref m_goneOf, .ref m_heard, .ref m_pairs, .ref m_heaps, .int q_rounds, .int q_heapMany, .ref m_led, .ref m_newAt, .ref m_knowing, .ref m_firsts, .int (nI q_people), .ref m_secrets, .ref m_tried, .ref m_lanes, .ref m_lengths, .ref m_cells])), (m_secrets, .inl (E.2.1 1, 4, .inl f_secrets)), (m_tried, .inl (E.2.1 1, 4, .inl f_triedz))] ∧ (cpX q_people n row f_secrets)) ∨ (∃ (f_triedz : Nat → Int32), rz = 0 ∧ uz = [(hm, .inr (12, [.ref m_manys, .ref m_reals, .ref m_factsOf, .ref m_possible, .int (nI q_undos), .int (nI q_models), .ref m_tape, .int (nI q_taped), .int q_fault, .int q_wrong, .int q_wrongAt, .int q_spot, .int q_place, .int q_token, .int q_value, .ref m_ends, .ref m_letters, .ref m_actOf, .ref m_whom, .ref m_actMany, .ref m_tokens, .ref m_afters, .ref m_afterOf, .int q_counted, .ref m_pile, .ref m_caseMany, .ref m_happen, .ref m_hasIf, .ref m_becomes, .ref m_goneOf, .ref m_heard, .ref m_pairs, .ref m_heaps, .int q_rounds, .int q_heapMany, .ref m_led, .ref m_newAt, .ref m_knowing, .ref m_firsts, .int (nI q_people), .ref m_secrets, .ref m_tried, .ref m_lanes, .ref m_lengths, .ref m_cells])), (m_secrets, .inl (E.2.1 1, 4, .inl f_secrets)), (m_tried, .inl (E.2.1 1, 4, .inl f_triedz))] ∧ (¬ cpX q_people n row f_secrets)))) 0 0 := by
  refine ct_of rfl rfl ?_
  intro X C hT hin hro
  show WW X 10 E 0 [(0, .ref hm), (1, .int (nI row)), (2, .int (nI n))] [] [(hm, .inr (12, [.ref m_manys, .ref m_reals, .ref m_factsOf, .ref m_possible, .int (nI q_undos), .int (nI q_models), .ref m_tape, .int (nI q_taped), .int q_fault, .int q_wrong, .int q_wrongAt, .int q_spot, .int q_place, .int q_token, .int q_value, .ref m_ends, .ref m_letters, .ref m_actOf, .ref m_whom, .ref m_actMany, .ref m_tokens, .ref m_afters, .ref m_afterOf, .int q_counted, .ref m_pile, .ref m_caseMany, .ref m_happen, .ref m_hasIf, .ref m_becomes, .ref m_goneOf, .ref m_heard, .ref m_pairs, .ref m_heaps, .int q_rounds, .int q_heapMany, .ref m_led, .ref m_newAt, .ref m_knowing, .ref m_firsts, .int (nI q_people), .ref m_secrets, .ref m_tried, .ref m_lanes, .ref m_lengths, .ref m_cells])), (m_secrets, .inl (E.2.1 1, 4, .inl f_secrets)), (m_tried, .inl (E.2.1 1, 4, .inl f_tried))] 0 0
  refine ww_iconst (v := 0) C dX12_allKnow_0 rfl ?_
  refine ww_istore_n (lv' := [(3, .int 0), (0, .ref hm), (1, .int (nI row)), (2, .int (nI n))]) C dX12_allKnow_1 rfl rfl rfl ?_
  have loop_2 : ∀ (fu : Nat) (i1 : Nat) (g1 : Nat → Int32), (i1 ≤ q_people) → (∀ m, m < i1 → g1 m = f_secrets m) → q_people - i1 < fu → WW X 10 E 2 [(3, .int (nI i1)), (0, .ref hm), (1, .int (nI row)), (2, .int (nI n))] [] [(hm, .inr (12, [.ref m_manys, .ref m_reals, .ref m_factsOf, .ref m_possible, .int (nI q_undos), .int (nI q_models), .ref m_tape, .int (nI q_taped), .int q_fault, .int q_wrong, .int q_wrongAt, .int q_spot, .int q_place, .int q_token, .int q_value, .ref m_ends, .ref m_letters, .ref m_actOf, .ref m_whom, .ref m_actMany, .ref m_tokens, .ref m_afters, .ref m_afterOf, .int q_counted, .ref m_pile, .ref m_caseMany, .ref m_happen, .ref m_hasIf, .ref m_becomes, .ref m_goneOf, .ref m_heard, .ref m_pairs, .ref m_heaps, .int q_rounds, .int q_heapMany, .ref m_led, .ref m_newAt, .ref m_knowing, .ref m_firsts, .int (nI q_people), .ref m_secrets, .ref m_tried, .ref m_lanes, .ref m_lengths, .ref m_cells])), (m_secrets, .inl (E.2.1 1, 4, .inl f_secrets)), (m_tried, .inl (E.2.1 1, 4, .inl g1))] 0 0 := by
    intro fu
    induction fu with
    | zero => intro i1 g1 hi1 hak hmeas; exact absurd hmeas (Nat.not_lt_zero _)
    | succ fu ih_2 =>
      intro i1 g1 hi1 hak hmeas
      refine ww_iload_n C dX12_allKnow_2 0 rfl rfl ?_
      refine ww_aload_n C dX12_allKnow_3 1 rfl rfl ?_
      refine ww_get C fg_X12_332 0 rfl rfl dX12_allKnow_4 ?_
      refine ww_icmp_ge (tgt := 28) C dX12_allKnow_7 (by decide) (fun c_1 => ?_) (fun c_1 => ?_)
      · have zc_1 : ((i1 : Nat) : Int) ≥ ((q_people : Nat) : Int) := i_le (nI_toInt (n := q_people) (by omega)) (nI_toInt (n := i1) (by omega)) c_1
        refine ww_iconst (v := 1) C dX12_allKnow_28 rfl ?_
        refine ww_istore_n (lv' := [(3, .int 1), (0, .ref hm), (1, .int (nI row)), (2, .int (nI n))]) C dX12_allKnow_29 rfl rfl rfl ?_
        refine ww_iconst (v := 1) C dX12_allKnow_30 rfl ?_
        refine ww_istore (lv' := [(4, .int 1), (3, .int 1), (0, .ref hm), (1, .int (nI row)), (2, .int (nI n))]) C dX12_allKnow_31 rfl rfl ?_
        have loop_33 : ∀ (fu : Nat) (k1 : Nat) (by1 : Nat), (1 ≤ k1) → (k1 ≤ n ∨ k1 = 1) → (by1 = 6 ^ (k1 - 1)) → n - k1 < fu → WW X 10 E 33 [(4, .int (nI k1)), (3, .int (nI by1)), (0, .ref hm), (1, .int (nI row)), (2, .int (nI n))] [] [(hm, .inr (12, [.ref m_manys, .ref m_reals, .ref m_factsOf, .ref m_possible, .int (nI q_undos), .int (nI q_models), .ref m_tape, .int (nI q_taped), .int q_fault, .int q_wrong, .int q_wrongAt, .int q_spot, .int q_place, .int q_token, .int q_value, .ref m_ends, .ref m_letters, .ref m_actOf, .ref m_whom, .ref m_actMany, .ref m_tokens, .ref m_afters, .ref m_afterOf, .int q_counted, .ref m_pile, .ref m_caseMany, .ref m_happen, .ref m_hasIf, .ref m_becomes, .ref m_goneOf, .ref m_heard, .ref m_pairs, .ref m_heaps, .int q_rounds, .int q_heapMany, .ref m_led, .ref m_newAt, .ref m_knowing, .ref m_firsts, .int (nI q_people), .ref m_secrets, .ref m_tried, .ref m_lanes, .ref m_lengths, .ref m_cells])), (m_secrets, .inl (E.2.1 1, 4, .inl f_secrets)), (m_tried, .inl (E.2.1 1, 4, .inl g1))] 0 0 := by
          intro fu
          induction fu with
          | zero => intro k1 by1 hk1 hk1n hby1 hmeas; exact absurd hmeas (Nat.not_lt_zero _)
          | succ fu ih_33 =>
            intro k1 by1 hk1 hk1n hby1 hmeas
            refine ww_iload C dX12_allKnow_33 0 rfl ?_
            refine ww_iload_n C dX12_allKnow_35 4 rfl rfl ?_
            refine ww_icmp_ge (tgt := 50) C dX12_allKnow_36 (by decide) (fun c_2 => ?_) (fun c_2 => ?_)
            · have zc_2 : ((k1 : Nat) : Int) ≥ ((n : Nat) : Int) := i_le (nI_toInt (n := n) (by omega)) (nI_toInt (n := k1) (by omega)) c_2
              refine ww_iload_n C dX12_allKnow_50 3 rfl rfl ?_
              refine ww_istore (lv' := [(4, .int (nI row)), (3, .int (nI by1)), (0, .ref hm), (1, .int (nI row)), (2, .int (nI n))]) C dX12_allKnow_51 rfl rfl ?_
              refine ww_iconst (v := 1) C dX12_allKnow_53 rfl ?_
              refine ww_istore (lv' := [(5, .int 1), (4, .int (nI row)), (3, .int (nI by1)), (0, .ref hm), (1, .int (nI row)), (2, .int (nI n))]) C dX12_allKnow_54 rfl rfl ?_
              refine ww_iconst (v := 0) C dX12_allKnow_56 rfl ?_
              refine ww_istore (lv' := [(6, .int 0), (5, .int 1), (4, .int (nI row)), (3, .int (nI by1)), (0, .ref hm), (1, .int (nI row)), (2, .int (nI n))]) C dX12_allKnow_57 rfl rfl ?_
              have loop_59 : ∀ (fu : Nat) (k2 : Nat) (by2 : Nat) (lf : Nat) (ca : Nat) (g2 : Nat → Int32), (k2 ≤ n) → (lf ≤ 7775) → (ca ≤ 1) → (by2 ≤ 7776) → (k2 < n → by2 = 6 ^ (n - 1 - k2)) → (ca = 1 → (cpX q_people (n - k2) lf g2 ↔ cpX q_people n row f_secrets)) → (ca = 0 → ¬ cpX q_people n row f_secrets) → n - k2 < fu → WW X 10 E 59 [(6, .int (nI k2)), (5, .int (nI ca)), (4, .int (nI lf)), (3, .int (nI by2)), (0, .ref hm), (1, .int (nI row)), (2, .int (nI n))] [] [(hm, .inr (12, [.ref m_manys, .ref m_reals, .ref m_factsOf, .ref m_possible, .int (nI q_undos), .int (nI q_models), .ref m_tape, .int (nI q_taped), .int q_fault, .int q_wrong, .int q_wrongAt, .int q_spot, .int q_place, .int q_token, .int q_value, .ref m_ends, .ref m_letters, .ref m_actOf, .ref m_whom, .ref m_actMany, .ref m_tokens, .ref m_afters, .ref m_afterOf, .int q_counted, .ref m_pile, .ref m_caseMany, .ref m_happen, .ref m_hasIf, .ref m_becomes, .ref m_goneOf, .ref m_heard, .ref m_pairs, .ref m_heaps, .int q_rounds, .int q_heapMany, .ref m_led, .ref m_newAt, .ref m_knowing, .ref m_firsts, .int (nI q_people), .ref m_secrets, .ref m_tried, .ref m_lanes, .ref m_lengths, .ref m_cells])), (m_secrets, .inl (E.2.1 1, 4, .inl f_secrets)), (m_tried, .inl (E.2.1 1, 4, .inl g2))] 0 0 := by
                intro fu
                induction fu with
                | zero => intro k2 by2 lf ca g2 hk2 hlf hca hb9 hby hx1 hx0 hmeas; exact absurd hmeas (Nat.not_lt_zero _)
                | succ fu ih_59 =>
                  intro k2 by2 lf ca g2 hk2 hlf hca hb9 hby hx1 hx0 hmeas
                  refine ww_iload C dX12_allKnow_59 0 rfl ?_
                  refine ww_iload_n C dX12_allKnow_61 6 rfl rfl ?_
                  refine ww_icmp_ge (tgt := 197) C dX12_allKnow_62 (by decide) (fun c_3 => ?_) (fun c_3 => ?_)
                  · have zc_3 : ((k2 : Nat) : Int) ≥ ((n : Nat) : Int) := i_le (nI_toInt (n := n) (by omega)) (nI_toInt (n := k2) (by omega)) c_3
                    refine ww_iconst (v := 0) C dX12_allKnow_197 rfl ?_
                    refine ww_istore (lv' := [(6, .int 0), (5, .int (nI ca)), (4, .int (nI lf)), (3, .int (nI by2)), (0, .ref hm), (1, .int (nI row)), (2, .int (nI n))]) C dX12_allKnow_198 rfl rfl ?_
                    have loop_200 : ∀ (fu : Nat) (i5 : Nat) (c5 : Nat), (i5 ≤ q_people) → (c5 ≤ 1) → (c5 = 1 → ca = 1 ∧ ∀ m, m < i5 → g2 m = nI (2 ^ q_people - 1)) → (c5 = 0 → ¬ cpX q_people n row f_secrets) → q_people - i5 < fu → WW X 10 E 200 [(6, .int (nI i5)), (5, .int (nI c5)), (4, .int (nI lf)), (3, .int (nI by2)), (0, .ref hm), (1, .int (nI row)), (2, .int (nI n))] [] [(hm, .inr (12, [.ref m_manys, .ref m_reals, .ref m_factsOf, .ref m_possible, .int (nI q_undos), .int (nI q_models), .ref m_tape, .int (nI q_taped), .int q_fault, .int q_wrong, .int q_wrongAt, .int q_spot, .int q_place, .int q_token, .int q_value, .ref m_ends, .ref m_letters, .ref m_actOf, .ref m_whom, .ref m_actMany, .ref m_tokens, .ref m_afters, .ref m_afterOf, .int q_counted, .ref m_pile, .ref m_caseMany, .ref m_happen, .ref m_hasIf, .ref m_becomes, .ref m_goneOf, .ref m_heard, .ref m_pairs, .ref m_heaps, .int q_rounds, .int q_heapMany, .ref m_led, .ref m_newAt, .ref m_knowing, .ref m_firsts, .int (nI q_people), .ref m_secrets, .ref m_tried, .ref m_lanes, .ref m_lengths, .ref m_cells])), (m_secrets, .inl (E.2.1 1, 4, .inl f_secrets)), (m_tried, .inl (E.2.1 1, 4, .inl g2))] 0 0 := by
                      intro fu
                      induction fu with
                      | zero => intro i5 c5 hi5 hc5 hc1 hc0 hmeas; exact absurd hmeas (Nat.not_lt_zero _)
                      | succ fu ih_200 =>
                        intro i5 c5 hi5 hc5 hc1 hc0 hmeas
                        refine ww_iload C dX12_allKnow_200 0 rfl ?_
                        refine ww_aload_n C dX12_allKnow_202 4 rfl rfl ?_
                        refine ww_get C fg_X12_332 0 rfl rfl dX12_allKnow_203 ?_
                        refine ww_icmp_ge (tgt := 244) C dX12_allKnow_206 (by decide) (fun c_4 => ?_) (fun c_4 => ?_)
                        · have zc_4 : ((i5 : Nat) : Int) ≥ ((q_people : Nat) : Int) := i_le (nI_toInt (n := q_people) (by omega)) (nI_toInt (n := i5) (by omega)) c_4
                          rcases (show c5 = 0 ∨ c5 = 1 by omega) with rfl | rfl
                          · refine ww_iload C dX12_allKnow_244 1 rfl ?_
                            exact ww_zret (u := [(hm, .inr (12, [.ref m_manys, .ref m_reals, .ref m_factsOf, .ref m_possible, .int (nI q_undos), .int (nI q_models), .ref m_tape, .int (nI q_taped), .int q_fault, .int q_wrong, .int q_wrongAt, .int q_spot, .int q_place, .int q_token, .int q_value, .ref m_ends, .ref m_letters, .ref m_actOf, .ref m_whom, .ref m_actMany, .ref m_tokens, .ref m_afters, .ref m_afterOf, .int q_counted, .ref m_pile, .ref m_caseMany, .ref m_happen, .ref m_hasIf, .ref m_becomes, .ref m_goneOf, .ref m_heard, .ref m_pairs, .ref m_heaps, .int q_rounds, .int q_heapMany, .ref m_led, .ref m_newAt, .ref m_knowing, .ref m_firsts, .int (nI q_people), .ref m_secrets, .ref m_tried, .ref m_lanes, .ref m_lengths, .ref m_cells])), (m_secrets, .inl (E.2.1 1, 4, .inl f_secrets)), (m_tried, .inl (E.2.1 1, 4, .inl g2))]) C hT [0, 1, 2] rfl rfl rfl rfl rfl dX12_allKnow_246 (Or.inr ⟨g2, rfl, rfl, (hc0 rfl)⟩)
                          · refine ww_iload C dX12_allKnow_244 1 rfl ?_
                            exact ww_zret (u := [(hm, .inr (12, [.ref m_manys, .ref m_reals, .ref m_factsOf, .ref m_possible, .int (nI q_undos), .int (nI q_models), .ref m_tape, .int (nI q_taped), .int q_fault, .int q_wrong, .int q_wrongAt, .int q_spot, .int q_place, .int q_token, .int q_value, .ref m_ends, .ref m_letters, .ref m_actOf, .ref m_whom, .ref m_actMany, .ref m_tokens, .ref m_afters, .ref m_afterOf, .int q_counted, .ref m_pile, .ref m_caseMany, .ref m_happen, .ref m_hasIf, .ref m_becomes, .ref m_goneOf, .ref m_heard, .ref m_pairs, .ref m_heaps, .int q_rounds, .int q_heapMany, .ref m_led, .ref m_newAt, .ref m_knowing, .ref m_firsts, .int (nI q_people), .ref m_secrets, .ref m_tried, .ref m_lanes, .ref m_lengths, .ref m_cells])), (m_secrets, .inl (E.2.1 1, 4, .inl f_secrets)), (m_tried, .inl (E.2.1 1, 4, .inl g2))]) C hT [0, 1, 2] rfl rfl rfl rfl rfl dX12_allKnow_246 (Or.inl ⟨g2, rfl, rfl, (by first | exact absurd (hc1 rfl).1 (by omega) | exact ak_fin (hx1 (hc1 rfl).1) (by omega) (fun m hm => (hc1 rfl).2 m (by omega)))⟩)
                        · have zc_4 : ((i5 : Nat) : Int) < ((q_people : Nat) : Int) := i_nle (nI_toInt (n := q_people) (by omega)) (nI_toInt (n := i5) (by omega)) c_4
                          refine ww_iload C dX12_allKnow_209 1 rfl ?_
                          refine ww_if_eq (tgt := 235) C dX12_allKnow_211 (by decide) (fun c_5 => ?_) (fun c_5 => ?_)
                          · have zc_5 : ((c5 : Nat) : Int) = 0 := i_eq (nI_toInt (n := c5) (by omega)) rfl c_5
                            refine ww_iconst (v := 0) C dX12_allKnow_235 rfl ?_
                            refine ww_istore (lv' := [(5, .int 0), (6, .int (nI i5)), (4, .int (nI lf)), (3, .int (nI by2)), (0, .ref hm), (1, .int (nI row)), (2, .int (nI n))]) C dX12_allKnow_236 rfl rfl ?_
                            refine ww_iinc (j := 1) (v := (nI (i5 + 1))) (lv' := [(6, .int (nI (i5 + 1))), (5, .int 0), (4, .int (nI lf)), (3, .int (nI by2)), (0, .ref hm), (1, .int (nI row)), (2, .int (nI n))]) C dX12_allKnow_238 rfl (nI_add i5 1) rfl rfl ?_
                            refine ww_goto (tgt := 200) C dX12_allKnow_241 (by decide) ?_
                            exact ww_lv [0, 1, 2, 3, 4, 5, 6] rfl (ww_sub [0, 1, 2] rfl rfl (ih_200 (i5 + 1) 0 (by omega) (by omega) (fun h9 => absurd h9 (by decide)) (fun _ => hc0 (by omega)) (by omega)))
                          · have zc_5 : ((c5 : Nat) : Int) ≠ 0 := i_ne (nI_toInt (n := c5) (by omega)) rfl c_5
                            refine ww_aload_n C dX12_allKnow_214 4 rfl rfl ?_
                            refine ww_get C fg_X12_93 0 rfl rfl dX12_allKnow_215 ?_
                            refine ww_iload C dX12_allKnow_218 0 rfl ?_
                            obtain ⟨x_6, ex_6⟩ : ∃ z : Int32, g2 i5 = z := ⟨_, rfl⟩
                            refine ww_iald (v := x_6) C 2 rfl (vp_in_nI (by omega) (by omega)) (ldn (by omega) ex_6) dX12_allKnow_220 ?_
                            refine ww_aload_n C dX12_allKnow_221 4 rfl rfl ?_
                            refine ww_get C fg_X12_332 0 rfl rfl dX12_allKnow_222 ?_
                            refine ww_ci (wr := [(hm, .inr (12, [.ref m_manys, .ref m_reals, .ref m_factsOf, .ref m_possible, .int (nI q_undos), .int (nI q_models), .ref m_tape, .int (nI q_taped), .int q_fault, .int q_wrong, .int q_wrongAt, .int q_spot, .int q_place, .int q_token, .int q_value, .ref m_ends, .ref m_letters, .ref m_actOf, .ref m_whom, .ref m_actMany, .ref m_tokens, .ref m_afters, .ref m_afterOf, .int q_counted, .ref m_pile, .ref m_caseMany, .ref m_happen, .ref m_hasIf, .ref m_becomes, .ref m_goneOf, .ref m_heard, .ref m_pairs, .ref m_heaps, .int q_rounds, .int q_heapMany, .ref m_led, .ref m_newAt, .ref m_knowing, .ref m_firsts, .int (nI q_people), .ref m_secrets, .ref m_tried, .ref m_lanes, .ref m_lengths, .ref m_cells])), (m_secrets, .inl (E.2.1 1, 4, .inl f_secrets)), (m_tried, .inl (E.2.1 1, 4, .inl g2))]) (k' := 0) (n' := 0) C (run_S (As := [.int (nI q_people)]) (rest := [.int x_6]) C (r_all X.2.1 E ro q_people (by omega)) ms_X12_all wl_X12_230 rfl rfl rfl rfl dX12_allKnow_225) (roK hro) [] [0, 1, 2] rfl rfl rfl rfl (fun r_7 uz hw => ?_)
                            refine an1 hw ?_
                            clear hw
                            intro he_9 hw
                            have h_8 := hw
                            clear hw
                            subst he_9
                            refine ww_eq (ws' := [(hm, .inr (12, [.ref m_manys, .ref m_reals, .ref m_factsOf, .ref m_possible, .int (nI q_undos), .int (nI q_models), .ref m_tape, .int (nI q_taped), .int q_fault, .int q_wrong, .int q_wrongAt, .int q_spot, .int q_place, .int q_token, .int q_value, .ref m_ends, .ref m_letters, .ref m_actOf, .ref m_whom, .ref m_actMany, .ref m_tokens, .ref m_afters, .ref m_afterOf, .int q_counted, .ref m_pile, .ref m_caseMany, .ref m_happen, .ref m_hasIf, .ref m_becomes, .ref m_goneOf, .ref m_heard, .ref m_pairs, .ref m_heaps, .int q_rounds, .int q_heapMany, .ref m_led, .ref m_newAt, .ref m_knowing, .ref m_firsts, .int (nI q_people), .ref m_secrets, .ref m_tried, .ref m_lanes, .ref m_lengths, .ref m_cells])), (m_secrets, .inl (E.2.1 1, 4, .inl f_secrets)), (m_tried, .inl (E.2.1 1, 4, .inl g2))]) ?_ rfl rfl rfl
                            refine ww_icmp_ne (tgt := 235) C dX12_allKnow_228 (by decide) (fun c_10 => ?_) (fun c_10 => ?_)
                            · have zc_10 : x_6.toInt ≠ r_7.toInt := i_ne rfl rfl c_10
                              refine ww_iconst (v := 0) C dX12_allKnow_235 rfl ?_
                              refine ww_istore (lv' := [(5, .int 0), (6, .int (nI i5)), (4, .int (nI lf)), (3, .int (nI by2)), (0, .ref hm), (1, .int (nI row)), (2, .int (nI n))]) C dX12_allKnow_236 rfl rfl ?_
                              refine ww_iinc (j := 1) (v := (nI (i5 + 1))) (lv' := [(6, .int (nI (i5 + 1))), (5, .int 0), (4, .int (nI lf)), (3, .int (nI by2)), (0, .ref hm), (1, .int (nI row)), (2, .int (nI n))]) C dX12_allKnow_238 rfl (nI_add i5 1) rfl rfl ?_
                              refine ww_goto (tgt := 200) C dX12_allKnow_241 (by decide) ?_
                              exact ww_lv [0, 1, 2, 3, 4, 5, 6] rfl (ww_sub [0, 1, 2] rfl rfl (ih_200 (i5 + 1) 0 (by omega) (by omega) (fun h9 => absurd h9 (by decide)) (fun _ => by first | exact absurd (hc1 (by omega)).1 (by omega) | exact ak_bad (hx1 (hc1 (by omega)).1) (by omega) (show i5 < q_people by omega) (by assumption) h_8 hq_people (by assumption)) (by omega)))
                            · have zc_10 : x_6.toInt = r_7.toInt := i_eq rfl rfl c_10
                              refine ww_iconst (v := 1) C dX12_allKnow_231 rfl ?_
                              refine ww_goto (tgt := 236) C dX12_allKnow_232 (by decide) ?_
                              refine ww_istore (lv' := [(5, .int 1), (6, .int (nI i5)), (4, .int (nI lf)), (3, .int (nI by2)), (0, .ref hm), (1, .int (nI row)), (2, .int (nI n))]) C dX12_allKnow_236 rfl rfl ?_
                              refine ww_iinc (j := 1) (v := (nI (i5 + 1))) (lv' := [(6, .int (nI (i5 + 1))), (5, .int 1), (4, .int (nI lf)), (3, .int (nI by2)), (0, .ref hm), (1, .int (nI row)), (2, .int (nI n))]) C dX12_allKnow_238 rfl (nI_add i5 1) rfl rfl ?_
                              refine ww_goto (tgt := 200) C dX12_allKnow_241 (by decide) ?_
                              exact ww_lv [0, 1, 2, 3, 4, 5, 6] rfl (ww_sub [0, 1, 2] rfl rfl (ih_200 (i5 + 1) 1 (by omega) (by omega) (fun _ => ⟨(hc1 (by omega)).1, ak_s2 (hc1 (by omega)).2 (by assumption) h_8 hq_people (by assumption)⟩) (fun h9 => absurd h9 (by decide)) (by omega)))
                    exact ww_lv [0, 1, 2, 3, 4, 5, 6] rfl (ww_sub [0, 1, 2] rfl rfl (loop_200 _ 0 ca (by omega) (by omega) (fun h9 => ⟨h9, fun m h => absurd h (Nat.not_lt_zero _)⟩) (fun h9 => hx0 h9) (Nat.lt_succ_self _)))
                  · have zc_3 : ((k2 : Nat) : Int) < ((n : Nat) : Int) := i_nle (nI_toInt (n := n) (by omega)) (nI_toInt (n := k2) (by omega)) c_3
                    refine ww_iload C dX12_allKnow_65 1 rfl ?_
                    refine ww_if_eq (tgt := 197) C dX12_allKnow_67 (by decide) (fun c_11 => ?_) (fun c_11 => ?_)
                    · have zc_11 : ((ca : Nat) : Int) = 0 := i_eq (nI_toInt (n := ca) (by omega)) rfl c_11
                      refine ww_iconst (v := 0) C dX12_allKnow_197 rfl ?_
                      refine ww_istore (lv' := [(6, .int 0), (5, .int (nI ca)), (4, .int (nI lf)), (3, .int (nI by2)), (0, .ref hm), (1, .int (nI row)), (2, .int (nI n))]) C dX12_allKnow_198 rfl rfl ?_
                      have loop_200 : ∀ (fu : Nat) (i5 : Nat) (c5 : Nat), (i5 ≤ q_people) → (c5 ≤ 1) → (c5 = 1 → ca = 1 ∧ ∀ m, m < i5 → g2 m = nI (2 ^ q_people - 1)) → (c5 = 0 → ¬ cpX q_people n row f_secrets) → q_people - i5 < fu → WW X 10 E 200 [(6, .int (nI i5)), (5, .int (nI c5)), (4, .int (nI lf)), (3, .int (nI by2)), (0, .ref hm), (1, .int (nI row)), (2, .int (nI n))] [] [(hm, .inr (12, [.ref m_manys, .ref m_reals, .ref m_factsOf, .ref m_possible, .int (nI q_undos), .int (nI q_models), .ref m_tape, .int (nI q_taped), .int q_fault, .int q_wrong, .int q_wrongAt, .int q_spot, .int q_place, .int q_token, .int q_value, .ref m_ends, .ref m_letters, .ref m_actOf, .ref m_whom, .ref m_actMany, .ref m_tokens, .ref m_afters, .ref m_afterOf, .int q_counted, .ref m_pile, .ref m_caseMany, .ref m_happen, .ref m_hasIf, .ref m_becomes, .ref m_goneOf, .ref m_heard, .ref m_pairs, .ref m_heaps, .int q_rounds, .int q_heapMany, .ref m_led, .ref m_newAt, .ref m_knowing, .ref m_firsts, .int (nI q_people), .ref m_secrets, .ref m_tried, .ref m_lanes, .ref m_lengths, .ref m_cells])), (m_secrets, .inl (E.2.1 1, 4, .inl f_secrets)), (m_tried, .inl (E.2.1 1, 4, .inl g2))] 0 0 := by
                        intro fu
                        induction fu with
                        | zero => intro i5 c5 hi5 hc5 hc1 hc0 hmeas; exact absurd hmeas (Nat.not_lt_zero _)
                        | succ fu ih_200 =>
                          intro i5 c5 hi5 hc5 hc1 hc0 hmeas
                          refine ww_iload C dX12_allKnow_200 0 rfl ?_
                          refine ww_aload_n C dX12_allKnow_202 4 rfl rfl ?_
                          refine ww_get C fg_X12_332 0 rfl rfl dX12_allKnow_203 ?_
                          refine ww_icmp_ge (tgt := 244) C dX12_allKnow_206 (by decide) (fun c_12 => ?_) (fun c_12 => ?_)
                          · have zc_12 : ((i5 : Nat) : Int) ≥ ((q_people : Nat) : Int) := i_le (nI_toInt (n := q_people) (by omega)) (nI_toInt (n := i5) (by omega)) c_12
                            rcases (show c5 = 0 ∨ c5 = 1 by omega) with rfl | rfl
                            · refine ww_iload C dX12_allKnow_244 1 rfl ?_
                              exact ww_zret (u := [(hm, .inr (12, [.ref m_manys, .ref m_reals, .ref m_factsOf, .ref m_possible, .int (nI q_undos), .int (nI q_models), .ref m_tape, .int (nI q_taped), .int q_fault, .int q_wrong, .int q_wrongAt, .int q_spot, .int q_place, .int q_token, .int q_value, .ref m_ends, .ref m_letters, .ref m_actOf, .ref m_whom, .ref m_actMany, .ref m_tokens, .ref m_afters, .ref m_afterOf, .int q_counted, .ref m_pile, .ref m_caseMany, .ref m_happen, .ref m_hasIf, .ref m_becomes, .ref m_goneOf, .ref m_heard, .ref m_pairs, .ref m_heaps, .int q_rounds, .int q_heapMany, .ref m_led, .ref m_newAt, .ref m_knowing, .ref m_firsts, .int (nI q_people), .ref m_secrets, .ref m_tried, .ref m_lanes, .ref m_lengths, .ref m_cells])), (m_secrets, .inl (E.2.1 1, 4, .inl f_secrets)), (m_tried, .inl (E.2.1 1, 4, .inl g2))]) C hT [0, 1, 2] rfl rfl rfl rfl rfl dX12_allKnow_246 (Or.inr ⟨g2, rfl, rfl, (hc0 rfl)⟩)
                            · refine ww_iload C dX12_allKnow_244 1 rfl ?_
                              exact ww_zret (u := [(hm, .inr (12, [.ref m_manys, .ref m_reals, .ref m_factsOf, .ref m_possible, .int (nI q_undos), .int (nI q_models), .ref m_tape, .int (nI q_taped), .int q_fault, .int q_wrong, .int q_wrongAt, .int q_spot, .int q_place, .int q_token, .int q_value, .ref m_ends, .ref m_letters, .ref m_actOf, .ref m_whom, .ref m_actMany, .ref m_tokens, .ref m_afters, .ref m_afterOf, .int q_counted, .ref m_pile, .ref m_caseMany, .ref m_happen, .ref m_hasIf, .ref m_becomes, .ref m_goneOf, .ref m_heard, .ref m_pairs, .ref m_heaps, .int q_rounds, .int q_heapMany, .ref m_led, .ref m_newAt, .ref m_knowing, .ref m_firsts, .int (nI q_people), .ref m_secrets, .ref m_tried, .ref m_lanes, .ref m_lengths, .ref m_cells])), (m_secrets, .inl (E.2.1 1, 4, .inl f_secrets)), (m_tried, .inl (E.2.1 1, 4, .inl g2))]) C hT [0, 1, 2] rfl rfl rfl rfl rfl dX12_allKnow_246 (Or.inl ⟨g2, rfl, rfl, (by first | exact absurd (hc1 rfl).1 (by omega) | exact ak_fin (hx1 (hc1 rfl).1) (by omega) (fun m hm => (hc1 rfl).2 m (by omega)))⟩)
                          · have zc_12 : ((i5 : Nat) : Int) < ((q_people : Nat) : Int) := i_nle (nI_toInt (n := q_people) (by omega)) (nI_toInt (n := i5) (by omega)) c_12
                            refine ww_iload C dX12_allKnow_209 1 rfl ?_
                            refine ww_if_eq (tgt := 235) C dX12_allKnow_211 (by decide) (fun c_13 => ?_) (fun c_13 => ?_)
                            · have zc_13 : ((c5 : Nat) : Int) = 0 := i_eq (nI_toInt (n := c5) (by omega)) rfl c_13
                              refine ww_iconst (v := 0) C dX12_allKnow_235 rfl ?_
                              refine ww_istore (lv' := [(5, .int 0), (6, .int (nI i5)), (4, .int (nI lf)), (3, .int (nI by2)), (0, .ref hm), (1, .int (nI row)), (2, .int (nI n))]) C dX12_allKnow_236 rfl rfl ?_
                              refine ww_iinc (j := 1) (v := (nI (i5 + 1))) (lv' := [(6, .int (nI (i5 + 1))), (5, .int 0), (4, .int (nI lf)), (3, .int (nI by2)), (0, .ref hm), (1, .int (nI row)), (2, .int (nI n))]) C dX12_allKnow_238 rfl (nI_add i5 1) rfl rfl ?_
                              refine ww_goto (tgt := 200) C dX12_allKnow_241 (by decide) ?_
                              exact ww_lv [0, 1, 2, 3, 4, 5, 6] rfl (ww_sub [0, 1, 2] rfl rfl (ih_200 (i5 + 1) 0 (by omega) (by omega) (fun h9 => absurd h9 (by decide)) (fun _ => hc0 (by omega)) (by omega)))
                            · have zc_13 : ((c5 : Nat) : Int) ≠ 0 := i_ne (nI_toInt (n := c5) (by omega)) rfl c_13
                              refine ww_aload_n C dX12_allKnow_214 4 rfl rfl ?_
                              refine ww_get C fg_X12_93 0 rfl rfl dX12_allKnow_215 ?_
                              refine ww_iload C dX12_allKnow_218 0 rfl ?_
                              obtain ⟨x_14, ex_14⟩ : ∃ z : Int32, g2 i5 = z := ⟨_, rfl⟩
                              refine ww_iald (v := x_14) C 2 rfl (vp_in_nI (by omega) (by omega)) (ldn (by omega) ex_14) dX12_allKnow_220 ?_
                              refine ww_aload_n C dX12_allKnow_221 4 rfl rfl ?_
                              refine ww_get C fg_X12_332 0 rfl rfl dX12_allKnow_222 ?_
                              refine ww_ci (wr := [(hm, .inr (12, [.ref m_manys, .ref m_reals, .ref m_factsOf, .ref m_possible, .int (nI q_undos), .int (nI q_models), .ref m_tape, .int (nI q_taped), .int q_fault, .int q_wrong, .int q_wrongAt, .int q_spot, .int q_place, .int q_token, .int q_value, .ref m_ends, .ref m_letters, .ref m_actOf, .ref m_whom, .ref m_actMany, .ref m_tokens, .ref m_afters, .ref m_afterOf, .int q_counted, .ref m_pile, .ref m_caseMany, .ref m_happen, .ref m_hasIf, .ref m_becomes, .ref m_goneOf, .ref m_heard, .ref m_pairs, .ref m_heaps, .int q_rounds, .int q_heapMany, .ref m_led, .ref m_newAt, .ref m_knowing, .ref m_firsts, .int (nI q_people), .ref m_secrets, .ref m_tried, .ref m_lanes, .ref m_lengths, .ref m_cells])), (m_secrets, .inl (E.2.1 1, 4, .inl f_secrets)), (m_tried, .inl (E.2.1 1, 4, .inl g2))]) (k' := 0) (n' := 0) C (run_S (As := [.int (nI q_people)]) (rest := [.int x_14]) C (r_all X.2.1 E ro q_people (by omega)) ms_X12_all wl_X12_230 rfl rfl rfl rfl dX12_allKnow_225) (roK hro) [] [0, 1, 2] rfl rfl rfl rfl (fun r_15 uz hw => ?_)
                              refine an1 hw ?_
                              clear hw
                              intro he_17 hw
                              have h_16 := hw
                              clear hw
                              subst he_17
                              refine ww_eq (ws' := [(hm, .inr (12, [.ref m_manys, .ref m_reals, .ref m_factsOf, .ref m_possible, .int (nI q_undos), .int (nI q_models), .ref m_tape, .int (nI q_taped), .int q_fault, .int q_wrong, .int q_wrongAt, .int q_spot, .int q_place, .int q_token, .int q_value, .ref m_ends, .ref m_letters, .ref m_actOf, .ref m_whom, .ref m_actMany, .ref m_tokens, .ref m_afters, .ref m_afterOf, .int q_counted, .ref m_pile, .ref m_caseMany, .ref m_happen, .ref m_hasIf, .ref m_becomes, .ref m_goneOf, .ref m_heard, .ref m_pairs, .ref m_heaps, .int q_rounds, .int q_heapMany, .ref m_led, .ref m_newAt, .ref m_knowing, .ref m_firsts, .int (nI q_people), .ref m_secrets, .ref m_tried, .ref m_lanes, .ref m_lengths, .ref m_cells])), (m_secrets, .inl (E.2.1 1, 4, .inl f_secrets)), (m_tried, .inl (E.2.1 1, 4, .inl g2))]) ?_ rfl rfl rfl
                              refine ww_icmp_ne (tgt := 235) C dX12_allKnow_228 (by decide) (fun c_18 => ?_) (fun c_18 => ?_)
                              · have zc_18 : x_14.toInt ≠ r_15.toInt := i_ne rfl rfl c_18
                                refine ww_iconst (v := 0) C dX12_allKnow_235 rfl ?_
                                refine ww_istore (lv' := [(5, .int 0), (6, .int (nI i5)), (4, .int (nI lf)), (3, .int (nI by2)), (0, .ref hm), (1, .int (nI row)), (2, .int (nI n))]) C dX12_allKnow_236 rfl rfl ?_
                                refine ww_iinc (j := 1) (v := (nI (i5 + 1))) (lv' := [(6, .int (nI (i5 + 1))), (5, .int 0), (4, .int (nI lf)), (3, .int (nI by2)), (0, .ref hm), (1, .int (nI row)), (2, .int (nI n))]) C dX12_allKnow_238 rfl (nI_add i5 1) rfl rfl ?_
                                refine ww_goto (tgt := 200) C dX12_allKnow_241 (by decide) ?_
                                exact ww_lv [0, 1, 2, 3, 4, 5, 6] rfl (ww_sub [0, 1, 2] rfl rfl (ih_200 (i5 + 1) 0 (by omega) (by omega) (fun h9 => absurd h9 (by decide)) (fun _ => by first | exact absurd (hc1 (by omega)).1 (by omega) | exact ak_bad (hx1 (hc1 (by omega)).1) (by omega) (show i5 < q_people by omega) (by assumption) h_16 hq_people (by assumption)) (by omega)))
                              · have zc_18 : x_14.toInt = r_15.toInt := i_eq rfl rfl c_18
                                refine ww_iconst (v := 1) C dX12_allKnow_231 rfl ?_
                                refine ww_goto (tgt := 236) C dX12_allKnow_232 (by decide) ?_
                                refine ww_istore (lv' := [(5, .int 1), (6, .int (nI i5)), (4, .int (nI lf)), (3, .int (nI by2)), (0, .ref hm), (1, .int (nI row)), (2, .int (nI n))]) C dX12_allKnow_236 rfl rfl ?_
                                refine ww_iinc (j := 1) (v := (nI (i5 + 1))) (lv' := [(6, .int (nI (i5 + 1))), (5, .int 1), (4, .int (nI lf)), (3, .int (nI by2)), (0, .ref hm), (1, .int (nI row)), (2, .int (nI n))]) C dX12_allKnow_238 rfl (nI_add i5 1) rfl rfl ?_
                                refine ww_goto (tgt := 200) C dX12_allKnow_241 (by decide) ?_
                                exact ww_lv [0, 1, 2, 3, 4, 5, 6] rfl (ww_sub [0, 1, 2] rfl rfl (ih_200 (i5 + 1) 1 (by omega) (by omega) (fun _ => ⟨(hc1 (by omega)).1, ak_s2 (hc1 (by omega)).2 (by assumption) h_16 hq_people (by assumption)⟩) (fun h9 => absurd h9 (by decide)) (by omega)))
                      exact ww_lv [0, 1, 2, 3, 4, 5, 6] rfl (ww_sub [0, 1, 2] rfl rfl (loop_200 _ 0 ca (by omega) (by omega) (fun h9 => ⟨h9, fun m h => absurd h (Nat.not_lt_zero _)⟩) (fun h9 => hx0 h9) (Nat.lt_succ_self _)))
                    · have zc_11 : ((ca : Nat) : Int) ≠ 0 := i_ne (nI_toInt (n := ca) (by omega)) rfl c_11
                      have hbe := hby (by omega)
                      have hbp := pow6_pos (n - 1 - k2)
                      refine ww_iload C dX12_allKnow_70 2 rfl ?_
                      refine ww_iload_n C dX12_allKnow_72 3 rfl rfl ?_
                      obtain ⟨z_19, ez_19⟩ : ∃ z : Nat, lf / by2 = z := ⟨_, rfl⟩
                      have hlez_19 : z_19 ≤ lf := by rw [← ez_19]; exact Nat.div_le_self _ _
                      refine ww_idiv (v := (nI z_19)) C dX12_allKnow_73 (nI_n0 (by omega) (by omega)) (by rw [pk_div (a := lf) (d := by2) (by omega) (by omega) (by omega), ez_19]) ?_
                      refine ww_istore (lv' := [(7, .int (nI z_19)), (6, .int (nI k2)), (5, .int (nI ca)), (4, .int (nI lf)), (3, .int (nI by2)), (0, .ref hm), (1, .int (nI row)), (2, .int (nI n))]) C dX12_allKnow_74 rfl rfl ?_
                      refine ww_iload C dX12_allKnow_76 3 rfl ?_
                      refine ww_iload_n C dX12_allKnow_78 4 rfl rfl ?_
                      obtain ⟨z_20, ez_20⟩ : ∃ z : Nat, lf % by2 = z := ⟨_, rfl⟩
                      have hlez_20 : z_20 ≤ lf := by rw [← ez_20]; exact Nat.mod_le _ _
                      refine ww_irem (v := (nI z_20)) C dX12_allKnow_79 (nI_n0 (by omega) (by omega)) (by rw [pk_rem (a := lf) (d := by2) (by omega) (by omega) (by omega), ez_20]) ?_
                      refine ww_istore (lv' := [(4, .int (nI z_20)), (7, .int (nI z_19)), (6, .int (nI k2)), (5, .int (nI ca)), (3, .int (nI by2)), (0, .ref hm), (1, .int (nI row)), (2, .int (nI n))]) C dX12_allKnow_80 rfl rfl ?_
                      refine ww_iload_n C dX12_allKnow_82 4 rfl rfl ?_
                      refine ww_bipush (v := 6) C dX12_allKnow_83 rfl ?_
                      refine ww_idiv (v := (nI (by2 / 6))) C dX12_allKnow_85 (by decide) (pk_div (a := by2) (d := 6) (by omega) (by decide) (by decide)) ?_
                      refine ww_istore_n (lv' := [(3, .int (nI (by2 / 6))), (4, .int (nI z_20)), (7, .int (nI z_19)), (6, .int (nI k2)), (5, .int (nI ca)), (0, .ref hm), (1, .int (nI row)), (2, .int (nI n))]) C dX12_allKnow_86 rfl rfl rfl ?_
                      refine ww_iload C dX12_allKnow_87 2 rfl ?_
                      refine ww_iconst (v := 3) C dX12_allKnow_89 rfl ?_
                      refine ww_icmp_ge (tgt := 97) C dX12_allKnow_90 (by decide) (fun c_21 => ?_) (fun c_21 => ?_)
                      · have zc_21 : ((z_19 : Nat) : Int) ≥ 3 := i_le rfl (nI_toInt (n := z_19) (by omega)) c_21
                        refine ww_iload C dX12_allKnow_97 2 rfl ?_
                        refine ww_iconst (v := 5) C dX12_allKnow_99 rfl ?_
                        refine ww_icmp_ge (tgt := 107) C dX12_allKnow_100 (by decide) (fun c_22 => ?_) (fun c_22 => ?_)
                        · have zc_22 : ((z_19 : Nat) : Int) ≥ 5 := i_le rfl (nI_toInt (n := z_19) (by omega)) c_22
                          refine ww_iconst (v := 2) C dX12_allKnow_107 rfl ?_
                          refine ww_istore (lv' := [(8, .int 2), (3, .int (nI (by2 / 6))), (4, .int (nI z_20)), (7, .int (nI z_19)), (6, .int (nI k2)), (5, .int (nI ca)), (0, .ref hm), (1, .int (nI row)), (2, .int (nI n))]) C dX12_allKnow_108 rfl rfl ?_
                          refine ww_iload C dX12_allKnow_110 3 rfl ?_
                          refine ww_iconst (v := 3) C dX12_allKnow_112 rfl ?_
                          refine ww_icmp_ge (tgt := 123) C dX12_allKnow_113 (by decide) (fun c_23 => ?_) (fun c_23 => ?_)
                          · have zc_23 : ((z_19 : Nat) : Int) ≥ 3 := i_le rfl (nI_toInt (n := z_19) (by omega)) c_23
                            refine ww_iload C dX12_allKnow_123 3 rfl ?_
                            refine ww_iconst (v := 5) C dX12_allKnow_125 rfl ?_
                            refine ww_icmp_ge (tgt := 136) C dX12_allKnow_126 (by decide) (fun c_24 => ?_) (fun c_24 => ?_)
                            · have zc_24 : ((z_19 : Nat) : Int) ≥ 5 := i_le rfl (nI_toInt (n := z_19) (by omega)) c_24
                              refine ww_iconst (v := 3) C dX12_allKnow_136 rfl ?_
                              refine ww_istore (lv' := [(9, .int 3), (8, .int 2), (3, .int (nI (by2 / 6))), (4, .int (nI z_20)), (7, .int (nI z_19)), (6, .int (nI k2)), (5, .int (nI ca)), (0, .ref hm), (1, .int (nI row)), (2, .int (nI n))]) C dX12_allKnow_137 rfl rfl ?_
                              refine ww_iload C dX12_allKnow_139 0 rfl ?_
                              refine ww_aload_n C dX12_allKnow_141 7 rfl rfl ?_
                              refine ww_get C fg_X12_332 0 rfl rfl dX12_allKnow_142 ?_
                              refine ww_icmp_ge (tgt := 152) C dX12_allKnow_145 (by decide) (fun c_25 => ?_) (fun c_25 => ?_)
                              · have zc_25 : 3 ≥ ((q_people : Nat) : Int) := i_le (nI_toInt (n := q_people) (by omega)) rfl c_25
                                refine ww_iconst (v := 0) C dX12_allKnow_152 rfl ?_
                                refine ww_istore (lv' := [(5, .int 0), (9, .int 3), (8, .int 2), (3, .int (nI (by2 / 6))), (4, .int (nI z_20)), (7, .int (nI z_19)), (6, .int (nI k2)), (0, .ref hm), (1, .int (nI row)), (2, .int (nI n))]) C dX12_allKnow_153 rfl rfl ?_
                                refine ww_iload C dX12_allKnow_155 0 rfl ?_
                                refine ww_if_eq_t (tgt := 191) C dX12_allKnow_157 (by decide) (rfl) ?_
                                refine ww_iinc (j := 6) (v := (nI (k2 + 1))) (lv' := [(6, .int (nI (k2 + 1))), (5, .int 0), (9, .int 3), (8, .int 2), (3, .int (nI (by2 / 6))), (4, .int (nI z_20)), (7, .int (nI z_19)), (0, .ref hm), (1, .int (nI row)), (2, .int (nI n))]) C dX12_allKnow_191 rfl (nI_add k2 1) rfl rfl ?_
                                refine ww_goto (tgt := 59) C dX12_allKnow_194 (by decide) ?_
                                exact ww_lv [0, 1, 5, 4, 7, 8, 9] rfl (ww_sub [0, 1, 2] rfl rfl (ih_59 (k2 + 1) (by2 / 6) z_20 0 g2 (by omega) (by omega) (by omega) (by omega) (fun h9 => by rw [← pow6_d (by omega), ← hby (by omega)]) (fun h9 => absurd h9 (by decide)) (fun _ => ak_no (hx1 (by omega)) (by omega) hbe ez_19 (by rw [(cpIJ_3 (z := z_19) (by omega)).2]; omega)) (by omega)))
                              · have zc_25 : 3 < ((q_people : Nat) : Int) := i_nle (nI_toInt (n := q_people) (by omega)) rfl c_25
                                refine ww_iconst (v := 1) C dX12_allKnow_148 rfl ?_
                                refine ww_goto (tgt := 153) C dX12_allKnow_149 (by decide) ?_
                                refine ww_istore (lv' := [(5, .int 1), (9, .int 3), (8, .int 2), (3, .int (nI (by2 / 6))), (4, .int (nI z_20)), (7, .int (nI z_19)), (6, .int (nI k2)), (0, .ref hm), (1, .int (nI row)), (2, .int (nI n))]) C dX12_allKnow_153 rfl rfl ?_
                                refine ww_iload C dX12_allKnow_155 0 rfl ?_
                                refine ww_if_eq_f (tgt := 191) C dX12_allKnow_157 (by decide) (by decide) ?_
                                refine ww_aload_n C dX12_allKnow_160 7 rfl rfl ?_
                                refine ww_get C fg_X12_93 0 rfl rfl dX12_allKnow_161 ?_
                                refine ww_iload C dX12_allKnow_164 2 rfl ?_
                                refine ww_dup2 C dX12_allKnow_166 rfl rfl ?_
                                obtain ⟨x_26, ex_26⟩ : ∃ z : Int32, g2 2 = z := ⟨_, rfl⟩
                                refine ww_iald (v := x_26) C 2 rfl (vin rfl) ex_26 dX12_allKnow_167 ?_
                                refine ww_aload_n C dX12_allKnow_168 7 rfl rfl ?_
                                refine ww_get C fg_X12_93 0 rfl rfl dX12_allKnow_169 ?_
                                refine ww_iload C dX12_allKnow_172 1 rfl ?_
                                obtain ⟨x_27, ex_27⟩ : ∃ z : Int32, g2 3 = z := ⟨_, rfl⟩
                                refine ww_iald (v := x_27) C 2 rfl (vin rfl) ex_27 dX12_allKnow_174 ?_
                                obtain ⟨x_28, ex_28⟩ : ∃ z : Int32, x_26 ||| x_27 = z := ⟨_, rfl⟩
                                refine ww_ior (v := x_28) C dX12_allKnow_175 ex_28 ?_
                                obtain ⟨f_29, ef_29⟩ : ∃ z : Nat → Int32, upd g2 2 x_28 = z := ⟨_, rfl⟩
                                refine ww_iast (ws' := [(hm, .inr (12, [.ref m_manys, .ref m_reals, .ref m_factsOf, .ref m_possible, .int (nI q_undos), .int (nI q_models), .ref m_tape, .int (nI q_taped), .int q_fault, .int q_wrong, .int q_wrongAt, .int q_spot, .int q_place, .int q_token, .int q_value, .ref m_ends, .ref m_letters, .ref m_actOf, .ref m_whom, .ref m_actMany, .ref m_tokens, .ref m_afters, .ref m_afterOf, .int q_counted, .ref m_pile, .ref m_caseMany, .ref m_happen, .ref m_hasIf, .ref m_becomes, .ref m_goneOf, .ref m_heard, .ref m_pairs, .ref m_heaps, .int q_rounds, .int q_heapMany, .ref m_led, .ref m_newAt, .ref m_knowing, .ref m_firsts, .int (nI q_people), .ref m_secrets, .ref m_tried, .ref m_lanes, .ref m_lengths, .ref m_cells])), (m_secrets, .inl (E.2.1 1, 4, .inl f_secrets)), (m_tried, .inl (E.2.1 1, 4, .inl f_29))]) C 2 rfl (vin rfl) ef_29 rfl dX12_allKnow_176 ?_
                                refine ww_aload_n C dX12_allKnow_177 7 rfl rfl ?_
                                refine ww_get C fg_X12_93 0 rfl rfl dX12_allKnow_178 ?_
                                refine ww_iload C dX12_allKnow_181 1 rfl ?_
                                refine ww_aload_n C dX12_allKnow_183 7 rfl rfl ?_
                                refine ww_get C fg_X12_93 0 rfl rfl dX12_allKnow_184 ?_
                                refine ww_iload C dX12_allKnow_187 2 rfl ?_
                                refine ww_iald (v := x_28) C 2 rfl (vin rfl) ((congrFun ef_29 2).symm.trans pk_us) dX12_allKnow_189 ?_
                                obtain ⟨f_30, ef_30⟩ : ∃ z : Nat → Int32, upd f_29 3 x_28 = z := ⟨_, rfl⟩
                                refine ww_iast (ws' := [(hm, .inr (12, [.ref m_manys, .ref m_reals, .ref m_factsOf, .ref m_possible, .int (nI q_undos), .int (nI q_models), .ref m_tape, .int (nI q_taped), .int q_fault, .int q_wrong, .int q_wrongAt, .int q_spot, .int q_place, .int q_token, .int q_value, .ref m_ends, .ref m_letters, .ref m_actOf, .ref m_whom, .ref m_actMany, .ref m_tokens, .ref m_afters, .ref m_afterOf, .int q_counted, .ref m_pile, .ref m_caseMany, .ref m_happen, .ref m_hasIf, .ref m_becomes, .ref m_goneOf, .ref m_heard, .ref m_pairs, .ref m_heaps, .int q_rounds, .int q_heapMany, .ref m_led, .ref m_newAt, .ref m_knowing, .ref m_firsts, .int (nI q_people), .ref m_secrets, .ref m_tried, .ref m_lanes, .ref m_lengths, .ref m_cells])), (m_secrets, .inl (E.2.1 1, 4, .inl f_secrets)), (m_tried, .inl (E.2.1 1, 4, .inl f_30))]) C 2 rfl (vin rfl) ef_30 rfl dX12_allKnow_190 ?_
                                refine ww_iinc (j := 6) (v := (nI (k2 + 1))) (lv' := [(6, .int (nI (k2 + 1))), (5, .int 1), (9, .int 3), (8, .int 2), (3, .int (nI (by2 / 6))), (4, .int (nI z_20)), (7, .int (nI z_19)), (0, .ref hm), (1, .int (nI row)), (2, .int (nI n))]) C dX12_allKnow_191 rfl (nI_add k2 1) rfl rfl ?_
                                refine ww_goto (tgt := 59) C dX12_allKnow_194 (by decide) ?_
                                exact ww_lv [0, 1, 5, 4, 7, 8, 9] rfl (ww_sub [0, 1, 2] rfl rfl (ih_59 (k2 + 1) (by2 / 6) z_20 1 f_30 (by omega) (by omega) (by omega) (by omega) (fun h9 => by rw [← pow6_d (by omega), ← hby (by omega)]) (fun _ => ak_go (hx1 (by omega)) (by omega) hbe ez_19 ez_20 (cpIJ_3 (z := z_19) (by omega)).1 (cpIJ_3 (z := z_19) (by omega)).2 (by omega) (by assumption) (by assumption) (by assumption) (by assumption) (by assumption)) (fun h9 => absurd h9 (by decide)) (by omega)))
                            · have zc_24 : ((z_19 : Nat) : Int) < 5 := i_nle rfl (nI_toInt (n := z_19) (by omega)) c_24
                              omega
                          · have zc_23 : ((z_19 : Nat) : Int) < 3 := i_nle rfl (nI_toInt (n := z_19) (by omega)) c_23
                            omega
                        · have zc_22 : ((z_19 : Nat) : Int) < 5 := i_nle rfl (nI_toInt (n := z_19) (by omega)) c_22
                          refine ww_iconst (v := 1) C dX12_allKnow_103 rfl ?_
                          refine ww_goto (tgt := 108) C dX12_allKnow_104 (by decide) ?_
                          refine ww_istore (lv' := [(8, .int 1), (3, .int (nI (by2 / 6))), (4, .int (nI z_20)), (7, .int (nI z_19)), (6, .int (nI k2)), (5, .int (nI ca)), (0, .ref hm), (1, .int (nI row)), (2, .int (nI n))]) C dX12_allKnow_108 rfl rfl ?_
                          refine ww_iload C dX12_allKnow_110 3 rfl ?_
                          refine ww_iconst (v := 3) C dX12_allKnow_112 rfl ?_
                          refine ww_icmp_ge (tgt := 123) C dX12_allKnow_113 (by decide) (fun c_31 => ?_) (fun c_31 => ?_)
                          · have zc_31 : ((z_19 : Nat) : Int) ≥ 3 := i_le rfl (nI_toInt (n := z_19) (by omega)) c_31
                            refine ww_iload C dX12_allKnow_123 3 rfl ?_
                            refine ww_iconst (v := 5) C dX12_allKnow_125 rfl ?_
                            refine ww_icmp_ge (tgt := 136) C dX12_allKnow_126 (by decide) (fun c_32 => ?_) (fun c_32 => ?_)
                            · have zc_32 : ((z_19 : Nat) : Int) ≥ 5 := i_le rfl (nI_toInt (n := z_19) (by omega)) c_32
                              omega
                            · have zc_32 : ((z_19 : Nat) : Int) < 5 := i_nle rfl (nI_toInt (n := z_19) (by omega)) c_32
                              refine ww_iload C dX12_allKnow_129 3 rfl ?_
                              refine ww_iconst (v := 1) C dX12_allKnow_131 rfl ?_
                              refine ww_isub (v := (nI (z_19 - 1))) C dX12_allKnow_132 (pk_sub (a := z_19) (b := 1) (by omega)) ?_
                              refine ww_goto (tgt := 137) C dX12_allKnow_133 (by decide) ?_
                              refine ww_istore (lv' := [(9, .int (nI (z_19 - 1))), (8, .int 1), (3, .int (nI (by2 / 6))), (4, .int (nI z_20)), (7, .int (nI z_19)), (6, .int (nI k2)), (5, .int (nI ca)), (0, .ref hm), (1, .int (nI row)), (2, .int (nI n))]) C dX12_allKnow_137 rfl rfl ?_
                              refine ww_iload C dX12_allKnow_139 0 rfl ?_
                              refine ww_aload_n C dX12_allKnow_141 7 rfl rfl ?_
                              refine ww_get C fg_X12_332 0 rfl rfl dX12_allKnow_142 ?_
                              refine ww_icmp_ge (tgt := 152) C dX12_allKnow_145 (by decide) (fun c_33 => ?_) (fun c_33 => ?_)
                              · have zc_33 : ((z_19 - 1 : Nat) : Int) ≥ ((q_people : Nat) : Int) := i_le (nI_toInt (n := q_people) (by omega)) (nI_toInt (n := z_19 - 1) (by omega)) c_33
                                refine ww_iconst (v := 0) C dX12_allKnow_152 rfl ?_
                                refine ww_istore (lv' := [(5, .int 0), (9, .int (nI (z_19 - 1))), (8, .int 1), (3, .int (nI (by2 / 6))), (4, .int (nI z_20)), (7, .int (nI z_19)), (6, .int (nI k2)), (0, .ref hm), (1, .int (nI row)), (2, .int (nI n))]) C dX12_allKnow_153 rfl rfl ?_
                                refine ww_iload C dX12_allKnow_155 0 rfl ?_
                                refine ww_if_eq_t (tgt := 191) C dX12_allKnow_157 (by decide) (rfl) ?_
                                refine ww_iinc (j := 6) (v := (nI (k2 + 1))) (lv' := [(6, .int (nI (k2 + 1))), (5, .int 0), (9, .int (nI (z_19 - 1))), (8, .int 1), (3, .int (nI (by2 / 6))), (4, .int (nI z_20)), (7, .int (nI z_19)), (0, .ref hm), (1, .int (nI row)), (2, .int (nI n))]) C dX12_allKnow_191 rfl (nI_add k2 1) rfl rfl ?_
                                refine ww_goto (tgt := 59) C dX12_allKnow_194 (by decide) ?_
                                exact ww_lv [0, 1, 5, 4, 7, 8, 9] rfl (ww_sub [0, 1, 2] rfl rfl (ih_59 (k2 + 1) (by2 / 6) z_20 0 g2 (by omega) (by omega) (by omega) (by omega) (fun h9 => by rw [← pow6_d (by omega), ← hby (by omega)]) (fun h9 => absurd h9 (by decide)) (fun _ => ak_no (hx1 (by omega)) (by omega) hbe ez_19 (by rw [(cpIJ_2 (z := z_19) (by omega)).2]; omega)) (by omega)))
                              · have zc_33 : ((z_19 - 1 : Nat) : Int) < ((q_people : Nat) : Int) := i_nle (nI_toInt (n := q_people) (by omega)) (nI_toInt (n := z_19 - 1) (by omega)) c_33
                                refine ww_iconst (v := 1) C dX12_allKnow_148 rfl ?_
                                refine ww_goto (tgt := 153) C dX12_allKnow_149 (by decide) ?_
                                refine ww_istore (lv' := [(5, .int 1), (9, .int (nI (z_19 - 1))), (8, .int 1), (3, .int (nI (by2 / 6))), (4, .int (nI z_20)), (7, .int (nI z_19)), (6, .int (nI k2)), (0, .ref hm), (1, .int (nI row)), (2, .int (nI n))]) C dX12_allKnow_153 rfl rfl ?_
                                refine ww_iload C dX12_allKnow_155 0 rfl ?_
                                refine ww_if_eq_f (tgt := 191) C dX12_allKnow_157 (by decide) (by decide) ?_
                                refine ww_aload_n C dX12_allKnow_160 7 rfl rfl ?_
                                refine ww_get C fg_X12_93 0 rfl rfl dX12_allKnow_161 ?_
                                refine ww_iload C dX12_allKnow_164 2 rfl ?_
                                refine ww_dup2 C dX12_allKnow_166 rfl rfl ?_
                                obtain ⟨x_34, ex_34⟩ : ∃ z : Int32, g2 1 = z := ⟨_, rfl⟩
                                refine ww_iald (v := x_34) C 2 rfl (vin rfl) ex_34 dX12_allKnow_167 ?_
                                refine ww_aload_n C dX12_allKnow_168 7 rfl rfl ?_
                                refine ww_get C fg_X12_93 0 rfl rfl dX12_allKnow_169 ?_
                                refine ww_iload C dX12_allKnow_172 1 rfl ?_
                                obtain ⟨x_35, ex_35⟩ : ∃ z : Int32, g2 (z_19 - 1) = z := ⟨_, rfl⟩
                                refine ww_iald (v := x_35) C 2 rfl (vp_in_nI (by omega) (by omega)) (ldn (by omega) ex_35) dX12_allKnow_174 ?_
                                obtain ⟨x_36, ex_36⟩ : ∃ z : Int32, x_34 ||| x_35 = z := ⟨_, rfl⟩
                                refine ww_ior (v := x_36) C dX12_allKnow_175 ex_36 ?_
                                obtain ⟨f_37, ef_37⟩ : ∃ z : Nat → Int32, upd g2 1 x_36 = z := ⟨_, rfl⟩
                                refine ww_iast (ws' := [(hm, .inr (12, [.ref m_manys, .ref m_reals, .ref m_factsOf, .ref m_possible, .int (nI q_undos), .int (nI q_models), .ref m_tape, .int (nI q_taped), .int q_fault, .int q_wrong, .int q_wrongAt, .int q_spot, .int q_place, .int q_token, .int q_value, .ref m_ends, .ref m_letters, .ref m_actOf, .ref m_whom, .ref m_actMany, .ref m_tokens, .ref m_afters, .ref m_afterOf, .int q_counted, .ref m_pile, .ref m_caseMany, .ref m_happen, .ref m_hasIf, .ref m_becomes, .ref m_goneOf, .ref m_heard, .ref m_pairs, .ref m_heaps, .int q_rounds, .int q_heapMany, .ref m_led, .ref m_newAt, .ref m_knowing, .ref m_firsts, .int (nI q_people), .ref m_secrets, .ref m_tried, .ref m_lanes, .ref m_lengths, .ref m_cells])), (m_secrets, .inl (E.2.1 1, 4, .inl f_secrets)), (m_tried, .inl (E.2.1 1, 4, .inl f_37))]) C 2 rfl (vin rfl) ef_37 rfl dX12_allKnow_176 ?_
                                refine ww_aload_n C dX12_allKnow_177 7 rfl rfl ?_
                                refine ww_get C fg_X12_93 0 rfl rfl dX12_allKnow_178 ?_
                                refine ww_iload C dX12_allKnow_181 1 rfl ?_
                                refine ww_aload_n C dX12_allKnow_183 7 rfl rfl ?_
                                refine ww_get C fg_X12_93 0 rfl rfl dX12_allKnow_184 ?_
                                refine ww_iload C dX12_allKnow_187 2 rfl ?_
                                refine ww_iald (v := x_36) C 2 rfl (vin rfl) ((congrFun ef_37 1).symm.trans pk_us) dX12_allKnow_189 ?_
                                obtain ⟨f_38, ef_38⟩ : ∃ z : Nat → Int32, upd f_37 (z_19 - 1) x_36 = z := ⟨_, rfl⟩
                                refine ww_iast (ws' := [(hm, .inr (12, [.ref m_manys, .ref m_reals, .ref m_factsOf, .ref m_possible, .int (nI q_undos), .int (nI q_models), .ref m_tape, .int (nI q_taped), .int q_fault, .int q_wrong, .int q_wrongAt, .int q_spot, .int q_place, .int q_token, .int q_value, .ref m_ends, .ref m_letters, .ref m_actOf, .ref m_whom, .ref m_actMany, .ref m_tokens, .ref m_afters, .ref m_afterOf, .int q_counted, .ref m_pile, .ref m_caseMany, .ref m_happen, .ref m_hasIf, .ref m_becomes, .ref m_goneOf, .ref m_heard, .ref m_pairs, .ref m_heaps, .int q_rounds, .int q_heapMany, .ref m_led, .ref m_newAt, .ref m_knowing, .ref m_firsts, .int (nI q_people), .ref m_secrets, .ref m_tried, .ref m_lanes, .ref m_lengths, .ref m_cells])), (m_secrets, .inl (E.2.1 1, 4, .inl f_secrets)), (m_tried, .inl (E.2.1 1, 4, .inl f_38))]) C 2 rfl (vp_in_nI (by omega) (by omega)) (ldn2 (by omega) ef_38) rfl dX12_allKnow_190 ?_
                                refine ww_iinc (j := 6) (v := (nI (k2 + 1))) (lv' := [(6, .int (nI (k2 + 1))), (5, .int 1), (9, .int (nI (z_19 - 1))), (8, .int 1), (3, .int (nI (by2 / 6))), (4, .int (nI z_20)), (7, .int (nI z_19)), (0, .ref hm), (1, .int (nI row)), (2, .int (nI n))]) C dX12_allKnow_191 rfl (nI_add k2 1) rfl rfl ?_
                                refine ww_goto (tgt := 59) C dX12_allKnow_194 (by decide) ?_
                                exact ww_lv [0, 1, 5, 4, 7, 8, 9] rfl (ww_sub [0, 1, 2] rfl rfl (ih_59 (k2 + 1) (by2 / 6) z_20 1 f_38 (by omega) (by omega) (by omega) (by omega) (fun h9 => by rw [← pow6_d (by omega), ← hby (by omega)]) (fun _ => ak_go (hx1 (by omega)) (by omega) hbe ez_19 ez_20 (cpIJ_2 (z := z_19) (by omega)).1 (cpIJ_2 (z := z_19) (by omega)).2 (by omega) (by assumption) (by assumption) (by assumption) (by assumption) (by assumption)) (fun h9 => absurd h9 (by decide)) (by omega)))
                          · have zc_31 : ((z_19 : Nat) : Int) < 3 := i_nle rfl (nI_toInt (n := z_19) (by omega)) c_31
                            omega
                      · have zc_21 : ((z_19 : Nat) : Int) < 3 := i_nle rfl (nI_toInt (n := z_19) (by omega)) c_21
                        refine ww_iconst (v := 0) C dX12_allKnow_93 rfl ?_
                        refine ww_goto (tgt := 108) C dX12_allKnow_94 (by decide) ?_
                        refine ww_istore (lv' := [(8, .int 0), (3, .int (nI (by2 / 6))), (4, .int (nI z_20)), (7, .int (nI z_19)), (6, .int (nI k2)), (5, .int (nI ca)), (0, .ref hm), (1, .int (nI row)), (2, .int (nI n))]) C dX12_allKnow_108 rfl rfl ?_
                        refine ww_iload C dX12_allKnow_110 3 rfl ?_
                        refine ww_iconst (v := 3) C dX12_allKnow_112 rfl ?_
                        refine ww_icmp_ge (tgt := 123) C dX12_allKnow_113 (by decide) (fun c_39 => ?_) (fun c_39 => ?_)
                        · have zc_39 : ((z_19 : Nat) : Int) ≥ 3 := i_le rfl (nI_toInt (n := z_19) (by omega)) c_39
                          omega
                        · have zc_39 : ((z_19 : Nat) : Int) < 3 := i_nle rfl (nI_toInt (n := z_19) (by omega)) c_39
                          refine ww_iload C dX12_allKnow_116 3 rfl ?_
                          refine ww_iconst (v := 1) C dX12_allKnow_118 rfl ?_
                          refine ww_iadd (v := (nI (z_19 + 1))) C dX12_allKnow_119 (nI_add z_19 1) ?_
                          refine ww_goto (tgt := 137) C dX12_allKnow_120 (by decide) ?_
                          refine ww_istore (lv' := [(9, .int (nI (z_19 + 1))), (8, .int 0), (3, .int (nI (by2 / 6))), (4, .int (nI z_20)), (7, .int (nI z_19)), (6, .int (nI k2)), (5, .int (nI ca)), (0, .ref hm), (1, .int (nI row)), (2, .int (nI n))]) C dX12_allKnow_137 rfl rfl ?_
                          refine ww_iload C dX12_allKnow_139 0 rfl ?_
                          refine ww_aload_n C dX12_allKnow_141 7 rfl rfl ?_
                          refine ww_get C fg_X12_332 0 rfl rfl dX12_allKnow_142 ?_
                          refine ww_icmp_ge (tgt := 152) C dX12_allKnow_145 (by decide) (fun c_40 => ?_) (fun c_40 => ?_)
                          · have zc_40 : ((z_19 + 1 : Nat) : Int) ≥ ((q_people : Nat) : Int) := i_le (nI_toInt (n := q_people) (by omega)) (nI_toInt (n := z_19 + 1) (by omega)) c_40
                            refine ww_iconst (v := 0) C dX12_allKnow_152 rfl ?_
                            refine ww_istore (lv' := [(5, .int 0), (9, .int (nI (z_19 + 1))), (8, .int 0), (3, .int (nI (by2 / 6))), (4, .int (nI z_20)), (7, .int (nI z_19)), (6, .int (nI k2)), (0, .ref hm), (1, .int (nI row)), (2, .int (nI n))]) C dX12_allKnow_153 rfl rfl ?_
                            refine ww_iload C dX12_allKnow_155 0 rfl ?_
                            refine ww_if_eq_t (tgt := 191) C dX12_allKnow_157 (by decide) (rfl) ?_
                            refine ww_iinc (j := 6) (v := (nI (k2 + 1))) (lv' := [(6, .int (nI (k2 + 1))), (5, .int 0), (9, .int (nI (z_19 + 1))), (8, .int 0), (3, .int (nI (by2 / 6))), (4, .int (nI z_20)), (7, .int (nI z_19)), (0, .ref hm), (1, .int (nI row)), (2, .int (nI n))]) C dX12_allKnow_191 rfl (nI_add k2 1) rfl rfl ?_
                            refine ww_goto (tgt := 59) C dX12_allKnow_194 (by decide) ?_
                            exact ww_lv [0, 1, 5, 4, 7, 8, 9] rfl (ww_sub [0, 1, 2] rfl rfl (ih_59 (k2 + 1) (by2 / 6) z_20 0 g2 (by omega) (by omega) (by omega) (by omega) (fun h9 => by rw [← pow6_d (by omega), ← hby (by omega)]) (fun h9 => absurd h9 (by decide)) (fun _ => ak_no (hx1 (by omega)) (by omega) hbe ez_19 (by rw [(cpIJ_1 (z := z_19) (by omega)).2]; omega)) (by omega)))
                          · have zc_40 : ((z_19 + 1 : Nat) : Int) < ((q_people : Nat) : Int) := i_nle (nI_toInt (n := q_people) (by omega)) (nI_toInt (n := z_19 + 1) (by omega)) c_40
                            refine ww_iconst (v := 1) C dX12_allKnow_148 rfl ?_
                            refine ww_goto (tgt := 153) C dX12_allKnow_149 (by decide) ?_
                            refine ww_istore (lv' := [(5, .int 1), (9, .int (nI (z_19 + 1))), (8, .int 0), (3, .int (nI (by2 / 6))), (4, .int (nI z_20)), (7, .int (nI z_19)), (6, .int (nI k2)), (0, .ref hm), (1, .int (nI row)), (2, .int (nI n))]) C dX12_allKnow_153 rfl rfl ?_
                            refine ww_iload C dX12_allKnow_155 0 rfl ?_
                            refine ww_if_eq_f (tgt := 191) C dX12_allKnow_157 (by decide) (by decide) ?_
                            refine ww_aload_n C dX12_allKnow_160 7 rfl rfl ?_
                            refine ww_get C fg_X12_93 0 rfl rfl dX12_allKnow_161 ?_
                            refine ww_iload C dX12_allKnow_164 2 rfl ?_
                            refine ww_dup2 C dX12_allKnow_166 rfl rfl ?_
                            obtain ⟨x_41, ex_41⟩ : ∃ z : Int32, g2 0 = z := ⟨_, rfl⟩
                            refine ww_iald (v := x_41) C 2 rfl (vin rfl) ex_41 dX12_allKnow_167 ?_
                            refine ww_aload_n C dX12_allKnow_168 7 rfl rfl ?_
                            refine ww_get C fg_X12_93 0 rfl rfl dX12_allKnow_169 ?_
                            refine ww_iload C dX12_allKnow_172 1 rfl ?_
                            obtain ⟨x_42, ex_42⟩ : ∃ z : Int32, g2 (z_19 + 1) = z := ⟨_, rfl⟩
                            refine ww_iald (v := x_42) C 2 rfl (vp_in_nI (by omega) (by omega)) (ldn (by omega) ex_42) dX12_allKnow_174 ?_
                            obtain ⟨x_43, ex_43⟩ : ∃ z : Int32, x_41 ||| x_42 = z := ⟨_, rfl⟩
                            refine ww_ior (v := x_43) C dX12_allKnow_175 ex_43 ?_
                            obtain ⟨f_44, ef_44⟩ : ∃ z : Nat → Int32, upd g2 0 x_43 = z := ⟨_, rfl⟩
                            refine ww_iast (ws' := [(hm, .inr (12, [.ref m_manys, .ref m_reals, .ref m_factsOf, .ref m_possible, .int (nI q_undos), .int (nI q_models), .ref m_tape, .int (nI q_taped), .int q_fault, .int q_wrong, .int q_wrongAt, .int q_spot, .int q_place, .int q_token, .int q_value, .ref m_ends, .ref m_letters, .ref m_actOf, .ref m_whom, .ref m_actMany, .ref m_tokens, .ref m_afters, .ref m_afterOf, .int q_counted, .ref m_pile, .ref m_caseMany, .ref m_happen, .ref m_hasIf, .ref m_becomes, .ref m_goneOf, .ref m_heard, .ref m_pairs, .ref m_heaps, .int q_rounds, .int q_heapMany, .ref m_led, .ref m_newAt, .ref m_knowing, .ref m_firsts, .int (nI q_people), .ref m_secrets, .ref m_tried, .ref m_lanes, .ref m_lengths, .ref m_cells])), (m_secrets, .inl (E.2.1 1, 4, .inl f_secrets)), (m_tried, .inl (E.2.1 1, 4, .inl f_44))]) C 2 rfl (vin rfl) ef_44 rfl dX12_allKnow_176 ?_
                            refine ww_aload_n C dX12_allKnow_177 7 rfl rfl ?_
                            refine ww_get C fg_X12_93 0 rfl rfl dX12_allKnow_178 ?_
                            refine ww_iload C dX12_allKnow_181 1 rfl ?_
                            refine ww_aload_n C dX12_allKnow_183 7 rfl rfl ?_
                            refine ww_get C fg_X12_93 0 rfl rfl dX12_allKnow_184 ?_
                            refine ww_iload C dX12_allKnow_187 2 rfl ?_
                            refine ww_iald (v := x_43) C 2 rfl (vin rfl) ((congrFun ef_44 0).symm.trans pk_us) dX12_allKnow_189 ?_
                            obtain ⟨f_45, ef_45⟩ : ∃ z : Nat → Int32, upd f_44 (z_19 + 1) x_43 = z := ⟨_, rfl⟩
                            refine ww_iast (ws' := [(hm, .inr (12, [.ref m_manys, .ref m_reals, .ref m_factsOf, .ref m_possible, .int (nI q_undos), .int (nI q_models), .ref m_tape, .int (nI q_taped), .int q_fault, .int q_wrong, .int q_wrongAt, .int q_spot, .int q_place, .int q_token, .int q_value, .ref m_ends, .ref m_letters, .ref m_actOf, .ref m_whom, .ref m_actMany, .ref m_tokens, .ref m_afters, .ref m_afterOf, .int q_counted, .ref m_pile, .ref m_caseMany, .ref m_happen, .ref m_hasIf, .ref m_becomes, .ref m_goneOf, .ref m_heard, .ref m_pairs, .ref m_heaps, .int q_rounds, .int q_heapMany, .ref m_led, .ref m_newAt, .ref m_knowing, .ref m_firsts, .int (nI q_people), .ref m_secrets, .ref m_tried, .ref m_lanes, .ref m_lengths, .ref m_cells])), (m_secrets, .inl (E.2.1 1, 4, .inl f_secrets)), (m_tried, .inl (E.2.1 1, 4, .inl f_45))]) C 2 rfl (vp_in_nI (by omega) (by omega)) (ldn2 (by omega) ef_45) rfl dX12_allKnow_190 ?_
                            refine ww_iinc (j := 6) (v := (nI (k2 + 1))) (lv' := [(6, .int (nI (k2 + 1))), (5, .int 1), (9, .int (nI (z_19 + 1))), (8, .int 0), (3, .int (nI (by2 / 6))), (4, .int (nI z_20)), (7, .int (nI z_19)), (0, .ref hm), (1, .int (nI row)), (2, .int (nI n))]) C dX12_allKnow_191 rfl (nI_add k2 1) rfl rfl ?_
                            refine ww_goto (tgt := 59) C dX12_allKnow_194 (by decide) ?_
                            exact ww_lv [0, 1, 5, 4, 7, 8, 9] rfl (ww_sub [0, 1, 2] rfl rfl (ih_59 (k2 + 1) (by2 / 6) z_20 1 f_45 (by omega) (by omega) (by omega) (by omega) (fun h9 => by rw [← pow6_d (by omega), ← hby (by omega)]) (fun _ => ak_go (hx1 (by omega)) (by omega) hbe ez_19 ez_20 (cpIJ_1 (z := z_19) (by omega)).1 (cpIJ_1 (z := z_19) (by omega)).2 (by omega) (by assumption) (by assumption) (by assumption) (by assumption) (by assumption)) (fun h9 => absurd h9 (by decide)) (by omega)))
              exact ww_lv [0, 1, 2, 3, 4, 5, 6] rfl (ww_sub [0, 1, 2] rfl rfl (loop_59 _ 0 by1 row 1 g1 (by omega) (by omega) (by omega) (by have h9 := pow6_le (m := k1 - 1) (by omega); omega) (fun h9 => by rw [hby1, show k1 - 1 = n - 1 - 0 by omega]) (fun _ => ⟨cpX_cg n row (fun m hm => hak m (by omega)), cpX_cg n row (fun m hm => (hak m (by omega)).symm)⟩) (fun h9 => absurd h9 (by decide)) (Nat.lt_succ_self _)))
            · have zc_2 : ((k1 : Nat) : Int) < ((n : Nat) : Int) := i_nle (nI_toInt (n := n) (by omega)) (nI_toInt (n := k1) (by omega)) c_2
              have hp6 := pow6_le (m := k1 - 1) (by omega)
              refine ww_iload_n C dX12_allKnow_39 1 rfl rfl ?_
              refine ww_bipush (v := 6) C dX12_allKnow_40 rfl ?_
              refine ww_imul (v := (nI (by1 * 6))) C dX12_allKnow_42 (pk_mul by1 6) ?_
              refine ww_istore_n (lv' := [(3, .int (nI (by1 * 6))), (4, .int (nI k1)), (0, .ref hm), (1, .int (nI row)), (2, .int (nI n))]) C dX12_allKnow_43 rfl rfl rfl ?_
              refine ww_iinc (j := 1) (v := (nI (k1 + 1))) (lv' := [(4, .int (nI (k1 + 1))), (3, .int (nI (by1 * 6))), (0, .ref hm), (1, .int (nI row)), (2, .int (nI n))]) C dX12_allKnow_44 rfl (nI_add k1 1) rfl rfl ?_
              refine ww_goto (tgt := 33) C dX12_allKnow_47 (by decide) ?_
              exact ww_lv [0, 1, 2, 3, 4] rfl (ww_sub [0, 1, 2] rfl rfl (ih_33 (k1 + 1) (by1 * 6) (by omega) (by omega) (by rw [show k1 + 1 - 1 = (k1 - 1) + 1 by omega, pow6_s]; omega) (by omega)))
        exact ww_lv [0, 1, 2, 3, 4] rfl (ww_sub [0, 1, 2] rfl rfl (loop_33 _ 1 1 (by omega) (by omega) rfl (Nat.lt_succ_self _)))
      · have zc_1 : ((i1 : Nat) : Int) < ((q_people : Nat) : Int) := i_nle (nI_toInt (n := q_people) (by omega)) (nI_toInt (n := i1) (by omega)) c_1
        refine ww_aload_n C dX12_allKnow_10 1 rfl rfl ?_
        refine ww_get C fg_X12_93 0 rfl rfl dX12_allKnow_11 ?_
        refine ww_iload_n C dX12_allKnow_14 0 rfl rfl ?_
        refine ww_aload_n C dX12_allKnow_15 1 rfl rfl ?_
        refine ww_get C fg_X12_90 0 rfl rfl dX12_allKnow_16 ?_
        refine ww_iload_n C dX12_allKnow_19 0 rfl rfl ?_
        obtain ⟨x_46, ex_46⟩ : ∃ z : Int32, f_secrets i1 = z := ⟨_, rfl⟩
        refine ww_iald (v := x_46) C 1 rfl (vp_in_nI (by omega) (by omega)) (ldn (by omega) ex_46) dX12_allKnow_20 ?_
        obtain ⟨f_47, ef_47⟩ : ∃ z : Nat → Int32, upd g1 i1 x_46 = z := ⟨_, rfl⟩
        refine ww_iast (ws' := [(hm, .inr (12, [.ref m_manys, .ref m_reals, .ref m_factsOf, .ref m_possible, .int (nI q_undos), .int (nI q_models), .ref m_tape, .int (nI q_taped), .int q_fault, .int q_wrong, .int q_wrongAt, .int q_spot, .int q_place, .int q_token, .int q_value, .ref m_ends, .ref m_letters, .ref m_actOf, .ref m_whom, .ref m_actMany, .ref m_tokens, .ref m_afters, .ref m_afterOf, .int q_counted, .ref m_pile, .ref m_caseMany, .ref m_happen, .ref m_hasIf, .ref m_becomes, .ref m_goneOf, .ref m_heard, .ref m_pairs, .ref m_heaps, .int q_rounds, .int q_heapMany, .ref m_led, .ref m_newAt, .ref m_knowing, .ref m_firsts, .int (nI q_people), .ref m_secrets, .ref m_tried, .ref m_lanes, .ref m_lengths, .ref m_cells])), (m_secrets, .inl (E.2.1 1, 4, .inl f_secrets)), (m_tried, .inl (E.2.1 1, 4, .inl f_47))]) C 2 rfl (vp_in_nI (by omega) (by omega)) (ldn2 (by omega) ef_47) rfl dX12_allKnow_21 ?_
        refine ww_iinc (j := 0) (v := (nI (i1 + 1))) (lv' := [(3, .int (nI (i1 + 1))), (0, .ref hm), (1, .int (nI row)), (2, .int (nI n))]) C dX12_allKnow_22 rfl (nI_add i1 1) rfl rfl ?_
        refine ww_goto (tgt := 2) C dX12_allKnow_25 (by decide) ?_
        exact ww_lv [0, 1, 2, 3] rfl (ww_sub [0, 1, 2] rfl rfl (ih_2 (i1 + 1) f_47 (by omega) (ak_cp hak (by assumption) (by assumption)) (by omega)))
  exact ww_lv [0, 1, 2, 3] rfl (ww_sub [0, 1, 2] rfl rfl (loop_2 _ 0 f_tried (by omega) (fun m h => absurd h (Nat.not_lt_zero _)) (Nat.lt_succ_self _)))
