section
/-! the reference keeps some worlds alone -/
theorem bx_1 {so row l x y z : Int32} {N i t : Nat} (h : BXx (bt so) (bt row) N i x) (e1 : row &&& so = l) (hb : bt l i = true) (hi : i < N) (h24 : cb (bt so) i ≤ 30) (ht : t = cb (bt so) i) (ey : (1 : Int32) <<< (nI t &&& 31) = y) (ez : x ||| y = z) : BXx (bt so) (bt row) N (i + 1) z := by
  rw [← e1, b_and, Bool.and_eq_true] at hb
  exact BXx.t h hi h24 hb.2 hb.1 ht ey ez
theorem bx_0 {so row l x z : Int32} {N i : Nat} (h : BXx (bt so) (bt row) N i x) (e1 : row &&& so = l) (hb : bt l i = false) (hi : i < N) (e : x ||| (0 : Int32) = z) : BXx (bt so) (bt row) N (i + 1) z := by
  rw [← e1, b_and] at hb
  cases hs : bt so i with
  | false => exact BXx.f h hs e
  | true =>
    rw [hs, Bool.and_true] at hb
    exact BXx.n h hi hs hb e
theorem dX12_keepOnly_0 : decode cX12_keepOnly 0 = .ok (.iconst 0, 1) := dl_3 (by decide +kernel)
theorem dX12_keepOnly_1 : decode cX12_keepOnly 1 = .ok (.istore_n 3, 1) := dl_62 (by decide +kernel)
theorem dX12_keepOnly_2 : decode cX12_keepOnly 2 = .ok (.iconst 0, 1) := dl_3 (by decide +kernel)
theorem dX12_keepOnly_3 : decode cX12_keepOnly 3 = .ok (.istore 4, 2) := dl_54 (by decide +kernel)
theorem dX12_keepOnly_5 : decode cX12_keepOnly 5 = .ok (.iload 4, 2) := dl_21 (by decide +kernel)
theorem dX12_keepOnly_7 : decode cX12_keepOnly 7 = .ok (.aload_n 0, 1) := dl_42 (by decide +kernel)
theorem dX12_keepOnly_8 : decode cX12_keepOnly 8 = .ok (.getfield 7, 3) := dl_180 (by decide +kernel)
theorem dX12_keepOnly_11 : decode cX12_keepOnly 11 = .ok (.iload_n 1, 1) := dl_27 (by decide +kernel)
theorem dX12_keepOnly_12 : decode cX12_keepOnly 12 = .ok (.iaload, 1) := dl_46 (by decide +kernel)
theorem dX12_keepOnly_13 : decode cX12_keepOnly 13 = .ok (.if_icmp .ge 26, 3) := dl_162 (by decide +kernel)
theorem dX12_keepOnly_39 : decode cX12_keepOnly 39 = .ok (.iconst 0, 1) := dl_3 (by decide +kernel)
theorem dX12_keepOnly_40 : decode cX12_keepOnly 40 = .ok (.istore 4, 2) := dl_54 (by decide +kernel)
theorem dX12_keepOnly_42 : decode cX12_keepOnly 42 = .ok (.iload 4, 2) := dl_21 (by decide +kernel)
theorem dX12_keepOnly_44 : decode cX12_keepOnly 44 = .ok (.aload_n 0, 1) := dl_42 (by decide +kernel)
theorem dX12_keepOnly_45 : decode cX12_keepOnly 45 = .ok (.getfield 7, 3) := dl_180 (by decide +kernel)
theorem dX12_keepOnly_48 : decode cX12_keepOnly 48 = .ok (.iload_n 1, 1) := dl_27 (by decide +kernel)
theorem dX12_keepOnly_49 : decode cX12_keepOnly 49 = .ok (.iaload, 1) := dl_46 (by decide +kernel)
theorem dX12_keepOnly_50 : decode cX12_keepOnly 50 = .ok (.if_icmp .ge 153, 3) := dl_162 (by decide +kernel)
theorem dX12_keepOnly_203 : decode cX12_keepOnly 203 = .ok (.aload_n 0, 1) := dl_42 (by decide +kernel)
theorem dX12_keepOnly_204 : decode cX12_keepOnly 204 = .ok (.getfield 13, 3) := dl_180 (by decide +kernel)
theorem dX12_keepOnly_207 : decode cX12_keepOnly 207 = .ok (.iload_n 1, 1) := dl_27 (by decide +kernel)
theorem dX12_keepOnly_208 : decode cX12_keepOnly 208 = .ok (.aload_n 0, 1) := dl_42 (by decide +kernel)
theorem dX12_keepOnly_209 : decode cX12_keepOnly 209 = .ok (.getfield 81, 3) := dl_180 (by decide +kernel)
theorem dX12_keepOnly_212 : decode cX12_keepOnly 212 = .ok (.aload_n 0, 1) := dl_42 (by decide +kernel)
theorem dX12_keepOnly_213 : decode cX12_keepOnly 213 = .ok (.getfield 13, 3) := dl_180 (by decide +kernel)
theorem dX12_keepOnly_216 : decode cX12_keepOnly 216 = .ok (.iload_n 1, 1) := dl_27 (by decide +kernel)
theorem dX12_keepOnly_217 : decode cX12_keepOnly 217 = .ok (.iaload, 1) := dl_46 (by decide +kernel)
theorem dX12_keepOnly_218 : decode cX12_keepOnly 218 = .ok (.iaload, 1) := dl_46 (by decide +kernel)
theorem dX12_keepOnly_219 : decode cX12_keepOnly 219 = .ok (.iastore, 1) := dl_79 (by decide +kernel)
theorem dX12_keepOnly_220 : decode cX12_keepOnly 220 = .ok (.aload_n 0, 1) := dl_42 (by decide +kernel)
theorem dX12_keepOnly_221 : decode cX12_keepOnly 221 = .ok (.getfield 7, 3) := dl_180 (by decide +kernel)
theorem dX12_keepOnly_224 : decode cX12_keepOnly 224 = .ok (.iload_n 1, 1) := dl_27 (by decide +kernel)
theorem dX12_keepOnly_225 : decode cX12_keepOnly 225 = .ok (.iload_n 3, 1) := dl_29 (by decide +kernel)
theorem dX12_keepOnly_226 : decode cX12_keepOnly 226 = .ok (.iastore, 1) := dl_79 (by decide +kernel)
theorem dX12_keepOnly_227 : decode cX12_keepOnly 227 = .ok (.return_, 1) := dl_177 (by decide +kernel)
theorem dX12_keepOnly_53 : decode cX12_keepOnly 53 = .ok (.iload_n 2, 1) := dl_28 (by decide +kernel)
theorem dX12_keepOnly_54 : decode cX12_keepOnly 54 = .ok (.iload 4, 2) := dl_21 (by decide +kernel)
theorem dX12_keepOnly_56 : decode cX12_keepOnly 56 = .ok (.ishr, 1) := dl_122 (by decide +kernel)
theorem dX12_keepOnly_57 : decode cX12_keepOnly 57 = .ok (.iconst 1, 1) := dl_4 (by decide +kernel)
theorem dX12_keepOnly_58 : decode cX12_keepOnly 58 = .ok (.iand, 1) := dl_126 (by decide +kernel)
theorem dX12_keepOnly_59 : decode cX12_keepOnly 59 = .ok (.iconst 1, 1) := dl_4 (by decide +kernel)
theorem dX12_keepOnly_60 : decode cX12_keepOnly 60 = .ok (.if_icmp .ne 137, 3) := dl_160 (by decide +kernel)
theorem dX12_keepOnly_197 : decode cX12_keepOnly 197 = .ok (.iinc 4 1, 3) := dl_132 (by decide +kernel)
theorem dX12_keepOnly_200 : decode cX12_keepOnly 200 = .ok (.goto (-158), 3) := dl_167 (by decide +kernel)
theorem dX12_keepOnly_63 : decode cX12_keepOnly 63 = .ok (.aload_n 0, 1) := dl_42 (by decide +kernel)
theorem dX12_keepOnly_64 : decode cX12_keepOnly 64 = .ok (.getfield 16, 3) := dl_180 (by decide +kernel)
theorem dX12_keepOnly_67 : decode cX12_keepOnly 67 = .ok (.bipush 24, 2) := dl_16 (by decide +kernel)
theorem dX12_keepOnly_69 : decode cX12_keepOnly 69 = .ok (.iload_n 1, 1) := dl_27 (by decide +kernel)
theorem dX12_keepOnly_70 : decode cX12_keepOnly 70 = .ok (.imul, 1) := dl_104 (by decide +kernel)
theorem dX12_keepOnly_71 : decode cX12_keepOnly 71 = .ok (.aload_n 0, 1) := dl_42 (by decide +kernel)
theorem dX12_keepOnly_72 : decode cX12_keepOnly 72 = .ok (.getfield 81, 3) := dl_180 (by decide +kernel)
theorem dX12_keepOnly_75 : decode cX12_keepOnly 75 = .ok (.iload 4, 2) := dl_21 (by decide +kernel)
theorem dX12_keepOnly_77 : decode cX12_keepOnly 77 = .ok (.iaload, 1) := dl_46 (by decide +kernel)
theorem dX12_keepOnly_78 : decode cX12_keepOnly 78 = .ok (.iadd, 1) := dl_96 (by decide +kernel)
theorem dX12_keepOnly_79 : decode cX12_keepOnly 79 = .ok (.aload_n 0, 1) := dl_42 (by decide +kernel)
theorem dX12_keepOnly_80 : decode cX12_keepOnly 80 = .ok (.getfield 16, 3) := dl_180 (by decide +kernel)
theorem dX12_keepOnly_83 : decode cX12_keepOnly 83 = .ok (.bipush 24, 2) := dl_16 (by decide +kernel)
theorem dX12_keepOnly_85 : decode cX12_keepOnly 85 = .ok (.iload_n 1, 1) := dl_27 (by decide +kernel)
theorem dX12_keepOnly_86 : decode cX12_keepOnly 86 = .ok (.imul, 1) := dl_104 (by decide +kernel)
theorem dX12_keepOnly_87 : decode cX12_keepOnly 87 = .ok (.iload 4, 2) := dl_21 (by decide +kernel)
theorem dX12_keepOnly_89 : decode cX12_keepOnly 89 = .ok (.iadd, 1) := dl_96 (by decide +kernel)
theorem dX12_keepOnly_90 : decode cX12_keepOnly 90 = .ok (.iaload, 1) := dl_46 (by decide +kernel)
theorem dX12_keepOnly_91 : decode cX12_keepOnly 91 = .ok (.iastore, 1) := dl_79 (by decide +kernel)
theorem dX12_keepOnly_92 : decode cX12_keepOnly 92 = .ok (.iconst 0, 1) := dl_3 (by decide +kernel)
theorem dX12_keepOnly_93 : decode cX12_keepOnly 93 = .ok (.istore 5, 2) := dl_54 (by decide +kernel)
theorem dX12_keepOnly_95 : decode cX12_keepOnly 95 = .ok (.iload 5, 2) := dl_21 (by decide +kernel)
theorem dX12_keepOnly_97 : decode cX12_keepOnly 97 = .ok (.iconst 4, 1) := dl_7 (by decide +kernel)
theorem dX12_keepOnly_98 : decode cX12_keepOnly 98 = .ok (.if_icmp .ge 99, 3) := dl_162 (by decide +kernel)
theorem dX12_keepOnly_101 : decode cX12_keepOnly 101 = .ok (.aload_n 0, 1) := dl_42 (by decide +kernel)
theorem dX12_keepOnly_102 : decode cX12_keepOnly 102 = .ok (.iload_n 1, 1) := dl_27 (by decide +kernel)
theorem dX12_keepOnly_103 : decode cX12_keepOnly 103 = .ok (.iload 5, 2) := dl_21 (by decide +kernel)
theorem dX12_keepOnly_105 : decode cX12_keepOnly 105 = .ok (.iload 4, 2) := dl_21 (by decide +kernel)
theorem dX12_keepOnly_107 : decode cX12_keepOnly 107 = .ok (.invokevirtual 135, 3) := dl_182 (by decide +kernel)
theorem dX12_keepOnly_110 : decode cX12_keepOnly 110 = .ok (.iload_n 2, 1) := dl_28 (by decide +kernel)
theorem dX12_keepOnly_111 : decode cX12_keepOnly 111 = .ok (.iand, 1) := dl_126 (by decide +kernel)
theorem dX12_keepOnly_112 : decode cX12_keepOnly 112 = .ok (.istore 6, 2) := dl_54 (by decide +kernel)
theorem dX12_keepOnly_114 : decode cX12_keepOnly 114 = .ok (.iconst 0, 1) := dl_3 (by decide +kernel)
theorem dX12_keepOnly_115 : decode cX12_keepOnly 115 = .ok (.istore 7, 2) := dl_54 (by decide +kernel)
theorem dX12_keepOnly_117 : decode cX12_keepOnly 117 = .ok (.iconst 0, 1) := dl_3 (by decide +kernel)
theorem dX12_keepOnly_118 : decode cX12_keepOnly 118 = .ok (.istore 8, 2) := dl_54 (by decide +kernel)
theorem dX12_keepOnly_120 : decode cX12_keepOnly 120 = .ok (.iload 8, 2) := dl_21 (by decide +kernel)
theorem dX12_keepOnly_122 : decode cX12_keepOnly 122 = .ok (.aload_n 0, 1) := dl_42 (by decide +kernel)
theorem dX12_keepOnly_123 : decode cX12_keepOnly 123 = .ok (.getfield 7, 3) := dl_180 (by decide +kernel)
theorem dX12_keepOnly_126 : decode cX12_keepOnly 126 = .ok (.iload_n 1, 1) := dl_27 (by decide +kernel)
theorem dX12_keepOnly_127 : decode cX12_keepOnly 127 = .ok (.iaload, 1) := dl_46 (by decide +kernel)
theorem dX12_keepOnly_128 : decode cX12_keepOnly 128 = .ok (.if_icmp .ge 38, 3) := dl_162 (by decide +kernel)
theorem dX12_keepOnly_166 : decode cX12_keepOnly 166 = .ok (.aload_n 0, 1) := dl_42 (by decide +kernel)
theorem dX12_keepOnly_167 : decode cX12_keepOnly 167 = .ok (.getfield 19, 3) := dl_180 (by decide +kernel)
theorem dX12_keepOnly_170 : decode cX12_keepOnly 170 = .ok (.bipush 96, 2) := dl_16 (by decide +kernel)
theorem dX12_keepOnly_172 : decode cX12_keepOnly 172 = .ok (.iload_n 1, 1) := dl_27 (by decide +kernel)
theorem dX12_keepOnly_173 : decode cX12_keepOnly 173 = .ok (.imul, 1) := dl_104 (by decide +kernel)
theorem dX12_keepOnly_174 : decode cX12_keepOnly 174 = .ok (.bipush 24, 2) := dl_16 (by decide +kernel)
theorem dX12_keepOnly_176 : decode cX12_keepOnly 176 = .ok (.iload 5, 2) := dl_21 (by decide +kernel)
theorem dX12_keepOnly_178 : decode cX12_keepOnly 178 = .ok (.imul, 1) := dl_104 (by decide +kernel)
theorem dX12_keepOnly_179 : decode cX12_keepOnly 179 = .ok (.iadd, 1) := dl_96 (by decide +kernel)
theorem dX12_keepOnly_180 : decode cX12_keepOnly 180 = .ok (.aload_n 0, 1) := dl_42 (by decide +kernel)
theorem dX12_keepOnly_181 : decode cX12_keepOnly 181 = .ok (.getfield 81, 3) := dl_180 (by decide +kernel)
theorem dX12_keepOnly_184 : decode cX12_keepOnly 184 = .ok (.iload 4, 2) := dl_21 (by decide +kernel)
theorem dX12_keepOnly_186 : decode cX12_keepOnly 186 = .ok (.iaload, 1) := dl_46 (by decide +kernel)
theorem dX12_keepOnly_187 : decode cX12_keepOnly 187 = .ok (.iadd, 1) := dl_96 (by decide +kernel)
theorem dX12_keepOnly_188 : decode cX12_keepOnly 188 = .ok (.iload 7, 2) := dl_21 (by decide +kernel)
theorem dX12_keepOnly_190 : decode cX12_keepOnly 190 = .ok (.iastore, 1) := dl_79 (by decide +kernel)
theorem dX12_keepOnly_191 : decode cX12_keepOnly 191 = .ok (.iinc 5 1, 3) := dl_132 (by decide +kernel)
theorem dX12_keepOnly_194 : decode cX12_keepOnly 194 = .ok (.goto (-99), 3) := dl_167 (by decide +kernel)
theorem dX12_keepOnly_131 : decode cX12_keepOnly 131 = .ok (.iload 7, 2) := dl_21 (by decide +kernel)
theorem dX12_keepOnly_133 : decode cX12_keepOnly 133 = .ok (.iload 6, 2) := dl_21 (by decide +kernel)
theorem dX12_keepOnly_135 : decode cX12_keepOnly 135 = .ok (.iload 8, 2) := dl_21 (by decide +kernel)
theorem dX12_keepOnly_137 : decode cX12_keepOnly 137 = .ok (.ishr, 1) := dl_122 (by decide +kernel)
theorem dX12_keepOnly_138 : decode cX12_keepOnly 138 = .ok (.iconst 1, 1) := dl_4 (by decide +kernel)
theorem dX12_keepOnly_139 : decode cX12_keepOnly 139 = .ok (.iand, 1) := dl_126 (by decide +kernel)
theorem dX12_keepOnly_140 : decode cX12_keepOnly 140 = .ok (.iconst 1, 1) := dl_4 (by decide +kernel)
theorem dX12_keepOnly_141 : decode cX12_keepOnly 141 = .ok (.if_icmp .ne 15, 3) := dl_160 (by decide +kernel)
theorem dX12_keepOnly_156 : decode cX12_keepOnly 156 = .ok (.iconst 0, 1) := dl_3 (by decide +kernel)
theorem dX12_keepOnly_157 : decode cX12_keepOnly 157 = .ok (.ior, 1) := dl_128 (by decide +kernel)
theorem dX12_keepOnly_158 : decode cX12_keepOnly 158 = .ok (.istore 7, 2) := dl_54 (by decide +kernel)
theorem dX12_keepOnly_160 : decode cX12_keepOnly 160 = .ok (.iinc 8 1, 3) := dl_132 (by decide +kernel)
theorem dX12_keepOnly_163 : decode cX12_keepOnly 163 = .ok (.goto (-43), 3) := dl_167 (by decide +kernel)
theorem dX12_keepOnly_144 : decode cX12_keepOnly 144 = .ok (.iconst 1, 1) := dl_4 (by decide +kernel)
theorem dX12_keepOnly_145 : decode cX12_keepOnly 145 = .ok (.aload_n 0, 1) := dl_42 (by decide +kernel)
theorem dX12_keepOnly_146 : decode cX12_keepOnly 146 = .ok (.getfield 81, 3) := dl_180 (by decide +kernel)
theorem dX12_keepOnly_149 : decode cX12_keepOnly 149 = .ok (.iload 8, 2) := dl_21 (by decide +kernel)
theorem dX12_keepOnly_151 : decode cX12_keepOnly 151 = .ok (.iaload, 1) := dl_46 (by decide +kernel)
theorem dX12_keepOnly_152 : decode cX12_keepOnly 152 = .ok (.ishl, 1) := dl_120 (by decide +kernel)
theorem dX12_keepOnly_153 : decode cX12_keepOnly 153 = .ok (.goto 4, 3) := dl_167 (by decide +kernel)
theorem dX12_keepOnly_16 : decode cX12_keepOnly 16 = .ok (.aload_n 0, 1) := dl_42 (by decide +kernel)
theorem dX12_keepOnly_17 : decode cX12_keepOnly 17 = .ok (.getfield 81, 3) := dl_180 (by decide +kernel)
theorem dX12_keepOnly_20 : decode cX12_keepOnly 20 = .ok (.iload 4, 2) := dl_21 (by decide +kernel)
theorem dX12_keepOnly_22 : decode cX12_keepOnly 22 = .ok (.iload_n 3, 1) := dl_29 (by decide +kernel)
theorem dX12_keepOnly_23 : decode cX12_keepOnly 23 = .ok (.iastore, 1) := dl_79 (by decide +kernel)
theorem dX12_keepOnly_24 : decode cX12_keepOnly 24 = .ok (.iload_n 3, 1) := dl_29 (by decide +kernel)
theorem dX12_keepOnly_25 : decode cX12_keepOnly 25 = .ok (.iload_n 2, 1) := dl_28 (by decide +kernel)
theorem dX12_keepOnly_26 : decode cX12_keepOnly 26 = .ok (.iload 4, 2) := dl_21 (by decide +kernel)
theorem dX12_keepOnly_28 : decode cX12_keepOnly 28 = .ok (.ishr, 1) := dl_122 (by decide +kernel)
theorem dX12_keepOnly_29 : decode cX12_keepOnly 29 = .ok (.iconst 1, 1) := dl_4 (by decide +kernel)
theorem dX12_keepOnly_30 : decode cX12_keepOnly 30 = .ok (.iand, 1) := dl_126 (by decide +kernel)
theorem dX12_keepOnly_31 : decode cX12_keepOnly 31 = .ok (.iadd, 1) := dl_96 (by decide +kernel)
theorem dX12_keepOnly_32 : decode cX12_keepOnly 32 = .ok (.istore_n 3, 1) := dl_62 (by decide +kernel)
theorem dX12_keepOnly_33 : decode cX12_keepOnly 33 = .ok (.iinc 4 1, 3) := dl_132 (by decide +kernel)
theorem dX12_keepOnly_36 : decode cX12_keepOnly 36 = .ok (.goto (-31), 3) := dl_167 (by decide +kernel)
set_option maxRecDepth 100000 in
set_option maxHeartbeats 4000000 in
theorem r_keepOnly (l : Launch) (E : EV) (ro : va_W) (hm : Nat) (pa : Nat) (so : Int32) (m_manys : Nat) (m_reals : Nat) (m_factsOf : Nat) (m_possible : Nat) (q_undos : Nat) (q_models : Nat) (m_tape : Nat) (q_taped : Nat) (q_fault : Int32) (q_wrong : Int32) (q_wrongAt : Int32) (q_spot : Int32) (q_place : Int32) (q_token : Int32) (q_value : Int32) (m_ends : Nat) (m_letters : Nat) (m_actOf : Nat) (m_whom : Nat) (m_actMany : Nat) (m_tokens : Nat) (m_afters : Nat) (m_afterOf : Nat) (q_counted : Int32) (m_pile : Nat) (m_caseMany : Nat) (m_happen : Nat) (m_hasIf : Nat) (m_becomes : Nat) (m_goneOf : Nat) (m_heard : Nat) (m_pairs : Nat) (m_heaps : Nat) (q_rounds : Int32) (q_heapMany : Int32) (m_led : Nat) (m_newAt : Nat) (m_knowing : Nat) (m_firsts : Nat) (q_people : Nat) (m_secrets : Nat) (m_tried : Nat) (m_lanes : Nat) (m_lengths : Nat) (m_cells : Nat) (f_manys : Nat → Int32) (f_reals : Nat → Int32) (f_factsOf : Nat → Int32) (f_possible : Nat → Int32) (f_newAt : Nat → Int32) (hb_manys : NB 18 24 f_manys) (hb_reals : NB 18 23 f_reals) (hpg : PG f_manys f_reals) (hwf : WFP (pgs f_manys f_reals f_factsOf f_possible)) (hpa : pa < 18) (hsb : ∀ i, i < 32 → bt so i = true → i < cN f_manys pa) (hrn : cN f_reals pa < cN f_manys pa) (hre : bt so (cN f_reals pa) = true) : CT l yX12_keepOnly (Cond.code yX12_keepOnly cX12_keepOnly 9 none :: TB) ({ frames := 1, cells := 0, slots := 0, locals := 23 }) E ro [.ref hm, .int (nI pa), .int so] [(hm, .inr (12, [.ref m_manys, .ref m_reals, .ref m_factsOf, .ref m_possible, .int (nI q_undos), .int (nI q_models), .ref m_tape, .int (nI q_taped), .int q_fault, .int q_wrong, .int q_wrongAt, .int q_spot, .int q_place, .int q_token, .int q_value, .ref m_ends, .ref m_letters, .ref m_actOf, .ref m_whom, .ref m_actMany, .ref m_tokens, .ref m_afters, .ref m_afterOf, .int q_counted, .ref m_pile, .ref m_caseMany, .ref m_happen, .ref m_hasIf, .ref m_becomes, .ref m_goneOf, .ref m_heard, .ref m_pairs, .ref m_heaps, .int q_rounds, .int q_heapMany, .ref m_led, .ref m_newAt, .ref m_knowing, .ref m_firsts, .int (nI q_people), .ref m_secrets, .ref m_tried, .ref m_lanes, .ref m_lengths, .ref m_cells])), (m_manys, .inl (E.2.1 1, 18, .inl f_manys)), (m_reals, .inl (E.2.1 1, 18, .inl f_reals)), (m_factsOf, .inl (E.2.1 1, 432, .inl f_factsOf)), (m_possible, .inl (E.2.1 1, 1728, .inl f_possible)), (m_newAt, .inl (E.2.1 1, 24, .inl f_newAt))] (Qv E (fun uz => (∃ (f_manysz : Nat → Int32) (f_realsz : Nat → Int32) (f_factsOfz : Nat → Int32) (f_possiblez : Nat → Int32) (f_newAtz : Nat → Int32), uz = [(hm, .inr (12, [.ref m_manys, .ref m_reals, .ref m_factsOf, .ref m_possible, .int (nI q_undos), .int (nI q_models), .ref m_tape, .int (nI q_taped), .int q_fault, .int q_wrong, .int q_wrongAt, .int q_spot, .int q_place, .int q_token, .int q_value, .ref m_ends, .ref m_letters, .ref m_actOf, .ref m_whom, .ref m_actMany, .ref m_tokens, .ref m_afters, .ref m_afterOf, .int q_counted, .ref m_pile, .ref m_caseMany, .ref m_happen, .ref m_hasIf, .ref m_becomes, .ref m_goneOf, .ref m_heard, .ref m_pairs, .ref m_heaps, .int q_rounds, .int q_heapMany, .ref m_led, .ref m_newAt, .ref m_knowing, .ref m_firsts, .int (nI q_people), .ref m_secrets, .ref m_tried, .ref m_lanes, .ref m_lengths, .ref m_cells])), (m_manys, .inl (E.2.1 1, 18, .inl f_manysz)), (m_reals, .inl (E.2.1 1, 18, .inl f_realsz)), (m_factsOf, .inl (E.2.1 1, 432, .inl f_factsOfz)), (m_possible, .inl (E.2.1 1, 1728, .inl f_possiblez)), (m_newAt, .inl (E.2.1 1, 24, .inl f_newAtz))] ∧ (NB 18 24 f_manysz) ∧ (NB 18 23 f_realsz) ∧ (PG f_manysz f_realsz) ∧ (WFP (pgs f_manysz f_realsz f_factsOfz f_possiblez)) ∧ (cN f_manysz pa = cb (bt so) (cN f_manys pa)) ∧ (cN f_realsz pa = cb (bt so) (cN f_reals pa)) ∧ (pgs f_manysz f_realsz f_factsOfz f_possiblez pa = aCut (pgs f_manys f_reals f_factsOf f_possible pa) (bt so)) ∧ (OTH pa (pgs f_manys f_reals f_factsOf f_possible) (pgs f_manysz f_realsz f_factsOfz f_possiblez))))) 0 0 := by
  refine ct_of rfl rfl ?_
  intro X C hT hin hro
  show WW X 9 E 0 [(0, .ref hm), (1, .int (nI pa)), (2, .int so)] [] [(hm, .inr (12, [.ref m_manys, .ref m_reals, .ref m_factsOf, .ref m_possible, .int (nI q_undos), .int (nI q_models), .ref m_tape, .int (nI q_taped), .int q_fault, .int q_wrong, .int q_wrongAt, .int q_spot, .int q_place, .int q_token, .int q_value, .ref m_ends, .ref m_letters, .ref m_actOf, .ref m_whom, .ref m_actMany, .ref m_tokens, .ref m_afters, .ref m_afterOf, .int q_counted, .ref m_pile, .ref m_caseMany, .ref m_happen, .ref m_hasIf, .ref m_becomes, .ref m_goneOf, .ref m_heard, .ref m_pairs, .ref m_heaps, .int q_rounds, .int q_heapMany, .ref m_led, .ref m_newAt, .ref m_knowing, .ref m_firsts, .int (nI q_people), .ref m_secrets, .ref m_tried, .ref m_lanes, .ref m_lengths, .ref m_cells])), (m_manys, .inl (E.2.1 1, 18, .inl f_manys)), (m_reals, .inl (E.2.1 1, 18, .inl f_reals)), (m_factsOf, .inl (E.2.1 1, 432, .inl f_factsOf)), (m_possible, .inl (E.2.1 1, 1728, .inl f_possible)), (m_newAt, .inl (E.2.1 1, 24, .inl f_newAt))] 0 0
  have hmn0 := (hb_manys 0 (by omega)).2
  have hmnp := (hb_manys pa (by omega)).2
  have hrlp := (hb_reals pa (by omega)).2
  have hclr := cb_lt hrn hre
  have hcln := cb_le (bt so) (cN f_manys pa)
  refine ww_iconst (v := 0) C dX12_keepOnly_0 rfl ?_
  refine ww_istore_n (lv' := [(3, .int 0), (0, .ref hm), (1, .int (nI pa)), (2, .int so)]) C dX12_keepOnly_1 rfl rfl rfl ?_
  refine ww_iconst (v := 0) C dX12_keepOnly_2 rfl ?_
  refine ww_istore (lv' := [(4, .int 0), (3, .int 0), (0, .ref hm), (1, .int (nI pa)), (2, .int so)]) C dX12_keepOnly_3 rfl rfl ?_
  have loop_5 : ∀ (fu : Nat) (w1 : Nat) (c1 : Nat) (g1 : Nat → Int32), (w1 ≤ cN f_manys pa) → (c1 = cb (bt so) w1) → (NAx w1 so g1) → cN f_manys pa - w1 < fu → WW X 9 E 5 [(4, .int (nI w1)), (3, .int (nI c1)), (0, .ref hm), (1, .int (nI pa)), (2, .int so)] [] [(hm, .inr (12, [.ref m_manys, .ref m_reals, .ref m_factsOf, .ref m_possible, .int (nI q_undos), .int (nI q_models), .ref m_tape, .int (nI q_taped), .int q_fault, .int q_wrong, .int q_wrongAt, .int q_spot, .int q_place, .int q_token, .int q_value, .ref m_ends, .ref m_letters, .ref m_actOf, .ref m_whom, .ref m_actMany, .ref m_tokens, .ref m_afters, .ref m_afterOf, .int q_counted, .ref m_pile, .ref m_caseMany, .ref m_happen, .ref m_hasIf, .ref m_becomes, .ref m_goneOf, .ref m_heard, .ref m_pairs, .ref m_heaps, .int q_rounds, .int q_heapMany, .ref m_led, .ref m_newAt, .ref m_knowing, .ref m_firsts, .int (nI q_people), .ref m_secrets, .ref m_tried, .ref m_lanes, .ref m_lengths, .ref m_cells])), (m_manys, .inl (E.2.1 1, 18, .inl f_manys)), (m_reals, .inl (E.2.1 1, 18, .inl f_reals)), (m_factsOf, .inl (E.2.1 1, 432, .inl f_factsOf)), (m_possible, .inl (E.2.1 1, 1728, .inl f_possible)), (m_newAt, .inl (E.2.1 1, 24, .inl g1))] 0 0 := by
    intro fu
    induction fu with
    | zero => intro w1 c1 g1 hw1 hc1 hna hmeas; exact absurd hmeas (Nat.not_lt_zero _)
    | succ fu ih_5 =>
      intro w1 c1 g1 hw1 hc1 hna hmeas
      refine ww_iload C dX12_keepOnly_5 0 rfl ?_
      refine ww_aload_n C dX12_keepOnly_7 2 rfl rfl ?_
      refine ww_get C fg_X12_7 0 rfl rfl dX12_keepOnly_8 ?_
      refine ww_iload_n C dX12_keepOnly_11 3 rfl rfl ?_
      have hbx_1 := (hb_manys pa (by omega)).2
      refine ww_iald (v := (nI (cN f_manys pa))) C 1 rfl (vp_in_nI (by omega) (by omega)) (ldn (by omega) (hb_manys pa (by omega)).1) dX12_keepOnly_12 ?_
      refine ww_icmp_ge (tgt := 39) C dX12_keepOnly_13 (by decide) (fun c_2 => ?_) (fun c_2 => ?_)
      · have zc_2 : ((w1 : Nat) : Int) ≥ ((cN f_manys pa : Nat) : Int) := i_le (nI_toInt (n := cN f_manys pa) (by omega)) (nI_toInt (n := w1) (by omega)) c_2
        refine ww_iconst (v := 0) C dX12_keepOnly_39 rfl ?_
        refine ww_istore (lv' := [(4, .int 0), (3, .int (nI c1)), (0, .ref hm), (1, .int (nI pa)), (2, .int so)]) C dX12_keepOnly_40 rfl rfl ?_
        have hw1n : w1 = cN f_manys pa := by omega
        rw [hw1n] at hna hc1
        have loop_42 : ∀ (fu : Nat) (w2 : Nat) (g_fa : Nat → Int32) (g_po : Nat → Int32), (w2 ≤ cN f_manys pa) → (CUf (cN f_manys pa) w2 (bt so) (sh (24 * pa) f_factsOf) (sh (24 * pa) g_fa)) → (OFF 24 pa f_factsOf g_fa) → (CUg (cN f_manys pa) w2 0 so (sh (96 * pa) f_possible) (sh (96 * pa) g_po)) → (OFF 96 pa f_possible g_po) → cN f_manys pa - w2 < fu → WW X 9 E 42 [(4, .int (nI w2)), (3, .int (nI c1)), (0, .ref hm), (1, .int (nI pa)), (2, .int so)] [] [(hm, .inr (12, [.ref m_manys, .ref m_reals, .ref m_factsOf, .ref m_possible, .int (nI q_undos), .int (nI q_models), .ref m_tape, .int (nI q_taped), .int q_fault, .int q_wrong, .int q_wrongAt, .int q_spot, .int q_place, .int q_token, .int q_value, .ref m_ends, .ref m_letters, .ref m_actOf, .ref m_whom, .ref m_actMany, .ref m_tokens, .ref m_afters, .ref m_afterOf, .int q_counted, .ref m_pile, .ref m_caseMany, .ref m_happen, .ref m_hasIf, .ref m_becomes, .ref m_goneOf, .ref m_heard, .ref m_pairs, .ref m_heaps, .int q_rounds, .int q_heapMany, .ref m_led, .ref m_newAt, .ref m_knowing, .ref m_firsts, .int (nI q_people), .ref m_secrets, .ref m_tried, .ref m_lanes, .ref m_lengths, .ref m_cells])), (m_manys, .inl (E.2.1 1, 18, .inl f_manys)), (m_reals, .inl (E.2.1 1, 18, .inl f_reals)), (m_factsOf, .inl (E.2.1 1, 432, .inl g_fa)), (m_possible, .inl (E.2.1 1, 1728, .inl g_po)), (m_newAt, .inl (E.2.1 1, 24, .inl g1))] 0 0 := by
          intro fu
          induction fu with
          | zero => intro w2 g_fa g_po hw2 hcf hof hcg hog hmeas; exact absurd hmeas (Nat.not_lt_zero _)
          | succ fu ih_42 =>
            intro w2 g_fa g_po hw2 hcf hof hcg hog hmeas
            refine ww_iload C dX12_keepOnly_42 0 rfl ?_
            refine ww_aload_n C dX12_keepOnly_44 2 rfl rfl ?_
            refine ww_get C fg_X12_7 0 rfl rfl dX12_keepOnly_45 ?_
            refine ww_iload_n C dX12_keepOnly_48 3 rfl rfl ?_
            have hbx_3 := (hb_manys pa (by omega)).2
            refine ww_iald (v := (nI (cN f_manys pa))) C 1 rfl (vp_in_nI (by omega) (by omega)) (ldn (by omega) (hb_manys pa (by omega)).1) dX12_keepOnly_49 ?_
            refine ww_icmp_ge (tgt := 203) C dX12_keepOnly_50 (by decide) (fun c_4 => ?_) (fun c_4 => ?_)
            · have zc_4 : ((w2 : Nat) : Int) ≥ ((cN f_manys pa : Nat) : Int) := i_le (nI_toInt (n := cN f_manys pa) (by omega)) (nI_toInt (n := w2) (by omega)) c_4
              refine ww_aload_n C dX12_keepOnly_203 2 rfl rfl ?_
              refine ww_get C fg_X12_13 0 rfl rfl dX12_keepOnly_204 ?_
              refine ww_iload_n C dX12_keepOnly_207 3 rfl rfl ?_
              refine ww_aload_n C dX12_keepOnly_208 2 rfl rfl ?_
              refine ww_get C fg_X12_81 0 rfl rfl dX12_keepOnly_209 ?_
              refine ww_aload_n C dX12_keepOnly_212 2 rfl rfl ?_
              refine ww_get C fg_X12_13 0 rfl rfl dX12_keepOnly_213 ?_
              refine ww_iload_n C dX12_keepOnly_216 3 rfl rfl ?_
              have hbx_5 := (hb_reals pa (by omega)).2
              refine ww_iald (v := (nI (cN f_reals pa))) C 2 rfl (vp_in_nI (by omega) (by omega)) (ldn (by omega) (hb_reals pa (by omega)).1) dX12_keepOnly_217 ?_
              have hclx_6 := cb_le (bt so) (cN f_reals pa)
              refine ww_iald (v := (nI (cb (bt so) (cN f_reals pa)))) C 5 rfl (vp_in_nI (by omega) (by omega)) (ldn (by omega) (hna (cN f_reals pa) (by omega))) dX12_keepOnly_218 ?_
              obtain ⟨f_7, ef_7⟩ : ∃ z : Nat → Int32, upd f_reals pa (nI (cb (bt so) (cN f_reals pa))) = z := ⟨_, rfl⟩
              refine ww_iast (ws' := [(hm, .inr (12, [.ref m_manys, .ref m_reals, .ref m_factsOf, .ref m_possible, .int (nI q_undos), .int (nI q_models), .ref m_tape, .int (nI q_taped), .int q_fault, .int q_wrong, .int q_wrongAt, .int q_spot, .int q_place, .int q_token, .int q_value, .ref m_ends, .ref m_letters, .ref m_actOf, .ref m_whom, .ref m_actMany, .ref m_tokens, .ref m_afters, .ref m_afterOf, .int q_counted, .ref m_pile, .ref m_caseMany, .ref m_happen, .ref m_hasIf, .ref m_becomes, .ref m_goneOf, .ref m_heard, .ref m_pairs, .ref m_heaps, .int q_rounds, .int q_heapMany, .ref m_led, .ref m_newAt, .ref m_knowing, .ref m_firsts, .int (nI q_people), .ref m_secrets, .ref m_tried, .ref m_lanes, .ref m_lengths, .ref m_cells])), (m_manys, .inl (E.2.1 1, 18, .inl f_manys)), (m_reals, .inl (E.2.1 1, 18, .inl f_7)), (m_factsOf, .inl (E.2.1 1, 432, .inl g_fa)), (m_possible, .inl (E.2.1 1, 1728, .inl g_po)), (m_newAt, .inl (E.2.1 1, 24, .inl g1))]) C 2 rfl (vp_in_nI (by omega) (by omega)) (ldn2 (by omega) ef_7) rfl dX12_keepOnly_219 ?_
              refine ww_aload_n C dX12_keepOnly_220 2 rfl rfl ?_
              refine ww_get C fg_X12_7 0 rfl rfl dX12_keepOnly_221 ?_
              refine ww_iload_n C dX12_keepOnly_224 3 rfl rfl ?_
              refine ww_iload_n C dX12_keepOnly_225 1 rfl rfl ?_
              obtain ⟨f_8, ef_8⟩ : ∃ z : Nat → Int32, upd f_manys pa (nI c1) = z := ⟨_, rfl⟩
              refine ww_iast (ws' := [(hm, .inr (12, [.ref m_manys, .ref m_reals, .ref m_factsOf, .ref m_possible, .int (nI q_undos), .int (nI q_models), .ref m_tape, .int (nI q_taped), .int q_fault, .int q_wrong, .int q_wrongAt, .int q_spot, .int q_place, .int q_token, .int q_value, .ref m_ends, .ref m_letters, .ref m_actOf, .ref m_whom, .ref m_actMany, .ref m_tokens, .ref m_afters, .ref m_afterOf, .int q_counted, .ref m_pile, .ref m_caseMany, .ref m_happen, .ref m_hasIf, .ref m_becomes, .ref m_goneOf, .ref m_heard, .ref m_pairs, .ref m_heaps, .int q_rounds, .int q_heapMany, .ref m_led, .ref m_newAt, .ref m_knowing, .ref m_firsts, .int (nI q_people), .ref m_secrets, .ref m_tried, .ref m_lanes, .ref m_lengths, .ref m_cells])), (m_manys, .inl (E.2.1 1, 18, .inl f_8)), (m_reals, .inl (E.2.1 1, 18, .inl f_7)), (m_factsOf, .inl (E.2.1 1, 432, .inl g_fa)), (m_possible, .inl (E.2.1 1, 1728, .inl g_po)), (m_newAt, .inl (E.2.1 1, 24, .inl g1))]) C 1 rfl (vp_in_nI (by omega) (by omega)) (ldn2 (by omega) ef_8) rfl dX12_keepOnly_226 ?_
              exact ww_vret (u := [(hm, .inr (12, [.ref m_manys, .ref m_reals, .ref m_factsOf, .ref m_possible, .int (nI q_undos), .int (nI q_models), .ref m_tape, .int (nI q_taped), .int q_fault, .int q_wrong, .int q_wrongAt, .int q_spot, .int q_place, .int q_token, .int q_value, .ref m_ends, .ref m_letters, .ref m_actOf, .ref m_whom, .ref m_actMany, .ref m_tokens, .ref m_afters, .ref m_afterOf, .int q_counted, .ref m_pile, .ref m_caseMany, .ref m_happen, .ref m_hasIf, .ref m_becomes, .ref m_goneOf, .ref m_heard, .ref m_pairs, .ref m_heaps, .int q_rounds, .int q_heapMany, .ref m_led, .ref m_newAt, .ref m_knowing, .ref m_firsts, .int (nI q_people), .ref m_secrets, .ref m_tried, .ref m_lanes, .ref m_lengths, .ref m_cells])), (m_manys, .inl (E.2.1 1, 18, .inl f_8)), (m_reals, .inl (E.2.1 1, 18, .inl f_7)), (m_factsOf, .inl (E.2.1 1, 432, .inl g_fa)), (m_possible, .inl (E.2.1 1, 1728, .inl g_po)), (m_newAt, .inl (E.2.1 1, 24, .inl g1))]) C hT [0, 1, 2, 3, 4, 5] rfl rfl rfl rfl dX12_keepOnly_227 (⟨f_8, f_7, g_fa, g_po, g1, rfl, (NB.put hb_manys (t := c1) (by omega) (by decide) ef_8), (NB.put hb_reals (t := cb (bt so) (cN f_reals pa)) (by omega) (by decide) ef_7), (PG.put (a := c1) (b := cb (bt so) (cN f_reals pa)) hpg ef_8 ef_7 (by omega) (by omega) (Or.inl (by rw [hc1]; exact cb_lt hrn hre))), (WFP.at hwf (pgs_oth hb_manys (OFF.put OFF.rf (by omega) (by omega) ef_8) (OFF.put OFF.rf (by omega) (by omega) ef_7) hof hog) (by rw [show pgs f_8 f_7 g_fa g_po pa = aCut (pgs f_manys f_reals f_factsOf f_possible pa) (bt so) from (am_cut (by omega) (hwf pa (by omega)) hcf hcg (show w2 = cN f_manys pa by omega) (by rw [cN_s (by omega) ef_8]; exact hc1) (cN_s (by omega) ef_7))]; exact aCut_wf)), (by rw [cN_s (by omega) ef_8]; exact hc1), (cN_s (by omega) ef_7), (am_cut (by omega) (hwf pa (by omega)) hcf hcg (show w2 = cN f_manys pa by omega) (by rw [cN_s (by omega) ef_8]; exact hc1) (cN_s (by omega) ef_7)), (pgs_oth hb_manys (OFF.put OFF.rf (by omega) (by omega) ef_8) (OFF.put OFF.rf (by omega) (by omega) ef_7) hof hog)⟩)
            · have zc_4 : ((w2 : Nat) : Int) < ((cN f_manys pa : Nat) : Int) := i_nle (nI_toInt (n := cN f_manys pa) (by omega)) (nI_toInt (n := w2) (by omega)) c_4
              refine ww_iload_n C dX12_keepOnly_53 4 rfl rfl ?_
              refine ww_iload C dX12_keepOnly_54 0 rfl ?_
              obtain ⟨x_9, ex_9⟩ : ∃ z : Int32, so >>> ((nI w2) &&& 31) = z := ⟨_, rfl⟩
              refine ww_ishr (v := x_9) C dX12_keepOnly_56 ex_9 ?_
              refine ww_iconst (v := 1) C dX12_keepOnly_57 rfl ?_
              obtain ⟨j_10, hj_10, ej_10⟩ := pk_andE x_9 (m := 1) 1 rfl
              refine ww_iand (v := (nI j_10)) C dX12_keepOnly_58 ej_10 ?_
              refine ww_iconst (v := 1) C dX12_keepOnly_59 rfl ?_
              refine ww_icmp_ne (tgt := 197) C dX12_keepOnly_60 (by decide) (fun c_11 => ?_) (fun c_11 => ?_)
              · have zc_11 : ((j_10 : Nat) : Int) ≠ 1 := i_ne (nI_toInt (n := j_10) (by omega)) rfl c_11
                refine ww_iinc (j := 0) (v := (nI (w2 + 1))) (lv' := [(4, .int (nI (w2 + 1))), (3, .int (nI c1)), (0, .ref hm), (1, .int (nI pa)), (2, .int so)]) C dX12_keepOnly_197 rfl (nI_add w2 1) rfl rfl ?_
                refine ww_goto (tgt := 42) C dX12_keepOnly_200 (by decide) ?_
                exact ww_lv [0, 1, 2, 3, 4] rfl (ww_sub [0, 1, 2, 3, 4, 5] rfl rfl (ih_42 (w2 + 1) g_fa g_po (by omega) (CUf.f hcf (hasb_0 (b := so) (p := w2) (by omega) (by assumption) (by assumption) (by omega))) hof (CUG.f hcg (hasb_0 (b := so) (p := w2) (by omega) (by assumption) (by assumption) (by omega))) hog (by omega)))
              · have zc_11 : ((j_10 : Nat) : Int) = 1 := i_eq (nI_toInt (n := j_10) (by omega)) rfl c_11
                refine ww_aload_n C dX12_keepOnly_63 2 rfl rfl ?_
                refine ww_get C fg_X12_16 0 rfl rfl dX12_keepOnly_64 ?_
                refine ww_bipush (v := 24) C dX12_keepOnly_67 rfl ?_
                refine ww_iload_n C dX12_keepOnly_69 3 rfl rfl ?_
                refine ww_imul (v := (nI (24 * pa))) C dX12_keepOnly_70 (pk_mul 24 pa) ?_
                refine ww_aload_n C dX12_keepOnly_71 2 rfl rfl ?_
                refine ww_get C fg_X12_81 0 rfl rfl dX12_keepOnly_72 ?_
                refine ww_iload C dX12_keepOnly_75 0 rfl ?_
                have hclx_12 := cb_le (bt so) w2
                refine ww_iald (v := (nI (cb (bt so) w2))) C 5 rfl (vp_in_nI (by omega) (by omega)) (ldn (by omega) (hna w2 (by omega))) dX12_keepOnly_77 ?_
                refine ww_iadd (v := (nI ((24 * pa) + (cb (bt so) w2)))) C dX12_keepOnly_78 (nI_add (24 * pa) (cb (bt so) w2)) ?_
                refine ww_aload_n C dX12_keepOnly_79 2 rfl rfl ?_
                refine ww_get C fg_X12_16 0 rfl rfl dX12_keepOnly_80 ?_
                refine ww_bipush (v := 24) C dX12_keepOnly_83 rfl ?_
                refine ww_iload_n C dX12_keepOnly_85 3 rfl rfl ?_
                refine ww_imul (v := (nI (24 * pa))) C dX12_keepOnly_86 (pk_mul 24 pa) ?_
                refine ww_iload C dX12_keepOnly_87 0 rfl ?_
                refine ww_iadd (v := (nI ((24 * pa) + w2))) C dX12_keepOnly_89 (nI_add (24 * pa) w2) ?_
                obtain ⟨x_13, ex_13⟩ : ∃ z : Int32, g_fa ((24 * pa) + w2) = z := ⟨_, rfl⟩
                refine ww_iald (v := x_13) C 3 rfl (vp_in_nI (by omega) (by omega)) (ldn (by omega) ex_13) dX12_keepOnly_90 ?_
                obtain ⟨f_14, ef_14⟩ : ∃ z : Nat → Int32, upd g_fa ((24 * pa) + (cb (bt so) w2)) x_13 = z := ⟨_, rfl⟩
                refine ww_iast (ws' := [(hm, .inr (12, [.ref m_manys, .ref m_reals, .ref m_factsOf, .ref m_possible, .int (nI q_undos), .int (nI q_models), .ref m_tape, .int (nI q_taped), .int q_fault, .int q_wrong, .int q_wrongAt, .int q_spot, .int q_place, .int q_token, .int q_value, .ref m_ends, .ref m_letters, .ref m_actOf, .ref m_whom, .ref m_actMany, .ref m_tokens, .ref m_afters, .ref m_afterOf, .int q_counted, .ref m_pile, .ref m_caseMany, .ref m_happen, .ref m_hasIf, .ref m_becomes, .ref m_goneOf, .ref m_heard, .ref m_pairs, .ref m_heaps, .int q_rounds, .int q_heapMany, .ref m_led, .ref m_newAt, .ref m_knowing, .ref m_firsts, .int (nI q_people), .ref m_secrets, .ref m_tried, .ref m_lanes, .ref m_lengths, .ref m_cells])), (m_manys, .inl (E.2.1 1, 18, .inl f_manys)), (m_reals, .inl (E.2.1 1, 18, .inl f_reals)), (m_factsOf, .inl (E.2.1 1, 432, .inl f_14)), (m_possible, .inl (E.2.1 1, 1728, .inl g_po)), (m_newAt, .inl (E.2.1 1, 24, .inl g1))]) C 3 rfl (vp_in_nI (by omega) (by omega)) (ldn2 (by omega) ef_14) rfl dX12_keepOnly_91 ?_
                refine ww_iconst (v := 0) C dX12_keepOnly_92 rfl ?_
                refine ww_istore (lv' := [(5, .int 0), (4, .int (nI w2)), (3, .int (nI c1)), (0, .ref hm), (1, .int (nI pa)), (2, .int so)]) C dX12_keepOnly_93 rfl rfl ?_
                have loop_95 : ∀ (fu : Nat) (k3 : Nat) (g_po3 : Nat → Int32), (k3 ≤ 4) → (CUg (cN f_manys pa) w2 k3 so (sh (96 * pa) f_possible) (sh (96 * pa) g_po3)) → (OFF 96 pa f_possible g_po3) → 4 - k3 < fu → WW X 9 E 95 [(5, .int (nI k3)), (4, .int (nI w2)), (3, .int (nI c1)), (0, .ref hm), (1, .int (nI pa)), (2, .int so)] [] [(hm, .inr (12, [.ref m_manys, .ref m_reals, .ref m_factsOf, .ref m_possible, .int (nI q_undos), .int (nI q_models), .ref m_tape, .int (nI q_taped), .int q_fault, .int q_wrong, .int q_wrongAt, .int q_spot, .int q_place, .int q_token, .int q_value, .ref m_ends, .ref m_letters, .ref m_actOf, .ref m_whom, .ref m_actMany, .ref m_tokens, .ref m_afters, .ref m_afterOf, .int q_counted, .ref m_pile, .ref m_caseMany, .ref m_happen, .ref m_hasIf, .ref m_becomes, .ref m_goneOf, .ref m_heard, .ref m_pairs, .ref m_heaps, .int q_rounds, .int q_heapMany, .ref m_led, .ref m_newAt, .ref m_knowing, .ref m_firsts, .int (nI q_people), .ref m_secrets, .ref m_tried, .ref m_lanes, .ref m_lengths, .ref m_cells])), (m_manys, .inl (E.2.1 1, 18, .inl f_manys)), (m_reals, .inl (E.2.1 1, 18, .inl f_reals)), (m_factsOf, .inl (E.2.1 1, 432, .inl f_14)), (m_possible, .inl (E.2.1 1, 1728, .inl g_po3)), (m_newAt, .inl (E.2.1 1, 24, .inl g1))] 0 0 := by
                  intro fu
                  induction fu with
                  | zero => intro k3 g_po3 hk3 hcg3 hog3 hmeas; exact absurd hmeas (Nat.not_lt_zero _)
                  | succ fu ih_95 =>
                    intro k3 g_po3 hk3 hcg3 hog3 hmeas
                    refine ww_iload C dX12_keepOnly_95 0 rfl ?_
                    refine ww_iconst (v := 4) C dX12_keepOnly_97 rfl ?_
                    refine ww_icmp_ge (tgt := 197) C dX12_keepOnly_98 (by decide) (fun c_15 => ?_) (fun c_15 => ?_)
                    · have zc_15 : ((k3 : Nat) : Int) ≥ 4 := i_le rfl (nI_toInt (n := k3) (by omega)) c_15
                      refine ww_iinc (j := 1) (v := (nI (w2 + 1))) (lv' := [(4, .int (nI (w2 + 1))), (5, .int (nI k3)), (3, .int (nI c1)), (0, .ref hm), (1, .int (nI pa)), (2, .int so)]) C dX12_keepOnly_197 rfl (nI_add w2 1) rfl rfl ?_
                      refine ww_goto (tgt := 42) C dX12_keepOnly_200 (by decide) ?_
                      exact ww_lv [0, 2, 3, 4, 5] rfl (ww_sub [0, 1, 2, 3, 4, 5] rfl rfl (ih_42 (w2 + 1) f_14 g_po3 (by omega) (CUf.t hcf (hasb_1 (b := so) (p := w2) (by omega) (by assumption) (by assumption) (by omega)) rfl (show sh (24 * pa) g_fa w2 = x_13 from ex_13) (sh_upd ef_14)) (OFF.put hof (by omega) (by omega) ef_14) (CUG.up hcg3 (by omega)) hog3 (by omega)))
                    · have zc_15 : ((k3 : Nat) : Int) < 4 := i_nle rfl (nI_toInt (n := k3) (by omega)) c_15
                      refine ww_aload_n C dX12_keepOnly_101 3 rfl rfl ?_
                      refine ww_iload_n C dX12_keepOnly_102 4 rfl rfl ?_
                      refine ww_iload C dX12_keepOnly_103 0 rfl ?_
                      refine ww_iload C dX12_keepOnly_105 1 rfl ?_
                      refine ww_ci (wr := [(m_manys, .inl (E.2.1 1, 18, .inl f_manys)), (m_reals, .inl (E.2.1 1, 18, .inl f_reals)), (m_factsOf, .inl (E.2.1 1, 432, .inl f_14)), (m_newAt, .inl (E.2.1 1, 24, .inl g1))]) (k' := 0) (n' := 0) C (run_V (As := [.int (nI pa), .int (nI k3), .int (nI w2)]) (rest := []) C (r_seen X.2.1 E ro hm pa k3 w2 m_manys m_reals m_factsOf m_possible q_undos q_models m_tape q_taped q_fault q_wrong q_wrongAt q_spot q_place q_token q_value m_ends m_letters m_actOf m_whom m_actMany m_tokens m_afters m_afterOf q_counted m_pile m_caseMany m_happen m_hasIf m_becomes m_goneOf m_heard m_pairs m_heaps q_rounds q_heapMany m_led m_newAt m_knowing m_firsts q_people m_secrets m_tried m_lanes m_lengths m_cells g_po3 (by omega) (by omega) (by omega)) mi_X12_seen wl_X12_135 rfl 0 12 rfl rfl rfl rfl rfl dX12_keepOnly_107) (roK hro) [0, 4] [1, 2, 3, 5] rfl rfl rfl rfl (fun r_16 uz hw => ?_)
                      refine an1 hw ?_
                      clear hw
                      intro he_17 hw
                      have he_18 := hw
                      clear hw
                      have he_17 := he_17.symm
                      subst he_17
                      subst he_18
                      refine ww_eq (ws' := [(m_manys, .inl (E.2.1 1, 18, .inl f_manys)), (m_reals, .inl (E.2.1 1, 18, .inl f_reals)), (m_factsOf, .inl (E.2.1 1, 432, .inl f_14)), (m_newAt, .inl (E.2.1 1, 24, .inl g1)), (hm, .inr (12, [.ref m_manys, .ref m_reals, .ref m_factsOf, .ref m_possible, .int (nI q_undos), .int (nI q_models), .ref m_tape, .int (nI q_taped), .int q_fault, .int q_wrong, .int q_wrongAt, .int q_spot, .int q_place, .int q_token, .int q_value, .ref m_ends, .ref m_letters, .ref m_actOf, .ref m_whom, .ref m_actMany, .ref m_tokens, .ref m_afters, .ref m_afterOf, .int q_counted, .ref m_pile, .ref m_caseMany, .ref m_happen, .ref m_hasIf, .ref m_becomes, .ref m_goneOf, .ref m_heard, .ref m_pairs, .ref m_heaps, .int q_rounds, .int q_heapMany, .ref m_led, .ref m_newAt, .ref m_knowing, .ref m_firsts, .int (nI q_people), .ref m_secrets, .ref m_tried, .ref m_lanes, .ref m_lengths, .ref m_cells])), (m_possible, .inl (E.2.1 1, 1728, .inl g_po3))]) ?_ rfl rfl rfl
                      refine ww_iload_n C dX12_keepOnly_110 5 rfl rfl ?_
                      obtain ⟨x_19, ex_19⟩ : ∃ z : Int32, (g_po3 (96 * pa + 24 * k3 + w2)) &&& so = z := ⟨_, rfl⟩
                      refine ww_iand (v := x_19) C dX12_keepOnly_111 ex_19 ?_
                      refine ww_istore (lv' := [(6, .int x_19), (5, .int (nI k3)), (4, .int (nI w2)), (3, .int (nI c1)), (0, .ref hm), (1, .int (nI pa)), (2, .int so)]) C dX12_keepOnly_112 rfl rfl ?_
                      refine ww_iconst (v := 0) C dX12_keepOnly_114 rfl ?_
                      refine ww_istore (lv' := [(7, .int 0), (6, .int x_19), (5, .int (nI k3)), (4, .int (nI w2)), (3, .int (nI c1)), (0, .ref hm), (1, .int (nI pa)), (2, .int so)]) C dX12_keepOnly_115 rfl rfl ?_
                      refine ww_iconst (v := 0) C dX12_keepOnly_117 rfl ?_
                      refine ww_istore (lv' := [(8, .int 0), (7, .int 0), (6, .int x_19), (5, .int (nI k3)), (4, .int (nI w2)), (3, .int (nI c1)), (0, .ref hm), (1, .int (nI pa)), (2, .int so)]) C dX12_keepOnly_118 rfl rfl ?_
                      have loop_120 : ∀ (fu : Nat) (u4 : Nat) (th4 : Int32), (u4 ≤ cN f_manys pa) → (BXx (bt so) (bt (g_po3 (96 * pa + 24 * k3 + w2))) 24 u4 th4) → cN f_manys pa - u4 < fu → WW X 9 E 120 [(8, .int (nI u4)), (7, .int th4), (6, .int x_19), (5, .int (nI k3)), (4, .int (nI w2)), (3, .int (nI c1)), (0, .ref hm), (1, .int (nI pa)), (2, .int so)] [] [(m_manys, .inl (E.2.1 1, 18, .inl f_manys)), (m_reals, .inl (E.2.1 1, 18, .inl f_reals)), (m_factsOf, .inl (E.2.1 1, 432, .inl f_14)), (m_newAt, .inl (E.2.1 1, 24, .inl g1)), (hm, .inr (12, [.ref m_manys, .ref m_reals, .ref m_factsOf, .ref m_possible, .int (nI q_undos), .int (nI q_models), .ref m_tape, .int (nI q_taped), .int q_fault, .int q_wrong, .int q_wrongAt, .int q_spot, .int q_place, .int q_token, .int q_value, .ref m_ends, .ref m_letters, .ref m_actOf, .ref m_whom, .ref m_actMany, .ref m_tokens, .ref m_afters, .ref m_afterOf, .int q_counted, .ref m_pile, .ref m_caseMany, .ref m_happen, .ref m_hasIf, .ref m_becomes, .ref m_goneOf, .ref m_heard, .ref m_pairs, .ref m_heaps, .int q_rounds, .int q_heapMany, .ref m_led, .ref m_newAt, .ref m_knowing, .ref m_firsts, .int (nI q_people), .ref m_secrets, .ref m_tried, .ref m_lanes, .ref m_lengths, .ref m_cells])), (m_possible, .inl (E.2.1 1, 1728, .inl g_po3))] 0 0 := by
                        intro fu
                        induction fu with
                        | zero => intro u4 th4 hu4 hbx hmeas; exact absurd hmeas (Nat.not_lt_zero _)
                        | succ fu ih_120 =>
                          intro u4 th4 hu4 hbx hmeas
                          refine ww_iload C dX12_keepOnly_120 0 rfl ?_
                          refine ww_aload_n C dX12_keepOnly_122 6 rfl rfl ?_
                          refine ww_get C fg_X12_7 4 rfl rfl dX12_keepOnly_123 ?_
                          refine ww_iload_n C dX12_keepOnly_126 7 rfl rfl ?_
                          have hbx_20 := (hb_manys pa (by omega)).2
                          refine ww_iald (v := (nI (cN f_manys pa))) C 0 rfl (vp_in_nI (by omega) (by omega)) (ldn (by omega) (hb_manys pa (by omega)).1) dX12_keepOnly_127 ?_
                          refine ww_icmp_ge (tgt := 166) C dX12_keepOnly_128 (by decide) (fun c_21 => ?_) (fun c_21 => ?_)
                          · have zc_21 : ((u4 : Nat) : Int) ≥ ((cN f_manys pa : Nat) : Int) := i_le (nI_toInt (n := cN f_manys pa) (by omega)) (nI_toInt (n := u4) (by omega)) c_21
                            refine ww_aload_n C dX12_keepOnly_166 6 rfl rfl ?_
                            refine ww_get C fg_X12_19 4 rfl rfl dX12_keepOnly_167 ?_
                            refine ww_bipush (v := 96) C dX12_keepOnly_170 rfl ?_
                            refine ww_iload_n C dX12_keepOnly_172 7 rfl rfl ?_
                            refine ww_imul (v := (nI (96 * pa))) C dX12_keepOnly_173 (pk_mul 96 pa) ?_
                            refine ww_bipush (v := 24) C dX12_keepOnly_174 rfl ?_
                            refine ww_iload C dX12_keepOnly_176 3 rfl ?_
                            refine ww_imul (v := (nI (24 * k3))) C dX12_keepOnly_178 (pk_mul 24 k3) ?_
                            refine ww_iadd (v := (nI ((96 * pa) + (24 * k3)))) C dX12_keepOnly_179 (nI_add (96 * pa) (24 * k3)) ?_
                            refine ww_aload_n C dX12_keepOnly_180 6 rfl rfl ?_
                            refine ww_get C fg_X12_81 4 rfl rfl dX12_keepOnly_181 ?_
                            refine ww_iload C dX12_keepOnly_184 4 rfl ?_
                            have hclx_22 := cb_le (bt so) w2
                            refine ww_iald (v := (nI (cb (bt so) w2))) C 3 rfl (vp_in_nI (by omega) (by omega)) (ldn (by omega) (hna w2 (by omega))) dX12_keepOnly_186 ?_
                            refine ww_iadd (v := (nI (((96 * pa) + (24 * k3)) + (cb (bt so) w2)))) C dX12_keepOnly_187 (nI_add ((96 * pa) + (24 * k3)) (cb (bt so) w2)) ?_
                            refine ww_iload C dX12_keepOnly_188 1 rfl ?_
                            obtain ⟨f_23, ef_23⟩ : ∃ z : Nat → Int32, upd g_po3 (((96 * pa) + (24 * k3)) + (cb (bt so) w2)) th4 = z := ⟨_, rfl⟩
                            refine ww_iast (ws' := [(m_manys, .inl (E.2.1 1, 18, .inl f_manys)), (m_reals, .inl (E.2.1 1, 18, .inl f_reals)), (m_factsOf, .inl (E.2.1 1, 432, .inl f_14)), (m_newAt, .inl (E.2.1 1, 24, .inl g1)), (hm, .inr (12, [.ref m_manys, .ref m_reals, .ref m_factsOf, .ref m_possible, .int (nI q_undos), .int (nI q_models), .ref m_tape, .int (nI q_taped), .int q_fault, .int q_wrong, .int q_wrongAt, .int q_spot, .int q_place, .int q_token, .int q_value, .ref m_ends, .ref m_letters, .ref m_actOf, .ref m_whom, .ref m_actMany, .ref m_tokens, .ref m_afters, .ref m_afterOf, .int q_counted, .ref m_pile, .ref m_caseMany, .ref m_happen, .ref m_hasIf, .ref m_becomes, .ref m_goneOf, .ref m_heard, .ref m_pairs, .ref m_heaps, .int q_rounds, .int q_heapMany, .ref m_led, .ref m_newAt, .ref m_knowing, .ref m_firsts, .int (nI q_people), .ref m_secrets, .ref m_tried, .ref m_lanes, .ref m_lengths, .ref m_cells])), (m_possible, .inl (E.2.1 1, 1728, .inl f_23))]) C 5 rfl (vp_in_nI (by omega) (by omega)) (ldn2 (by omega) ef_23) rfl dX12_keepOnly_190 ?_
                            refine ww_iinc (j := 3) (v := (nI (k3 + 1))) (lv' := [(5, .int (nI (k3 + 1))), (8, .int (nI u4)), (7, .int th4), (6, .int x_19), (4, .int (nI w2)), (3, .int (nI c1)), (0, .ref hm), (1, .int (nI pa)), (2, .int so)]) C dX12_keepOnly_191 rfl (nI_add k3 1) rfl rfl ?_
                            refine ww_goto (tgt := 95) C dX12_keepOnly_194 (by decide) ?_
                            exact ww_lv [0, 4, 5, 6, 7, 8] rfl (ww_sub [4, 0, 1, 2, 5, 3] rfl rfl (ih_95 (k3 + 1) f_23 (by omega) (CUg.t (x := (g_po3 (96 * pa + 24 * k3 + w2))) hcg3 (by omega) (by omega) (by omega) (hasb_1 (b := so) (p := w2) (by omega) (by assumption) (by assumption) (by omega)) rfl (show g_po3 (96 * pa + (k3 * 24 + w2)) = (g_po3 (96 * pa + 24 * k3 + w2)) from congrArg g_po3 (by omega)) (show BXx (bt so) (bt (g_po3 (96 * pa + 24 * k3 + w2))) 24 24 _ from BXx.fs hbx (by omega) (fun p a b => by cases hq : bt so p with | false => rfl | true => exact absurd (hsb p (by omega) hq) (by omega))) (sh_upg ef_23)) (OFF.put hog3 (by omega) (by omega) ef_23) (by omega)))
                          · have zc_21 : ((u4 : Nat) : Int) < ((cN f_manys pa : Nat) : Int) := i_nle (nI_toInt (n := cN f_manys pa) (by omega)) (nI_toInt (n := u4) (by omega)) c_21
                            refine ww_iload C dX12_keepOnly_131 1 rfl ?_
                            refine ww_iload C dX12_keepOnly_133 2 rfl ?_
                            refine ww_iload C dX12_keepOnly_135 0 rfl ?_
                            obtain ⟨x_24, ex_24⟩ : ∃ z : Int32, x_19 >>> ((nI u4) &&& 31) = z := ⟨_, rfl⟩
                            refine ww_ishr (v := x_24) C dX12_keepOnly_137 ex_24 ?_
                            refine ww_iconst (v := 1) C dX12_keepOnly_138 rfl ?_
                            obtain ⟨j_25, hj_25, ej_25⟩ := pk_andE x_24 (m := 1) 1 rfl
                            refine ww_iand (v := (nI j_25)) C dX12_keepOnly_139 ej_25 ?_
                            refine ww_iconst (v := 1) C dX12_keepOnly_140 rfl ?_
                            refine ww_icmp_ne (tgt := 156) C dX12_keepOnly_141 (by decide) (fun c_26 => ?_) (fun c_26 => ?_)
                            · have zc_26 : ((j_25 : Nat) : Int) ≠ 1 := i_ne (nI_toInt (n := j_25) (by omega)) rfl c_26
                              refine ww_iconst (v := 0) C dX12_keepOnly_156 rfl ?_
                              obtain ⟨x_27, ex_27⟩ : ∃ z : Int32, th4 ||| (0 : Int32) = z := ⟨_, rfl⟩
                              refine ww_ior (v := x_27) C dX12_keepOnly_157 ex_27 ?_
                              refine ww_istore (lv' := [(7, .int x_27), (8, .int (nI u4)), (6, .int x_19), (5, .int (nI k3)), (4, .int (nI w2)), (3, .int (nI c1)), (0, .ref hm), (1, .int (nI pa)), (2, .int so)]) C dX12_keepOnly_158 rfl rfl ?_
                              refine ww_iinc (j := 1) (v := (nI (u4 + 1))) (lv' := [(8, .int (nI (u4 + 1))), (7, .int x_27), (6, .int x_19), (5, .int (nI k3)), (4, .int (nI w2)), (3, .int (nI c1)), (0, .ref hm), (1, .int (nI pa)), (2, .int so)]) C dX12_keepOnly_160 rfl (nI_add u4 1) rfl rfl ?_
                              refine ww_goto (tgt := 120) C dX12_keepOnly_163 (by decide) ?_
                              exact ww_lv [0, 1, 2, 3, 4, 5, 6, 7, 8] rfl (ww_sub [0, 1, 2, 3, 4, 5] rfl rfl (ih_120 (u4 + 1) x_27 (by omega) (by first | exact bx_1 hbx ex_19 (hasb_1 (b := x_19) (p := u4) (by omega) (by assumption) (by assumption) (by omega)) (by omega) (by have := cb_le (bt so) u4; omega) rfl (by assumption) (by assumption) | exact bx_0 hbx ex_19 (hasb_0 (b := x_19) (p := u4) (by omega) (by assumption) (by assumption) (by omega)) (by omega) (by assumption)) (by omega)))
                            · have zc_26 : ((j_25 : Nat) : Int) = 1 := i_eq (nI_toInt (n := j_25) (by omega)) rfl c_26
                              refine ww_iconst (v := 1) C dX12_keepOnly_144 rfl ?_
                              refine ww_aload_n C dX12_keepOnly_145 6 rfl rfl ?_
                              refine ww_get C fg_X12_81 4 rfl rfl dX12_keepOnly_146 ?_
                              refine ww_iload C dX12_keepOnly_149 0 rfl ?_
                              have hclx_28 := cb_le (bt so) u4
                              refine ww_iald (v := (nI (cb (bt so) u4))) C 3 rfl (vp_in_nI (by omega) (by omega)) (ldn (by omega) (hna u4 (by omega))) dX12_keepOnly_151 ?_
                              obtain ⟨x_29, ex_29⟩ : ∃ z : Int32, (1 : Int32) <<< ((nI (cb (bt so) u4)) &&& 31) = z := ⟨_, rfl⟩
                              refine ww_ishl (v := x_29) C dX12_keepOnly_152 ex_29 ?_
                              refine ww_goto (tgt := 157) C dX12_keepOnly_153 (by decide) ?_
                              obtain ⟨x_30, ex_30⟩ : ∃ z : Int32, th4 ||| x_29 = z := ⟨_, rfl⟩
                              refine ww_ior (v := x_30) C dX12_keepOnly_157 ex_30 ?_
                              refine ww_istore (lv' := [(7, .int x_30), (8, .int (nI u4)), (6, .int x_19), (5, .int (nI k3)), (4, .int (nI w2)), (3, .int (nI c1)), (0, .ref hm), (1, .int (nI pa)), (2, .int so)]) C dX12_keepOnly_158 rfl rfl ?_
                              refine ww_iinc (j := 1) (v := (nI (u4 + 1))) (lv' := [(8, .int (nI (u4 + 1))), (7, .int x_30), (6, .int x_19), (5, .int (nI k3)), (4, .int (nI w2)), (3, .int (nI c1)), (0, .ref hm), (1, .int (nI pa)), (2, .int so)]) C dX12_keepOnly_160 rfl (nI_add u4 1) rfl rfl ?_
                              refine ww_goto (tgt := 120) C dX12_keepOnly_163 (by decide) ?_
                              exact ww_lv [0, 1, 2, 3, 4, 5, 6, 7, 8] rfl (ww_sub [0, 1, 2, 3, 4, 5] rfl rfl (ih_120 (u4 + 1) x_30 (by omega) (by first | exact bx_1 hbx ex_19 (hasb_1 (b := x_19) (p := u4) (by omega) (by assumption) (by assumption) (by omega)) (by omega) (by have := cb_le (bt so) u4; omega) rfl (by assumption) (by assumption) | exact bx_0 hbx ex_19 (hasb_0 (b := x_19) (p := u4) (by omega) (by assumption) (by assumption) (by omega)) (by omega) (by assumption)) (by omega)))
                      exact ww_lv [0, 1, 2, 3, 4, 5, 6, 7, 8] rfl (ww_sub [0, 1, 2, 3, 4, 5] rfl rfl (loop_120 _ 0 0 (by omega) BXx.nil (Nat.lt_succ_self _)))
                exact ww_lv [0, 1, 2, 3, 4, 5] rfl (ww_sub [0, 1, 2, 3, 4, 5] rfl rfl (loop_95 _ 0 g_po (by omega) hcg hog (Nat.lt_succ_self _)))
        exact ww_lv [0, 1, 2, 3, 4] rfl (ww_sub [0, 1, 2, 3, 4, 5] rfl rfl (loop_42 _ 0 f_factsOf f_possible (by omega) CUf.nil OFF.rf CUG.nil OFF.rf (Nat.lt_succ_self _)))
      · have zc_2 : ((w1 : Nat) : Int) < ((cN f_manys pa : Nat) : Int) := i_nle (nI_toInt (n := cN f_manys pa) (by omega)) (nI_toInt (n := w1) (by omega)) c_2
        refine ww_aload_n C dX12_keepOnly_16 2 rfl rfl ?_
        refine ww_get C fg_X12_81 0 rfl rfl dX12_keepOnly_17 ?_
        refine ww_iload C dX12_keepOnly_20 0 rfl ?_
        refine ww_iload_n C dX12_keepOnly_22 1 rfl rfl ?_
        obtain ⟨f_31, ef_31⟩ : ∃ z : Nat → Int32, upd g1 w1 (nI c1) = z := ⟨_, rfl⟩
        refine ww_iast (ws' := [(hm, .inr (12, [.ref m_manys, .ref m_reals, .ref m_factsOf, .ref m_possible, .int (nI q_undos), .int (nI q_models), .ref m_tape, .int (nI q_taped), .int q_fault, .int q_wrong, .int q_wrongAt, .int q_spot, .int q_place, .int q_token, .int q_value, .ref m_ends, .ref m_letters, .ref m_actOf, .ref m_whom, .ref m_actMany, .ref m_tokens, .ref m_afters, .ref m_afterOf, .int q_counted, .ref m_pile, .ref m_caseMany, .ref m_happen, .ref m_hasIf, .ref m_becomes, .ref m_goneOf, .ref m_heard, .ref m_pairs, .ref m_heaps, .int q_rounds, .int q_heapMany, .ref m_led, .ref m_newAt, .ref m_knowing, .ref m_firsts, .int (nI q_people), .ref m_secrets, .ref m_tried, .ref m_lanes, .ref m_lengths, .ref m_cells])), (m_manys, .inl (E.2.1 1, 18, .inl f_manys)), (m_reals, .inl (E.2.1 1, 18, .inl f_reals)), (m_factsOf, .inl (E.2.1 1, 432, .inl f_factsOf)), (m_possible, .inl (E.2.1 1, 1728, .inl f_possible)), (m_newAt, .inl (E.2.1 1, 24, .inl f_31))]) C 5 rfl (vp_in_nI (by omega) (by omega)) (ldn2 (by omega) ef_31) rfl dX12_keepOnly_23 ?_
        refine ww_iload_n C dX12_keepOnly_24 1 rfl rfl ?_
        refine ww_iload_n C dX12_keepOnly_25 4 rfl rfl ?_
        refine ww_iload C dX12_keepOnly_26 0 rfl ?_
        obtain ⟨x_32, ex_32⟩ : ∃ z : Int32, so >>> ((nI w1) &&& 31) = z := ⟨_, rfl⟩
        refine ww_ishr (v := x_32) C dX12_keepOnly_28 ex_32 ?_
        refine ww_iconst (v := 1) C dX12_keepOnly_29 rfl ?_
        obtain ⟨j_33, hj_33, ej_33⟩ := pk_andE x_32 (m := 1) 1 rfl
        refine ww_iand (v := (nI j_33)) C dX12_keepOnly_30 ej_33 ?_
        refine ww_iadd (v := (nI (c1 + j_33))) C dX12_keepOnly_31 (nI_add c1 j_33) ?_
        refine ww_istore_n (lv' := [(3, .int (nI (c1 + j_33))), (4, .int (nI w1)), (0, .ref hm), (1, .int (nI pa)), (2, .int so)]) C dX12_keepOnly_32 rfl rfl rfl ?_
        refine ww_iinc (j := 1) (v := (nI (w1 + 1))) (lv' := [(4, .int (nI (w1 + 1))), (3, .int (nI (c1 + j_33))), (0, .ref hm), (1, .int (nI pa)), (2, .int so)]) C dX12_keepOnly_33 rfl (nI_add w1 1) rfl rfl ?_
        refine ww_goto (tgt := 5) C dX12_keepOnly_36 (by decide) ?_
        exact ww_lv [0, 1, 2, 3, 4] rfl (ww_sub [0, 1, 2, 3, 4, 5] rfl rfl (ih_5 (w1 + 1) (c1 + j_33) f_31 (by omega) (by rw [cb_bit (j := j_33) (by omega) (by omega) (by assumption) (by assumption)]; omega) (NAx.ext hna hc1 ef_31) (by omega)))
  exact ww_lv [0, 1, 2, 3, 4] rfl (ww_sub [0, 1, 2, 3, 4, 5] rfl rfl (loop_5 _ 0 0 f_newAt (by omega) rfl NAx.zero (Nat.lt_succ_self _)))
end
section
/-! turns, as the reference takes them -/
def rTk (ft : Nat → Int32) : Nat → Option SVal := fun k => if 0 < (ft k).toInt then some sv0 else none
theorem rTk_n {ft : Nat → Int32} {j : Nat} (hj : j ≤ 7) (h : (nI j).toInt < 0 ∨ 7 < (nI j).toInt ∨ (ft (nI j).toNatClampNeg).toInt ≤ 0) : rTk ft j = none := by
  rw [nI_toInt (by omega), nI_clamp (by omega)] at h
  exact if_neg (by omega)
theorem rTk_s {ft : Nat → Int32} {j : Nat} (hj : j ≤ 7) (h : 0 < (ft (nI j).toNatClampNeg).toInt) : rTk ft j = some sv0 := by
  rw [nI_clamp (by omega)] at h
  exact if_pos h
theorem TKS.cg {T T' : Nat → Option SVal} {gr sg : Int32} {i : Nat} (h : ∀ k, k < 8 → (T k).isSome = (T' k).isSome) (h2 : TKS T gr sg i) : TKS T' gr sg i := fun k hk hg => by
  have h3 : sgI sg k < 8 := by
    unfold sgI
    obtain ⟨j, hj, e⟩ := pk_andE (sg >>> (nI (3 * k) &&& 31)) (m := 7) 3 rfl
    rw [e, nI_clamp (by omega)]; omega
  rw [← h _ h3]; exact h2 k hk hg
theorem canT_cg {T T' : Nat → Option SVal} {v0 v1 : Int32} (h : ∀ k, k < 8 → (T k).isSome = (T' k).isSome) (h2 : canT T v0 v1) : canT T' v0 v1 := ⟨h2.1, h2.2.1, h2.2.2.1, h2.2.2.2.1, h2.2.2.2.2.cg h⟩
theorem rTk_T {ft fm fa fw fo fn : Nat → Int32} : ∀ k, k < 8 → (rTk ft k).isSome = (rTT ft fm fa fw fo fn k).isSome := fun k _ => by
  unfold rTk rTT
  by_cases q : 0 < (ft k).toInt
  · rw [if_pos q, if_pos q]; rfl
  · rw [if_neg q, if_neg q]
theorem evK_9 {gr so r : Int32} {m : AM} {P : Nat → Bool} (h : BS r (evK 9 gr m (bt so))) (hP : BS so P) : BS r (vWh m gr P) := (evK_b h hP).cg (fun w _ => by
  unfold evK KB vWh; rw [if_pos (by decide)])
section STR
variable {m : AM} {ev : Nat → EVl} {T : Nat → Option SVal} {gr sg so r z q wh : Int32} {k : Nat}
theorem stS_0 (h : BS so (stS m ev T gr sg k)) (ha : askd T gr sg k = false) : BS so (stS m ev T gr sg (k + 1)) := h.cg (fun w _ => by
  show stS m ev T gr sg k w = (stS m ev T gr sg k w && (!askd T gr sg k || _))
  rw [ha]; exact (Bool.and_true _).symm)
theorem stS_y (h : BS so (stS m ev T gr sg k)) (ha : askd T gr sg k = true) (hr : BS r (aKn m ev T sg k)) (h32 : m.2.1 < 32) (hb : bt r m.2.1 = true) (e : so &&& r = z) : BS z (stS m ev T gr sg (k + 1)) := (BS.and h hr e).cg (fun w _ => by
  show (stS m ev T gr sg k w && aKn m ev T sg k w) = (stS m ev T gr sg k w && (!askd T gr sg k || (if aKn m ev T sg k m.2.1 = true then aKn m ev T sg k w else !aKn m ev T sg k w)))
  rw [ha, if_pos (by rw [← hr m.2.1 h32]; exact hb)]; rfl)
theorem stS_n (h : BS so (stS m ev T gr sg k)) (ha : askd T gr sg k = true) (hr : BS r (aKn m ev T sg k)) (h32 : m.2.1 < 32) (hb : bt r m.2.1 = false) (e1 : r ^^^ (-1 : Int32) = q) (e : so &&& q = z) : BS z (stS m ev T gr sg (k + 1)) := (BS.and h (BS.not hr e1) e).cg (fun w _ => by
  show (stS m ev T gr sg k w && !aKn m ev T sg k w) = (stS m ev T gr sg k w && (!askd T gr sg k || (if aKn m ev T sg k m.2.1 = true then aKn m ev T sg k w else !aKn m ev T sg k w)))
  rw [ha, if_neg (by rw [← hr m.2.1 h32, hb]; exact Bool.false_ne_true)]; rfl)
theorem knS_0 (h : BS wh (knS m ev T gr sg k)) (ha : askd T gr sg k = false) : BS wh (knS m ev T gr sg (k + 1)) := h.cg (fun i _ => by
  show (decide (i < k) && (askd T gr sg i && aKn m ev T sg i m.2.1)) = (decide (i < k + 1) && (askd T gr sg i && aKn m ev T sg i m.2.1))
  by_cases c : i = k
  · rw [c, ha, Bool.false_and, Bool.and_false, Bool.and_false]
  · rw [dec_cg (show i < k ↔ i < k + 1 by omega)])
theorem knS_b {s y : Int32} {j : Nat} (h : BS wh (knS m ev T gr sg k)) (hk : k ≤ 30) (ha : askd T gr sg k = true) (hr : BS r (aKn m ev T sg k)) (h32 : m.2.1 < 32) (e1 : r >>> (nI m.2.1 &&& 31) = s) (e2 : s &&& 1 = nI j) (hj : j < 2) (e3 : nI j <<< (nI k &&& 31) = y) (e : wh ||| y = z) : BS z (knS m ev T gr sg (k + 1)) := fun i hi => by
  have h0 : bt wh i = (decide (i < k) && (askd T gr sg i && aKn m ev T sg i m.2.1)) := h i hi
  rw [← e, b_or, h0]
  show _ = (decide (i < k + 1) && (askd T gr sg i && aKn m ev T sg i m.2.1))
  have hy : bt y i = (decide (i = k) && decide (j = 1)) := by
    rcases (show j = 0 ∨ j = 1 by omega) with q | q
    · subst q; rw [← e3, z_shl k (by omega), b_0]; exact (Bool.and_false _).symm
    · subst q
      have h1 := one_b hk i hi
      rw [← e3]
      exact h1.trans (Bool.and_true _).symm
  have hv : aKn m ev T sg k m.2.1 = decide (j = 1) := by
    rw [← hr m.2.1 h32]
    rcases (show j = 0 ∨ j = 1 by omega) with q | q
    · rw [hasb_0 h32 e1 e2 q, q]; rfl
    · rw [hasb_1 h32 e1 e2 q, q]; rfl
  rw [hy]
  by_cases c : i = k
  · rw [c, hv, ha, decide_eq_false (Nat.lt_irrefl k), decide_eq_true rfl, decide_eq_true (show k < k + 1 by omega), Bool.false_and, Bool.false_or]
    rfl
  · rw [decide_eq_false c, Bool.false_and, Bool.or_false, dec_cg (show i < k ↔ i < k + 1 by omega)]
end STR
theorem dX12_areAsked_0 : decode cX12_areAsked 0 = .ok (.iload_n 1, 1) := dl_27 (by decide +kernel)
theorem dX12_areAsked_1 : decode cX12_areAsked 1 = .ok (.i2l, 1) := dl_133 (by decide +kernel)
theorem dX12_areAsked_2 : decode cX12_areAsked 2 = .ok (.lconst 1, 1) := dl_10 (by decide +kernel)
theorem dX12_areAsked_3 : decode cX12_areAsked 3 = .ok (.ldc2_w 119, 3) := dl_20 (by decide +kernel)
theorem dX12_areAsked_6 : decode cX12_areAsked 6 = .ok (.invokestatic 115, 3) := dl_184 (by decide +kernel)
theorem dX12_areAsked_9 : decode cX12_areAsked 9 = .ok (.ifCond .eq 19, 3) := dl_153 (by decide +kernel)
theorem dX12_areAsked_12 : decode cX12_areAsked 12 = .ok (.iload_n 2, 1) := dl_28 (by decide +kernel)
theorem dX12_areAsked_13 : decode cX12_areAsked 13 = .ok (.i2l, 1) := dl_133 (by decide +kernel)
theorem dX12_areAsked_14 : decode cX12_areAsked 14 = .ok (.lconst 0, 1) := dl_9 (by decide +kernel)
theorem dX12_areAsked_15 : decode cX12_areAsked 15 = .ok (.ldc2_w 310, 3) := dl_20 (by decide +kernel)
theorem wv_X12_310 : Cond.constantLong RX12 310 4095 ∈ TB := tbm (tq7 (List.mem_of_getElem? (i := 25) (by decide +kernel))) (by decide +kernel)
theorem dX12_areAsked_18 : decode cX12_areAsked 18 = .ok (.invokestatic 115, 3) := dl_184 (by decide +kernel)
theorem dX12_areAsked_21 : decode cX12_areAsked 21 = .ok (.ifCond .eq 7, 3) := dl_153 (by decide +kernel)
theorem dX12_areAsked_24 : decode cX12_areAsked 24 = .ok (.iconst 1, 1) := dl_4 (by decide +kernel)
theorem dX12_areAsked_25 : decode cX12_areAsked 25 = .ok (.goto 4, 3) := dl_167 (by decide +kernel)
theorem dX12_areAsked_29 : decode cX12_areAsked 29 = .ok (.istore_n 3, 1) := dl_62 (by decide +kernel)
theorem dX12_areAsked_30 : decode cX12_areAsked 30 = .ok (.iconst 0, 1) := dl_3 (by decide +kernel)
theorem dX12_areAsked_31 : decode cX12_areAsked 31 = .ok (.istore 4, 2) := dl_54 (by decide +kernel)
theorem dX12_areAsked_33 : decode cX12_areAsked 33 = .ok (.iload 4, 2) := dl_21 (by decide +kernel)
theorem dX12_areAsked_35 : decode cX12_areAsked 35 = .ok (.iconst 4, 1) := dl_7 (by decide +kernel)
theorem dX12_areAsked_36 : decode cX12_areAsked 36 = .ok (.if_icmp .ge 44, 3) := dl_162 (by decide +kernel)
theorem dX12_areAsked_80 : decode cX12_areAsked 80 = .ok (.iload_n 3, 1) := dl_29 (by decide +kernel)
theorem dX12_areAsked_81 : decode cX12_areAsked 81 = .ok (.ireturn, 1) := dl_172 (by decide +kernel)
theorem dX12_areAsked_39 : decode cX12_areAsked 39 = .ok (.iload_n 3, 1) := dl_29 (by decide +kernel)
theorem dX12_areAsked_40 : decode cX12_areAsked 40 = .ok (.ifCond .eq 40, 3) := dl_153 (by decide +kernel)
theorem dX12_areAsked_43 : decode cX12_areAsked 43 = .ok (.iload_n 1, 1) := dl_27 (by decide +kernel)
theorem dX12_areAsked_44 : decode cX12_areAsked 44 = .ok (.iload 4, 2) := dl_21 (by decide +kernel)
theorem dX12_areAsked_46 : decode cX12_areAsked 46 = .ok (.ishr, 1) := dl_122 (by decide +kernel)
theorem dX12_areAsked_47 : decode cX12_areAsked 47 = .ok (.iconst 1, 1) := dl_4 (by decide +kernel)
theorem dX12_areAsked_48 : decode cX12_areAsked 48 = .ok (.iand, 1) := dl_126 (by decide +kernel)
theorem dX12_areAsked_49 : decode cX12_areAsked 49 = .ok (.ifCond .eq 19, 3) := dl_153 (by decide +kernel)
theorem dX12_areAsked_68 : decode cX12_areAsked 68 = .ok (.iconst 1, 1) := dl_4 (by decide +kernel)
theorem dX12_areAsked_69 : decode cX12_areAsked 69 = .ok (.goto 4, 3) := dl_167 (by decide +kernel)
theorem dX12_areAsked_73 : decode cX12_areAsked 73 = .ok (.istore_n 3, 1) := dl_62 (by decide +kernel)
theorem dX12_areAsked_74 : decode cX12_areAsked 74 = .ok (.iinc 4 1, 3) := dl_132 (by decide +kernel)
theorem dX12_areAsked_77 : decode cX12_areAsked 77 = .ok (.goto (-44), 3) := dl_167 (by decide +kernel)
theorem dX12_areAsked_52 : decode cX12_areAsked 52 = .ok (.aload_n 0, 1) := dl_42 (by decide +kernel)
theorem dX12_areAsked_53 : decode cX12_areAsked 53 = .ok (.iload_n 2, 1) := dl_28 (by decide +kernel)
theorem dX12_areAsked_54 : decode cX12_areAsked 54 = .ok (.iconst 3, 1) := dl_6 (by decide +kernel)
theorem dX12_areAsked_55 : decode cX12_areAsked 55 = .ok (.iload 4, 2) := dl_21 (by decide +kernel)
theorem dX12_areAsked_57 : decode cX12_areAsked 57 = .ok (.imul, 1) := dl_104 (by decide +kernel)
theorem dX12_areAsked_58 : decode cX12_areAsked 58 = .ok (.ishr, 1) := dl_122 (by decide +kernel)
theorem dX12_areAsked_59 : decode cX12_areAsked 59 = .ok (.bipush 7, 2) := dl_16 (by decide +kernel)
theorem dX12_areAsked_61 : decode cX12_areAsked 61 = .ok (.iand, 1) := dl_126 (by decide +kernel)
theorem dX12_areAsked_62 : decode cX12_areAsked 62 = .ok (.invokevirtual 224, 3) := dl_182 (by decide +kernel)
theorem dX12_areAsked_65 : decode cX12_areAsked 65 = .ok (.ifCond .eq 7, 3) := dl_153 (by decide +kernel)
theorem dX12_areAsked_72 : decode cX12_areAsked 72 = .ok (.iconst 0, 1) := dl_3 (by decide +kernel)
theorem dX12_areAsked_28 : decode cX12_areAsked 28 = .ok (.iconst 0, 1) := dl_3 (by decide +kernel)
set_option maxRecDepth 100000 in
set_option maxHeartbeats 4000000 in
theorem r_areAsked (l : Launch) (E : EV) (ro : va_W) (hm : Nat) (v0 : Int32) (v1 : Int32) (m_manys : Nat) (m_reals : Nat) (m_factsOf : Nat) (m_possible : Nat) (q_undos : Nat) (q_models : Nat) (m_tape : Nat) (q_taped : Nat) (q_fault : Int32) (q_wrong : Int32) (q_wrongAt : Int32) (q_spot : Int32) (q_place : Int32) (q_token : Int32) (q_value : Int32) (m_ends : Nat) (m_letters : Nat) (m_actOf : Nat) (m_whom : Nat) (m_actMany : Nat) (m_tokens : Nat) (m_afters : Nat) (m_afterOf : Nat) (q_counted : Int32) (m_pile : Nat) (m_caseMany : Nat) (m_happen : Nat) (m_hasIf : Nat) (m_becomes : Nat) (m_goneOf : Nat) (m_heard : Nat) (m_pairs : Nat) (m_heaps : Nat) (q_rounds : Int32) (q_heapMany : Int32) (m_led : Nat) (m_newAt : Nat) (m_knowing : Nat) (m_firsts : Nat) (q_people : Nat) (m_secrets : Nat) (m_tried : Nat) (m_lanes : Nat) (m_lengths : Nat) (m_cells : Nat) (f_tokens : Nat → Int32)  : CT l yX12_areAsked (Cond.code yX12_areAsked cX12_areAsked 5 (some .boolean) :: TB) ({ frames := 2, cells := 0, slots := 0, locals := 46 }) E ro [.ref hm, .int v0, .int v1] [(hm, .inr (12, [.ref m_manys, .ref m_reals, .ref m_factsOf, .ref m_possible, .int (nI q_undos), .int (nI q_models), .ref m_tape, .int (nI q_taped), .int q_fault, .int q_wrong, .int q_wrongAt, .int q_spot, .int q_place, .int q_token, .int q_value, .ref m_ends, .ref m_letters, .ref m_actOf, .ref m_whom, .ref m_actMany, .ref m_tokens, .ref m_afters, .ref m_afterOf, .int q_counted, .ref m_pile, .ref m_caseMany, .ref m_happen, .ref m_hasIf, .ref m_becomes, .ref m_goneOf, .ref m_heard, .ref m_pairs, .ref m_heaps, .int q_rounds, .int q_heapMany, .ref m_led, .ref m_newAt, .ref m_knowing, .ref m_firsts, .int (nI q_people), .ref m_secrets, .ref m_tried, .ref m_lanes, .ref m_lengths, .ref m_cells])), (m_tokens, .inl (E.2.1 1, 9, .inl f_tokens))] (Qi E (fun (rz : Int32) uz => (rz = 1 ∧ uz = [(hm, .inr (12, [.ref m_manys, .ref m_reals, .ref m_factsOf, .ref m_possible, .int (nI q_undos), .int (nI q_models), .ref m_tape, .int (nI q_taped), .int q_fault, .int q_wrong, .int q_wrongAt, .int q_spot, .int q_place, .int q_token, .int q_value, .ref m_ends, .ref m_letters, .ref m_actOf, .ref m_whom, .ref m_actMany, .ref m_tokens, .ref m_afters, .ref m_afterOf, .int q_counted, .ref m_pile, .ref m_caseMany, .ref m_happen, .ref m_hasIf, .ref m_becomes, .ref m_goneOf, .ref m_heard, .ref m_pairs, .ref m_heaps, .int q_rounds, .int q_heapMany, .ref m_led, .ref m_newAt, .ref m_knowing, .ref m_firsts, .int (nI q_people), .ref m_secrets, .ref m_tried, .ref m_lanes, .ref m_lengths, .ref m_cells])), (m_tokens, .inl (E.2.1 1, 9, .inl f_tokens))] ∧ (canT (rTk f_tokens) v0 v1)) ∨ (rz = 0 ∧ uz = [(hm, .inr (12, [.ref m_manys, .ref m_reals, .ref m_factsOf, .ref m_possible, .int (nI q_undos), .int (nI q_models), .ref m_tape, .int (nI q_taped), .int q_fault, .int q_wrong, .int q_wrongAt, .int q_spot, .int q_place, .int q_token, .int q_value, .ref m_ends, .ref m_letters, .ref m_actOf, .ref m_whom, .ref m_actMany, .ref m_tokens, .ref m_afters, .ref m_afterOf, .int q_counted, .ref m_pile, .ref m_caseMany, .ref m_happen, .ref m_hasIf, .ref m_becomes, .ref m_goneOf, .ref m_heard, .ref m_pairs, .ref m_heaps, .int q_rounds, .int q_heapMany, .ref m_led, .ref m_newAt, .ref m_knowing, .ref m_firsts, .int (nI q_people), .ref m_secrets, .ref m_tried, .ref m_lanes, .ref m_lengths, .ref m_cells])), (m_tokens, .inl (E.2.1 1, 9, .inl f_tokens))] ∧ (¬ canT (rTk f_tokens) v0 v1)))) 0 0 := by
  refine ct_of rfl rfl ?_
  intro X C hT hin hro
  show WW X 5 E 0 [(0, .ref hm), (1, .int v0), (2, .int v1)] [] [(hm, .inr (12, [.ref m_manys, .ref m_reals, .ref m_factsOf, .ref m_possible, .int (nI q_undos), .int (nI q_models), .ref m_tape, .int (nI q_taped), .int q_fault, .int q_wrong, .int q_wrongAt, .int q_spot, .int q_place, .int q_token, .int q_value, .ref m_ends, .ref m_letters, .ref m_actOf, .ref m_whom, .ref m_actMany, .ref m_tokens, .ref m_afters, .ref m_afterOf, .int q_counted, .ref m_pile, .ref m_caseMany, .ref m_happen, .ref m_hasIf, .ref m_becomes, .ref m_goneOf, .ref m_heard, .ref m_pairs, .ref m_heaps, .int q_rounds, .int q_heapMany, .ref m_led, .ref m_newAt, .ref m_knowing, .ref m_firsts, .int (nI q_people), .ref m_secrets, .ref m_tried, .ref m_lanes, .ref m_lengths, .ref m_cells])), (m_tokens, .inl (E.2.1 1, 9, .inl f_tokens))] 0 0
  refine ww_iload_n C dX12_areAsked_0 1 rfl rfl ?_
  refine ww_i2l (v := v0.toInt64) C dX12_areAsked_1 rfl ?_
  refine ww_lconst (v := 1) C dX12_areAsked_2 rfl ?_
  refine ww_ldc2 C wv_X12_119 dX12_areAsked_3 ?_
  refine ww_ci (wr := [(hm, .inr (12, [.ref m_manys, .ref m_reals, .ref m_factsOf, .ref m_possible, .int (nI q_undos), .int (nI q_models), .ref m_tape, .int (nI q_taped), .int q_fault, .int q_wrong, .int q_wrongAt, .int q_spot, .int q_place, .int q_token, .int q_value, .ref m_ends, .ref m_letters, .ref m_actOf, .ref m_whom, .ref m_actMany, .ref m_tokens, .ref m_afters, .ref m_afterOf, .int q_counted, .ref m_pile, .ref m_caseMany, .ref m_happen, .ref m_hasIf, .ref m_becomes, .ref m_goneOf, .ref m_heard, .ref m_pairs, .ref m_heaps, .int q_rounds, .int q_heapMany, .ref m_led, .ref m_newAt, .ref m_knowing, .ref m_firsts, .int (nI q_people), .ref m_secrets, .ref m_tried, .ref m_lanes, .ref m_lengths, .ref m_cells])), (m_tokens, .inl (E.2.1 1, 9, .inl f_tokens))]) (k' := 0) (n' := 0) C (run_S (As := [.long v0.toInt64, .long 1, .long 15]) (rest := []) C (r_in X.2.1 E ro v0.toInt64 1 15 v0.toInt 1 15 (Int32.toInt_toInt64 _) rfl rfl) ms_X12_in wl_X12_115 rfl rfl rfl rfl dX12_areAsked_6) (roK hro) [] [0, 1] rfl rfl rfl rfl (fun r_1 uz hw => ?_)
  rcases hw with hw | hw
  · refine an3 hw ?_
    clear hw
    intro he_4 he_5 h_2 hw
    have h_3 := hw
    clear hw
    have he_4 := he_4.symm
    subst he_4
    subst he_5
    refine ww_eq (ws' := [(hm, .inr (12, [.ref m_manys, .ref m_reals, .ref m_factsOf, .ref m_possible, .int (nI q_undos), .int (nI q_models), .ref m_tape, .int (nI q_taped), .int q_fault, .int q_wrong, .int q_wrongAt, .int q_spot, .int q_place, .int q_token, .int q_value, .ref m_ends, .ref m_letters, .ref m_actOf, .ref m_whom, .ref m_actMany, .ref m_tokens, .ref m_afters, .ref m_afterOf, .int q_counted, .ref m_pile, .ref m_caseMany, .ref m_happen, .ref m_hasIf, .ref m_becomes, .ref m_goneOf, .ref m_heard, .ref m_pairs, .ref m_heaps, .int q_rounds, .int q_heapMany, .ref m_led, .ref m_newAt, .ref m_knowing, .ref m_firsts, .int (nI q_people), .ref m_secrets, .ref m_tried, .ref m_lanes, .ref m_lengths, .ref m_cells])), (m_tokens, .inl (E.2.1 1, 9, .inl f_tokens))]) ?_ rfl rfl rfl
    refine ww_if_eq_f (tgt := 28) C dX12_areAsked_9 (by decide) (by decide) ?_
    refine ww_iload_n C dX12_areAsked_12 2 rfl rfl ?_
    refine ww_i2l (v := v1.toInt64) C dX12_areAsked_13 rfl ?_
    refine ww_lconst (v := 0) C dX12_areAsked_14 rfl ?_
    refine ww_ldc2 C wv_X12_310 dX12_areAsked_15 ?_
    refine ww_ci (wr := [(hm, .inr (12, [.ref m_manys, .ref m_reals, .ref m_factsOf, .ref m_possible, .int (nI q_undos), .int (nI q_models), .ref m_tape, .int (nI q_taped), .int q_fault, .int q_wrong, .int q_wrongAt, .int q_spot, .int q_place, .int q_token, .int q_value, .ref m_ends, .ref m_letters, .ref m_actOf, .ref m_whom, .ref m_actMany, .ref m_tokens, .ref m_afters, .ref m_afterOf, .int q_counted, .ref m_pile, .ref m_caseMany, .ref m_happen, .ref m_hasIf, .ref m_becomes, .ref m_goneOf, .ref m_heard, .ref m_pairs, .ref m_heaps, .int q_rounds, .int q_heapMany, .ref m_led, .ref m_newAt, .ref m_knowing, .ref m_firsts, .int (nI q_people), .ref m_secrets, .ref m_tried, .ref m_lanes, .ref m_lengths, .ref m_cells])), (m_tokens, .inl (E.2.1 1, 9, .inl f_tokens))]) (k' := 0) (n' := 0) C (run_S (As := [.long v1.toInt64, .long 0, .long 4095]) (rest := []) C (r_in X.2.1 E ro v1.toInt64 0 4095 v1.toInt 0 4095 (Int32.toInt_toInt64 _) rfl rfl) ms_X12_in wl_X12_115 rfl rfl rfl rfl dX12_areAsked_18) (roK hro) [] [0, 1] rfl rfl rfl rfl (fun r_9 uz hw => ?_)
    rcases hw with hw | hw
    · refine an3 hw ?_
      clear hw
      intro he_12 he_13 h_10 hw
      have h_11 := hw
      clear hw
      have he_12 := he_12.symm
      subst he_12
      subst he_13
      refine ww_eq (ws' := [(hm, .inr (12, [.ref m_manys, .ref m_reals, .ref m_factsOf, .ref m_possible, .int (nI q_undos), .int (nI q_models), .ref m_tape, .int (nI q_taped), .int q_fault, .int q_wrong, .int q_wrongAt, .int q_spot, .int q_place, .int q_token, .int q_value, .ref m_ends, .ref m_letters, .ref m_actOf, .ref m_whom, .ref m_actMany, .ref m_tokens, .ref m_afters, .ref m_afterOf, .int q_counted, .ref m_pile, .ref m_caseMany, .ref m_happen, .ref m_hasIf, .ref m_becomes, .ref m_goneOf, .ref m_heard, .ref m_pairs, .ref m_heaps, .int q_rounds, .int q_heapMany, .ref m_led, .ref m_newAt, .ref m_knowing, .ref m_firsts, .int (nI q_people), .ref m_secrets, .ref m_tried, .ref m_lanes, .ref m_lengths, .ref m_cells])), (m_tokens, .inl (E.2.1 1, 9, .inl f_tokens))]) ?_ rfl rfl rfl
      refine ww_if_eq_f (tgt := 28) C dX12_areAsked_21 (by decide) (by decide) ?_
      refine ww_iconst (v := 1) C dX12_areAsked_24 rfl ?_
      refine ww_goto (tgt := 29) C dX12_areAsked_25 (by decide) ?_
      refine ww_istore_n (lv' := [(3, .int 1), (0, .ref hm), (1, .int v0), (2, .int v1)]) C dX12_areAsked_29 rfl rfl rfl ?_
      refine ww_iconst (v := 0) C dX12_areAsked_30 rfl ?_
      refine ww_istore (lv' := [(4, .int 0), (3, .int 1), (0, .ref hm), (1, .int v0), (2, .int v1)]) C dX12_areAsked_31 rfl rfl ?_
      have loop_33 : ∀ (fu : Nat) (k1 : Nat) (a1 : Nat), (k1 ≤ 4) → (a1 ≤ 1) → (a1 = 1 → TKS (rTk f_tokens) v0 v1 k1) → (a1 = 0 → ¬ TKS (rTk f_tokens) v0 v1 4) → 4 - k1 < fu → WW X 5 E 33 [(4, .int (nI k1)), (3, .int (nI a1)), (0, .ref hm), (1, .int v0), (2, .int v1)] [] [(hm, .inr (12, [.ref m_manys, .ref m_reals, .ref m_factsOf, .ref m_possible, .int (nI q_undos), .int (nI q_models), .ref m_tape, .int (nI q_taped), .int q_fault, .int q_wrong, .int q_wrongAt, .int q_spot, .int q_place, .int q_token, .int q_value, .ref m_ends, .ref m_letters, .ref m_actOf, .ref m_whom, .ref m_actMany, .ref m_tokens, .ref m_afters, .ref m_afterOf, .int q_counted, .ref m_pile, .ref m_caseMany, .ref m_happen, .ref m_hasIf, .ref m_becomes, .ref m_goneOf, .ref m_heard, .ref m_pairs, .ref m_heaps, .int q_rounds, .int q_heapMany, .ref m_led, .ref m_newAt, .ref m_knowing, .ref m_firsts, .int (nI q_people), .ref m_secrets, .ref m_tried, .ref m_lanes, .ref m_lengths, .ref m_cells])), (m_tokens, .inl (E.2.1 1, 9, .inl f_tokens))] 0 0 := by
        intro fu
        induction fu with
        | zero => intro k1 a1 hk1 ha1 hyes hno hmeas; exact absurd hmeas (Nat.not_lt_zero _)
        | succ fu ih_33 =>
          intro k1 a1 hk1 ha1 hyes hno hmeas
          refine ww_iload C dX12_areAsked_33 0 rfl ?_
          refine ww_iconst (v := 4) C dX12_areAsked_35 rfl ?_
          refine ww_icmp_ge (tgt := 80) C dX12_areAsked_36 (by decide) (fun c_17 => ?_) (fun c_17 => ?_)
          · have zc_17 : ((k1 : Nat) : Int) ≥ 4 := i_le rfl (nI_toInt (n := k1) (by omega)) c_17
            rcases (show a1 = 0 ∨ a1 = 1 by omega) with rfl | rfl
            · refine ww_iload_n C dX12_areAsked_80 1 rfl rfl ?_
              exact ww_zret (u := [(hm, .inr (12, [.ref m_manys, .ref m_reals, .ref m_factsOf, .ref m_possible, .int (nI q_undos), .int (nI q_models), .ref m_tape, .int (nI q_taped), .int q_fault, .int q_wrong, .int q_wrongAt, .int q_spot, .int q_place, .int q_token, .int q_value, .ref m_ends, .ref m_letters, .ref m_actOf, .ref m_whom, .ref m_actMany, .ref m_tokens, .ref m_afters, .ref m_afterOf, .int q_counted, .ref m_pile, .ref m_caseMany, .ref m_happen, .ref m_hasIf, .ref m_becomes, .ref m_goneOf, .ref m_heard, .ref m_pairs, .ref m_heaps, .int q_rounds, .int q_heapMany, .ref m_led, .ref m_newAt, .ref m_knowing, .ref m_firsts, .int (nI q_people), .ref m_secrets, .ref m_tried, .ref m_lanes, .ref m_lengths, .ref m_cells])), (m_tokens, .inl (E.2.1 1, 9, .inl f_tokens))]) C hT [0, 1] rfl rfl rfl rfl rfl dX12_areAsked_81 (Or.inr ⟨rfl, rfl, (fun h9 => hno (by omega) h9.2.2.2.2)⟩)
            · refine ww_iload_n C dX12_areAsked_80 1 rfl rfl ?_
              exact ww_zret (u := [(hm, .inr (12, [.ref m_manys, .ref m_reals, .ref m_factsOf, .ref m_possible, .int (nI q_undos), .int (nI q_models), .ref m_tape, .int (nI q_taped), .int q_fault, .int q_wrong, .int q_wrongAt, .int q_spot, .int q_place, .int q_token, .int q_value, .ref m_ends, .ref m_letters, .ref m_actOf, .ref m_whom, .ref m_actMany, .ref m_tokens, .ref m_afters, .ref m_afterOf, .int q_counted, .ref m_pile, .ref m_caseMany, .ref m_happen, .ref m_hasIf, .ref m_becomes, .ref m_goneOf, .ref m_heard, .ref m_pairs, .ref m_heaps, .int q_rounds, .int q_heapMany, .ref m_led, .ref m_newAt, .ref m_knowing, .ref m_firsts, .int (nI q_people), .ref m_secrets, .ref m_tried, .ref m_lanes, .ref m_lengths, .ref m_cells])), (m_tokens, .inl (E.2.1 1, 9, .inl f_tokens))]) C hT [0, 1] rfl rfl rfl rfl rfl dX12_areAsked_81 (Or.inl ⟨rfl, rfl, ⟨by omega, by omega, by omega, by omega, by have h9 : k1 = 4 := (by omega); have h8 := hyes (by omega); rw [h9] at h8; exact h8⟩⟩)
          · have zc_17 : ((k1 : Nat) : Int) < 4 := i_nle rfl (nI_toInt (n := k1) (by omega)) c_17
            refine ww_iload_n C dX12_areAsked_39 1 rfl rfl ?_
            refine ww_if_eq (tgt := 80) C dX12_areAsked_40 (by decide) (fun c_18 => ?_) (fun c_18 => ?_)
            · have zc_18 : ((a1 : Nat) : Int) = 0 := i_eq (nI_toInt (n := a1) (by omega)) rfl c_18
              rcases (show a1 = 0 ∨ a1 = 1 by omega) with rfl | rfl
              · refine ww_iload_n C dX12_areAsked_80 1 rfl rfl ?_
                exact ww_zret (u := [(hm, .inr (12, [.ref m_manys, .ref m_reals, .ref m_factsOf, .ref m_possible, .int (nI q_undos), .int (nI q_models), .ref m_tape, .int (nI q_taped), .int q_fault, .int q_wrong, .int q_wrongAt, .int q_spot, .int q_place, .int q_token, .int q_value, .ref m_ends, .ref m_letters, .ref m_actOf, .ref m_whom, .ref m_actMany, .ref m_tokens, .ref m_afters, .ref m_afterOf, .int q_counted, .ref m_pile, .ref m_caseMany, .ref m_happen, .ref m_hasIf, .ref m_becomes, .ref m_goneOf, .ref m_heard, .ref m_pairs, .ref m_heaps, .int q_rounds, .int q_heapMany, .ref m_led, .ref m_newAt, .ref m_knowing, .ref m_firsts, .int (nI q_people), .ref m_secrets, .ref m_tried, .ref m_lanes, .ref m_lengths, .ref m_cells])), (m_tokens, .inl (E.2.1 1, 9, .inl f_tokens))]) C hT [0, 1] rfl rfl rfl rfl rfl dX12_areAsked_81 (Or.inr ⟨rfl, rfl, (fun h9 => hno (by omega) h9.2.2.2.2)⟩)
              · refine ww_iload_n C dX12_areAsked_80 1 rfl rfl ?_
                exact ww_zret (u := [(hm, .inr (12, [.ref m_manys, .ref m_reals, .ref m_factsOf, .ref m_possible, .int (nI q_undos), .int (nI q_models), .ref m_tape, .int (nI q_taped), .int q_fault, .int q_wrong, .int q_wrongAt, .int q_spot, .int q_place, .int q_token, .int q_value, .ref m_ends, .ref m_letters, .ref m_actOf, .ref m_whom, .ref m_actMany, .ref m_tokens, .ref m_afters, .ref m_afterOf, .int q_counted, .ref m_pile, .ref m_caseMany, .ref m_happen, .ref m_hasIf, .ref m_becomes, .ref m_goneOf, .ref m_heard, .ref m_pairs, .ref m_heaps, .int q_rounds, .int q_heapMany, .ref m_led, .ref m_newAt, .ref m_knowing, .ref m_firsts, .int (nI q_people), .ref m_secrets, .ref m_tried, .ref m_lanes, .ref m_lengths, .ref m_cells])), (m_tokens, .inl (E.2.1 1, 9, .inl f_tokens))]) C hT [0, 1] rfl rfl rfl rfl rfl dX12_areAsked_81 (Or.inl ⟨rfl, rfl, ⟨by omega, by omega, by omega, by omega, by have h9 : k1 = 4 := (by omega); have h8 := hyes (by omega); rw [h9] at h8; exact h8⟩⟩)
            · have zc_18 : ((a1 : Nat) : Int) ≠ 0 := i_ne (nI_toInt (n := a1) (by omega)) rfl c_18
              refine ww_iload_n C dX12_areAsked_43 3 rfl rfl ?_
              refine ww_iload C dX12_areAsked_44 0 rfl ?_
              obtain ⟨x_19, ex_19⟩ : ∃ z : Int32, v0 >>> ((nI k1) &&& 31) = z := ⟨_, rfl⟩
              refine ww_ishr (v := x_19) C dX12_areAsked_46 ex_19 ?_
              refine ww_iconst (v := 1) C dX12_areAsked_47 rfl ?_
              obtain ⟨j_20, hj_20, ej_20⟩ := pk_andE x_19 (m := 1) 1 rfl
              refine ww_iand (v := (nI j_20)) C dX12_areAsked_48 ej_20 ?_
              refine ww_if_eq (tgt := 68) C dX12_areAsked_49 (by decide) (fun c_21 => ?_) (fun c_21 => ?_)
              · have zc_21 : ((j_20 : Nat) : Int) = 0 := i_eq (nI_toInt (n := j_20) (by omega)) rfl c_21
                refine ww_iconst (v := 1) C dX12_areAsked_68 rfl ?_
                refine ww_goto (tgt := 73) C dX12_areAsked_69 (by decide) ?_
                refine ww_istore_n (lv' := [(3, .int 1), (4, .int (nI k1)), (0, .ref hm), (1, .int v0), (2, .int v1)]) C dX12_areAsked_73 rfl rfl rfl ?_
                refine ww_iinc (j := 1) (v := (nI (k1 + 1))) (lv' := [(4, .int (nI (k1 + 1))), (3, .int 1), (0, .ref hm), (1, .int v0), (2, .int v1)]) C dX12_areAsked_74 rfl (nI_add k1 1) rfl rfl ?_
                refine ww_goto (tgt := 33) C dX12_areAsked_77 (by decide) ?_
                exact ww_lv [0, 1, 2, 3, 4] rfl (ww_sub [0, 1] rfl rfl (ih_33 (k1 + 1) 1 (by omega) (by omega) (fun _ => TKS.f (hyes (by omega)) (hasb_0 (b := v0) (p := k1) (by omega) (by assumption) (by assumption) (by omega))) (fun h9 => absurd h9 (by decide)) (by omega)))
              · have zc_21 : ((j_20 : Nat) : Int) ≠ 0 := i_ne (nI_toInt (n := j_20) (by omega)) rfl c_21
                refine ww_aload_n C dX12_areAsked_52 2 rfl rfl ?_
                refine ww_iload_n C dX12_areAsked_53 4 rfl rfl ?_
                refine ww_iconst (v := 3) C dX12_areAsked_54 rfl ?_
                refine ww_iload C dX12_areAsked_55 0 rfl ?_
                refine ww_imul (v := (nI (3 * k1))) C dX12_areAsked_57 (pk_mul 3 k1) ?_
                obtain ⟨x_22, ex_22⟩ : ∃ z : Int32, v1 >>> ((nI (3 * k1)) &&& 31) = z := ⟨_, rfl⟩
                refine ww_ishr (v := x_22) C dX12_areAsked_58 ex_22 ?_
                refine ww_bipush (v := 7) C dX12_areAsked_59 rfl ?_
                obtain ⟨j_23, hj_23, ej_23⟩ := pk_andE x_22 (m := 7) 3 rfl
                refine ww_iand (v := (nI j_23)) C dX12_areAsked_61 ej_23 ?_
                refine ww_ci (wr := []) (k' := 0) (n' := 0) C (run_V (As := [.int (nI j_23)]) (rest := []) C (r_isSaying X.2.1 E ro hm (nI j_23) m_manys m_reals m_factsOf m_possible q_undos q_models m_tape q_taped q_fault q_wrong q_wrongAt q_spot q_place q_token q_value m_ends m_letters m_actOf m_whom m_actMany m_tokens m_afters m_afterOf q_counted m_pile m_caseMany m_happen m_hasIf m_becomes m_goneOf m_heard m_pairs m_heaps q_rounds q_heapMany m_led m_newAt m_knowing m_firsts q_people m_secrets m_tried m_lanes m_lengths m_cells f_tokens) mi_X12_isSaying wl_X12_224 rfl 0 12 rfl rfl rfl rfl rfl dX12_areAsked_62) (roK hro) [0, 1] [] rfl rfl rfl rfl (fun r_24 uz hw => ?_)
                rcases hw with hw | hw
                · refine an4 hw ?_
                  clear hw
                  intro he_28 he_29 h_25 h_26 hw
                  have h_27 := hw
                  clear hw
                  have he_28 := he_28.symm
                  subst he_28
                  subst he_29
                  refine ww_eq (ws' := [(hm, .inr (12, [.ref m_manys, .ref m_reals, .ref m_factsOf, .ref m_possible, .int (nI q_undos), .int (nI q_models), .ref m_tape, .int (nI q_taped), .int q_fault, .int q_wrong, .int q_wrongAt, .int q_spot, .int q_place, .int q_token, .int q_value, .ref m_ends, .ref m_letters, .ref m_actOf, .ref m_whom, .ref m_actMany, .ref m_tokens, .ref m_afters, .ref m_afterOf, .int q_counted, .ref m_pile, .ref m_caseMany, .ref m_happen, .ref m_hasIf, .ref m_becomes, .ref m_goneOf, .ref m_heard, .ref m_pairs, .ref m_heaps, .int q_rounds, .int q_heapMany, .ref m_led, .ref m_newAt, .ref m_knowing, .ref m_firsts, .int (nI q_people), .ref m_secrets, .ref m_tried, .ref m_lanes, .ref m_lengths, .ref m_cells])), (m_tokens, .inl (E.2.1 1, 9, .inl f_tokens))]) ?_ rfl rfl rfl
                  refine ww_if_eq_f (tgt := 72) C dX12_areAsked_65 (by decide) (by decide) ?_
                  refine ww_iconst (v := 1) C dX12_areAsked_68 rfl ?_
                  refine ww_goto (tgt := 73) C dX12_areAsked_69 (by decide) ?_
                  refine ww_istore_n (lv' := [(3, .int 1), (4, .int (nI k1)), (0, .ref hm), (1, .int v0), (2, .int v1)]) C dX12_areAsked_73 rfl rfl rfl ?_
                  refine ww_iinc (j := 1) (v := (nI (k1 + 1))) (lv' := [(4, .int (nI (k1 + 1))), (3, .int 1), (0, .ref hm), (1, .int v0), (2, .int v1)]) C dX12_areAsked_74 rfl (nI_add k1 1) rfl rfl ?_
                  refine ww_goto (tgt := 33) C dX12_areAsked_77 (by decide) ?_
                  exact ww_lv [0, 1, 2, 3, 4] rfl (ww_sub [0, 1] rfl rfl (ih_33 (k1 + 1) 1 (by omega) (by omega) (fun _ => TKS.t (hyes (by omega)) (by rw [(sgI_of ex_22 ej_23 (by omega)), rTk_s (by omega) h_27]; rfl)) (fun h9 => absurd h9 (by decide)) (by omega)))
                · refine an2 hw ?_
                  clear hw
                  intro he_31 he_32 hw
                  have h_30 := hw
                  clear hw
                  have he_31 := he_31.symm
                  subst he_31
                  subst he_32
                  refine ww_eq (ws' := [(hm, .inr (12, [.ref m_manys, .ref m_reals, .ref m_factsOf, .ref m_possible, .int (nI q_undos), .int (nI q_models), .ref m_tape, .int (nI q_taped), .int q_fault, .int q_wrong, .int q_wrongAt, .int q_spot, .int q_place, .int q_token, .int q_value, .ref m_ends, .ref m_letters, .ref m_actOf, .ref m_whom, .ref m_actMany, .ref m_tokens, .ref m_afters, .ref m_afterOf, .int q_counted, .ref m_pile, .ref m_caseMany, .ref m_happen, .ref m_hasIf, .ref m_becomes, .ref m_goneOf, .ref m_heard, .ref m_pairs, .ref m_heaps, .int q_rounds, .int q_heapMany, .ref m_led, .ref m_newAt, .ref m_knowing, .ref m_firsts, .int (nI q_people), .ref m_secrets, .ref m_tried, .ref m_lanes, .ref m_lengths, .ref m_cells])), (m_tokens, .inl (E.2.1 1, 9, .inl f_tokens))]) ?_ rfl rfl rfl
                  refine ww_if_eq_t (tgt := 72) C dX12_areAsked_65 (by decide) (rfl) ?_
                  refine ww_iconst (v := 0) C dX12_areAsked_72 rfl ?_
                  refine ww_istore_n (lv' := [(3, .int 0), (4, .int (nI k1)), (0, .ref hm), (1, .int v0), (2, .int v1)]) C dX12_areAsked_73 rfl rfl rfl ?_
                  refine ww_iinc (j := 1) (v := (nI (k1 + 1))) (lv' := [(4, .int (nI (k1 + 1))), (3, .int 0), (0, .ref hm), (1, .int v0), (2, .int v1)]) C dX12_areAsked_74 rfl (nI_add k1 1) rfl rfl ?_
                  refine ww_goto (tgt := 33) C dX12_areAsked_77 (by decide) ?_
                  exact ww_lv [0, 1, 2, 3, 4] rfl (ww_sub [0, 1] rfl rfl (ih_33 (k1 + 1) 0 (by omega) (by omega) (fun h9 => absurd h9 (by decide)) (fun _ h9 => by have h8 := h9 k1 (by omega) (hasb_1 (b := v0) (p := k1) (by omega) (by assumption) (by assumption) (by omega)); rw [(sgI_of ex_22 ej_23 (by omega)), rTk_n (by omega) h_30] at h8; cases h8) (by omega)))
      exact ww_lv [0, 1, 2, 3, 4] rfl (ww_sub [0, 1] rfl rfl (loop_33 _ 0 1 (by omega) (by omega) (fun _ => TKS.nil) (fun h9 => absurd h9 (by decide)) (Nat.lt_succ_self _)))
    · refine an2 hw ?_
      clear hw
      intro he_15 he_16 hw
      have h_14 := hw
      clear hw
      have he_15 := he_15.symm
      subst he_15
      subst he_16
      refine ww_eq (ws' := [(hm, .inr (12, [.ref m_manys, .ref m_reals, .ref m_factsOf, .ref m_possible, .int (nI q_undos), .int (nI q_models), .ref m_tape, .int (nI q_taped), .int q_fault, .int q_wrong, .int q_wrongAt, .int q_spot, .int q_place, .int q_token, .int q_value, .ref m_ends, .ref m_letters, .ref m_actOf, .ref m_whom, .ref m_actMany, .ref m_tokens, .ref m_afters, .ref m_afterOf, .int q_counted, .ref m_pile, .ref m_caseMany, .ref m_happen, .ref m_hasIf, .ref m_becomes, .ref m_goneOf, .ref m_heard, .ref m_pairs, .ref m_heaps, .int q_rounds, .int q_heapMany, .ref m_led, .ref m_newAt, .ref m_knowing, .ref m_firsts, .int (nI q_people), .ref m_secrets, .ref m_tried, .ref m_lanes, .ref m_lengths, .ref m_cells])), (m_tokens, .inl (E.2.1 1, 9, .inl f_tokens))]) ?_ rfl rfl rfl
      refine ww_if_eq_t (tgt := 28) C dX12_areAsked_21 (by decide) (rfl) ?_
      refine ww_iconst (v := 0) C dX12_areAsked_28 rfl ?_
      refine ww_istore_n (lv' := [(3, .int 0), (0, .ref hm), (1, .int v0), (2, .int v1)]) C dX12_areAsked_29 rfl rfl rfl ?_
      refine ww_iconst (v := 0) C dX12_areAsked_30 rfl ?_
      refine ww_istore (lv' := [(4, .int 0), (3, .int 0), (0, .ref hm), (1, .int v0), (2, .int v1)]) C dX12_areAsked_31 rfl rfl ?_
      refine ww_iload C dX12_areAsked_33 0 rfl ?_
      refine ww_iconst (v := 4) C dX12_areAsked_35 rfl ?_
      refine ww_icmp_ge_f (tgt := 80) C dX12_areAsked_36 (by decide) (by decide) ?_
      refine ww_iload_n C dX12_areAsked_39 1 rfl rfl ?_
      refine ww_if_eq_t (tgt := 80) C dX12_areAsked_40 (by decide) (rfl) ?_
      refine ww_iload_n C dX12_areAsked_80 1 rfl rfl ?_
      exact ww_zret (u := [(hm, .inr (12, [.ref m_manys, .ref m_reals, .ref m_factsOf, .ref m_possible, .int (nI q_undos), .int (nI q_models), .ref m_tape, .int (nI q_taped), .int q_fault, .int q_wrong, .int q_wrongAt, .int q_spot, .int q_place, .int q_token, .int q_value, .ref m_ends, .ref m_letters, .ref m_actOf, .ref m_whom, .ref m_actMany, .ref m_tokens, .ref m_afters, .ref m_afterOf, .int q_counted, .ref m_pile, .ref m_caseMany, .ref m_happen, .ref m_hasIf, .ref m_becomes, .ref m_goneOf, .ref m_heard, .ref m_pairs, .ref m_heaps, .int q_rounds, .int q_heapMany, .ref m_led, .ref m_newAt, .ref m_knowing, .ref m_firsts, .int (nI q_people), .ref m_secrets, .ref m_tried, .ref m_lanes, .ref m_lengths, .ref m_cells])), (m_tokens, .inl (E.2.1 1, 9, .inl f_tokens))]) C hT [0, 1] rfl rfl rfl rfl rfl dX12_areAsked_81 (Or.inr ⟨rfl, rfl, (fun h9 => by have h8 := h9.1; have h7 := h9.2.1; have h6 := h9.2.2.1; have h5 := h9.2.2.2.1; omega)⟩)
  · refine an2 hw ?_
    clear hw
    intro he_7 he_8 hw
    have h_6 := hw
    clear hw
    have he_7 := he_7.symm
    subst he_7
    subst he_8
    refine ww_eq (ws' := [(hm, .inr (12, [.ref m_manys, .ref m_reals, .ref m_factsOf, .ref m_possible, .int (nI q_undos), .int (nI q_models), .ref m_tape, .int (nI q_taped), .int q_fault, .int q_wrong, .int q_wrongAt, .int q_spot, .int q_place, .int q_token, .int q_value, .ref m_ends, .ref m_letters, .ref m_actOf, .ref m_whom, .ref m_actMany, .ref m_tokens, .ref m_afters, .ref m_afterOf, .int q_counted, .ref m_pile, .ref m_caseMany, .ref m_happen, .ref m_hasIf, .ref m_becomes, .ref m_goneOf, .ref m_heard, .ref m_pairs, .ref m_heaps, .int q_rounds, .int q_heapMany, .ref m_led, .ref m_newAt, .ref m_knowing, .ref m_firsts, .int (nI q_people), .ref m_secrets, .ref m_tried, .ref m_lanes, .ref m_lengths, .ref m_cells])), (m_tokens, .inl (E.2.1 1, 9, .inl f_tokens))]) ?_ rfl rfl rfl
    refine ww_if_eq_t (tgt := 28) C dX12_areAsked_9 (by decide) (rfl) ?_
    refine ww_iconst (v := 0) C dX12_areAsked_28 rfl ?_
    refine ww_istore_n (lv' := [(3, .int 0), (0, .ref hm), (1, .int v0), (2, .int v1)]) C dX12_areAsked_29 rfl rfl rfl ?_
    refine ww_iconst (v := 0) C dX12_areAsked_30 rfl ?_
    refine ww_istore (lv' := [(4, .int 0), (3, .int 0), (0, .ref hm), (1, .int v0), (2, .int v1)]) C dX12_areAsked_31 rfl rfl ?_
    refine ww_iload C dX12_areAsked_33 0 rfl ?_
    refine ww_iconst (v := 4) C dX12_areAsked_35 rfl ?_
    refine ww_icmp_ge_f (tgt := 80) C dX12_areAsked_36 (by decide) (by decide) ?_
    refine ww_iload_n C dX12_areAsked_39 1 rfl rfl ?_
    refine ww_if_eq_t (tgt := 80) C dX12_areAsked_40 (by decide) (rfl) ?_
    refine ww_iload_n C dX12_areAsked_80 1 rfl rfl ?_
    exact ww_zret (u := [(hm, .inr (12, [.ref m_manys, .ref m_reals, .ref m_factsOf, .ref m_possible, .int (nI q_undos), .int (nI q_models), .ref m_tape, .int (nI q_taped), .int q_fault, .int q_wrong, .int q_wrongAt, .int q_spot, .int q_place, .int q_token, .int q_value, .ref m_ends, .ref m_letters, .ref m_actOf, .ref m_whom, .ref m_actMany, .ref m_tokens, .ref m_afters, .ref m_afterOf, .int q_counted, .ref m_pile, .ref m_caseMany, .ref m_happen, .ref m_hasIf, .ref m_becomes, .ref m_goneOf, .ref m_heard, .ref m_pairs, .ref m_heaps, .int q_rounds, .int q_heapMany, .ref m_led, .ref m_newAt, .ref m_knowing, .ref m_firsts, .int (nI q_people), .ref m_secrets, .ref m_tried, .ref m_lanes, .ref m_lengths, .ref m_cells])), (m_tokens, .inl (E.2.1 1, 9, .inl f_tokens))]) C hT [0, 1] rfl rfl rfl rfl rfl dX12_areAsked_81 (Or.inr ⟨rfl, rfl, (fun h9 => by have h8 := h9.1; have h7 := h9.2.1; have h6 := h9.2.2.1; have h5 := h9.2.2.2.1; omega)⟩)
end
section
theorem akn_of {m m1 m2 : AM} {ev : Nat → EVl} {T : Nat → Option SVal} {sg x r so : Int32} {k j : Nat} {S : SVal} (e1 : m1 = m) (e2 : m2 = m1) (ej : sgI sg k = j) (eT : T j = some S) (hx : (1 : Int32) <<< (nI k &&& 31) = x) (h1 : BS r (evK 9 x m2 (bt so))) (h2 : BS so (vWho m1 ev S)) : BS r (aKn m ev T sg k) := by
  subst e2; subst e1; subst hx
  unfold aKn
  rw [ej, eT]
  exact evK_9 h1 h2
theorem askd_y {T : Nat → Option SVal} {gr sg : Int32} {k j : Nat} {S : SVal} (hb : bt gr k = true) (ej : sgI sg k = j) (eT : T j = some S) : askd T gr sg k = true := by
  unfold askd; rw [hb, ej, eT]; rfl
theorem askd_z {T : Nat → Option SVal} {gr sg : Int32} {k : Nat} (hb : bt gr k = false) : askd T gr sg k = false := by
  unfold askd; rw [hb]; rfl
theorem dX12_layKnowing_0 : decode cX12_layKnowing 0 = .ok (.iconst 0, 1) := dl_3 (by decide +kernel)
theorem dX12_layKnowing_1 : decode cX12_layKnowing 1 = .ok (.istore 4, 2) := dl_54 (by decide +kernel)
theorem dX12_layKnowing_3 : decode cX12_layKnowing 3 = .ok (.iconst 0, 1) := dl_3 (by decide +kernel)
theorem dX12_layKnowing_4 : decode cX12_layKnowing 4 = .ok (.istore 5, 2) := dl_54 (by decide +kernel)
theorem dX12_layKnowing_6 : decode cX12_layKnowing 6 = .ok (.iload 5, 2) := dl_21 (by decide +kernel)
theorem dX12_layKnowing_8 : decode cX12_layKnowing 8 = .ok (.iconst 4, 1) := dl_7 (by decide +kernel)
theorem dX12_layKnowing_9 : decode cX12_layKnowing 9 = .ok (.if_icmp .ge 75, 3) := dl_162 (by decide +kernel)
theorem dX12_layKnowing_84 : decode cX12_layKnowing 84 = .ok (.iload 4, 2) := dl_21 (by decide +kernel)
theorem dX12_layKnowing_86 : decode cX12_layKnowing 86 = .ok (.ireturn, 1) := dl_172 (by decide +kernel)
theorem dX12_layKnowing_12 : decode cX12_layKnowing 12 = .ok (.iload_n 2, 1) := dl_28 (by decide +kernel)
theorem dX12_layKnowing_13 : decode cX12_layKnowing 13 = .ok (.iload 5, 2) := dl_21 (by decide +kernel)
theorem dX12_layKnowing_15 : decode cX12_layKnowing 15 = .ok (.ishr, 1) := dl_122 (by decide +kernel)
theorem dX12_layKnowing_16 : decode cX12_layKnowing 16 = .ok (.iconst 1, 1) := dl_4 (by decide +kernel)
theorem dX12_layKnowing_17 : decode cX12_layKnowing 17 = .ok (.iand, 1) := dl_126 (by decide +kernel)
theorem dX12_layKnowing_18 : decode cX12_layKnowing 18 = .ok (.iconst 1, 1) := dl_4 (by decide +kernel)
theorem dX12_layKnowing_19 : decode cX12_layKnowing 19 = .ok (.if_icmp .ne 59, 3) := dl_160 (by decide +kernel)
theorem dX12_layKnowing_78 : decode cX12_layKnowing 78 = .ok (.iinc 5 1, 3) := dl_132 (by decide +kernel)
theorem dX12_layKnowing_81 : decode cX12_layKnowing 81 = .ok (.goto (-75), 3) := dl_167 (by decide +kernel)
theorem dX12_layKnowing_22 : decode cX12_layKnowing 22 = .ok (.aload_n 0, 1) := dl_42 (by decide +kernel)
theorem dX12_layKnowing_23 : decode cX12_layKnowing 23 = .ok (.getfield 84, 3) := dl_180 (by decide +kernel)
theorem wf_X12_84 : Cond.fieldLink RX12 84 RX12 "knowing" "[I" ∈ TB := tbm (tq5 (List.mem_of_getElem? (i := 115) (by decide +kernel))) (by decide +kernel)
theorem fg_X12_84 : FG RX12 84 12 37 := ⟨RX12, TX12, 45, uw_X12, wf_X12_84, rfl, by decide, rfl⟩
theorem dX12_layKnowing_26 : decode cX12_layKnowing 26 = .ok (.iload 5, 2) := dl_21 (by decide +kernel)
theorem dX12_layKnowing_28 : decode cX12_layKnowing 28 = .ok (.aload_n 0, 1) := dl_42 (by decide +kernel)
theorem dX12_layKnowing_29 : decode cX12_layKnowing 29 = .ok (.iload_n 1, 1) := dl_27 (by decide +kernel)
theorem dX12_layKnowing_30 : decode cX12_layKnowing 30 = .ok (.bipush 9, 2) := dl_16 (by decide +kernel)
theorem dX12_layKnowing_32 : decode cX12_layKnowing 32 = .ok (.iconst 1, 1) := dl_4 (by decide +kernel)
theorem dX12_layKnowing_33 : decode cX12_layKnowing 33 = .ok (.iload 5, 2) := dl_21 (by decide +kernel)
theorem dX12_layKnowing_35 : decode cX12_layKnowing 35 = .ok (.ishl, 1) := dl_120 (by decide +kernel)
theorem dX12_layKnowing_36 : decode cX12_layKnowing 36 = .ok (.aload_n 0, 1) := dl_42 (by decide +kernel)
theorem dX12_layKnowing_37 : decode cX12_layKnowing 37 = .ok (.iload_n 3, 1) := dl_29 (by decide +kernel)
theorem dX12_layKnowing_38 : decode cX12_layKnowing 38 = .ok (.iconst 3, 1) := dl_6 (by decide +kernel)
theorem dX12_layKnowing_39 : decode cX12_layKnowing 39 = .ok (.iload 5, 2) := dl_21 (by decide +kernel)
theorem dX12_layKnowing_41 : decode cX12_layKnowing 41 = .ok (.imul, 1) := dl_104 (by decide +kernel)
theorem dX12_layKnowing_42 : decode cX12_layKnowing 42 = .ok (.ishr, 1) := dl_122 (by decide +kernel)
theorem dX12_layKnowing_43 : decode cX12_layKnowing 43 = .ok (.bipush 7, 2) := dl_16 (by decide +kernel)
theorem dX12_layKnowing_45 : decode cX12_layKnowing 45 = .ok (.iand, 1) := dl_126 (by decide +kernel)
theorem dX12_layKnowing_46 : decode cX12_layKnowing 46 = .ok (.iload_n 1, 1) := dl_27 (by decide +kernel)
theorem dX12_layKnowing_47 : decode cX12_layKnowing 47 = .ok (.invokevirtual 273, 3) := dl_182 (by decide +kernel)
theorem dX12_layKnowing_50 : decode cX12_layKnowing 50 = .ok (.invokevirtual 233, 3) := dl_182 (by decide +kernel)
theorem dX12_layKnowing_53 : decode cX12_layKnowing 53 = .ok (.iastore, 1) := dl_79 (by decide +kernel)
theorem dX12_layKnowing_54 : decode cX12_layKnowing 54 = .ok (.iload 4, 2) := dl_21 (by decide +kernel)
theorem dX12_layKnowing_56 : decode cX12_layKnowing 56 = .ok (.aload_n 0, 1) := dl_42 (by decide +kernel)
theorem dX12_layKnowing_57 : decode cX12_layKnowing 57 = .ok (.getfield 84, 3) := dl_180 (by decide +kernel)
theorem dX12_layKnowing_60 : decode cX12_layKnowing 60 = .ok (.iload 5, 2) := dl_21 (by decide +kernel)
theorem dX12_layKnowing_62 : decode cX12_layKnowing 62 = .ok (.iaload, 1) := dl_46 (by decide +kernel)
theorem dX12_layKnowing_63 : decode cX12_layKnowing 63 = .ok (.aload_n 0, 1) := dl_42 (by decide +kernel)
theorem dX12_layKnowing_64 : decode cX12_layKnowing 64 = .ok (.getfield 13, 3) := dl_180 (by decide +kernel)
theorem dX12_layKnowing_67 : decode cX12_layKnowing 67 = .ok (.iload_n 1, 1) := dl_27 (by decide +kernel)
theorem dX12_layKnowing_68 : decode cX12_layKnowing 68 = .ok (.iaload, 1) := dl_46 (by decide +kernel)
theorem dX12_layKnowing_69 : decode cX12_layKnowing 69 = .ok (.ishr, 1) := dl_122 (by decide +kernel)
theorem dX12_layKnowing_70 : decode cX12_layKnowing 70 = .ok (.iconst 1, 1) := dl_4 (by decide +kernel)
theorem dX12_layKnowing_71 : decode cX12_layKnowing 71 = .ok (.iand, 1) := dl_126 (by decide +kernel)
theorem dX12_layKnowing_72 : decode cX12_layKnowing 72 = .ok (.iload 5, 2) := dl_21 (by decide +kernel)
theorem dX12_layKnowing_74 : decode cX12_layKnowing 74 = .ok (.ishl, 1) := dl_120 (by decide +kernel)
theorem dX12_layKnowing_75 : decode cX12_layKnowing 75 = .ok (.ior, 1) := dl_128 (by decide +kernel)
theorem dX12_layKnowing_76 : decode cX12_layKnowing 76 = .ok (.istore 4, 2) := dl_54 (by decide +kernel)
set_option maxRecDepth 100000 in
set_option maxHeartbeats 4000000 in
theorem r_layKnowing (l : Launch) (E : EV) (ro : va_W) (hm : Nat) (pa : Nat) (gr : Int32) (sg : Int32) (m_manys : Nat) (m_reals : Nat) (m_factsOf : Nat) (m_possible : Nat) (q_undos : Nat) (q_models : Nat) (m_tape : Nat) (q_taped : Nat) (q_fault : Int32) (q_wrong : Int32) (q_wrongAt : Int32) (q_spot : Int32) (q_place : Int32) (q_token : Int32) (q_value : Int32) (m_ends : Nat) (m_letters : Nat) (m_actOf : Nat) (m_whom : Nat) (m_actMany : Nat) (m_tokens : Nat) (m_afters : Nat) (m_afterOf : Nat) (q_counted : Int32) (m_pile : Nat) (m_caseMany : Nat) (m_happen : Nat) (m_hasIf : Nat) (m_becomes : Nat) (m_goneOf : Nat) (m_heard : Nat) (m_pairs : Nat) (m_heaps : Nat) (q_rounds : Int32) (q_heapMany : Int32) (m_led : Nat) (m_newAt : Nat) (m_knowing : Nat) (m_firsts : Nat) (q_people : Nat) (m_secrets : Nat) (m_tried : Nat) (m_lanes : Nat) (m_lengths : Nat) (m_cells : Nat) (f_manys : Nat → Int32) (f_reals : Nat → Int32) (f_factsOf : Nat → Int32) (f_possible : Nat → Int32) (f_pairs : Nat → Int32) (f_pile : Nat → Int32) (f_caseMany : Nat → Int32) (f_happen : Nat → Int32) (f_hasIf : Nat → Int32) (f_becomes : Nat → Int32) (f_goneOf : Nat → Int32) (f_heard : Nat → Int32) (f_actMany : Nat → Int32) (f_actOf : Nat → Int32) (f_whom : Nat → Int32) (f_afters : Nat → Int32) (f_afterOf : Nat → Int32) (f_knowing : Nat → Int32) (Tq : Nat → Option SVal) (hb_manys : NB 18 24 f_manys) (hb_reals : NB 18 23 f_reals) (hpg : PG f_manys f_reals) (hwf : WFP (pgs f_manys f_reals f_factsOf f_possible)) (hb_caseMany : NB 4 4 f_caseMany) (hb_happen : NB 4 3 f_happen) (hb_actMany : NB 25 32 f_actMany) (hhp : HP f_caseMany f_happen) (hsv : SV f_actOf f_actMany) (hb_afters : NB 9 2 f_afters) (hb_afterOf : NB 18 3 f_afterOf) (hpa : pa ≤ 3) (hWI : WHI f_hasIf f_actMany f_actOf f_whom) (hTq : ∀ k, k < 4 → bt gr k = true → Tq (sgI sg k) = some (rT f_actMany f_actOf f_whom f_afterOf f_afters (sgI sg k)) ∧ WHs (cN f_actMany (sgI sg k)) f_actOf f_whom (sgI sg k)) : CT l yX12_layKnowing (Cond.code yX12_layKnowing cX12_layKnowing 6 (some .int) :: TB) ({ frames := 7, cells := 0, slots := 0, locals := 184 }) E ro [.ref hm, .int (nI pa), .int gr, .int sg] [(hm, .inr (12, [.ref m_manys, .ref m_reals, .ref m_factsOf, .ref m_possible, .int (nI q_undos), .int (nI q_models), .ref m_tape, .int (nI q_taped), .int q_fault, .int q_wrong, .int q_wrongAt, .int q_spot, .int q_place, .int q_token, .int q_value, .ref m_ends, .ref m_letters, .ref m_actOf, .ref m_whom, .ref m_actMany, .ref m_tokens, .ref m_afters, .ref m_afterOf, .int q_counted, .ref m_pile, .ref m_caseMany, .ref m_happen, .ref m_hasIf, .ref m_becomes, .ref m_goneOf, .ref m_heard, .ref m_pairs, .ref m_heaps, .int q_rounds, .int q_heapMany, .ref m_led, .ref m_newAt, .ref m_knowing, .ref m_firsts, .int (nI q_people), .ref m_secrets, .ref m_tried, .ref m_lanes, .ref m_lengths, .ref m_cells])), (m_manys, .inl (E.2.1 1, 18, .inl f_manys)), (m_reals, .inl (E.2.1 1, 18, .inl f_reals)), (m_factsOf, .inl (E.2.1 1, 432, .inl f_factsOf)), (m_possible, .inl (E.2.1 1, 1728, .inl f_possible)), (m_pairs, .inl (E.2.1 1, 576, .inl f_pairs)), (m_pile, .inl (E.2.1 1, 34, .inl f_pile)), (m_caseMany, .inl (E.2.1 1, 4, .inl f_caseMany)), (m_happen, .inl (E.2.1 1, 4, .inl f_happen)), (m_hasIf, .inl (E.2.1 3, 16, .inl f_hasIf)), (m_becomes, .inl (E.2.1 1, 16, .inl f_becomes)), (m_goneOf, .inl (E.2.1 1, 16, .inl f_goneOf)), (m_heard, .inl (E.2.1 1, 64, .inl f_heard)), (m_actMany, .inl (E.2.1 1, 25, .inl f_actMany)), (m_actOf, .inl (E.2.1 1, 800, .inl f_actOf)), (m_whom, .inl (E.2.1 1, 800, .inl f_whom)), (m_afters, .inl (E.2.1 1, 9, .inl f_afters)), (m_afterOf, .inl (E.2.1 1, 18, .inl f_afterOf)), (m_knowing, .inl (E.2.1 1, 4, .inl f_knowing))] (Qi E (fun (rz : Int32) uz => (∃ (f_manysz : Nat → Int32) (f_realsz : Nat → Int32) (f_factsOfz : Nat → Int32) (f_possiblez : Nat → Int32) (f_pairsz : Nat → Int32) (f_pilez : Nat → Int32) (f_knowingz : Nat → Int32), uz = [(hm, .inr (12, [.ref m_manys, .ref m_reals, .ref m_factsOf, .ref m_possible, .int (nI q_undos), .int (nI q_models), .ref m_tape, .int (nI q_taped), .int q_fault, .int q_wrong, .int q_wrongAt, .int q_spot, .int q_place, .int q_token, .int q_value, .ref m_ends, .ref m_letters, .ref m_actOf, .ref m_whom, .ref m_actMany, .ref m_tokens, .ref m_afters, .ref m_afterOf, .int q_counted, .ref m_pile, .ref m_caseMany, .ref m_happen, .ref m_hasIf, .ref m_becomes, .ref m_goneOf, .ref m_heard, .ref m_pairs, .ref m_heaps, .int q_rounds, .int q_heapMany, .ref m_led, .ref m_newAt, .ref m_knowing, .ref m_firsts, .int (nI q_people), .ref m_secrets, .ref m_tried, .ref m_lanes, .ref m_lengths, .ref m_cells])), (m_manys, .inl (E.2.1 1, 18, .inl f_manysz)), (m_reals, .inl (E.2.1 1, 18, .inl f_realsz)), (m_factsOf, .inl (E.2.1 1, 432, .inl f_factsOfz)), (m_possible, .inl (E.2.1 1, 1728, .inl f_possiblez)), (m_pairs, .inl (E.2.1 1, 576, .inl f_pairsz)), (m_pile, .inl (E.2.1 1, 34, .inl f_pilez)), (m_caseMany, .inl (E.2.1 1, 4, .inl f_caseMany)), (m_happen, .inl (E.2.1 1, 4, .inl f_happen)), (m_hasIf, .inl (E.2.1 3, 16, .inl f_hasIf)), (m_becomes, .inl (E.2.1 1, 16, .inl f_becomes)), (m_goneOf, .inl (E.2.1 1, 16, .inl f_goneOf)), (m_heard, .inl (E.2.1 1, 64, .inl f_heard)), (m_actMany, .inl (E.2.1 1, 25, .inl f_actMany)), (m_actOf, .inl (E.2.1 1, 800, .inl f_actOf)), (m_whom, .inl (E.2.1 1, 800, .inl f_whom)), (m_afters, .inl (E.2.1 1, 9, .inl f_afters)), (m_afterOf, .inl (E.2.1 1, 18, .inl f_afterOf)), (m_knowing, .inl (E.2.1 1, 4, .inl f_knowingz))] ∧ (NB 18 24 f_manysz) ∧ (NB 18 23 f_realsz) ∧ (PG f_manysz f_realsz) ∧ (WFP (pgs f_manysz f_realsz f_factsOfz f_possiblez)) ∧ (KP (pa + 1) f_manys f_manysz) ∧ (KP (pa + 1) f_reals f_realsz) ∧ (BS rz (knS (pgs f_manys f_reals f_factsOf f_possible pa) (rEv f_caseMany f_happen f_hasIf f_actMany f_actOf f_whom f_becomes f_goneOf f_heard) Tq gr sg 4)) ∧ (∀ j, j < 4 → bt gr j = true → BS (f_knowingz j) (aKn (pgs f_manys f_reals f_factsOf f_possible pa) (rEv f_caseMany f_happen f_hasIf f_actMany f_actOf f_whom f_becomes f_goneOf f_heard) Tq sg j)) ∧ (KPA pa (pgs f_manys f_reals f_factsOf f_possible) (pgs f_manysz f_realsz f_factsOfz f_possiblez))))) 0 0 := by
  refine ct_of rfl rfl ?_
  intro X C hT hin hro
  show WW X 6 E 0 [(0, .ref hm), (1, .int (nI pa)), (2, .int gr), (3, .int sg)] [] [(hm, .inr (12, [.ref m_manys, .ref m_reals, .ref m_factsOf, .ref m_possible, .int (nI q_undos), .int (nI q_models), .ref m_tape, .int (nI q_taped), .int q_fault, .int q_wrong, .int q_wrongAt, .int q_spot, .int q_place, .int q_token, .int q_value, .ref m_ends, .ref m_letters, .ref m_actOf, .ref m_whom, .ref m_actMany, .ref m_tokens, .ref m_afters, .ref m_afterOf, .int q_counted, .ref m_pile, .ref m_caseMany, .ref m_happen, .ref m_hasIf, .ref m_becomes, .ref m_goneOf, .ref m_heard, .ref m_pairs, .ref m_heaps, .int q_rounds, .int q_heapMany, .ref m_led, .ref m_newAt, .ref m_knowing, .ref m_firsts, .int (nI q_people), .ref m_secrets, .ref m_tried, .ref m_lanes, .ref m_lengths, .ref m_cells])), (m_manys, .inl (E.2.1 1, 18, .inl f_manys)), (m_reals, .inl (E.2.1 1, 18, .inl f_reals)), (m_factsOf, .inl (E.2.1 1, 432, .inl f_factsOf)), (m_possible, .inl (E.2.1 1, 1728, .inl f_possible)), (m_pairs, .inl (E.2.1 1, 576, .inl f_pairs)), (m_pile, .inl (E.2.1 1, 34, .inl f_pile)), (m_caseMany, .inl (E.2.1 1, 4, .inl f_caseMany)), (m_happen, .inl (E.2.1 1, 4, .inl f_happen)), (m_hasIf, .inl (E.2.1 3, 16, .inl f_hasIf)), (m_becomes, .inl (E.2.1 1, 16, .inl f_becomes)), (m_goneOf, .inl (E.2.1 1, 16, .inl f_goneOf)), (m_heard, .inl (E.2.1 1, 64, .inl f_heard)), (m_actMany, .inl (E.2.1 1, 25, .inl f_actMany)), (m_actOf, .inl (E.2.1 1, 800, .inl f_actOf)), (m_whom, .inl (E.2.1 1, 800, .inl f_whom)), (m_afters, .inl (E.2.1 1, 9, .inl f_afters)), (m_afterOf, .inl (E.2.1 1, 18, .inl f_afterOf)), (m_knowing, .inl (E.2.1 1, 4, .inl f_knowing))] 0 0
  have hmn0 := (hb_manys 0 (by omega)).2
  refine ww_iconst (v := 0) C dX12_layKnowing_0 rfl ?_
  refine ww_istore (lv' := [(4, .int 0), (0, .ref hm), (1, .int (nI pa)), (2, .int gr), (3, .int sg)]) C dX12_layKnowing_1 rfl rfl ?_
  refine ww_iconst (v := 0) C dX12_layKnowing_3 rfl ?_
  refine ww_istore (lv' := [(5, .int 0), (4, .int 0), (0, .ref hm), (1, .int (nI pa)), (2, .int gr), (3, .int sg)]) C dX12_layKnowing_4 rfl rfl ?_
  have loop_6 : ∀ (fu : Nat) (k1 : Nat) (wh : Int32) (gt_manys : Nat → Int32) (gt_reals : Nat → Int32) (gt_factsOf : Nat → Int32) (gt_possible : Nat → Int32) (gt_pairs : Nat → Int32) (gt_pile : Nat → Int32) (gt_knowing : Nat → Int32), (k1 ≤ 4) → (BS wh (knS (pgs f_manys f_reals f_factsOf f_possible pa) (rEv f_caseMany f_happen f_hasIf f_actMany f_actOf f_whom f_becomes f_goneOf f_heard) Tq gr sg k1)) → (∀ j, j < k1 → bt gr j = true → BS (gt_knowing j) (aKn (pgs f_manys f_reals f_factsOf f_possible pa) (rEv f_caseMany f_happen f_hasIf f_actMany f_actOf f_whom f_becomes f_goneOf f_heard) Tq sg j)) → (KPA pa (pgs f_manys f_reals f_factsOf f_possible) (pgs gt_manys gt_reals gt_factsOf gt_possible)) → (KP (pa + 1) f_manys gt_manys) → (KP (pa + 1) f_reals gt_reals) → (NB 18 24 gt_manys) → (NB 18 23 gt_reals) → (PG gt_manys gt_reals) → (WFP (pgs gt_manys gt_reals gt_factsOf gt_possible)) → 4 - k1 < fu → WW X 6 E 6 [(5, .int (nI k1)), (4, .int wh), (0, .ref hm), (1, .int (nI pa)), (2, .int gr), (3, .int sg)] [] [(hm, .inr (12, [.ref m_manys, .ref m_reals, .ref m_factsOf, .ref m_possible, .int (nI q_undos), .int (nI q_models), .ref m_tape, .int (nI q_taped), .int q_fault, .int q_wrong, .int q_wrongAt, .int q_spot, .int q_place, .int q_token, .int q_value, .ref m_ends, .ref m_letters, .ref m_actOf, .ref m_whom, .ref m_actMany, .ref m_tokens, .ref m_afters, .ref m_afterOf, .int q_counted, .ref m_pile, .ref m_caseMany, .ref m_happen, .ref m_hasIf, .ref m_becomes, .ref m_goneOf, .ref m_heard, .ref m_pairs, .ref m_heaps, .int q_rounds, .int q_heapMany, .ref m_led, .ref m_newAt, .ref m_knowing, .ref m_firsts, .int (nI q_people), .ref m_secrets, .ref m_tried, .ref m_lanes, .ref m_lengths, .ref m_cells])), (m_manys, .inl (E.2.1 1, 18, .inl gt_manys)), (m_reals, .inl (E.2.1 1, 18, .inl gt_reals)), (m_factsOf, .inl (E.2.1 1, 432, .inl gt_factsOf)), (m_possible, .inl (E.2.1 1, 1728, .inl gt_possible)), (m_pairs, .inl (E.2.1 1, 576, .inl gt_pairs)), (m_pile, .inl (E.2.1 1, 34, .inl gt_pile)), (m_caseMany, .inl (E.2.1 1, 4, .inl f_caseMany)), (m_happen, .inl (E.2.1 1, 4, .inl f_happen)), (m_hasIf, .inl (E.2.1 3, 16, .inl f_hasIf)), (m_becomes, .inl (E.2.1 1, 16, .inl f_becomes)), (m_goneOf, .inl (E.2.1 1, 16, .inl f_goneOf)), (m_heard, .inl (E.2.1 1, 64, .inl f_heard)), (m_actMany, .inl (E.2.1 1, 25, .inl f_actMany)), (m_actOf, .inl (E.2.1 1, 800, .inl f_actOf)), (m_whom, .inl (E.2.1 1, 800, .inl f_whom)), (m_afters, .inl (E.2.1 1, 9, .inl f_afters)), (m_afterOf, .inl (E.2.1 1, 18, .inl f_afterOf)), (m_knowing, .inl (E.2.1 1, 4, .inl gt_knowing))] 0 0 := by
    intro fu
    induction fu with
    | zero => intro k1 wh gt_manys gt_reals gt_factsOf gt_possible gt_pairs gt_pile gt_knowing hk1 hkn hka hoth hk_manys hk_reals hnb_m_manys_6 hnb_m_reals_6 hpg_6 hwf_6 hmeas; exact absurd hmeas (Nat.not_lt_zero _)
    | succ fu ih_6 =>
      intro k1 wh gt_manys gt_reals gt_factsOf gt_possible gt_pairs gt_pile gt_knowing hk1 hkn hka hoth hk_manys hk_reals hnb_m_manys_6 hnb_m_reals_6 hpg_6 hwf_6 hmeas
      refine ww_iload C dX12_layKnowing_6 0 rfl ?_
      refine ww_iconst (v := 4) C dX12_layKnowing_8 rfl ?_
      refine ww_icmp_ge (tgt := 84) C dX12_layKnowing_9 (by decide) (fun c_1 => ?_) (fun c_1 => ?_)
      · have zc_1 : ((k1 : Nat) : Int) ≥ 4 := i_le rfl (nI_toInt (n := k1) (by omega)) c_1
        refine ww_iload C dX12_layKnowing_84 1 rfl ?_
        exact ww_iret (u := [(hm, .inr (12, [.ref m_manys, .ref m_reals, .ref m_factsOf, .ref m_possible, .int (nI q_undos), .int (nI q_models), .ref m_tape, .int (nI q_taped), .int q_fault, .int q_wrong, .int q_wrongAt, .int q_spot, .int q_place, .int q_token, .int q_value, .ref m_ends, .ref m_letters, .ref m_actOf, .ref m_whom, .ref m_actMany, .ref m_tokens, .ref m_afters, .ref m_afterOf, .int q_counted, .ref m_pile, .ref m_caseMany, .ref m_happen, .ref m_hasIf, .ref m_becomes, .ref m_goneOf, .ref m_heard, .ref m_pairs, .ref m_heaps, .int q_rounds, .int q_heapMany, .ref m_led, .ref m_newAt, .ref m_knowing, .ref m_firsts, .int (nI q_people), .ref m_secrets, .ref m_tried, .ref m_lanes, .ref m_lengths, .ref m_cells])), (m_manys, .inl (E.2.1 1, 18, .inl gt_manys)), (m_reals, .inl (E.2.1 1, 18, .inl gt_reals)), (m_factsOf, .inl (E.2.1 1, 432, .inl gt_factsOf)), (m_possible, .inl (E.2.1 1, 1728, .inl gt_possible)), (m_pairs, .inl (E.2.1 1, 576, .inl gt_pairs)), (m_pile, .inl (E.2.1 1, 34, .inl gt_pile)), (m_caseMany, .inl (E.2.1 1, 4, .inl f_caseMany)), (m_happen, .inl (E.2.1 1, 4, .inl f_happen)), (m_hasIf, .inl (E.2.1 3, 16, .inl f_hasIf)), (m_becomes, .inl (E.2.1 1, 16, .inl f_becomes)), (m_goneOf, .inl (E.2.1 1, 16, .inl f_goneOf)), (m_heard, .inl (E.2.1 1, 64, .inl f_heard)), (m_actMany, .inl (E.2.1 1, 25, .inl f_actMany)), (m_actOf, .inl (E.2.1 1, 800, .inl f_actOf)), (m_whom, .inl (E.2.1 1, 800, .inl f_whom)), (m_afters, .inl (E.2.1 1, 9, .inl f_afters)), (m_afterOf, .inl (E.2.1 1, 18, .inl f_afterOf)), (m_knowing, .inl (E.2.1 1, 4, .inl gt_knowing))]) C hT [0, 1, 2, 3, 4, 5, 6, 7, 8, 9, 10, 11, 12, 13, 14, 15, 16, 17, 18] (gqk (by eq_refl)) (ndk (by decide +kernel)) rfl rfl dX12_layKnowing_86 (⟨gt_manys, gt_reals, gt_factsOf, gt_possible, gt_pairs, gt_pile, gt_knowing, rfl, hnb_m_manys_6, hnb_m_reals_6, hpg_6, hwf_6, hk_manys, hk_reals, (by have h9 : k1 = 4 := (by omega); rw [h9] at hkn; exact hkn), (by have h9 : k1 = 4 := (by omega); rw [h9] at hka; exact hka), hoth⟩)
      · have zc_1 : ((k1 : Nat) : Int) < 4 := i_nle rfl (nI_toInt (n := k1) (by omega)) c_1
        refine ww_iload_n C dX12_layKnowing_12 4 rfl rfl ?_
        refine ww_iload C dX12_layKnowing_13 0 rfl ?_
        obtain ⟨x_2, ex_2⟩ : ∃ z : Int32, gr >>> ((nI k1) &&& 31) = z := ⟨_, rfl⟩
        refine ww_ishr (v := x_2) C dX12_layKnowing_15 ex_2 ?_
        refine ww_iconst (v := 1) C dX12_layKnowing_16 rfl ?_
        obtain ⟨j_3, hj_3, ej_3⟩ := pk_andE x_2 (m := 1) 1 rfl
        refine ww_iand (v := (nI j_3)) C dX12_layKnowing_17 ej_3 ?_
        refine ww_iconst (v := 1) C dX12_layKnowing_18 rfl ?_
        refine ww_icmp_ne (tgt := 78) C dX12_layKnowing_19 (by decide) (fun c_4 => ?_) (fun c_4 => ?_)
        · have zc_4 : ((j_3 : Nat) : Int) ≠ 1 := i_ne (nI_toInt (n := j_3) (by omega)) rfl c_4
          refine ww_iinc (j := 0) (v := (nI (k1 + 1))) (lv' := [(5, .int (nI (k1 + 1))), (4, .int wh), (0, .ref hm), (1, .int (nI pa)), (2, .int gr), (3, .int sg)]) C dX12_layKnowing_78 rfl (nI_add k1 1) rfl rfl ?_
          refine ww_goto (tgt := 6) C dX12_layKnowing_81 (by decide) ?_
          exact ww_lv [0, 1, 2, 3, 4, 5] rfl (ww_sub [0, 1, 2, 3, 4, 5, 6, 7, 8, 9, 10, 11, 12, 13, 14, 15, 16, 17, 18] (ndk (by decide +kernel)) (gqk (by eq_refl)) (ih_6 (k1 + 1) wh gt_manys gt_reals gt_factsOf gt_possible gt_pairs gt_pile gt_knowing (by omega) (knS_0 hkn (askd_z (hasb_0 (b := gr) (p := k1) (by omega) (by assumption) (by assumption) (by omega)))) (fun j hj hb => if hk : j = k1 then (by rw [hk, (hasb_0 (b := gr) (p := k1) (by omega) (by assumption) (by assumption) (by omega))] at hb; cases hb) else hka j (by omega) hb) hoth hk_manys hk_reals hnb_m_manys_6 hnb_m_reals_6 hpg_6 hwf_6 (by omega)))
        · have zc_4 : ((j_3 : Nat) : Int) = 1 := i_eq (nI_toInt (n := j_3) (by omega)) rfl c_4
          refine ww_aload_n C dX12_layKnowing_22 2 rfl rfl ?_
          refine ww_get C fg_X12_84 0 rfl rfl dX12_layKnowing_23 ?_
          refine ww_iload C dX12_layKnowing_26 0 rfl ?_
          refine ww_aload_n C dX12_layKnowing_28 2 rfl rfl ?_
          refine ww_iload_n C dX12_layKnowing_29 3 rfl rfl ?_
          refine ww_bipush (v := 9) C dX12_layKnowing_30 rfl ?_
          refine ww_iconst (v := 1) C dX12_layKnowing_32 rfl ?_
          refine ww_iload C dX12_layKnowing_33 0 rfl ?_
          obtain ⟨x_5, ex_5⟩ : ∃ z : Int32, (1 : Int32) <<< ((nI k1) &&& 31) = z := ⟨_, rfl⟩
          refine ww_ishl (v := x_5) C dX12_layKnowing_35 ex_5 ?_
          refine ww_aload_n C dX12_layKnowing_36 2 rfl rfl ?_
          refine ww_iload_n C dX12_layKnowing_37 5 rfl rfl ?_
          refine ww_iconst (v := 3) C dX12_layKnowing_38 rfl ?_
          refine ww_iload C dX12_layKnowing_39 0 rfl ?_
          refine ww_imul (v := (nI (3 * k1))) C dX12_layKnowing_41 (pk_mul 3 k1) ?_
          obtain ⟨x_6, ex_6⟩ : ∃ z : Int32, sg >>> ((nI (3 * k1)) &&& 31) = z := ⟨_, rfl⟩
          refine ww_ishr (v := x_6) C dX12_layKnowing_42 ex_6 ?_
          refine ww_bipush (v := 7) C dX12_layKnowing_43 rfl ?_
          obtain ⟨j_7, hj_7, ej_7⟩ := pk_andE x_6 (m := 7) 3 rfl
          refine ww_iand (v := (nI j_7)) C dX12_layKnowing_45 ej_7 ?_
          refine ww_iload_n C dX12_layKnowing_46 3 rfl rfl ?_
          refine ww_ci (wr := [(m_knowing, .inl (E.2.1 1, 4, .inl gt_knowing))]) (k' := 0) (n' := 0) C (run_V (As := [.int (nI j_7), .int (nI pa)]) (rest := [.int x_5, .int 9, .int (nI pa), .ref hm, .int (nI k1), .ref m_knowing]) C (r_truthOf X.2.1 E ro hm j_7 pa m_manys m_reals m_factsOf m_possible q_undos q_models m_tape q_taped q_fault q_wrong q_wrongAt q_spot q_place q_token q_value m_ends m_letters m_actOf m_whom m_actMany m_tokens m_afters m_afterOf q_counted m_pile m_caseMany m_happen m_hasIf m_becomes m_goneOf m_heard m_pairs m_heaps q_rounds q_heapMany m_led m_newAt m_knowing m_firsts q_people m_secrets m_tried m_lanes m_lengths m_cells gt_manys gt_reals gt_factsOf gt_possible gt_pairs gt_pile f_caseMany f_happen f_hasIf f_becomes f_goneOf f_heard f_actMany f_actOf f_whom f_afters f_afterOf hnb_m_manys_6 hnb_m_reals_6 hpg_6 hwf_6 hb_caseMany hb_happen hb_actMany hhp hsv hb_afters hb_afterOf (by omega) (by omega) (by have h9 := (hTq k1 (by omega) (hasb_1 (b := gr) (p := k1) (by omega) (by assumption) (by assumption) (by omega))).2; rw [(sgI_of ex_6 ej_7 (by omega))] at h9; exact h9) hWI) mi_X12_truthOf wl_X12_273 rfl 0 12 rfl rfl rfl rfl rfl dX12_layKnowing_47) (roK hro) [0, 1, 2, 3, 4, 5, 6, 7, 8, 9, 10, 11, 12, 13, 14, 15, 16, 17] [18] (gqk (by eq_refl)) rfl (plk (by decide +kernel)) rfl (fun r_8 uz hw => ?_)
          refine ex6 hw ?_
          clear hw
          intro f_manysz_9 f_realsz_10 f_factsOfz_11 f_possiblez_12 f_pairsz_13 f_pilez_14 hw
          refine an8 hw ?_
          clear hw
          intro he_23 h_15 h_16 h_17 h_18 h_19 h_20 h_21 hw
          have h_22 := hw
          clear hw
          subst he_23
          refine ww_eq (ws' := [(m_knowing, .inl (E.2.1 1, 4, .inl gt_knowing)), (hm, .inr (12, [.ref m_manys, .ref m_reals, .ref m_factsOf, .ref m_possible, .int (nI q_undos), .int (nI q_models), .ref m_tape, .int (nI q_taped), .int q_fault, .int q_wrong, .int q_wrongAt, .int q_spot, .int q_place, .int q_token, .int q_value, .ref m_ends, .ref m_letters, .ref m_actOf, .ref m_whom, .ref m_actMany, .ref m_tokens, .ref m_afters, .ref m_afterOf, .int q_counted, .ref m_pile, .ref m_caseMany, .ref m_happen, .ref m_hasIf, .ref m_becomes, .ref m_goneOf, .ref m_heard, .ref m_pairs, .ref m_heaps, .int q_rounds, .int q_heapMany, .ref m_led, .ref m_newAt, .ref m_knowing, .ref m_firsts, .int (nI q_people), .ref m_secrets, .ref m_tried, .ref m_lanes, .ref m_lengths, .ref m_cells])), (m_manys, .inl (E.2.1 1, 18, .inl f_manysz_9)), (m_reals, .inl (E.2.1 1, 18, .inl f_realsz_10)), (m_factsOf, .inl (E.2.1 1, 432, .inl f_factsOfz_11)), (m_possible, .inl (E.2.1 1, 1728, .inl f_possiblez_12)), (m_pairs, .inl (E.2.1 1, 576, .inl f_pairsz_13)), (m_pile, .inl (E.2.1 1, 34, .inl f_pilez_14)), (m_caseMany, .inl (E.2.1 1, 4, .inl f_caseMany)), (m_happen, .inl (E.2.1 1, 4, .inl f_happen)), (m_hasIf, .inl (E.2.1 3, 16, .inl f_hasIf)), (m_becomes, .inl (E.2.1 1, 16, .inl f_becomes)), (m_goneOf, .inl (E.2.1 1, 16, .inl f_goneOf)), (m_heard, .inl (E.2.1 1, 64, .inl f_heard)), (m_actMany, .inl (E.2.1 1, 25, .inl f_actMany)), (m_actOf, .inl (E.2.1 1, 800, .inl f_actOf)), (m_whom, .inl (E.2.1 1, 800, .inl f_whom)), (m_afters, .inl (E.2.1 1, 9, .inl f_afters)), (m_afterOf, .inl (E.2.1 1, 18, .inl f_afterOf))]) ?_ rfl rfl rfl
          refine ww_ci (wr := [(m_knowing, .inl (E.2.1 1, 4, .inl gt_knowing)), (m_pairs, .inl (E.2.1 1, 576, .inl f_pairsz_13)), (m_pile, .inl (E.2.1 1, 34, .inl f_pilez_14)), (m_caseMany, .inl (E.2.1 1, 4, .inl f_caseMany)), (m_happen, .inl (E.2.1 1, 4, .inl f_happen)), (m_hasIf, .inl (E.2.1 3, 16, .inl f_hasIf)), (m_becomes, .inl (E.2.1 1, 16, .inl f_becomes)), (m_goneOf, .inl (E.2.1 1, 16, .inl f_goneOf)), (m_heard, .inl (E.2.1 1, 64, .inl f_heard)), (m_actMany, .inl (E.2.1 1, 25, .inl f_actMany)), (m_actOf, .inl (E.2.1 1, 800, .inl f_actOf)), (m_whom, .inl (E.2.1 1, 800, .inl f_whom)), (m_afters, .inl (E.2.1 1, 9, .inl f_afters)), (m_afterOf, .inl (E.2.1 1, 18, .inl f_afterOf))]) (k' := 0) (n' := 0) C (run_V (As := [.int (nI pa), .int 9, .int x_5, .int r_8]) (rest := [.int (nI k1), .ref m_knowing]) C (r_knownBy X.2.1 E ro hm pa 9 x_5 r_8 m_manys m_reals m_factsOf m_possible q_undos q_models m_tape q_taped q_fault q_wrong q_wrongAt q_spot q_place q_token q_value m_ends m_letters m_actOf m_whom m_actMany m_tokens m_afters m_afterOf q_counted m_pile m_caseMany m_happen m_hasIf m_becomes m_goneOf m_heard m_pairs m_heaps q_rounds q_heapMany m_led m_newAt m_knowing m_firsts q_people m_secrets m_tried m_lanes m_lengths m_cells f_manysz_9 f_realsz_10 f_factsOfz_11 f_possiblez_12 h_15 h_16 h_17 h_18 (by omega) (fun _ => ⟨k1, by omega, fun i hi => by rw [← ex_5]; exact one_b (by omega) i (by omega)⟩) (fun h9 => absurd h9 (by decide))) mi_X12_knownBy wl_X12_233 rfl 0 12 rfl rfl rfl rfl rfl dX12_layKnowing_50) (roK hro) [1, 2, 3, 4, 5] [0, 6, 7, 8, 9, 10, 11, 12, 13, 14, 15, 16, 17, 18] rfl (gqk (by eq_refl)) (plk (by decide +kernel)) rfl (fun r_24 uz hw => ?_)
          refine an1 hw ?_
          clear hw
          intro he_26 hw
          have h_25 := hw
          clear hw
          subst he_26
          refine ww_eq (ws' := [(m_knowing, .inl (E.2.1 1, 4, .inl gt_knowing)), (m_pairs, .inl (E.2.1 1, 576, .inl f_pairsz_13)), (m_pile, .inl (E.2.1 1, 34, .inl f_pilez_14)), (m_caseMany, .inl (E.2.1 1, 4, .inl f_caseMany)), (m_happen, .inl (E.2.1 1, 4, .inl f_happen)), (m_hasIf, .inl (E.2.1 3, 16, .inl f_hasIf)), (m_becomes, .inl (E.2.1 1, 16, .inl f_becomes)), (m_goneOf, .inl (E.2.1 1, 16, .inl f_goneOf)), (m_heard, .inl (E.2.1 1, 64, .inl f_heard)), (m_actMany, .inl (E.2.1 1, 25, .inl f_actMany)), (m_actOf, .inl (E.2.1 1, 800, .inl f_actOf)), (m_whom, .inl (E.2.1 1, 800, .inl f_whom)), (m_afters, .inl (E.2.1 1, 9, .inl f_afters)), (m_afterOf, .inl (E.2.1 1, 18, .inl f_afterOf)), (hm, .inr (12, [.ref m_manys, .ref m_reals, .ref m_factsOf, .ref m_possible, .int (nI q_undos), .int (nI q_models), .ref m_tape, .int (nI q_taped), .int q_fault, .int q_wrong, .int q_wrongAt, .int q_spot, .int q_place, .int q_token, .int q_value, .ref m_ends, .ref m_letters, .ref m_actOf, .ref m_whom, .ref m_actMany, .ref m_tokens, .ref m_afters, .ref m_afterOf, .int q_counted, .ref m_pile, .ref m_caseMany, .ref m_happen, .ref m_hasIf, .ref m_becomes, .ref m_goneOf, .ref m_heard, .ref m_pairs, .ref m_heaps, .int q_rounds, .int q_heapMany, .ref m_led, .ref m_newAt, .ref m_knowing, .ref m_firsts, .int (nI q_people), .ref m_secrets, .ref m_tried, .ref m_lanes, .ref m_lengths, .ref m_cells])), (m_manys, .inl (E.2.1 1, 18, .inl f_manysz_9)), (m_reals, .inl (E.2.1 1, 18, .inl f_realsz_10)), (m_factsOf, .inl (E.2.1 1, 432, .inl f_factsOfz_11)), (m_possible, .inl (E.2.1 1, 1728, .inl f_possiblez_12))]) ?_ rfl rfl rfl
          obtain ⟨f_27, ef_27⟩ : ∃ z : Nat → Int32, upd gt_knowing k1 r_24 = z := ⟨_, rfl⟩
          refine ww_iast (ws' := [(m_knowing, .inl (E.2.1 1, 4, .inl f_27)), (m_pairs, .inl (E.2.1 1, 576, .inl f_pairsz_13)), (m_pile, .inl (E.2.1 1, 34, .inl f_pilez_14)), (m_caseMany, .inl (E.2.1 1, 4, .inl f_caseMany)), (m_happen, .inl (E.2.1 1, 4, .inl f_happen)), (m_hasIf, .inl (E.2.1 3, 16, .inl f_hasIf)), (m_becomes, .inl (E.2.1 1, 16, .inl f_becomes)), (m_goneOf, .inl (E.2.1 1, 16, .inl f_goneOf)), (m_heard, .inl (E.2.1 1, 64, .inl f_heard)), (m_actMany, .inl (E.2.1 1, 25, .inl f_actMany)), (m_actOf, .inl (E.2.1 1, 800, .inl f_actOf)), (m_whom, .inl (E.2.1 1, 800, .inl f_whom)), (m_afters, .inl (E.2.1 1, 9, .inl f_afters)), (m_afterOf, .inl (E.2.1 1, 18, .inl f_afterOf)), (hm, .inr (12, [.ref m_manys, .ref m_reals, .ref m_factsOf, .ref m_possible, .int (nI q_undos), .int (nI q_models), .ref m_tape, .int (nI q_taped), .int q_fault, .int q_wrong, .int q_wrongAt, .int q_spot, .int q_place, .int q_token, .int q_value, .ref m_ends, .ref m_letters, .ref m_actOf, .ref m_whom, .ref m_actMany, .ref m_tokens, .ref m_afters, .ref m_afterOf, .int q_counted, .ref m_pile, .ref m_caseMany, .ref m_happen, .ref m_hasIf, .ref m_becomes, .ref m_goneOf, .ref m_heard, .ref m_pairs, .ref m_heaps, .int q_rounds, .int q_heapMany, .ref m_led, .ref m_newAt, .ref m_knowing, .ref m_firsts, .int (nI q_people), .ref m_secrets, .ref m_tried, .ref m_lanes, .ref m_lengths, .ref m_cells])), (m_manys, .inl (E.2.1 1, 18, .inl f_manysz_9)), (m_reals, .inl (E.2.1 1, 18, .inl f_realsz_10)), (m_factsOf, .inl (E.2.1 1, 432, .inl f_factsOfz_11)), (m_possible, .inl (E.2.1 1, 1728, .inl f_possiblez_12))]) C 0 rfl (vp_in_nI (by omega) (by omega)) (ldn2 (by omega) ef_27) rfl dX12_layKnowing_53 ?_
          refine ww_iload C dX12_layKnowing_54 1 rfl ?_
          refine ww_aload_n C dX12_layKnowing_56 2 rfl rfl ?_
          refine ww_get C fg_X12_84 14 rfl rfl dX12_layKnowing_57 ?_
          refine ww_iload C dX12_layKnowing_60 0 rfl ?_
          obtain ⟨x_28, ex_28⟩ : ∃ z : Int32, f_27 k1 = z := ⟨_, rfl⟩
          refine ww_iald (v := x_28) C 0 rfl (vp_in_nI (by omega) (by omega)) (ldn (by omega) ex_28) dX12_layKnowing_62 ?_
          refine ww_aload_n C dX12_layKnowing_63 2 rfl rfl ?_
          refine ww_get C fg_X12_13 14 rfl rfl dX12_layKnowing_64 ?_
          refine ww_iload_n C dX12_layKnowing_67 3 rfl rfl ?_
          have hbx_29 := (h_16 pa (by omega)).2
          refine ww_iald (v := (nI (cN f_realsz_10 pa))) C 16 rfl (vp_in_nI (by omega) (by omega)) (ldn (by omega) (h_16 pa (by omega)).1) dX12_layKnowing_68 ?_
          obtain ⟨x_30, ex_30⟩ : ∃ z : Int32, x_28 >>> ((nI (cN f_realsz_10 pa)) &&& 31) = z := ⟨_, rfl⟩
          refine ww_ishr (v := x_30) C dX12_layKnowing_69 ex_30 ?_
          refine ww_iconst (v := 1) C dX12_layKnowing_70 rfl ?_
          obtain ⟨j_31, hj_31, ej_31⟩ := pk_andE x_30 (m := 1) 1 rfl
          refine ww_iand (v := (nI j_31)) C dX12_layKnowing_71 ej_31 ?_
          refine ww_iload C dX12_layKnowing_72 0 rfl ?_
          obtain ⟨x_32, ex_32⟩ : ∃ z : Int32, (nI j_31) <<< ((nI k1) &&& 31) = z := ⟨_, rfl⟩
          refine ww_ishl (v := x_32) C dX12_layKnowing_74 ex_32 ?_
          obtain ⟨x_33, ex_33⟩ : ∃ z : Int32, wh ||| x_32 = z := ⟨_, rfl⟩
          refine ww_ior (v := x_33) C dX12_layKnowing_75 ex_33 ?_
          refine ww_istore (lv' := [(4, .int x_33), (5, .int (nI k1)), (0, .ref hm), (1, .int (nI pa)), (2, .int gr), (3, .int sg)]) C dX12_layKnowing_76 rfl rfl ?_
          refine ww_iinc (j := 1) (v := (nI (k1 + 1))) (lv' := [(5, .int (nI (k1 + 1))), (4, .int x_33), (0, .ref hm), (1, .int (nI pa)), (2, .int gr), (3, .int sg)]) C dX12_layKnowing_78 rfl (nI_add k1 1) rfl rfl ?_
          refine ww_goto (tgt := 6) C dX12_layKnowing_81 (by decide) ?_
          exact ww_lv [0, 1, 2, 3, 4, 5] rfl (ww_sub [14, 15, 16, 17, 18, 1, 2, 3, 4, 5, 6, 7, 8, 9, 10, 11, 12, 13, 0] (ndk (by decide +kernel)) (gqk (by eq_refl)) (ih_6 (k1 + 1) x_33 f_manysz_9 f_realsz_10 f_factsOfz_11 f_possiblez_12 f_pairsz_13 f_pilez_14 f_27 (by omega) (knS_b (r := x_28) hkn (by omega) (askd_y (hasb_1 (b := gr) (p := k1) (by omega) (by assumption) (by assumption) (by omega)) (sgI_of ex_6 ej_7 (by omega)) (by have h9 := (hTq k1 (by omega) (hasb_1 (b := gr) (p := k1) (by omega) (by assumption) (by assumption) (by omega))).1; rw [(sgI_of ex_6 ej_7 (by omega))] at h9; exact h9)) (by rw [← ex_28, ← ef_27, pk_us]; exact (akn_of (hoth pa (by omega) (Or.inl (Nat.le_refl _))) (h_22 pa (by omega) (Or.inl (Nat.le_refl _))) (sgI_of ex_6 ej_7 (by omega)) (by have h9 := (hTq k1 (by omega) (hasb_1 (b := gr) (p := k1) (by omega) (by assumption) (by assumption) (by omega))).1; rw [(sgI_of ex_6 ej_7 (by omega))] at h9; exact h9) ex_5 h_25 h_21)) (show cN f_reals pa < 32 by have := (hb_reals pa (by omega)).2; omega) (by have h9 := ex_30; rw [KP.at (KP.tr hk_reals h_20) (p := pa) (by omega)] at h9; exact h9) ej_31 (by omega) ex_32 ex_33) (fun j hj hb => if hk : j = k1 then (by rw [hk, ← ef_27, pk_us]; exact (akn_of (hoth pa (by omega) (Or.inl (Nat.le_refl _))) (h_22 pa (by omega) (Or.inl (Nat.le_refl _))) (sgI_of ex_6 ej_7 (by omega)) (by have h9 := (hTq k1 (by omega) (hasb_1 (b := gr) (p := k1) (by omega) (by assumption) (by assumption) (by omega))).1; rw [(sgI_of ex_6 ej_7 (by omega))] at h9; exact h9) ex_5 h_25 h_21)) else (by rw [← ef_27, pk_un hk]; exact hka j (by omega) hb)) (KPA.tr hoth h_22 (Nat.le_refl _)) (KP.tr hk_manys h_19) (KP.tr hk_reals h_20) h_15 h_16 h_17 h_18 (by omega)))
  exact ww_lv [0, 1, 2, 3, 4, 5] rfl (ww_sub [0, 1, 2, 3, 4, 5, 6, 7, 8, 9, 10, 11, 12, 13, 14, 15, 16, 17, 18] (ndk (by decide +kernel)) (gqk (by eq_refl)) (loop_6 _ 0 0 f_manys f_reals f_factsOf f_possible f_pairs f_pile f_knowing (by omega) (BS.z.cg (fun i _ => by show false = (decide (i < 0) && _); rw [decide_eq_false (Nat.not_lt_zero i), Bool.false_and])) (fun j h => absurd h (Nat.not_lt_zero _)) KPA.rf KP.rf KP.rf hb_manys hb_reals hpg hwf (Nat.lt_succ_self _)))
end
section
/-! turns of the reference: what stays, turn by turn -/
theorem sgI_lt {sg : Int32} {k : Nat} : sgI sg k < 8 := by
  unfold sgI
  obtain ⟨j, hj, e⟩ := pk_andE (sg >>> (nI (3 * k) &&& 31)) (m := 7) 3 rfl
  rw [e, nI_clamp (by omega)]; omega
theorem tq_of {ft fm fa fw fo fn : Nat → Int32} {v0 v1 : Int32} (h : canT (rTk ft) v0 v1) (hW : WHT ft fm fa fw) : ∀ k, k < 4 → bt v0 k = true → rTT ft fm fa fw fo fn (sgI v1 k) = some (rT fm fa fw fo fn (sgI v1 k)) ∧ WHs (cN fm (sgI v1 k)) fa fw (sgI v1 k) := fun k hk hb => by
  have h1 := h.2.2.2.2 k hk hb
  unfold rTk at h1
  by_cases q : 0 < (ft (sgI v1 k)).toInt
  · exact ⟨if_pos q, hW _ sgI_lt q⟩
  · rw [if_neg q] at h1; cases h1
theorem tq_ask {ft fm fa fw fo fn : Nat → Int32} {v0 v1 : Int32} (h : canT (rTk ft) v0 v1) (hW : WHT ft fm fa fw) : ∀ k, k < 4 → bt v0 k = true → askd (rTT ft fm fa fw fo fn) v0 v1 k = true := fun k hk hb => askd_y hb rfl (tq_of h hW k hk hb).1
theorem can_TT {ft fm fa fw fo fn : Nat → Int32} {v0 v1 : Int32} (h : canT (rTk ft) v0 v1) : canT (rTT ft fm fa fw fo fn) v0 v1 := canT_cg rTk_T h
theorem cann_TT {ft fm fa fw fo fn : Nat → Int32} {v0 v1 : Int32} (h : ¬ canT (rTk ft) v0 v1) : ¬ canT (rTT ft fm fa fw fo fn) v0 v1 := fun q => h (canT_cg (fun k hk => (rTk_T k hk).symm) q)
theorem st_all {m : AM} {ev : Nat → EVl} {T : Nat → Option SVal} {gr sg x : Int32} {n : Nat} (h : ∀ i, i < 32 → bt x i = decide (i < n)) (e : m.1 = n) : BS x (stS m ev T gr sg 0) := fun i hi => by
  rw [h i hi, ← e]; rfl
theorem vall_bs {m : AM} {x : Int32} {n : Nat} (h : ∀ i, i < 32 → bt x i = decide (i < n)) (e : m.1 = n) : BS x (vAll m) := fun i hi => by
  rw [h i hi, ← e]; rfl
theorem st_in {m : AM} {ev : Nat → EVl} {T : Nat → Option SVal} {gr sg so : Int32} (h : BS so (stS m ev T gr sg 4)) {n : Nat} (e : m.1 = n) : ∀ i, i < 32 → bt so i = true → i < n := fun i hi hb => by
  rw [← e]; exact stS_lt 4 i (by rw [← h i hi]; exact hb)
theorem st_re {m : AM} (hw : WFm m) {ev : Nat → EVl} {T : Nat → Option SVal} {gr sg so : Int32} (h : BS so (stS m ev T gr sg 4)) (hr : m.2.1 < m.1) (h32 : m.1 ≤ 32) : bt so m.2.1 = true := by
  rw [h m.2.1 (by omega)]; exact stS_real hw hr 4
section GR
variable {m A A2 : AM} {ev : Nat → EVl} {T : Nat → Option SVal} {gr sg st al : Int32} {i : Nat}
theorem gr_cut (ha : A = goS m ev T gr sg i) (hr : A.2.1 < A.1) (h32 : A.1 ≤ 32) (hs : BS st (stS A ev T gr sg 4)) (hc : A2 = aCut A (bt st)) : A2 = goS m ev T gr sg (i + 1) := by
  show A2 = aCut (goS m ev T gr sg i) (stS (goS m ev T gr sg i) ev T gr sg 4)
  rw [hc, ← ha]
  exact aCut_cg hr (fun v hv => hs v (by omega))
theorem gr_rest (ha : A = goS m ev T gr sg i) (hs : BS st (stS A ev T gr sg 4)) (hl : BS al (vAll A)) (e : st = al) : restG m ev T gr sg i := by
  unfold restG
  rw [← ha]
  intro v hv
  rw [← hs v hv, ← hl v hv, e]
theorem gr_more (ha : A = goS m ev T gr sg i) (hs : BS st (stS A ev T gr sg 4)) (hl : BS al (vAll A)) (e : ¬ st = al) : ¬ restG m ev T gr sg i := by
  unfold restG
  rw [← ha]
  intro h
  exact e (b_ext (fun v hv => (hs v hv).trans ((h v hv).trans (hl v hv).symm)))
end GR
theorem kn_eq {A m : AM} {ev : Nat → EVl} {T : Nat → Option SVal} {gr sg wh : Int32} {i : Nat} (ha : A = goS m ev T gr sg i) (h : BS wh (knS A ev T gr sg 4)) : BS wh (knS (goS m ev T gr sg i) ev T gr sg 4) := by rw [← ha]; exact h
section FS2
variable {m : AM} {ev : Nat → EVl} {T : Nat → Option SVal} {gr sg : Int32} {g k : Nat} {f f' : Nat → Int32} {x : Int32}
theorem upd_same {v : Int32} (ex : f k = v) (e : upd f k v = f') : f' = f := by
  rw [← e]; funext i
  by_cases q : i = k
  · rw [q, pk_us, ex]
  · rw [pk_un q]
theorem fr_n (h : ∀ k', k' < 4 → f k' = if k' < k then fstS m ev T gr sg k' (g + 1) else fstS m ev T gr sg k' g) (hk : k < 4) (hkn : knS (goS m ev T gr sg g) ev T gr sg 4 k = false) (ex : f k = x) (e : upd f k x = f') : ∀ k', k' < 4 → f' k' = if k' < k + 1 then fstS m ev T gr sg k' (g + 1) else fstS m ev T gr sg k' g := by
  rw [upd_same ex e]; exact fs_n h hk hkn
theorem fr_o {y : Int32} (h : ∀ k', k' < 4 → f k' = if k' < k then fstS m ev T gr sg k' (g + 1) else fstS m ev T gr sg k' g) (hk : k < 4) (ey : f k = y) (h4 : ¬ y = -4) (ex : f k = x) (e : upd f k x = f') : ∀ k', k' < 4 → f' k' = if k' < k + 1 then fstS m ev T gr sg k' (g + 1) else fstS m ev T gr sg k' g := by
  rw [upd_same ex e]; exact fs_o h hk ey h4
theorem fr_0 {f0 : Nat → Int32} (h : ∀ k, k < 4 → f0 k = -4) : ∀ k', k' < 4 → f0 k' = fstS m ev T gr sg k' 0 := fun k' hk => h k' hk
theorem fr_b (h : ∀ k', k' < 4 → f k' = fstS m ev T gr sg k' g) : ∀ k', k' < 4 → f k' = if k' < 0 then fstS m ev T gr sg k' (g + 1) else fstS m ev T gr sg k' g := fun k' hk => by
  rw [if_neg (Nat.not_lt_zero k')]; exact h k' hk
theorem fr_e (h : ∀ k', k' < 4 → f k' = if k' < k then fstS m ev T gr sg k' (g + 1) else fstS m ev T gr sg k' g) (hk : k = 4) : ∀ k', k' < 4 → f k' = fstS m ev T gr sg k' (g + 1) := fun k' hk' => by
  have h1 := h k' hk'
  rw [if_pos (by omega)] at h1; exact h1
end FS2
theorem dX12_staying_0 : decode cX12_staying 0 = .ok (.aload_n 0, 1) := dl_42 (by decide +kernel)
theorem dX12_staying_1 : decode cX12_staying 1 = .ok (.getfield 7, 3) := dl_180 (by decide +kernel)
theorem dX12_staying_4 : decode cX12_staying 4 = .ok (.iload_n 1, 1) := dl_27 (by decide +kernel)
theorem dX12_staying_5 : decode cX12_staying 5 = .ok (.iaload, 1) := dl_46 (by decide +kernel)
theorem dX12_staying_6 : decode cX12_staying 6 = .ok (.invokestatic 230, 3) := dl_184 (by decide +kernel)
theorem dX12_staying_9 : decode cX12_staying 9 = .ok (.istore_n 3, 1) := dl_62 (by decide +kernel)
theorem dX12_staying_10 : decode cX12_staying 10 = .ok (.iconst 0, 1) := dl_3 (by decide +kernel)
theorem dX12_staying_11 : decode cX12_staying 11 = .ok (.istore 4, 2) := dl_54 (by decide +kernel)
theorem dX12_staying_13 : decode cX12_staying 13 = .ok (.iload 4, 2) := dl_21 (by decide +kernel)
theorem dX12_staying_15 : decode cX12_staying 15 = .ok (.iconst 4, 1) := dl_7 (by decide +kernel)
theorem dX12_staying_16 : decode cX12_staying 16 = .ok (.if_icmp .ge 61, 3) := dl_162 (by decide +kernel)
theorem dX12_staying_77 : decode cX12_staying 77 = .ok (.iload_n 3, 1) := dl_29 (by decide +kernel)
theorem dX12_staying_78 : decode cX12_staying 78 = .ok (.ireturn, 1) := dl_172 (by decide +kernel)
theorem dX12_staying_19 : decode cX12_staying 19 = .ok (.iload_n 2, 1) := dl_28 (by decide +kernel)
theorem dX12_staying_20 : decode cX12_staying 20 = .ok (.iload 4, 2) := dl_21 (by decide +kernel)
theorem dX12_staying_22 : decode cX12_staying 22 = .ok (.ishr, 1) := dl_122 (by decide +kernel)
theorem dX12_staying_23 : decode cX12_staying 23 = .ok (.iconst 1, 1) := dl_4 (by decide +kernel)
theorem dX12_staying_24 : decode cX12_staying 24 = .ok (.iand, 1) := dl_126 (by decide +kernel)
theorem dX12_staying_25 : decode cX12_staying 25 = .ok (.iconst 1, 1) := dl_4 (by decide +kernel)
theorem dX12_staying_26 : decode cX12_staying 26 = .ok (.if_icmp .ne 45, 3) := dl_160 (by decide +kernel)
theorem dX12_staying_71 : decode cX12_staying 71 = .ok (.iinc 4 1, 3) := dl_132 (by decide +kernel)
theorem dX12_staying_74 : decode cX12_staying 74 = .ok (.goto (-61), 3) := dl_167 (by decide +kernel)
theorem dX12_staying_29 : decode cX12_staying 29 = .ok (.iload_n 3, 1) := dl_29 (by decide +kernel)
theorem dX12_staying_30 : decode cX12_staying 30 = .ok (.aload_n 0, 1) := dl_42 (by decide +kernel)
theorem dX12_staying_31 : decode cX12_staying 31 = .ok (.getfield 84, 3) := dl_180 (by decide +kernel)
theorem dX12_staying_34 : decode cX12_staying 34 = .ok (.iload 4, 2) := dl_21 (by decide +kernel)
theorem dX12_staying_36 : decode cX12_staying 36 = .ok (.iaload, 1) := dl_46 (by decide +kernel)
theorem dX12_staying_37 : decode cX12_staying 37 = .ok (.aload_n 0, 1) := dl_42 (by decide +kernel)
theorem dX12_staying_38 : decode cX12_staying 38 = .ok (.getfield 13, 3) := dl_180 (by decide +kernel)
theorem dX12_staying_41 : decode cX12_staying 41 = .ok (.iload_n 1, 1) := dl_27 (by decide +kernel)
theorem dX12_staying_42 : decode cX12_staying 42 = .ok (.iaload, 1) := dl_46 (by decide +kernel)
theorem dX12_staying_43 : decode cX12_staying 43 = .ok (.ishr, 1) := dl_122 (by decide +kernel)
theorem dX12_staying_44 : decode cX12_staying 44 = .ok (.iconst 1, 1) := dl_4 (by decide +kernel)
theorem dX12_staying_45 : decode cX12_staying 45 = .ok (.iand, 1) := dl_126 (by decide +kernel)
theorem dX12_staying_46 : decode cX12_staying 46 = .ok (.iconst 1, 1) := dl_4 (by decide +kernel)
theorem dX12_staying_47 : decode cX12_staying 47 = .ok (.if_icmp .ne 13, 3) := dl_160 (by decide +kernel)
theorem dX12_staying_60 : decode cX12_staying 60 = .ok (.aload_n 0, 1) := dl_42 (by decide +kernel)
theorem dX12_staying_61 : decode cX12_staying 61 = .ok (.getfield 84, 3) := dl_180 (by decide +kernel)
theorem dX12_staying_64 : decode cX12_staying 64 = .ok (.iload 4, 2) := dl_21 (by decide +kernel)
theorem dX12_staying_66 : decode cX12_staying 66 = .ok (.iaload, 1) := dl_46 (by decide +kernel)
theorem dX12_staying_67 : decode cX12_staying 67 = .ok (.iconst (-1), 1) := dl_2 (by decide +kernel)
theorem dX12_staying_68 : decode cX12_staying 68 = .ok (.ixor, 1) := dl_130 (by decide +kernel)
theorem dX12_staying_69 : decode cX12_staying 69 = .ok (.iand, 1) := dl_126 (by decide +kernel)
theorem dX12_staying_70 : decode cX12_staying 70 = .ok (.istore_n 3, 1) := dl_62 (by decide +kernel)
theorem dX12_staying_50 : decode cX12_staying 50 = .ok (.aload_n 0, 1) := dl_42 (by decide +kernel)
theorem dX12_staying_51 : decode cX12_staying 51 = .ok (.getfield 84, 3) := dl_180 (by decide +kernel)
theorem dX12_staying_54 : decode cX12_staying 54 = .ok (.iload 4, 2) := dl_21 (by decide +kernel)
theorem dX12_staying_56 : decode cX12_staying 56 = .ok (.iaload, 1) := dl_46 (by decide +kernel)
theorem dX12_staying_57 : decode cX12_staying 57 = .ok (.goto 12, 3) := dl_167 (by decide +kernel)
set_option maxRecDepth 100000 in
set_option maxHeartbeats 4000000 in
theorem r_staying (l : Launch) (E : EV) (ro : va_W) (hm : Nat) (pa : Nat) (gr : Int32) (m_manys : Nat) (m_reals : Nat) (m_factsOf : Nat) (m_possible : Nat) (q_undos : Nat) (q_models : Nat) (m_tape : Nat) (q_taped : Nat) (q_fault : Int32) (q_wrong : Int32) (q_wrongAt : Int32) (q_spot : Int32) (q_place : Int32) (q_token : Int32) (q_value : Int32) (m_ends : Nat) (m_letters : Nat) (m_actOf : Nat) (m_whom : Nat) (m_actMany : Nat) (m_tokens : Nat) (m_afters : Nat) (m_afterOf : Nat) (q_counted : Int32) (m_pile : Nat) (m_caseMany : Nat) (m_happen : Nat) (m_hasIf : Nat) (m_becomes : Nat) (m_goneOf : Nat) (m_heard : Nat) (m_pairs : Nat) (m_heaps : Nat) (q_rounds : Int32) (q_heapMany : Int32) (m_led : Nat) (m_newAt : Nat) (m_knowing : Nat) (m_firsts : Nat) (q_people : Nat) (m_secrets : Nat) (m_tried : Nat) (m_lanes : Nat) (m_lengths : Nat) (m_cells : Nat) (f_manys : Nat → Int32) (f_reals : Nat → Int32) (f_knowing : Nat → Int32) (Am : AM) (Ae : Nat → EVl) (Tq : Nat → Option SVal) (sg : Int32) (hb_manys : NB 18 24 f_manys) (hb_reals : NB 18 23 f_reals) (hpg : PG f_manys f_reals) (hpa : pa < 18) (hm1 : Am.1 = cN f_manys pa) (hm2 : Am.2.1 = cN f_reals pa) (hka : ∀ j, j < 4 → bt gr j = true → BS (f_knowing j) (aKn Am Ae Tq sg j)) (hak : ∀ j, j < 4 → bt gr j = true → askd Tq gr sg j = true) : CT l yX12_staying (Cond.code yX12_staying cX12_staying 5 (some .int) :: TB) ({ frames := 1, cells := 0, slots := 0, locals := 20 }) E ro [.ref hm, .int (nI pa), .int gr] [(hm, .inr (12, [.ref m_manys, .ref m_reals, .ref m_factsOf, .ref m_possible, .int (nI q_undos), .int (nI q_models), .ref m_tape, .int (nI q_taped), .int q_fault, .int q_wrong, .int q_wrongAt, .int q_spot, .int q_place, .int q_token, .int q_value, .ref m_ends, .ref m_letters, .ref m_actOf, .ref m_whom, .ref m_actMany, .ref m_tokens, .ref m_afters, .ref m_afterOf, .int q_counted, .ref m_pile, .ref m_caseMany, .ref m_happen, .ref m_hasIf, .ref m_becomes, .ref m_goneOf, .ref m_heard, .ref m_pairs, .ref m_heaps, .int q_rounds, .int q_heapMany, .ref m_led, .ref m_newAt, .ref m_knowing, .ref m_firsts, .int (nI q_people), .ref m_secrets, .ref m_tried, .ref m_lanes, .ref m_lengths, .ref m_cells])), (m_manys, .inl (E.2.1 1, 18, .inl f_manys)), (m_reals, .inl (E.2.1 1, 18, .inl f_reals)), (m_knowing, .inl (E.2.1 1, 4, .inl f_knowing))] (Qi E (fun (rz : Int32) uz => (uz = [(hm, .inr (12, [.ref m_manys, .ref m_reals, .ref m_factsOf, .ref m_possible, .int (nI q_undos), .int (nI q_models), .ref m_tape, .int (nI q_taped), .int q_fault, .int q_wrong, .int q_wrongAt, .int q_spot, .int q_place, .int q_token, .int q_value, .ref m_ends, .ref m_letters, .ref m_actOf, .ref m_whom, .ref m_actMany, .ref m_tokens, .ref m_afters, .ref m_afterOf, .int q_counted, .ref m_pile, .ref m_caseMany, .ref m_happen, .ref m_hasIf, .ref m_becomes, .ref m_goneOf, .ref m_heard, .ref m_pairs, .ref m_heaps, .int q_rounds, .int q_heapMany, .ref m_led, .ref m_newAt, .ref m_knowing, .ref m_firsts, .int (nI q_people), .ref m_secrets, .ref m_tried, .ref m_lanes, .ref m_lengths, .ref m_cells])), (m_manys, .inl (E.2.1 1, 18, .inl f_manys)), (m_reals, .inl (E.2.1 1, 18, .inl f_reals)), (m_knowing, .inl (E.2.1 1, 4, .inl f_knowing))] ∧ (BS rz (stS Am Ae Tq gr sg 4))))) 0 0 := by
  refine ct_of rfl rfl ?_
  intro X C hT hin hro
  show WW X 5 E 0 [(0, .ref hm), (1, .int (nI pa)), (2, .int gr)] [] [(hm, .inr (12, [.ref m_manys, .ref m_reals, .ref m_factsOf, .ref m_possible, .int (nI q_undos), .int (nI q_models), .ref m_tape, .int (nI q_taped), .int q_fault, .int q_wrong, .int q_wrongAt, .int q_spot, .int q_place, .int q_token, .int q_value, .ref m_ends, .ref m_letters, .ref m_actOf, .ref m_whom, .ref m_actMany, .ref m_tokens, .ref m_afters, .ref m_afterOf, .int q_counted, .ref m_pile, .ref m_caseMany, .ref m_happen, .ref m_hasIf, .ref m_becomes, .ref m_goneOf, .ref m_heard, .ref m_pairs, .ref m_heaps, .int q_rounds, .int q_heapMany, .ref m_led, .ref m_newAt, .ref m_knowing, .ref m_firsts, .int (nI q_people), .ref m_secrets, .ref m_tried, .ref m_lanes, .ref m_lengths, .ref m_cells])), (m_manys, .inl (E.2.1 1, 18, .inl f_manys)), (m_reals, .inl (E.2.1 1, 18, .inl f_reals)), (m_knowing, .inl (E.2.1 1, 4, .inl f_knowing))] 0 0
  have hmn0 := (hb_manys 0 (by omega)).2
  have hmnp := (hb_manys pa (by omega)).2
  have hrlp := (hb_reals pa (by omega)).2
  refine ww_aload_n C dX12_staying_0 0 rfl rfl ?_
  refine ww_get C fg_X12_7 0 rfl rfl dX12_staying_1 ?_
  refine ww_iload_n C dX12_staying_4 1 rfl rfl ?_
  have hbx_1 := (hb_manys pa (by omega)).2
  refine ww_iald (v := (nI (cN f_manys pa))) C 1 rfl (vp_in_nI (by omega) (by omega)) (ldn (by omega) (hb_manys pa (by omega)).1) dX12_staying_5 ?_
  refine ww_ci (wr := [(hm, .inr (12, [.ref m_manys, .ref m_reals, .ref m_factsOf, .ref m_possible, .int (nI q_undos), .int (nI q_models), .ref m_tape, .int (nI q_taped), .int q_fault, .int q_wrong, .int q_wrongAt, .int q_spot, .int q_place, .int q_token, .int q_value, .ref m_ends, .ref m_letters, .ref m_actOf, .ref m_whom, .ref m_actMany, .ref m_tokens, .ref m_afters, .ref m_afterOf, .int q_counted, .ref m_pile, .ref m_caseMany, .ref m_happen, .ref m_hasIf, .ref m_becomes, .ref m_goneOf, .ref m_heard, .ref m_pairs, .ref m_heaps, .int q_rounds, .int q_heapMany, .ref m_led, .ref m_newAt, .ref m_knowing, .ref m_firsts, .int (nI q_people), .ref m_secrets, .ref m_tried, .ref m_lanes, .ref m_lengths, .ref m_cells])), (m_manys, .inl (E.2.1 1, 18, .inl f_manys)), (m_reals, .inl (E.2.1 1, 18, .inl f_reals)), (m_knowing, .inl (E.2.1 1, 4, .inl f_knowing))]) (k' := 0) (n' := 0) C (run_S (As := [.int (nI (cN f_manys pa))]) (rest := []) C (r_all X.2.1 E ro (cN f_manys pa) (by omega)) ms_X12_all wl_X12_230 rfl rfl rfl rfl dX12_staying_6) (roK hro) [] [0, 1, 2, 3] rfl rfl rfl rfl (fun r_2 uz hw => ?_)
  refine an1 hw ?_
  clear hw
  intro he_4 hw
  have h_3 := hw
  clear hw
  subst he_4
  refine ww_eq (ws' := [(hm, .inr (12, [.ref m_manys, .ref m_reals, .ref m_factsOf, .ref m_possible, .int (nI q_undos), .int (nI q_models), .ref m_tape, .int (nI q_taped), .int q_fault, .int q_wrong, .int q_wrongAt, .int q_spot, .int q_place, .int q_token, .int q_value, .ref m_ends, .ref m_letters, .ref m_actOf, .ref m_whom, .ref m_actMany, .ref m_tokens, .ref m_afters, .ref m_afterOf, .int q_counted, .ref m_pile, .ref m_caseMany, .ref m_happen, .ref m_hasIf, .ref m_becomes, .ref m_goneOf, .ref m_heard, .ref m_pairs, .ref m_heaps, .int q_rounds, .int q_heapMany, .ref m_led, .ref m_newAt, .ref m_knowing, .ref m_firsts, .int (nI q_people), .ref m_secrets, .ref m_tried, .ref m_lanes, .ref m_lengths, .ref m_cells])), (m_manys, .inl (E.2.1 1, 18, .inl f_manys)), (m_reals, .inl (E.2.1 1, 18, .inl f_reals)), (m_knowing, .inl (E.2.1 1, 4, .inl f_knowing))]) ?_ rfl rfl rfl
  refine ww_istore_n (lv' := [(3, .int r_2), (0, .ref hm), (1, .int (nI pa)), (2, .int gr)]) C dX12_staying_9 rfl rfl rfl ?_
  refine ww_iconst (v := 0) C dX12_staying_10 rfl ?_
  refine ww_istore (lv' := [(4, .int 0), (3, .int r_2), (0, .ref hm), (1, .int (nI pa)), (2, .int gr)]) C dX12_staying_11 rfl rfl ?_
  have loop_13 : ∀ (fu : Nat) (k1 : Nat) (so : Int32), (k1 ≤ 4) → (BS so (stS Am Ae Tq gr sg k1)) → 4 - k1 < fu → WW X 5 E 13 [(4, .int (nI k1)), (3, .int so), (0, .ref hm), (1, .int (nI pa)), (2, .int gr)] [] [(hm, .inr (12, [.ref m_manys, .ref m_reals, .ref m_factsOf, .ref m_possible, .int (nI q_undos), .int (nI q_models), .ref m_tape, .int (nI q_taped), .int q_fault, .int q_wrong, .int q_wrongAt, .int q_spot, .int q_place, .int q_token, .int q_value, .ref m_ends, .ref m_letters, .ref m_actOf, .ref m_whom, .ref m_actMany, .ref m_tokens, .ref m_afters, .ref m_afterOf, .int q_counted, .ref m_pile, .ref m_caseMany, .ref m_happen, .ref m_hasIf, .ref m_becomes, .ref m_goneOf, .ref m_heard, .ref m_pairs, .ref m_heaps, .int q_rounds, .int q_heapMany, .ref m_led, .ref m_newAt, .ref m_knowing, .ref m_firsts, .int (nI q_people), .ref m_secrets, .ref m_tried, .ref m_lanes, .ref m_lengths, .ref m_cells])), (m_manys, .inl (E.2.1 1, 18, .inl f_manys)), (m_reals, .inl (E.2.1 1, 18, .inl f_reals)), (m_knowing, .inl (E.2.1 1, 4, .inl f_knowing))] 0 0 := by
    intro fu
    induction fu with
    | zero => intro k1 so hk1 hst hmeas; exact absurd hmeas (Nat.not_lt_zero _)
    | succ fu ih_13 =>
      intro k1 so hk1 hst hmeas
      refine ww_iload C dX12_staying_13 0 rfl ?_
      refine ww_iconst (v := 4) C dX12_staying_15 rfl ?_
      refine ww_icmp_ge (tgt := 77) C dX12_staying_16 (by decide) (fun c_5 => ?_) (fun c_5 => ?_)
      · have zc_5 : ((k1 : Nat) : Int) ≥ 4 := i_le rfl (nI_toInt (n := k1) (by omega)) c_5
        refine ww_iload_n C dX12_staying_77 1 rfl rfl ?_
        exact ww_iret (u := [(hm, .inr (12, [.ref m_manys, .ref m_reals, .ref m_factsOf, .ref m_possible, .int (nI q_undos), .int (nI q_models), .ref m_tape, .int (nI q_taped), .int q_fault, .int q_wrong, .int q_wrongAt, .int q_spot, .int q_place, .int q_token, .int q_value, .ref m_ends, .ref m_letters, .ref m_actOf, .ref m_whom, .ref m_actMany, .ref m_tokens, .ref m_afters, .ref m_afterOf, .int q_counted, .ref m_pile, .ref m_caseMany, .ref m_happen, .ref m_hasIf, .ref m_becomes, .ref m_goneOf, .ref m_heard, .ref m_pairs, .ref m_heaps, .int q_rounds, .int q_heapMany, .ref m_led, .ref m_newAt, .ref m_knowing, .ref m_firsts, .int (nI q_people), .ref m_secrets, .ref m_tried, .ref m_lanes, .ref m_lengths, .ref m_cells])), (m_manys, .inl (E.2.1 1, 18, .inl f_manys)), (m_reals, .inl (E.2.1 1, 18, .inl f_reals)), (m_knowing, .inl (E.2.1 1, 4, .inl f_knowing))]) C hT [0, 1, 2, 3] rfl rfl rfl rfl dX12_staying_78 (⟨rfl, (by have h9 : k1 = 4 := (by omega); rw [h9] at hst; exact hst)⟩)
      · have zc_5 : ((k1 : Nat) : Int) < 4 := i_nle rfl (nI_toInt (n := k1) (by omega)) c_5
        refine ww_iload_n C dX12_staying_19 4 rfl rfl ?_
        refine ww_iload C dX12_staying_20 0 rfl ?_
        obtain ⟨x_6, ex_6⟩ : ∃ z : Int32, gr >>> ((nI k1) &&& 31) = z := ⟨_, rfl⟩
        refine ww_ishr (v := x_6) C dX12_staying_22 ex_6 ?_
        refine ww_iconst (v := 1) C dX12_staying_23 rfl ?_
        obtain ⟨j_7, hj_7, ej_7⟩ := pk_andE x_6 (m := 1) 1 rfl
        refine ww_iand (v := (nI j_7)) C dX12_staying_24 ej_7 ?_
        refine ww_iconst (v := 1) C dX12_staying_25 rfl ?_
        refine ww_icmp_ne (tgt := 71) C dX12_staying_26 (by decide) (fun c_8 => ?_) (fun c_8 => ?_)
        · have zc_8 : ((j_7 : Nat) : Int) ≠ 1 := i_ne (nI_toInt (n := j_7) (by omega)) rfl c_8
          refine ww_iinc (j := 0) (v := (nI (k1 + 1))) (lv' := [(4, .int (nI (k1 + 1))), (3, .int so), (0, .ref hm), (1, .int (nI pa)), (2, .int gr)]) C dX12_staying_71 rfl (nI_add k1 1) rfl rfl ?_
          refine ww_goto (tgt := 13) C dX12_staying_74 (by decide) ?_
          exact ww_lv [0, 1, 2, 3, 4] rfl (ww_sub [0, 1, 2, 3] rfl rfl (ih_13 (k1 + 1) so (by omega) (stS_0 hst (askd_z (hasb_0 (b := gr) (p := k1) (by omega) (by assumption) (by assumption) (by omega)))) (by omega)))
        · have zc_8 : ((j_7 : Nat) : Int) = 1 := i_eq (nI_toInt (n := j_7) (by omega)) rfl c_8
          refine ww_iload_n C dX12_staying_29 1 rfl rfl ?_
          refine ww_aload_n C dX12_staying_30 2 rfl rfl ?_
          refine ww_get C fg_X12_84 0 rfl rfl dX12_staying_31 ?_
          refine ww_iload C dX12_staying_34 0 rfl ?_
          obtain ⟨x_9, ex_9⟩ : ∃ z : Int32, f_knowing k1 = z := ⟨_, rfl⟩
          refine ww_iald (v := x_9) C 3 rfl (vp_in_nI (by omega) (by omega)) (ldn (by omega) ex_9) dX12_staying_36 ?_
          refine ww_aload_n C dX12_staying_37 2 rfl rfl ?_
          refine ww_get C fg_X12_13 0 rfl rfl dX12_staying_38 ?_
          refine ww_iload_n C dX12_staying_41 3 rfl rfl ?_
          have hbx_10 := (hb_reals pa (by omega)).2
          refine ww_iald (v := (nI (cN f_reals pa))) C 2 rfl (vp_in_nI (by omega) (by omega)) (ldn (by omega) (hb_reals pa (by omega)).1) dX12_staying_42 ?_
          obtain ⟨x_11, ex_11⟩ : ∃ z : Int32, x_9 >>> ((nI (cN f_reals pa)) &&& 31) = z := ⟨_, rfl⟩
          refine ww_ishr (v := x_11) C dX12_staying_43 ex_11 ?_
          refine ww_iconst (v := 1) C dX12_staying_44 rfl ?_
          obtain ⟨j_12, hj_12, ej_12⟩ := pk_andE x_11 (m := 1) 1 rfl
          refine ww_iand (v := (nI j_12)) C dX12_staying_45 ej_12 ?_
          refine ww_iconst (v := 1) C dX12_staying_46 rfl ?_
          refine ww_icmp_ne (tgt := 60) C dX12_staying_47 (by decide) (fun c_13 => ?_) (fun c_13 => ?_)
          · have zc_13 : ((j_12 : Nat) : Int) ≠ 1 := i_ne (nI_toInt (n := j_12) (by omega)) rfl c_13
            refine ww_aload_n C dX12_staying_60 2 rfl rfl ?_
            refine ww_get C fg_X12_84 0 rfl rfl dX12_staying_61 ?_
            refine ww_iload C dX12_staying_64 0 rfl ?_
            refine ww_iald (v := x_9) C 3 rfl (vp_in_nI (by omega) (by omega)) (ldn (by omega) ex_9) dX12_staying_66 ?_
            refine ww_iconst (v := (-1)) C dX12_staying_67 rfl ?_
            obtain ⟨x_14, ex_14⟩ : ∃ z : Int32, x_9 ^^^ ((-1) : Int32) = z := ⟨_, rfl⟩
            refine ww_ixor (v := x_14) C dX12_staying_68 ex_14 ?_
            obtain ⟨x_15, ex_15⟩ : ∃ z : Int32, so &&& x_14 = z := ⟨_, rfl⟩
            refine ww_iand (v := x_15) C dX12_staying_69 ex_15 ?_
            refine ww_istore_n (lv' := [(3, .int x_15), (4, .int (nI k1)), (0, .ref hm), (1, .int (nI pa)), (2, .int gr)]) C dX12_staying_70 rfl rfl rfl ?_
            refine ww_iinc (j := 1) (v := (nI (k1 + 1))) (lv' := [(4, .int (nI (k1 + 1))), (3, .int x_15), (0, .ref hm), (1, .int (nI pa)), (2, .int gr)]) C dX12_staying_71 rfl (nI_add k1 1) rfl rfl ?_
            refine ww_goto (tgt := 13) C dX12_staying_74 (by decide) ?_
            exact ww_lv [0, 1, 2, 3, 4] rfl (ww_sub [0, 1, 2, 3] rfl rfl (ih_13 (k1 + 1) x_15 (by omega) (stS_n hst (hak k1 (by omega) (hasb_1 (b := gr) (p := k1) (by omega) (by assumption) (by assumption) (by omega))) (by rw [← ex_9]; exact hka k1 (by omega) (hasb_1 (b := gr) (p := k1) (by omega) (by assumption) (by assumption) (by omega))) (by rw [hm2]; omega) (by rw [hm2]; exact hasb_0 (b := x_9) (p := cN f_reals pa) (by omega) (by assumption) (by assumption) (by omega)) ex_14 ex_15) (by omega)))
          · have zc_13 : ((j_12 : Nat) : Int) = 1 := i_eq (nI_toInt (n := j_12) (by omega)) rfl c_13
            refine ww_aload_n C dX12_staying_50 2 rfl rfl ?_
            refine ww_get C fg_X12_84 0 rfl rfl dX12_staying_51 ?_
            refine ww_iload C dX12_staying_54 0 rfl ?_
            refine ww_iald (v := x_9) C 3 rfl (vp_in_nI (by omega) (by omega)) (ldn (by omega) ex_9) dX12_staying_56 ?_
            refine ww_goto (tgt := 69) C dX12_staying_57 (by decide) ?_
            obtain ⟨x_16, ex_16⟩ : ∃ z : Int32, so &&& x_9 = z := ⟨_, rfl⟩
            refine ww_iand (v := x_16) C dX12_staying_69 ex_16 ?_
            refine ww_istore_n (lv' := [(3, .int x_16), (4, .int (nI k1)), (0, .ref hm), (1, .int (nI pa)), (2, .int gr)]) C dX12_staying_70 rfl rfl rfl ?_
            refine ww_iinc (j := 1) (v := (nI (k1 + 1))) (lv' := [(4, .int (nI (k1 + 1))), (3, .int x_16), (0, .ref hm), (1, .int (nI pa)), (2, .int gr)]) C dX12_staying_71 rfl (nI_add k1 1) rfl rfl ?_
            refine ww_goto (tgt := 13) C dX12_staying_74 (by decide) ?_
            exact ww_lv [0, 1, 2, 3, 4] rfl (ww_sub [0, 1, 2, 3] rfl rfl (ih_13 (k1 + 1) x_16 (by omega) (stS_y hst (hak k1 (by omega) (hasb_1 (b := gr) (p := k1) (by omega) (by assumption) (by assumption) (by omega))) (by rw [← ex_9]; exact hka k1 (by omega) (hasb_1 (b := gr) (p := k1) (by omega) (by assumption) (by assumption) (by omega))) (by rw [hm2]; omega) (by rw [hm2]; exact hasb_1 (b := x_9) (p := cN f_reals pa) (by omega) (by assumption) (by assumption) (by omega)) ex_16) (by omega)))
  exact ww_lv [0, 1, 2, 3, 4] rfl (ww_sub [0, 1, 2, 3] rfl rfl (loop_13 _ 0 r_2 (by omega) (st_all h_3 hm1) (Nat.lt_succ_self _)))
end
section
theorem dX12_turn_0 : decode cX12_turn 0 = .ok (.aload_n 0, 1) := dl_42 (by decide +kernel)
theorem dX12_turn_1 : decode cX12_turn 1 = .ok (.iload_n 1, 1) := dl_27 (by decide +kernel)
theorem dX12_turn_2 : decode cX12_turn 2 = .ok (.iload_n 2, 1) := dl_28 (by decide +kernel)
theorem dX12_turn_3 : decode cX12_turn 3 = .ok (.invokevirtual 312, 3) := dl_182 (by decide +kernel)
theorem wl_X12_312 : Cond.methodLink RX12 312 yX12_areAsked ∈ TB := tbm (tq7 (List.mem_of_getElem? (i := 21) (by decide +kernel))) (by decide +kernel)
theorem wc_X12_areAsked : Cond.code yX12_areAsked cX12_areAsked 5 (some .boolean) ∈ TB := tbm (tq7 (List.mem_of_getElem? (i := 24) (rfl))) (by decide +kernel)
theorem wi_X12_areAsked : Cond.instanceMethod yX12_areAsked ∈ TB := tbm (tq7 (List.mem_of_getElem? (i := 23) (by decide +kernel))) (by decide +kernel)
theorem ws_X12_areAsked : Cond.selects RX12 yX12_areAsked yX12_areAsked ∈ TB := tbm (tq0 (List.mem_of_getElem? (i := 74) (by decide +kernel))) (by decide +kernel)
theorem mi_X12_areAsked : MI yX12_areAsked cX12_areAsked 5 (some .boolean) 2 := ⟨wc_X12_areAsked, wn_X12, ⟨by decide +kernel, by decide +kernel, by decide +kernel⟩, wi_X12_areAsked, ws_X12_areAsked⟩
theorem dX12_turn_6 : decode cX12_turn 6 = .ok (.ifCond .ne 5, 3) := dl_154 (by decide +kernel)
theorem dX12_turn_11 : decode cX12_turn 11 = .ok (.aload_n 0, 1) := dl_42 (by decide +kernel)
theorem dX12_turn_12 : decode cX12_turn 12 = .ok (.getfield 7, 3) := dl_180 (by decide +kernel)
theorem dX12_turn_15 : decode cX12_turn 15 = .ok (.iconst 0, 1) := dl_3 (by decide +kernel)
theorem dX12_turn_16 : decode cX12_turn 16 = .ok (.iaload, 1) := dl_46 (by decide +kernel)
theorem dX12_turn_17 : decode cX12_turn 17 = .ok (.ifCond .ne 6, 3) := dl_154 (by decide +kernel)
theorem dX12_turn_23 : decode cX12_turn 23 = .ok (.aload_n 0, 1) := dl_42 (by decide +kernel)
theorem dX12_turn_24 : decode cX12_turn 24 = .ok (.iconst 0, 1) := dl_3 (by decide +kernel)
theorem dX12_turn_25 : decode cX12_turn 25 = .ok (.iload_n 1, 1) := dl_27 (by decide +kernel)
theorem dX12_turn_26 : decode cX12_turn 26 = .ok (.iload_n 2, 1) := dl_28 (by decide +kernel)
theorem dX12_turn_27 : decode cX12_turn 27 = .ok (.invokevirtual 315, 3) := dl_182 (by decide +kernel)
theorem wl_X12_315 : Cond.methodLink RX12 315 yX12_layKnowing ∈ TB := tbm (tq7 (List.mem_of_getElem? (i := 26) (by decide +kernel))) (by decide +kernel)
theorem wc_X12_layKnowing : Cond.code yX12_layKnowing cX12_layKnowing 6 (some .int) ∈ TB := tbm (tq7 (List.mem_of_getElem? (i := 29) (rfl))) (by decide +kernel)
theorem wi_X12_layKnowing : Cond.instanceMethod yX12_layKnowing ∈ TB := tbm (tq7 (List.mem_of_getElem? (i := 28) (by decide +kernel))) (by decide +kernel)
theorem ws_X12_layKnowing : Cond.selects RX12 yX12_layKnowing yX12_layKnowing ∈ TB := tbm (tq0 (List.mem_of_getElem? (i := 75) (by decide +kernel))) (by decide +kernel)
theorem mi_X12_layKnowing : MI yX12_layKnowing cX12_layKnowing 6 (some .int) 3 := ⟨wc_X12_layKnowing, wn_X12, ⟨by decide +kernel, by decide +kernel, by decide +kernel⟩, wi_X12_layKnowing, ws_X12_layKnowing⟩
theorem dX12_turn_30 : decode cX12_turn 30 = .ok (.istore_n 3, 1) := dl_62 (by decide +kernel)
theorem dX12_turn_31 : decode cX12_turn 31 = .ok (.aload_n 0, 1) := dl_42 (by decide +kernel)
theorem dX12_turn_32 : decode cX12_turn 32 = .ok (.invokevirtual 121, 3) := dl_182 (by decide +kernel)
theorem dX12_turn_35 : decode cX12_turn 35 = .ok (.aload_n 0, 1) := dl_42 (by decide +kernel)
theorem dX12_turn_36 : decode cX12_turn 36 = .ok (.iconst 0, 1) := dl_3 (by decide +kernel)
theorem dX12_turn_37 : decode cX12_turn 37 = .ok (.aload_n 0, 1) := dl_42 (by decide +kernel)
theorem dX12_turn_38 : decode cX12_turn 38 = .ok (.iconst 0, 1) := dl_3 (by decide +kernel)
theorem dX12_turn_39 : decode cX12_turn 39 = .ok (.iload_n 1, 1) := dl_27 (by decide +kernel)
theorem dX12_turn_40 : decode cX12_turn 40 = .ok (.invokevirtual 318, 3) := dl_182 (by decide +kernel)
theorem wl_X12_318 : Cond.methodLink RX12 318 yX12_staying ∈ TB := tbm (tq7 (List.mem_of_getElem? (i := 30) (by decide +kernel))) (by decide +kernel)
theorem wc_X12_staying : Cond.code yX12_staying cX12_staying 5 (some .int) ∈ TB := tbm (tq7 (List.mem_of_getElem? (i := 33) (rfl))) (by decide +kernel)
theorem wi_X12_staying : Cond.instanceMethod yX12_staying ∈ TB := tbm (tq7 (List.mem_of_getElem? (i := 32) (by decide +kernel))) (by decide +kernel)
theorem ws_X12_staying : Cond.selects RX12 yX12_staying yX12_staying ∈ TB := tbm (tq0 (List.mem_of_getElem? (i := 76) (by decide +kernel))) (by decide +kernel)
theorem mi_X12_staying : MI yX12_staying cX12_staying 5 (some .int) 2 := ⟨wc_X12_staying, wn_X12, ⟨by decide +kernel, by decide +kernel, by decide +kernel⟩, wi_X12_staying, ws_X12_staying⟩
theorem dX12_turn_43 : decode cX12_turn 43 = .ok (.invokevirtual 321, 3) := dl_182 (by decide +kernel)
theorem wl_X12_321 : Cond.methodLink RX12 321 yX12_keepOnly ∈ TB := tbm (tq7 (List.mem_of_getElem? (i := 34) (by decide +kernel))) (by decide +kernel)
theorem wc_X12_keepOnly : Cond.code yX12_keepOnly cX12_keepOnly 9 none ∈ TB := tbm (tq7 (List.mem_of_getElem? (i := 37) (rfl))) (by decide +kernel)
theorem wi_X12_keepOnly : Cond.instanceMethod yX12_keepOnly ∈ TB := tbm (tq7 (List.mem_of_getElem? (i := 36) (by decide +kernel))) (by decide +kernel)
theorem ws_X12_keepOnly : Cond.selects RX12 yX12_keepOnly yX12_keepOnly ∈ TB := tbm (tq0 (List.mem_of_getElem? (i := 77) (by decide +kernel))) (by decide +kernel)
theorem mi_X12_keepOnly : MI yX12_keepOnly cX12_keepOnly 9 none 2 := ⟨wc_X12_keepOnly, wn_X12, ⟨by decide +kernel, by decide +kernel, by decide +kernel⟩, wi_X12_keepOnly, ws_X12_keepOnly⟩
theorem dX12_turn_46 : decode cX12_turn 46 = .ok (.iload_n 3, 1) := dl_29 (by decide +kernel)
theorem dX12_turn_47 : decode cX12_turn 47 = .ok (.ireturn, 1) := dl_172 (by decide +kernel)
theorem dX12_turn_20 : decode cX12_turn 20 = .ok (.bipush (-2), 2) := dl_16 (by decide +kernel)
theorem dX12_turn_22 : decode cX12_turn 22 = .ok (.ireturn, 1) := dl_172 (by decide +kernel)
theorem dX12_turn_9 : decode cX12_turn 9 = .ok (.iconst (-1), 1) := dl_2 (by decide +kernel)
theorem dX12_turn_10 : decode cX12_turn 10 = .ok (.ireturn, 1) := dl_172 (by decide +kernel)
set_option maxRecDepth 100000 in
set_option maxHeartbeats 4000000 in
theorem y_turn (l : Launch) (E : EV) (ro : va_W) (hm : Nat) (v0 : Int32) (v1 : Int32) (m_manys : Nat) (m_reals : Nat) (m_factsOf : Nat) (m_possible : Nat) (q_undos : Nat) (q_models : Nat) (m_tape : Nat) (q_taped : Nat) (q_fault : Int32) (q_wrong : Int32) (q_wrongAt : Int32) (q_spot : Int32) (q_place : Int32) (q_token : Int32) (q_value : Int32) (m_ends : Nat) (m_letters : Nat) (m_actOf : Nat) (m_whom : Nat) (m_actMany : Nat) (m_tokens : Nat) (m_afters : Nat) (m_afterOf : Nat) (q_counted : Int32) (m_pile : Nat) (m_caseMany : Nat) (m_happen : Nat) (m_hasIf : Nat) (m_becomes : Nat) (m_goneOf : Nat) (m_heard : Nat) (m_pairs : Nat) (m_heaps : Nat) (q_rounds : Int32) (q_heapMany : Int32) (m_led : Nat) (m_newAt : Nat) (m_knowing : Nat) (m_firsts : Nat) (q_people : Nat) (m_secrets : Nat) (m_tried : Nat) (m_lanes : Nat) (m_lengths : Nat) (m_cells : Nat) (f_manys : Nat → Int32) (f_reals : Nat → Int32) (f_factsOf : Nat → Int32) (f_possible : Nat → Int32) (f_pairs : Nat → Int32) (f_pile : Nat → Int32) (f_caseMany : Nat → Int32) (f_happen : Nat → Int32) (f_hasIf : Nat → Int32) (f_becomes : Nat → Int32) (f_goneOf : Nat → Int32) (f_heard : Nat → Int32) (f_actMany : Nat → Int32) (f_actOf : Nat → Int32) (f_whom : Nat → Int32) (f_afters : Nat → Int32) (f_afterOf : Nat → Int32) (f_knowing : Nat → Int32) (f_newAt : Nat → Int32) (f_tokens : Nat → Int32) (hb_manys : NB 18 24 f_manys) (hb_reals : NB 18 23 f_reals) (hpg : PG f_manys f_reals) (hwf : WFP (pgs f_manys f_reals f_factsOf f_possible)) (hb_caseMany : NB 4 4 f_caseMany) (hb_happen : NB 4 3 f_happen) (hb_actMany : NB 25 32 f_actMany) (hhp : HP f_caseMany f_happen) (hsv : SV f_actOf f_actMany) (hb_afters : NB 9 2 f_afters) (hb_afterOf : NB 18 3 f_afterOf) (hq_undos : q_undos ≤ 8) (hWI : WHI f_hasIf f_actMany f_actOf f_whom) (hWT : WHT f_tokens f_actMany f_actOf f_whom) : CT l yX12_turn (Cond.code yX12_turn cX12_turn 4 (some .int) :: TB) ({ frames := 8, cells := 0, slots := 0, locals := 209 }) E ro [.ref hm, .int v0, .int v1] [(hm, .inr (12, [.ref m_manys, .ref m_reals, .ref m_factsOf, .ref m_possible, .int (nI q_undos), .int (nI q_models), .ref m_tape, .int (nI q_taped), .int q_fault, .int q_wrong, .int q_wrongAt, .int q_spot, .int q_place, .int q_token, .int q_value, .ref m_ends, .ref m_letters, .ref m_actOf, .ref m_whom, .ref m_actMany, .ref m_tokens, .ref m_afters, .ref m_afterOf, .int q_counted, .ref m_pile, .ref m_caseMany, .ref m_happen, .ref m_hasIf, .ref m_becomes, .ref m_goneOf, .ref m_heard, .ref m_pairs, .ref m_heaps, .int q_rounds, .int q_heapMany, .ref m_led, .ref m_newAt, .ref m_knowing, .ref m_firsts, .int (nI q_people), .ref m_secrets, .ref m_tried, .ref m_lanes, .ref m_lengths, .ref m_cells])), (m_manys, .inl (E.2.1 1, 18, .inl f_manys)), (m_reals, .inl (E.2.1 1, 18, .inl f_reals)), (m_factsOf, .inl (E.2.1 1, 432, .inl f_factsOf)), (m_possible, .inl (E.2.1 1, 1728, .inl f_possible)), (m_pairs, .inl (E.2.1 1, 576, .inl f_pairs)), (m_pile, .inl (E.2.1 1, 34, .inl f_pile)), (m_caseMany, .inl (E.2.1 1, 4, .inl f_caseMany)), (m_happen, .inl (E.2.1 1, 4, .inl f_happen)), (m_hasIf, .inl (E.2.1 3, 16, .inl f_hasIf)), (m_becomes, .inl (E.2.1 1, 16, .inl f_becomes)), (m_goneOf, .inl (E.2.1 1, 16, .inl f_goneOf)), (m_heard, .inl (E.2.1 1, 64, .inl f_heard)), (m_actMany, .inl (E.2.1 1, 25, .inl f_actMany)), (m_actOf, .inl (E.2.1 1, 800, .inl f_actOf)), (m_whom, .inl (E.2.1 1, 800, .inl f_whom)), (m_afters, .inl (E.2.1 1, 9, .inl f_afters)), (m_afterOf, .inl (E.2.1 1, 18, .inl f_afterOf)), (m_knowing, .inl (E.2.1 1, 4, .inl f_knowing)), (m_newAt, .inl (E.2.1 1, 24, .inl f_newAt)), (m_tokens, .inl (E.2.1 1, 9, .inl f_tokens))] (Qi E (fun (rz : Int32) uz => (∃ (uz_ : Nat) (f_manysz : Nat → Int32) (f_realsz : Nat → Int32) (f_factsOfz : Nat → Int32) (f_possiblez : Nat → Int32) (f_pairsz : Nat → Int32) (f_pilez : Nat → Int32) (f_knowingz : Nat → Int32) (f_newAtz : Nat → Int32), uz = [(hm, .inr (12, [.ref m_manys, .ref m_reals, .ref m_factsOf, .ref m_possible, .int (nI uz_), .int (nI q_models), .ref m_tape, .int (nI q_taped), .int q_fault, .int q_wrong, .int q_wrongAt, .int q_spot, .int q_place, .int q_token, .int q_value, .ref m_ends, .ref m_letters, .ref m_actOf, .ref m_whom, .ref m_actMany, .ref m_tokens, .ref m_afters, .ref m_afterOf, .int q_counted, .ref m_pile, .ref m_caseMany, .ref m_happen, .ref m_hasIf, .ref m_becomes, .ref m_goneOf, .ref m_heard, .ref m_pairs, .ref m_heaps, .int q_rounds, .int q_heapMany, .ref m_led, .ref m_newAt, .ref m_knowing, .ref m_firsts, .int (nI q_people), .ref m_secrets, .ref m_tried, .ref m_lanes, .ref m_lengths, .ref m_cells])), (m_manys, .inl (E.2.1 1, 18, .inl f_manysz)), (m_reals, .inl (E.2.1 1, 18, .inl f_realsz)), (m_factsOf, .inl (E.2.1 1, 432, .inl f_factsOfz)), (m_possible, .inl (E.2.1 1, 1728, .inl f_possiblez)), (m_pairs, .inl (E.2.1 1, 576, .inl f_pairsz)), (m_pile, .inl (E.2.1 1, 34, .inl f_pilez)), (m_caseMany, .inl (E.2.1 1, 4, .inl f_caseMany)), (m_happen, .inl (E.2.1 1, 4, .inl f_happen)), (m_hasIf, .inl (E.2.1 3, 16, .inl f_hasIf)), (m_becomes, .inl (E.2.1 1, 16, .inl f_becomes)), (m_goneOf, .inl (E.2.1 1, 16, .inl f_goneOf)), (m_heard, .inl (E.2.1 1, 64, .inl f_heard)), (m_actMany, .inl (E.2.1 1, 25, .inl f_actMany)), (m_actOf, .inl (E.2.1 1, 800, .inl f_actOf)), (m_whom, .inl (E.2.1 1, 800, .inl f_whom)), (m_afters, .inl (E.2.1 1, 9, .inl f_afters)), (m_afterOf, .inl (E.2.1 1, 18, .inl f_afterOf)), (m_knowing, .inl (E.2.1 1, 4, .inl f_knowingz)), (m_newAt, .inl (E.2.1 1, 24, .inl f_newAtz)), (m_tokens, .inl (E.2.1 1, 9, .inl f_tokens))] ∧ (NB 18 24 f_manysz) ∧ (NB 18 23 f_realsz) ∧ (PG f_manysz f_realsz) ∧ (WFP (pgs f_manysz f_realsz f_factsOfz f_possiblez)) ∧ (uz_ ≤ 8) ∧ ((asM uz_ (pgs f_manysz f_realsz f_factsOfz f_possiblez), rz) = opTurn (asM q_undos (pgs f_manys f_reals f_factsOf f_possible)) (rEv f_caseMany f_happen f_hasIf f_actMany f_actOf f_whom f_becomes f_goneOf f_heard) (rTT f_tokens f_actMany f_actOf f_whom f_afterOf f_afters) v0 v1) ∧ (KP6 (pgs f_manys f_reals f_factsOf f_possible) (pgs f_manysz f_realsz f_factsOfz f_possiblez))))) 0 0 := by
  refine ct_of rfl rfl ?_
  intro X C hT hin hro
  show WW X 4 E 0 [(0, .ref hm), (1, .int v0), (2, .int v1)] [] [(hm, .inr (12, [.ref m_manys, .ref m_reals, .ref m_factsOf, .ref m_possible, .int (nI q_undos), .int (nI q_models), .ref m_tape, .int (nI q_taped), .int q_fault, .int q_wrong, .int q_wrongAt, .int q_spot, .int q_place, .int q_token, .int q_value, .ref m_ends, .ref m_letters, .ref m_actOf, .ref m_whom, .ref m_actMany, .ref m_tokens, .ref m_afters, .ref m_afterOf, .int q_counted, .ref m_pile, .ref m_caseMany, .ref m_happen, .ref m_hasIf, .ref m_becomes, .ref m_goneOf, .ref m_heard, .ref m_pairs, .ref m_heaps, .int q_rounds, .int q_heapMany, .ref m_led, .ref m_newAt, .ref m_knowing, .ref m_firsts, .int (nI q_people), .ref m_secrets, .ref m_tried, .ref m_lanes, .ref m_lengths, .ref m_cells])), (m_manys, .inl (E.2.1 1, 18, .inl f_manys)), (m_reals, .inl (E.2.1 1, 18, .inl f_reals)), (m_factsOf, .inl (E.2.1 1, 432, .inl f_factsOf)), (m_possible, .inl (E.2.1 1, 1728, .inl f_possible)), (m_pairs, .inl (E.2.1 1, 576, .inl f_pairs)), (m_pile, .inl (E.2.1 1, 34, .inl f_pile)), (m_caseMany, .inl (E.2.1 1, 4, .inl f_caseMany)), (m_happen, .inl (E.2.1 1, 4, .inl f_happen)), (m_hasIf, .inl (E.2.1 3, 16, .inl f_hasIf)), (m_becomes, .inl (E.2.1 1, 16, .inl f_becomes)), (m_goneOf, .inl (E.2.1 1, 16, .inl f_goneOf)), (m_heard, .inl (E.2.1 1, 64, .inl f_heard)), (m_actMany, .inl (E.2.1 1, 25, .inl f_actMany)), (m_actOf, .inl (E.2.1 1, 800, .inl f_actOf)), (m_whom, .inl (E.2.1 1, 800, .inl f_whom)), (m_afters, .inl (E.2.1 1, 9, .inl f_afters)), (m_afterOf, .inl (E.2.1 1, 18, .inl f_afterOf)), (m_knowing, .inl (E.2.1 1, 4, .inl f_knowing)), (m_newAt, .inl (E.2.1 1, 24, .inl f_newAt)), (m_tokens, .inl (E.2.1 1, 9, .inl f_tokens))] 0 0
  have hmn0 := (hb_manys 0 (by omega)).2
  have hpg0 := hpg 0 (by omega)
  refine ww_aload_n C dX12_turn_0 0 rfl rfl ?_
  refine ww_iload_n C dX12_turn_1 1 rfl rfl ?_
  refine ww_iload_n C dX12_turn_2 2 rfl rfl ?_
  refine ww_ci (wr := [(m_manys, .inl (E.2.1 1, 18, .inl f_manys)), (m_reals, .inl (E.2.1 1, 18, .inl f_reals)), (m_factsOf, .inl (E.2.1 1, 432, .inl f_factsOf)), (m_possible, .inl (E.2.1 1, 1728, .inl f_possible)), (m_pairs, .inl (E.2.1 1, 576, .inl f_pairs)), (m_pile, .inl (E.2.1 1, 34, .inl f_pile)), (m_caseMany, .inl (E.2.1 1, 4, .inl f_caseMany)), (m_happen, .inl (E.2.1 1, 4, .inl f_happen)), (m_hasIf, .inl (E.2.1 3, 16, .inl f_hasIf)), (m_becomes, .inl (E.2.1 1, 16, .inl f_becomes)), (m_goneOf, .inl (E.2.1 1, 16, .inl f_goneOf)), (m_heard, .inl (E.2.1 1, 64, .inl f_heard)), (m_actMany, .inl (E.2.1 1, 25, .inl f_actMany)), (m_actOf, .inl (E.2.1 1, 800, .inl f_actOf)), (m_whom, .inl (E.2.1 1, 800, .inl f_whom)), (m_afters, .inl (E.2.1 1, 9, .inl f_afters)), (m_afterOf, .inl (E.2.1 1, 18, .inl f_afterOf)), (m_knowing, .inl (E.2.1 1, 4, .inl f_knowing)), (m_newAt, .inl (E.2.1 1, 24, .inl f_newAt))]) (k' := 0) (n' := 0) C (run_V (As := [.int v0, .int v1]) (rest := []) C (r_areAsked X.2.1 E ro hm v0 v1 m_manys m_reals m_factsOf m_possible q_undos q_models m_tape q_taped q_fault q_wrong q_wrongAt q_spot q_place q_token q_value m_ends m_letters m_actOf m_whom m_actMany m_tokens m_afters m_afterOf q_counted m_pile m_caseMany m_happen m_hasIf m_becomes m_goneOf m_heard m_pairs m_heaps q_rounds q_heapMany m_led m_newAt m_knowing m_firsts q_people m_secrets m_tried m_lanes m_lengths m_cells f_tokens) mi_X12_areAsked wl_X12_312 rfl 0 12 rfl rfl rfl rfl rfl dX12_turn_3) (roK hro) [0, 20] [1, 2, 3, 4, 5, 6, 7, 8, 9, 10, 11, 12, 13, 14, 15, 16, 17, 18, 19] rfl (gqk (by eq_refl)) (plk (by decide +kernel)) rfl (fun r_1 uz hw => ?_)
  rcases hw with hw | hw
  · refine an2 hw ?_
    clear hw
    intro he_3 he_4 hw
    have h_2 := hw
    clear hw
    have he_3 := he_3.symm
    subst he_3
    subst he_4
    refine ww_eq (ws' := [(m_manys, .inl (E.2.1 1, 18, .inl f_manys)), (m_reals, .inl (E.2.1 1, 18, .inl f_reals)), (m_factsOf, .inl (E.2.1 1, 432, .inl f_factsOf)), (m_possible, .inl (E.2.1 1, 1728, .inl f_possible)), (m_pairs, .inl (E.2.1 1, 576, .inl f_pairs)), (m_pile, .inl (E.2.1 1, 34, .inl f_pile)), (m_caseMany, .inl (E.2.1 1, 4, .inl f_caseMany)), (m_happen, .inl (E.2.1 1, 4, .inl f_happen)), (m_hasIf, .inl (E.2.1 3, 16, .inl f_hasIf)), (m_becomes, .inl (E.2.1 1, 16, .inl f_becomes)), (m_goneOf, .inl (E.2.1 1, 16, .inl f_goneOf)), (m_heard, .inl (E.2.1 1, 64, .inl f_heard)), (m_actMany, .inl (E.2.1 1, 25, .inl f_actMany)), (m_actOf, .inl (E.2.1 1, 800, .inl f_actOf)), (m_whom, .inl (E.2.1 1, 800, .inl f_whom)), (m_afters, .inl (E.2.1 1, 9, .inl f_afters)), (m_afterOf, .inl (E.2.1 1, 18, .inl f_afterOf)), (m_knowing, .inl (E.2.1 1, 4, .inl f_knowing)), (m_newAt, .inl (E.2.1 1, 24, .inl f_newAt)), (hm, .inr (12, [.ref m_manys, .ref m_reals, .ref m_factsOf, .ref m_possible, .int (nI q_undos), .int (nI q_models), .ref m_tape, .int (nI q_taped), .int q_fault, .int q_wrong, .int q_wrongAt, .int q_spot, .int q_place, .int q_token, .int q_value, .ref m_ends, .ref m_letters, .ref m_actOf, .ref m_whom, .ref m_actMany, .ref m_tokens, .ref m_afters, .ref m_afterOf, .int q_counted, .ref m_pile, .ref m_caseMany, .ref m_happen, .ref m_hasIf, .ref m_becomes, .ref m_goneOf, .ref m_heard, .ref m_pairs, .ref m_heaps, .int q_rounds, .int q_heapMany, .ref m_led, .ref m_newAt, .ref m_knowing, .ref m_firsts, .int (nI q_people), .ref m_secrets, .ref m_tried, .ref m_lanes, .ref m_lengths, .ref m_cells])), (m_tokens, .inl (E.2.1 1, 9, .inl f_tokens))]) ?_ rfl rfl rfl
    refine ww_if_ne_t (tgt := 11) C dX12_turn_6 (by decide) (by decide) ?_
    refine ww_aload_n C dX12_turn_11 0 rfl rfl ?_
    refine ww_get C fg_X12_7 19 rfl rfl dX12_turn_12 ?_
    refine ww_iconst (v := 0) C dX12_turn_15 rfl ?_
    have hbx_8 := (hb_manys 0 (by omega)).2
    refine ww_iald (v := (nI (cN f_manys 0))) C 0 rfl (vin rfl) (hb_manys 0 (by omega)).1 dX12_turn_16 ?_
    refine ww_if_ne (tgt := 23) C dX12_turn_17 (by decide) (fun c_9 => ?_) (fun c_9 => ?_)
    · have zc_9 : ((cN f_manys 0 : Nat) : Int) ≠ 0 := i_ne (nI_toInt (n := cN f_manys 0) (by omega)) rfl c_9
      refine ww_aload_n C dX12_turn_23 0 rfl rfl ?_
      refine ww_iconst (v := 0) C dX12_turn_24 rfl ?_
      refine ww_iload_n C dX12_turn_25 1 rfl rfl ?_
      refine ww_iload_n C dX12_turn_26 2 rfl rfl ?_
      refine ww_ci (wr := [(m_newAt, .inl (E.2.1 1, 24, .inl f_newAt)), (m_tokens, .inl (E.2.1 1, 9, .inl f_tokens))]) (k' := 0) (n' := 0) C (run_V (As := [.int 0, .int v0, .int v1]) (rest := []) C (r_layKnowing X.2.1 E ro hm 0 v0 v1 m_manys m_reals m_factsOf m_possible q_undos q_models m_tape q_taped q_fault q_wrong q_wrongAt q_spot q_place q_token q_value m_ends m_letters m_actOf m_whom m_actMany m_tokens m_afters m_afterOf q_counted m_pile m_caseMany m_happen m_hasIf m_becomes m_goneOf m_heard m_pairs m_heaps q_rounds q_heapMany m_led m_newAt m_knowing m_firsts q_people m_secrets m_tried m_lanes m_lengths m_cells f_manys f_reals f_factsOf f_possible f_pairs f_pile f_caseMany f_happen f_hasIf f_becomes f_goneOf f_heard f_actMany f_actOf f_whom f_afters f_afterOf f_knowing (rTT f_tokens f_actMany f_actOf f_whom f_afterOf f_afters) hb_manys hb_reals hpg hwf hb_caseMany hb_happen hb_actMany hhp hsv hb_afters hb_afterOf (by omega) hWI (tq_of h_2 hWT)) mi_X12_layKnowing wl_X12_315 rfl 0 12 rfl rfl rfl rfl rfl dX12_turn_27) (roK hro) [19, 0, 1, 2, 3, 4, 5, 6, 7, 8, 9, 10, 11, 12, 13, 14, 15, 16, 17] [18, 20] (gqk (by eq_refl)) rfl (plk (by decide +kernel)) rfl (fun r_10 uz hw => ?_)
      refine ex7 hw ?_
      clear hw
      intro f_manysz_11 f_realsz_12 f_factsOfz_13 f_possiblez_14 f_pairsz_15 f_pilez_16 f_knowingz_17 hw
      refine an8 hw ?_
      clear hw
      intro he_27 h_18 h_19 h_20 h_21 h_22 h_23 h_24 hw
      refine an1 hw ?_
      clear hw
      intro h_25 hw
      have h_26 := hw
      clear hw
      subst he_27
      refine ww_eq (ws' := [(m_newAt, .inl (E.2.1 1, 24, .inl f_newAt)), (m_tokens, .inl (E.2.1 1, 9, .inl f_tokens)), (hm, .inr (12, [.ref m_manys, .ref m_reals, .ref m_factsOf, .ref m_possible, .int (nI q_undos), .int (nI q_models), .ref m_tape, .int (nI q_taped), .int q_fault, .int q_wrong, .int q_wrongAt, .int q_spot, .int q_place, .int q_token, .int q_value, .ref m_ends, .ref m_letters, .ref m_actOf, .ref m_whom, .ref m_actMany, .ref m_tokens, .ref m_afters, .ref m_afterOf, .int q_counted, .ref m_pile, .ref m_caseMany, .ref m_happen, .ref m_hasIf, .ref m_becomes, .ref m_goneOf, .ref m_heard, .ref m_pairs, .ref m_heaps, .int q_rounds, .int q_heapMany, .ref m_led, .ref m_newAt, .ref m_knowing, .ref m_firsts, .int (nI q_people), .ref m_secrets, .ref m_tried, .ref m_lanes, .ref m_lengths, .ref m_cells])), (m_manys, .inl (E.2.1 1, 18, .inl f_manysz_11)), (m_reals, .inl (E.2.1 1, 18, .inl f_realsz_12)), (m_factsOf, .inl (E.2.1 1, 432, .inl f_factsOfz_13)), (m_possible, .inl (E.2.1 1, 1728, .inl f_possiblez_14)), (m_pairs, .inl (E.2.1 1, 576, .inl f_pairsz_15)), (m_pile, .inl (E.2.1 1, 34, .inl f_pilez_16)), (m_caseMany, .inl (E.2.1 1, 4, .inl f_caseMany)), (m_happen, .inl (E.2.1 1, 4, .inl f_happen)), (m_hasIf, .inl (E.2.1 3, 16, .inl f_hasIf)), (m_becomes, .inl (E.2.1 1, 16, .inl f_becomes)), (m_goneOf, .inl (E.2.1 1, 16, .inl f_goneOf)), (m_heard, .inl (E.2.1 1, 64, .inl f_heard)), (m_actMany, .inl (E.2.1 1, 25, .inl f_actMany)), (m_actOf, .inl (E.2.1 1, 800, .inl f_actOf)), (m_whom, .inl (E.2.1 1, 800, .inl f_whom)), (m_afters, .inl (E.2.1 1, 9, .inl f_afters)), (m_afterOf, .inl (E.2.1 1, 18, .inl f_afterOf)), (m_knowing, .inl (E.2.1 1, 4, .inl f_knowingz_17))]) ?_ rfl rfl rfl
      refine ww_istore_n (lv' := [(3, .int r_10), (0, .ref hm), (1, .int v0), (2, .int v1)]) C dX12_turn_30 rfl rfl rfl ?_
      have hl0 := KP.at h_22 (p := 0) (by omega)
      have hl1 := KP.at h_23 (p := 0) (by omega)
      have hP1 : (pgs f_manysz_11 f_realsz_12 f_factsOfz_13 f_possiblez_14) 0 = (pgs f_manys f_reals f_factsOf f_possible) 0 := h_26 0 (by omega) (Or.inl (Nat.le_refl _))
      refine ww_aload_n C dX12_turn_31 1 rfl rfl ?_
      refine ww_cv (wr := [(m_newAt, .inl (E.2.1 1, 24, .inl f_newAt)), (m_tokens, .inl (E.2.1 1, 9, .inl f_tokens)), (m_pairs, .inl (E.2.1 1, 576, .inl f_pairsz_15)), (m_pile, .inl (E.2.1 1, 34, .inl f_pilez_16)), (m_caseMany, .inl (E.2.1 1, 4, .inl f_caseMany)), (m_happen, .inl (E.2.1 1, 4, .inl f_happen)), (m_hasIf, .inl (E.2.1 3, 16, .inl f_hasIf)), (m_becomes, .inl (E.2.1 1, 16, .inl f_becomes)), (m_goneOf, .inl (E.2.1 1, 16, .inl f_goneOf)), (m_heard, .inl (E.2.1 1, 64, .inl f_heard)), (m_actMany, .inl (E.2.1 1, 25, .inl f_actMany)), (m_actOf, .inl (E.2.1 1, 800, .inl f_actOf)), (m_whom, .inl (E.2.1 1, 800, .inl f_whom)), (m_afters, .inl (E.2.1 1, 9, .inl f_afters)), (m_afterOf, .inl (E.2.1 1, 18, .inl f_afterOf)), (m_knowing, .inl (E.2.1 1, 4, .inl f_knowingz_17))]) (k' := 0) (n' := 0) C (run_V (As := []) (rest := []) C (r_acts X.2.1 E ro hm m_manys m_reals m_factsOf m_possible q_undos q_models m_tape q_taped q_fault q_wrong q_wrongAt q_spot q_place q_token q_value m_ends m_letters m_actOf m_whom m_actMany m_tokens m_afters m_afterOf q_counted m_pile m_caseMany m_happen m_hasIf m_becomes m_goneOf m_heard m_pairs m_heaps q_rounds q_heapMany m_led m_newAt m_knowing m_firsts q_people m_secrets m_tried m_lanes m_lengths m_cells f_manysz_11 f_realsz_12 f_factsOfz_13 f_possiblez_14 h_18 h_19 h_20 h_21 (by omega)) mi_X12_acts wl_X12_121 rfl 0 12 rfl rfl rfl rfl rfl dX12_turn_32) (roK hro) [2, 3, 4, 5, 6] [0, 1, 7, 8, 9, 10, 11, 12, 13, 14, 15, 16, 17, 18, 19, 20] rfl (gqk (by eq_refl)) (plk (by decide +kernel)) rfl (fun uz hw => ?_)
      refine ex5 hw ?_
      clear hw
      intro uz__29 f_manysz_30 f_realsz_31 f_factsOfz_32 f_possiblez_33 hw
      refine an8 hw ?_
      clear hw
      intro he_44 h_34 h_35 h_36 h_37 h_38 h_39 h_40 hw
      refine an2 hw ?_
      clear hw
      intro h_41 h_42 hw
      have h_43 := hw
      clear hw
      subst he_44
      refine ww_eq (ws' := [(m_newAt, .inl (E.2.1 1, 24, .inl f_newAt)), (m_tokens, .inl (E.2.1 1, 9, .inl f_tokens)), (m_pairs, .inl (E.2.1 1, 576, .inl f_pairsz_15)), (m_pile, .inl (E.2.1 1, 34, .inl f_pilez_16)), (m_caseMany, .inl (E.2.1 1, 4, .inl f_caseMany)), (m_happen, .inl (E.2.1 1, 4, .inl f_happen)), (m_hasIf, .inl (E.2.1 3, 16, .inl f_hasIf)), (m_becomes, .inl (E.2.1 1, 16, .inl f_becomes)), (m_goneOf, .inl (E.2.1 1, 16, .inl f_goneOf)), (m_heard, .inl (E.2.1 1, 64, .inl f_heard)), (m_actMany, .inl (E.2.1 1, 25, .inl f_actMany)), (m_actOf, .inl (E.2.1 1, 800, .inl f_actOf)), (m_whom, .inl (E.2.1 1, 800, .inl f_whom)), (m_afters, .inl (E.2.1 1, 9, .inl f_afters)), (m_afterOf, .inl (E.2.1 1, 18, .inl f_afterOf)), (m_knowing, .inl (E.2.1 1, 4, .inl f_knowingz_17)), (hm, .inr (12, [.ref m_manys, .ref m_reals, .ref m_factsOf, .ref m_possible, .int (nI uz__29), .int (nI q_models), .ref m_tape, .int (nI q_taped), .int q_fault, .int q_wrong, .int q_wrongAt, .int q_spot, .int q_place, .int q_token, .int q_value, .ref m_ends, .ref m_letters, .ref m_actOf, .ref m_whom, .ref m_actMany, .ref m_tokens, .ref m_afters, .ref m_afterOf, .int q_counted, .ref m_pile, .ref m_caseMany, .ref m_happen, .ref m_hasIf, .ref m_becomes, .ref m_goneOf, .ref m_heard, .ref m_pairs, .ref m_heaps, .int q_rounds, .int q_heapMany, .ref m_led, .ref m_newAt, .ref m_knowing, .ref m_firsts, .int (nI q_people), .ref m_secrets, .ref m_tried, .ref m_lanes, .ref m_lengths, .ref m_cells])), (m_manys, .inl (E.2.1 1, 18, .inl f_manysz_30)), (m_reals, .inl (E.2.1 1, 18, .inl f_realsz_31)), (m_factsOf, .inl (E.2.1 1, 432, .inl f_factsOfz_32)), (m_possible, .inl (E.2.1 1, 1728, .inl f_possiblez_33))]) ?_ rfl rfl rfl
      have hk0_k_45 := KP.at h_39 (p := 0) (by omega)
      have hkr0 := KP.at h_40 (p := 0) (by omega)
      refine ww_aload_n C dX12_turn_35 1 rfl rfl ?_
      refine ww_iconst (v := 0) C dX12_turn_36 rfl ?_
      refine ww_aload_n C dX12_turn_37 1 rfl rfl ?_
      refine ww_iconst (v := 0) C dX12_turn_38 rfl ?_
      refine ww_iload_n C dX12_turn_39 2 rfl rfl ?_
      refine ww_ci (wr := [(m_newAt, .inl (E.2.1 1, 24, .inl f_newAt)), (m_tokens, .inl (E.2.1 1, 9, .inl f_tokens)), (m_pairs, .inl (E.2.1 1, 576, .inl f_pairsz_15)), (m_pile, .inl (E.2.1 1, 34, .inl f_pilez_16)), (m_caseMany, .inl (E.2.1 1, 4, .inl f_caseMany)), (m_happen, .inl (E.2.1 1, 4, .inl f_happen)), (m_hasIf, .inl (E.2.1 3, 16, .inl f_hasIf)), (m_becomes, .inl (E.2.1 1, 16, .inl f_becomes)), (m_goneOf, .inl (E.2.1 1, 16, .inl f_goneOf)), (m_heard, .inl (E.2.1 1, 64, .inl f_heard)), (m_actMany, .inl (E.2.1 1, 25, .inl f_actMany)), (m_actOf, .inl (E.2.1 1, 800, .inl f_actOf)), (m_whom, .inl (E.2.1 1, 800, .inl f_whom)), (m_afters, .inl (E.2.1 1, 9, .inl f_afters)), (m_afterOf, .inl (E.2.1 1, 18, .inl f_afterOf)), (m_factsOf, .inl (E.2.1 1, 432, .inl f_factsOfz_32)), (m_possible, .inl (E.2.1 1, 1728, .inl f_possiblez_33))]) (k' := 0) (n' := 0) C (run_V (As := [.int 0, .int v0]) (rest := [.int 0, .ref hm]) C (r_staying X.2.1 E ro hm 0 v0 m_manys m_reals m_factsOf m_possible uz__29 q_models m_tape q_taped q_fault q_wrong q_wrongAt q_spot q_place q_token q_value m_ends m_letters m_actOf m_whom m_actMany m_tokens m_afters m_afterOf q_counted m_pile m_caseMany m_happen m_hasIf m_becomes m_goneOf m_heard m_pairs m_heaps q_rounds q_heapMany m_led m_newAt m_knowing m_firsts q_people m_secrets m_tried m_lanes m_lengths m_cells f_manysz_30 f_realsz_31 f_knowingz_17 ((pgs f_manysz_11 f_realsz_12 f_factsOfz_13 f_possiblez_14) 0) (rEv f_caseMany f_happen f_hasIf f_actMany f_actOf f_whom f_becomes f_goneOf f_heard) (rTT f_tokens f_actMany f_actOf f_whom f_afterOf f_afters) v1 h_34 h_35 h_36 (by omega) (show cN f_manysz_11 0 = cN f_manysz_30 0 by omega) (show cN f_realsz_12 0 = cN f_realsz_31 0 by omega) (fun j hj hb => by rw [hP1]; exact h_25 j hj hb) (tq_ask h_2 hWT)) mi_X12_staying wl_X12_318 rfl 0 12 rfl rfl rfl rfl rfl dX12_turn_40) (roK hro) [16, 17, 18, 15] [0, 1, 2, 3, 4, 5, 6, 7, 8, 9, 10, 11, 12, 13, 14, 19, 20] rfl (gqk (by eq_refl)) (plk (by decide +kernel)) rfl (fun r_46 uz hw => ?_)
      refine an1 hw ?_
      clear hw
      intro he_48 hw
      have h_47 := hw
      clear hw
      subst he_48
      refine ww_eq (ws' := [(m_newAt, .inl (E.2.1 1, 24, .inl f_newAt)), (m_tokens, .inl (E.2.1 1, 9, .inl f_tokens)), (m_pairs, .inl (E.2.1 1, 576, .inl f_pairsz_15)), (m_pile, .inl (E.2.1 1, 34, .inl f_pilez_16)), (m_caseMany, .inl (E.2.1 1, 4, .inl f_caseMany)), (m_happen, .inl (E.2.1 1, 4, .inl f_happen)), (m_hasIf, .inl (E.2.1 3, 16, .inl f_hasIf)), (m_becomes, .inl (E.2.1 1, 16, .inl f_becomes)), (m_goneOf, .inl (E.2.1 1, 16, .inl f_goneOf)), (m_heard, .inl (E.2.1 1, 64, .inl f_heard)), (m_actMany, .inl (E.2.1 1, 25, .inl f_actMany)), (m_actOf, .inl (E.2.1 1, 800, .inl f_actOf)), (m_whom, .inl (E.2.1 1, 800, .inl f_whom)), (m_afters, .inl (E.2.1 1, 9, .inl f_afters)), (m_afterOf, .inl (E.2.1 1, 18, .inl f_afterOf)), (m_factsOf, .inl (E.2.1 1, 432, .inl f_factsOfz_32)), (m_possible, .inl (E.2.1 1, 1728, .inl f_possiblez_33)), (hm, .inr (12, [.ref m_manys, .ref m_reals, .ref m_factsOf, .ref m_possible, .int (nI uz__29), .int (nI q_models), .ref m_tape, .int (nI q_taped), .int q_fault, .int q_wrong, .int q_wrongAt, .int q_spot, .int q_place, .int q_token, .int q_value, .ref m_ends, .ref m_letters, .ref m_actOf, .ref m_whom, .ref m_actMany, .ref m_tokens, .ref m_afters, .ref m_afterOf, .int q_counted, .ref m_pile, .ref m_caseMany, .ref m_happen, .ref m_hasIf, .ref m_becomes, .ref m_goneOf, .ref m_heard, .ref m_pairs, .ref m_heaps, .int q_rounds, .int q_heapMany, .ref m_led, .ref m_newAt, .ref m_knowing, .ref m_firsts, .int (nI q_people), .ref m_secrets, .ref m_tried, .ref m_lanes, .ref m_lengths, .ref m_cells])), (m_manys, .inl (E.2.1 1, 18, .inl f_manysz_30)), (m_reals, .inl (E.2.1 1, 18, .inl f_realsz_31)), (m_knowing, .inl (E.2.1 1, 4, .inl f_knowingz_17))]) ?_ rfl rfl rfl
      have hst0 := h_47
      refine ww_cv (wr := [(m_tokens, .inl (E.2.1 1, 9, .inl f_tokens)), (m_pairs, .inl (E.2.1 1, 576, .inl f_pairsz_15)), (m_pile, .inl (E.2.1 1, 34, .inl f_pilez_16)), (m_caseMany, .inl (E.2.1 1, 4, .inl f_caseMany)), (m_happen, .inl (E.2.1 1, 4, .inl f_happen)), (m_hasIf, .inl (E.2.1 3, 16, .inl f_hasIf)), (m_becomes, .inl (E.2.1 1, 16, .inl f_becomes)), (m_goneOf, .inl (E.2.1 1, 16, .inl f_goneOf)), (m_heard, .inl (E.2.1 1, 64, .inl f_heard)), (m_actMany, .inl (E.2.1 1, 25, .inl f_actMany)), (m_actOf, .inl (E.2.1 1, 800, .inl f_actOf)), (m_whom, .inl (E.2.1 1, 800, .inl f_whom)), (m_afters, .inl (E.2.1 1, 9, .inl f_afters)), (m_afterOf, .inl (E.2.1 1, 18, .inl f_afterOf)), (m_knowing, .inl (E.2.1 1, 4, .inl f_knowingz_17))]) (k' := 0) (n' := 0) C (run_V (As := [.int 0, .int r_46]) (rest := []) C (r_keepOnly X.2.1 E ro hm 0 r_46 m_manys m_reals m_factsOf m_possible uz__29 q_models m_tape q_taped q_fault q_wrong q_wrongAt q_spot q_place q_token q_value m_ends m_letters m_actOf m_whom m_actMany m_tokens m_afters m_afterOf q_counted m_pile m_caseMany m_happen m_hasIf m_becomes m_goneOf m_heard m_pairs m_heaps q_rounds q_heapMany m_led m_newAt m_knowing m_firsts q_people m_secrets m_tried m_lanes m_lengths m_cells f_manysz_30 f_realsz_31 f_factsOfz_32 f_possiblez_33 f_newAt h_34 h_35 h_36 h_37 (by omega) (st_in hst0 (show cN f_manysz_11 0 = cN f_manysz_30 0 by omega)) (by omega) (by have h9 := st_re (by rw [hP1]; exact hwf 0 (by omega)) hst0 (show cN f_realsz_12 0 < cN f_manysz_11 0 by omega) (show cN f_manysz_11 0 ≤ 32 by omega); rw [show cN f_realsz_31 0 = cN f_realsz_12 0 by omega]; exact h9)) mi_X12_keepOnly wl_X12_321 rfl 0 12 rfl rfl rfl rfl rfl dX12_turn_43) (roK hro) [17, 18, 19, 15, 16, 0] [1, 2, 3, 4, 5, 6, 7, 8, 9, 10, 11, 12, 13, 14, 20] rfl (gqk (by eq_refl)) (plk (by decide +kernel)) rfl (fun uz hw => ?_)
      refine ex5 hw ?_
      clear hw
      intro f_manysz_50 f_realsz_51 f_factsOfz_52 f_possiblez_53 f_newAtz_54 hw
      refine an8 hw ?_
      clear hw
      intro he_63 h_55 h_56 h_57 h_58 h_59 h_60 h_61 hw
      have h_62 := hw
      clear hw
      subst he_63
      refine ww_eq (ws' := [(m_tokens, .inl (E.2.1 1, 9, .inl f_tokens)), (m_pairs, .inl (E.2.1 1, 576, .inl f_pairsz_15)), (m_pile, .inl (E.2.1 1, 34, .inl f_pilez_16)), (m_caseMany, .inl (E.2.1 1, 4, .inl f_caseMany)), (m_happen, .inl (E.2.1 1, 4, .inl f_happen)), (m_hasIf, .inl (E.2.1 3, 16, .inl f_hasIf)), (m_becomes, .inl (E.2.1 1, 16, .inl f_becomes)), (m_goneOf, .inl (E.2.1 1, 16, .inl f_goneOf)), (m_heard, .inl (E.2.1 1, 64, .inl f_heard)), (m_actMany, .inl (E.2.1 1, 25, .inl f_actMany)), (m_actOf, .inl (E.2.1 1, 800, .inl f_actOf)), (m_whom, .inl (E.2.1 1, 800, .inl f_whom)), (m_afters, .inl (E.2.1 1, 9, .inl f_afters)), (m_afterOf, .inl (E.2.1 1, 18, .inl f_afterOf)), (m_knowing, .inl (E.2.1 1, 4, .inl f_knowingz_17)), (hm, .inr (12, [.ref m_manys, .ref m_reals, .ref m_factsOf, .ref m_possible, .int (nI uz__29), .int (nI q_models), .ref m_tape, .int (nI q_taped), .int q_fault, .int q_wrong, .int q_wrongAt, .int q_spot, .int q_place, .int q_token, .int q_value, .ref m_ends, .ref m_letters, .ref m_actOf, .ref m_whom, .ref m_actMany, .ref m_tokens, .ref m_afters, .ref m_afterOf, .int q_counted, .ref m_pile, .ref m_caseMany, .ref m_happen, .ref m_hasIf, .ref m_becomes, .ref m_goneOf, .ref m_heard, .ref m_pairs, .ref m_heaps, .int q_rounds, .int q_heapMany, .ref m_led, .ref m_newAt, .ref m_knowing, .ref m_firsts, .int (nI q_people), .ref m_secrets, .ref m_tried, .ref m_lanes, .ref m_lengths, .ref m_cells])), (m_manys, .inl (E.2.1 1, 18, .inl f_manysz_50)), (m_reals, .inl (E.2.1 1, 18, .inl f_realsz_51)), (m_factsOf, .inl (E.2.1 1, 432, .inl f_factsOfz_52)), (m_possible, .inl (E.2.1 1, 1728, .inl f_possiblez_53)), (m_newAt, .inl (E.2.1 1, 24, .inl f_newAtz_54))]) ?_ rfl rfl rfl
      refine ww_iload_n C dX12_turn_46 0 rfl rfl ?_
      exact ww_iret (u := [(hm, .inr (12, [.ref m_manys, .ref m_reals, .ref m_factsOf, .ref m_possible, .int (nI uz__29), .int (nI q_models), .ref m_tape, .int (nI q_taped), .int q_fault, .int q_wrong, .int q_wrongAt, .int q_spot, .int q_place, .int q_token, .int q_value, .ref m_ends, .ref m_letters, .ref m_actOf, .ref m_whom, .ref m_actMany, .ref m_tokens, .ref m_afters, .ref m_afterOf, .int q_counted, .ref m_pile, .ref m_caseMany, .ref m_happen, .ref m_hasIf, .ref m_becomes, .ref m_goneOf, .ref m_heard, .ref m_pairs, .ref m_heaps, .int q_rounds, .int q_heapMany, .ref m_led, .ref m_newAt, .ref m_knowing, .ref m_firsts, .int (nI q_people), .ref m_secrets, .ref m_tried, .ref m_lanes, .ref m_lengths, .ref m_cells])), (m_manys, .inl (E.2.1 1, 18, .inl f_manysz_50)), (m_reals, .inl (E.2.1 1, 18, .inl f_realsz_51)), (m_factsOf, .inl (E.2.1 1, 432, .inl f_factsOfz_52)), (m_possible, .inl (E.2.1 1, 1728, .inl f_possiblez_53)), (m_pairs, .inl (E.2.1 1, 576, .inl f_pairsz_15)), (m_pile, .inl (E.2.1 1, 34, .inl f_pilez_16)), (m_caseMany, .inl (E.2.1 1, 4, .inl f_caseMany)), (m_happen, .inl (E.2.1 1, 4, .inl f_happen)), (m_hasIf, .inl (E.2.1 3, 16, .inl f_hasIf)), (m_becomes, .inl (E.2.1 1, 16, .inl f_becomes)), (m_goneOf, .inl (E.2.1 1, 16, .inl f_goneOf)), (m_heard, .inl (E.2.1 1, 64, .inl f_heard)), (m_actMany, .inl (E.2.1 1, 25, .inl f_actMany)), (m_actOf, .inl (E.2.1 1, 800, .inl f_actOf)), (m_whom, .inl (E.2.1 1, 800, .inl f_whom)), (m_afters, .inl (E.2.1 1, 9, .inl f_afters)), (m_afterOf, .inl (E.2.1 1, 18, .inl f_afterOf)), (m_knowing, .inl (E.2.1 1, 4, .inl f_knowingz_17)), (m_newAt, .inl (E.2.1 1, 24, .inl f_newAtz_54)), (m_tokens, .inl (E.2.1 1, 9, .inl f_tokens))]) C hT [15, 16, 17, 18, 19, 1, 2, 3, 4, 5, 6, 7, 8, 9, 10, 11, 12, 13, 14, 20, 0] (gqk (by eq_refl)) (ndk (by decide +kernel)) rfl rfl dX12_turn_47 (⟨uz__29, f_manysz_50, f_realsz_51, f_factsOfz_52, f_possiblez_53, f_pairsz_15, f_pilez_16, f_knowingz_17, f_newAtz_54, rfl, h_55, h_56, h_57, h_58, (by omega), (opTurn_y (m := (pgs f_manys f_reals f_factsOf f_possible) 0) (can_TT h_2) rfl (show cN f_manys 0 ≠ 0 by omega) ((rm_end hq_undos h_43 (OTH.hi h_62 (by omega)) (h_61.trans ((congrArg (fun z => aCut z _) (REMS.p0 h_43)).trans ((aCut_cg (show cN f_realsz_12 0 < cN f_manysz_11 0 by omega) (fun i hi => hst0 i (by have h9 : i < cN f_manysz_11 0 := hi; omega))).trans (congrArg (fun z => aCut z (stS z (rEv f_caseMany f_happen f_hasIf f_actMany f_actOf f_whom f_becomes f_goneOf f_heard) (rTT f_tokens f_actMany f_actOf f_whom f_afterOf f_afters) v0 v1 4)) hP1))))).trans (congrArg (fun z => aRem z _) (asM_kpa hq_undos h_26))) h_24), (KP6.tr (KP6.kpa h_26) (KP6.rem h_43 (OTH.hi h_62 (by omega))))⟩)
    · have zc_9 : ((cN f_manys 0 : Nat) : Int) = 0 := i_eq (nI_toInt (n := cN f_manys 0) (by omega)) rfl c_9
      refine ww_bipush (v := (-2)) C dX12_turn_20 rfl ?_
      exact ww_iret (u := [(hm, .inr (12, [.ref m_manys, .ref m_reals, .ref m_factsOf, .ref m_possible, .int (nI q_undos), .int (nI q_models), .ref m_tape, .int (nI q_taped), .int q_fault, .int q_wrong, .int q_wrongAt, .int q_spot, .int q_place, .int q_token, .int q_value, .ref m_ends, .ref m_letters, .ref m_actOf, .ref m_whom, .ref m_actMany, .ref m_tokens, .ref m_afters, .ref m_afterOf, .int q_counted, .ref m_pile, .ref m_caseMany, .ref m_happen, .ref m_hasIf, .ref m_becomes, .ref m_goneOf, .ref m_heard, .ref m_pairs, .ref m_heaps, .int q_rounds, .int q_heapMany, .ref m_led, .ref m_newAt, .ref m_knowing, .ref m_firsts, .int (nI q_people), .ref m_secrets, .ref m_tried, .ref m_lanes, .ref m_lengths, .ref m_cells])), (m_manys, .inl (E.2.1 1, 18, .inl f_manys)), (m_reals, .inl (E.2.1 1, 18, .inl f_reals)), (m_factsOf, .inl (E.2.1 1, 432, .inl f_factsOf)), (m_possible, .inl (E.2.1 1, 1728, .inl f_possible)), (m_pairs, .inl (E.2.1 1, 576, .inl f_pairs)), (m_pile, .inl (E.2.1 1, 34, .inl f_pile)), (m_caseMany, .inl (E.2.1 1, 4, .inl f_caseMany)), (m_happen, .inl (E.2.1 1, 4, .inl f_happen)), (m_hasIf, .inl (E.2.1 3, 16, .inl f_hasIf)), (m_becomes, .inl (E.2.1 1, 16, .inl f_becomes)), (m_goneOf, .inl (E.2.1 1, 16, .inl f_goneOf)), (m_heard, .inl (E.2.1 1, 64, .inl f_heard)), (m_actMany, .inl (E.2.1 1, 25, .inl f_actMany)), (m_actOf, .inl (E.2.1 1, 800, .inl f_actOf)), (m_whom, .inl (E.2.1 1, 800, .inl f_whom)), (m_afters, .inl (E.2.1 1, 9, .inl f_afters)), (m_afterOf, .inl (E.2.1 1, 18, .inl f_afterOf)), (m_knowing, .inl (E.2.1 1, 4, .inl f_knowing)), (m_newAt, .inl (E.2.1 1, 24, .inl f_newAt)), (m_tokens, .inl (E.2.1 1, 9, .inl f_tokens))]) C hT [19, 0, 1, 2, 3, 4, 5, 6, 7, 8, 9, 10, 11, 12, 13, 14, 15, 16, 17, 18, 20] (gqk (by eq_refl)) (ndk (by decide +kernel)) rfl rfl dX12_turn_22 (⟨q_undos, f_manys, f_reals, f_factsOf, f_possible, f_pairs, f_pile, f_knowing, f_newAt, rfl, hb_manys, hb_reals, hpg, hwf, (by omega), (opTurn_0 (can_TT h_2) (show cN f_manys 0 = 0 by omega)), KP6.rf⟩)
  · refine an2 hw ?_
    clear hw
    intro he_6 he_7 hw
    have h_5 := hw
    clear hw
    have he_6 := he_6.symm
    subst he_6
    subst he_7
    refine ww_eq (ws' := [(m_manys, .inl (E.2.1 1, 18, .inl f_manys)), (m_reals, .inl (E.2.1 1, 18, .inl f_reals)), (m_factsOf, .inl (E.2.1 1, 432, .inl f_factsOf)), (m_possible, .inl (E.2.1 1, 1728, .inl f_possible)), (m_pairs, .inl (E.2.1 1, 576, .inl f_pairs)), (m_pile, .inl (E.2.1 1, 34, .inl f_pile)), (m_caseMany, .inl (E.2.1 1, 4, .inl f_caseMany)), (m_happen, .inl (E.2.1 1, 4, .inl f_happen)), (m_hasIf, .inl (E.2.1 3, 16, .inl f_hasIf)), (m_becomes, .inl (E.2.1 1, 16, .inl f_becomes)), (m_goneOf, .inl (E.2.1 1, 16, .inl f_goneOf)), (m_heard, .inl (E.2.1 1, 64, .inl f_heard)), (m_actMany, .inl (E.2.1 1, 25, .inl f_actMany)), (m_actOf, .inl (E.2.1 1, 800, .inl f_actOf)), (m_whom, .inl (E.2.1 1, 800, .inl f_whom)), (m_afters, .inl (E.2.1 1, 9, .inl f_afters)), (m_afterOf, .inl (E.2.1 1, 18, .inl f_afterOf)), (m_knowing, .inl (E.2.1 1, 4, .inl f_knowing)), (m_newAt, .inl (E.2.1 1, 24, .inl f_newAt)), (hm, .inr (12, [.ref m_manys, .ref m_reals, .ref m_factsOf, .ref m_possible, .int (nI q_undos), .int (nI q_models), .ref m_tape, .int (nI q_taped), .int q_fault, .int q_wrong, .int q_wrongAt, .int q_spot, .int q_place, .int q_token, .int q_value, .ref m_ends, .ref m_letters, .ref m_actOf, .ref m_whom, .ref m_actMany, .ref m_tokens, .ref m_afters, .ref m_afterOf, .int q_counted, .ref m_pile, .ref m_caseMany, .ref m_happen, .ref m_hasIf, .ref m_becomes, .ref m_goneOf, .ref m_heard, .ref m_pairs, .ref m_heaps, .int q_rounds, .int q_heapMany, .ref m_led, .ref m_newAt, .ref m_knowing, .ref m_firsts, .int (nI q_people), .ref m_secrets, .ref m_tried, .ref m_lanes, .ref m_lengths, .ref m_cells])), (m_tokens, .inl (E.2.1 1, 9, .inl f_tokens))]) ?_ rfl rfl rfl
    refine ww_if_ne_f (tgt := 11) C dX12_turn_6 (by decide) (rfl) ?_
    refine ww_iconst (v := (-1)) C dX12_turn_9 rfl ?_
    exact ww_iret (u := [(hm, .inr (12, [.ref m_manys, .ref m_reals, .ref m_factsOf, .ref m_possible, .int (nI q_undos), .int (nI q_models), .ref m_tape, .int (nI q_taped), .int q_fault, .int q_wrong, .int q_wrongAt, .int q_spot, .int q_place, .int q_token, .int q_value, .ref m_ends, .ref m_letters, .ref m_actOf, .ref m_whom, .ref m_actMany, .ref m_tokens, .ref m_afters, .ref m_afterOf, .int q_counted, .ref m_pile, .ref m_caseMany, .ref m_happen, .ref m_hasIf, .ref m_becomes, .ref m_goneOf, .ref m_heard, .ref m_pairs, .ref m_heaps, .int q_rounds, .int q_heapMany, .ref m_led, .ref m_newAt, .ref m_knowing, .ref m_firsts, .int (nI q_people), .ref m_secrets, .ref m_tried, .ref m_lanes, .ref m_lengths, .ref m_cells])), (m_manys, .inl (E.2.1 1, 18, .inl f_manys)), (m_reals, .inl (E.2.1 1, 18, .inl f_reals)), (m_factsOf, .inl (E.2.1 1, 432, .inl f_factsOf)), (m_possible, .inl (E.2.1 1, 1728, .inl f_possible)), (m_pairs, .inl (E.2.1 1, 576, .inl f_pairs)), (m_pile, .inl (E.2.1 1, 34, .inl f_pile)), (m_caseMany, .inl (E.2.1 1, 4, .inl f_caseMany)), (m_happen, .inl (E.2.1 1, 4, .inl f_happen)), (m_hasIf, .inl (E.2.1 3, 16, .inl f_hasIf)), (m_becomes, .inl (E.2.1 1, 16, .inl f_becomes)), (m_goneOf, .inl (E.2.1 1, 16, .inl f_goneOf)), (m_heard, .inl (E.2.1 1, 64, .inl f_heard)), (m_actMany, .inl (E.2.1 1, 25, .inl f_actMany)), (m_actOf, .inl (E.2.1 1, 800, .inl f_actOf)), (m_whom, .inl (E.2.1 1, 800, .inl f_whom)), (m_afters, .inl (E.2.1 1, 9, .inl f_afters)), (m_afterOf, .inl (E.2.1 1, 18, .inl f_afterOf)), (m_knowing, .inl (E.2.1 1, 4, .inl f_knowing)), (m_newAt, .inl (E.2.1 1, 24, .inl f_newAt)), (m_tokens, .inl (E.2.1 1, 9, .inl f_tokens))]) C hT [19, 0, 1, 2, 3, 4, 5, 6, 7, 8, 9, 10, 11, 12, 13, 14, 15, 16, 17, 18, 20] (gqk (by eq_refl)) (ndk (by decide +kernel)) rfl rfl dX12_turn_10 (⟨q_undos, f_manys, f_reals, f_factsOf, f_possible, f_pairs, f_pile, f_knowing, f_newAt, rfl, hb_manys, hb_reals, hpg, hwf, (by omega), (opTurn_n (cann_TT h_5)), KP6.rf⟩)
end
