/-! the reference keeps some worlds alone -/
theorem bx_1 {so row l x y z : Int32} {N i t : Nat} (h : BXx (bt so) (bt row) N i x) (e1 : row &&& so = l) (hb : bt l i = true) (hi : i < N) (h24 : cb (bt so) i ≤ 30) (ht : t = cb (bt so) i) (ey : (1 : Int32) <<< (nI t &&& 31) = y) (ez : x ||| y = z) : BXx (bt so) (bt row) N (i + 1) z := by
  rw [← e1, b_and, Bool.and_eq_true] at hb
  exact BXx.t h hi h24 hb.2 hb.1 ht ey ez
theorem bx_0 {so row l x z : Int32} {N i : Nat} (h : BXx (bt so) (bt row) N i x) (e1 : row &&& so = l) (hb : bt l i = false) (hi : i < N) (e : x ||| (0 : Int32) = z) : BXx (bt so) (bt row) N (i + 1) z := by
  rw [← e1, b_and] at hb
  cases hs : bt so i with
  | false => exact BXx.f h hs e
  | true =>
    rw [hs, Bool.and_true] at hb
    exact BXx.n h hi hs hb e
theorem dX12_keepOnly_0 : decode cX12_keepOnly 0 = .ok (.iconst 0, 1) := by decide +kernel
theorem dX12_keepOnly_1 : decode cX12_keepOnly 1 = .ok (.istore_n 3, 1) := by decide +kernel
theorem dX12_keepOnly_2 : decode cX12_keepOnly 2 = .ok (.iconst 0, 1) := by decide +kernel
theorem dX12_keepOnly_3 : decode cX12_keepOnly 3 = .ok (.istore 4, 2) := by decide +kernel
theorem dX12_keepOnly_5 : decode cX12_keepOnly 5 = .ok (.iload 4, 2) := by decide +kernel
theorem dX12_keepOnly_7 : decode cX12_keepOnly 7 = .ok (.aload_n 0, 1) := by decide +kernel
theorem dX12_keepOnly_8 : decode cX12_keepOnly 8 = .ok (.getfield 7, 3) := by decide +kernel
theorem dX12_keepOnly_11 : decode cX12_keepOnly 11 = .ok (.iload_n 1, 1) := by decide +kernel
theorem dX12_keepOnly_12 : decode cX12_keepOnly 12 = .ok (.iaload, 1) := by decide +kernel
theorem dX12_keepOnly_13 : decode cX12_keepOnly 13 = .ok (.if_icmp .ge 26, 3) := by decide +kernel
theorem dX12_keepOnly_39 : decode cX12_keepOnly 39 = .ok (.iconst 0, 1) := by decide +kernel
theorem dX12_keepOnly_40 : decode cX12_keepOnly 40 = .ok (.istore 4, 2) := by decide +kernel
theorem dX12_keepOnly_42 : decode cX12_keepOnly 42 = .ok (.iload 4, 2) := by decide +kernel
theorem dX12_keepOnly_44 : decode cX12_keepOnly 44 = .ok (.aload_n 0, 1) := by decide +kernel
theorem dX12_keepOnly_45 : decode cX12_keepOnly 45 = .ok (.getfield 7, 3) := by decide +kernel
theorem dX12_keepOnly_48 : decode cX12_keepOnly 48 = .ok (.iload_n 1, 1) := by decide +kernel
theorem dX12_keepOnly_49 : decode cX12_keepOnly 49 = .ok (.iaload, 1) := by decide +kernel
theorem dX12_keepOnly_50 : decode cX12_keepOnly 50 = .ok (.if_icmp .ge 153, 3) := by decide +kernel
theorem dX12_keepOnly_203 : decode cX12_keepOnly 203 = .ok (.aload_n 0, 1) := by decide +kernel
theorem dX12_keepOnly_204 : decode cX12_keepOnly 204 = .ok (.getfield 13, 3) := by decide +kernel
theorem dX12_keepOnly_207 : decode cX12_keepOnly 207 = .ok (.iload_n 1, 1) := by decide +kernel
theorem dX12_keepOnly_208 : decode cX12_keepOnly 208 = .ok (.aload_n 0, 1) := by decide +kernel
theorem dX12_keepOnly_209 : decode cX12_keepOnly 209 = .ok (.getfield 81, 3) := by decide +kernel
theorem dX12_keepOnly_212 : decode cX12_keepOnly 212 = .ok (.aload_n 0, 1) := by decide +kernel
theorem dX12_keepOnly_213 : decode cX12_keepOnly 213 = .ok (.getfield 13, 3) := by decide +kernel
theorem dX12_keepOnly_216 : decode cX12_keepOnly 216 = .ok (.iload_n 1, 1) := by decide +kernel
theorem dX12_keepOnly_217 : decode cX12_keepOnly 217 = .ok (.iaload, 1) := by decide +kernel
theorem dX12_keepOnly_218 : decode cX12_keepOnly 218 = .ok (.iaload, 1) := by decide +kernel
theorem dX12_keepOnly_219 : decode cX12_keepOnly 219 = .ok (.iastore, 1) := by decide +kernel
theorem dX12_keepOnly_220 : decode cX12_keepOnly 220 = .ok (.aload_n 0, 1) := by decide +kernel
theorem dX12_keepOnly_221 : decode cX12_keepOnly 221 = .ok (.getfield 7, 3) := by decide +kernel
theorem dX12_keepOnly_224 : decode cX12_keepOnly 224 = .ok (.iload_n 1, 1) := by decide +kernel
theorem dX12_keepOnly_225 : decode cX12_keepOnly 225 = .ok (.iload_n 3, 1) := by decide +kernel
theorem dX12_keepOnly_226 : decode cX12_keepOnly 226 = .ok (.iastore, 1) := by decide +kernel
theorem dX12_keepOnly_227 : decode cX12_keepOnly 227 = .ok (.return_, 1) := by decide +kernel
theorem dX12_keepOnly_53 : decode cX12_keepOnly 53 = .ok (.iload_n 2, 1) := by decide +kernel
theorem dX12_keepOnly_54 : decode cX12_keepOnly 54 = .ok (.iload 4, 2) := by decide +kernel
theorem dX12_keepOnly_56 : decode cX12_keepOnly 56 = .ok (.ishr, 1) := by decide +kernel
theorem dX12_keepOnly_57 : decode cX12_keepOnly 57 = .ok (.iconst 1, 1) := by decide +kernel
theorem dX12_keepOnly_58 : decode cX12_keepOnly 58 = .ok (.iand, 1) := by decide +kernel
theorem dX12_keepOnly_59 : decode cX12_keepOnly 59 = .ok (.iconst 1, 1) := by decide +kernel
theorem dX12_keepOnly_60 : decode cX12_keepOnly 60 = .ok (.if_icmp .ne 137, 3) := by decide +kernel
theorem dX12_keepOnly_197 : decode cX12_keepOnly 197 = .ok (.iinc 4 1, 3) := by decide +kernel
theorem dX12_keepOnly_200 : decode cX12_keepOnly 200 = .ok (.goto (-158), 3) := by decide +kernel
theorem dX12_keepOnly_63 : decode cX12_keepOnly 63 = .ok (.aload_n 0, 1) := by decide +kernel
theorem dX12_keepOnly_64 : decode cX12_keepOnly 64 = .ok (.getfield 16, 3) := by decide +kernel
theorem dX12_keepOnly_67 : decode cX12_keepOnly 67 = .ok (.bipush 24, 2) := by decide +kernel
theorem dX12_keepOnly_69 : decode cX12_keepOnly 69 = .ok (.iload_n 1, 1) := by decide +kernel
theorem dX12_keepOnly_70 : decode cX12_keepOnly 70 = .ok (.imul, 1) := by decide +kernel
theorem dX12_keepOnly_71 : decode cX12_keepOnly 71 = .ok (.aload_n 0, 1) := by decide +kernel
theorem dX12_keepOnly_72 : decode cX12_keepOnly 72 = .ok (.getfield 81, 3) := by decide +kernel
theorem dX12_keepOnly_75 : decode cX12_keepOnly 75 = .ok (.iload 4, 2) := by decide +kernel
theorem dX12_keepOnly_77 : decode cX12_keepOnly 77 = .ok (.iaload, 1) := by decide +kernel
theorem dX12_keepOnly_78 : decode cX12_keepOnly 78 = .ok (.iadd, 1) := by decide +kernel
theorem dX12_keepOnly_79 : decode cX12_keepOnly 79 = .ok (.aload_n 0, 1) := by decide +kernel
theorem dX12_keepOnly_80 : decode cX12_keepOnly 80 = .ok (.getfield 16, 3) := by decide +kernel
theorem dX12_keepOnly_83 : decode cX12_keepOnly 83 = .ok (.bipush 24, 2) := by decide +kernel
theorem dX12_keepOnly_85 : decode cX12_keepOnly 85 = .ok (.iload_n 1, 1) := by decide +kernel
theorem dX12_keepOnly_86 : decode cX12_keepOnly 86 = .ok (.imul, 1) := by decide +kernel
theorem dX12_keepOnly_87 : decode cX12_keepOnly 87 = .ok (.iload 4, 2) := by decide +kernel
theorem dX12_keepOnly_89 : decode cX12_keepOnly 89 = .ok (.iadd, 1) := by decide +kernel
theorem dX12_keepOnly_90 : decode cX12_keepOnly 90 = .ok (.iaload, 1) := by decide +kernel
theorem dX12_keepOnly_91 : decode cX12_keepOnly 91 = .ok (.iastore, 1) := by decide +kernel
theorem dX12_keepOnly_92 : decode cX12_keepOnly 92 = .ok (.iconst 0, 1) := by decide +kernel
theorem dX12_keepOnly_93 : decode cX12_keepOnly 93 = .ok (.istore 5, 2) := by decide +kernel
theorem dX12_keepOnly_95 : decode cX12_keepOnly 95 = .ok (.iload 5, 2) := by decide +kernel
theorem dX12_keepOnly_97 : decode cX12_keepOnly 97 = .ok (.iconst 4, 1) := by decide +kernel
theorem dX12_keepOnly_98 : decode cX12_keepOnly 98 = .ok (.if_icmp .ge 99, 3) := by decide +kernel
theorem dX12_keepOnly_101 : decode cX12_keepOnly 101 = .ok (.aload_n 0, 1) := by decide +kernel
theorem dX12_keepOnly_102 : decode cX12_keepOnly 102 = .ok (.iload_n 1, 1) := by decide +kernel
theorem dX12_keepOnly_103 : decode cX12_keepOnly 103 = .ok (.iload 5, 2) := by decide +kernel
theorem dX12_keepOnly_105 : decode cX12_keepOnly 105 = .ok (.iload 4, 2) := by decide +kernel
theorem dX12_keepOnly_107 : decode cX12_keepOnly 107 = .ok (.invokevirtual 135, 3) := by decide +kernel
theorem dX12_keepOnly_110 : decode cX12_keepOnly 110 = .ok (.iload_n 2, 1) := by decide +kernel
theorem dX12_keepOnly_111 : decode cX12_keepOnly 111 = .ok (.iand, 1) := by decide +kernel
theorem dX12_keepOnly_112 : decode cX12_keepOnly 112 = .ok (.istore 6, 2) := by decide +kernel
theorem dX12_keepOnly_114 : decode cX12_keepOnly 114 = .ok (.iconst 0, 1) := by decide +kernel
theorem dX12_keepOnly_115 : decode cX12_keepOnly 115 = .ok (.istore 7, 2) := by decide +kernel
theorem dX12_keepOnly_117 : decode cX12_keepOnly 117 = .ok (.iconst 0, 1) := by decide +kernel
theorem dX12_keepOnly_118 : decode cX12_keepOnly 118 = .ok (.istore 8, 2) := by decide +kernel
theorem dX12_keepOnly_120 : decode cX12_keepOnly 120 = .ok (.iload 8, 2) := by decide +kernel
theorem dX12_keepOnly_122 : decode cX12_keepOnly 122 = .ok (.aload_n 0, 1) := by decide +kernel
theorem dX12_keepOnly_123 : decode cX12_keepOnly 123 = .ok (.getfield 7, 3) := by decide +kernel
theorem dX12_keepOnly_126 : decode cX12_keepOnly 126 = .ok (.iload_n 1, 1) := by decide +kernel
theorem dX12_keepOnly_127 : decode cX12_keepOnly 127 = .ok (.iaload, 1) := by decide +kernel
theorem dX12_keepOnly_128 : decode cX12_keepOnly 128 = .ok (.if_icmp .ge 38, 3) := by decide +kernel
theorem dX12_keepOnly_166 : decode cX12_keepOnly 166 = .ok (.aload_n 0, 1) := by decide +kernel
theorem dX12_keepOnly_167 : decode cX12_keepOnly 167 = .ok (.getfield 19, 3) := by decide +kernel
theorem dX12_keepOnly_170 : decode cX12_keepOnly 170 = .ok (.bipush 96, 2) := by decide +kernel
theorem dX12_keepOnly_172 : decode cX12_keepOnly 172 = .ok (.iload_n 1, 1) := by decide +kernel
theorem dX12_keepOnly_173 : decode cX12_keepOnly 173 = .ok (.imul, 1) := by decide +kernel
theorem dX12_keepOnly_174 : decode cX12_keepOnly 174 = .ok (.bipush 24, 2) := by decide +kernel
theorem dX12_keepOnly_176 : decode cX12_keepOnly 176 = .ok (.iload 5, 2) := by decide +kernel
theorem dX12_keepOnly_178 : decode cX12_keepOnly 178 = .ok (.imul, 1) := by decide +kernel
theorem dX12_keepOnly_179 : decode cX12_keepOnly 179 = .ok (.iadd, 1) := by decide +kernel
theorem dX12_keepOnly_180 : decode cX12_keepOnly 180 = .ok (.aload_n 0, 1) := by decide +kernel
theorem dX12_keepOnly_181 : decode cX12_keepOnly 181 = .ok (.getfield 81, 3) := by decide +kernel
theorem dX12_keepOnly_184 : decode cX12_keepOnly 184 = .ok (.iload 4, 2) := by decide +kernel
theorem dX12_keepOnly_186 : decode cX12_keepOnly 186 = .ok (.iaload, 1) := by decide +kernel
theorem dX12_keepOnly_187 : decode cX12_keepOnly 187 = .ok (.iadd, 1) := by decide +kernel
theorem dX12_keepOnly_188 : decode cX12_keepOnly 188 = .ok (.iload 7, 2) := by decide +kernel
theorem dX12_keepOnly_190 : decode cX12_keepOnly 190 = .ok (.iastore, 1) := by decide +kernel
theorem dX12_keepOnly_191 : decode cX12_keepOnly 191 = .ok (.iinc 5 1, 3) := by decide +kernel
theorem dX12_keepOnly_194 : decode cX12_keepOnly 194 = .ok (.goto (-99), 3) := by decide +kernel
theorem dX12_keepOnly_131 : decode cX12_keepOnly 131 = .ok (.iload 7, 2) := by decide +kernel
theorem dX12_keepOnly_133 : decode cX12_keepOnly 133 = .ok (.iload 6, 2) := by decide +kernel
theorem dX12_keepOnly_135 : decode cX12_keepOnly 135 = .ok (.iload 8, 2) := by decide +kernel
theorem dX12_keepOnly_137 : decode cX12_keepOnly 137 = .ok (.ishr, 1) := by decide +kernel
theorem dX12_keepOnly_138 : decode cX12_keepOnly 138 = .ok (.iconst 1, 1) := by decide +kernel
theorem dX12_keepOnly_139 : decode cX12_keepOnly 139 = .ok (.iand, 1) := by decide +kernel
theorem dX12_keepOnly_140 : decode cX12_keepOnly 140 = .ok (.iconst 1, 1) := by decide +kernel
theorem dX12_keepOnly_141 : decode cX12_keepOnly 141 = .ok (.if_icmp .ne 15, 3) := by decide +kernel
theorem dX12_keepOnly_156 : decode cX12_keepOnly 156 = .ok (.iconst 0, 1) := by decide +kernel
theorem dX12_keepOnly_157 : decode cX12_keepOnly 157 = .ok (.ior, 1) := by decide +kernel
theorem dX12_keepOnly_158 : decode cX12_keepOnly 158 = .ok (.istore 7, 2) := by decide +kernel
theorem dX12_keepOnly_160 : decode cX12_keepOnly 160 = .ok (.iinc 8 1, 3) := by decide +kernel
theorem dX12_keepOnly_163 : decode cX12_keepOnly 163 = .ok (.goto (-43), 3) := by decide +kernel
theorem dX12_keepOnly_144 : decode cX12_keepOnly 144 = .ok (.iconst 1, 1) := by decide +kernel
theorem dX12_keepOnly_145 : decode cX12_keepOnly 145 = .ok (.aload_n 0, 1) := by decide +kernel
theorem dX12_keepOnly_146 : decode cX12_keepOnly 146 = .ok (.getfield 81, 3) := by decide +kernel
theorem dX12_keepOnly_149 : decode cX12_keepOnly 149 = .ok (.iload 8, 2) := by decide +kernel
theorem dX12_keepOnly_151 : decode cX12_keepOnly 151 = .ok (.iaload, 1) := by decide +kernel
theorem dX12_keepOnly_152 : decode cX12_keepOnly 152 = .ok (.ishl, 1) := by decide +kernel
theorem dX12_keepOnly_153 : decode cX12_keepOnly 153 = .ok (.goto 4, 3) := by decide +kernel
theorem dX12_keepOnly_16 : decode cX12_keepOnly 16 = .ok (.aload_n 0, 1) := by decide +kernel
theorem dX12_keepOnly_17 : decode cX12_keepOnly 17 = .ok (.getfield 81, 3) := by decide +kernel
theorem dX12_keepOnly_20 : decode cX12_keepOnly 20 = .ok (.iload 4, 2) := by decide +kernel
theorem dX12_keepOnly_22 : decode cX12_keepOnly 22 = .ok (.iload_n 3, 1) := by decide +kernel
theorem dX12_keepOnly_23 : decode cX12_keepOnly 23 = .ok (.iastore, 1) := by decide +kernel
theorem dX12_keepOnly_24 : decode cX12_keepOnly 24 = .ok (.iload_n 3, 1) := by decide +kernel
theorem dX12_keepOnly_25 : decode cX12_keepOnly 25 = .ok (.iload_n 2, 1) := by decide +kernel
theorem dX12_keepOnly_26 : decode cX12_keepOnly 26 = .ok (.iload 4, 2) := by decide +kernel
theorem dX12_keepOnly_28 : decode cX12_keepOnly 28 = .ok (.ishr, 1) := by decide +kernel
theorem dX12_keepOnly_29 : decode cX12_keepOnly 29 = .ok (.iconst 1, 1) := by decide +kernel
theorem dX12_keepOnly_30 : decode cX12_keepOnly 30 = .ok (.iand, 1) := by decide +kernel
theorem dX12_keepOnly_31 : decode cX12_keepOnly 31 = .ok (.iadd, 1) := by decide +kernel
theorem dX12_keepOnly_32 : decode cX12_keepOnly 32 = .ok (.istore_n 3, 1) := by decide +kernel
theorem dX12_keepOnly_33 : decode cX12_keepOnly 33 = .ok (.iinc 4 1, 3) := by decide +kernel
theorem dX12_keepOnly_36 : decode cX12_keepOnly 36 = .ok (.goto (-31), 3) := by decide +kernel
set_option maxRecDepth 100000 in
set_option maxHeartbeats 4000000 in
theorem r_keepOnly (l : Launch) (E : EV) (ro : va_W) (hm : Nat) (pa : Nat) (so : Int32) (m_manys : Nat) (m_reals : Nat) (m_factsOf : Nat) (m_possible : Nat) (q_undos : Nat) (q_models : Nat) (m_tape : Nat) (q_taped : Nat) (q_fault : Int32) (q_wrong : Int32) (q_wrongAt : Int32) (q_spot : Int32) (q_place : Int32) (q_token : Int32) (q_value : Int32) (m_ends : Nat) (m_letters : Nat) (m_actOf : Nat) (m_whom : Nat) (m_actMany : Nat) (m_tokens : Nat) (m_afters : Nat) (m_afterOf : Nat) (q_counted : Int32) (m_pile : Nat) (m_caseMany : Nat) (m_happen : Nat) (m_hasIf : Nat) (m_becomes : Nat) (m_goneOf : Nat) (m_heard : Nat) (m_pairs : Nat) (m_heaps : Nat) (q_rounds : Int32) (q_heapMany : Int32) (m_led : Nat) (m_newAt : Nat) (m_knowing : Nat) (m_firsts : Nat) (q_people : Nat) (m_secrets : Nat) (m_tried : Nat) (m_lanes : Nat) (m_lengths : Nat) (m_cells : Nat) (f_manys : Nat → Int32) (f_reals : Nat → Int32) (f_factsOf : Nat → Int32) (f_possible : Nat → Int32) (f_newAt : Nat → Int32) (hb_manys : NB 18 24 f_manys) (hb_reals : NB 18 23 f_reals) (hpg : PG f_manys f_reals) (hwf : WFP (pgs f_manys f_reals f_factsOf f_possible)) (hpa : pa < 18) (hsb : ∀ i, i < 32 → bt so i = true → i < cN f_manys pa) (hrn : cN f_reals pa < cN f_manys pa) (hre : bt so (cN f_reals pa) = true) : CT l yX12_keepOnly (Cond.code yX12_keepOnly cX12_keepOnly 9 none :: TB) ({ frames := 1, cells := 0, slots := 0, locals := 23 }) E ro [.ref hm, .int (nI pa), .int so] [(hm, .inr (12, [.ref m_manys, .ref m_reals, .ref m_factsOf, .ref m_possible, .int (nI q_undos), .int (nI q_models), .ref m_tape, .int (nI q_taped), .int q_fault, .int q_wrong, .int q_wrongAt, .int q_spot, .int q_place, .int q_token, .int q_value, .ref m_ends, .ref m_letters, .ref m_actOf, .ref m_whom, .ref m_actMany, .ref m_tokens, .ref m_afters, .ref m_afterOf, .int q_counted, .ref m_pile, .ref m_caseMany, .ref m_happen, .ref m_hasIf, .ref m_becomes, .ref m_goneOf, .ref m_heard, .ref m_pairs, .ref m_heaps, .int q_rounds, .int q_heapMany, .ref m_led, .ref m_newAt, .ref m_knowing, .ref m_firsts, .int (nI q_people), .ref m_secrets, .ref m_tried, .ref m_lanes, .ref m_lengths, .ref m_cells])), (m_manys, .inl (E.2.1 1, 18, .inl f_manys)), (m_reals, .inl (E.2.1 1, 18, .inl f_reals)), (m_factsOf, .inl (E.2.1 1, 432, .inl f_factsOf)), (m_possible, .inl (E.2.1 1, 1728, .inl f_possible)), (m_newAt, .inl (E.2.1 1, 24, .inl f_newAt))] (Qv E (fun uz => (∃ (f_manysz : Nat → Int32) (f_realsz : Nat → Int32) (f_factsOfz : Nat → Int32) (f_possiblez : Nat → Int32) (f_newAtz : Nat → Int32), uz = [(hm, .inr (12, [.ref m_manys, .ref m_reals, .ref m_factsOf, .ref m_possible, .int (nI q_undos), .int (nI q_models), .ref m_tape, .int (nI q_taped), .int q_fault, .int q_wrong, .int q_wrongAt, .int q_spot, .int q_place, .int q_token, .int q_value, .ref m_ends, .ref m_letters, .ref m_actOf, .ref m_whom, .ref m_actMany, .ref m_tokens, .ref m_afters, .ref m_afterOf, .int q_counted, .ref m_pile, .ref m_caseMany, .ref m_happen, .ref m_hasIf, .ref m_becomes, .ref m_goneOf, .ref m_heard, .ref m_pairs, .ref m_heaps, .int q_rounds, .int q_heapMany, .ref m_led, .ref m_newAt, .ref m_knowing, .ref m_firsts, .int (nI q_people), .ref m_secrets, .ref m_tried, .ref m_lanes, .ref m_lengths, .ref m_cells])), (m_manys, .inl (E.2.1 1, 18, .inl f_manysz)), (m_reals, .inl (E.2.1 1, 18, .inl f_realsz)), (m_factsOf, .inl (E.2.1 1, 432, .inl f_factsOfz)), (m_possible, .inl (E.2.1 1, 1728, .inl f_possiblez)), (m_newAt, .inl (E.2.1 1, 24, .inl f_newAtz))] ∧ (NB 18 24 f_manysz) ∧ (NB 18 23 f_realsz) ∧ (PG f_manysz f_realsz) ∧ (WFP (pgs f_manysz f_realsz f_factsOfz f_possiblez)) ∧ (cN f_manysz pa = cb (bt so) (cN f_manys pa)) ∧ (cN f_realsz pa = cb (bt so) (cN f_reals pa)) ∧ (pgs f_manysz f_realsz f_factsOfz f_possiblez pa = aCut (pgs f_manys f_reals f_factsOf f_possible pa) (bt so)) ∧ (OTH pa (pgs f_manys f_reals f_factsOf f_possible) (pgs f_manysz f_realsz f_factsOfz f_possiblez))))) 0 0 := by
  refine ct_of rfl rfl ?_
  intro X C hT hin hro
  show WW X 9 E 0 [(0, .ref hm), (1, .int (nI pa)), (2, .int so)] [] [(hm, .inr (12, [.ref m_manys, .ref m_reals, .ref m_factsOf, .ref m_possible, .int (nI q_undos), .int (nI q_models), .ref m_tape, .int (nI q_taped), .int q_fault, .int q_wrong, .int q_wrongAt, .int q_spot, .int q_place, .int q_token, .int q_value, .ref m_ends, .ref m_letters, .ref m_actOf, .ref m_whom, .ref m_actMany, .ref m_tokens, .ref m_afters, .ref m_afterOf, .int q_counted, .ref m_pile, .ref m_caseMany, .ref m_happen, .ref m_hasIf, .ref m_becomes, .ref m_goneOf, .ref m_heard, .ref m_pairs, .ref m_heaps, .int q_rounds, .int q_heapMany, .ref m_led, .ref m_newAt, .ref m_knowing, .ref m_firsts, .int (nI q_people), .ref m_secrets, .ref m_tried, .ref m_lanes, .ref m_lengths, .ref m_cells])), (m_manys, .inl (E.2.1 1, 18, .inl f_manys)), (m_reals, .inl (E.2.1 1, 18, .inl f_reals)), (m_factsOf, .inl (E.2.1 1, 432, .inl f_factsOf)), (m_possible, .inl (E.2.1 1, 1728, .inl f_possible)), (m_newAt, .inl (E.2.1 1, 24, .inl f_newAt))] 0 0
  have hmn0 := (hb_manys 0 (by omega)).2
  have hmnp := (hb_manys pa (by omega)).2
  have hrlp := (hb_reals pa (by omega)).2
  have hclr := cb_lt hrn hre
  have hcln := cb_le (bt so) (cN f_manys pa)
  refine ww_iconst (v := 0) C dX12_keepOnly_0 rfl ?_
  refine ww_istore_n (lv' := [(3, .int 0), (0, .ref hm), (1, .int (nI pa)), (2, .int so)]) C dX12_keepOnly_1 rfl rfl rfl ?_
  refine ww_iconst (v := 0) C dX12_keepOnly_2 rfl ?_
  refine ww_istore (lv' := [(4, .int 0), (3, .int 0), (0, .ref hm), (1, .int (nI pa)), (2, .int so)]) C dX12_keepOnly_3 rfl rfl ?_
  have loop_5 : ∀ (fu : Nat) (w1 : Nat) (c1 : Nat) (g1 : Nat → Int32), (w1 ≤ cN f_manys pa) → (c1 = cb (bt so) w1) → (NAx w1 so g1) → cN f_manys pa - w1 < fu → WW X 9 E 5 [(4, .int (nI w1)), (3, .int (nI c1)), (0, .ref hm), (1, .int (nI pa)), (2, .int so)] [] [(hm, .inr (12, [.ref m_manys, .ref m_reals, .ref m_factsOf, .ref m_possible, .int (nI q_undos), .int (nI q_models), .ref m_tape, .int (nI q_taped), .int q_fault, .int q_wrong, .int q_wrongAt, .int q_spot, .int q_place, .int q_token, .int q_value, .ref m_ends, .ref m_letters, .ref m_actOf, .ref m_whom, .ref m_actMany, .ref m_tokens, .ref m_afters, .ref m_afterOf, .int q_counted, .ref m_pile, .ref m_caseMany, .ref m_happen, .ref m_hasIf, .ref m_becomes, .ref m_goneOf, .ref m_heard, .ref m_pairs, .ref m_heaps, .int q_rounds, .int q_heapMany, .ref m_led, .ref m_newAt, .ref m_knowing, .ref m_firsts, .int (nI q_people), .ref m_secrets, .ref m_tried, .ref m_lanes, .ref m_lengths, .ref m_cells])), (m_manys, .inl (E.2.1 1, 18, .inl f_manys)), (m_reals, .inl (E.2.1 1, 18, .inl f_reals)), (m_factsOf, .inl (E.2.1 1, 432, .inl f_factsOf)), (m_possible, .inl (E.2.1 1, 1728, .inl f_possible)), (m_newAt, .inl (E.2.1 1, 24, .inl g1))] 0 0 := by
    intro fu
    induction fu with
    | zero => intro w1 c1 g1 hw1 hc1 hna hmeas; exact absurd hmeas (Nat.not_lt_zero _)
    | succ fu ih_5 =>
      intro w1 c1 g1 hw1 hc1 hna hmeas
      refine ww_iload C dX12_keepOnly_5 0 rfl ?_
      refine ww_aload_n C dX12_keepOnly_7 2 rfl rfl ?_
      refine ww_get C fg_X12_7 0 rfl rfl dX12_keepOnly_8 ?_
      refine ww_iload_n C dX12_keepOnly_11 3 rfl rfl ?_
      have hbx_1 := (hb_manys pa (by omega)).2
      refine ww_iald (v := (nI (cN f_manys pa))) C 1 rfl (vp_in_nI (by omega) (by omega)) (ldn (by omega) (hb_manys pa (by omega)).1) dX12_keepOnly_12 ?_
      refine ww_icmp_ge (tgt := 39) C dX12_keepOnly_13 (by decide) (fun c_2 => ?_) (fun c_2 => ?_)
      · have zc_2 : ((w1 : Nat) : Int) ≥ ((cN f_manys pa : Nat) : Int) := i_le (nI_toInt (n := cN f_manys pa) (by omega)) (nI_toInt (n := w1) (by omega)) c_2
        refine ww_iconst (v := 0) C dX12_keepOnly_39 rfl ?_
        refine ww_istore (lv' := [(4, .int 0), (3, .int (nI c1)), (0, .ref hm), (1, .int (nI pa)), (2, .int so)]) C dX12_keepOnly_40 rfl rfl ?_
        have hw1n : w1 = cN f_manys pa := by omega
        rw [hw1n] at hna hc1
        have loop_42 : ∀ (fu : Nat) (w2 : Nat) (g_fa : Nat → Int32) (g_po : Nat → Int32), (w2 ≤ cN f_manys pa) → (CUf (cN f_manys pa) w2 (bt so) (sh (24 * pa) f_factsOf) (sh (24 * pa) g_fa)) → (OFF 24 pa f_factsOf g_fa) → (CUg (cN f_manys pa) w2 0 so (sh (96 * pa) f_possible) (sh (96 * pa) g_po)) → (OFF 96 pa f_possible g_po) → cN f_manys pa - w2 < fu → WW X 9 E 42 [(4, .int (nI w2)), (3, .int (nI c1)), (0, .ref hm), (1, .int (nI pa)), (2, .int so)] [] [(hm, .inr (12, [.ref m_manys, .ref m_reals, .ref m_factsOf, .ref m_possible, .int (nI q_undos), .int (nI q_models), .ref m_tape, .int (nI q_taped), .int q_fault, .int q_wrong, .int q_wrongAt, .int q_spot, .int q_place, .int q_token, .int q_value, .ref m_ends, .ref m_letters, .ref m_actOf, .ref m_whom, .ref m_actMany, .ref m_tokens, .ref m_afters, .ref m_afterOf, .int q_counted, .ref m_pile, .ref m_caseMany, .ref m_happen, .ref m_hasIf, .ref m_becomes, .ref m_goneOf, .ref m_heard, .ref m_pairs, .ref m_heaps, .int q_rounds, .int q_heapMany, .ref m_led, .ref m_newAt, .ref m_knowing, .ref m_firsts, .int (nI q_people), .ref m_secrets, .ref m_tried, .ref m_lanes, .ref m_lengths, .ref m_cells])), (m_manys, .inl (E.2.1 1, 18, .inl f_manys)), (m_reals, .inl (E.2.1 1, 18, .inl f_reals)), (m_factsOf, .inl (E.2.1 1, 432, .inl g_fa)), (m_possible, .inl (E.2.1 1, 1728, .inl g_po)), (m_newAt, .inl (E.2.1 1, 24, .inl g1))] 0 0 := by
          intro fu
          induction fu with
          | zero => intro w2 g_fa g_po hw2 hcf hof hcg hog hmeas; exact absurd hmeas (Nat.not_lt_zero _)
          | succ fu ih_42 =>
            intro w2 g_fa g_po hw2 hcf hof hcg hog hmeas
            refine ww_iload C dX12_keepOnly_42 0 rfl ?_
            refine ww_aload_n C dX12_keepOnly_44 2 rfl rfl ?_
            refine ww_get C fg_X12_7 0 rfl rfl dX12_keepOnly_45 ?_
            refine ww_iload_n C dX12_keepOnly_48 3 rfl rfl ?_
            have hbx_3 := (hb_manys pa (by omega)).2
            refine ww_iald (v := (nI (cN f_manys pa))) C 1 rfl (vp_in_nI (by omega) (by omega)) (ldn (by omega) (hb_manys pa (by omega)).1) dX12_keepOnly_49 ?_
            refine ww_icmp_ge (tgt := 203) C dX12_keepOnly_50 (by decide) (fun c_4 => ?_) (fun c_4 => ?_)
            · have zc_4 : ((w2 : Nat) : Int) ≥ ((cN f_manys pa : Nat) : Int) := i_le (nI_toInt (n := cN f_manys pa) (by omega)) (nI_toInt (n := w2) (by omega)) c_4
              refine ww_aload_n C dX12_keepOnly_203 2 rfl rfl ?_
              refine ww_get C fg_X12_13 0 rfl rfl dX12_keepOnly_204 ?_
              refine ww_iload_n C dX12_keepOnly_207 3 rfl rfl ?_
              refine ww_aload_n C dX12_keepOnly_208 2 rfl rfl ?_
              refine ww_get C fg_X12_81 0 rfl rfl dX12_keepOnly_209 ?_
              refine ww_aload_n C dX12_keepOnly_212 2 rfl rfl ?_
              refine ww_get C fg_X12_13 0 rfl rfl dX12_keepOnly_213 ?_
              refine ww_iload_n C dX12_keepOnly_216 3 rfl rfl ?_
              have hbx_5 := (hb_reals pa (by omega)).2
              refine ww_iald (v := (nI (cN f_reals pa))) C 2 rfl (vp_in_nI (by omega) (by omega)) (ldn (by omega) (hb_reals pa (by omega)).1) dX12_keepOnly_217 ?_
              have hclx_6 := cb_le (bt so) (cN f_reals pa)
              refine ww_iald (v := (nI (cb (bt so) (cN f_reals pa)))) C 5 rfl (vp_in_nI (by omega) (by omega)) (ldn (by omega) (hna (cN f_reals pa) (by omega))) dX12_keepOnly_218 ?_
              obtain ⟨f_7, ef_7⟩ : ∃ z : Nat → Int32, upd f_reals pa (nI (cb (bt so) (cN f_reals pa))) = z := ⟨_, rfl⟩
              refine ww_iast (ws' := [(hm, .inr (12, [.ref m_manys, .ref m_reals, .ref m_factsOf, .ref m_possible, .int (nI q_undos), .int (nI q_models), .ref m_tape, .int (nI q_taped), .int q_fault, .int q_wrong, .int q_wrongAt, .int q_spot, .int q_place, .int q_token, .int q_value, .ref m_ends, .ref m_letters, .ref m_actOf, .ref m_whom, .ref m_actMany, .ref m_tokens, .ref m_afters, .ref m_afterOf, .int q_counted, .ref m_pile, .ref m_caseMany, .ref m_happen, .ref m_hasIf, .ref m_becomes, .ref m_goneOf, .ref m_heard, .ref m_pairs, .ref m_heaps, .int q_rounds, .int q_heapMany, .ref m_led, .ref m_newAt, .ref m_knowing, .ref m_firsts, .int (nI q_people), .ref m_secrets, .ref m_tried, .ref m_lanes, .ref m_lengths, .ref m_cells])), (m_manys, .inl (E.2.1 1, 18, .inl f_manys)), (m_reals, .inl (E.2.1 1, 18, .inl f_7)), (m_factsOf, .inl (E.2.1 1, 432, .inl g_fa)), (m_possible, .inl (E.2.1 1, 1728, .inl g_po)), (m_newAt, .inl (E.2.1 1, 24, .inl g1))]) C 2 rfl (vp_in_nI (by omega) (by omega)) (ldn2 (by omega) ef_7) rfl dX12_keepOnly_219 ?_
              refine ww_aload_n C dX12_keepOnly_220 2 rfl rfl ?_
              refine ww_get C fg_X12_7 0 rfl rfl dX12_keepOnly_221 ?_
              refine ww_iload_n C dX12_keepOnly_224 3 rfl rfl ?_
              refine ww_iload_n C dX12_keepOnly_225 1 rfl rfl ?_
              obtain ⟨f_8, ef_8⟩ : ∃ z : Nat → Int32, upd f_manys pa (nI c1) = z := ⟨_, rfl⟩
              refine ww_iast (ws' := [(hm, .inr (12, [.ref m_manys, .ref m_reals, .ref m_factsOf, .ref m_possible, .int (nI q_undos), .int (nI q_models), .ref m_tape, .int (nI q_taped), .int q_fault, .int q_wrong, .int q_wrongAt, .int q_spot, .int q_place, .int q_token, .int q_value, .ref m_ends, .ref m_letters, .ref m_actOf, .ref m_whom, .ref m_actMany, .ref m_tokens, .ref m_afters, .ref m_afterOf, .int q_counted, .ref m_pile, .ref m_caseMany, .ref m_happen, .ref m_hasIf, .ref m_becomes, .ref m_goneOf, .ref m_heard, .ref m_pairs, .ref m_heaps, .int q_rounds, .int q_heapMany, .ref m_led, .ref m_newAt, .ref m_knowing, .ref m_firsts, .int (nI q_people), .ref m_secrets, .ref m_tried, .ref m_lanes, .ref m_lengths, .ref m_cells])), (m_manys, .inl (E.2.1 1, 18, .inl f_8)), (m_reals, .inl (E.2.1 1, 18, .inl f_7)), (m_factsOf, .inl (E.2.1 1, 432, .inl g_fa)), (m_possible, .inl (E.2.1 1, 1728, .inl g_po)), (m_newAt, .inl (E.2.1 1, 24, .inl g1))]) C 1 rfl (vp_in_nI (by omega) (by omega)) (ldn2 (by omega) ef_8) rfl dX12_keepOnly_226 ?_
              exact ww_vret (u := [(hm, .inr (12, [.ref m_manys, .ref m_reals, .ref m_factsOf, .ref m_possible, .int (nI q_undos), .int (nI q_models), .ref m_tape, .int (nI q_taped), .int q_fault, .int q_wrong, .int q_wrongAt, .int q_spot, .int q_place, .int q_token, .int q_value, .ref m_ends, .ref m_letters, .ref m_actOf, .ref m_whom, .ref m_actMany, .ref m_tokens, .ref m_afters, .ref m_afterOf, .int q_counted, .ref m_pile, .ref m_caseMany, .ref m_happen, .ref m_hasIf, .ref m_becomes, .ref m_goneOf, .ref m_heard, .ref m_pairs, .ref m_heaps, .int q_rounds, .int q_heapMany, .ref m_led, .ref m_newAt, .ref m_knowing, .ref m_firsts, .int (nI q_people), .ref m_secrets, .ref m_tried, .ref m_lanes, .ref m_lengths, .ref m_cells])), (m_manys, .inl (E.2.1 1, 18, .inl f_8)), (m_reals, .inl (E.2.1 1, 18, .inl f_7)), (m_factsOf, .inl (E.2.1 1, 432, .inl g_fa)), (m_possible, .inl (E.2.1 1, 1728, .inl g_po)), (m_newAt, .inl (E.2.1 1, 24, .inl g1))]) C hT [0, 1, 2, 3, 4, 5] rfl rfl rfl rfl dX12_keepOnly_227 (⟨f_8, f_7, g_fa, g_po, g1, rfl, (NB.put hb_manys (t := c1) (by omega) (by decide) ef_8), (NB.put hb_reals (t := cb (bt so) (cN f_reals pa)) (by omega) (by decide) ef_7), (PG.put (a := c1) (b := cb (bt so) (cN f_reals pa)) hpg ef_8 ef_7 (by omega) (by omega) (Or.inl (by rw [hc1]; exact cb_lt hrn hre))), (WFP.at hwf (pgs_oth hb_manys (OFF.put OFF.rf (by omega) (by omega) ef_8) (OFF.put OFF.rf (by omega) (by omega) ef_7) hof hog) (by rw [show pgs f_8 f_7 g_fa g_po pa = aCut (pgs f_manys f_reals f_factsOf f_possible pa) (bt so) from (am_cut (by omega) (hwf pa (by omega)) hcf hcg (show w2 = cN f_manys pa by omega) (by rw [cN_s (by omega) ef_8]; exact hc1) (cN_s (by omega) ef_7))]; exact aCut_wf)), (by rw [cN_s (by omega) ef_8]; exact hc1), (cN_s (by omega) ef_7), (am_cut (by omega) (hwf pa (by omega)) hcf hcg (show w2 = cN f_manys pa by omega) (by rw [cN_s (by omega) ef_8]; exact hc1) (cN_s (by omega) ef_7)), (pgs_oth hb_manys (OFF.put OFF.rf (by omega) (by omega) ef_8) (OFF.put OFF.rf (by omega) (by omega) ef_7) hof hog)⟩)
            · have zc_4 : ((w2 : Nat) : Int) < ((cN f_manys pa : Nat) : Int) := i_nle (nI_toInt (n := cN f_manys pa) (by omega)) (nI_toInt (n := w2) (by omega)) c_4
              refine ww_iload_n C dX12_keepOnly_53 4 rfl rfl ?_
              refine ww_iload C dX12_keepOnly_54 0 rfl ?_
              obtain ⟨x_9, ex_9⟩ : ∃ z : Int32, so >>> ((nI w2) &&& 31) = z := ⟨_, rfl⟩
              refine ww_ishr (v := x_9) C dX12_keepOnly_56 ex_9 ?_
              refine ww_iconst (v := 1) C dX12_keepOnly_57 rfl ?_
              obtain ⟨j_10, hj_10, ej_10⟩ := pk_andE x_9 (m := 1) 1 rfl
              refine ww_iand (v := (nI j_10)) C dX12_keepOnly_58 ej_10 ?_
              refine ww_iconst (v := 1) C dX12_keepOnly_59 rfl ?_
              refine ww_icmp_ne (tgt := 197) C dX12_keepOnly_60 (by decide) (fun c_11 => ?_) (fun c_11 => ?_)
              · have zc_11 : ((j_10 : Nat) : Int) ≠ 1 := i_ne (nI_toInt (n := j_10) (by omega)) rfl c_11
                refine ww_iinc (j := 0) (v := (nI (w2 + 1))) (lv' := [(4, .int (nI (w2 + 1))), (3, .int (nI c1)), (0, .ref hm), (1, .int (nI pa)), (2, .int so)]) C dX12_keepOnly_197 rfl (nI_add w2 1) rfl rfl ?_
                refine ww_goto (tgt := 42) C dX12_keepOnly_200 (by decide) ?_
                exact ww_lv [0, 1, 2, 3, 4] rfl (ww_sub [0, 1, 2, 3, 4, 5] rfl rfl (ih_42 (w2 + 1) g_fa g_po (by omega) (CUf.f hcf (hasb_0 (b := so) (p := w2) (by omega) (by assumption) (by assumption) (by omega))) hof (CUG.f hcg (hasb_0 (b := so) (p := w2) (by omega) (by assumption) (by assumption) (by omega))) hog (by omega)))
              · have zc_11 : ((j_10 : Nat) : Int) = 1 := i_eq (nI_toInt (n := j_10) (by omega)) rfl c_11
                refine ww_aload_n C dX12_keepOnly_63 2 rfl rfl ?_
                refine ww_get C fg_X12_16 0 rfl rfl dX12_keepOnly_64 ?_
                refine ww_bipush (v := 24) C dX12_keepOnly_67 rfl ?_
                refine ww_iload_n C dX12_keepOnly_69 3 rfl rfl ?_
                refine ww_imul (v := (nI (24 * pa))) C dX12_keepOnly_70 (pk_mul 24 pa) ?_
                refine ww_aload_n C dX12_keepOnly_71 2 rfl rfl ?_
                refine ww_get C fg_X12_81 0 rfl rfl dX12_keepOnly_72 ?_
                refine ww_iload C dX12_keepOnly_75 0 rfl ?_
                have hclx_12 := cb_le (bt so) w2
                refine ww_iald (v := (nI (cb (bt so) w2))) C 5 rfl (vp_in_nI (by omega) (by omega)) (ldn (by omega) (hna w2 (by omega))) dX12_keepOnly_77 ?_
                refine ww_iadd (v := (nI ((24 * pa) + (cb (bt so) w2)))) C dX12_keepOnly_78 (nI_add (24 * pa) (cb (bt so) w2)) ?_
                refine ww_aload_n C dX12_keepOnly_79 2 rfl rfl ?_
                refine ww_get C fg_X12_16 0 rfl rfl dX12_keepOnly_80 ?_
                refine ww_bipush (v := 24) C dX12_keepOnly_83 rfl ?_
                refine ww_iload_n C dX12_keepOnly_85 3 rfl rfl ?_
                refine ww_imul (v := (nI (24 * pa))) C dX12_keepOnly_86 (pk_mul 24 pa) ?_
                refine ww_iload C dX12_keepOnly_87 0 rfl ?_
                refine ww_iadd (v := (nI ((24 * pa) + w2))) C dX12_keepOnly_89 (nI_add (24 * pa) w2) ?_
                obtain ⟨x_13, ex_13⟩ : ∃ z : Int32, g_fa ((24 * pa) + w2) = z := ⟨_, rfl⟩
                refine ww_iald (v := x_13) C 3 rfl (vp_in_nI (by omega) (by omega)) (ldn (by omega) ex_13) dX12_keepOnly_90 ?_
                obtain ⟨f_14, ef_14⟩ : ∃ z : Nat → Int32, upd g_fa ((24 * pa) + (cb (bt so) w2)) x_13 = z := ⟨_, rfl⟩
                refine ww_iast (ws' := [(hm, .inr (12, [.ref m_manys, .ref m_reals, .ref m_factsOf, .ref m_possible, .int (nI q_undos), .int (nI q_models), .ref m_tape, .int (nI q_taped), .int q_fault, .int q_wrong, .int q_wrongAt, .int q_spot, .int q_place, .int q_token, .int q_value, .ref m_ends, .ref m_letters, .ref m_actOf, .ref m_whom, .ref m_actMany, .ref m_tokens, .ref m_afters, .ref m_afterOf, .int q_counted, .ref m_pile, .ref m_caseMany, .ref m_happen, .ref m_hasIf, .ref m_becomes, .ref m_goneOf, .ref m_heard, .ref m_pairs, .ref m_heaps, .int q_rounds, .int q_heapMany, .ref m_led, .ref m_newAt, .ref m_knowing, .ref m_firsts, .int (nI q_people), .ref m_secrets, .ref m_tried, .ref m_lanes, .ref m_lengths, .ref m_cells])), (m_manys, .inl (E.2.1 1, 18, .inl f_manys)), (m_reals, .inl (E.2.1 1, 18, .inl f_reals)), (m_factsOf, .inl (E.2.1 1, 432, .inl f_14)), (m_possible, .inl (E.2.1 1, 1728, .inl g_po)), (m_newAt, .inl (E.2.1 1, 24, .inl g1))]) C 3 rfl (vp_in_nI (by omega) (by omega)) (ldn2 (by omega) ef_14) rfl dX12_keepOnly_91 ?_
                refine ww_iconst (v := 0) C dX12_keepOnly_92 rfl ?_
                refine ww_istore (lv' := [(5, .int 0), (4, .int (nI w2)), (3, .int (nI c1)), (0, .ref hm), (1, .int (nI pa)), (2, .int so)]) C dX12_keepOnly_93 rfl rfl ?_
                have loop_95 : ∀ (fu : Nat) (k3 : Nat) (g_po3 : Nat → Int32), (k3 ≤ 4) → (CUg (cN f_manys pa) w2 k3 so (sh (96 * pa) f_possible) (sh (96 * pa) g_po3)) → (OFF 96 pa f_possible g_po3) → 4 - k3 < fu → WW X 9 E 95 [(5, .int (nI k3)), (4, .int (nI w2)), (3, .int (nI c1)), (0, .ref hm), (1, .int (nI pa)), (2, .int so)] [] [(hm, .inr (12, [.ref m_manys, .ref m_reals, .ref m_factsOf, .ref m_possible, .int (nI q_undos), .int (nI q_models), .ref m_tape, .int (nI q_taped), .int q_fault, .int q_wrong, .int q_wrongAt, .int q_spot, .int q_place, .int q_token, .int q_value, .ref m_ends, .ref m_letters, .ref m_actOf, .ref m_whom, .ref m_actMany, .ref m_tokens, .ref m_afters, .ref m_afterOf, .int q_counted, .ref m_pile, .ref m_caseMany, .ref m_happen, .ref m_hasIf, .ref m_becomes, .ref m_goneOf, .ref m_heard, .ref m_pairs, .ref m_heaps, .int q_rounds, .int q_heapMany, .ref m_led, .ref m_newAt, .ref m_knowing, .ref m_firsts, .int (nI q_people), .ref m_secrets, .ref m_tried, .ref m_lanes, .ref m_lengths, .ref m_cells])), (m_manys, .inl (E.2.1 1, 18, .inl f_manys)), (m_reals, .inl (E.2.1 1, 18, .inl f_reals)), (m_factsOf, .inl (E.2.1 1, 432, .inl f_14)), (m_possible, .inl (E.2.1 1, 1728, .inl g_po3)), (m_newAt, .inl (E.2.1 1, 24, .inl g1))] 0 0 := by
                  intro fu
                  induction fu with
                  | zero => intro k3 g_po3 hk3 hcg3 hog3 hmeas; exact absurd hmeas (Nat.not_lt_zero _)
                  | succ fu ih_95 =>
                    intro k3 g_po3 hk3 hcg3 hog3 hmeas
                    refine ww_iload C dX12_keepOnly_95 0 rfl ?_
                    refine ww_iconst (v := 4) C dX12_keepOnly_97 rfl ?_
                    refine ww_icmp_ge (tgt := 197) C dX12_keepOnly_98 (by decide) (fun c_15 => ?_) (fun c_15 => ?_)
                    · have zc_15 : ((k3 : Nat) : Int) ≥ 4 := i_le rfl (nI_toInt (n := k3) (by omega)) c_15
                      refine ww_iinc (j := 1) (v := (nI (w2 + 1))) (lv' := [(4, .int (nI (w2 + 1))), (5, .int (nI k3)), (3, .int (nI c1)), (0, .ref hm), (1, .int (nI pa)), (2, .int so)]) C dX12_keepOnly_197 rfl (nI_add w2 1) rfl rfl ?_
                      refine ww_goto (tgt := 42) C dX12_keepOnly_200 (by decide) ?_
                      exact ww_lv [0, 2, 3, 4, 5] rfl (ww_sub [0, 1, 2, 3, 4, 5] rfl rfl (ih_42 (w2 + 1) f_14 g_po3 (by omega) (CUf.t hcf (hasb_1 (b := so) (p := w2) (by omega) (by assumption) (by assumption) (by omega)) rfl (show sh (24 * pa) g_fa w2 = x_13 from ex_13) (sh_upd ef_14)) (OFF.put hof (by omega) (by omega) ef_14) (CUG.up hcg3 (by omega)) hog3 (by omega)))
                    · have zc_15 : ((k3 : Nat) : Int) < 4 := i_nle rfl (nI_toInt (n := k3) (by omega)) c_15
                      refine ww_aload_n C dX12_keepOnly_101 3 rfl rfl ?_
                      refine ww_iload_n C dX12_keepOnly_102 4 rfl rfl ?_
                      refine ww_iload C dX12_keepOnly_103 0 rfl ?_
                      refine ww_iload C dX12_keepOnly_105 1 rfl ?_
                      refine ww_ci (wr := [(m_manys, .inl (E.2.1 1, 18, .inl f_manys)), (m_reals, .inl (E.2.1 1, 18, .inl f_reals)), (m_factsOf, .inl (E.2.1 1, 432, .inl f_14)), (m_newAt, .inl (E.2.1 1, 24, .inl g1))]) (k' := 0) (n' := 0) C (run_V (As := [.int (nI pa), .int (nI k3), .int (nI w2)]) (rest := []) C (r_seen X.2.1 E ro hm pa k3 w2 m_manys m_reals m_factsOf m_possible q_undos q_models m_tape q_taped q_fault q_wrong q_wrongAt q_spot q_place q_token q_value m_ends m_letters m_actOf m_whom m_actMany m_tokens m_afters m_afterOf q_counted m_pile m_caseMany m_happen m_hasIf m_becomes m_goneOf m_heard m_pairs m_heaps q_rounds q_heapMany m_led m_newAt m_knowing m_firsts q_people m_secrets m_tried m_lanes m_lengths m_cells g_po3 (by omega) (by omega) (by omega)) mi_X12_seen wl_X12_135 rfl 0 12 rfl rfl rfl rfl rfl dX12_keepOnly_107) (roK hro) [0, 4] [1, 2, 3, 5] rfl rfl rfl rfl (fun r_16 uz hw => ?_)
                      refine an1 hw ?_
                      clear hw
                      intro he_17 hw
                      have he_18 := hw
                      clear hw
                      have he_17 := he_17.symm
                      subst he_17
                      subst he_18
                      refine ww_eq (ws' := [(m_manys, .inl (E.2.1 1, 18, .inl f_manys)), (m_reals, .inl (E.2.1 1, 18, .inl f_reals)), (m_factsOf, .inl (E.2.1 1, 432, .inl f_14)), (m_newAt, .inl (E.2.1 1, 24, .inl g1)), (hm, .inr (12, [.ref m_manys, .ref m_reals, .ref m_factsOf, .ref m_possible, .int (nI q_undos), .int (nI q_models), .ref m_tape, .int (nI q_taped), .int q_fault, .int q_wrong, .int q_wrongAt, .int q_spot, .int q_place, .int q_token, .int q_value, .ref m_ends, .ref m_letters, .ref m_actOf, .ref m_whom, .ref m_actMany, .ref m_tokens, .ref m_afters, .ref m_afterOf, .int q_counted, .ref m_pile, .ref m_caseMany, .ref m_happen, .ref m_hasIf, .ref m_becomes, .ref m_goneOf, .ref m_heard, .ref m_pairs, .ref m_heaps, .int q_rounds, .int q_heapMany, .ref m_led, .ref m_newAt, .ref m_knowing, .ref m_firsts, .int (nI q_people), .ref m_secrets, .ref m_tried, .ref m_lanes, .ref m_lengths, .ref m_cells])), (m_possible, .inl (E.2.1 1, 1728, .inl g_po3))]) ?_ rfl rfl rfl
                      refine ww_iload_n C dX12_keepOnly_110 5 rfl rfl ?_
                      obtain ⟨x_19, ex_19⟩ : ∃ z : Int32, (g_po3 (96 * pa + 24 * k3 + w2)) &&& so = z := ⟨_, rfl⟩
                      refine ww_iand (v := x_19) C dX12_keepOnly_111 ex_19 ?_
                      refine ww_istore (lv' := [(6, .int x_19), (5, .int (nI k3)), (4, .int (nI w2)), (3, .int (nI c1)), (0, .ref hm), (1, .int (nI pa)), (2, .int so)]) C dX12_keepOnly_112 rfl rfl ?_
                      refine ww_iconst (v := 0) C dX12_keepOnly_114 rfl ?_
                      refine ww_istore (lv' := [(7, .int 0), (6, .int x_19), (5, .int (nI k3)), (4, .int (nI w2)), (3, .int (nI c1)), (0, .ref hm), (1, .int (nI pa)), (2, .int so)]) C dX12_keepOnly_115 rfl rfl ?_
                      refine ww_iconst (v := 0) C dX12_keepOnly_117 rfl ?_
                      refine ww_istore (lv' := [(8, .int 0), (7, .int 0), (6, .int x_19), (5, .int (nI k3)), (4, .int (nI w2)), (3, .int (nI c1)), (0, .ref hm), (1, .int (nI pa)), (2, .int so)]) C dX12_keepOnly_118 rfl rfl ?_
                      have loop_120 : ∀ (fu : Nat) (u4 : Nat) (th4 : Int32), (u4 ≤ cN f_manys pa) → (BXx (bt so) (bt (g_po3 (96 * pa + 24 * k3 + w2))) 24 u4 th4) → cN f_manys pa - u4 < fu → WW X 9 E 120 [(8, .int (nI u4)), (7, .int th4), (6, .int x_19), (5, .int (nI k3)), (4, .int (nI w2)), (3, .int (nI c1)), (0, .ref hm), (1, .int (nI pa)), (2, .int so)] [] [(m_manys, .inl (E.2.1 1, 18, .inl f_manys)), (m_reals, .inl (E.2.1 1, 18, .inl f_reals)), (m_factsOf, .inl (E.2.1 1, 432, .inl f_14)), (m_newAt, .inl (E.2.1 1, 24, .inl g1)), (hm, .inr (12, [.ref m_manys, .ref m_reals, .ref m_factsOf, .ref m_possible, .int (nI q_undos), .int (nI q_models), .ref m_tape, .int (nI q_taped), .int q_fault, .int q_wrong, .int q_wrongAt, .int q_spot, .int q_place, .int q_token, .int q_value, .ref m_ends, .ref m_letters, .ref m_actOf, .ref m_whom, .ref m_actMany, .ref m_tokens, .ref m_afters, .ref m_afterOf, .int q_counted, .ref m_pile, .ref m_caseMany, .ref m_happen, .ref m_hasIf, .ref m_becomes, .ref m_goneOf, .ref m_heard, .ref m_pairs, .ref m_heaps, .int q_rounds, .int q_heapMany, .ref m_led, .ref m_newAt, .ref m_knowing, .ref m_firsts, .int (nI q_people), .ref m_secrets, .ref m_tried, .ref m_lanes, .ref m_lengths, .ref m_cells])), (m_possible, .inl (E.2.1 1, 1728, .inl g_po3))] 0 0 := by
                        intro fu
                        induction fu with
                        | zero => intro u4 th4 hu4 hbx hmeas; exact absurd hmeas (Nat.not_lt_zero _)
                        | succ fu ih_120 =>
                          intro u4 th4 hu4 hbx hmeas
                          refine ww_iload C dX12_keepOnly_120 0 rfl ?_
                          refine ww_aload_n C dX12_keepOnly_122 6 rfl rfl ?_
                          refine ww_get C fg_X12_7 4 rfl rfl dX12_keepOnly_123 ?_
                          refine ww_iload_n C dX12_keepOnly_126 7 rfl rfl ?_
                          have hbx_20 := (hb_manys pa (by omega)).2
                          refine ww_iald (v := (nI (cN f_manys pa))) C 0 rfl (vp_in_nI (by omega) (by omega)) (ldn (by omega) (hb_manys pa (by omega)).1) dX12_keepOnly_127 ?_
                          refine ww_icmp_ge (tgt := 166) C dX12_keepOnly_128 (by decide) (fun c_21 => ?_) (fun c_21 => ?_)
                          · have zc_21 : ((u4 : Nat) : Int) ≥ ((cN f_manys pa : Nat) : Int) := i_le (nI_toInt (n := cN f_manys pa) (by omega)) (nI_toInt (n := u4) (by omega)) c_21
                            refine ww_aload_n C dX12_keepOnly_166 6 rfl rfl ?_
                            refine ww_get C fg_X12_19 4 rfl rfl dX12_keepOnly_167 ?_
                            refine ww_bipush (v := 96) C dX12_keepOnly_170 rfl ?_
                            refine ww_iload_n C dX12_keepOnly_172 7 rfl rfl ?_
                            refine ww_imul (v := (nI (96 * pa))) C dX12_keepOnly_173 (pk_mul 96 pa) ?_
                            refine ww_bipush (v := 24) C dX12_keepOnly_174 rfl ?_
                            refine ww_iload C dX12_keepOnly_176 3 rfl ?_
                            refine ww_imul (v := (nI (24 * k3))) C dX12_keepOnly_178 (pk_mul 24 k3) ?_
                            refine ww_iadd (v := (nI ((96 * pa) + (24 * k3)))) C dX12_keepOnly_179 (nI_add (96 * pa) (24 * k3)) ?_
                            refine ww_aload_n C dX12_keepOnly_180 6 rfl rfl ?_
                            refine ww_get C fg_X12_81 4 rfl rfl dX12_keepOnly_181 ?_
                            refine ww_iload C dX12_keepOnly_184 4 rfl ?_
                            have hclx_22 := cb_le (bt so) w2
                            refine ww_iald (v := (nI (cb (bt so) w2))) C 3 rfl (vp_in_nI (by omega) (by omega)) (ldn (by omega) (hna w2 (by omega))) dX12_keepOnly_186 ?_
                            refine ww_iadd (v := (nI (((96 * pa) + (24 * k3)) + (cb (bt so) w2)))) C dX12_keepOnly_187 (nI_add ((96 * pa) + (24 * k3)) (cb (bt so) w2)) ?_
                            refine ww_iload C dX12_keepOnly_188 1 rfl ?_
                            obtain ⟨f_23, ef_23⟩ : ∃ z : Nat → Int32, upd g_po3 (((96 * pa) + (24 * k3)) + (cb (bt so) w2)) th4 = z := ⟨_, rfl⟩
                            refine ww_iast (ws' := [(m_manys, .inl (E.2.1 1, 18, .inl f_manys)), (m_reals, .inl (E.2.1 1, 18, .inl f_reals)), (m_factsOf, .inl (E.2.1 1, 432, .inl f_14)), (m_newAt, .inl (E.2.1 1, 24, .inl g1)), (hm, .inr (12, [.ref m_manys, .ref m_reals, .ref m_factsOf, .ref m_possible, .int (nI q_undos), .int (nI q_models), .ref m_tape, .int (nI q_taped), .int q_fault, .int q_wrong, .int q_wrongAt, .int q_spot, .int q_place, .int q_token, .int q_value, .ref m_ends, .ref m_letters, .ref m_actOf, .ref m_whom, .ref m_actMany, .ref m_tokens, .ref m_afters, .ref m_afterOf, .int q_counted, .ref m_pile, .ref m_caseMany, .ref m_happen, .ref m_hasIf, .ref m_becomes, .ref m_goneOf, .ref m_heard, .ref m_pairs, .ref m_heaps, .int q_rounds, .int q_heapMany, .ref m_led, .ref m_newAt, .ref m_knowing, .ref m_firsts, .int (nI q_people), .ref m_secrets, .ref m_tried, .ref m_lanes, .ref m_lengths, .ref m_cells])), (m_possible, .inl (E.2.1 1, 1728, .inl f_23))]) C 5 rfl (vp_in_nI (by omega) (by omega)) (ldn2 (by omega) ef_23) rfl dX12_keepOnly_190 ?_
                            refine ww_iinc (j := 3) (v := (nI (k3 + 1))) (lv' := [(5, .int (nI (k3 + 1))), (8, .int (nI u4)), (7, .int th4), (6, .int x_19), (4, .int (nI w2)), (3, .int (nI c1)), (0, .ref hm), (1, .int (nI pa)), (2, .int so)]) C dX12_keepOnly_191 rfl (nI_add k3 1) rfl rfl ?_
                            refine ww_goto (tgt := 95) C dX12_keepOnly_194 (by decide) ?_
                            exact ww_lv [0, 4, 5, 6, 7, 8] rfl (ww_sub [4, 0, 1, 2, 5, 3] rfl rfl (ih_95 (k3 + 1) f_23 (by omega) (CUg.t (x := (g_po3 (96 * pa + 24 * k3 + w2))) hcg3 (by omega) (by omega) (by omega) (hasb_1 (b := so) (p := w2) (by omega) (by assumption) (by assumption) (by omega)) rfl (show g_po3 (96 * pa + (k3 * 24 + w2)) = (g_po3 (96 * pa + 24 * k3 + w2)) from congrArg g_po3 (by omega)) (show BXx (bt so) (bt (g_po3 (96 * pa + 24 * k3 + w2))) 24 24 _ from BXx.fs hbx (by omega) (fun p a b => by cases hq : bt so p with | false => rfl | true => exact absurd (hsb p (by omega) hq) (by omega))) (sh_upg ef_23)) (OFF.put hog3 (by omega) (by omega) ef_23) (by omega)))
                          · have zc_21 : ((u4 : Nat) : Int) < ((cN f_manys pa : Nat) : Int) := i_nle (nI_toInt (n := cN f_manys pa) (by omega)) (nI_toInt (n := u4) (by omega)) c_21
                            refine ww_iload C dX12_keepOnly_131 1 rfl ?_
                            refine ww_iload C dX12_keepOnly_133 2 rfl ?_
                            refine ww_iload C dX12_keepOnly_135 0 rfl ?_
                            obtain ⟨x_24, ex_24⟩ : ∃ z : Int32, x_19 >>> ((nI u4) &&& 31) = z := ⟨_, rfl⟩
                            refine ww_ishr (v := x_24) C dX12_keepOnly_137 ex_24 ?_
                            refine ww_iconst (v := 1) C dX12_keepOnly_138 rfl ?_
                            obtain ⟨j_25, hj_25, ej_25⟩ := pk_andE x_24 (m := 1) 1 rfl
                            refine ww_iand (v := (nI j_25)) C dX12_keepOnly_139 ej_25 ?_
                            refine ww_iconst (v := 1) C dX12_keepOnly_140 rfl ?_
                            refine ww_icmp_ne (tgt := 156) C dX12_keepOnly_141 (by decide) (fun c_26 => ?_) (fun c_26 => ?_)
                            · have zc_26 : ((j_25 : Nat) : Int) ≠ 1 := i_ne (nI_toInt (n := j_25) (by omega)) rfl c_26
                              refine ww_iconst (v := 0) C dX12_keepOnly_156 rfl ?_
                              obtain ⟨x_27, ex_27⟩ : ∃ z : Int32, th4 ||| (0 : Int32) = z := ⟨_, rfl⟩
                              refine ww_ior (v := x_27) C dX12_keepOnly_157 ex_27 ?_
                              refine ww_istore (lv' := [(7, .int x_27), (8, .int (nI u4)), (6, .int x_19), (5, .int (nI k3)), (4, .int (nI w2)), (3, .int (nI c1)), (0, .ref hm), (1, .int (nI pa)), (2, .int so)]) C dX12_keepOnly_158 rfl rfl ?_
                              refine ww_iinc (j := 1) (v := (nI (u4 + 1))) (lv' := [(8, .int (nI (u4 + 1))), (7, .int x_27), (6, .int x_19), (5, .int (nI k3)), (4, .int (nI w2)), (3, .int (nI c1)), (0, .ref hm), (1, .int (nI pa)), (2, .int so)]) C dX12_keepOnly_160 rfl (nI_add u4 1) rfl rfl ?_
                              refine ww_goto (tgt := 120) C dX12_keepOnly_163 (by decide) ?_
                              exact ww_lv [0, 1, 2, 3, 4, 5, 6, 7, 8] rfl (ww_sub [0, 1, 2, 3, 4, 5] rfl rfl (ih_120 (u4 + 1) x_27 (by omega) (by first | exact bx_1 hbx ex_19 (hasb_1 (b := x_19) (p := u4) (by omega) (by assumption) (by assumption) (by omega)) (by omega) (by have := cb_le (bt so) u4; omega) rfl (by assumption) (by assumption) | exact bx_0 hbx ex_19 (hasb_0 (b := x_19) (p := u4) (by omega) (by assumption) (by assumption) (by omega)) (by omega) (by assumption)) (by omega)))
                            · have zc_26 : ((j_25 : Nat) : Int) = 1 := i_eq (nI_toInt (n := j_25) (by omega)) rfl c_26
                              refine ww_iconst (v := 1) C dX12_keepOnly_144 rfl ?_
                              refine ww_aload_n C dX12_keepOnly_145 6 rfl rfl ?_
                              refine ww_get C fg_X12_81 4 rfl rfl dX12_keepOnly_146 ?_
                              refine ww_iload C dX12_keepOnly_149 0 rfl ?_
                              have hclx_28 := cb_le (bt so) u4
                              refine ww_iald (v := (nI (cb (bt so) u4))) C 3 rfl (vp_in_nI (by omega) (by omega)) (ldn (by omega) (hna u4 (by omega))) dX12_keepOnly_151 ?_
                              obtain ⟨x_29, ex_29⟩ : ∃ z : Int32, (1 : Int32) <<< ((nI (cb (bt so) u4)) &&& 31) = z := ⟨_, rfl⟩
                              refine ww_ishl (v := x_29) C dX12_keepOnly_152 ex_29 ?_
                              refine ww_goto (tgt := 157) C dX12_keepOnly_153 (by decide) ?_
                              obtain ⟨x_30, ex_30⟩ : ∃ z : Int32, th4 ||| x_29 = z := ⟨_, rfl⟩
                              refine ww_ior (v := x_30) C dX12_keepOnly_157 ex_30 ?_
                              refine ww_istore (lv' := [(7, .int x_30), (8, .int (nI u4)), (6, .int x_19), (5, .int (nI k3)), (4, .int (nI w2)), (3, .int (nI c1)), (0, .ref hm), (1, .int (nI pa)), (2, .int so)]) C dX12_keepOnly_158 rfl rfl ?_
                              refine ww_iinc (j := 1) (v := (nI (u4 + 1))) (lv' := [(8, .int (nI (u4 + 1))), (7, .int x_30), (6, .int x_19), (5, .int (nI k3)), (4, .int (nI w2)), (3, .int (nI c1)), (0, .ref hm), (1, .int (nI pa)), (2, .int so)]) C dX12_keepOnly_160 rfl (nI_add u4 1) rfl rfl ?_
                              refine ww_goto (tgt := 120) C dX12_keepOnly_163 (by decide) ?_
                              exact ww_lv [0, 1, 2, 3, 4, 5, 6, 7, 8] rfl (ww_sub [0, 1, 2, 3, 4, 5] rfl rfl (ih_120 (u4 + 1) x_30 (by omega) (by first | exact bx_1 hbx ex_19 (hasb_1 (b := x_19) (p := u4) (by omega) (by assumption) (by assumption) (by omega)) (by omega) (by have := cb_le (bt so) u4; omega) rfl (by assumption) (by assumption) | exact bx_0 hbx ex_19 (hasb_0 (b := x_19) (p := u4) (by omega) (by assumption) (by assumption) (by omega)) (by omega) (by assumption)) (by omega)))
                      exact ww_lv [0, 1, 2, 3, 4, 5, 6, 7, 8] rfl (ww_sub [0, 1, 2, 3, 4, 5] rfl rfl (loop_120 _ 0 0 (by omega) BXx.nil (Nat.lt_succ_self _)))
                exact ww_lv [0, 1, 2, 3, 4, 5] rfl (ww_sub [0, 1, 2, 3, 4, 5] rfl rfl (loop_95 _ 0 g_po (by omega) hcg hog (Nat.lt_succ_self _)))
        exact ww_lv [0, 1, 2, 3, 4] rfl (ww_sub [0, 1, 2, 3, 4, 5] rfl rfl (loop_42 _ 0 f_factsOf f_possible (by omega) CUf.nil OFF.rf CUG.nil OFF.rf (Nat.lt_succ_self _)))
      · have zc_2 : ((w1 : Nat) : Int) < ((cN f_manys pa : Nat) : Int) := i_nle (nI_toInt (n := cN f_manys pa) (by omega)) (nI_toInt (n := w1) (by omega)) c_2
        refine ww_aload_n C dX12_keepOnly_16 2 rfl rfl ?_
        refine ww_get C fg_X12_81 0 rfl rfl dX12_keepOnly_17 ?_
        refine ww_iload C dX12_keepOnly_20 0 rfl ?_
        refine ww_iload_n C dX12_keepOnly_22 1 rfl rfl ?_
        obtain ⟨f_31, ef_31⟩ : ∃ z : Nat → Int32, upd g1 w1 (nI c1) = z := ⟨_, rfl⟩
        refine ww_iast (ws' := [(hm, .inr (12, [.ref m_manys, .ref m_reals, .ref m_factsOf, .ref m_possible, .int (nI q_undos), .int (nI q_models), .ref m_tape, .int (nI q_taped), .int q_fault, .int q_wrong, .int q_wrongAt, .int q_spot, .int q_place, .int q_token, .int q_value, .ref m_ends, .ref m_letters, .ref m_actOf, .ref m_whom, .ref m_actMany, .ref m_tokens, .ref m_afters, .ref m_afterOf, .int q_counted, .ref m_pile, .ref m_caseMany, .ref m_happen, .ref m_hasIf, .ref m_becomes, .ref m_goneOf, .ref m_heard, .ref m_pairs, .ref m_heaps, .int q_rounds, .int q_heapMany, .ref m_led, .ref m_newAt, .ref m_knowing, .ref m_firsts, .int (nI q_people), .ref m_secrets, .ref m_tried, .ref m_lanes, .ref m_lengths, .ref m_cells])), (m_manys, .inl (E.2.1 1, 18, .inl f_manys)), (m_reals, .inl (E.2.1 1, 18, .inl f_reals)), (m_factsOf, .inl (E.2.1 1, 432, .inl f_factsOf)), (m_possible, .inl (E.2.1 1, 1728, .inl f_possible)), (m_newAt, .inl (E.2.1 1, 24, .inl f_31))]) C 5 rfl (vp_in_nI (by omega) (by omega)) (ldn2 (by omega) ef_31) rfl dX12_keepOnly_23 ?_
        refine ww_iload_n C dX12_keepOnly_24 1 rfl rfl ?_
        refine ww_iload_n C dX12_keepOnly_25 4 rfl rfl ?_
        refine ww_iload C dX12_keepOnly_26 0 rfl ?_
        obtain ⟨x_32, ex_32⟩ : ∃ z : Int32, so >>> ((nI w1) &&& 31) = z := ⟨_, rfl⟩
        refine ww_ishr (v := x_32) C dX12_keepOnly_28 ex_32 ?_
        refine ww_iconst (v := 1) C dX12_keepOnly_29 rfl ?_
        obtain ⟨j_33, hj_33, ej_33⟩ := pk_andE x_32 (m := 1) 1 rfl
        refine ww_iand (v := (nI j_33)) C dX12_keepOnly_30 ej_33 ?_
        refine ww_iadd (v := (nI (c1 + j_33))) C dX12_keepOnly_31 (nI_add c1 j_33) ?_
        refine ww_istore_n (lv' := [(3, .int (nI (c1 + j_33))), (4, .int (nI w1)), (0, .ref hm), (1, .int (nI pa)), (2, .int so)]) C dX12_keepOnly_32 rfl rfl rfl ?_
        refine ww_iinc (j := 1) (v := (nI (w1 + 1))) (lv' := [(4, .int (nI (w1 + 1))), (3, .int (nI (c1 + j_33))), (0, .ref hm), (1, .int (nI pa)), (2, .int so)]) C dX12_keepOnly_33 rfl (nI_add w1 1) rfl rfl ?_
        refine ww_goto (tgt := 5) C dX12_keepOnly_36 (by decide) ?_
        exact ww_lv [0, 1, 2, 3, 4] rfl (ww_sub [0, 1, 2, 3, 4, 5] rfl rfl (ih_5 (w1 + 1) (c1 + j_33) f_31 (by omega) (by rw [cb_bit (j := j_33) (by omega) (by omega) (by assumption) (by assumption)]; omega) (NAx.ext hna hc1 ef_31) (by omega)))
  exact ww_lv [0, 1, 2, 3, 4] rfl (ww_sub [0, 1, 2, 3, 4, 5] rfl rfl (loop_5 _ 0 0 f_newAt (by omega) rfl NAx.zero (Nat.lt_succ_self _)))
