section
/-! how deep a saying is, what it names: as the reference finds it -/
theorem rdp {fa : Nat → Int32} {s j : Nat} {x : Int32} (hx : slot fa s j = x) (h : 0 ≤ x.toInt ∧ x.toInt ≤ 12) : uN (rO fa s j) = wR x ∧ (5 ≤ (rO fa s j).toInt ↔ 8 ≤ x.toInt) := by
  have h1 := i_cl (x := x) (N := 12) h.1 h.2 (by omega)
  have e1 : rO fa s j = opV x.toNatClampNeg := by rw [← hx]; rfl
  have e2 : x.toInt = (x.toNatClampNeg : Nat) := by show x.toInt = ((x.toInt.toNat : Nat) : Int); omega
  have h3 := opV_k x.toNatClampNeg (by omega)
  rw [e1, uN_wR _ (by omega), ← h1.1]
  exact ⟨rfl, h3.trans (by omega)⟩
section DSIR
variable {nn i j k k' l s : Nat} {o g g' fa : Nat → Int32} {x y r v : Int32}
theorem DSI.at2 (h : DSI nn o i g) (hk : (k : Int) < opn o i) (hkk : k' = k) (e : g k' = x) : x = nI (dSt nn o (nn - i) k) := by subst hkk; exact h.at hk e
theorem DSI.z (h : DSI nn o i g) (h32 : nn ≤ 32) (hk : (k : Int) < opn o i) (hkk : k' = k) (e : g k' = x) (hz : x.toInt ≤ 0) : (0 : Int32) = nI (dSt nn o (nn - i) k) := by
  have h1 := h.at2 hk hkk e
  have h2 := dSt_le (nn := nn) (o := o) (nn - i) k
  have h3 : x.toInt = (dSt nn o (nn - i) k : Nat) := by rw [h1]; exact nI_toInt (by omega)
  rw [show dSt nn o (nn - i) k = 0 by omega]; rfl
theorem DSI.m1 (h : DSI nn o i g) (h32 : nn ≤ 32) (hk : (k : Int) < opn o i) (e : g k = y) (hv : v = nI (dSt nn o (nn - i) l)) (hle : y.toInt ≤ v.toInt) : v = nI (max (dSt nn o (nn - i) k) (dSt nn o (nn - i) l)) := by
  have h1 := h.at hk e
  have h2 := dSt_le (nn := nn) (o := o) (nn - i) k
  have h4 := dSt_le (nn := nn) (o := o) (nn - i) l
  have h3 : y.toInt = (dSt nn o (nn - i) k : Nat) := by rw [h1]; exact nI_toInt (by omega)
  have h5 : v.toInt = (dSt nn o (nn - i) l : Nat) := by rw [hv]; exact nI_toInt (by omega)
  rw [hv]; congr 1; omega
theorem DSI.m2 (h : DSI nn o i g) (h32 : nn ≤ 32) (hk : (k : Int) < opn o i) (e : g k = y) (hv : v = nI (dSt nn o (nn - i) l)) (hgt : v.toInt < y.toInt) (e2 : g k = x) : x = nI (max (dSt nn o (nn - i) k) (dSt nn o (nn - i) l)) := by
  have h1 := h.at hk e
  have h2 := dSt_le (nn := nn) (o := o) (nn - i) k
  have h4 := dSt_le (nn := nn) (o := o) (nn - i) l
  have h3 : y.toInt = (dSt nn o (nn - i) k : Nat) := by rw [h1]; exact nI_toInt (by omega)
  have h5 : v.toInt = (dSt nn o (nn - i) l : Nat) := by rw [hv]; exact nI_toInt (by omega)
  rw [← e2, e, h1]; congr 1; omega
theorem DSI.stp (h : DSI nn (rO fa s) (j + 1) g) (hj : j < nn) (hl : (l : Int) = opn (rO fa s) j - 1) (hx : slot fa s j = x) (h0 : 0 ≤ x.toInt ∧ x.toInt ≤ 12) (h5 : (x.toInt < 8 ∧ r = v) ∨ (8 ≤ x.toInt ∧ v + 1 = r)) (hv : (wR x = 0 ∧ v = 0) ∨ (wR x = 1 ∧ v = nI (dSt nn (rO fa s) (nn - (j + 1)) l)) ∨ (wR x = 2 ∧ v = nI (max (dSt nn (rO fa s) (nn - (j + 1)) l) (dSt nn (rO fa s) (nn - (j + 1)) (l + 1))))) (e : upd g l r = g') : DSI nn (rO fa s) j g' := by
  have h1 := rdp hx h0
  refine h.s hj hl (dpr (v := v) ?_ ?_) e
  · rcases h5 with ⟨a, b⟩ | ⟨a, b⟩
    · exact Or.inl ⟨by omega, b⟩
    · exact Or.inr ⟨h1.2.mpr a, b⟩
  · rw [h1.1]; exact hv
end DSIR
theorem fv_sh : ∀ a, a < 4 → (1 : Int32) <<< (nI a &&& 31) = fv a := by decide +kernel
section NPR
variable {fa fw : Nat → Int32} {s i : Nat} {x y m m' : Int32}
theorem nPl_r1 (h : m = nPl (rO fa s) (rA fa fw s) i) (ex : fa (32 * s + i) = x) (h0 : 0 ≤ x.toInt) (h4 : x.toInt < 4) (ey : (1 : Int32) <<< (x &&& 31) = y) (e : m ||| y = m') : m' = nPl (rO fa s) (rA fa fw s) (i + 1) := by
  obtain ⟨a, ea, ha⟩ := nI_ex (x := x) (n := 3) (by omega) (by omega)
  subst ea
  have e1 := rO_at ex (nI_clamp (n := a) (by omega))
  have e2 := rA_at (fw := fw) ex (nI_clamp (n := a) (by omega))
  show m' = if rO fa s i = 0 then nPl (rO fa s) (rA fa fw s) i ||| rA fa fw s i else nPl (rO fa s) (rA fa fw s) i
  rw [e1, e2, if_pos (show opV a = 0 by unfold opV; rw [if_pos (by omega)]), ← h]
  unfold argV
  rw [if_pos (by omega), ← fv_sh a (by omega), ey, e]
theorem nPl_r0 (h : m = nPl (rO fa s) (rA fa fw s) i) (ex : fa (32 * s + i) = x) (h4 : 4 ≤ x.toInt) (h12 : 0 ≤ x.toInt ∧ x.toInt ≤ 12) (e : m ||| 0 = m') : m' = nPl (rO fa s) (rA fa fw s) (i + 1) := by
  obtain ⟨a, ea, ha⟩ := nI_ex (x := x) (n := 12) (by omega) (by omega)
  subst ea
  rw [nI_toInt (by omega)] at h4
  have e1 := rO_at ex (nI_clamp (n := a) (by omega))
  have h3 := opV_0 a (by omega)
  show m' = if rO fa s i = 0 then nPl (rO fa s) (rA fa fw s) i ||| rA fa fw s i else nPl (rO fa s) (rA fa fw s) i
  rw [e1, if_neg (show ¬ opV a = 0 from fun z => by rw [z] at h3; have := h3.mp rfl; omega), ← e, ← h]
  exact Int32.or_zero
end NPR
/-- what is told, as it is asked for -/
def rSy (ft fm fa fw fn : Nat → Int32) : Nat → Option (Int32 × Int32 × Int32 × Int32) := fun k => if 0 < (ft k).toInt then some (ft k, nI (cN fn k), nI (dPl (cN fm k) (rO fa k)), nPl (rO fa k) (rA fa fw k) (cN fm k)) else none
section RSY
variable {ft fm fa fw fn : Nat → Int32} {k : Int32} {v1 : Int32} {j : Nat}
theorem rsy_at (h : 0 < (ft j).toInt) : rSy ft fm fa fw fn j = some (ft j, nI (cN fn j), nI (dPl (cN fm j) (rO fa j)), nPl (rO fa j) (rA fa fw j) (cN fm j)) := if_pos h
theorem rsy_no (h : k.toInt < 0 ∨ 7 < k.toInt ∨ (ft k.toNatClampNeg).toInt ≤ 0) : (-1 : Int32) = ansSy (rSy ft fm fa fw fn) k v1 := by
  by_cases h0 : k.toInt < 0 ∨ 7 < k.toInt
  · exact sy_bad h0
  · obtain ⟨j, e1, e2⟩ := nI_ex (x := k) (n := 7) (by omega) (by omega)
    have z : (ft k.toNatClampNeg).toInt ≤ 0 := by omega
    rw [e1, nI_clamp (by omega)] at z
    rw [e1]
    exact sy_none (by omega) (if_neg (by omega))
end RSY
theorem dX12_depthOf_0 : decode cX12_depthOf 0 = .ok (.iconst 0, 1) := dl_3 (by decide +kernel)
theorem dX12_depthOf_1 : decode cX12_depthOf 1 = .ok (.istore_n 2, 1) := dl_61 (by decide +kernel)
theorem dX12_depthOf_2 : decode cX12_depthOf 2 = .ok (.aload_n 0, 1) := dl_42 (by decide +kernel)
theorem dX12_depthOf_3 : decode cX12_depthOf 3 = .ok (.getfield 37, 3) := dl_180 (by decide +kernel)
theorem dX12_depthOf_6 : decode cX12_depthOf 6 = .ok (.iload_n 1, 1) := dl_27 (by decide +kernel)
theorem dX12_depthOf_7 : decode cX12_depthOf 7 = .ok (.iaload, 1) := dl_46 (by decide +kernel)
theorem dX12_depthOf_8 : decode cX12_depthOf 8 = .ok (.iconst 1, 1) := dl_4 (by decide +kernel)
theorem dX12_depthOf_9 : decode cX12_depthOf 9 = .ok (.isub, 1) := dl_100 (by decide +kernel)
theorem dX12_depthOf_10 : decode cX12_depthOf 10 = .ok (.istore_n 3, 1) := dl_62 (by decide +kernel)
theorem dX12_depthOf_11 : decode cX12_depthOf 11 = .ok (.iload_n 3, 1) := dl_29 (by decide +kernel)
theorem dX12_depthOf_12 : decode cX12_depthOf 12 = .ok (.ifCond .lt 96, 3) := dl_155 (by decide +kernel)
theorem dX12_depthOf_108 : decode cX12_depthOf 108 = .ok (.aload_n 0, 1) := dl_42 (by decide +kernel)
theorem dX12_depthOf_109 : decode cX12_depthOf 109 = .ok (.getfield 49, 3) := dl_180 (by decide +kernel)
theorem dX12_depthOf_112 : decode cX12_depthOf 112 = .ok (.iconst 0, 1) := dl_3 (by decide +kernel)
theorem dX12_depthOf_113 : decode cX12_depthOf 113 = .ok (.iaload, 1) := dl_46 (by decide +kernel)
theorem dX12_depthOf_114 : decode cX12_depthOf 114 = .ok (.ireturn, 1) := dl_172 (by decide +kernel)
theorem dX12_depthOf_15 : decode cX12_depthOf 15 = .ok (.aload_n 0, 1) := dl_42 (by decide +kernel)
theorem dX12_depthOf_16 : decode cX12_depthOf 16 = .ok (.getfield 31, 3) := dl_180 (by decide +kernel)
theorem dX12_depthOf_19 : decode cX12_depthOf 19 = .ok (.bipush 32, 2) := dl_16 (by decide +kernel)
theorem dX12_depthOf_21 : decode cX12_depthOf 21 = .ok (.iload_n 1, 1) := dl_27 (by decide +kernel)
theorem dX12_depthOf_22 : decode cX12_depthOf 22 = .ok (.imul, 1) := dl_104 (by decide +kernel)
theorem dX12_depthOf_23 : decode cX12_depthOf 23 = .ok (.iload_n 3, 1) := dl_29 (by decide +kernel)
theorem dX12_depthOf_24 : decode cX12_depthOf 24 = .ok (.iadd, 1) := dl_96 (by decide +kernel)
theorem dX12_depthOf_25 : decode cX12_depthOf 25 = .ok (.iaload, 1) := dl_46 (by decide +kernel)
theorem dX12_depthOf_26 : decode cX12_depthOf 26 = .ok (.istore 4, 2) := dl_54 (by decide +kernel)
theorem dX12_depthOf_28 : decode cX12_depthOf 28 = .ok (.iconst 0, 1) := dl_3 (by decide +kernel)
theorem dX12_depthOf_29 : decode cX12_depthOf 29 = .ok (.istore 5, 2) := dl_54 (by decide +kernel)
theorem dX12_depthOf_31 : decode cX12_depthOf 31 = .ok (.iconst 0, 1) := dl_3 (by decide +kernel)
theorem dX12_depthOf_32 : decode cX12_depthOf 32 = .ok (.istore 6, 2) := dl_54 (by decide +kernel)
theorem dX12_depthOf_34 : decode cX12_depthOf 34 = .ok (.iload 6, 2) := dl_21 (by decide +kernel)
theorem dX12_depthOf_36 : decode cX12_depthOf 36 = .ok (.iload 4, 2) := dl_21 (by decide +kernel)
theorem dX12_depthOf_38 : decode cX12_depthOf 38 = .ok (.invokestatic 215, 3) := dl_184 (by decide +kernel)
theorem dX12_depthOf_41 : decode cX12_depthOf 41 = .ok (.if_icmp .ge 36, 3) := dl_162 (by decide +kernel)
theorem dX12_depthOf_77 : decode cX12_depthOf 77 = .ok (.aload_n 0, 1) := dl_42 (by decide +kernel)
theorem dX12_depthOf_78 : decode cX12_depthOf 78 = .ok (.getfield 49, 3) := dl_180 (by decide +kernel)
theorem dX12_depthOf_81 : decode cX12_depthOf 81 = .ok (.iload_n 2, 1) := dl_28 (by decide +kernel)
theorem dX12_depthOf_82 : decode cX12_depthOf 82 = .ok (.iload 4, 2) := dl_21 (by decide +kernel)
theorem dX12_depthOf_84 : decode cX12_depthOf 84 = .ok (.bipush 8, 2) := dl_16 (by decide +kernel)
theorem dX12_depthOf_86 : decode cX12_depthOf 86 = .ok (.if_icmp .lt 10, 3) := dl_161 (by decide +kernel)
theorem dX12_depthOf_96 : decode cX12_depthOf 96 = .ok (.iload 5, 2) := dl_21 (by decide +kernel)
theorem dX12_depthOf_98 : decode cX12_depthOf 98 = .ok (.iastore, 1) := dl_79 (by decide +kernel)
theorem dX12_depthOf_99 : decode cX12_depthOf 99 = .ok (.iinc 2 1, 3) := dl_132 (by decide +kernel)
theorem dX12_depthOf_102 : decode cX12_depthOf 102 = .ok (.iinc 3 (-1), 3) := dl_132 (by decide +kernel)
theorem dX12_depthOf_105 : decode cX12_depthOf 105 = .ok (.goto (-94), 3) := dl_167 (by decide +kernel)
theorem dX12_depthOf_44 : decode cX12_depthOf 44 = .ok (.iinc 2 (-1), 3) := dl_132 (by decide +kernel)
theorem dX12_depthOf_47 : decode cX12_depthOf 47 = .ok (.aload_n 0, 1) := dl_42 (by decide +kernel)
theorem dX12_depthOf_48 : decode cX12_depthOf 48 = .ok (.getfield 49, 3) := dl_180 (by decide +kernel)
theorem dX12_depthOf_51 : decode cX12_depthOf 51 = .ok (.iload_n 2, 1) := dl_28 (by decide +kernel)
theorem dX12_depthOf_52 : decode cX12_depthOf 52 = .ok (.iaload, 1) := dl_46 (by decide +kernel)
theorem dX12_depthOf_53 : decode cX12_depthOf 53 = .ok (.iload 5, 2) := dl_21 (by decide +kernel)
theorem dX12_depthOf_55 : decode cX12_depthOf 55 = .ok (.if_icmp .le 12, 3) := dl_164 (by decide +kernel)
theorem dX12_depthOf_67 : decode cX12_depthOf 67 = .ok (.iload 5, 2) := dl_21 (by decide +kernel)
theorem dX12_depthOf_69 : decode cX12_depthOf 69 = .ok (.istore 5, 2) := dl_54 (by decide +kernel)
theorem dX12_depthOf_71 : decode cX12_depthOf 71 = .ok (.iinc 6 1, 3) := dl_132 (by decide +kernel)
theorem dX12_depthOf_74 : decode cX12_depthOf 74 = .ok (.goto (-40), 3) := dl_167 (by decide +kernel)
theorem dX12_depthOf_58 : decode cX12_depthOf 58 = .ok (.aload_n 0, 1) := dl_42 (by decide +kernel)
theorem dX12_depthOf_59 : decode cX12_depthOf 59 = .ok (.getfield 49, 3) := dl_180 (by decide +kernel)
theorem dX12_depthOf_62 : decode cX12_depthOf 62 = .ok (.iload_n 2, 1) := dl_28 (by decide +kernel)
theorem dX12_depthOf_63 : decode cX12_depthOf 63 = .ok (.iaload, 1) := dl_46 (by decide +kernel)
theorem dX12_depthOf_64 : decode cX12_depthOf 64 = .ok (.goto 5, 3) := dl_167 (by decide +kernel)
theorem dX12_depthOf_89 : decode cX12_depthOf 89 = .ok (.iload 5, 2) := dl_21 (by decide +kernel)
theorem dX12_depthOf_91 : decode cX12_depthOf 91 = .ok (.iconst 1, 1) := dl_4 (by decide +kernel)
theorem dX12_depthOf_92 : decode cX12_depthOf 92 = .ok (.iadd, 1) := dl_96 (by decide +kernel)
theorem dX12_depthOf_93 : decode cX12_depthOf 93 = .ok (.goto 5, 3) := dl_167 (by decide +kernel)
set_option maxRecDepth 100000 in
set_option maxHeartbeats 4000000 in
theorem r_depthOf (l : Launch) (E : EV) (ro : va_W) (hm : Nat) (sl : Nat) (m_manys : Nat) (m_reals : Nat) (m_factsOf : Nat) (m_possible : Nat) (q_undos : Nat) (q_models : Nat) (m_tape : Nat) (q_taped : Nat) (q_fault : Int32) (q_wrong : Int32) (q_wrongAt : Int32) (q_spot : Int32) (q_place : Int32) (q_token : Int32) (q_value : Int32) (m_ends : Nat) (m_letters : Nat) (m_actOf : Nat) (m_whom : Nat) (m_actMany : Nat) (m_tokens : Nat) (m_afters : Nat) (m_afterOf : Nat) (q_counted : Int32) (m_pile : Nat) (m_caseMany : Nat) (m_happen : Nat) (m_hasIf : Nat) (m_becomes : Nat) (m_goneOf : Nat) (m_heard : Nat) (m_pairs : Nat) (m_heaps : Nat) (q_rounds : Int32) (q_heapMany : Int32) (m_led : Nat) (m_newAt : Nat) (m_knowing : Nat) (m_firsts : Nat) (q_people : Nat) (m_secrets : Nat) (m_tried : Nat) (m_lanes : Nat) (m_lengths : Nat) (m_cells : Nat) (f_actMany : Nat → Int32) (f_actOf : Nat → Int32) (f_pile : Nat → Int32) (hb_actMany : NB 25 32 f_actMany) (hsv : SV f_actOf f_actMany) (hsl : sl < 24) (hW1 : 1 ≤ cN f_actMany sl) : CT l yX12_depthOf (Cond.code yX12_depthOf cX12_depthOf 7 (some .int) :: TB) ({ frames := 1, cells := 0, slots := 0, locals := 20 }) E ro [.ref hm, .int (nI sl)] [(hm, .inr (12, [.ref m_manys, .ref m_reals, .ref m_factsOf, .ref m_possible, .int (nI q_undos), .int (nI q_models), .ref m_tape, .int (nI q_taped), .int q_fault, .int q_wrong, .int q_wrongAt, .int q_spot, .int q_place, .int q_token, .int q_value, .ref m_ends, .ref m_letters, .ref m_actOf, .ref m_whom, .ref m_actMany, .ref m_tokens, .ref m_afters, .ref m_afterOf, .int q_counted, .ref m_pile, .ref m_caseMany, .ref m_happen, .ref m_hasIf, .ref m_becomes, .ref m_goneOf, .ref m_heard, .ref m_pairs, .ref m_heaps, .int q_rounds, .int q_heapMany, .ref m_led, .ref m_newAt, .ref m_knowing, .ref m_firsts, .int (nI q_people), .ref m_secrets, .ref m_tried, .ref m_lanes, .ref m_lengths, .ref m_cells])), (m_actMany, .inl (E.2.1 1, 25, .inl f_actMany)), (m_actOf, .inl (E.2.1 1, 800, .inl f_actOf)), (m_pile, .inl (E.2.1 1, 34, .inl f_pile))] (Qi E (fun (rz : Int32) uz => (∃ (f_pilez : Nat → Int32), uz = [(hm, .inr (12, [.ref m_manys, .ref m_reals, .ref m_factsOf, .ref m_possible, .int (nI q_undos), .int (nI q_models), .ref m_tape, .int (nI q_taped), .int q_fault, .int q_wrong, .int q_wrongAt, .int q_spot, .int q_place, .int q_token, .int q_value, .ref m_ends, .ref m_letters, .ref m_actOf, .ref m_whom, .ref m_actMany, .ref m_tokens, .ref m_afters, .ref m_afterOf, .int q_counted, .ref m_pile, .ref m_caseMany, .ref m_happen, .ref m_hasIf, .ref m_becomes, .ref m_goneOf, .ref m_heard, .ref m_pairs, .ref m_heaps, .int q_rounds, .int q_heapMany, .ref m_led, .ref m_newAt, .ref m_knowing, .ref m_firsts, .int (nI q_people), .ref m_secrets, .ref m_tried, .ref m_lanes, .ref m_lengths, .ref m_cells])), (m_actMany, .inl (E.2.1 1, 25, .inl f_actMany)), (m_actOf, .inl (E.2.1 1, 800, .inl f_actOf)), (m_pile, .inl (E.2.1 1, 34, .inl f_pilez))] ∧ (rz = nI (dPl (cN f_actMany sl) (rO f_actOf sl)))))) 0 0 := by
  refine ct_of rfl rfl ?_
  intro X C hT hin hro
  show WW X 7 E 0 [(0, .ref hm), (1, .int (nI sl))] [] [(hm, .inr (12, [.ref m_manys, .ref m_reals, .ref m_factsOf, .ref m_possible, .int (nI q_undos), .int (nI q_models), .ref m_tape, .int (nI q_taped), .int q_fault, .int q_wrong, .int q_wrongAt, .int q_spot, .int q_place, .int q_token, .int q_value, .ref m_ends, .ref m_letters, .ref m_actOf, .ref m_whom, .ref m_actMany, .ref m_tokens, .ref m_afters, .ref m_afterOf, .int q_counted, .ref m_pile, .ref m_caseMany, .ref m_happen, .ref m_hasIf, .ref m_becomes, .ref m_goneOf, .ref m_heard, .ref m_pairs, .ref m_heaps, .int q_rounds, .int q_heapMany, .ref m_led, .ref m_newAt, .ref m_knowing, .ref m_firsts, .int (nI q_people), .ref m_secrets, .ref m_tried, .ref m_lanes, .ref m_lengths, .ref m_cells])), (m_actMany, .inl (E.2.1 1, 25, .inl f_actMany)), (m_actOf, .inl (E.2.1 1, 800, .inl f_actOf)), (m_pile, .inl (E.2.1 1, 34, .inl f_pile))] 0 0
  have hwr := hsv sl (by omega)
  have hwn := hwr.1
  have hopn : ∀ i, i ≤ cN f_actMany sl → opn (rO f_actOf sl) i = opr (slot f_actOf sl) i := fun i hi => opn_opr i (fun v hv => hwr.2.1.1 v (by omega))
  refine ww_iconst (v := 0) C dX12_depthOf_0 rfl ?_
  refine ww_istore_n (lv' := [(2, .int 0), (0, .ref hm), (1, .int (nI sl))]) C dX12_depthOf_1 rfl rfl rfl ?_
  refine ww_aload_n C dX12_depthOf_2 1 rfl rfl ?_
  refine ww_get C fg_X12_37 0 rfl rfl dX12_depthOf_3 ?_
  refine ww_iload_n C dX12_depthOf_6 2 rfl rfl ?_
  have hbx_1 := (hb_actMany sl (by omega)).2
  refine ww_iald (v := (nI (cN f_actMany sl))) C 1 rfl (vp_in_nI (by omega) (by omega)) (ldn (by omega) (hb_actMany sl (by omega)).1) dX12_depthOf_7 ?_
  refine ww_iconst (v := 1) C dX12_depthOf_8 rfl ?_
  obtain ⟨x_2, ex_2⟩ : ∃ z : Int32, (nI (cN f_actMany sl)) - (1 : Int32) = z := ⟨_, rfl⟩
  have zx_2 : x_2.toInt = ((cN f_actMany sl : Nat) : Int) - 1 := by rw [← ex_2]; exact i_sub (nI_toInt (n := cN f_actMany sl) (by omega)) rfl (by omega) (by omega)
  refine ww_isub (v := x_2) C dX12_depthOf_9 ex_2 ?_
  refine ww_istore_n (lv' := [(3, .int x_2), (2, .int 0), (0, .ref hm), (1, .int (nI sl))]) C dX12_depthOf_10 rfl rfl rfl ?_
  have loop_11 : ∀ (fu : Nat) (xi : Int32) (ii : Nat) (tt : Nat) (g1 : Nat → Int32), (xi.toInt = (ii : Int) - 1) → (ii ≤ cN f_actMany sl) → ((tt : Int) = opr (slot f_actOf sl) ii ∨ ii = 0) → (DSI (cN f_actMany sl) (rO f_actOf sl) ii g1) → ii < fu → WW X 7 E 11 [(3, .int xi), (2, .int (nI tt)), (0, .ref hm), (1, .int (nI sl))] [] [(hm, .inr (12, [.ref m_manys, .ref m_reals, .ref m_factsOf, .ref m_possible, .int (nI q_undos), .int (nI q_models), .ref m_tape, .int (nI q_taped), .int q_fault, .int q_wrong, .int q_wrongAt, .int q_spot, .int q_place, .int q_token, .int q_value, .ref m_ends, .ref m_letters, .ref m_actOf, .ref m_whom, .ref m_actMany, .ref m_tokens, .ref m_afters, .ref m_afterOf, .int q_counted, .ref m_pile, .ref m_caseMany, .ref m_happen, .ref m_hasIf, .ref m_becomes, .ref m_goneOf, .ref m_heard, .ref m_pairs, .ref m_heaps, .int q_rounds, .int q_heapMany, .ref m_led, .ref m_newAt, .ref m_knowing, .ref m_firsts, .int (nI q_people), .ref m_secrets, .ref m_tried, .ref m_lanes, .ref m_lengths, .ref m_cells])), (m_actMany, .inl (E.2.1 1, 25, .inl f_actMany)), (m_actOf, .inl (E.2.1 1, 800, .inl f_actOf)), (m_pile, .inl (E.2.1 1, 34, .inl g1))] 0 0 := by
    intro fu
    induction fu with
    | zero => intro xi ii tt g1 hxi hii htt hst hmeas; exact absurd hmeas (Nat.not_lt_zero _)
    | succ fu ih_11 =>
      intro xi ii tt g1 hxi hii htt hst hmeas
      refine ww_iload_n C dX12_depthOf_11 0 rfl rfl ?_
      refine ww_if_lt (tgt := 108) C dX12_depthOf_12 (by decide) (fun c_3 => ?_) (fun c_3 => ?_)
      · have zc_3 : ((ii : Int) - 1) < 0 := i_lt hxi rfl c_3
        refine ww_aload_n C dX12_depthOf_108 2 rfl rfl ?_
        refine ww_get C fg_X12_49 0 rfl rfl dX12_depthOf_109 ?_
        refine ww_iconst (v := 0) C dX12_depthOf_112 rfl ?_
        obtain ⟨x_4, ex_4⟩ : ∃ z : Int32, g1 0 = z := ⟨_, rfl⟩
        refine ww_iald (v := x_4) C 3 rfl (vin rfl) ex_4 dX12_depthOf_113 ?_
        exact ww_iret (u := [(hm, .inr (12, [.ref m_manys, .ref m_reals, .ref m_factsOf, .ref m_possible, .int (nI q_undos), .int (nI q_models), .ref m_tape, .int (nI q_taped), .int q_fault, .int q_wrong, .int q_wrongAt, .int q_spot, .int q_place, .int q_token, .int q_value, .ref m_ends, .ref m_letters, .ref m_actOf, .ref m_whom, .ref m_actMany, .ref m_tokens, .ref m_afters, .ref m_afterOf, .int q_counted, .ref m_pile, .ref m_caseMany, .ref m_happen, .ref m_hasIf, .ref m_becomes, .ref m_goneOf, .ref m_heard, .ref m_pairs, .ref m_heaps, .int q_rounds, .int q_heapMany, .ref m_led, .ref m_newAt, .ref m_knowing, .ref m_firsts, .int (nI q_people), .ref m_secrets, .ref m_tried, .ref m_lanes, .ref m_lengths, .ref m_cells])), (m_actMany, .inl (E.2.1 1, 25, .inl f_actMany)), (m_actOf, .inl (E.2.1 1, 800, .inl f_actOf)), (m_pile, .inl (E.2.1 1, 34, .inl g1))]) C hT [0, 1, 2, 3] rfl rfl rfl rfl dX12_depthOf_114 (⟨g1, rfl, (DSI.res hst (by omega) ex_4)⟩)
      · have zc_3 : ((ii : Int) - 1) ≥ 0 := i_nlt hxi rfl c_3
        obtain ⟨j_5, hj_5, rfl⟩ := i_nat (x := xi) (N := 31) (by omega) (by omega)
        have hzj_5 := nI_toInt (n := j_5) (by omega)
        refine ww_aload_n C dX12_depthOf_15 2 rfl rfl ?_
        refine ww_get C fg_X12_31 0 rfl rfl dX12_depthOf_16 ?_
        refine ww_bipush (v := 32) C dX12_depthOf_19 rfl ?_
        refine ww_iload_n C dX12_depthOf_21 3 rfl rfl ?_
        refine ww_imul (v := (nI (32 * sl))) C dX12_depthOf_22 (pk_mul 32 sl) ?_
        refine ww_iload_n C dX12_depthOf_23 0 rfl rfl ?_
        refine ww_iadd (v := (nI ((32 * sl) + j_5))) C dX12_depthOf_24 (nI_add (32 * sl) j_5) ?_
        obtain ⟨x_6, ex_6⟩ : ∃ z : Int32, f_actOf ((32 * sl) + j_5) = z := ⟨_, rfl⟩
        refine ww_iald (v := x_6) C 2 rfl (vp_in_nI (by omega) (by omega)) (ldn (by omega) ex_6) dX12_depthOf_25 ?_
        refine ww_istore (lv' := [(4, .int x_6), (3, .int (nI j_5)), (2, .int (nI tt)), (0, .ref hm), (1, .int (nI sl))]) C dX12_depthOf_26 rfl rfl ?_
        have hxj_5 : slot f_actOf sl j_5 = x_6 := by assumption
        have hxrj_5 := hwr.2.1.1 j_5 (by omega)
        have hoj_5 := opr_s (slot f_actOf sl) j_5
        rw [hxj_5] at hoj_5 hxrj_5
        have h1j_5 := hwr.2.1.2 j_5 (by omega)
        have h2j_5 := opr_le hwr (i := j_5 + 1) (by omega) (by omega)
        have h3j_5 := opr_le hwr (i := j_5) (by omega) (by omega)
        have h4j_5 : ii = j_5 + 1 := by omega
        rw [h4j_5] at htt
        have hwij_5 := wR_in x_6
        have hw4j_5 : x_6.toInt ≤ 4 → wR x_6 = 0 := fun h => wR_a0 h
        have hw6j_5 : x_6.toInt = 6 ∨ x_6.toInt = 7 → wR x_6 = 2 := fun h => wR_a2 h
        have hw1j_5 : 4 < x_6.toInt ∧ x_6.toInt ≠ 6 ∧ x_6.toInt ≠ 7 → wR x_6 = 1 := fun h => wR_a1 h
        rw [h4j_5] at hst
        have hp0j_5 := hopn j_5 (by omega)
        have hp1j_5 := hopn (j_5 + 1) (by omega)
        refine ww_iconst (v := 0) C dX12_depthOf_28 rfl ?_
        refine ww_istore (lv' := [(5, .int 0), (4, .int x_6), (3, .int (nI j_5)), (2, .int (nI tt)), (0, .ref hm), (1, .int (nI sl))]) C dX12_depthOf_29 rfl rfl ?_
        refine ww_iconst (v := 0) C dX12_depthOf_31 rfl ?_
        refine ww_istore (lv' := [(6, .int 0), (5, .int 0), (4, .int x_6), (3, .int (nI j_5)), (2, .int (nI tt)), (0, .ref hm), (1, .int (nI sl))]) C dX12_depthOf_32 rfl rfl ?_
        refine ww_iload C dX12_depthOf_34 0 rfl ?_
        refine ww_iload C dX12_depthOf_36 2 rfl ?_
        refine ww_ci (wr := [(hm, .inr (12, [.ref m_manys, .ref m_reals, .ref m_factsOf, .ref m_possible, .int (nI q_undos), .int (nI q_models), .ref m_tape, .int (nI q_taped), .int q_fault, .int q_wrong, .int q_wrongAt, .int q_spot, .int q_place, .int q_token, .int q_value, .ref m_ends, .ref m_letters, .ref m_actOf, .ref m_whom, .ref m_actMany, .ref m_tokens, .ref m_afters, .ref m_afterOf, .int q_counted, .ref m_pile, .ref m_caseMany, .ref m_happen, .ref m_hasIf, .ref m_becomes, .ref m_goneOf, .ref m_heard, .ref m_pairs, .ref m_heaps, .int q_rounds, .int q_heapMany, .ref m_led, .ref m_newAt, .ref m_knowing, .ref m_firsts, .int (nI q_people), .ref m_secrets, .ref m_tried, .ref m_lanes, .ref m_lengths, .ref m_cells])), (m_actMany, .inl (E.2.1 1, 25, .inl f_actMany)), (m_actOf, .inl (E.2.1 1, 800, .inl f_actOf)), (m_pile, .inl (E.2.1 1, 34, .inl g1))]) (k' := 0) (n' := 0) C (run_S (As := [.int x_6]) (rest := [.int 0]) C (r_wantsOf X.2.1 E ro x_6 x_6.toInt rfl) ms_X12_wantsOf wl_X12_215 rfl rfl rfl rfl dX12_depthOf_38) (roK hro) [] [0, 1, 2, 3] rfl rfl rfl rfl (fun r_7 uz hw => ?_)
        rcases hw with hw | hw | hw
        · refine an2 hw ?_
          clear hw
          intro he_9 he_10 hw
          have h_8 := hw
          clear hw
          have he_9 := he_9.symm
          subst he_9
          subst he_10
          refine ww_eq (ws' := [(hm, .inr (12, [.ref m_manys, .ref m_reals, .ref m_factsOf, .ref m_possible, .int (nI q_undos), .int (nI q_models), .ref m_tape, .int (nI q_taped), .int q_fault, .int q_wrong, .int q_wrongAt, .int q_spot, .int q_place, .int q_token, .int q_value, .ref m_ends, .ref m_letters, .ref m_actOf, .ref m_whom, .ref m_actMany, .ref m_tokens, .ref m_afters, .ref m_afterOf, .int q_counted, .ref m_pile, .ref m_caseMany, .ref m_happen, .ref m_hasIf, .ref m_becomes, .ref m_goneOf, .ref m_heard, .ref m_pairs, .ref m_heaps, .int q_rounds, .int q_heapMany, .ref m_led, .ref m_newAt, .ref m_knowing, .ref m_firsts, .int (nI q_people), .ref m_secrets, .ref m_tried, .ref m_lanes, .ref m_lengths, .ref m_cells])), (m_actMany, .inl (E.2.1 1, 25, .inl f_actMany)), (m_actOf, .inl (E.2.1 1, 800, .inl f_actOf)), (m_pile, .inl (E.2.1 1, 34, .inl g1))]) ?_ rfl rfl rfl
          refine ww_icmp_ge_t (tgt := 77) C dX12_depthOf_41 (by decide) (by decide) ?_
          refine ww_aload_n C dX12_depthOf_77 5 rfl rfl ?_
          refine ww_get C fg_X12_49 0 rfl rfl dX12_depthOf_78 ?_
          refine ww_iload_n C dX12_depthOf_81 4 rfl rfl ?_
          refine ww_iload C dX12_depthOf_82 2 rfl ?_
          refine ww_bipush (v := 8) C dX12_depthOf_84 rfl ?_
          refine ww_icmp_lt (tgt := 96) C dX12_depthOf_86 (by decide) (fun c_17 => ?_) (fun c_17 => ?_)
          · have zc_17 : x_6.toInt < 8 := i_lt rfl rfl c_17
            refine ww_iload C dX12_depthOf_96 1 rfl ?_
            obtain ⟨f_18, ef_18⟩ : ∃ z : Nat → Int32, upd g1 tt 0 = z := ⟨_, rfl⟩
            refine ww_iast (ws' := [(hm, .inr (12, [.ref m_manys, .ref m_reals, .ref m_factsOf, .ref m_possible, .int (nI q_undos), .int (nI q_models), .ref m_tape, .int (nI q_taped), .int q_fault, .int q_wrong, .int q_wrongAt, .int q_spot, .int q_place, .int q_token, .int q_value, .ref m_ends, .ref m_letters, .ref m_actOf, .ref m_whom, .ref m_actMany, .ref m_tokens, .ref m_afters, .ref m_afterOf, .int q_counted, .ref m_pile, .ref m_caseMany, .ref m_happen, .ref m_hasIf, .ref m_becomes, .ref m_goneOf, .ref m_heard, .ref m_pairs, .ref m_heaps, .int q_rounds, .int q_heapMany, .ref m_led, .ref m_newAt, .ref m_knowing, .ref m_firsts, .int (nI q_people), .ref m_secrets, .ref m_tried, .ref m_lanes, .ref m_lengths, .ref m_cells])), (m_actMany, .inl (E.2.1 1, 25, .inl f_actMany)), (m_actOf, .inl (E.2.1 1, 800, .inl f_actOf)), (m_pile, .inl (E.2.1 1, 34, .inl f_18))]) C 3 rfl (vp_in_nI (by omega) (by omega)) (ldn2 (by omega) ef_18) rfl dX12_depthOf_98 ?_
            refine ww_iinc (j := 4) (v := (nI (tt + 1))) (lv' := [(2, .int (nI (tt + 1))), (6, .int 0), (5, .int 0), (4, .int x_6), (3, .int (nI j_5)), (0, .ref hm), (1, .int (nI sl))]) C dX12_depthOf_99 rfl (nI_add tt 1) rfl rfl ?_
            obtain ⟨x_19, ex_19⟩ : ∃ z : Int32, (nI j_5) + Int32.ofInt (-1) = z := ⟨_, rfl⟩
            have zx_19 : x_19.toInt = ((j_5 : Nat) : Int) - 1 := by rw [← ex_19]; exact i_dec (c := 1) (nI_toInt (n := j_5) (by omega)) rfl (by omega) (by omega)
            refine ww_iinc (j := 4) (v := x_19) (lv' := [(3, .int x_19), (2, .int (nI (tt + 1))), (6, .int 0), (5, .int 0), (4, .int x_6), (0, .ref hm), (1, .int (nI sl))]) C dX12_depthOf_102 rfl ex_19 rfl rfl ?_
            refine ww_goto (tgt := 11) C dX12_depthOf_105 (by decide) ?_
            exact ww_lv [0, 1, 5, 6] rfl (ww_sub [0, 1, 2, 3] rfl rfl (ih_11 x_19 j_5 (tt + 1) f_18 (by omega) (by omega) (by omega) (by first | exact DSI.stp (v := 0) hst (by omega) (by omega) hxj_5 hxrj_5 (by first | exact Or.inl ⟨by omega, rfl⟩ | exact Or.inr ⟨by omega, rfl⟩ | exact Or.inr ⟨by omega, eq_⟩) (Or.inl ⟨by omega, rfl⟩) ef_18 | exact False.elim (by omega)) (by omega)))
          · have zc_17 : x_6.toInt ≥ 8 := i_nlt rfl rfl c_17
            omega
        · refine an2 hw ?_
          clear hw
          intro he_12 he_13 hw
          have h_11 := hw
          clear hw
          have he_12 := he_12.symm
          subst he_12
          subst he_13
          refine ww_eq (ws' := [(hm, .inr (12, [.ref m_manys, .ref m_reals, .ref m_factsOf, .ref m_possible, .int (nI q_undos), .int (nI q_models), .ref m_tape, .int (nI q_taped), .int q_fault, .int q_wrong, .int q_wrongAt, .int q_spot, .int q_place, .int q_token, .int q_value, .ref m_ends, .ref m_letters, .ref m_actOf, .ref m_whom, .ref m_actMany, .ref m_tokens, .ref m_afters, .ref m_afterOf, .int q_counted, .ref m_pile, .ref m_caseMany, .ref m_happen, .ref m_hasIf, .ref m_becomes, .ref m_goneOf, .ref m_heard, .ref m_pairs, .ref m_heaps, .int q_rounds, .int q_heapMany, .ref m_led, .ref m_newAt, .ref m_knowing, .ref m_firsts, .int (nI q_people), .ref m_secrets, .ref m_tried, .ref m_lanes, .ref m_lengths, .ref m_cells])), (m_actMany, .inl (E.2.1 1, 25, .inl f_actMany)), (m_actOf, .inl (E.2.1 1, 800, .inl f_actOf)), (m_pile, .inl (E.2.1 1, 34, .inl g1))]) ?_ rfl rfl rfl
          refine ww_icmp_ge_f (tgt := 77) C dX12_depthOf_41 (by decide) (by decide) ?_
          refine ww_iinc (j := 4) (v := (nI (tt - 1))) (lv' := [(2, .int (nI (tt - 1))), (6, .int 0), (5, .int 0), (4, .int x_6), (3, .int (nI j_5)), (0, .ref hm), (1, .int (nI sl))]) C dX12_depthOf_44 rfl (nI_subc (a := tt) (c := 1) (by omega) rfl) rfl rfl ?_
          refine ww_aload_n C dX12_depthOf_47 5 rfl rfl ?_
          refine ww_get C fg_X12_49 0 rfl rfl dX12_depthOf_48 ?_
          refine ww_iload_n C dX12_depthOf_51 0 rfl rfl ?_
          obtain ⟨x_20, ex_20⟩ : ∃ z : Int32, g1 (tt - 1) = z := ⟨_, rfl⟩
          refine ww_iald (v := x_20) C 3 rfl (vp_in_nI (by omega) (by omega)) (ldn (by omega) ex_20) dX12_depthOf_52 ?_
          refine ww_iload C dX12_depthOf_53 2 rfl ?_
          refine ww_icmp_le (tgt := 67) C dX12_depthOf_55 (by decide) (fun c_21 => ?_) (fun c_21 => ?_)
          · have zc_21 : x_20.toInt ≤ 0 := i_le rfl rfl c_21
            refine ww_iload C dX12_depthOf_67 2 rfl ?_
            refine ww_istore (lv' := [(5, .int 0), (2, .int (nI (tt - 1))), (6, .int 0), (4, .int x_6), (3, .int (nI j_5)), (0, .ref hm), (1, .int (nI sl))]) C dX12_depthOf_69 rfl rfl ?_
            refine ww_iinc (j := 2) (v := 1) (lv' := [(6, .int 1), (5, .int 0), (2, .int (nI (tt - 1))), (4, .int x_6), (3, .int (nI j_5)), (0, .ref hm), (1, .int (nI sl))]) C dX12_depthOf_71 rfl rfl rfl rfl ?_
            refine ww_goto (tgt := 34) C dX12_depthOf_74 (by decide) ?_
            refine ww_iload C dX12_depthOf_34 0 rfl ?_
            refine ww_iload C dX12_depthOf_36 3 rfl ?_
            refine ww_ci (wr := [(hm, .inr (12, [.ref m_manys, .ref m_reals, .ref m_factsOf, .ref m_possible, .int (nI q_undos), .int (nI q_models), .ref m_tape, .int (nI q_taped), .int q_fault, .int q_wrong, .int q_wrongAt, .int q_spot, .int q_place, .int q_token, .int q_value, .ref m_ends, .ref m_letters, .ref m_actOf, .ref m_whom, .ref m_actMany, .ref m_tokens, .ref m_afters, .ref m_afterOf, .int q_counted, .ref m_pile, .ref m_caseMany, .ref m_happen, .ref m_hasIf, .ref m_becomes, .ref m_goneOf, .ref m_heard, .ref m_pairs, .ref m_heaps, .int q_rounds, .int q_heapMany, .ref m_led, .ref m_newAt, .ref m_knowing, .ref m_firsts, .int (nI q_people), .ref m_secrets, .ref m_tried, .ref m_lanes, .ref m_lengths, .ref m_cells])), (m_actMany, .inl (E.2.1 1, 25, .inl f_actMany)), (m_actOf, .inl (E.2.1 1, 800, .inl f_actOf)), (m_pile, .inl (E.2.1 1, 34, .inl g1))]) (k' := 0) (n' := 0) C (run_S (As := [.int x_6]) (rest := [.int 1]) C (r_wantsOf X.2.1 E ro x_6 x_6.toInt rfl) ms_X12_wantsOf wl_X12_215 rfl rfl rfl rfl dX12_depthOf_38) (roK hro) [] [0, 1, 2, 3] rfl rfl rfl rfl (fun r_22 uz hw => ?_)
            rcases hw with hw | hw | hw
            · refine an2 hw ?_
              clear hw
              intro he_24 he_25 hw
              have h_23 := hw
              clear hw
              have he_24 := he_24.symm
              subst he_24
              subst he_25
              omega
            · refine an2 hw ?_
              clear hw
              intro he_27 he_28 hw
              have h_26 := hw
              clear hw
              have he_27 := he_27.symm
              subst he_27
              subst he_28
              refine ww_eq (ws' := [(hm, .inr (12, [.ref m_manys, .ref m_reals, .ref m_factsOf, .ref m_possible, .int (nI q_undos), .int (nI q_models), .ref m_tape, .int (nI q_taped), .int q_fault, .int q_wrong, .int q_wrongAt, .int q_spot, .int q_place, .int q_token, .int q_value, .ref m_ends, .ref m_letters, .ref m_actOf, .ref m_whom, .ref m_actMany, .ref m_tokens, .ref m_afters, .ref m_afterOf, .int q_counted, .ref m_pile, .ref m_caseMany, .ref m_happen, .ref m_hasIf, .ref m_becomes, .ref m_goneOf, .ref m_heard, .ref m_pairs, .ref m_heaps, .int q_rounds, .int q_heapMany, .ref m_led, .ref m_newAt, .ref m_knowing, .ref m_firsts, .int (nI q_people), .ref m_secrets, .ref m_tried, .ref m_lanes, .ref m_lengths, .ref m_cells])), (m_actMany, .inl (E.2.1 1, 25, .inl f_actMany)), (m_actOf, .inl (E.2.1 1, 800, .inl f_actOf)), (m_pile, .inl (E.2.1 1, 34, .inl g1))]) ?_ rfl rfl rfl
              refine ww_icmp_ge_f (tgt := 77) C dX12_depthOf_41 (by decide) (by decide) ?_
              refine ww_iinc (j := 2) (v := (nI ((tt - 1) - 1))) (lv' := [(2, .int (nI ((tt - 1) - 1))), (6, .int 1), (5, .int 0), (4, .int x_6), (3, .int (nI j_5)), (0, .ref hm), (1, .int (nI sl))]) C dX12_depthOf_44 rfl (nI_subc (a := (tt - 1)) (c := 1) (by omega) rfl) rfl rfl ?_
              refine ww_aload_n C dX12_depthOf_47 5 rfl rfl ?_
              refine ww_get C fg_X12_49 0 rfl rfl dX12_depthOf_48 ?_
              refine ww_iload_n C dX12_depthOf_51 0 rfl rfl ?_
              obtain ⟨x_32, ex_32⟩ : ∃ z : Int32, g1 ((tt - 1) - 1) = z := ⟨_, rfl⟩
              refine ww_iald (v := x_32) C 3 rfl (vp_in_nI (by omega) (by omega)) (ldn (by omega) ex_32) dX12_depthOf_52 ?_
              refine ww_iload C dX12_depthOf_53 2 rfl ?_
              refine ww_icmp_le (tgt := 67) C dX12_depthOf_55 (by decide) (fun c_33 => ?_) (fun c_33 => ?_)
              · have zc_33 : x_32.toInt ≤ 0 := i_le rfl rfl c_33
                refine ww_iload C dX12_depthOf_67 2 rfl ?_
                refine ww_istore (lv' := [(5, .int 0), (2, .int (nI ((tt - 1) - 1))), (6, .int 1), (4, .int x_6), (3, .int (nI j_5)), (0, .ref hm), (1, .int (nI sl))]) C dX12_depthOf_69 rfl rfl ?_
                refine ww_iinc (j := 2) (v := 2) (lv' := [(6, .int 2), (5, .int 0), (2, .int (nI ((tt - 1) - 1))), (4, .int x_6), (3, .int (nI j_5)), (0, .ref hm), (1, .int (nI sl))]) C dX12_depthOf_71 rfl rfl rfl rfl ?_
                refine ww_goto (tgt := 34) C dX12_depthOf_74 (by decide) ?_
                refine ww_iload C dX12_depthOf_34 0 rfl ?_
                refine ww_iload C dX12_depthOf_36 3 rfl ?_
                refine ww_ci (wr := [(hm, .inr (12, [.ref m_manys, .ref m_reals, .ref m_factsOf, .ref m_possible, .int (nI q_undos), .int (nI q_models), .ref m_tape, .int (nI q_taped), .int q_fault, .int q_wrong, .int q_wrongAt, .int q_spot, .int q_place, .int q_token, .int q_value, .ref m_ends, .ref m_letters, .ref m_actOf, .ref m_whom, .ref m_actMany, .ref m_tokens, .ref m_afters, .ref m_afterOf, .int q_counted, .ref m_pile, .ref m_caseMany, .ref m_happen, .ref m_hasIf, .ref m_becomes, .ref m_goneOf, .ref m_heard, .ref m_pairs, .ref m_heaps, .int q_rounds, .int q_heapMany, .ref m_led, .ref m_newAt, .ref m_knowing, .ref m_firsts, .int (nI q_people), .ref m_secrets, .ref m_tried, .ref m_lanes, .ref m_lengths, .ref m_cells])), (m_actMany, .inl (E.2.1 1, 25, .inl f_actMany)), (m_actOf, .inl (E.2.1 1, 800, .inl f_actOf)), (m_pile, .inl (E.2.1 1, 34, .inl g1))]) (k' := 0) (n' := 0) C (run_S (As := [.int x_6]) (rest := [.int 2]) C (r_wantsOf X.2.1 E ro x_6 x_6.toInt rfl) ms_X12_wantsOf wl_X12_215 rfl rfl rfl rfl dX12_depthOf_38) (roK hro) [] [0, 1, 2, 3] rfl rfl rfl rfl (fun r_34 uz hw => ?_)
                rcases hw with hw | hw | hw
                · refine an2 hw ?_
                  clear hw
                  intro he_36 he_37 hw
                  have h_35 := hw
                  clear hw
                  have he_36 := he_36.symm
                  subst he_36
                  subst he_37
                  omega
                · refine an2 hw ?_
                  clear hw
                  intro he_39 he_40 hw
                  have h_38 := hw
                  clear hw
                  have he_39 := he_39.symm
                  subst he_39
                  subst he_40
                  refine ww_eq (ws' := [(hm, .inr (12, [.ref m_manys, .ref m_reals, .ref m_factsOf, .ref m_possible, .int (nI q_undos), .int (nI q_models), .ref m_tape, .int (nI q_taped), .int q_fault, .int q_wrong, .int q_wrongAt, .int q_spot, .int q_place, .int q_token, .int q_value, .ref m_ends, .ref m_letters, .ref m_actOf, .ref m_whom, .ref m_actMany, .ref m_tokens, .ref m_afters, .ref m_afterOf, .int q_counted, .ref m_pile, .ref m_caseMany, .ref m_happen, .ref m_hasIf, .ref m_becomes, .ref m_goneOf, .ref m_heard, .ref m_pairs, .ref m_heaps, .int q_rounds, .int q_heapMany, .ref m_led, .ref m_newAt, .ref m_knowing, .ref m_firsts, .int (nI q_people), .ref m_secrets, .ref m_tried, .ref m_lanes, .ref m_lengths, .ref m_cells])), (m_actMany, .inl (E.2.1 1, 25, .inl f_actMany)), (m_actOf, .inl (E.2.1 1, 800, .inl f_actOf)), (m_pile, .inl (E.2.1 1, 34, .inl g1))]) ?_ rfl rfl rfl
                  refine ww_icmp_ge_t (tgt := 77) C dX12_depthOf_41 (by decide) (by decide) ?_
                  refine ww_aload_n C dX12_depthOf_77 5 rfl rfl ?_
                  refine ww_get C fg_X12_49 0 rfl rfl dX12_depthOf_78 ?_
                  refine ww_iload_n C dX12_depthOf_81 2 rfl rfl ?_
                  refine ww_iload C dX12_depthOf_82 3 rfl ?_
                  refine ww_bipush (v := 8) C dX12_depthOf_84 rfl ?_
                  refine ww_icmp_lt (tgt := 96) C dX12_depthOf_86 (by decide) (fun c_44 => ?_) (fun c_44 => ?_)
                  · have zc_44 : x_6.toInt < 8 := i_lt rfl rfl c_44
                    refine ww_iload C dX12_depthOf_96 1 rfl ?_
                    obtain ⟨f_45, ef_45⟩ : ∃ z : Nat → Int32, upd g1 ((tt - 1) - 1) 0 = z := ⟨_, rfl⟩
                    refine ww_iast (ws' := [(hm, .inr (12, [.ref m_manys, .ref m_reals, .ref m_factsOf, .ref m_possible, .int (nI q_undos), .int (nI q_models), .ref m_tape, .int (nI q_taped), .int q_fault, .int q_wrong, .int q_wrongAt, .int q_spot, .int q_place, .int q_token, .int q_value, .ref m_ends, .ref m_letters, .ref m_actOf, .ref m_whom, .ref m_actMany, .ref m_tokens, .ref m_afters, .ref m_afterOf, .int q_counted, .ref m_pile, .ref m_caseMany, .ref m_happen, .ref m_hasIf, .ref m_becomes, .ref m_goneOf, .ref m_heard, .ref m_pairs, .ref m_heaps, .int q_rounds, .int q_heapMany, .ref m_led, .ref m_newAt, .ref m_knowing, .ref m_firsts, .int (nI q_people), .ref m_secrets, .ref m_tried, .ref m_lanes, .ref m_lengths, .ref m_cells])), (m_actMany, .inl (E.2.1 1, 25, .inl f_actMany)), (m_actOf, .inl (E.2.1 1, 800, .inl f_actOf)), (m_pile, .inl (E.2.1 1, 34, .inl f_45))]) C 3 rfl (vp_in_nI (by omega) (by omega)) (ldn2 (by omega) ef_45) rfl dX12_depthOf_98 ?_
                    refine ww_iinc (j := 2) (v := (nI (((tt - 1) - 1) + 1))) (lv' := [(2, .int (nI (((tt - 1) - 1) + 1))), (6, .int 2), (5, .int 0), (4, .int x_6), (3, .int (nI j_5)), (0, .ref hm), (1, .int (nI sl))]) C dX12_depthOf_99 rfl (nI_add ((tt - 1) - 1) 1) rfl rfl ?_
                    obtain ⟨x_46, ex_46⟩ : ∃ z : Int32, (nI j_5) + Int32.ofInt (-1) = z := ⟨_, rfl⟩
                    have zx_46 : x_46.toInt = ((j_5 : Nat) : Int) - 1 := by rw [← ex_46]; exact i_dec (c := 1) (nI_toInt (n := j_5) (by omega)) rfl (by omega) (by omega)
                    refine ww_iinc (j := 4) (v := x_46) (lv' := [(3, .int x_46), (2, .int (nI (((tt - 1) - 1) + 1))), (6, .int 2), (5, .int 0), (4, .int x_6), (0, .ref hm), (1, .int (nI sl))]) C dX12_depthOf_102 rfl ex_46 rfl rfl ?_
                    refine ww_goto (tgt := 11) C dX12_depthOf_105 (by decide) ?_
                    exact ww_lv [0, 1, 5, 6] rfl (ww_sub [0, 1, 2, 3] rfl rfl (ih_11 x_46 j_5 (((tt - 1) - 1) + 1) f_45 (by omega) (by omega) (by omega) (by first | exact DSI.stp (v := 0) hst (by omega) (by omega) hxj_5 hxrj_5 (by first | exact Or.inl ⟨by omega, rfl⟩ | exact Or.inr ⟨by omega, rfl⟩ | exact Or.inr ⟨by omega, eq_⟩) (Or.inr (Or.inr ⟨by omega, DSI.m1 hst hwr.1 (by omega) ex_32 (DSI.z (k := (((tt - 1) - 1) + 1)) hst hwr.1 (by omega) (show (tt - 1) = (((tt - 1) - 1) + 1) by omega) ex_20 (by omega)) (by have e0 : (0 : Int32).toInt = 0 := rfl; omega)⟩)) ef_45 | exact False.elim (by omega)) (by omega)))
                  · have zc_44 : x_6.toInt ≥ 8 := i_nlt rfl rfl c_44
                    omega
                · refine an2 hw ?_
                  clear hw
                  intro he_42 he_43 hw
                  have h_41 := hw
                  clear hw
                  have he_42 := he_42.symm
                  subst he_42
                  subst he_43
                  refine ww_eq (ws' := [(hm, .inr (12, [.ref m_manys, .ref m_reals, .ref m_factsOf, .ref m_possible, .int (nI q_undos), .int (nI q_models), .ref m_tape, .int (nI q_taped), .int q_fault, .int q_wrong, .int q_wrongAt, .int q_spot, .int q_place, .int q_token, .int q_value, .ref m_ends, .ref m_letters, .ref m_actOf, .ref m_whom, .ref m_actMany, .ref m_tokens, .ref m_afters, .ref m_afterOf, .int q_counted, .ref m_pile, .ref m_caseMany, .ref m_happen, .ref m_hasIf, .ref m_becomes, .ref m_goneOf, .ref m_heard, .ref m_pairs, .ref m_heaps, .int q_rounds, .int q_heapMany, .ref m_led, .ref m_newAt, .ref m_knowing, .ref m_firsts, .int (nI q_people), .ref m_secrets, .ref m_tried, .ref m_lanes, .ref m_lengths, .ref m_cells])), (m_actMany, .inl (E.2.1 1, 25, .inl f_actMany)), (m_actOf, .inl (E.2.1 1, 800, .inl f_actOf)), (m_pile, .inl (E.2.1 1, 34, .inl g1))]) ?_ rfl rfl rfl
                  refine ww_icmp_ge_t (tgt := 77) C dX12_depthOf_41 (by decide) (by decide) ?_
                  refine ww_aload_n C dX12_depthOf_77 5 rfl rfl ?_
                  refine ww_get C fg_X12_49 0 rfl rfl dX12_depthOf_78 ?_
                  refine ww_iload_n C dX12_depthOf_81 2 rfl rfl ?_
                  refine ww_iload C dX12_depthOf_82 3 rfl ?_
                  refine ww_bipush (v := 8) C dX12_depthOf_84 rfl ?_
                  refine ww_icmp_lt (tgt := 96) C dX12_depthOf_86 (by decide) (fun c_47 => ?_) (fun c_47 => ?_)
                  · have zc_47 : x_6.toInt < 8 := i_lt rfl rfl c_47
                    refine ww_iload C dX12_depthOf_96 1 rfl ?_
                    obtain ⟨f_48, ef_48⟩ : ∃ z : Nat → Int32, upd g1 ((tt - 1) - 1) 0 = z := ⟨_, rfl⟩
                    refine ww_iast (ws' := [(hm, .inr (12, [.ref m_manys, .ref m_reals, .ref m_factsOf, .ref m_possible, .int (nI q_undos), .int (nI q_models), .ref m_tape, .int (nI q_taped), .int q_fault, .int q_wrong, .int q_wrongAt, .int q_spot, .int q_place, .int q_token, .int q_value, .ref m_ends, .ref m_letters, .ref m_actOf, .ref m_whom, .ref m_actMany, .ref m_tokens, .ref m_afters, .ref m_afterOf, .int q_counted, .ref m_pile, .ref m_caseMany, .ref m_happen, .ref m_hasIf, .ref m_becomes, .ref m_goneOf, .ref m_heard, .ref m_pairs, .ref m_heaps, .int q_rounds, .int q_heapMany, .ref m_led, .ref m_newAt, .ref m_knowing, .ref m_firsts, .int (nI q_people), .ref m_secrets, .ref m_tried, .ref m_lanes, .ref m_lengths, .ref m_cells])), (m_actMany, .inl (E.2.1 1, 25, .inl f_actMany)), (m_actOf, .inl (E.2.1 1, 800, .inl f_actOf)), (m_pile, .inl (E.2.1 1, 34, .inl f_48))]) C 3 rfl (vp_in_nI (by omega) (by omega)) (ldn2 (by omega) ef_48) rfl dX12_depthOf_98 ?_
                    refine ww_iinc (j := 2) (v := (nI (((tt - 1) - 1) + 1))) (lv' := [(2, .int (nI (((tt - 1) - 1) + 1))), (6, .int 2), (5, .int 0), (4, .int x_6), (3, .int (nI j_5)), (0, .ref hm), (1, .int (nI sl))]) C dX12_depthOf_99 rfl (nI_add ((tt - 1) - 1) 1) rfl rfl ?_
                    obtain ⟨x_49, ex_49⟩ : ∃ z : Int32, (nI j_5) + Int32.ofInt (-1) = z := ⟨_, rfl⟩
                    have zx_49 : x_49.toInt = ((j_5 : Nat) : Int) - 1 := by rw [← ex_49]; exact i_dec (c := 1) (nI_toInt (n := j_5) (by omega)) rfl (by omega) (by omega)
                    refine ww_iinc (j := 4) (v := x_49) (lv' := [(3, .int x_49), (2, .int (nI (((tt - 1) - 1) + 1))), (6, .int 2), (5, .int 0), (4, .int x_6), (0, .ref hm), (1, .int (nI sl))]) C dX12_depthOf_102 rfl ex_49 rfl rfl ?_
                    refine ww_goto (tgt := 11) C dX12_depthOf_105 (by decide) ?_
                    exact ww_lv [0, 1, 5, 6] rfl (ww_sub [0, 1, 2, 3] rfl rfl (ih_11 x_49 j_5 (((tt - 1) - 1) + 1) f_48 (by omega) (by omega) (by omega) (by first | exact DSI.stp (v := 0) hst (by omega) (by omega) hxj_5 hxrj_5 (by first | exact Or.inl ⟨by omega, rfl⟩ | exact Or.inr ⟨by omega, rfl⟩ | exact Or.inr ⟨by omega, eq_⟩) (Or.inr (Or.inr ⟨by omega, DSI.m1 hst hwr.1 (by omega) ex_32 (DSI.z (k := (((tt - 1) - 1) + 1)) hst hwr.1 (by omega) (show (tt - 1) = (((tt - 1) - 1) + 1) by omega) ex_20 (by omega)) (by have e0 : (0 : Int32).toInt = 0 := rfl; omega)⟩)) ef_48 | exact False.elim (by omega)) (by omega)))
                  · have zc_47 : x_6.toInt ≥ 8 := i_nlt rfl rfl c_47
                    omega
              · have zc_33 : x_32.toInt > 0 := i_nle rfl rfl c_33
                refine ww_aload_n C dX12_depthOf_58 5 rfl rfl ?_
                refine ww_get C fg_X12_49 0 rfl rfl dX12_depthOf_59 ?_
                refine ww_iload_n C dX12_depthOf_62 0 rfl rfl ?_
                obtain ⟨x_50, ex_50⟩ : ∃ z : Int32, g1 ((tt - 1) - 1) = z := ⟨_, rfl⟩
                refine ww_iald (v := x_50) C 3 rfl (vp_in_nI (by omega) (by omega)) (ldn (by omega) ex_50) dX12_depthOf_63 ?_
                refine ww_goto (tgt := 69) C dX12_depthOf_64 (by decide) ?_
                refine ww_istore (lv' := [(5, .int x_50), (2, .int (nI ((tt - 1) - 1))), (6, .int 1), (4, .int x_6), (3, .int (nI j_5)), (0, .ref hm), (1, .int (nI sl))]) C dX12_depthOf_69 rfl rfl ?_
                refine ww_iinc (j := 2) (v := 2) (lv' := [(6, .int 2), (5, .int x_50), (2, .int (nI ((tt - 1) - 1))), (4, .int x_6), (3, .int (nI j_5)), (0, .ref hm), (1, .int (nI sl))]) C dX12_depthOf_71 rfl rfl rfl rfl ?_
                refine ww_goto (tgt := 34) C dX12_depthOf_74 (by decide) ?_
                refine ww_iload C dX12_depthOf_34 0 rfl ?_
                refine ww_iload C dX12_depthOf_36 3 rfl ?_
                refine ww_ci (wr := [(hm, .inr (12, [.ref m_manys, .ref m_reals, .ref m_factsOf, .ref m_possible, .int (nI q_undos), .int (nI q_models), .ref m_tape, .int (nI q_taped), .int q_fault, .int q_wrong, .int q_wrongAt, .int q_spot, .int q_place, .int q_token, .int q_value, .ref m_ends, .ref m_letters, .ref m_actOf, .ref m_whom, .ref m_actMany, .ref m_tokens, .ref m_afters, .ref m_afterOf, .int q_counted, .ref m_pile, .ref m_caseMany, .ref m_happen, .ref m_hasIf, .ref m_becomes, .ref m_goneOf, .ref m_heard, .ref m_pairs, .ref m_heaps, .int q_rounds, .int q_heapMany, .ref m_led, .ref m_newAt, .ref m_knowing, .ref m_firsts, .int (nI q_people), .ref m_secrets, .ref m_tried, .ref m_lanes, .ref m_lengths, .ref m_cells])), (m_actMany, .inl (E.2.1 1, 25, .inl f_actMany)), (m_actOf, .inl (E.2.1 1, 800, .inl f_actOf)), (m_pile, .inl (E.2.1 1, 34, .inl g1))]) (k' := 0) (n' := 0) C (run_S (As := [.int x_6]) (rest := [.int 2]) C (r_wantsOf X.2.1 E ro x_6 x_6.toInt rfl) ms_X12_wantsOf wl_X12_215 rfl rfl rfl rfl dX12_depthOf_38) (roK hro) [] [0, 1, 2, 3] rfl rfl rfl rfl (fun r_51 uz hw => ?_)
                rcases hw with hw | hw | hw
                · refine an2 hw ?_
                  clear hw
                  intro he_53 he_54 hw
                  have h_52 := hw
                  clear hw
                  have he_53 := he_53.symm
                  subst he_53
                  subst he_54
                  omega
                · refine an2 hw ?_
                  clear hw
                  intro he_56 he_57 hw
                  have h_55 := hw
                  clear hw
                  have he_56 := he_56.symm
                  subst he_56
                  subst he_57
                  refine ww_eq (ws' := [(hm, .inr (12, [.ref m_manys, .ref m_reals, .ref m_factsOf, .ref m_possible, .int (nI q_undos), .int (nI q_models), .ref m_tape, .int (nI q_taped), .int q_fault, .int q_wrong, .int q_wrongAt, .int q_spot, .int q_place, .int q_token, .int q_value, .ref m_ends, .ref m_letters, .ref m_actOf, .ref m_whom, .ref m_actMany, .ref m_tokens, .ref m_afters, .ref m_afterOf, .int q_counted, .ref m_pile, .ref m_caseMany, .ref m_happen, .ref m_hasIf, .ref m_becomes, .ref m_goneOf, .ref m_heard, .ref m_pairs, .ref m_heaps, .int q_rounds, .int q_heapMany, .ref m_led, .ref m_newAt, .ref m_knowing, .ref m_firsts, .int (nI q_people), .ref m_secrets, .ref m_tried, .ref m_lanes, .ref m_lengths, .ref m_cells])), (m_actMany, .inl (E.2.1 1, 25, .inl f_actMany)), (m_actOf, .inl (E.2.1 1, 800, .inl f_actOf)), (m_pile, .inl (E.2.1 1, 34, .inl g1))]) ?_ rfl rfl rfl
                  refine ww_icmp_ge_t (tgt := 77) C dX12_depthOf_41 (by decide) (by decide) ?_
                  refine ww_aload_n C dX12_depthOf_77 5 rfl rfl ?_
                  refine ww_get C fg_X12_49 0 rfl rfl dX12_depthOf_78 ?_
                  refine ww_iload_n C dX12_depthOf_81 2 rfl rfl ?_
                  refine ww_iload C dX12_depthOf_82 3 rfl ?_
                  refine ww_bipush (v := 8) C dX12_depthOf_84 rfl ?_
                  refine ww_icmp_lt (tgt := 96) C dX12_depthOf_86 (by decide) (fun c_61 => ?_) (fun c_61 => ?_)
                  · have zc_61 : x_6.toInt < 8 := i_lt rfl rfl c_61
                    refine ww_iload C dX12_depthOf_96 1 rfl ?_
                    obtain ⟨f_62, ef_62⟩ : ∃ z : Nat → Int32, upd g1 ((tt - 1) - 1) x_50 = z := ⟨_, rfl⟩
                    refine ww_iast (ws' := [(hm, .inr (12, [.ref m_manys, .ref m_reals, .ref m_factsOf, .ref m_possible, .int (nI q_undos), .int (nI q_models), .ref m_tape, .int (nI q_taped), .int q_fault, .int q_wrong, .int q_wrongAt, .int q_spot, .int q_place, .int q_token, .int q_value, .ref m_ends, .ref m_letters, .ref m_actOf, .ref m_whom, .ref m_actMany, .ref m_tokens, .ref m_afters, .ref m_afterOf, .int q_counted, .ref m_pile, .ref m_caseMany, .ref m_happen, .ref m_hasIf, .ref m_becomes, .ref m_goneOf, .ref m_heard, .ref m_pairs, .ref m_heaps, .int q_rounds, .int q_heapMany, .ref m_led, .ref m_newAt, .ref m_knowing, .ref m_firsts, .int (nI q_people), .ref m_secrets, .ref m_tried, .ref m_lanes, .ref m_lengths, .ref m_cells])), (m_actMany, .inl (E.2.1 1, 25, .inl f_actMany)), (m_actOf, .inl (E.2.1 1, 800, .inl f_actOf)), (m_pile, .inl (E.2.1 1, 34, .inl f_62))]) C 3 rfl (vp_in_nI (by omega) (by omega)) (ldn2 (by omega) ef_62) rfl dX12_depthOf_98 ?_
                    refine ww_iinc (j := 2) (v := (nI (((tt - 1) - 1) + 1))) (lv' := [(2, .int (nI (((tt - 1) - 1) + 1))), (6, .int 2), (5, .int x_50), (4, .int x_6), (3, .int (nI j_5)), (0, .ref hm), (1, .int (nI sl))]) C dX12_depthOf_99 rfl (nI_add ((tt - 1) - 1) 1) rfl rfl ?_
                    obtain ⟨x_63, ex_63⟩ : ∃ z : Int32, (nI j_5) + Int32.ofInt (-1) = z := ⟨_, rfl⟩
                    have zx_63 : x_63.toInt = ((j_5 : Nat) : Int) - 1 := by rw [← ex_63]; exact i_dec (c := 1) (nI_toInt (n := j_5) (by omega)) rfl (by omega) (by omega)
                    refine ww_iinc (j := 4) (v := x_63) (lv' := [(3, .int x_63), (2, .int (nI (((tt - 1) - 1) + 1))), (6, .int 2), (5, .int x_50), (4, .int x_6), (0, .ref hm), (1, .int (nI sl))]) C dX12_depthOf_102 rfl ex_63 rfl rfl ?_
                    refine ww_goto (tgt := 11) C dX12_depthOf_105 (by decide) ?_
                    exact ww_lv [0, 1, 5, 6] rfl (ww_sub [0, 1, 2, 3] rfl rfl (ih_11 x_63 j_5 (((tt - 1) - 1) + 1) f_62 (by omega) (by omega) (by omega) (by first | exact DSI.stp (v := x_50) hst (by omega) (by omega) hxj_5 hxrj_5 (by first | exact Or.inl ⟨by omega, rfl⟩ | exact Or.inr ⟨by omega, rfl⟩ | exact Or.inr ⟨by omega, eq_⟩) (Or.inr (Or.inr ⟨by omega, DSI.m2 hst hwr.1 (by omega) ex_32 (DSI.z (k := (((tt - 1) - 1) + 1)) hst hwr.1 (by omega) (show (tt - 1) = (((tt - 1) - 1) + 1) by omega) ex_20 (by omega)) (by have e0 : (0 : Int32).toInt = 0 := rfl; omega) ex_50⟩)) ef_62 | exact False.elim (by omega)) (by omega)))
                  · have zc_61 : x_6.toInt ≥ 8 := i_nlt rfl rfl c_61
                    omega
                · refine an2 hw ?_
                  clear hw
                  intro he_59 he_60 hw
                  have h_58 := hw
                  clear hw
                  have he_59 := he_59.symm
                  subst he_59
                  subst he_60
                  refine ww_eq (ws' := [(hm, .inr (12, [.ref m_manys, .ref m_reals, .ref m_factsOf, .ref m_possible, .int (nI q_undos), .int (nI q_models), .ref m_tape, .int (nI q_taped), .int q_fault, .int q_wrong, .int q_wrongAt, .int q_spot, .int q_place, .int q_token, .int q_value, .ref m_ends, .ref m_letters, .ref m_actOf, .ref m_whom, .ref m_actMany, .ref m_tokens, .ref m_afters, .ref m_afterOf, .int q_counted, .ref m_pile, .ref m_caseMany, .ref m_happen, .ref m_hasIf, .ref m_becomes, .ref m_goneOf, .ref m_heard, .ref m_pairs, .ref m_heaps, .int q_rounds, .int q_heapMany, .ref m_led, .ref m_newAt, .ref m_knowing, .ref m_firsts, .int (nI q_people), .ref m_secrets, .ref m_tried, .ref m_lanes, .ref m_lengths, .ref m_cells])), (m_actMany, .inl (E.2.1 1, 25, .inl f_actMany)), (m_actOf, .inl (E.2.1 1, 800, .inl f_actOf)), (m_pile, .inl (E.2.1 1, 34, .inl g1))]) ?_ rfl rfl rfl
                  refine ww_icmp_ge_t (tgt := 77) C dX12_depthOf_41 (by decide) (by decide) ?_
                  refine ww_aload_n C dX12_depthOf_77 5 rfl rfl ?_
                  refine ww_get C fg_X12_49 0 rfl rfl dX12_depthOf_78 ?_
                  refine ww_iload_n C dX12_depthOf_81 2 rfl rfl ?_
                  refine ww_iload C dX12_depthOf_82 3 rfl ?_
                  refine ww_bipush (v := 8) C dX12_depthOf_84 rfl ?_
                  refine ww_icmp_lt (tgt := 96) C dX12_depthOf_86 (by decide) (fun c_64 => ?_) (fun c_64 => ?_)
                  · have zc_64 : x_6.toInt < 8 := i_lt rfl rfl c_64
                    refine ww_iload C dX12_depthOf_96 1 rfl ?_
                    obtain ⟨f_65, ef_65⟩ : ∃ z : Nat → Int32, upd g1 ((tt - 1) - 1) x_50 = z := ⟨_, rfl⟩
                    refine ww_iast (ws' := [(hm, .inr (12, [.ref m_manys, .ref m_reals, .ref m_factsOf, .ref m_possible, .int (nI q_undos), .int (nI q_models), .ref m_tape, .int (nI q_taped), .int q_fault, .int q_wrong, .int q_wrongAt, .int q_spot, .int q_place, .int q_token, .int q_value, .ref m_ends, .ref m_letters, .ref m_actOf, .ref m_whom, .ref m_actMany, .ref m_tokens, .ref m_afters, .ref m_afterOf, .int q_counted, .ref m_pile, .ref m_caseMany, .ref m_happen, .ref m_hasIf, .ref m_becomes, .ref m_goneOf, .ref m_heard, .ref m_pairs, .ref m_heaps, .int q_rounds, .int q_heapMany, .ref m_led, .ref m_newAt, .ref m_knowing, .ref m_firsts, .int (nI q_people), .ref m_secrets, .ref m_tried, .ref m_lanes, .ref m_lengths, .ref m_cells])), (m_actMany, .inl (E.2.1 1, 25, .inl f_actMany)), (m_actOf, .inl (E.2.1 1, 800, .inl f_actOf)), (m_pile, .inl (E.2.1 1, 34, .inl f_65))]) C 3 rfl (vp_in_nI (by omega) (by omega)) (ldn2 (by omega) ef_65) rfl dX12_depthOf_98 ?_
                    refine ww_iinc (j := 2) (v := (nI (((tt - 1) - 1) + 1))) (lv' := [(2, .int (nI (((tt - 1) - 1) + 1))), (6, .int 2), (5, .int x_50), (4, .int x_6), (3, .int (nI j_5)), (0, .ref hm), (1, .int (nI sl))]) C dX12_depthOf_99 rfl (nI_add ((tt - 1) - 1) 1) rfl rfl ?_
                    obtain ⟨x_66, ex_66⟩ : ∃ z : Int32, (nI j_5) + Int32.ofInt (-1) = z := ⟨_, rfl⟩
                    have zx_66 : x_66.toInt = ((j_5 : Nat) : Int) - 1 := by rw [← ex_66]; exact i_dec (c := 1) (nI_toInt (n := j_5) (by omega)) rfl (by omega) (by omega)
                    refine ww_iinc (j := 4) (v := x_66) (lv' := [(3, .int x_66), (2, .int (nI (((tt - 1) - 1) + 1))), (6, .int 2), (5, .int x_50), (4, .int x_6), (0, .ref hm), (1, .int (nI sl))]) C dX12_depthOf_102 rfl ex_66 rfl rfl ?_
                    refine ww_goto (tgt := 11) C dX12_depthOf_105 (by decide) ?_
                    exact ww_lv [0, 1, 5, 6] rfl (ww_sub [0, 1, 2, 3] rfl rfl (ih_11 x_66 j_5 (((tt - 1) - 1) + 1) f_65 (by omega) (by omega) (by omega) (by first | exact DSI.stp (v := x_50) hst (by omega) (by omega) hxj_5 hxrj_5 (by first | exact Or.inl ⟨by omega, rfl⟩ | exact Or.inr ⟨by omega, rfl⟩ | exact Or.inr ⟨by omega, eq_⟩) (Or.inr (Or.inr ⟨by omega, DSI.m2 hst hwr.1 (by omega) ex_32 (DSI.z (k := (((tt - 1) - 1) + 1)) hst hwr.1 (by omega) (show (tt - 1) = (((tt - 1) - 1) + 1) by omega) ex_20 (by omega)) (by have e0 : (0 : Int32).toInt = 0 := rfl; omega) ex_50⟩)) ef_65 | exact False.elim (by omega)) (by omega)))
                  · have zc_64 : x_6.toInt ≥ 8 := i_nlt rfl rfl c_64
                    omega
            · refine an2 hw ?_
              clear hw
              intro he_30 he_31 hw
              have h_29 := hw
              clear hw
              have he_30 := he_30.symm
              subst he_30
              subst he_31
              refine ww_eq (ws' := [(hm, .inr (12, [.ref m_manys, .ref m_reals, .ref m_factsOf, .ref m_possible, .int (nI q_undos), .int (nI q_models), .ref m_tape, .int (nI q_taped), .int q_fault, .int q_wrong, .int q_wrongAt, .int q_spot, .int q_place, .int q_token, .int q_value, .ref m_ends, .ref m_letters, .ref m_actOf, .ref m_whom, .ref m_actMany, .ref m_tokens, .ref m_afters, .ref m_afterOf, .int q_counted, .ref m_pile, .ref m_caseMany, .ref m_happen, .ref m_hasIf, .ref m_becomes, .ref m_goneOf, .ref m_heard, .ref m_pairs, .ref m_heaps, .int q_rounds, .int q_heapMany, .ref m_led, .ref m_newAt, .ref m_knowing, .ref m_firsts, .int (nI q_people), .ref m_secrets, .ref m_tried, .ref m_lanes, .ref m_lengths, .ref m_cells])), (m_actMany, .inl (E.2.1 1, 25, .inl f_actMany)), (m_actOf, .inl (E.2.1 1, 800, .inl f_actOf)), (m_pile, .inl (E.2.1 1, 34, .inl g1))]) ?_ rfl rfl rfl
              refine ww_icmp_ge_t (tgt := 77) C dX12_depthOf_41 (by decide) (by decide) ?_
              refine ww_aload_n C dX12_depthOf_77 5 rfl rfl ?_
              refine ww_get C fg_X12_49 0 rfl rfl dX12_depthOf_78 ?_
              refine ww_iload_n C dX12_depthOf_81 2 rfl rfl ?_
              refine ww_iload C dX12_depthOf_82 3 rfl ?_
              refine ww_bipush (v := 8) C dX12_depthOf_84 rfl ?_
              refine ww_icmp_lt (tgt := 96) C dX12_depthOf_86 (by decide) (fun c_67 => ?_) (fun c_67 => ?_)
              · have zc_67 : x_6.toInt < 8 := i_lt rfl rfl c_67
                refine ww_iload C dX12_depthOf_96 1 rfl ?_
                obtain ⟨f_68, ef_68⟩ : ∃ z : Nat → Int32, upd g1 (tt - 1) 0 = z := ⟨_, rfl⟩
                refine ww_iast (ws' := [(hm, .inr (12, [.ref m_manys, .ref m_reals, .ref m_factsOf, .ref m_possible, .int (nI q_undos), .int (nI q_models), .ref m_tape, .int (nI q_taped), .int q_fault, .int q_wrong, .int q_wrongAt, .int q_spot, .int q_place, .int q_token, .int q_value, .ref m_ends, .ref m_letters, .ref m_actOf, .ref m_whom, .ref m_actMany, .ref m_tokens, .ref m_afters, .ref m_afterOf, .int q_counted, .ref m_pile, .ref m_caseMany, .ref m_happen, .ref m_hasIf, .ref m_becomes, .ref m_goneOf, .ref m_heard, .ref m_pairs, .ref m_heaps, .int q_rounds, .int q_heapMany, .ref m_led, .ref m_newAt, .ref m_knowing, .ref m_firsts, .int (nI q_people), .ref m_secrets, .ref m_tried, .ref m_lanes, .ref m_lengths, .ref m_cells])), (m_actMany, .inl (E.2.1 1, 25, .inl f_actMany)), (m_actOf, .inl (E.2.1 1, 800, .inl f_actOf)), (m_pile, .inl (E.2.1 1, 34, .inl f_68))]) C 3 rfl (vp_in_nI (by omega) (by omega)) (ldn2 (by omega) ef_68) rfl dX12_depthOf_98 ?_
                refine ww_iinc (j := 2) (v := (nI ((tt - 1) + 1))) (lv' := [(2, .int (nI ((tt - 1) + 1))), (6, .int 1), (5, .int 0), (4, .int x_6), (3, .int (nI j_5)), (0, .ref hm), (1, .int (nI sl))]) C dX12_depthOf_99 rfl (nI_add (tt - 1) 1) rfl rfl ?_
                obtain ⟨x_69, ex_69⟩ : ∃ z : Int32, (nI j_5) + Int32.ofInt (-1) = z := ⟨_, rfl⟩
                have zx_69 : x_69.toInt = ((j_5 : Nat) : Int) - 1 := by rw [← ex_69]; exact i_dec (c := 1) (nI_toInt (n := j_5) (by omega)) rfl (by omega) (by omega)
                refine ww_iinc (j := 4) (v := x_69) (lv' := [(3, .int x_69), (2, .int (nI ((tt - 1) + 1))), (6, .int 1), (5, .int 0), (4, .int x_6), (0, .ref hm), (1, .int (nI sl))]) C dX12_depthOf_102 rfl ex_69 rfl rfl ?_
                refine ww_goto (tgt := 11) C dX12_depthOf_105 (by decide) ?_
                exact ww_lv [0, 1, 5, 6] rfl (ww_sub [0, 1, 2, 3] rfl rfl (ih_11 x_69 j_5 ((tt - 1) + 1) f_68 (by omega) (by omega) (by omega) (by first | exact DSI.stp (v := 0) hst (by omega) (by omega) hxj_5 hxrj_5 (by first | exact Or.inl ⟨by omega, rfl⟩ | exact Or.inr ⟨by omega, rfl⟩ | exact Or.inr ⟨by omega, eq_⟩) (Or.inr (Or.inl ⟨by omega, (DSI.z (k := (tt - 1)) hst hwr.1 (by omega) (show (tt - 1) = (tt - 1) by omega) ex_20 (by omega))⟩)) ef_68 | exact False.elim (by omega)) (by omega)))
              · have zc_67 : x_6.toInt ≥ 8 := i_nlt rfl rfl c_67
                omega
          · have zc_21 : x_20.toInt > 0 := i_nle rfl rfl c_21
            refine ww_aload_n C dX12_depthOf_58 5 rfl rfl ?_
            refine ww_get C fg_X12_49 0 rfl rfl dX12_depthOf_59 ?_
            refine ww_iload_n C dX12_depthOf_62 0 rfl rfl ?_
            obtain ⟨x_70, ex_70⟩ : ∃ z : Int32, g1 (tt - 1) = z := ⟨_, rfl⟩
            refine ww_iald (v := x_70) C 3 rfl (vp_in_nI (by omega) (by omega)) (ldn (by omega) ex_70) dX12_depthOf_63 ?_
            refine ww_goto (tgt := 69) C dX12_depthOf_64 (by decide) ?_
            refine ww_istore (lv' := [(5, .int x_70), (2, .int (nI (tt - 1))), (6, .int 0), (4, .int x_6), (3, .int (nI j_5)), (0, .ref hm), (1, .int (nI sl))]) C dX12_depthOf_69 rfl rfl ?_
            refine ww_iinc (j := 2) (v := 1) (lv' := [(6, .int 1), (5, .int x_70), (2, .int (nI (tt - 1))), (4, .int x_6), (3, .int (nI j_5)), (0, .ref hm), (1, .int (nI sl))]) C dX12_depthOf_71 rfl rfl rfl rfl ?_
            refine ww_goto (tgt := 34) C dX12_depthOf_74 (by decide) ?_
            refine ww_iload C dX12_depthOf_34 0 rfl ?_
            refine ww_iload C dX12_depthOf_36 3 rfl ?_
            refine ww_ci (wr := [(hm, .inr (12, [.ref m_manys, .ref m_reals, .ref m_factsOf, .ref m_possible, .int (nI q_undos), .int (nI q_models), .ref m_tape, .int (nI q_taped), .int q_fault, .int q_wrong, .int q_wrongAt, .int q_spot, .int q_place, .int q_token, .int q_value, .ref m_ends, .ref m_letters, .ref m_actOf, .ref m_whom, .ref m_actMany, .ref m_tokens, .ref m_afters, .ref m_afterOf, .int q_counted, .ref m_pile, .ref m_caseMany, .ref m_happen, .ref m_hasIf, .ref m_becomes, .ref m_goneOf, .ref m_heard, .ref m_pairs, .ref m_heaps, .int q_rounds, .int q_heapMany, .ref m_led, .ref m_newAt, .ref m_knowing, .ref m_firsts, .int (nI q_people), .ref m_secrets, .ref m_tried, .ref m_lanes, .ref m_lengths, .ref m_cells])), (m_actMany, .inl (E.2.1 1, 25, .inl f_actMany)), (m_actOf, .inl (E.2.1 1, 800, .inl f_actOf)), (m_pile, .inl (E.2.1 1, 34, .inl g1))]) (k' := 0) (n' := 0) C (run_S (As := [.int x_6]) (rest := [.int 1]) C (r_wantsOf X.2.1 E ro x_6 x_6.toInt rfl) ms_X12_wantsOf wl_X12_215 rfl rfl rfl rfl dX12_depthOf_38) (roK hro) [] [0, 1, 2, 3] rfl rfl rfl rfl (fun r_71 uz hw => ?_)
            rcases hw with hw | hw | hw
            · refine an2 hw ?_
              clear hw
              intro he_73 he_74 hw
              have h_72 := hw
              clear hw
              have he_73 := he_73.symm
              subst he_73
              subst he_74
              omega
            · refine an2 hw ?_
              clear hw
              intro he_76 he_77 hw
              have h_75 := hw
              clear hw
              have he_76 := he_76.symm
              subst he_76
              subst he_77
              refine ww_eq (ws' := [(hm, .inr (12, [.ref m_manys, .ref m_reals, .ref m_factsOf, .ref m_possible, .int (nI q_undos), .int (nI q_models), .ref m_tape, .int (nI q_taped), .int q_fault, .int q_wrong, .int q_wrongAt, .int q_spot, .int q_place, .int q_token, .int q_value, .ref m_ends, .ref m_letters, .ref m_actOf, .ref m_whom, .ref m_actMany, .ref m_tokens, .ref m_afters, .ref m_afterOf, .int q_counted, .ref m_pile, .ref m_caseMany, .ref m_happen, .ref m_hasIf, .ref m_becomes, .ref m_goneOf, .ref m_heard, .ref m_pairs, .ref m_heaps, .int q_rounds, .int q_heapMany, .ref m_led, .ref m_newAt, .ref m_knowing, .ref m_firsts, .int (nI q_people), .ref m_secrets, .ref m_tried, .ref m_lanes, .ref m_lengths, .ref m_cells])), (m_actMany, .inl (E.2.1 1, 25, .inl f_actMany)), (m_actOf, .inl (E.2.1 1, 800, .inl f_actOf)), (m_pile, .inl (E.2.1 1, 34, .inl g1))]) ?_ rfl rfl rfl
              refine ww_icmp_ge_f (tgt := 77) C dX12_depthOf_41 (by decide) (by decide) ?_
              refine ww_iinc (j := 2) (v := (nI ((tt - 1) - 1))) (lv' := [(2, .int (nI ((tt - 1) - 1))), (6, .int 1), (5, .int x_70), (4, .int x_6), (3, .int (nI j_5)), (0, .ref hm), (1, .int (nI sl))]) C dX12_depthOf_44 rfl (nI_subc (a := (tt - 1)) (c := 1) (by omega) rfl) rfl rfl ?_
              refine ww_aload_n C dX12_depthOf_47 5 rfl rfl ?_
              refine ww_get C fg_X12_49 0 rfl rfl dX12_depthOf_48 ?_
              refine ww_iload_n C dX12_depthOf_51 0 rfl rfl ?_
              obtain ⟨x_81, ex_81⟩ : ∃ z : Int32, g1 ((tt - 1) - 1) = z := ⟨_, rfl⟩
              refine ww_iald (v := x_81) C 3 rfl (vp_in_nI (by omega) (by omega)) (ldn (by omega) ex_81) dX12_depthOf_52 ?_
              refine ww_iload C dX12_depthOf_53 2 rfl ?_
              refine ww_icmp_le (tgt := 67) C dX12_depthOf_55 (by decide) (fun c_82 => ?_) (fun c_82 => ?_)
              · have zc_82 : x_81.toInt ≤ x_70.toInt := i_le rfl rfl c_82
                refine ww_iload C dX12_depthOf_67 2 rfl ?_
                refine ww_istore (lv' := [(5, .int x_70), (2, .int (nI ((tt - 1) - 1))), (6, .int 1), (4, .int x_6), (3, .int (nI j_5)), (0, .ref hm), (1, .int (nI sl))]) C dX12_depthOf_69 rfl rfl ?_
                refine ww_iinc (j := 2) (v := 2) (lv' := [(6, .int 2), (5, .int x_70), (2, .int (nI ((tt - 1) - 1))), (4, .int x_6), (3, .int (nI j_5)), (0, .ref hm), (1, .int (nI sl))]) C dX12_depthOf_71 rfl rfl rfl rfl ?_
                refine ww_goto (tgt := 34) C dX12_depthOf_74 (by decide) ?_
                refine ww_iload C dX12_depthOf_34 0 rfl ?_
                refine ww_iload C dX12_depthOf_36 3 rfl ?_
                refine ww_ci (wr := [(hm, .inr (12, [.ref m_manys, .ref m_reals, .ref m_factsOf, .ref m_possible, .int (nI q_undos), .int (nI q_models), .ref m_tape, .int (nI q_taped), .int q_fault, .int q_wrong, .int q_wrongAt, .int q_spot, .int q_place, .int q_token, .int q_value, .ref m_ends, .ref m_letters, .ref m_actOf, .ref m_whom, .ref m_actMany, .ref m_tokens, .ref m_afters, .ref m_afterOf, .int q_counted, .ref m_pile, .ref m_caseMany, .ref m_happen, .ref m_hasIf, .ref m_becomes, .ref m_goneOf, .ref m_heard, .ref m_pairs, .ref m_heaps, .int q_rounds, .int q_heapMany, .ref m_led, .ref m_newAt, .ref m_knowing, .ref m_firsts, .int (nI q_people), .ref m_secrets, .ref m_tried, .ref m_lanes, .ref m_lengths, .ref m_cells])), (m_actMany, .inl (E.2.1 1, 25, .inl f_actMany)), (m_actOf, .inl (E.2.1 1, 800, .inl f_actOf)), (m_pile, .inl (E.2.1 1, 34, .inl g1))]) (k' := 0) (n' := 0) C (run_S (As := [.int x_6]) (rest := [.int 2]) C (r_wantsOf X.2.1 E ro x_6 x_6.toInt rfl) ms_X12_wantsOf wl_X12_215 rfl rfl rfl rfl dX12_depthOf_38) (roK hro) [] [0, 1, 2, 3] rfl rfl rfl rfl (fun r_83 uz hw => ?_)
                rcases hw with hw | hw | hw
                · refine an2 hw ?_
                  clear hw
                  intro he_85 he_86 hw
                  have h_84 := hw
                  clear hw
                  have he_85 := he_85.symm
                  subst he_85
                  subst he_86
                  omega
                · refine an2 hw ?_
                  clear hw
                  intro he_88 he_89 hw
                  have h_87 := hw
                  clear hw
                  have he_88 := he_88.symm
                  subst he_88
                  subst he_89
                  refine ww_eq (ws' := [(hm, .inr (12, [.ref m_manys, .ref m_reals, .ref m_factsOf, .ref m_possible, .int (nI q_undos), .int (nI q_models), .ref m_tape, .int (nI q_taped), .int q_fault, .int q_wrong, .int q_wrongAt, .int q_spot, .int q_place, .int q_token, .int q_value, .ref m_ends, .ref m_letters, .ref m_actOf, .ref m_whom, .ref m_actMany, .ref m_tokens, .ref m_afters, .ref m_afterOf, .int q_counted, .ref m_pile, .ref m_caseMany, .ref m_happen, .ref m_hasIf, .ref m_becomes, .ref m_goneOf, .ref m_heard, .ref m_pairs, .ref m_heaps, .int q_rounds, .int q_heapMany, .ref m_led, .ref m_newAt, .ref m_knowing, .ref m_firsts, .int (nI q_people), .ref m_secrets, .ref m_tried, .ref m_lanes, .ref m_lengths, .ref m_cells])), (m_actMany, .inl (E.2.1 1, 25, .inl f_actMany)), (m_actOf, .inl (E.2.1 1, 800, .inl f_actOf)), (m_pile, .inl (E.2.1 1, 34, .inl g1))]) ?_ rfl rfl rfl
                  refine ww_icmp_ge_t (tgt := 77) C dX12_depthOf_41 (by decide) (by decide) ?_
                  refine ww_aload_n C dX12_depthOf_77 5 rfl rfl ?_
                  refine ww_get C fg_X12_49 0 rfl rfl dX12_depthOf_78 ?_
                  refine ww_iload_n C dX12_depthOf_81 2 rfl rfl ?_
                  refine ww_iload C dX12_depthOf_82 3 rfl ?_
                  refine ww_bipush (v := 8) C dX12_depthOf_84 rfl ?_
                  refine ww_icmp_lt (tgt := 96) C dX12_depthOf_86 (by decide) (fun c_93 => ?_) (fun c_93 => ?_)
                  · have zc_93 : x_6.toInt < 8 := i_lt rfl rfl c_93
                    refine ww_iload C dX12_depthOf_96 1 rfl ?_
                    obtain ⟨f_94, ef_94⟩ : ∃ z : Nat → Int32, upd g1 ((tt - 1) - 1) x_70 = z := ⟨_, rfl⟩
                    refine ww_iast (ws' := [(hm, .inr (12, [.ref m_manys, .ref m_reals, .ref m_factsOf, .ref m_possible, .int (nI q_undos), .int (nI q_models), .ref m_tape, .int (nI q_taped), .int q_fault, .int q_wrong, .int q_wrongAt, .int q_spot, .int q_place, .int q_token, .int q_value, .ref m_ends, .ref m_letters, .ref m_actOf, .ref m_whom, .ref m_actMany, .ref m_tokens, .ref m_afters, .ref m_afterOf, .int q_counted, .ref m_pile, .ref m_caseMany, .ref m_happen, .ref m_hasIf, .ref m_becomes, .ref m_goneOf, .ref m_heard, .ref m_pairs, .ref m_heaps, .int q_rounds, .int q_heapMany, .ref m_led, .ref m_newAt, .ref m_knowing, .ref m_firsts, .int (nI q_people), .ref m_secrets, .ref m_tried, .ref m_lanes, .ref m_lengths, .ref m_cells])), (m_actMany, .inl (E.2.1 1, 25, .inl f_actMany)), (m_actOf, .inl (E.2.1 1, 800, .inl f_actOf)), (m_pile, .inl (E.2.1 1, 34, .inl f_94))]) C 3 rfl (vp_in_nI (by omega) (by omega)) (ldn2 (by omega) ef_94) rfl dX12_depthOf_98 ?_
                    refine ww_iinc (j := 2) (v := (nI (((tt - 1) - 1) + 1))) (lv' := [(2, .int (nI (((tt - 1) - 1) + 1))), (6, .int 2), (5, .int x_70), (4, .int x_6), (3, .int (nI j_5)), (0, .ref hm), (1, .int (nI sl))]) C dX12_depthOf_99 rfl (nI_add ((tt - 1) - 1) 1) rfl rfl ?_
                    obtain ⟨x_95, ex_95⟩ : ∃ z : Int32, (nI j_5) + Int32.ofInt (-1) = z := ⟨_, rfl⟩
                    have zx_95 : x_95.toInt = ((j_5 : Nat) : Int) - 1 := by rw [← ex_95]; exact i_dec (c := 1) (nI_toInt (n := j_5) (by omega)) rfl (by omega) (by omega)
                    refine ww_iinc (j := 4) (v := x_95) (lv' := [(3, .int x_95), (2, .int (nI (((tt - 1) - 1) + 1))), (6, .int 2), (5, .int x_70), (4, .int x_6), (0, .ref hm), (1, .int (nI sl))]) C dX12_depthOf_102 rfl ex_95 rfl rfl ?_
                    refine ww_goto (tgt := 11) C dX12_depthOf_105 (by decide) ?_
                    exact ww_lv [0, 1, 5, 6] rfl (ww_sub [0, 1, 2, 3] rfl rfl (ih_11 x_95 j_5 (((tt - 1) - 1) + 1) f_94 (by omega) (by omega) (by omega) (by first | exact DSI.stp (v := x_70) hst (by omega) (by omega) hxj_5 hxrj_5 (by first | exact Or.inl ⟨by omega, rfl⟩ | exact Or.inr ⟨by omega, rfl⟩ | exact Or.inr ⟨by omega, eq_⟩) (Or.inr (Or.inr ⟨by omega, DSI.m1 hst hwr.1 (by omega) ex_81 (DSI.at2 (k := (((tt - 1) - 1) + 1)) hst (by omega) (show (tt - 1) = (((tt - 1) - 1) + 1) by omega) ex_70) (by have e0 : (0 : Int32).toInt = 0 := rfl; omega)⟩)) ef_94 | exact False.elim (by omega)) (by omega)))
                  · have zc_93 : x_6.toInt ≥ 8 := i_nlt rfl rfl c_93
                    omega
                · refine an2 hw ?_
                  clear hw
                  intro he_91 he_92 hw
                  have h_90 := hw
                  clear hw
                  have he_91 := he_91.symm
                  subst he_91
                  subst he_92
                  refine ww_eq (ws' := [(hm, .inr (12, [.ref m_manys, .ref m_reals, .ref m_factsOf, .ref m_possible, .int (nI q_undos), .int (nI q_models), .ref m_tape, .int (nI q_taped), .int q_fault, .int q_wrong, .int q_wrongAt, .int q_spot, .int q_place, .int q_token, .int q_value, .ref m_ends, .ref m_letters, .ref m_actOf, .ref m_whom, .ref m_actMany, .ref m_tokens, .ref m_afters, .ref m_afterOf, .int q_counted, .ref m_pile, .ref m_caseMany, .ref m_happen, .ref m_hasIf, .ref m_becomes, .ref m_goneOf, .ref m_heard, .ref m_pairs, .ref m_heaps, .int q_rounds, .int q_heapMany, .ref m_led, .ref m_newAt, .ref m_knowing, .ref m_firsts, .int (nI q_people), .ref m_secrets, .ref m_tried, .ref m_lanes, .ref m_lengths, .ref m_cells])), (m_actMany, .inl (E.2.1 1, 25, .inl f_actMany)), (m_actOf, .inl (E.2.1 1, 800, .inl f_actOf)), (m_pile, .inl (E.2.1 1, 34, .inl g1))]) ?_ rfl rfl rfl
                  refine ww_icmp_ge_t (tgt := 77) C dX12_depthOf_41 (by decide) (by decide) ?_
                  refine ww_aload_n C dX12_depthOf_77 5 rfl rfl ?_
                  refine ww_get C fg_X12_49 0 rfl rfl dX12_depthOf_78 ?_
                  refine ww_iload_n C dX12_depthOf_81 2 rfl rfl ?_
                  refine ww_iload C dX12_depthOf_82 3 rfl ?_
                  refine ww_bipush (v := 8) C dX12_depthOf_84 rfl ?_
                  refine ww_icmp_lt (tgt := 96) C dX12_depthOf_86 (by decide) (fun c_96 => ?_) (fun c_96 => ?_)
                  · have zc_96 : x_6.toInt < 8 := i_lt rfl rfl c_96
                    refine ww_iload C dX12_depthOf_96 1 rfl ?_
                    obtain ⟨f_97, ef_97⟩ : ∃ z : Nat → Int32, upd g1 ((tt - 1) - 1) x_70 = z := ⟨_, rfl⟩
                    refine ww_iast (ws' := [(hm, .inr (12, [.ref m_manys, .ref m_reals, .ref m_factsOf, .ref m_possible, .int (nI q_undos), .int (nI q_models), .ref m_tape, .int (nI q_taped), .int q_fault, .int q_wrong, .int q_wrongAt, .int q_spot, .int q_place, .int q_token, .int q_value, .ref m_ends, .ref m_letters, .ref m_actOf, .ref m_whom, .ref m_actMany, .ref m_tokens, .ref m_afters, .ref m_afterOf, .int q_counted, .ref m_pile, .ref m_caseMany, .ref m_happen, .ref m_hasIf, .ref m_becomes, .ref m_goneOf, .ref m_heard, .ref m_pairs, .ref m_heaps, .int q_rounds, .int q_heapMany, .ref m_led, .ref m_newAt, .ref m_knowing, .ref m_firsts, .int (nI q_people), .ref m_secrets, .ref m_tried, .ref m_lanes, .ref m_lengths, .ref m_cells])), (m_actMany, .inl (E.2.1 1, 25, .inl f_actMany)), (m_actOf, .inl (E.2.1 1, 800, .inl f_actOf)), (m_pile, .inl (E.2.1 1, 34, .inl f_97))]) C 3 rfl (vp_in_nI (by omega) (by omega)) (ldn2 (by omega) ef_97) rfl dX12_depthOf_98 ?_
                    refine ww_iinc (j := 2) (v := (nI (((tt - 1) - 1) + 1))) (lv' := [(2, .int (nI (((tt - 1) - 1) + 1))), (6, .int 2), (5, .int x_70), (4, .int x_6), (3, .int (nI j_5)), (0, .ref hm), (1, .int (nI sl))]) C dX12_depthOf_99 rfl (nI_add ((tt - 1) - 1) 1) rfl rfl ?_
                    obtain ⟨x_98, ex_98⟩ : ∃ z : Int32, (nI j_5) + Int32.ofInt (-1) = z := ⟨_, rfl⟩
                    have zx_98 : x_98.toInt = ((j_5 : Nat) : Int) - 1 := by rw [← ex_98]; exact i_dec (c := 1) (nI_toInt (n := j_5) (by omega)) rfl (by omega) (by omega)
                    refine ww_iinc (j := 4) (v := x_98) (lv' := [(3, .int x_98), (2, .int (nI (((tt - 1) - 1) + 1))), (6, .int 2), (5, .int x_70), (4, .int x_6), (0, .ref hm), (1, .int (nI sl))]) C dX12_depthOf_102 rfl ex_98 rfl rfl ?_
                    refine ww_goto (tgt := 11) C dX12_depthOf_105 (by decide) ?_
                    exact ww_lv [0, 1, 5, 6] rfl (ww_sub [0, 1, 2, 3] rfl rfl (ih_11 x_98 j_5 (((tt - 1) - 1) + 1) f_97 (by omega) (by omega) (by omega) (by first | exact DSI.stp (v := x_70) hst (by omega) (by omega) hxj_5 hxrj_5 (by first | exact Or.inl ⟨by omega, rfl⟩ | exact Or.inr ⟨by omega, rfl⟩ | exact Or.inr ⟨by omega, eq_⟩) (Or.inr (Or.inr ⟨by omega, DSI.m1 hst hwr.1 (by omega) ex_81 (DSI.at2 (k := (((tt - 1) - 1) + 1)) hst (by omega) (show (tt - 1) = (((tt - 1) - 1) + 1) by omega) ex_70) (by have e0 : (0 : Int32).toInt = 0 := rfl; omega)⟩)) ef_97 | exact False.elim (by omega)) (by omega)))
                  · have zc_96 : x_6.toInt ≥ 8 := i_nlt rfl rfl c_96
                    omega
              · have zc_82 : x_81.toInt > x_70.toInt := i_nle rfl rfl c_82
                refine ww_aload_n C dX12_depthOf_58 5 rfl rfl ?_
                refine ww_get C fg_X12_49 0 rfl rfl dX12_depthOf_59 ?_
                refine ww_iload_n C dX12_depthOf_62 0 rfl rfl ?_
                obtain ⟨x_99, ex_99⟩ : ∃ z : Int32, g1 ((tt - 1) - 1) = z := ⟨_, rfl⟩
                refine ww_iald (v := x_99) C 3 rfl (vp_in_nI (by omega) (by omega)) (ldn (by omega) ex_99) dX12_depthOf_63 ?_
                refine ww_goto (tgt := 69) C dX12_depthOf_64 (by decide) ?_
                refine ww_istore (lv' := [(5, .int x_99), (2, .int (nI ((tt - 1) - 1))), (6, .int 1), (4, .int x_6), (3, .int (nI j_5)), (0, .ref hm), (1, .int (nI sl))]) C dX12_depthOf_69 rfl rfl ?_
                refine ww_iinc (j := 2) (v := 2) (lv' := [(6, .int 2), (5, .int x_99), (2, .int (nI ((tt - 1) - 1))), (4, .int x_6), (3, .int (nI j_5)), (0, .ref hm), (1, .int (nI sl))]) C dX12_depthOf_71 rfl rfl rfl rfl ?_
                refine ww_goto (tgt := 34) C dX12_depthOf_74 (by decide) ?_
                refine ww_iload C dX12_depthOf_34 0 rfl ?_
                refine ww_iload C dX12_depthOf_36 3 rfl ?_
                refine ww_ci (wr := [(hm, .inr (12, [.ref m_manys, .ref m_reals, .ref m_factsOf, .ref m_possible, .int (nI q_undos), .int (nI q_models), .ref m_tape, .int (nI q_taped), .int q_fault, .int q_wrong, .int q_wrongAt, .int q_spot, .int q_place, .int q_token, .int q_value, .ref m_ends, .ref m_letters, .ref m_actOf, .ref m_whom, .ref m_actMany, .ref m_tokens, .ref m_afters, .ref m_afterOf, .int q_counted, .ref m_pile, .ref m_caseMany, .ref m_happen, .ref m_hasIf, .ref m_becomes, .ref m_goneOf, .ref m_heard, .ref m_pairs, .ref m_heaps, .int q_rounds, .int q_heapMany, .ref m_led, .ref m_newAt, .ref m_knowing, .ref m_firsts, .int (nI q_people), .ref m_secrets, .ref m_tried, .ref m_lanes, .ref m_lengths, .ref m_cells])), (m_actMany, .inl (E.2.1 1, 25, .inl f_actMany)), (m_actOf, .inl (E.2.1 1, 800, .inl f_actOf)), (m_pile, .inl (E.2.1 1, 34, .inl g1))]) (k' := 0) (n' := 0) C (run_S (As := [.int x_6]) (rest := [.int 2]) C (r_wantsOf X.2.1 E ro x_6 x_6.toInt rfl) ms_X12_wantsOf wl_X12_215 rfl rfl rfl rfl dX12_depthOf_38) (roK hro) [] [0, 1, 2, 3] rfl rfl rfl rfl (fun r_100 uz hw => ?_)
                rcases hw with hw | hw | hw
                · refine an2 hw ?_
                  clear hw
                  intro he_102 he_103 hw
                  have h_101 := hw
                  clear hw
                  have he_102 := he_102.symm
                  subst he_102
                  subst he_103
                  omega
                · refine an2 hw ?_
                  clear hw
                  intro he_105 he_106 hw
                  have h_104 := hw
                  clear hw
                  have he_105 := he_105.symm
                  subst he_105
                  subst he_106
                  refine ww_eq (ws' := [(hm, .inr (12, [.ref m_manys, .ref m_reals, .ref m_factsOf, .ref m_possible, .int (nI q_undos), .int (nI q_models), .ref m_tape, .int (nI q_taped), .int q_fault, .int q_wrong, .int q_wrongAt, .int q_spot, .int q_place, .int q_token, .int q_value, .ref m_ends, .ref m_letters, .ref m_actOf, .ref m_whom, .ref m_actMany, .ref m_tokens, .ref m_afters, .ref m_afterOf, .int q_counted, .ref m_pile, .ref m_caseMany, .ref m_happen, .ref m_hasIf, .ref m_becomes, .ref m_goneOf, .ref m_heard, .ref m_pairs, .ref m_heaps, .int q_rounds, .int q_heapMany, .ref m_led, .ref m_newAt, .ref m_knowing, .ref m_firsts, .int (nI q_people), .ref m_secrets, .ref m_tried, .ref m_lanes, .ref m_lengths, .ref m_cells])), (m_actMany, .inl (E.2.1 1, 25, .inl f_actMany)), (m_actOf, .inl (E.2.1 1, 800, .inl f_actOf)), (m_pile, .inl (E.2.1 1, 34, .inl g1))]) ?_ rfl rfl rfl
                  refine ww_icmp_ge_t (tgt := 77) C dX12_depthOf_41 (by decide) (by decide) ?_
                  refine ww_aload_n C dX12_depthOf_77 5 rfl rfl ?_
                  refine ww_get C fg_X12_49 0 rfl rfl dX12_depthOf_78 ?_
                  refine ww_iload_n C dX12_depthOf_81 2 rfl rfl ?_
                  refine ww_iload C dX12_depthOf_82 3 rfl ?_
                  refine ww_bipush (v := 8) C dX12_depthOf_84 rfl ?_
                  refine ww_icmp_lt (tgt := 96) C dX12_depthOf_86 (by decide) (fun c_110 => ?_) (fun c_110 => ?_)
                  · have zc_110 : x_6.toInt < 8 := i_lt rfl rfl c_110
                    refine ww_iload C dX12_depthOf_96 1 rfl ?_
                    obtain ⟨f_111, ef_111⟩ : ∃ z : Nat → Int32, upd g1 ((tt - 1) - 1) x_99 = z := ⟨_, rfl⟩
                    refine ww_iast (ws' := [(hm, .inr (12, [.ref m_manys, .ref m_reals, .ref m_factsOf, .ref m_possible, .int (nI q_undos), .int (nI q_models), .ref m_tape, .int (nI q_taped), .int q_fault, .int q_wrong, .int q_wrongAt, .int q_spot, .int q_place, .int q_token, .int q_value, .ref m_ends, .ref m_letters, .ref m_actOf, .ref m_whom, .ref m_actMany, .ref m_tokens, .ref m_afters, .ref m_afterOf, .int q_counted, .ref m_pile, .ref m_caseMany, .ref m_happen, .ref m_hasIf, .ref m_becomes, .ref m_goneOf, .ref m_heard, .ref m_pairs, .ref m_heaps, .int q_rounds, .int q_heapMany, .ref m_led, .ref m_newAt, .ref m_knowing, .ref m_firsts, .int (nI q_people), .ref m_secrets, .ref m_tried, .ref m_lanes, .ref m_lengths, .ref m_cells])), (m_actMany, .inl (E.2.1 1, 25, .inl f_actMany)), (m_actOf, .inl (E.2.1 1, 800, .inl f_actOf)), (m_pile, .inl (E.2.1 1, 34, .inl f_111))]) C 3 rfl (vp_in_nI (by omega) (by omega)) (ldn2 (by omega) ef_111) rfl dX12_depthOf_98 ?_
                    refine ww_iinc (j := 2) (v := (nI (((tt - 1) - 1) + 1))) (lv' := [(2, .int (nI (((tt - 1) - 1) + 1))), (6, .int 2), (5, .int x_99), (4, .int x_6), (3, .int (nI j_5)), (0, .ref hm), (1, .int (nI sl))]) C dX12_depthOf_99 rfl (nI_add ((tt - 1) - 1) 1) rfl rfl ?_
                    obtain ⟨x_112, ex_112⟩ : ∃ z : Int32, (nI j_5) + Int32.ofInt (-1) = z := ⟨_, rfl⟩
                    have zx_112 : x_112.toInt = ((j_5 : Nat) : Int) - 1 := by rw [← ex_112]; exact i_dec (c := 1) (nI_toInt (n := j_5) (by omega)) rfl (by omega) (by omega)
                    refine ww_iinc (j := 4) (v := x_112) (lv' := [(3, .int x_112), (2, .int (nI (((tt - 1) - 1) + 1))), (6, .int 2), (5, .int x_99), (4, .int x_6), (0, .ref hm), (1, .int (nI sl))]) C dX12_depthOf_102 rfl ex_112 rfl rfl ?_
                    refine ww_goto (tgt := 11) C dX12_depthOf_105 (by decide) ?_
                    exact ww_lv [0, 1, 5, 6] rfl (ww_sub [0, 1, 2, 3] rfl rfl (ih_11 x_112 j_5 (((tt - 1) - 1) + 1) f_111 (by omega) (by omega) (by omega) (by first | exact DSI.stp (v := x_99) hst (by omega) (by omega) hxj_5 hxrj_5 (by first | exact Or.inl ⟨by omega, rfl⟩ | exact Or.inr ⟨by omega, rfl⟩ | exact Or.inr ⟨by omega, eq_⟩) (Or.inr (Or.inr ⟨by omega, DSI.m2 hst hwr.1 (by omega) ex_81 (DSI.at2 (k := (((tt - 1) - 1) + 1)) hst (by omega) (show (tt - 1) = (((tt - 1) - 1) + 1) by omega) ex_70) (by have e0 : (0 : Int32).toInt = 0 := rfl; omega) ex_99⟩)) ef_111 | exact False.elim (by omega)) (by omega)))
                  · have zc_110 : x_6.toInt ≥ 8 := i_nlt rfl rfl c_110
                    omega
                · refine an2 hw ?_
                  clear hw
                  intro he_108 he_109 hw
                  have h_107 := hw
                  clear hw
                  have he_108 := he_108.symm
                  subst he_108
                  subst he_109
                  refine ww_eq (ws' := [(hm, .inr (12, [.ref m_manys, .ref m_reals, .ref m_factsOf, .ref m_possible, .int (nI q_undos), .int (nI q_models), .ref m_tape, .int (nI q_taped), .int q_fault, .int q_wrong, .int q_wrongAt, .int q_spot, .int q_place, .int q_token, .int q_value, .ref m_ends, .ref m_letters, .ref m_actOf, .ref m_whom, .ref m_actMany, .ref m_tokens, .ref m_afters, .ref m_afterOf, .int q_counted, .ref m_pile, .ref m_caseMany, .ref m_happen, .ref m_hasIf, .ref m_becomes, .ref m_goneOf, .ref m_heard, .ref m_pairs, .ref m_heaps, .int q_rounds, .int q_heapMany, .ref m_led, .ref m_newAt, .ref m_knowing, .ref m_firsts, .int (nI q_people), .ref m_secrets, .ref m_tried, .ref m_lanes, .ref m_lengths, .ref m_cells])), (m_actMany, .inl (E.2.1 1, 25, .inl f_actMany)), (m_actOf, .inl (E.2.1 1, 800, .inl f_actOf)), (m_pile, .inl (E.2.1 1, 34, .inl g1))]) ?_ rfl rfl rfl
                  refine ww_icmp_ge_t (tgt := 77) C dX12_depthOf_41 (by decide) (by decide) ?_
                  refine ww_aload_n C dX12_depthOf_77 5 rfl rfl ?_
                  refine ww_get C fg_X12_49 0 rfl rfl dX12_depthOf_78 ?_
                  refine ww_iload_n C dX12_depthOf_81 2 rfl rfl ?_
                  refine ww_iload C dX12_depthOf_82 3 rfl ?_
                  refine ww_bipush (v := 8) C dX12_depthOf_84 rfl ?_
                  refine ww_icmp_lt (tgt := 96) C dX12_depthOf_86 (by decide) (fun c_113 => ?_) (fun c_113 => ?_)
                  · have zc_113 : x_6.toInt < 8 := i_lt rfl rfl c_113
                    refine ww_iload C dX12_depthOf_96 1 rfl ?_
                    obtain ⟨f_114, ef_114⟩ : ∃ z : Nat → Int32, upd g1 ((tt - 1) - 1) x_99 = z := ⟨_, rfl⟩
                    refine ww_iast (ws' := [(hm, .inr (12, [.ref m_manys, .ref m_reals, .ref m_factsOf, .ref m_possible, .int (nI q_undos), .int (nI q_models), .ref m_tape, .int (nI q_taped), .int q_fault, .int q_wrong, .int q_wrongAt, .int q_spot, .int q_place, .int q_token, .int q_value, .ref m_ends, .ref m_letters, .ref m_actOf, .ref m_whom, .ref m_actMany, .ref m_tokens, .ref m_afters, .ref m_afterOf, .int q_counted, .ref m_pile, .ref m_caseMany, .ref m_happen, .ref m_hasIf, .ref m_becomes, .ref m_goneOf, .ref m_heard, .ref m_pairs, .ref m_heaps, .int q_rounds, .int q_heapMany, .ref m_led, .ref m_newAt, .ref m_knowing, .ref m_firsts, .int (nI q_people), .ref m_secrets, .ref m_tried, .ref m_lanes, .ref m_lengths, .ref m_cells])), (m_actMany, .inl (E.2.1 1, 25, .inl f_actMany)), (m_actOf, .inl (E.2.1 1, 800, .inl f_actOf)), (m_pile, .inl (E.2.1 1, 34, .inl f_114))]) C 3 rfl (vp_in_nI (by omega) (by omega)) (ldn2 (by omega) ef_114) rfl dX12_depthOf_98 ?_
                    refine ww_iinc (j := 2) (v := (nI (((tt - 1) - 1) + 1))) (lv' := [(2, .int (nI (((tt - 1) - 1) + 1))), (6, .int 2), (5, .int x_99), (4, .int x_6), (3, .int (nI j_5)), (0, .ref hm), (1, .int (nI sl))]) C dX12_depthOf_99 rfl (nI_add ((tt - 1) - 1) 1) rfl rfl ?_
                    obtain ⟨x_115, ex_115⟩ : ∃ z : Int32, (nI j_5) + Int32.ofInt (-1) = z := ⟨_, rfl⟩
                    have zx_115 : x_115.toInt = ((j_5 : Nat) : Int) - 1 := by rw [← ex_115]; exact i_dec (c := 1) (nI_toInt (n := j_5) (by omega)) rfl (by omega) (by omega)
                    refine ww_iinc (j := 4) (v := x_115) (lv' := [(3, .int x_115), (2, .int (nI (((tt - 1) - 1) + 1))), (6, .int 2), (5, .int x_99), (4, .int x_6), (0, .ref hm), (1, .int (nI sl))]) C dX12_depthOf_102 rfl ex_115 rfl rfl ?_
                    refine ww_goto (tgt := 11) C dX12_depthOf_105 (by decide) ?_
                    exact ww_lv [0, 1, 5, 6] rfl (ww_sub [0, 1, 2, 3] rfl rfl (ih_11 x_115 j_5 (((tt - 1) - 1) + 1) f_114 (by omega) (by omega) (by omega) (by first | exact DSI.stp (v := x_99) hst (by omega) (by omega) hxj_5 hxrj_5 (by first | exact Or.inl ⟨by omega, rfl⟩ | exact Or.inr ⟨by omega, rfl⟩ | exact Or.inr ⟨by omega, eq_⟩) (Or.inr (Or.inr ⟨by omega, DSI.m2 hst hwr.1 (by omega) ex_81 (DSI.at2 (k := (((tt - 1) - 1) + 1)) hst (by omega) (show (tt - 1) = (((tt - 1) - 1) + 1) by omega) ex_70) (by have e0 : (0 : Int32).toInt = 0 := rfl; omega) ex_99⟩)) ef_114 | exact False.elim (by omega)) (by omega)))
                  · have zc_113 : x_6.toInt ≥ 8 := i_nlt rfl rfl c_113
                    omega
            · refine an2 hw ?_
              clear hw
              intro he_79 he_80 hw
              have h_78 := hw
              clear hw
              have he_79 := he_79.symm
              subst he_79
              subst he_80
              refine ww_eq (ws' := [(hm, .inr (12, [.ref m_manys, .ref m_reals, .ref m_factsOf, .ref m_possible, .int (nI q_undos), .int (nI q_models), .ref m_tape, .int (nI q_taped), .int q_fault, .int q_wrong, .int q_wrongAt, .int q_spot, .int q_place, .int q_token, .int q_value, .ref m_ends, .ref m_letters, .ref m_actOf, .ref m_whom, .ref m_actMany, .ref m_tokens, .ref m_afters, .ref m_afterOf, .int q_counted, .ref m_pile, .ref m_caseMany, .ref m_happen, .ref m_hasIf, .ref m_becomes, .ref m_goneOf, .ref m_heard, .ref m_pairs, .ref m_heaps, .int q_rounds, .int q_heapMany, .ref m_led, .ref m_newAt, .ref m_knowing, .ref m_firsts, .int (nI q_people), .ref m_secrets, .ref m_tried, .ref m_lanes, .ref m_lengths, .ref m_cells])), (m_actMany, .inl (E.2.1 1, 25, .inl f_actMany)), (m_actOf, .inl (E.2.1 1, 800, .inl f_actOf)), (m_pile, .inl (E.2.1 1, 34, .inl g1))]) ?_ rfl rfl rfl
              refine ww_icmp_ge_t (tgt := 77) C dX12_depthOf_41 (by decide) (by decide) ?_
              refine ww_aload_n C dX12_depthOf_77 5 rfl rfl ?_
              refine ww_get C fg_X12_49 0 rfl rfl dX12_depthOf_78 ?_
              refine ww_iload_n C dX12_depthOf_81 2 rfl rfl ?_
              refine ww_iload C dX12_depthOf_82 3 rfl ?_
              refine ww_bipush (v := 8) C dX12_depthOf_84 rfl ?_
              refine ww_icmp_lt (tgt := 96) C dX12_depthOf_86 (by decide) (fun c_116 => ?_) (fun c_116 => ?_)
              · have zc_116 : x_6.toInt < 8 := i_lt rfl rfl c_116
                refine ww_iload C dX12_depthOf_96 1 rfl ?_
                obtain ⟨f_117, ef_117⟩ : ∃ z : Nat → Int32, upd g1 (tt - 1) x_70 = z := ⟨_, rfl⟩
                refine ww_iast (ws' := [(hm, .inr (12, [.ref m_manys, .ref m_reals, .ref m_factsOf, .ref m_possible, .int (nI q_undos), .int (nI q_models), .ref m_tape, .int (nI q_taped), .int q_fault, .int q_wrong, .int q_wrongAt, .int q_spot, .int q_place, .int q_token, .int q_value, .ref m_ends, .ref m_letters, .ref m_actOf, .ref m_whom, .ref m_actMany, .ref m_tokens, .ref m_afters, .ref m_afterOf, .int q_counted, .ref m_pile, .ref m_caseMany, .ref m_happen, .ref m_hasIf, .ref m_becomes, .ref m_goneOf, .ref m_heard, .ref m_pairs, .ref m_heaps, .int q_rounds, .int q_heapMany, .ref m_led, .ref m_newAt, .ref m_knowing, .ref m_firsts, .int (nI q_people), .ref m_secrets, .ref m_tried, .ref m_lanes, .ref m_lengths, .ref m_cells])), (m_actMany, .inl (E.2.1 1, 25, .inl f_actMany)), (m_actOf, .inl (E.2.1 1, 800, .inl f_actOf)), (m_pile, .inl (E.2.1 1, 34, .inl f_117))]) C 3 rfl (vp_in_nI (by omega) (by omega)) (ldn2 (by omega) ef_117) rfl dX12_depthOf_98 ?_
                refine ww_iinc (j := 2) (v := (nI ((tt - 1) + 1))) (lv' := [(2, .int (nI ((tt - 1) + 1))), (6, .int 1), (5, .int x_70), (4, .int x_6), (3, .int (nI j_5)), (0, .ref hm), (1, .int (nI sl))]) C dX12_depthOf_99 rfl (nI_add (tt - 1) 1) rfl rfl ?_
                obtain ⟨x_118, ex_118⟩ : ∃ z : Int32, (nI j_5) + Int32.ofInt (-1) = z := ⟨_, rfl⟩
                have zx_118 : x_118.toInt = ((j_5 : Nat) : Int) - 1 := by rw [← ex_118]; exact i_dec (c := 1) (nI_toInt (n := j_5) (by omega)) rfl (by omega) (by omega)
                refine ww_iinc (j := 4) (v := x_118) (lv' := [(3, .int x_118), (2, .int (nI ((tt - 1) + 1))), (6, .int 1), (5, .int x_70), (4, .int x_6), (0, .ref hm), (1, .int (nI sl))]) C dX12_depthOf_102 rfl ex_118 rfl rfl ?_
                refine ww_goto (tgt := 11) C dX12_depthOf_105 (by decide) ?_
                exact ww_lv [0, 1, 5, 6] rfl (ww_sub [0, 1, 2, 3] rfl rfl (ih_11 x_118 j_5 ((tt - 1) + 1) f_117 (by omega) (by omega) (by omega) (by first | exact DSI.stp (v := x_70) hst (by omega) (by omega) hxj_5 hxrj_5 (by first | exact Or.inl ⟨by omega, rfl⟩ | exact Or.inr ⟨by omega, rfl⟩ | exact Or.inr ⟨by omega, eq_⟩) (Or.inr (Or.inl ⟨by omega, (DSI.at2 (k := (tt - 1)) hst (by omega) (show (tt - 1) = (tt - 1) by omega) ex_70)⟩)) ef_117 | exact False.elim (by omega)) (by omega)))
              · have zc_116 : x_6.toInt ≥ 8 := i_nlt rfl rfl c_116
                omega
        · refine an2 hw ?_
          clear hw
          intro he_15 he_16 hw
          have h_14 := hw
          clear hw
          have he_15 := he_15.symm
          subst he_15
          subst he_16
          refine ww_eq (ws' := [(hm, .inr (12, [.ref m_manys, .ref m_reals, .ref m_factsOf, .ref m_possible, .int (nI q_undos), .int (nI q_models), .ref m_tape, .int (nI q_taped), .int q_fault, .int q_wrong, .int q_wrongAt, .int q_spot, .int q_place, .int q_token, .int q_value, .ref m_ends, .ref m_letters, .ref m_actOf, .ref m_whom, .ref m_actMany, .ref m_tokens, .ref m_afters, .ref m_afterOf, .int q_counted, .ref m_pile, .ref m_caseMany, .ref m_happen, .ref m_hasIf, .ref m_becomes, .ref m_goneOf, .ref m_heard, .ref m_pairs, .ref m_heaps, .int q_rounds, .int q_heapMany, .ref m_led, .ref m_newAt, .ref m_knowing, .ref m_firsts, .int (nI q_people), .ref m_secrets, .ref m_tried, .ref m_lanes, .ref m_lengths, .ref m_cells])), (m_actMany, .inl (E.2.1 1, 25, .inl f_actMany)), (m_actOf, .inl (E.2.1 1, 800, .inl f_actOf)), (m_pile, .inl (E.2.1 1, 34, .inl g1))]) ?_ rfl rfl rfl
          refine ww_icmp_ge_f (tgt := 77) C dX12_depthOf_41 (by decide) (by decide) ?_
          refine ww_iinc (j := 4) (v := (nI (tt - 1))) (lv' := [(2, .int (nI (tt - 1))), (6, .int 0), (5, .int 0), (4, .int x_6), (3, .int (nI j_5)), (0, .ref hm), (1, .int (nI sl))]) C dX12_depthOf_44 rfl (nI_subc (a := tt) (c := 1) (by omega) rfl) rfl rfl ?_
          refine ww_aload_n C dX12_depthOf_47 5 rfl rfl ?_
          refine ww_get C fg_X12_49 0 rfl rfl dX12_depthOf_48 ?_
          refine ww_iload_n C dX12_depthOf_51 0 rfl rfl ?_
          obtain ⟨x_119, ex_119⟩ : ∃ z : Int32, g1 (tt - 1) = z := ⟨_, rfl⟩
          refine ww_iald (v := x_119) C 3 rfl (vp_in_nI (by omega) (by omega)) (ldn (by omega) ex_119) dX12_depthOf_52 ?_
          refine ww_iload C dX12_depthOf_53 2 rfl ?_
          refine ww_icmp_le (tgt := 67) C dX12_depthOf_55 (by decide) (fun c_120 => ?_) (fun c_120 => ?_)
          · have zc_120 : x_119.toInt ≤ 0 := i_le rfl rfl c_120
            refine ww_iload C dX12_depthOf_67 2 rfl ?_
            refine ww_istore (lv' := [(5, .int 0), (2, .int (nI (tt - 1))), (6, .int 0), (4, .int x_6), (3, .int (nI j_5)), (0, .ref hm), (1, .int (nI sl))]) C dX12_depthOf_69 rfl rfl ?_
            refine ww_iinc (j := 2) (v := 1) (lv' := [(6, .int 1), (5, .int 0), (2, .int (nI (tt - 1))), (4, .int x_6), (3, .int (nI j_5)), (0, .ref hm), (1, .int (nI sl))]) C dX12_depthOf_71 rfl rfl rfl rfl ?_
            refine ww_goto (tgt := 34) C dX12_depthOf_74 (by decide) ?_
            refine ww_iload C dX12_depthOf_34 0 rfl ?_
            refine ww_iload C dX12_depthOf_36 3 rfl ?_
            refine ww_ci (wr := [(hm, .inr (12, [.ref m_manys, .ref m_reals, .ref m_factsOf, .ref m_possible, .int (nI q_undos), .int (nI q_models), .ref m_tape, .int (nI q_taped), .int q_fault, .int q_wrong, .int q_wrongAt, .int q_spot, .int q_place, .int q_token, .int q_value, .ref m_ends, .ref m_letters, .ref m_actOf, .ref m_whom, .ref m_actMany, .ref m_tokens, .ref m_afters, .ref m_afterOf, .int q_counted, .ref m_pile, .ref m_caseMany, .ref m_happen, .ref m_hasIf, .ref m_becomes, .ref m_goneOf, .ref m_heard, .ref m_pairs, .ref m_heaps, .int q_rounds, .int q_heapMany, .ref m_led, .ref m_newAt, .ref m_knowing, .ref m_firsts, .int (nI q_people), .ref m_secrets, .ref m_tried, .ref m_lanes, .ref m_lengths, .ref m_cells])), (m_actMany, .inl (E.2.1 1, 25, .inl f_actMany)), (m_actOf, .inl (E.2.1 1, 800, .inl f_actOf)), (m_pile, .inl (E.2.1 1, 34, .inl g1))]) (k' := 0) (n' := 0) C (run_S (As := [.int x_6]) (rest := [.int 1]) C (r_wantsOf X.2.1 E ro x_6 x_6.toInt rfl) ms_X12_wantsOf wl_X12_215 rfl rfl rfl rfl dX12_depthOf_38) (roK hro) [] [0, 1, 2, 3] rfl rfl rfl rfl (fun r_121 uz hw => ?_)
            rcases hw with hw | hw | hw
            · refine an2 hw ?_
              clear hw
              intro he_123 he_124 hw
              have h_122 := hw
              clear hw
              have he_123 := he_123.symm
              subst he_123
              subst he_124
              omega
            · refine an2 hw ?_
              clear hw
              intro he_126 he_127 hw
              have h_125 := hw
              clear hw
              have he_126 := he_126.symm
              subst he_126
              subst he_127
              refine ww_eq (ws' := [(hm, .inr (12, [.ref m_manys, .ref m_reals, .ref m_factsOf, .ref m_possible, .int (nI q_undos), .int (nI q_models), .ref m_tape, .int (nI q_taped), .int q_fault, .int q_wrong, .int q_wrongAt, .int q_spot, .int q_place, .int q_token, .int q_value, .ref m_ends, .ref m_letters, .ref m_actOf, .ref m_whom, .ref m_actMany, .ref m_tokens, .ref m_afters, .ref m_afterOf, .int q_counted, .ref m_pile, .ref m_caseMany, .ref m_happen, .ref m_hasIf, .ref m_becomes, .ref m_goneOf, .ref m_heard, .ref m_pairs, .ref m_heaps, .int q_rounds, .int q_heapMany, .ref m_led, .ref m_newAt, .ref m_knowing, .ref m_firsts, .int (nI q_people), .ref m_secrets, .ref m_tried, .ref m_lanes, .ref m_lengths, .ref m_cells])), (m_actMany, .inl (E.2.1 1, 25, .inl f_actMany)), (m_actOf, .inl (E.2.1 1, 800, .inl f_actOf)), (m_pile, .inl (E.2.1 1, 34, .inl g1))]) ?_ rfl rfl rfl
              refine ww_icmp_ge_f (tgt := 77) C dX12_depthOf_41 (by decide) (by decide) ?_
              refine ww_iinc (j := 2) (v := (nI ((tt - 1) - 1))) (lv' := [(2, .int (nI ((tt - 1) - 1))), (6, .int 1), (5, .int 0), (4, .int x_6), (3, .int (nI j_5)), (0, .ref hm), (1, .int (nI sl))]) C dX12_depthOf_44 rfl (nI_subc (a := (tt - 1)) (c := 1) (by omega) rfl) rfl rfl ?_
              refine ww_aload_n C dX12_depthOf_47 5 rfl rfl ?_
              refine ww_get C fg_X12_49 0 rfl rfl dX12_depthOf_48 ?_
              refine ww_iload_n C dX12_depthOf_51 0 rfl rfl ?_
              obtain ⟨x_131, ex_131⟩ : ∃ z : Int32, g1 ((tt - 1) - 1) = z := ⟨_, rfl⟩
              refine ww_iald (v := x_131) C 3 rfl (vp_in_nI (by omega) (by omega)) (ldn (by omega) ex_131) dX12_depthOf_52 ?_
              refine ww_iload C dX12_depthOf_53 2 rfl ?_
              refine ww_icmp_le (tgt := 67) C dX12_depthOf_55 (by decide) (fun c_132 => ?_) (fun c_132 => ?_)
              · have zc_132 : x_131.toInt ≤ 0 := i_le rfl rfl c_132
                refine ww_iload C dX12_depthOf_67 2 rfl ?_
                refine ww_istore (lv' := [(5, .int 0), (2, .int (nI ((tt - 1) - 1))), (6, .int 1), (4, .int x_6), (3, .int (nI j_5)), (0, .ref hm), (1, .int (nI sl))]) C dX12_depthOf_69 rfl rfl ?_
                refine ww_iinc (j := 2) (v := 2) (lv' := [(6, .int 2), (5, .int 0), (2, .int (nI ((tt - 1) - 1))), (4, .int x_6), (3, .int (nI j_5)), (0, .ref hm), (1, .int (nI sl))]) C dX12_depthOf_71 rfl rfl rfl rfl ?_
                refine ww_goto (tgt := 34) C dX12_depthOf_74 (by decide) ?_
                refine ww_iload C dX12_depthOf_34 0 rfl ?_
                refine ww_iload C dX12_depthOf_36 3 rfl ?_
                refine ww_ci (wr := [(hm, .inr (12, [.ref m_manys, .ref m_reals, .ref m_factsOf, .ref m_possible, .int (nI q_undos), .int (nI q_models), .ref m_tape, .int (nI q_taped), .int q_fault, .int q_wrong, .int q_wrongAt, .int q_spot, .int q_place, .int q_token, .int q_value, .ref m_ends, .ref m_letters, .ref m_actOf, .ref m_whom, .ref m_actMany, .ref m_tokens, .ref m_afters, .ref m_afterOf, .int q_counted, .ref m_pile, .ref m_caseMany, .ref m_happen, .ref m_hasIf, .ref m_becomes, .ref m_goneOf, .ref m_heard, .ref m_pairs, .ref m_heaps, .int q_rounds, .int q_heapMany, .ref m_led, .ref m_newAt, .ref m_knowing, .ref m_firsts, .int (nI q_people), .ref m_secrets, .ref m_tried, .ref m_lanes, .ref m_lengths, .ref m_cells])), (m_actMany, .inl (E.2.1 1, 25, .inl f_actMany)), (m_actOf, .inl (E.2.1 1, 800, .inl f_actOf)), (m_pile, .inl (E.2.1 1, 34, .inl g1))]) (k' := 0) (n' := 0) C (run_S (As := [.int x_6]) (rest := [.int 2]) C (r_wantsOf X.2.1 E ro x_6 x_6.toInt rfl) ms_X12_wantsOf wl_X12_215 rfl rfl rfl rfl dX12_depthOf_38) (roK hro) [] [0, 1, 2, 3] rfl rfl rfl rfl (fun r_133 uz hw => ?_)
                rcases hw with hw | hw | hw
                · refine an2 hw ?_
                  clear hw
                  intro he_135 he_136 hw
                  have h_134 := hw
                  clear hw
                  have he_135 := he_135.symm
                  subst he_135
                  subst he_136
                  omega
                · refine an2 hw ?_
                  clear hw
                  intro he_138 he_139 hw
                  have h_137 := hw
                  clear hw
                  have he_138 := he_138.symm
                  subst he_138
                  subst he_139
                  refine ww_eq (ws' := [(hm, .inr (12, [.ref m_manys, .ref m_reals, .ref m_factsOf, .ref m_possible, .int (nI q_undos), .int (nI q_models), .ref m_tape, .int (nI q_taped), .int q_fault, .int q_wrong, .int q_wrongAt, .int q_spot, .int q_place, .int q_token, .int q_value, .ref m_ends, .ref m_letters, .ref m_actOf, .ref m_whom, .ref m_actMany, .ref m_tokens, .ref m_afters, .ref m_afterOf, .int q_counted, .ref m_pile, .ref m_caseMany, .ref m_happen, .ref m_hasIf, .ref m_becomes, .ref m_goneOf, .ref m_heard, .ref m_pairs, .ref m_heaps, .int q_rounds, .int q_heapMany, .ref m_led, .ref m_newAt, .ref m_knowing, .ref m_firsts, .int (nI q_people), .ref m_secrets, .ref m_tried, .ref m_lanes, .ref m_lengths, .ref m_cells])), (m_actMany, .inl (E.2.1 1, 25, .inl f_actMany)), (m_actOf, .inl (E.2.1 1, 800, .inl f_actOf)), (m_pile, .inl (E.2.1 1, 34, .inl g1))]) ?_ rfl rfl rfl
                  refine ww_icmp_ge_t (tgt := 77) C dX12_depthOf_41 (by decide) (by decide) ?_
                  refine ww_aload_n C dX12_depthOf_77 5 rfl rfl ?_
                  refine ww_get C fg_X12_49 0 rfl rfl dX12_depthOf_78 ?_
                  refine ww_iload_n C dX12_depthOf_81 2 rfl rfl ?_
                  refine ww_iload C dX12_depthOf_82 3 rfl ?_
                  refine ww_bipush (v := 8) C dX12_depthOf_84 rfl ?_
                  refine ww_icmp_lt (tgt := 96) C dX12_depthOf_86 (by decide) (fun c_143 => ?_) (fun c_143 => ?_)
                  · have zc_143 : x_6.toInt < 8 := i_lt rfl rfl c_143
                    refine ww_iload C dX12_depthOf_96 1 rfl ?_
                    obtain ⟨f_144, ef_144⟩ : ∃ z : Nat → Int32, upd g1 ((tt - 1) - 1) 0 = z := ⟨_, rfl⟩
                    refine ww_iast (ws' := [(hm, .inr (12, [.ref m_manys, .ref m_reals, .ref m_factsOf, .ref m_possible, .int (nI q_undos), .int (nI q_models), .ref m_tape, .int (nI q_taped), .int q_fault, .int q_wrong, .int q_wrongAt, .int q_spot, .int q_place, .int q_token, .int q_value, .ref m_ends, .ref m_letters, .ref m_actOf, .ref m_whom, .ref m_actMany, .ref m_tokens, .ref m_afters, .ref m_afterOf, .int q_counted, .ref m_pile, .ref m_caseMany, .ref m_happen, .ref m_hasIf, .ref m_becomes, .ref m_goneOf, .ref m_heard, .ref m_pairs, .ref m_heaps, .int q_rounds, .int q_heapMany, .ref m_led, .ref m_newAt, .ref m_knowing, .ref m_firsts, .int (nI q_people), .ref m_secrets, .ref m_tried, .ref m_lanes, .ref m_lengths, .ref m_cells])), (m_actMany, .inl (E.2.1 1, 25, .inl f_actMany)), (m_actOf, .inl (E.2.1 1, 800, .inl f_actOf)), (m_pile, .inl (E.2.1 1, 34, .inl f_144))]) C 3 rfl (vp_in_nI (by omega) (by omega)) (ldn2 (by omega) ef_144) rfl dX12_depthOf_98 ?_
                    refine ww_iinc (j := 2) (v := (nI (((tt - 1) - 1) + 1))) (lv' := [(2, .int (nI (((tt - 1) - 1) + 1))), (6, .int 2), (5, .int 0), (4, .int x_6), (3, .int (nI j_5)), (0, .ref hm), (1, .int (nI sl))]) C dX12_depthOf_99 rfl (nI_add ((tt - 1) - 1) 1) rfl rfl ?_
                    obtain ⟨x_145, ex_145⟩ : ∃ z : Int32, (nI j_5) + Int32.ofInt (-1) = z := ⟨_, rfl⟩
                    have zx_145 : x_145.toInt = ((j_5 : Nat) : Int) - 1 := by rw [← ex_145]; exact i_dec (c := 1) (nI_toInt (n := j_5) (by omega)) rfl (by omega) (by omega)
                    refine ww_iinc (j := 4) (v := x_145) (lv' := [(3, .int x_145), (2, .int (nI (((tt - 1) - 1) + 1))), (6, .int 2), (5, .int 0), (4, .int x_6), (0, .ref hm), (1, .int (nI sl))]) C dX12_depthOf_102 rfl ex_145 rfl rfl ?_
                    refine ww_goto (tgt := 11) C dX12_depthOf_105 (by decide) ?_
                    exact ww_lv [0, 1, 5, 6] rfl (ww_sub [0, 1, 2, 3] rfl rfl (ih_11 x_145 j_5 (((tt - 1) - 1) + 1) f_144 (by omega) (by omega) (by omega) (by first | exact DSI.stp (v := 0) hst (by omega) (by omega) hxj_5 hxrj_5 (by first | exact Or.inl ⟨by omega, rfl⟩ | exact Or.inr ⟨by omega, rfl⟩ | exact Or.inr ⟨by omega, eq_⟩) (Or.inr (Or.inr ⟨by omega, DSI.m1 hst hwr.1 (by omega) ex_131 (DSI.z (k := (((tt - 1) - 1) + 1)) hst hwr.1 (by omega) (show (tt - 1) = (((tt - 1) - 1) + 1) by omega) ex_119 (by omega)) (by have e0 : (0 : Int32).toInt = 0 := rfl; omega)⟩)) ef_144 | exact False.elim (by omega)) (by omega)))
                  · have zc_143 : x_6.toInt ≥ 8 := i_nlt rfl rfl c_143
                    omega
                · refine an2 hw ?_
                  clear hw
                  intro he_141 he_142 hw
                  have h_140 := hw
                  clear hw
                  have he_141 := he_141.symm
                  subst he_141
                  subst he_142
                  refine ww_eq (ws' := [(hm, .inr (12, [.ref m_manys, .ref m_reals, .ref m_factsOf, .ref m_possible, .int (nI q_undos), .int (nI q_models), .ref m_tape, .int (nI q_taped), .int q_fault, .int q_wrong, .int q_wrongAt, .int q_spot, .int q_place, .int q_token, .int q_value, .ref m_ends, .ref m_letters, .ref m_actOf, .ref m_whom, .ref m_actMany, .ref m_tokens, .ref m_afters, .ref m_afterOf, .int q_counted, .ref m_pile, .ref m_caseMany, .ref m_happen, .ref m_hasIf, .ref m_becomes, .ref m_goneOf, .ref m_heard, .ref m_pairs, .ref m_heaps, .int q_rounds, .int q_heapMany, .ref m_led, .ref m_newAt, .ref m_knowing, .ref m_firsts, .int (nI q_people), .ref m_secrets, .ref m_tried, .ref m_lanes, .ref m_lengths, .ref m_cells])), (m_actMany, .inl (E.2.1 1, 25, .inl f_actMany)), (m_actOf, .inl (E.2.1 1, 800, .inl f_actOf)), (m_pile, .inl (E.2.1 1, 34, .inl g1))]) ?_ rfl rfl rfl
                  refine ww_icmp_ge_t (tgt := 77) C dX12_depthOf_41 (by decide) (by decide) ?_
                  refine ww_aload_n C dX12_depthOf_77 5 rfl rfl ?_
                  refine ww_get C fg_X12_49 0 rfl rfl dX12_depthOf_78 ?_
                  refine ww_iload_n C dX12_depthOf_81 2 rfl rfl ?_
                  refine ww_iload C dX12_depthOf_82 3 rfl ?_
                  refine ww_bipush (v := 8) C dX12_depthOf_84 rfl ?_
                  refine ww_icmp_lt (tgt := 96) C dX12_depthOf_86 (by decide) (fun c_146 => ?_) (fun c_146 => ?_)
                  · have zc_146 : x_6.toInt < 8 := i_lt rfl rfl c_146
                    refine ww_iload C dX12_depthOf_96 1 rfl ?_
                    obtain ⟨f_147, ef_147⟩ : ∃ z : Nat → Int32, upd g1 ((tt - 1) - 1) 0 = z := ⟨_, rfl⟩
                    refine ww_iast (ws' := [(hm, .inr (12, [.ref m_manys, .ref m_reals, .ref m_factsOf, .ref m_possible, .int (nI q_undos), .int (nI q_models), .ref m_tape, .int (nI q_taped), .int q_fault, .int q_wrong, .int q_wrongAt, .int q_spot, .int q_place, .int q_token, .int q_value, .ref m_ends, .ref m_letters, .ref m_actOf, .ref m_whom, .ref m_actMany, .ref m_tokens, .ref m_afters, .ref m_afterOf, .int q_counted, .ref m_pile, .ref m_caseMany, .ref m_happen, .ref m_hasIf, .ref m_becomes, .ref m_goneOf, .ref m_heard, .ref m_pairs, .ref m_heaps, .int q_rounds, .int q_heapMany, .ref m_led, .ref m_newAt, .ref m_knowing, .ref m_firsts, .int (nI q_people), .ref m_secrets, .ref m_tried, .ref m_lanes, .ref m_lengths, .ref m_cells])), (m_actMany, .inl (E.2.1 1, 25, .inl f_actMany)), (m_actOf, .inl (E.2.1 1, 800, .inl f_actOf)), (m_pile, .inl (E.2.1 1, 34, .inl f_147))]) C 3 rfl (vp_in_nI (by omega) (by omega)) (ldn2 (by omega) ef_147) rfl dX12_depthOf_98 ?_
                    refine ww_iinc (j := 2) (v := (nI (((tt - 1) - 1) + 1))) (lv' := [(2, .int (nI (((tt - 1) - 1) + 1))), (6, .int 2), (5, .int 0), (4, .int x_6), (3, .int (nI j_5)), (0, .ref hm), (1, .int (nI sl))]) C dX12_depthOf_99 rfl (nI_add ((tt - 1) - 1) 1) rfl rfl ?_
                    obtain ⟨x_148, ex_148⟩ : ∃ z : Int32, (nI j_5) + Int32.ofInt (-1) = z := ⟨_, rfl⟩
                    have zx_148 : x_148.toInt = ((j_5 : Nat) : Int) - 1 := by rw [← ex_148]; exact i_dec (c := 1) (nI_toInt (n := j_5) (by omega)) rfl (by omega) (by omega)
                    refine ww_iinc (j := 4) (v := x_148) (lv' := [(3, .int x_148), (2, .int (nI (((tt - 1) - 1) + 1))), (6, .int 2), (5, .int 0), (4, .int x_6), (0, .ref hm), (1, .int (nI sl))]) C dX12_depthOf_102 rfl ex_148 rfl rfl ?_
                    refine ww_goto (tgt := 11) C dX12_depthOf_105 (by decide) ?_
                    exact ww_lv [0, 1, 5, 6] rfl (ww_sub [0, 1, 2, 3] rfl rfl (ih_11 x_148 j_5 (((tt - 1) - 1) + 1) f_147 (by omega) (by omega) (by omega) (by first | exact DSI.stp (v := 0) hst (by omega) (by omega) hxj_5 hxrj_5 (by first | exact Or.inl ⟨by omega, rfl⟩ | exact Or.inr ⟨by omega, rfl⟩ | exact Or.inr ⟨by omega, eq_⟩) (Or.inr (Or.inr ⟨by omega, DSI.m1 hst hwr.1 (by omega) ex_131 (DSI.z (k := (((tt - 1) - 1) + 1)) hst hwr.1 (by omega) (show (tt - 1) = (((tt - 1) - 1) + 1) by omega) ex_119 (by omega)) (by have e0 : (0 : Int32).toInt = 0 := rfl; omega)⟩)) ef_147 | exact False.elim (by omega)) (by omega)))
                  · have zc_146 : x_6.toInt ≥ 8 := i_nlt rfl rfl c_146
                    omega
              · have zc_132 : x_131.toInt > 0 := i_nle rfl rfl c_132
                refine ww_aload_n C dX12_depthOf_58 5 rfl rfl ?_
                refine ww_get C fg_X12_49 0 rfl rfl dX12_depthOf_59 ?_
                refine ww_iload_n C dX12_depthOf_62 0 rfl rfl ?_
                obtain ⟨x_149, ex_149⟩ : ∃ z : Int32, g1 ((tt - 1) - 1) = z := ⟨_, rfl⟩
                refine ww_iald (v := x_149) C 3 rfl (vp_in_nI (by omega) (by omega)) (ldn (by omega) ex_149) dX12_depthOf_63 ?_
                refine ww_goto (tgt := 69) C dX12_depthOf_64 (by decide) ?_
                refine ww_istore (lv' := [(5, .int x_149), (2, .int (nI ((tt - 1) - 1))), (6, .int 1), (4, .int x_6), (3, .int (nI j_5)), (0, .ref hm), (1, .int (nI sl))]) C dX12_depthOf_69 rfl rfl ?_
                refine ww_iinc (j := 2) (v := 2) (lv' := [(6, .int 2), (5, .int x_149), (2, .int (nI ((tt - 1) - 1))), (4, .int x_6), (3, .int (nI j_5)), (0, .ref hm), (1, .int (nI sl))]) C dX12_depthOf_71 rfl rfl rfl rfl ?_
                refine ww_goto (tgt := 34) C dX12_depthOf_74 (by decide) ?_
                refine ww_iload C dX12_depthOf_34 0 rfl ?_
                refine ww_iload C dX12_depthOf_36 3 rfl ?_
                refine ww_ci (wr := [(hm, .inr (12, [.ref m_manys, .ref m_reals, .ref m_factsOf, .ref m_possible, .int (nI q_undos), .int (nI q_models), .ref m_tape, .int (nI q_taped), .int q_fault, .int q_wrong, .int q_wrongAt, .int q_spot, .int q_place, .int q_token, .int q_value, .ref m_ends, .ref m_letters, .ref m_actOf, .ref m_whom, .ref m_actMany, .ref m_tokens, .ref m_afters, .ref m_afterOf, .int q_counted, .ref m_pile, .ref m_caseMany, .ref m_happen, .ref m_hasIf, .ref m_becomes, .ref m_goneOf, .ref m_heard, .ref m_pairs, .ref m_heaps, .int q_rounds, .int q_heapMany, .ref m_led, .ref m_newAt, .ref m_knowing, .ref m_firsts, .int (nI q_people), .ref m_secrets, .ref m_tried, .ref m_lanes, .ref m_lengths, .ref m_cells])), (m_actMany, .inl (E.2.1 1, 25, .inl f_actMany)), (m_actOf, .inl (E.2.1 1, 800, .inl f_actOf)), (m_pile, .inl (E.2.1 1, 34, .inl g1))]) (k' := 0) (n' := 0) C (run_S (As := [.int x_6]) (rest := [.int 2]) C (r_wantsOf X.2.1 E ro x_6 x_6.toInt rfl) ms_X12_wantsOf wl_X12_215 rfl rfl rfl rfl dX12_depthOf_38) (roK hro) [] [0, 1, 2, 3] rfl rfl rfl rfl (fun r_150 uz hw => ?_)
                rcases hw with hw | hw | hw
                · refine an2 hw ?_
                  clear hw
                  intro he_152 he_153 hw
                  have h_151 := hw
                  clear hw
                  have he_152 := he_152.symm
                  subst he_152
                  subst he_153
                  omega
                · refine an2 hw ?_
                  clear hw
                  intro he_155 he_156 hw
                  have h_154 := hw
                  clear hw
                  have he_155 := he_155.symm
                  subst he_155
                  subst he_156
                  refine ww_eq (ws' := [(hm, .inr (12, [.ref m_manys, .ref m_reals, .ref m_factsOf, .ref m_possible, .int (nI q_undos), .int (nI q_models), .ref m_tape, .int (nI q_taped), .int q_fault, .int q_wrong, .int q_wrongAt, .int q_spot, .int q_place, .int q_token, .int q_value, .ref m_ends, .ref m_letters, .ref m_actOf, .ref m_whom, .ref m_actMany, .ref m_tokens, .ref m_afters, .ref m_afterOf, .int q_counted, .ref m_pile, .ref m_caseMany, .ref m_happen, .ref m_hasIf, .ref m_becomes, .ref m_goneOf, .ref m_heard, .ref m_pairs, .ref m_heaps, .int q_rounds, .int q_heapMany, .ref m_led, .ref m_newAt, .ref m_knowing, .ref m_firsts, .int (nI q_people), .ref m_secrets, .ref m_tried, .ref m_lanes, .ref m_lengths, .ref m_cells])), (m_actMany, .inl (E.2.1 1, 25, .inl f_actMany)), (m_actOf, .inl (E.2.1 1, 800, .inl f_actOf)), (m_pile, .inl (E.2.1 1, 34, .inl g1))]) ?_ rfl rfl rfl
                  refine ww_icmp_ge_t (tgt := 77) C dX12_depthOf_41 (by decide) (by decide) ?_
                  refine ww_aload_n C dX12_depthOf_77 5 rfl rfl ?_
                  refine ww_get C fg_X12_49 0 rfl rfl dX12_depthOf_78 ?_
                  refine ww_iload_n C dX12_depthOf_81 2 rfl rfl ?_
                  refine ww_iload C dX12_depthOf_82 3 rfl ?_
                  refine ww_bipush (v := 8) C dX12_depthOf_84 rfl ?_
                  refine ww_icmp_lt (tgt := 96) C dX12_depthOf_86 (by decide) (fun c_160 => ?_) (fun c_160 => ?_)
                  · have zc_160 : x_6.toInt < 8 := i_lt rfl rfl c_160
                    refine ww_iload C dX12_depthOf_96 1 rfl ?_
                    obtain ⟨f_161, ef_161⟩ : ∃ z : Nat → Int32, upd g1 ((tt - 1) - 1) x_149 = z := ⟨_, rfl⟩
                    refine ww_iast (ws' := [(hm, .inr (12, [.ref m_manys, .ref m_reals, .ref m_factsOf, .ref m_possible, .int (nI q_undos), .int (nI q_models), .ref m_tape, .int (nI q_taped), .int q_fault, .int q_wrong, .int q_wrongAt, .int q_spot, .int q_place, .int q_token, .int q_value, .ref m_ends, .ref m_letters, .ref m_actOf, .ref m_whom, .ref m_actMany, .ref m_tokens, .ref m_afters, .ref m_afterOf, .int q_counted, .ref m_pile, .ref m_caseMany, .ref m_happen, .ref m_hasIf, .ref m_becomes, .ref m_goneOf, .ref m_heard, .ref m_pairs, .ref m_heaps, .int q_rounds, .int q_heapMany, .ref m_led, .ref m_newAt, .ref m_knowing, .ref m_firsts, .int (nI q_people), .ref m_secrets, .ref m_tried, .ref m_lanes, .ref m_lengths, .ref m_cells])), (m_actMany, .inl (E.2.1 1, 25, .inl f_actMany)), (m_actOf, .inl (E.2.1 1, 800, .inl f_actOf)), (m_pile, .inl (E.2.1 1, 34, .inl f_161))]) C 3 rfl (vp_in_nI (by omega) (by omega)) (ldn2 (by omega) ef_161) rfl dX12_depthOf_98 ?_
                    refine ww_iinc (j := 2) (v := (nI (((tt - 1) - 1) + 1))) (lv' := [(2, .int (nI (((tt - 1) - 1) + 1))), (6, .int 2), (5, .int x_149), (4, .int x_6), (3, .int (nI j_5)), (0, .ref hm), (1, .int (nI sl))]) C dX12_depthOf_99 rfl (nI_add ((tt - 1) - 1) 1) rfl rfl ?_
                    obtain ⟨x_162, ex_162⟩ : ∃ z : Int32, (nI j_5) + Int32.ofInt (-1) = z := ⟨_, rfl⟩
                    have zx_162 : x_162.toInt = ((j_5 : Nat) : Int) - 1 := by rw [← ex_162]; exact i_dec (c := 1) (nI_toInt (n := j_5) (by omega)) rfl (by omega) (by omega)
                    refine ww_iinc (j := 4) (v := x_162) (lv' := [(3, .int x_162), (2, .int (nI (((tt - 1) - 1) + 1))), (6, .int 2), (5, .int x_149), (4, .int x_6), (0, .ref hm), (1, .int (nI sl))]) C dX12_depthOf_102 rfl ex_162 rfl rfl ?_
                    refine ww_goto (tgt := 11) C dX12_depthOf_105 (by decide) ?_
                    exact ww_lv [0, 1, 5, 6] rfl (ww_sub [0, 1, 2, 3] rfl rfl (ih_11 x_162 j_5 (((tt - 1) - 1) + 1) f_161 (by omega) (by omega) (by omega) (by first | exact DSI.stp (v := x_149) hst (by omega) (by omega) hxj_5 hxrj_5 (by first | exact Or.inl ⟨by omega, rfl⟩ | exact Or.inr ⟨by omega, rfl⟩ | exact Or.inr ⟨by omega, eq_⟩) (Or.inr (Or.inr ⟨by omega, DSI.m2 hst hwr.1 (by omega) ex_131 (DSI.z (k := (((tt - 1) - 1) + 1)) hst hwr.1 (by omega) (show (tt - 1) = (((tt - 1) - 1) + 1) by omega) ex_119 (by omega)) (by have e0 : (0 : Int32).toInt = 0 := rfl; omega) ex_149⟩)) ef_161 | exact False.elim (by omega)) (by omega)))
                  · have zc_160 : x_6.toInt ≥ 8 := i_nlt rfl rfl c_160
                    omega
                · refine an2 hw ?_
                  clear hw
                  intro he_158 he_159 hw
                  have h_157 := hw
                  clear hw
                  have he_158 := he_158.symm
                  subst he_158
                  subst he_159
                  refine ww_eq (ws' := [(hm, .inr (12, [.ref m_manys, .ref m_reals, .ref m_factsOf, .ref m_possible, .int (nI q_undos), .int (nI q_models), .ref m_tape, .int (nI q_taped), .int q_fault, .int q_wrong, .int q_wrongAt, .int q_spot, .int q_place, .int q_token, .int q_value, .ref m_ends, .ref m_letters, .ref m_actOf, .ref m_whom, .ref m_actMany, .ref m_tokens, .ref m_afters, .ref m_afterOf, .int q_counted, .ref m_pile, .ref m_caseMany, .ref m_happen, .ref m_hasIf, .ref m_becomes, .ref m_goneOf, .ref m_heard, .ref m_pairs, .ref m_heaps, .int q_rounds, .int q_heapMany, .ref m_led, .ref m_newAt, .ref m_knowing, .ref m_firsts, .int (nI q_people), .ref m_secrets, .ref m_tried, .ref m_lanes, .ref m_lengths, .ref m_cells])), (m_actMany, .inl (E.2.1 1, 25, .inl f_actMany)), (m_actOf, .inl (E.2.1 1, 800, .inl f_actOf)), (m_pile, .inl (E.2.1 1, 34, .inl g1))]) ?_ rfl rfl rfl
                  refine ww_icmp_ge_t (tgt := 77) C dX12_depthOf_41 (by decide) (by decide) ?_
                  refine ww_aload_n C dX12_depthOf_77 5 rfl rfl ?_
                  refine ww_get C fg_X12_49 0 rfl rfl dX12_depthOf_78 ?_
                  refine ww_iload_n C dX12_depthOf_81 2 rfl rfl ?_
                  refine ww_iload C dX12_depthOf_82 3 rfl ?_
                  refine ww_bipush (v := 8) C dX12_depthOf_84 rfl ?_
                  refine ww_icmp_lt (tgt := 96) C dX12_depthOf_86 (by decide) (fun c_163 => ?_) (fun c_163 => ?_)
                  · have zc_163 : x_6.toInt < 8 := i_lt rfl rfl c_163
                    refine ww_iload C dX12_depthOf_96 1 rfl ?_
                    obtain ⟨f_164, ef_164⟩ : ∃ z : Nat → Int32, upd g1 ((tt - 1) - 1) x_149 = z := ⟨_, rfl⟩
                    refine ww_iast (ws' := [(hm, .inr (12, [.ref m_manys, .ref m_reals, .ref m_factsOf, .ref m_possible, .int (nI q_undos), .int (nI q_models), .ref m_tape, .int (nI q_taped), .int q_fault, .int q_wrong, .int q_wrongAt, .int q_spot, .int q_place, .int q_token, .int q_value, .ref m_ends, .ref m_letters, .ref m_actOf, .ref m_whom, .ref m_actMany, .ref m_tokens, .ref m_afters, .ref m_afterOf, .int q_counted, .ref m_pile, .ref m_caseMany, .ref m_happen, .ref m_hasIf, .ref m_becomes, .ref m_goneOf, .ref m_heard, .ref m_pairs, .ref m_heaps, .int q_rounds, .int q_heapMany, .ref m_led, .ref m_newAt, .ref m_knowing, .ref m_firsts, .int (nI q_people), .ref m_secrets, .ref m_tried, .ref m_lanes, .ref m_lengths, .ref m_cells])), (m_actMany, .inl (E.2.1 1, 25, .inl f_actMany)), (m_actOf, .inl (E.2.1 1, 800, .inl f_actOf)), (m_pile, .inl (E.2.1 1, 34, .inl f_164))]) C 3 rfl (vp_in_nI (by omega) (by omega)) (ldn2 (by omega) ef_164) rfl dX12_depthOf_98 ?_
                    refine ww_iinc (j := 2) (v := (nI (((tt - 1) - 1) + 1))) (lv' := [(2, .int (nI (((tt - 1) - 1) + 1))), (6, .int 2), (5, .int x_149), (4, .int x_6), (3, .int (nI j_5)), (0, .ref hm), (1, .int (nI sl))]) C dX12_depthOf_99 rfl (nI_add ((tt - 1) - 1) 1) rfl rfl ?_
                    obtain ⟨x_165, ex_165⟩ : ∃ z : Int32, (nI j_5) + Int32.ofInt (-1) = z := ⟨_, rfl⟩
                    have zx_165 : x_165.toInt = ((j_5 : Nat) : Int) - 1 := by rw [← ex_165]; exact i_dec (c := 1) (nI_toInt (n := j_5) (by omega)) rfl (by omega) (by omega)
                    refine ww_iinc (j := 4) (v := x_165) (lv' := [(3, .int x_165), (2, .int (nI (((tt - 1) - 1) + 1))), (6, .int 2), (5, .int x_149), (4, .int x_6), (0, .ref hm), (1, .int (nI sl))]) C dX12_depthOf_102 rfl ex_165 rfl rfl ?_
                    refine ww_goto (tgt := 11) C dX12_depthOf_105 (by decide) ?_
                    exact ww_lv [0, 1, 5, 6] rfl (ww_sub [0, 1, 2, 3] rfl rfl (ih_11 x_165 j_5 (((tt - 1) - 1) + 1) f_164 (by omega) (by omega) (by omega) (by first | exact DSI.stp (v := x_149) hst (by omega) (by omega) hxj_5 hxrj_5 (by first | exact Or.inl ⟨by omega, rfl⟩ | exact Or.inr ⟨by omega, rfl⟩ | exact Or.inr ⟨by omega, eq_⟩) (Or.inr (Or.inr ⟨by omega, DSI.m2 hst hwr.1 (by omega) ex_131 (DSI.z (k := (((tt - 1) - 1) + 1)) hst hwr.1 (by omega) (show (tt - 1) = (((tt - 1) - 1) + 1) by omega) ex_119 (by omega)) (by have e0 : (0 : Int32).toInt = 0 := rfl; omega) ex_149⟩)) ef_164 | exact False.elim (by omega)) (by omega)))
                  · have zc_163 : x_6.toInt ≥ 8 := i_nlt rfl rfl c_163
                    omega
            · refine an2 hw ?_
              clear hw
              intro he_129 he_130 hw
              have h_128 := hw
              clear hw
              have he_129 := he_129.symm
              subst he_129
              subst he_130
              refine ww_eq (ws' := [(hm, .inr (12, [.ref m_manys, .ref m_reals, .ref m_factsOf, .ref m_possible, .int (nI q_undos), .int (nI q_models), .ref m_tape, .int (nI q_taped), .int q_fault, .int q_wrong, .int q_wrongAt, .int q_spot, .int q_place, .int q_token, .int q_value, .ref m_ends, .ref m_letters, .ref m_actOf, .ref m_whom, .ref m_actMany, .ref m_tokens, .ref m_afters, .ref m_afterOf, .int q_counted, .ref m_pile, .ref m_caseMany, .ref m_happen, .ref m_hasIf, .ref m_becomes, .ref m_goneOf, .ref m_heard, .ref m_pairs, .ref m_heaps, .int q_rounds, .int q_heapMany, .ref m_led, .ref m_newAt, .ref m_knowing, .ref m_firsts, .int (nI q_people), .ref m_secrets, .ref m_tried, .ref m_lanes, .ref m_lengths, .ref m_cells])), (m_actMany, .inl (E.2.1 1, 25, .inl f_actMany)), (m_actOf, .inl (E.2.1 1, 800, .inl f_actOf)), (m_pile, .inl (E.2.1 1, 34, .inl g1))]) ?_ rfl rfl rfl
              refine ww_icmp_ge_t (tgt := 77) C dX12_depthOf_41 (by decide) (by decide) ?_
              refine ww_aload_n C dX12_depthOf_77 5 rfl rfl ?_
              refine ww_get C fg_X12_49 0 rfl rfl dX12_depthOf_78 ?_
              refine ww_iload_n C dX12_depthOf_81 2 rfl rfl ?_
              refine ww_iload C dX12_depthOf_82 3 rfl ?_
              refine ww_bipush (v := 8) C dX12_depthOf_84 rfl ?_
              refine ww_icmp_lt (tgt := 96) C dX12_depthOf_86 (by decide) (fun c_166 => ?_) (fun c_166 => ?_)
              · have zc_166 : x_6.toInt < 8 := i_lt rfl rfl c_166
                refine ww_iload C dX12_depthOf_96 1 rfl ?_
                obtain ⟨f_167, ef_167⟩ : ∃ z : Nat → Int32, upd g1 (tt - 1) 0 = z := ⟨_, rfl⟩
                refine ww_iast (ws' := [(hm, .inr (12, [.ref m_manys, .ref m_reals, .ref m_factsOf, .ref m_possible, .int (nI q_undos), .int (nI q_models), .ref m_tape, .int (nI q_taped), .int q_fault, .int q_wrong, .int q_wrongAt, .int q_spot, .int q_place, .int q_token, .int q_value, .ref m_ends, .ref m_letters, .ref m_actOf, .ref m_whom, .ref m_actMany, .ref m_tokens, .ref m_afters, .ref m_afterOf, .int q_counted, .ref m_pile, .ref m_caseMany, .ref m_happen, .ref m_hasIf, .ref m_becomes, .ref m_goneOf, .ref m_heard, .ref m_pairs, .ref m_heaps, .int q_rounds, .int q_heapMany, .ref m_led, .ref m_newAt, .ref m_knowing, .ref m_firsts, .int (nI q_people), .ref m_secrets, .ref m_tried, .ref m_lanes, .ref m_lengths, .ref m_cells])), (m_actMany, .inl (E.2.1 1, 25, .inl f_actMany)), (m_actOf, .inl (E.2.1 1, 800, .inl f_actOf)), (m_pile, .inl (E.2.1 1, 34, .inl f_167))]) C 3 rfl (vp_in_nI (by omega) (by omega)) (ldn2 (by omega) ef_167) rfl dX12_depthOf_98 ?_
                refine ww_iinc (j := 2) (v := (nI ((tt - 1) + 1))) (lv' := [(2, .int (nI ((tt - 1) + 1))), (6, .int 1), (5, .int 0), (4, .int x_6), (3, .int (nI j_5)), (0, .ref hm), (1, .int (nI sl))]) C dX12_depthOf_99 rfl (nI_add (tt - 1) 1) rfl rfl ?_
                obtain ⟨x_168, ex_168⟩ : ∃ z : Int32, (nI j_5) + Int32.ofInt (-1) = z := ⟨_, rfl⟩
                have zx_168 : x_168.toInt = ((j_5 : Nat) : Int) - 1 := by rw [← ex_168]; exact i_dec (c := 1) (nI_toInt (n := j_5) (by omega)) rfl (by omega) (by omega)
                refine ww_iinc (j := 4) (v := x_168) (lv' := [(3, .int x_168), (2, .int (nI ((tt - 1) + 1))), (6, .int 1), (5, .int 0), (4, .int x_6), (0, .ref hm), (1, .int (nI sl))]) C dX12_depthOf_102 rfl ex_168 rfl rfl ?_
                refine ww_goto (tgt := 11) C dX12_depthOf_105 (by decide) ?_
                exact ww_lv [0, 1, 5, 6] rfl (ww_sub [0, 1, 2, 3] rfl rfl (ih_11 x_168 j_5 ((tt - 1) + 1) f_167 (by omega) (by omega) (by omega) (by first | exact DSI.stp (v := 0) hst (by omega) (by omega) hxj_5 hxrj_5 (by first | exact Or.inl ⟨by omega, rfl⟩ | exact Or.inr ⟨by omega, rfl⟩ | exact Or.inr ⟨by omega, eq_⟩) (Or.inr (Or.inl ⟨by omega, (DSI.z (k := (tt - 1)) hst hwr.1 (by omega) (show (tt - 1) = (tt - 1) by omega) ex_119 (by omega))⟩)) ef_167 | exact False.elim (by omega)) (by omega)))
              · have zc_166 : x_6.toInt ≥ 8 := i_nlt rfl rfl c_166
                refine ww_iload C dX12_depthOf_89 1 rfl ?_
                refine ww_iconst (v := 1) C dX12_depthOf_91 rfl ?_
                refine ww_iadd (v := 1) C dX12_depthOf_92 (by decide) ?_
                refine ww_goto (tgt := 98) C dX12_depthOf_93 (by decide) ?_
                obtain ⟨f_169, ef_169⟩ : ∃ z : Nat → Int32, upd g1 (tt - 1) 1 = z := ⟨_, rfl⟩
                refine ww_iast (ws' := [(hm, .inr (12, [.ref m_manys, .ref m_reals, .ref m_factsOf, .ref m_possible, .int (nI q_undos), .int (nI q_models), .ref m_tape, .int (nI q_taped), .int q_fault, .int q_wrong, .int q_wrongAt, .int q_spot, .int q_place, .int q_token, .int q_value, .ref m_ends, .ref m_letters, .ref m_actOf, .ref m_whom, .ref m_actMany, .ref m_tokens, .ref m_afters, .ref m_afterOf, .int q_counted, .ref m_pile, .ref m_caseMany, .ref m_happen, .ref m_hasIf, .ref m_becomes, .ref m_goneOf, .ref m_heard, .ref m_pairs, .ref m_heaps, .int q_rounds, .int q_heapMany, .ref m_led, .ref m_newAt, .ref m_knowing, .ref m_firsts, .int (nI q_people), .ref m_secrets, .ref m_tried, .ref m_lanes, .ref m_lengths, .ref m_cells])), (m_actMany, .inl (E.2.1 1, 25, .inl f_actMany)), (m_actOf, .inl (E.2.1 1, 800, .inl f_actOf)), (m_pile, .inl (E.2.1 1, 34, .inl f_169))]) C 3 rfl (vp_in_nI (by omega) (by omega)) (ldn2 (by omega) ef_169) rfl dX12_depthOf_98 ?_
                refine ww_iinc (j := 2) (v := (nI ((tt - 1) + 1))) (lv' := [(2, .int (nI ((tt - 1) + 1))), (6, .int 1), (5, .int 0), (4, .int x_6), (3, .int (nI j_5)), (0, .ref hm), (1, .int (nI sl))]) C dX12_depthOf_99 rfl (nI_add (tt - 1) 1) rfl rfl ?_
                obtain ⟨x_170, ex_170⟩ : ∃ z : Int32, (nI j_5) + Int32.ofInt (-1) = z := ⟨_, rfl⟩
                have zx_170 : x_170.toInt = ((j_5 : Nat) : Int) - 1 := by rw [← ex_170]; exact i_dec (c := 1) (nI_toInt (n := j_5) (by omega)) rfl (by omega) (by omega)
                refine ww_iinc (j := 4) (v := x_170) (lv' := [(3, .int x_170), (2, .int (nI ((tt - 1) + 1))), (6, .int 1), (5, .int 0), (4, .int x_6), (0, .ref hm), (1, .int (nI sl))]) C dX12_depthOf_102 rfl ex_170 rfl rfl ?_
                refine ww_goto (tgt := 11) C dX12_depthOf_105 (by decide) ?_
                exact ww_lv [0, 1, 5, 6] rfl (ww_sub [0, 1, 2, 3] rfl rfl (ih_11 x_170 j_5 ((tt - 1) + 1) f_169 (by omega) (by omega) (by omega) (by first | exact DSI.stp (v := 0) hst (by omega) (by omega) hxj_5 hxrj_5 (by first | exact Or.inl ⟨by omega, rfl⟩ | exact Or.inr ⟨by omega, rfl⟩ | exact Or.inr ⟨by omega, eq_⟩) (Or.inr (Or.inl ⟨by omega, (DSI.z (k := (tt - 1)) hst hwr.1 (by omega) (show (tt - 1) = (tt - 1) by omega) ex_119 (by omega))⟩)) ef_169 | exact False.elim (by omega)) (by omega)))
          · have zc_120 : x_119.toInt > 0 := i_nle rfl rfl c_120
            refine ww_aload_n C dX12_depthOf_58 5 rfl rfl ?_
            refine ww_get C fg_X12_49 0 rfl rfl dX12_depthOf_59 ?_
            refine ww_iload_n C dX12_depthOf_62 0 rfl rfl ?_
            obtain ⟨x_171, ex_171⟩ : ∃ z : Int32, g1 (tt - 1) = z := ⟨_, rfl⟩
            refine ww_iald (v := x_171) C 3 rfl (vp_in_nI (by omega) (by omega)) (ldn (by omega) ex_171) dX12_depthOf_63 ?_
            refine ww_goto (tgt := 69) C dX12_depthOf_64 (by decide) ?_
            refine ww_istore (lv' := [(5, .int x_171), (2, .int (nI (tt - 1))), (6, .int 0), (4, .int x_6), (3, .int (nI j_5)), (0, .ref hm), (1, .int (nI sl))]) C dX12_depthOf_69 rfl rfl ?_
            refine ww_iinc (j := 2) (v := 1) (lv' := [(6, .int 1), (5, .int x_171), (2, .int (nI (tt - 1))), (4, .int x_6), (3, .int (nI j_5)), (0, .ref hm), (1, .int (nI sl))]) C dX12_depthOf_71 rfl rfl rfl rfl ?_
            refine ww_goto (tgt := 34) C dX12_depthOf_74 (by decide) ?_
            refine ww_iload C dX12_depthOf_34 0 rfl ?_
            refine ww_iload C dX12_depthOf_36 3 rfl ?_
            refine ww_ci (wr := [(hm, .inr (12, [.ref m_manys, .ref m_reals, .ref m_factsOf, .ref m_possible, .int (nI q_undos), .int (nI q_models), .ref m_tape, .int (nI q_taped), .int q_fault, .int q_wrong, .int q_wrongAt, .int q_spot, .int q_place, .int q_token, .int q_value, .ref m_ends, .ref m_letters, .ref m_actOf, .ref m_whom, .ref m_actMany, .ref m_tokens, .ref m_afters, .ref m_afterOf, .int q_counted, .ref m_pile, .ref m_caseMany, .ref m_happen, .ref m_hasIf, .ref m_becomes, .ref m_goneOf, .ref m_heard, .ref m_pairs, .ref m_heaps, .int q_rounds, .int q_heapMany, .ref m_led, .ref m_newAt, .ref m_knowing, .ref m_firsts, .int (nI q_people), .ref m_secrets, .ref m_tried, .ref m_lanes, .ref m_lengths, .ref m_cells])), (m_actMany, .inl (E.2.1 1, 25, .inl f_actMany)), (m_actOf, .inl (E.2.1 1, 800, .inl f_actOf)), (m_pile, .inl (E.2.1 1, 34, .inl g1))]) (k' := 0) (n' := 0) C (run_S (As := [.int x_6]) (rest := [.int 1]) C (r_wantsOf X.2.1 E ro x_6 x_6.toInt rfl) ms_X12_wantsOf wl_X12_215 rfl rfl rfl rfl dX12_depthOf_38) (roK hro) [] [0, 1, 2, 3] rfl rfl rfl rfl (fun r_172 uz hw => ?_)
            rcases hw with hw | hw | hw
            · refine an2 hw ?_
              clear hw
              intro he_174 he_175 hw
              have h_173 := hw
              clear hw
              have he_174 := he_174.symm
              subst he_174
              subst he_175
              omega
            · refine an2 hw ?_
              clear hw
              intro he_177 he_178 hw
              have h_176 := hw
              clear hw
              have he_177 := he_177.symm
              subst he_177
              subst he_178
              refine ww_eq (ws' := [(hm, .inr (12, [.ref m_manys, .ref m_reals, .ref m_factsOf, .ref m_possible, .int (nI q_undos), .int (nI q_models), .ref m_tape, .int (nI q_taped), .int q_fault, .int q_wrong, .int q_wrongAt, .int q_spot, .int q_place, .int q_token, .int q_value, .ref m_ends, .ref m_letters, .ref m_actOf, .ref m_whom, .ref m_actMany, .ref m_tokens, .ref m_afters, .ref m_afterOf, .int q_counted, .ref m_pile, .ref m_caseMany, .ref m_happen, .ref m_hasIf, .ref m_becomes, .ref m_goneOf, .ref m_heard, .ref m_pairs, .ref m_heaps, .int q_rounds, .int q_heapMany, .ref m_led, .ref m_newAt, .ref m_knowing, .ref m_firsts, .int (nI q_people), .ref m_secrets, .ref m_tried, .ref m_lanes, .ref m_lengths, .ref m_cells])), (m_actMany, .inl (E.2.1 1, 25, .inl f_actMany)), (m_actOf, .inl (E.2.1 1, 800, .inl f_actOf)), (m_pile, .inl (E.2.1 1, 34, .inl g1))]) ?_ rfl rfl rfl
              refine ww_icmp_ge_f (tgt := 77) C dX12_depthOf_41 (by decide) (by decide) ?_
              refine ww_iinc (j := 2) (v := (nI ((tt - 1) - 1))) (lv' := [(2, .int (nI ((tt - 1) - 1))), (6, .int 1), (5, .int x_171), (4, .int x_6), (3, .int (nI j_5)), (0, .ref hm), (1, .int (nI sl))]) C dX12_depthOf_44 rfl (nI_subc (a := (tt - 1)) (c := 1) (by omega) rfl) rfl rfl ?_
              refine ww_aload_n C dX12_depthOf_47 5 rfl rfl ?_
              refine ww_get C fg_X12_49 0 rfl rfl dX12_depthOf_48 ?_
              refine ww_iload_n C dX12_depthOf_51 0 rfl rfl ?_
              obtain ⟨x_182, ex_182⟩ : ∃ z : Int32, g1 ((tt - 1) - 1) = z := ⟨_, rfl⟩
              refine ww_iald (v := x_182) C 3 rfl (vp_in_nI (by omega) (by omega)) (ldn (by omega) ex_182) dX12_depthOf_52 ?_
              refine ww_iload C dX12_depthOf_53 2 rfl ?_
              refine ww_icmp_le (tgt := 67) C dX12_depthOf_55 (by decide) (fun c_183 => ?_) (fun c_183 => ?_)
              · have zc_183 : x_182.toInt ≤ x_171.toInt := i_le rfl rfl c_183
                refine ww_iload C dX12_depthOf_67 2 rfl ?_
                refine ww_istore (lv' := [(5, .int x_171), (2, .int (nI ((tt - 1) - 1))), (6, .int 1), (4, .int x_6), (3, .int (nI j_5)), (0, .ref hm), (1, .int (nI sl))]) C dX12_depthOf_69 rfl rfl ?_
                refine ww_iinc (j := 2) (v := 2) (lv' := [(6, .int 2), (5, .int x_171), (2, .int (nI ((tt - 1) - 1))), (4, .int x_6), (3, .int (nI j_5)), (0, .ref hm), (1, .int (nI sl))]) C dX12_depthOf_71 rfl rfl rfl rfl ?_
                refine ww_goto (tgt := 34) C dX12_depthOf_74 (by decide) ?_
                refine ww_iload C dX12_depthOf_34 0 rfl ?_
                refine ww_iload C dX12_depthOf_36 3 rfl ?_
                refine ww_ci (wr := [(hm, .inr (12, [.ref m_manys, .ref m_reals, .ref m_factsOf, .ref m_possible, .int (nI q_undos), .int (nI q_models), .ref m_tape, .int (nI q_taped), .int q_fault, .int q_wrong, .int q_wrongAt, .int q_spot, .int q_place, .int q_token, .int q_value, .ref m_ends, .ref m_letters, .ref m_actOf, .ref m_whom, .ref m_actMany, .ref m_tokens, .ref m_afters, .ref m_afterOf, .int q_counted, .ref m_pile, .ref m_caseMany, .ref m_happen, .ref m_hasIf, .ref m_becomes, .ref m_goneOf, .ref m_heard, .ref m_pairs, .ref m_heaps, .int q_rounds, .int q_heapMany, .ref m_led, .ref m_newAt, .ref m_knowing, .ref m_firsts, .int (nI q_people), .ref m_secrets, .ref m_tried, .ref m_lanes, .ref m_lengths, .ref m_cells])), (m_actMany, .inl (E.2.1 1, 25, .inl f_actMany)), (m_actOf, .inl (E.2.1 1, 800, .inl f_actOf)), (m_pile, .inl (E.2.1 1, 34, .inl g1))]) (k' := 0) (n' := 0) C (run_S (As := [.int x_6]) (rest := [.int 2]) C (r_wantsOf X.2.1 E ro x_6 x_6.toInt rfl) ms_X12_wantsOf wl_X12_215 rfl rfl rfl rfl dX12_depthOf_38) (roK hro) [] [0, 1, 2, 3] rfl rfl rfl rfl (fun r_184 uz hw => ?_)
                rcases hw with hw | hw | hw
                · refine an2 hw ?_
                  clear hw
                  intro he_186 he_187 hw
                  have h_185 := hw
                  clear hw
                  have he_186 := he_186.symm
                  subst he_186
                  subst he_187
                  omega
                · refine an2 hw ?_
                  clear hw
                  intro he_189 he_190 hw
                  have h_188 := hw
                  clear hw
                  have he_189 := he_189.symm
                  subst he_189
                  subst he_190
                  refine ww_eq (ws' := [(hm, .inr (12, [.ref m_manys, .ref m_reals, .ref m_factsOf, .ref m_possible, .int (nI q_undos), .int (nI q_models), .ref m_tape, .int (nI q_taped), .int q_fault, .int q_wrong, .int q_wrongAt, .int q_spot, .int q_place, .int q_token, .int q_value, .ref m_ends, .ref m_letters, .ref m_actOf, .ref m_whom, .ref m_actMany, .ref m_tokens, .ref m_afters, .ref m_afterOf, .int q_counted, .ref m_pile, .ref m_caseMany, .ref m_happen, .ref m_hasIf, .ref m_becomes, .ref m_goneOf, .ref m_heard, .ref m_pairs, .ref m_heaps, .int q_rounds, .int q_heapMany, .ref m_led, .ref m_newAt, .ref m_knowing, .ref m_firsts, .int (nI q_people), .ref m_secrets, .ref m_tried, .ref m_lanes, .ref m_lengths, .ref m_cells])), (m_actMany, .inl (E.2.1 1, 25, .inl f_actMany)), (m_actOf, .inl (E.2.1 1, 800, .inl f_actOf)), (m_pile, .inl (E.2.1 1, 34, .inl g1))]) ?_ rfl rfl rfl
                  refine ww_icmp_ge_t (tgt := 77) C dX12_depthOf_41 (by decide) (by decide) ?_
                  refine ww_aload_n C dX12_depthOf_77 5 rfl rfl ?_
                  refine ww_get C fg_X12_49 0 rfl rfl dX12_depthOf_78 ?_
                  refine ww_iload_n C dX12_depthOf_81 2 rfl rfl ?_
                  refine ww_iload C dX12_depthOf_82 3 rfl ?_
                  refine ww_bipush (v := 8) C dX12_depthOf_84 rfl ?_
                  refine ww_icmp_lt (tgt := 96) C dX12_depthOf_86 (by decide) (fun c_194 => ?_) (fun c_194 => ?_)
                  · have zc_194 : x_6.toInt < 8 := i_lt rfl rfl c_194
                    refine ww_iload C dX12_depthOf_96 1 rfl ?_
                    obtain ⟨f_195, ef_195⟩ : ∃ z : Nat → Int32, upd g1 ((tt - 1) - 1) x_171 = z := ⟨_, rfl⟩
                    refine ww_iast (ws' := [(hm, .inr (12, [.ref m_manys, .ref m_reals, .ref m_factsOf, .ref m_possible, .int (nI q_undos), .int (nI q_models), .ref m_tape, .int (nI q_taped), .int q_fault, .int q_wrong, .int q_wrongAt, .int q_spot, .int q_place, .int q_token, .int q_value, .ref m_ends, .ref m_letters, .ref m_actOf, .ref m_whom, .ref m_actMany, .ref m_tokens, .ref m_afters, .ref m_afterOf, .int q_counted, .ref m_pile, .ref m_caseMany, .ref m_happen, .ref m_hasIf, .ref m_becomes, .ref m_goneOf, .ref m_heard, .ref m_pairs, .ref m_heaps, .int q_rounds, .int q_heapMany, .ref m_led, .ref m_newAt, .ref m_knowing, .ref m_firsts, .int (nI q_people), .ref m_secrets, .ref m_tried, .ref m_lanes, .ref m_lengths, .ref m_cells])), (m_actMany, .inl (E.2.1 1, 25, .inl f_actMany)), (m_actOf, .inl (E.2.1 1, 800, .inl f_actOf)), (m_pile, .inl (E.2.1 1, 34, .inl f_195))]) C 3 rfl (vp_in_nI (by omega) (by omega)) (ldn2 (by omega) ef_195) rfl dX12_depthOf_98 ?_
                    refine ww_iinc (j := 2) (v := (nI (((tt - 1) - 1) + 1))) (lv' := [(2, .int (nI (((tt - 1) - 1) + 1))), (6, .int 2), (5, .int x_171), (4, .int x_6), (3, .int (nI j_5)), (0, .ref hm), (1, .int (nI sl))]) C dX12_depthOf_99 rfl (nI_add ((tt - 1) - 1) 1) rfl rfl ?_
                    obtain ⟨x_196, ex_196⟩ : ∃ z : Int32, (nI j_5) + Int32.ofInt (-1) = z := ⟨_, rfl⟩
                    have zx_196 : x_196.toInt = ((j_5 : Nat) : Int) - 1 := by rw [← ex_196]; exact i_dec (c := 1) (nI_toInt (n := j_5) (by omega)) rfl (by omega) (by omega)
                    refine ww_iinc (j := 4) (v := x_196) (lv' := [(3, .int x_196), (2, .int (nI (((tt - 1) - 1) + 1))), (6, .int 2), (5, .int x_171), (4, .int x_6), (0, .ref hm), (1, .int (nI sl))]) C dX12_depthOf_102 rfl ex_196 rfl rfl ?_
                    refine ww_goto (tgt := 11) C dX12_depthOf_105 (by decide) ?_
                    exact ww_lv [0, 1, 5, 6] rfl (ww_sub [0, 1, 2, 3] rfl rfl (ih_11 x_196 j_5 (((tt - 1) - 1) + 1) f_195 (by omega) (by omega) (by omega) (by first | exact DSI.stp (v := x_171) hst (by omega) (by omega) hxj_5 hxrj_5 (by first | exact Or.inl ⟨by omega, rfl⟩ | exact Or.inr ⟨by omega, rfl⟩ | exact Or.inr ⟨by omega, eq_⟩) (Or.inr (Or.inr ⟨by omega, DSI.m1 hst hwr.1 (by omega) ex_182 (DSI.at2 (k := (((tt - 1) - 1) + 1)) hst (by omega) (show (tt - 1) = (((tt - 1) - 1) + 1) by omega) ex_171) (by have e0 : (0 : Int32).toInt = 0 := rfl; omega)⟩)) ef_195 | exact False.elim (by omega)) (by omega)))
                  · have zc_194 : x_6.toInt ≥ 8 := i_nlt rfl rfl c_194
                    omega
                · refine an2 hw ?_
                  clear hw
                  intro he_192 he_193 hw
                  have h_191 := hw
                  clear hw
                  have he_192 := he_192.symm
                  subst he_192
                  subst he_193
                  refine ww_eq (ws' := [(hm, .inr (12, [.ref m_manys, .ref m_reals, .ref m_factsOf, .ref m_possible, .int (nI q_undos), .int (nI q_models), .ref m_tape, .int (nI q_taped), .int q_fault, .int q_wrong, .int q_wrongAt, .int q_spot, .int q_place, .int q_token, .int q_value, .ref m_ends, .ref m_letters, .ref m_actOf, .ref m_whom, .ref m_actMany, .ref m_tokens, .ref m_afters, .ref m_afterOf, .int q_counted, .ref m_pile, .ref m_caseMany, .ref m_happen, .ref m_hasIf, .ref m_becomes, .ref m_goneOf, .ref m_heard, .ref m_pairs, .ref m_heaps, .int q_rounds, .int q_heapMany, .ref m_led, .ref m_newAt, .ref m_knowing, .ref m_firsts, .int (nI q_people), .ref m_secrets, .ref m_tried, .ref m_lanes, .ref m_lengths, .ref m_cells])), (m_actMany, .inl (E.2.1 1, 25, .inl f_actMany)), (m_actOf, .inl (E.2.1 1, 800, .inl f_actOf)), (m_pile, .inl (E.2.1 1, 34, .inl g1))]) ?_ rfl rfl rfl
                  refine ww_icmp_ge_t (tgt := 77) C dX12_depthOf_41 (by decide) (by decide) ?_
                  refine ww_aload_n C dX12_depthOf_77 5 rfl rfl ?_
                  refine ww_get C fg_X12_49 0 rfl rfl dX12_depthOf_78 ?_
                  refine ww_iload_n C dX12_depthOf_81 2 rfl rfl ?_
                  refine ww_iload C dX12_depthOf_82 3 rfl ?_
                  refine ww_bipush (v := 8) C dX12_depthOf_84 rfl ?_
                  refine ww_icmp_lt (tgt := 96) C dX12_depthOf_86 (by decide) (fun c_197 => ?_) (fun c_197 => ?_)
                  · have zc_197 : x_6.toInt < 8 := i_lt rfl rfl c_197
                    refine ww_iload C dX12_depthOf_96 1 rfl ?_
                    obtain ⟨f_198, ef_198⟩ : ∃ z : Nat → Int32, upd g1 ((tt - 1) - 1) x_171 = z := ⟨_, rfl⟩
                    refine ww_iast (ws' := [(hm, .inr (12, [.ref m_manys, .ref m_reals, .ref m_factsOf, .ref m_possible, .int (nI q_undos), .int (nI q_models), .ref m_tape, .int (nI q_taped), .int q_fault, .int q_wrong, .int q_wrongAt, .int q_spot, .int q_place, .int q_token, .int q_value, .ref m_ends, .ref m_letters, .ref m_actOf, .ref m_whom, .ref m_actMany, .ref m_tokens, .ref m_afters, .ref m_afterOf, .int q_counted, .ref m_pile, .ref m_caseMany, .ref m_happen, .ref m_hasIf, .ref m_becomes, .ref m_goneOf, .ref m_heard, .ref m_pairs, .ref m_heaps, .int q_rounds, .int q_heapMany, .ref m_led, .ref m_newAt, .ref m_knowing, .ref m_firsts, .int (nI q_people), .ref m_secrets, .ref m_tried, .ref m_lanes, .ref m_lengths, .ref m_cells])), (m_actMany, .inl (E.2.1 1, 25, .inl f_actMany)), (m_actOf, .inl (E.2.1 1, 800, .inl f_actOf)), (m_pile, .inl (E.2.1 1, 34, .inl f_198))]) C 3 rfl (vp_in_nI (by omega) (by omega)) (ldn2 (by omega) ef_198) rfl dX12_depthOf_98 ?_
                    refine ww_iinc (j := 2) (v := (nI (((tt - 1) - 1) + 1))) (lv' := [(2, .int (nI (((tt - 1) - 1) + 1))), (6, .int 2), (5, .int x_171), (4, .int x_6), (3, .int (nI j_5)), (0, .ref hm), (1, .int (nI sl))]) C dX12_depthOf_99 rfl (nI_add ((tt - 1) - 1) 1) rfl rfl ?_
                    obtain ⟨x_199, ex_199⟩ : ∃ z : Int32, (nI j_5) + Int32.ofInt (-1) = z := ⟨_, rfl⟩
                    have zx_199 : x_199.toInt = ((j_5 : Nat) : Int) - 1 := by rw [← ex_199]; exact i_dec (c := 1) (nI_toInt (n := j_5) (by omega)) rfl (by omega) (by omega)
                    refine ww_iinc (j := 4) (v := x_199) (lv' := [(3, .int x_199), (2, .int (nI (((tt - 1) - 1) + 1))), (6, .int 2), (5, .int x_171), (4, .int x_6), (0, .ref hm), (1, .int (nI sl))]) C dX12_depthOf_102 rfl ex_199 rfl rfl ?_
                    refine ww_goto (tgt := 11) C dX12_depthOf_105 (by decide) ?_
                    exact ww_lv [0, 1, 5, 6] rfl (ww_sub [0, 1, 2, 3] rfl rfl (ih_11 x_199 j_5 (((tt - 1) - 1) + 1) f_198 (by omega) (by omega) (by omega) (by first | exact DSI.stp (v := x_171) hst (by omega) (by omega) hxj_5 hxrj_5 (by first | exact Or.inl ⟨by omega, rfl⟩ | exact Or.inr ⟨by omega, rfl⟩ | exact Or.inr ⟨by omega, eq_⟩) (Or.inr (Or.inr ⟨by omega, DSI.m1 hst hwr.1 (by omega) ex_182 (DSI.at2 (k := (((tt - 1) - 1) + 1)) hst (by omega) (show (tt - 1) = (((tt - 1) - 1) + 1) by omega) ex_171) (by have e0 : (0 : Int32).toInt = 0 := rfl; omega)⟩)) ef_198 | exact False.elim (by omega)) (by omega)))
                  · have zc_197 : x_6.toInt ≥ 8 := i_nlt rfl rfl c_197
                    omega
              · have zc_183 : x_182.toInt > x_171.toInt := i_nle rfl rfl c_183
                refine ww_aload_n C dX12_depthOf_58 5 rfl rfl ?_
                refine ww_get C fg_X12_49 0 rfl rfl dX12_depthOf_59 ?_
                refine ww_iload_n C dX12_depthOf_62 0 rfl rfl ?_
                obtain ⟨x_200, ex_200⟩ : ∃ z : Int32, g1 ((tt - 1) - 1) = z := ⟨_, rfl⟩
                refine ww_iald (v := x_200) C 3 rfl (vp_in_nI (by omega) (by omega)) (ldn (by omega) ex_200) dX12_depthOf_63 ?_
                refine ww_goto (tgt := 69) C dX12_depthOf_64 (by decide) ?_
                refine ww_istore (lv' := [(5, .int x_200), (2, .int (nI ((tt - 1) - 1))), (6, .int 1), (4, .int x_6), (3, .int (nI j_5)), (0, .ref hm), (1, .int (nI sl))]) C dX12_depthOf_69 rfl rfl ?_
                refine ww_iinc (j := 2) (v := 2) (lv' := [(6, .int 2), (5, .int x_200), (2, .int (nI ((tt - 1) - 1))), (4, .int x_6), (3, .int (nI j_5)), (0, .ref hm), (1, .int (nI sl))]) C dX12_depthOf_71 rfl rfl rfl rfl ?_
                refine ww_goto (tgt := 34) C dX12_depthOf_74 (by decide) ?_
                refine ww_iload C dX12_depthOf_34 0 rfl ?_
                refine ww_iload C dX12_depthOf_36 3 rfl ?_
                refine ww_ci (wr := [(hm, .inr (12, [.ref m_manys, .ref m_reals, .ref m_factsOf, .ref m_possible, .int (nI q_undos), .int (nI q_models), .ref m_tape, .int (nI q_taped), .int q_fault, .int q_wrong, .int q_wrongAt, .int q_spot, .int q_place, .int q_token, .int q_value, .ref m_ends, .ref m_letters, .ref m_actOf, .ref m_whom, .ref m_actMany, .ref m_tokens, .ref m_afters, .ref m_afterOf, .int q_counted, .ref m_pile, .ref m_caseMany, .ref m_happen, .ref m_hasIf, .ref m_becomes, .ref m_goneOf, .ref m_heard, .ref m_pairs, .ref m_heaps, .int q_rounds, .int q_heapMany, .ref m_led, .ref m_newAt, .ref m_knowing, .ref m_firsts, .int (nI q_people), .ref m_secrets, .ref m_tried, .ref m_lanes, .ref m_lengths, .ref m_cells])), (m_actMany, .inl (E.2.1 1, 25, .inl f_actMany)), (m_actOf, .inl (E.2.1 1, 800, .inl f_actOf)), (m_pile, .inl (E.2.1 1, 34, .inl g1))]) (k' := 0) (n' := 0) C (run_S (As := [.int x_6]) (rest := [.int 2]) C (r_wantsOf X.2.1 E ro x_6 x_6.toInt rfl) ms_X12_wantsOf wl_X12_215 rfl rfl rfl rfl dX12_depthOf_38) (roK hro) [] [0, 1, 2, 3] rfl rfl rfl rfl (fun r_201 uz hw => ?_)
                rcases hw with hw | hw | hw
                · refine an2 hw ?_
                  clear hw
                  intro he_203 he_204 hw
                  have h_202 := hw
                  clear hw
                  have he_203 := he_203.symm
                  subst he_203
                  subst he_204
                  omega
                · refine an2 hw ?_
                  clear hw
                  intro he_206 he_207 hw
                  have h_205 := hw
                  clear hw
                  have he_206 := he_206.symm
                  subst he_206
                  subst he_207
                  refine ww_eq (ws' := [(hm, .inr (12, [.ref m_manys, .ref m_reals, .ref m_factsOf, .ref m_possible, .int (nI q_undos), .int (nI q_models), .ref m_tape, .int (nI q_taped), .int q_fault, .int q_wrong, .int q_wrongAt, .int q_spot, .int q_place, .int q_token, .int q_value, .ref m_ends, .ref m_letters, .ref m_actOf, .ref m_whom, .ref m_actMany, .ref m_tokens, .ref m_afters, .ref m_afterOf, .int q_counted, .ref m_pile, .ref m_caseMany, .ref m_happen, .ref m_hasIf, .ref m_becomes, .ref m_goneOf, .ref m_heard, .ref m_pairs, .ref m_heaps, .int q_rounds, .int q_heapMany, .ref m_led, .ref m_newAt, .ref m_knowing, .ref m_firsts, .int (nI q_people), .ref m_secrets, .ref m_tried, .ref m_lanes, .ref m_lengths, .ref m_cells])), (m_actMany, .inl (E.2.1 1, 25, .inl f_actMany)), (m_actOf, .inl (E.2.1 1, 800, .inl f_actOf)), (m_pile, .inl (E.2.1 1, 34, .inl g1))]) ?_ rfl rfl rfl
                  refine ww_icmp_ge_t (tgt := 77) C dX12_depthOf_41 (by decide) (by decide) ?_
                  refine ww_aload_n C dX12_depthOf_77 5 rfl rfl ?_
                  refine ww_get C fg_X12_49 0 rfl rfl dX12_depthOf_78 ?_
                  refine ww_iload_n C dX12_depthOf_81 2 rfl rfl ?_
                  refine ww_iload C dX12_depthOf_82 3 rfl ?_
                  refine ww_bipush (v := 8) C dX12_depthOf_84 rfl ?_
                  refine ww_icmp_lt (tgt := 96) C dX12_depthOf_86 (by decide) (fun c_211 => ?_) (fun c_211 => ?_)
                  · have zc_211 : x_6.toInt < 8 := i_lt rfl rfl c_211
                    refine ww_iload C dX12_depthOf_96 1 rfl ?_
                    obtain ⟨f_212, ef_212⟩ : ∃ z : Nat → Int32, upd g1 ((tt - 1) - 1) x_200 = z := ⟨_, rfl⟩
                    refine ww_iast (ws' := [(hm, .inr (12, [.ref m_manys, .ref m_reals, .ref m_factsOf, .ref m_possible, .int (nI q_undos), .int (nI q_models), .ref m_tape, .int (nI q_taped), .int q_fault, .int q_wrong, .int q_wrongAt, .int q_spot, .int q_place, .int q_token, .int q_value, .ref m_ends, .ref m_letters, .ref m_actOf, .ref m_whom, .ref m_actMany, .ref m_tokens, .ref m_afters, .ref m_afterOf, .int q_counted, .ref m_pile, .ref m_caseMany, .ref m_happen, .ref m_hasIf, .ref m_becomes, .ref m_goneOf, .ref m_heard, .ref m_pairs, .ref m_heaps, .int q_rounds, .int q_heapMany, .ref m_led, .ref m_newAt, .ref m_knowing, .ref m_firsts, .int (nI q_people), .ref m_secrets, .ref m_tried, .ref m_lanes, .ref m_lengths, .ref m_cells])), (m_actMany, .inl (E.2.1 1, 25, .inl f_actMany)), (m_actOf, .inl (E.2.1 1, 800, .inl f_actOf)), (m_pile, .inl (E.2.1 1, 34, .inl f_212))]) C 3 rfl (vp_in_nI (by omega) (by omega)) (ldn2 (by omega) ef_212) rfl dX12_depthOf_98 ?_
                    refine ww_iinc (j := 2) (v := (nI (((tt - 1) - 1) + 1))) (lv' := [(2, .int (nI (((tt - 1) - 1) + 1))), (6, .int 2), (5, .int x_200), (4, .int x_6), (3, .int (nI j_5)), (0, .ref hm), (1, .int (nI sl))]) C dX12_depthOf_99 rfl (nI_add ((tt - 1) - 1) 1) rfl rfl ?_
                    obtain ⟨x_213, ex_213⟩ : ∃ z : Int32, (nI j_5) + Int32.ofInt (-1) = z := ⟨_, rfl⟩
                    have zx_213 : x_213.toInt = ((j_5 : Nat) : Int) - 1 := by rw [← ex_213]; exact i_dec (c := 1) (nI_toInt (n := j_5) (by omega)) rfl (by omega) (by omega)
                    refine ww_iinc (j := 4) (v := x_213) (lv' := [(3, .int x_213), (2, .int (nI (((tt - 1) - 1) + 1))), (6, .int 2), (5, .int x_200), (4, .int x_6), (0, .ref hm), (1, .int (nI sl))]) C dX12_depthOf_102 rfl ex_213 rfl rfl ?_
                    refine ww_goto (tgt := 11) C dX12_depthOf_105 (by decide) ?_
                    exact ww_lv [0, 1, 5, 6] rfl (ww_sub [0, 1, 2, 3] rfl rfl (ih_11 x_213 j_5 (((tt - 1) - 1) + 1) f_212 (by omega) (by omega) (by omega) (by first | exact DSI.stp (v := x_200) hst (by omega) (by omega) hxj_5 hxrj_5 (by first | exact Or.inl ⟨by omega, rfl⟩ | exact Or.inr ⟨by omega, rfl⟩ | exact Or.inr ⟨by omega, eq_⟩) (Or.inr (Or.inr ⟨by omega, DSI.m2 hst hwr.1 (by omega) ex_182 (DSI.at2 (k := (((tt - 1) - 1) + 1)) hst (by omega) (show (tt - 1) = (((tt - 1) - 1) + 1) by omega) ex_171) (by have e0 : (0 : Int32).toInt = 0 := rfl; omega) ex_200⟩)) ef_212 | exact False.elim (by omega)) (by omega)))
                  · have zc_211 : x_6.toInt ≥ 8 := i_nlt rfl rfl c_211
                    omega
                · refine an2 hw ?_
                  clear hw
                  intro he_209 he_210 hw
                  have h_208 := hw
                  clear hw
                  have he_209 := he_209.symm
                  subst he_209
                  subst he_210
                  refine ww_eq (ws' := [(hm, .inr (12, [.ref m_manys, .ref m_reals, .ref m_factsOf, .ref m_possible, .int (nI q_undos), .int (nI q_models), .ref m_tape, .int (nI q_taped), .int q_fault, .int q_wrong, .int q_wrongAt, .int q_spot, .int q_place, .int q_token, .int q_value, .ref m_ends, .ref m_letters, .ref m_actOf, .ref m_whom, .ref m_actMany, .ref m_tokens, .ref m_afters, .ref m_afterOf, .int q_counted, .ref m_pile, .ref m_caseMany, .ref m_happen, .ref m_hasIf, .ref m_becomes, .ref m_goneOf, .ref m_heard, .ref m_pairs, .ref m_heaps, .int q_rounds, .int q_heapMany, .ref m_led, .ref m_newAt, .ref m_knowing, .ref m_firsts, .int (nI q_people), .ref m_secrets, .ref m_tried, .ref m_lanes, .ref m_lengths, .ref m_cells])), (m_actMany, .inl (E.2.1 1, 25, .inl f_actMany)), (m_actOf, .inl (E.2.1 1, 800, .inl f_actOf)), (m_pile, .inl (E.2.1 1, 34, .inl g1))]) ?_ rfl rfl rfl
                  refine ww_icmp_ge_t (tgt := 77) C dX12_depthOf_41 (by decide) (by decide) ?_
                  refine ww_aload_n C dX12_depthOf_77 5 rfl rfl ?_
                  refine ww_get C fg_X12_49 0 rfl rfl dX12_depthOf_78 ?_
                  refine ww_iload_n C dX12_depthOf_81 2 rfl rfl ?_
                  refine ww_iload C dX12_depthOf_82 3 rfl ?_
                  refine ww_bipush (v := 8) C dX12_depthOf_84 rfl ?_
                  refine ww_icmp_lt (tgt := 96) C dX12_depthOf_86 (by decide) (fun c_214 => ?_) (fun c_214 => ?_)
                  · have zc_214 : x_6.toInt < 8 := i_lt rfl rfl c_214
                    refine ww_iload C dX12_depthOf_96 1 rfl ?_
                    obtain ⟨f_215, ef_215⟩ : ∃ z : Nat → Int32, upd g1 ((tt - 1) - 1) x_200 = z := ⟨_, rfl⟩
                    refine ww_iast (ws' := [(hm, .inr (12, [.ref m_manys, .ref m_reals, .ref m_factsOf, .ref m_possible, .int (nI q_undos), .int (nI q_models), .ref m_tape, .int (nI q_taped), .int q_fault, .int q_wrong, .int q_wrongAt, .int q_spot, .int q_place, .int q_token, .int q_value, .ref m_ends, .ref m_letters, .ref m_actOf, .ref m_whom, .ref m_actMany, .ref m_tokens, .ref m_afters, .ref m_afterOf, .int q_counted, .ref m_pile, .ref m_caseMany, .ref m_happen, .ref m_hasIf, .ref m_becomes, .ref m_goneOf, .ref m_heard, .ref m_pairs, .ref m_heaps, .int q_rounds, .int q_heapMany, .ref m_led, .ref m_newAt, .ref m_knowing, .ref m_firsts, .int (nI q_people), .ref m_secrets, .ref m_tried, .ref m_lanes, .ref m_lengths, .ref m_cells])), (m_actMany, .inl (E.2.1 1, 25, .inl f_actMany)), (m_actOf, .inl (E.2.1 1, 800, .inl f_actOf)), (m_pile, .inl (E.2.1 1, 34, .inl f_215))]) C 3 rfl (vp_in_nI (by omega) (by omega)) (ldn2 (by omega) ef_215) rfl dX12_depthOf_98 ?_
                    refine ww_iinc (j := 2) (v := (nI (((tt - 1) - 1) + 1))) (lv' := [(2, .int (nI (((tt - 1) - 1) + 1))), (6, .int 2), (5, .int x_200), (4, .int x_6), (3, .int (nI j_5)), (0, .ref hm), (1, .int (nI sl))]) C dX12_depthOf_99 rfl (nI_add ((tt - 1) - 1) 1) rfl rfl ?_
                    obtain ⟨x_216, ex_216⟩ : ∃ z : Int32, (nI j_5) + Int32.ofInt (-1) = z := ⟨_, rfl⟩
                    have zx_216 : x_216.toInt = ((j_5 : Nat) : Int) - 1 := by rw [← ex_216]; exact i_dec (c := 1) (nI_toInt (n := j_5) (by omega)) rfl (by omega) (by omega)
                    refine ww_iinc (j := 4) (v := x_216) (lv' := [(3, .int x_216), (2, .int (nI (((tt - 1) - 1) + 1))), (6, .int 2), (5, .int x_200), (4, .int x_6), (0, .ref hm), (1, .int (nI sl))]) C dX12_depthOf_102 rfl ex_216 rfl rfl ?_
                    refine ww_goto (tgt := 11) C dX12_depthOf_105 (by decide) ?_
                    exact ww_lv [0, 1, 5, 6] rfl (ww_sub [0, 1, 2, 3] rfl rfl (ih_11 x_216 j_5 (((tt - 1) - 1) + 1) f_215 (by omega) (by omega) (by omega) (by first | exact DSI.stp (v := x_200) hst (by omega) (by omega) hxj_5 hxrj_5 (by first | exact Or.inl ⟨by omega, rfl⟩ | exact Or.inr ⟨by omega, rfl⟩ | exact Or.inr ⟨by omega, eq_⟩) (Or.inr (Or.inr ⟨by omega, DSI.m2 hst hwr.1 (by omega) ex_182 (DSI.at2 (k := (((tt - 1) - 1) + 1)) hst (by omega) (show (tt - 1) = (((tt - 1) - 1) + 1) by omega) ex_171) (by have e0 : (0 : Int32).toInt = 0 := rfl; omega) ex_200⟩)) ef_215 | exact False.elim (by omega)) (by omega)))
                  · have zc_214 : x_6.toInt ≥ 8 := i_nlt rfl rfl c_214
                    omega
            · refine an2 hw ?_
              clear hw
              intro he_180 he_181 hw
              have h_179 := hw
              clear hw
              have he_180 := he_180.symm
              subst he_180
              subst he_181
              refine ww_eq (ws' := [(hm, .inr (12, [.ref m_manys, .ref m_reals, .ref m_factsOf, .ref m_possible, .int (nI q_undos), .int (nI q_models), .ref m_tape, .int (nI q_taped), .int q_fault, .int q_wrong, .int q_wrongAt, .int q_spot, .int q_place, .int q_token, .int q_value, .ref m_ends, .ref m_letters, .ref m_actOf, .ref m_whom, .ref m_actMany, .ref m_tokens, .ref m_afters, .ref m_afterOf, .int q_counted, .ref m_pile, .ref m_caseMany, .ref m_happen, .ref m_hasIf, .ref m_becomes, .ref m_goneOf, .ref m_heard, .ref m_pairs, .ref m_heaps, .int q_rounds, .int q_heapMany, .ref m_led, .ref m_newAt, .ref m_knowing, .ref m_firsts, .int (nI q_people), .ref m_secrets, .ref m_tried, .ref m_lanes, .ref m_lengths, .ref m_cells])), (m_actMany, .inl (E.2.1 1, 25, .inl f_actMany)), (m_actOf, .inl (E.2.1 1, 800, .inl f_actOf)), (m_pile, .inl (E.2.1 1, 34, .inl g1))]) ?_ rfl rfl rfl
              refine ww_icmp_ge_t (tgt := 77) C dX12_depthOf_41 (by decide) (by decide) ?_
              refine ww_aload_n C dX12_depthOf_77 5 rfl rfl ?_
              refine ww_get C fg_X12_49 0 rfl rfl dX12_depthOf_78 ?_
              refine ww_iload_n C dX12_depthOf_81 2 rfl rfl ?_
              refine ww_iload C dX12_depthOf_82 3 rfl ?_
              refine ww_bipush (v := 8) C dX12_depthOf_84 rfl ?_
              refine ww_icmp_lt (tgt := 96) C dX12_depthOf_86 (by decide) (fun c_217 => ?_) (fun c_217 => ?_)
              · have zc_217 : x_6.toInt < 8 := i_lt rfl rfl c_217
                refine ww_iload C dX12_depthOf_96 1 rfl ?_
                obtain ⟨f_218, ef_218⟩ : ∃ z : Nat → Int32, upd g1 (tt - 1) x_171 = z := ⟨_, rfl⟩
                refine ww_iast (ws' := [(hm, .inr (12, [.ref m_manys, .ref m_reals, .ref m_factsOf, .ref m_possible, .int (nI q_undos), .int (nI q_models), .ref m_tape, .int (nI q_taped), .int q_fault, .int q_wrong, .int q_wrongAt, .int q_spot, .int q_place, .int q_token, .int q_value, .ref m_ends, .ref m_letters, .ref m_actOf, .ref m_whom, .ref m_actMany, .ref m_tokens, .ref m_afters, .ref m_afterOf, .int q_counted, .ref m_pile, .ref m_caseMany, .ref m_happen, .ref m_hasIf, .ref m_becomes, .ref m_goneOf, .ref m_heard, .ref m_pairs, .ref m_heaps, .int q_rounds, .int q_heapMany, .ref m_led, .ref m_newAt, .ref m_knowing, .ref m_firsts, .int (nI q_people), .ref m_secrets, .ref m_tried, .ref m_lanes, .ref m_lengths, .ref m_cells])), (m_actMany, .inl (E.2.1 1, 25, .inl f_actMany)), (m_actOf, .inl (E.2.1 1, 800, .inl f_actOf)), (m_pile, .inl (E.2.1 1, 34, .inl f_218))]) C 3 rfl (vp_in_nI (by omega) (by omega)) (ldn2 (by omega) ef_218) rfl dX12_depthOf_98 ?_
                refine ww_iinc (j := 2) (v := (nI ((tt - 1) + 1))) (lv' := [(2, .int (nI ((tt - 1) + 1))), (6, .int 1), (5, .int x_171), (4, .int x_6), (3, .int (nI j_5)), (0, .ref hm), (1, .int (nI sl))]) C dX12_depthOf_99 rfl (nI_add (tt - 1) 1) rfl rfl ?_
                obtain ⟨x_219, ex_219⟩ : ∃ z : Int32, (nI j_5) + Int32.ofInt (-1) = z := ⟨_, rfl⟩
                have zx_219 : x_219.toInt = ((j_5 : Nat) : Int) - 1 := by rw [← ex_219]; exact i_dec (c := 1) (nI_toInt (n := j_5) (by omega)) rfl (by omega) (by omega)
                refine ww_iinc (j := 4) (v := x_219) (lv' := [(3, .int x_219), (2, .int (nI ((tt - 1) + 1))), (6, .int 1), (5, .int x_171), (4, .int x_6), (0, .ref hm), (1, .int (nI sl))]) C dX12_depthOf_102 rfl ex_219 rfl rfl ?_
                refine ww_goto (tgt := 11) C dX12_depthOf_105 (by decide) ?_
                exact ww_lv [0, 1, 5, 6] rfl (ww_sub [0, 1, 2, 3] rfl rfl (ih_11 x_219 j_5 ((tt - 1) + 1) f_218 (by omega) (by omega) (by omega) (by first | exact DSI.stp (v := x_171) hst (by omega) (by omega) hxj_5 hxrj_5 (by first | exact Or.inl ⟨by omega, rfl⟩ | exact Or.inr ⟨by omega, rfl⟩ | exact Or.inr ⟨by omega, eq_⟩) (Or.inr (Or.inl ⟨by omega, (DSI.at2 (k := (tt - 1)) hst (by omega) (show (tt - 1) = (tt - 1) by omega) ex_171)⟩)) ef_218 | exact False.elim (by omega)) (by omega)))
              · have zc_217 : x_6.toInt ≥ 8 := i_nlt rfl rfl c_217
                refine ww_iload C dX12_depthOf_89 1 rfl ?_
                refine ww_iconst (v := 1) C dX12_depthOf_91 rfl ?_
                obtain ⟨x_220, ex_220⟩ : ∃ z : Int32, x_171 + (1 : Int32) = z := ⟨_, rfl⟩
                refine ww_iadd (v := x_220) C dX12_depthOf_92 ex_220 ?_
                refine ww_goto (tgt := 98) C dX12_depthOf_93 (by decide) ?_
                obtain ⟨f_221, ef_221⟩ : ∃ z : Nat → Int32, upd g1 (tt - 1) x_220 = z := ⟨_, rfl⟩
                refine ww_iast (ws' := [(hm, .inr (12, [.ref m_manys, .ref m_reals, .ref m_factsOf, .ref m_possible, .int (nI q_undos), .int (nI q_models), .ref m_tape, .int (nI q_taped), .int q_fault, .int q_wrong, .int q_wrongAt, .int q_spot, .int q_place, .int q_token, .int q_value, .ref m_ends, .ref m_letters, .ref m_actOf, .ref m_whom, .ref m_actMany, .ref m_tokens, .ref m_afters, .ref m_afterOf, .int q_counted, .ref m_pile, .ref m_caseMany, .ref m_happen, .ref m_hasIf, .ref m_becomes, .ref m_goneOf, .ref m_heard, .ref m_pairs, .ref m_heaps, .int q_rounds, .int q_heapMany, .ref m_led, .ref m_newAt, .ref m_knowing, .ref m_firsts, .int (nI q_people), .ref m_secrets, .ref m_tried, .ref m_lanes, .ref m_lengths, .ref m_cells])), (m_actMany, .inl (E.2.1 1, 25, .inl f_actMany)), (m_actOf, .inl (E.2.1 1, 800, .inl f_actOf)), (m_pile, .inl (E.2.1 1, 34, .inl f_221))]) C 3 rfl (vp_in_nI (by omega) (by omega)) (ldn2 (by omega) ef_221) rfl dX12_depthOf_98 ?_
                refine ww_iinc (j := 2) (v := (nI ((tt - 1) + 1))) (lv' := [(2, .int (nI ((tt - 1) + 1))), (6, .int 1), (5, .int x_171), (4, .int x_6), (3, .int (nI j_5)), (0, .ref hm), (1, .int (nI sl))]) C dX12_depthOf_99 rfl (nI_add (tt - 1) 1) rfl rfl ?_
                obtain ⟨x_222, ex_222⟩ : ∃ z : Int32, (nI j_5) + Int32.ofInt (-1) = z := ⟨_, rfl⟩
                have zx_222 : x_222.toInt = ((j_5 : Nat) : Int) - 1 := by rw [← ex_222]; exact i_dec (c := 1) (nI_toInt (n := j_5) (by omega)) rfl (by omega) (by omega)
                refine ww_iinc (j := 4) (v := x_222) (lv' := [(3, .int x_222), (2, .int (nI ((tt - 1) + 1))), (6, .int 1), (5, .int x_171), (4, .int x_6), (0, .ref hm), (1, .int (nI sl))]) C dX12_depthOf_102 rfl ex_222 rfl rfl ?_
                refine ww_goto (tgt := 11) C dX12_depthOf_105 (by decide) ?_
                exact ww_lv [0, 1, 5, 6] rfl (ww_sub [0, 1, 2, 3] rfl rfl (ih_11 x_222 j_5 ((tt - 1) + 1) f_221 (by omega) (by omega) (by omega) (by first | exact DSI.stp (v := x_171) hst (by omega) (by omega) hxj_5 hxrj_5 (by first | exact Or.inl ⟨by omega, rfl⟩ | exact Or.inr ⟨by omega, rfl⟩ | exact Or.inr ⟨by omega, ex_220⟩) (Or.inr (Or.inl ⟨by omega, (DSI.at2 (k := (tt - 1)) hst (by omega) (show (tt - 1) = (tt - 1) by omega) ex_171)⟩)) ef_221 | exact False.elim (by omega)) (by omega)))
  exact ww_lv [0, 1, 2, 3] rfl (ww_sub [0, 1, 2, 3] rfl rfl (loop_11 _ x_2 (cN f_actMany sl) 0 f_pile (by omega) (by omega) (by have := hwr.2.2; omega) (DSI.nil (by rw [hopn _ (Nat.le_refl _)]; have h9 := hwr.2.2; omega)) (Nat.lt_succ_self _)))
theorem dX12_saying_0 : decode cX12_saying 0 = .ok (.aload_n 0, 1) := dl_42 (by decide +kernel)
theorem dX12_saying_1 : decode cX12_saying 1 = .ok (.iload_n 1, 1) := dl_27 (by decide +kernel)
theorem dX12_saying_2 : decode cX12_saying 2 = .ok (.invokevirtual 224, 3) := dl_182 (by decide +kernel)
theorem dX12_saying_5 : decode cX12_saying 5 = .ok (.ifCond .eq 15, 3) := dl_153 (by decide +kernel)
theorem dX12_saying_8 : decode cX12_saying 8 = .ok (.iload_n 2, 1) := dl_28 (by decide +kernel)
theorem dX12_saying_9 : decode cX12_saying 9 = .ok (.i2l, 1) := dl_133 (by decide +kernel)
theorem dX12_saying_10 : decode cX12_saying 10 = .ok (.lconst 0, 1) := dl_9 (by decide +kernel)
theorem dX12_saying_11 : decode cX12_saying 11 = .ok (.ldc2_w 113, 3) := dl_20 (by decide +kernel)
theorem dX12_saying_14 : decode cX12_saying 14 = .ok (.invokestatic 115, 3) := dl_184 (by decide +kernel)
theorem dX12_saying_17 : decode cX12_saying 17 = .ok (.ifCond .ne 5, 3) := dl_154 (by decide +kernel)
theorem dX12_saying_22 : decode cX12_saying 22 = .ok (.iconst 0, 1) := dl_3 (by decide +kernel)
theorem dX12_saying_23 : decode cX12_saying 23 = .ok (.istore_n 3, 1) := dl_62 (by decide +kernel)
theorem dX12_saying_24 : decode cX12_saying 24 = .ok (.iconst 0, 1) := dl_3 (by decide +kernel)
theorem dX12_saying_25 : decode cX12_saying 25 = .ok (.istore 4, 2) := dl_54 (by decide +kernel)
theorem dX12_saying_27 : decode cX12_saying 27 = .ok (.iload 4, 2) := dl_21 (by decide +kernel)
theorem dX12_saying_29 : decode cX12_saying 29 = .ok (.aload_n 0, 1) := dl_42 (by decide +kernel)
theorem dX12_saying_30 : decode cX12_saying 30 = .ok (.getfield 37, 3) := dl_180 (by decide +kernel)
theorem dX12_saying_33 : decode cX12_saying 33 = .ok (.iload_n 1, 1) := dl_27 (by decide +kernel)
theorem dX12_saying_34 : decode cX12_saying 34 = .ok (.iaload, 1) := dl_46 (by decide +kernel)
theorem dX12_saying_35 : decode cX12_saying 35 = .ok (.if_icmp .ge 40, 3) := dl_162 (by decide +kernel)
theorem dX12_saying_75 : decode cX12_saying 75 = .ok (.iload_n 2, 1) := dl_28 (by decide +kernel)
theorem dX12_saying_76 : decode cX12_saying 76 = .ok (.ifCond .ne 12, 3) := dl_154 (by decide +kernel)
theorem dX12_saying_88 : decode cX12_saying 88 = .ok (.iload_n 2, 1) := dl_28 (by decide +kernel)
theorem dX12_saying_89 : decode cX12_saying 89 = .ok (.iconst 1, 1) := dl_4 (by decide +kernel)
theorem dX12_saying_90 : decode cX12_saying 90 = .ok (.if_icmp .ne 12, 3) := dl_160 (by decide +kernel)
theorem dX12_saying_102 : decode cX12_saying 102 = .ok (.iload_n 2, 1) := dl_28 (by decide +kernel)
theorem dX12_saying_103 : decode cX12_saying 103 = .ok (.iconst 2, 1) := dl_5 (by decide +kernel)
theorem dX12_saying_104 : decode cX12_saying 104 = .ok (.if_icmp .ne 11, 3) := dl_160 (by decide +kernel)
theorem dX12_saying_115 : decode cX12_saying 115 = .ok (.iload_n 3, 1) := dl_29 (by decide +kernel)
theorem dX12_saying_116 : decode cX12_saying 116 = .ok (.ireturn, 1) := dl_172 (by decide +kernel)
theorem dX12_saying_107 : decode cX12_saying 107 = .ok (.aload_n 0, 1) := dl_42 (by decide +kernel)
theorem dX12_saying_108 : decode cX12_saying 108 = .ok (.iload_n 1, 1) := dl_27 (by decide +kernel)
theorem dX12_saying_109 : decode cX12_saying 109 = .ok (.invokevirtual 227, 3) := dl_182 (by decide +kernel)
theorem wl_X12_227 : Cond.methodLink RX12 227 yX12_depthOf ∈ TB := tbm (tq6 (List.mem_of_getElem? (i := 109) (by decide +kernel))) (by decide +kernel)
theorem wc_X12_depthOf : Cond.code yX12_depthOf cX12_depthOf 7 (some .int) ∈ TB := tbm (tq6 (List.mem_of_getElem? (i := 112) (rfl))) (by decide +kernel)
theorem wi_X12_depthOf : Cond.instanceMethod yX12_depthOf ∈ TB := tbm (tq6 (List.mem_of_getElem? (i := 111) (by decide +kernel))) (by decide +kernel)
theorem ws_X12_depthOf : Cond.selects RX12 yX12_depthOf yX12_depthOf ∈ TB := tbm (tq0 (List.mem_of_getElem? (i := 53) (by decide +kernel))) (by decide +kernel)
theorem mi_X12_depthOf : MI yX12_depthOf cX12_depthOf 7 (some .int) 1 := ⟨wc_X12_depthOf, wn_X12, ⟨by decide +kernel, by decide +kernel, by decide +kernel⟩, wi_X12_depthOf, ws_X12_depthOf⟩
theorem dX12_saying_112 : decode cX12_saying 112 = .ok (.goto 4, 3) := dl_167 (by decide +kernel)
theorem dX12_saying_93 : decode cX12_saying 93 = .ok (.aload_n 0, 1) := dl_42 (by decide +kernel)
theorem dX12_saying_94 : decode cX12_saying 94 = .ok (.getfield 43, 3) := dl_180 (by decide +kernel)
theorem dX12_saying_97 : decode cX12_saying 97 = .ok (.iload_n 1, 1) := dl_27 (by decide +kernel)
theorem dX12_saying_98 : decode cX12_saying 98 = .ok (.iaload, 1) := dl_46 (by decide +kernel)
theorem dX12_saying_99 : decode cX12_saying 99 = .ok (.goto 17, 3) := dl_167 (by decide +kernel)
theorem dX12_saying_79 : decode cX12_saying 79 = .ok (.aload_n 0, 1) := dl_42 (by decide +kernel)
theorem dX12_saying_80 : decode cX12_saying 80 = .ok (.getfield 40, 3) := dl_180 (by decide +kernel)
theorem dX12_saying_83 : decode cX12_saying 83 = .ok (.iload_n 1, 1) := dl_27 (by decide +kernel)
theorem dX12_saying_84 : decode cX12_saying 84 = .ok (.iaload, 1) := dl_46 (by decide +kernel)
theorem dX12_saying_85 : decode cX12_saying 85 = .ok (.goto 31, 3) := dl_167 (by decide +kernel)
theorem dX12_saying_38 : decode cX12_saying 38 = .ok (.aload_n 0, 1) := dl_42 (by decide +kernel)
theorem dX12_saying_39 : decode cX12_saying 39 = .ok (.getfield 31, 3) := dl_180 (by decide +kernel)
theorem dX12_saying_42 : decode cX12_saying 42 = .ok (.bipush 32, 2) := dl_16 (by decide +kernel)
theorem dX12_saying_44 : decode cX12_saying 44 = .ok (.iload_n 1, 1) := dl_27 (by decide +kernel)
theorem dX12_saying_45 : decode cX12_saying 45 = .ok (.imul, 1) := dl_104 (by decide +kernel)
theorem dX12_saying_46 : decode cX12_saying 46 = .ok (.iload 4, 2) := dl_21 (by decide +kernel)
theorem dX12_saying_48 : decode cX12_saying 48 = .ok (.iadd, 1) := dl_96 (by decide +kernel)
theorem dX12_saying_49 : decode cX12_saying 49 = .ok (.iaload, 1) := dl_46 (by decide +kernel)
theorem dX12_saying_50 : decode cX12_saying 50 = .ok (.istore 5, 2) := dl_54 (by decide +kernel)
theorem dX12_saying_52 : decode cX12_saying 52 = .ok (.iload_n 3, 1) := dl_29 (by decide +kernel)
theorem dX12_saying_53 : decode cX12_saying 53 = .ok (.iload 5, 2) := dl_21 (by decide +kernel)
theorem dX12_saying_55 : decode cX12_saying 55 = .ok (.iconst 4, 1) := dl_7 (by decide +kernel)
theorem dX12_saying_56 : decode cX12_saying 56 = .ok (.if_icmp .ge 10, 3) := dl_162 (by decide +kernel)
theorem dX12_saying_66 : decode cX12_saying 66 = .ok (.iconst 0, 1) := dl_3 (by decide +kernel)
theorem dX12_saying_67 : decode cX12_saying 67 = .ok (.ior, 1) := dl_128 (by decide +kernel)
theorem dX12_saying_68 : decode cX12_saying 68 = .ok (.istore_n 3, 1) := dl_62 (by decide +kernel)
theorem dX12_saying_69 : decode cX12_saying 69 = .ok (.iinc 4 1, 3) := dl_132 (by decide +kernel)
theorem dX12_saying_72 : decode cX12_saying 72 = .ok (.goto (-45), 3) := dl_167 (by decide +kernel)
theorem dX12_saying_59 : decode cX12_saying 59 = .ok (.iconst 1, 1) := dl_4 (by decide +kernel)
theorem dX12_saying_60 : decode cX12_saying 60 = .ok (.iload 5, 2) := dl_21 (by decide +kernel)
theorem dX12_saying_62 : decode cX12_saying 62 = .ok (.ishl, 1) := dl_120 (by decide +kernel)
theorem dX12_saying_63 : decode cX12_saying 63 = .ok (.goto 4, 3) := dl_167 (by decide +kernel)
theorem dX12_saying_20 : decode cX12_saying 20 = .ok (.iconst (-1), 1) := dl_2 (by decide +kernel)
theorem dX12_saying_21 : decode cX12_saying 21 = .ok (.ireturn, 1) := dl_172 (by decide +kernel)
set_option maxRecDepth 100000 in
set_option maxHeartbeats 4000000 in
theorem y_saying (l : Launch) (E : EV) (ro : va_W) (hm : Nat) (v0 : Int32) (v1 : Int32) (m_manys : Nat) (m_reals : Nat) (m_factsOf : Nat) (m_possible : Nat) (q_undos : Nat) (q_models : Nat) (m_tape : Nat) (q_taped : Nat) (q_fault : Int32) (q_wrong : Int32) (q_wrongAt : Int32) (q_spot : Int32) (q_place : Int32) (q_token : Int32) (q_value : Int32) (m_ends : Nat) (m_letters : Nat) (m_actOf : Nat) (m_whom : Nat) (m_actMany : Nat) (m_tokens : Nat) (m_afters : Nat) (m_afterOf : Nat) (q_counted : Int32) (m_pile : Nat) (m_caseMany : Nat) (m_happen : Nat) (m_hasIf : Nat) (m_becomes : Nat) (m_goneOf : Nat) (m_heard : Nat) (m_pairs : Nat) (m_heaps : Nat) (q_rounds : Int32) (q_heapMany : Int32) (m_led : Nat) (m_newAt : Nat) (m_knowing : Nat) (m_firsts : Nat) (q_people : Nat) (m_secrets : Nat) (m_tried : Nat) (m_lanes : Nat) (m_lengths : Nat) (m_cells : Nat) (f_actMany : Nat → Int32) (f_actOf : Nat → Int32) (f_whom : Nat → Int32) (f_tokens : Nat → Int32) (f_afters : Nat → Int32) (f_pile : Nat → Int32) (hb_actMany : NB 25 32 f_actMany) (hb_afters : NB 9 2 f_afters) (hsv : SV f_actOf f_actMany) (hWT : WHT f_tokens f_actMany f_actOf f_whom) : CT l yX12_saying (Cond.code yX12_saying cX12_saying 6 (some .int) :: TB) ({ frames := 2, cells := 0, slots := 0, locals := 46 }) E ro [.ref hm, .int v0, .int v1] [(hm, .inr (12, [.ref m_manys, .ref m_reals, .ref m_factsOf, .ref m_possible, .int (nI q_undos), .int (nI q_models), .ref m_tape, .int (nI q_taped), .int q_fault, .int q_wrong, .int q_wrongAt, .int q_spot, .int q_place, .int q_token, .int q_value, .ref m_ends, .ref m_letters, .ref m_actOf, .ref m_whom, .ref m_actMany, .ref m_tokens, .ref m_afters, .ref m_afterOf, .int q_counted, .ref m_pile, .ref m_caseMany, .ref m_happen, .ref m_hasIf, .ref m_becomes, .ref m_goneOf, .ref m_heard, .ref m_pairs, .ref m_heaps, .int q_rounds, .int q_heapMany, .ref m_led, .ref m_newAt, .ref m_knowing, .ref m_firsts, .int (nI q_people), .ref m_secrets, .ref m_tried, .ref m_lanes, .ref m_lengths, .ref m_cells])), (m_actMany, .inl (E.2.1 1, 25, .inl f_actMany)), (m_actOf, .inl (E.2.1 1, 800, .inl f_actOf)), (m_whom, .inl (E.2.1 1, 800, .inl f_whom)), (m_tokens, .inl (E.2.1 1, 9, .inl f_tokens)), (m_afters, .inl (E.2.1 1, 9, .inl f_afters)), (m_pile, .inl (E.2.1 1, 34, .inl f_pile))] (Qi E (fun (rz : Int32) uz => (∃ (f_pilez : Nat → Int32), uz = [(hm, .inr (12, [.ref m_manys, .ref m_reals, .ref m_factsOf, .ref m_possible, .int (nI q_undos), .int (nI q_models), .ref m_tape, .int (nI q_taped), .int q_fault, .int q_wrong, .int q_wrongAt, .int q_spot, .int q_place, .int q_token, .int q_value, .ref m_ends, .ref m_letters, .ref m_actOf, .ref m_whom, .ref m_actMany, .ref m_tokens, .ref m_afters, .ref m_afterOf, .int q_counted, .ref m_pile, .ref m_caseMany, .ref m_happen, .ref m_hasIf, .ref m_becomes, .ref m_goneOf, .ref m_heard, .ref m_pairs, .ref m_heaps, .int q_rounds, .int q_heapMany, .ref m_led, .ref m_newAt, .ref m_knowing, .ref m_firsts, .int (nI q_people), .ref m_secrets, .ref m_tried, .ref m_lanes, .ref m_lengths, .ref m_cells])), (m_actMany, .inl (E.2.1 1, 25, .inl f_actMany)), (m_actOf, .inl (E.2.1 1, 800, .inl f_actOf)), (m_whom, .inl (E.2.1 1, 800, .inl f_whom)), (m_tokens, .inl (E.2.1 1, 9, .inl f_tokens)), (m_afters, .inl (E.2.1 1, 9, .inl f_afters)), (m_pile, .inl (E.2.1 1, 34, .inl f_pilez))] ∧ (rz = ansSy (rSy f_tokens f_actMany f_actOf f_whom f_afters) v0 v1)))) 0 0 := by
  refine ct_of rfl rfl ?_
  intro X C hT hin hro
  show WW X 6 E 0 [(0, .ref hm), (1, .int v0), (2, .int v1)] [] [(hm, .inr (12, [.ref m_manys, .ref m_reals, .ref m_factsOf, .ref m_possible, .int (nI q_undos), .int (nI q_models), .ref m_tape, .int (nI q_taped), .int q_fault, .int q_wrong, .int q_wrongAt, .int q_spot, .int q_place, .int q_token, .int q_value, .ref m_ends, .ref m_letters, .ref m_actOf, .ref m_whom, .ref m_actMany, .ref m_tokens, .ref m_afters, .ref m_afterOf, .int q_counted, .ref m_pile, .ref m_caseMany, .ref m_happen, .ref m_hasIf, .ref m_becomes, .ref m_goneOf, .ref m_heard, .ref m_pairs, .ref m_heaps, .int q_rounds, .int q_heapMany, .ref m_led, .ref m_newAt, .ref m_knowing, .ref m_firsts, .int (nI q_people), .ref m_secrets, .ref m_tried, .ref m_lanes, .ref m_lengths, .ref m_cells])), (m_actMany, .inl (E.2.1 1, 25, .inl f_actMany)), (m_actOf, .inl (E.2.1 1, 800, .inl f_actOf)), (m_whom, .inl (E.2.1 1, 800, .inl f_whom)), (m_tokens, .inl (E.2.1 1, 9, .inl f_tokens)), (m_afters, .inl (E.2.1 1, 9, .inl f_afters)), (m_pile, .inl (E.2.1 1, 34, .inl f_pile))] 0 0
  have ham := hb_actMany
  refine ww_aload_n C dX12_saying_0 0 rfl rfl ?_
  refine ww_iload_n C dX12_saying_1 1 rfl rfl ?_
  refine ww_ci (wr := [(m_actMany, .inl (E.2.1 1, 25, .inl f_actMany)), (m_actOf, .inl (E.2.1 1, 800, .inl f_actOf)), (m_whom, .inl (E.2.1 1, 800, .inl f_whom)), (m_afters, .inl (E.2.1 1, 9, .inl f_afters)), (m_pile, .inl (E.2.1 1, 34, .inl f_pile))]) (k' := 0) (n' := 0) C (run_V (As := [.int v0]) (rest := []) C (r_isSaying X.2.1 E ro hm v0 m_manys m_reals m_factsOf m_possible q_undos q_models m_tape q_taped q_fault q_wrong q_wrongAt q_spot q_place q_token q_value m_ends m_letters m_actOf m_whom m_actMany m_tokens m_afters m_afterOf q_counted m_pile m_caseMany m_happen m_hasIf m_becomes m_goneOf m_heard m_pairs m_heaps q_rounds q_heapMany m_led m_newAt m_knowing m_firsts q_people m_secrets m_tried m_lanes m_lengths m_cells f_tokens) mi_X12_isSaying wl_X12_224 rfl 0 12 rfl rfl rfl rfl rfl dX12_saying_2) (roK hro) [0, 4] [1, 2, 3, 5, 6] rfl rfl rfl rfl (fun r_1 uz hw => ?_)
  rcases hw with hw | hw
  · refine an4 hw ?_
    clear hw
    intro he_5 he_6 h_2 h_3 hw
    have h_4 := hw
    clear hw
    have he_5 := he_5.symm
    subst he_5
    subst he_6
    refine ww_eq (ws' := [(m_actMany, .inl (E.2.1 1, 25, .inl f_actMany)), (m_actOf, .inl (E.2.1 1, 800, .inl f_actOf)), (m_whom, .inl (E.2.1 1, 800, .inl f_whom)), (m_afters, .inl (E.2.1 1, 9, .inl f_afters)), (m_pile, .inl (E.2.1 1, 34, .inl f_pile)), (hm, .inr (12, [.ref m_manys, .ref m_reals, .ref m_factsOf, .ref m_possible, .int (nI q_undos), .int (nI q_models), .ref m_tape, .int (nI q_taped), .int q_fault, .int q_wrong, .int q_wrongAt, .int q_spot, .int q_place, .int q_token, .int q_value, .ref m_ends, .ref m_letters, .ref m_actOf, .ref m_whom, .ref m_actMany, .ref m_tokens, .ref m_afters, .ref m_afterOf, .int q_counted, .ref m_pile, .ref m_caseMany, .ref m_happen, .ref m_hasIf, .ref m_becomes, .ref m_goneOf, .ref m_heard, .ref m_pairs, .ref m_heaps, .int q_rounds, .int q_heapMany, .ref m_led, .ref m_newAt, .ref m_knowing, .ref m_firsts, .int (nI q_people), .ref m_secrets, .ref m_tried, .ref m_lanes, .ref m_lengths, .ref m_cells])), (m_tokens, .inl (E.2.1 1, 9, .inl f_tokens))]) ?_ rfl rfl rfl
    refine ww_if_eq_f (tgt := 20) C dX12_saying_5 (by decide) (by decide) ?_
    refine ww_iload_n C dX12_saying_8 2 rfl rfl ?_
    refine ww_i2l (v := v1.toInt64) C dX12_saying_9 rfl ?_
    refine ww_lconst (v := 0) C dX12_saying_10 rfl ?_
    refine ww_ldc2 C wv_X12_113 dX12_saying_11 ?_
    refine ww_ci (wr := [(m_actMany, .inl (E.2.1 1, 25, .inl f_actMany)), (m_actOf, .inl (E.2.1 1, 800, .inl f_actOf)), (m_whom, .inl (E.2.1 1, 800, .inl f_whom)), (m_afters, .inl (E.2.1 1, 9, .inl f_afters)), (m_pile, .inl (E.2.1 1, 34, .inl f_pile)), (hm, .inr (12, [.ref m_manys, .ref m_reals, .ref m_factsOf, .ref m_possible, .int (nI q_undos), .int (nI q_models), .ref m_tape, .int (nI q_taped), .int q_fault, .int q_wrong, .int q_wrongAt, .int q_spot, .int q_place, .int q_token, .int q_value, .ref m_ends, .ref m_letters, .ref m_actOf, .ref m_whom, .ref m_actMany, .ref m_tokens, .ref m_afters, .ref m_afterOf, .int q_counted, .ref m_pile, .ref m_caseMany, .ref m_happen, .ref m_hasIf, .ref m_becomes, .ref m_goneOf, .ref m_heard, .ref m_pairs, .ref m_heaps, .int q_rounds, .int q_heapMany, .ref m_led, .ref m_newAt, .ref m_knowing, .ref m_firsts, .int (nI q_people), .ref m_secrets, .ref m_tried, .ref m_lanes, .ref m_lengths, .ref m_cells])), (m_tokens, .inl (E.2.1 1, 9, .inl f_tokens))]) (k' := 0) (n' := 0) C (run_S (As := [.long v1.toInt64, .long 0, .long 3]) (rest := []) C (r_in X.2.1 E ro v1.toInt64 0 3 v1.toInt 0 3 (Int32.toInt_toInt64 _) rfl rfl) ms_X12_in wl_X12_115 rfl rfl rfl rfl dX12_saying_14) (roK hro) [] [0, 1, 2, 3, 4, 5, 6] rfl rfl (plk (by decide +kernel)) rfl (fun r_10 uz hw => ?_)
    rcases hw with hw | hw
    · refine an3 hw ?_
      clear hw
      intro he_13 he_14 h_11 hw
      have h_12 := hw
      clear hw
      have he_13 := he_13.symm
      subst he_13
      subst he_14
      refine ww_eq (ws' := [(m_actMany, .inl (E.2.1 1, 25, .inl f_actMany)), (m_actOf, .inl (E.2.1 1, 800, .inl f_actOf)), (m_whom, .inl (E.2.1 1, 800, .inl f_whom)), (m_afters, .inl (E.2.1 1, 9, .inl f_afters)), (m_pile, .inl (E.2.1 1, 34, .inl f_pile)), (hm, .inr (12, [.ref m_manys, .ref m_reals, .ref m_factsOf, .ref m_possible, .int (nI q_undos), .int (nI q_models), .ref m_tape, .int (nI q_taped), .int q_fault, .int q_wrong, .int q_wrongAt, .int q_spot, .int q_place, .int q_token, .int q_value, .ref m_ends, .ref m_letters, .ref m_actOf, .ref m_whom, .ref m_actMany, .ref m_tokens, .ref m_afters, .ref m_afterOf, .int q_counted, .ref m_pile, .ref m_caseMany, .ref m_happen, .ref m_hasIf, .ref m_becomes, .ref m_goneOf, .ref m_heard, .ref m_pairs, .ref m_heaps, .int q_rounds, .int q_heapMany, .ref m_led, .ref m_newAt, .ref m_knowing, .ref m_firsts, .int (nI q_people), .ref m_secrets, .ref m_tried, .ref m_lanes, .ref m_lengths, .ref m_cells])), (m_tokens, .inl (E.2.1 1, 9, .inl f_tokens))]) ?_ rfl rfl rfl
      refine ww_if_ne_t (tgt := 22) C dX12_saying_17 (by decide) (by decide) ?_
      obtain ⟨j_18, hj_18, rfl⟩ := i_nat (x := v0) (N := 7) (by omega) (by omega)
      have hzj_18 := nI_toInt (n := j_18) (by omega)
      refine ww_iconst (v := 0) C dX12_saying_22 rfl ?_
      refine ww_istore_n (lv' := [(3, .int 0), (0, .ref hm), (1, .int (nI j_18)), (2, .int v1)]) C dX12_saying_23 rfl rfl rfl ?_
      refine ww_iconst (v := 0) C dX12_saying_24 rfl ?_
      refine ww_istore (lv' := [(4, .int 0), (3, .int 0), (0, .ref hm), (1, .int (nI j_18)), (2, .int v1)]) C dX12_saying_25 rfl rfl ?_
      have loop_27 : ∀ (fu : Nat) (i1 : Nat) (ac : Int32), (i1 ≤ cN f_actMany j_18) → (ac = nPl (rO f_actOf j_18) (rA f_actOf f_whom j_18) i1) → cN f_actMany j_18 - i1 < fu → WW X 6 E 27 [(4, .int (nI i1)), (3, .int ac), (0, .ref hm), (1, .int (nI j_18)), (2, .int v1)] [] [(m_actMany, .inl (E.2.1 1, 25, .inl f_actMany)), (m_actOf, .inl (E.2.1 1, 800, .inl f_actOf)), (m_whom, .inl (E.2.1 1, 800, .inl f_whom)), (m_afters, .inl (E.2.1 1, 9, .inl f_afters)), (m_pile, .inl (E.2.1 1, 34, .inl f_pile)), (hm, .inr (12, [.ref m_manys, .ref m_reals, .ref m_factsOf, .ref m_possible, .int (nI q_undos), .int (nI q_models), .ref m_tape, .int (nI q_taped), .int q_fault, .int q_wrong, .int q_wrongAt, .int q_spot, .int q_place, .int q_token, .int q_value, .ref m_ends, .ref m_letters, .ref m_actOf, .ref m_whom, .ref m_actMany, .ref m_tokens, .ref m_afters, .ref m_afterOf, .int q_counted, .ref m_pile, .ref m_caseMany, .ref m_happen, .ref m_hasIf, .ref m_becomes, .ref m_goneOf, .ref m_heard, .ref m_pairs, .ref m_heaps, .int q_rounds, .int q_heapMany, .ref m_led, .ref m_newAt, .ref m_knowing, .ref m_firsts, .int (nI q_people), .ref m_secrets, .ref m_tried, .ref m_lanes, .ref m_lengths, .ref m_cells])), (m_tokens, .inl (E.2.1 1, 9, .inl f_tokens))] 0 0 := by
        intro fu
        induction fu with
        | zero => intro i1 ac hi1 hac hmeas; exact absurd hmeas (Nat.not_lt_zero _)
        | succ fu ih_27 =>
          intro i1 ac hi1 hac hmeas
          refine ww_iload C dX12_saying_27 0 rfl ?_
          refine ww_aload_n C dX12_saying_29 2 rfl rfl ?_
          refine ww_get C fg_X12_37 5 rfl rfl dX12_saying_30 ?_
          refine ww_iload_n C dX12_saying_33 3 rfl rfl ?_
          have hbx_19 := (hb_actMany j_18 (by omega)).2
          refine ww_iald (v := (nI (cN f_actMany j_18))) C 0 rfl (vp_in_nI (by omega) (by omega)) (ldn (by omega) (hb_actMany j_18 (by omega)).1) dX12_saying_34 ?_
          refine ww_icmp_ge (tgt := 75) C dX12_saying_35 (by decide) (fun c_20 => ?_) (fun c_20 => ?_)
          · have zc_20 : ((i1 : Nat) : Int) ≥ ((cN f_actMany j_18 : Nat) : Int) := i_le (nI_toInt (n := cN f_actMany j_18) (by omega)) (nI_toInt (n := i1) (by omega)) c_20
            refine ww_iload_n C dX12_saying_75 4 rfl rfl ?_
            refine ww_if_ne (tgt := 88) C dX12_saying_76 (by decide) (fun c_21 => ?_) (fun c_21 => ?_)
            · have zc_21 : v1.toInt ≠ 0 := i_ne rfl rfl c_21
              refine ww_iload_n C dX12_saying_88 4 rfl rfl ?_
              refine ww_iconst (v := 1) C dX12_saying_89 rfl ?_
              refine ww_icmp_ne (tgt := 102) C dX12_saying_90 (by decide) (fun c_22 => ?_) (fun c_22 => ?_)
              · have zc_22 : v1.toInt ≠ 1 := i_ne rfl rfl c_22
                refine ww_iload_n C dX12_saying_102 4 rfl rfl ?_
                refine ww_iconst (v := 2) C dX12_saying_103 rfl ?_
                refine ww_icmp_ne (tgt := 115) C dX12_saying_104 (by decide) (fun c_23 => ?_) (fun c_23 => ?_)
                · have zc_23 : v1.toInt ≠ 2 := i_ne rfl rfl c_23
                  refine ww_iload_n C dX12_saying_115 1 rfl rfl ?_
                  exact ww_iret (u := [(hm, .inr (12, [.ref m_manys, .ref m_reals, .ref m_factsOf, .ref m_possible, .int (nI q_undos), .int (nI q_models), .ref m_tape, .int (nI q_taped), .int q_fault, .int q_wrong, .int q_wrongAt, .int q_spot, .int q_place, .int q_token, .int q_value, .ref m_ends, .ref m_letters, .ref m_actOf, .ref m_whom, .ref m_actMany, .ref m_tokens, .ref m_afters, .ref m_afterOf, .int q_counted, .ref m_pile, .ref m_caseMany, .ref m_happen, .ref m_hasIf, .ref m_becomes, .ref m_goneOf, .ref m_heard, .ref m_pairs, .ref m_heaps, .int q_rounds, .int q_heapMany, .ref m_led, .ref m_newAt, .ref m_knowing, .ref m_firsts, .int (nI q_people), .ref m_secrets, .ref m_tried, .ref m_lanes, .ref m_lengths, .ref m_cells])), (m_actMany, .inl (E.2.1 1, 25, .inl f_actMany)), (m_actOf, .inl (E.2.1 1, 800, .inl f_actOf)), (m_whom, .inl (E.2.1 1, 800, .inl f_whom)), (m_tokens, .inl (E.2.1 1, 9, .inl f_tokens)), (m_afters, .inl (E.2.1 1, 9, .inl f_afters)), (m_pile, .inl (E.2.1 1, 34, .inl f_pile))]) C hT [5, 0, 1, 2, 6, 3, 4] rfl rfl rfl rfl dX12_saying_116 (⟨f_pile, rfl, (((show ac = nPl _ _ i1 from hac).trans (by rw [show i1 = cN f_actMany j_18 by omega])).trans (sy_3 (j := j_18) (by omega) (rsy_at (by have h9 := h_4; rw [nI_clamp (by omega)] at h9; exact h9)) (by omega)))⟩)
                · have zc_23 : v1.toInt = 2 := i_eq rfl rfl c_23
                  refine ww_aload_n C dX12_saying_107 2 rfl rfl ?_
                  refine ww_iload_n C dX12_saying_108 3 rfl rfl ?_
                  refine ww_ci (wr := [(m_whom, .inl (E.2.1 1, 800, .inl f_whom)), (m_afters, .inl (E.2.1 1, 9, .inl f_afters)), (m_tokens, .inl (E.2.1 1, 9, .inl f_tokens))]) (k' := 0) (n' := 0) C (run_V (As := [.int (nI j_18)]) (rest := []) C (r_depthOf X.2.1 E ro hm j_18 m_manys m_reals m_factsOf m_possible q_undos q_models m_tape q_taped q_fault q_wrong q_wrongAt q_spot q_place q_token q_value m_ends m_letters m_actOf m_whom m_actMany m_tokens m_afters m_afterOf q_counted m_pile m_caseMany m_happen m_hasIf m_becomes m_goneOf m_heard m_pairs m_heaps q_rounds q_heapMany m_led m_newAt m_knowing m_firsts q_people m_secrets m_tried m_lanes m_lengths m_cells f_actMany f_actOf f_pile hb_actMany hsv (by omega) (hWT j_18 (by omega) (by have h9 := h_4; rw [nI_clamp (by omega)] at h9; exact h9)).1) mi_X12_depthOf wl_X12_227 rfl 0 12 rfl rfl rfl rfl rfl dX12_saying_109) (roK hro) [5, 0, 1, 4] [2, 3, 6] rfl rfl rfl rfl (fun r_24 uz hw => ?_)
                  refine ex1 hw ?_
                  clear hw
                  intro f_pilez_25 hw
                  refine an1 hw ?_
                  clear hw
                  intro he_27 hw
                  have h_26 := hw
                  clear hw
                  subst he_27
                  refine ww_eq (ws' := [(m_whom, .inl (E.2.1 1, 800, .inl f_whom)), (m_afters, .inl (E.2.1 1, 9, .inl f_afters)), (m_tokens, .inl (E.2.1 1, 9, .inl f_tokens)), (hm, .inr (12, [.ref m_manys, .ref m_reals, .ref m_factsOf, .ref m_possible, .int (nI q_undos), .int (nI q_models), .ref m_tape, .int (nI q_taped), .int q_fault, .int q_wrong, .int q_wrongAt, .int q_spot, .int q_place, .int q_token, .int q_value, .ref m_ends, .ref m_letters, .ref m_actOf, .ref m_whom, .ref m_actMany, .ref m_tokens, .ref m_afters, .ref m_afterOf, .int q_counted, .ref m_pile, .ref m_caseMany, .ref m_happen, .ref m_hasIf, .ref m_becomes, .ref m_goneOf, .ref m_heard, .ref m_pairs, .ref m_heaps, .int q_rounds, .int q_heapMany, .ref m_led, .ref m_newAt, .ref m_knowing, .ref m_firsts, .int (nI q_people), .ref m_secrets, .ref m_tried, .ref m_lanes, .ref m_lengths, .ref m_cells])), (m_actMany, .inl (E.2.1 1, 25, .inl f_actMany)), (m_actOf, .inl (E.2.1 1, 800, .inl f_actOf)), (m_pile, .inl (E.2.1 1, 34, .inl f_pilez_25))]) ?_ rfl rfl rfl
                  refine ww_goto (tgt := 116) C dX12_saying_112 (by decide) ?_
                  exact ww_iret (u := [(hm, .inr (12, [.ref m_manys, .ref m_reals, .ref m_factsOf, .ref m_possible, .int (nI q_undos), .int (nI q_models), .ref m_tape, .int (nI q_taped), .int q_fault, .int q_wrong, .int q_wrongAt, .int q_spot, .int q_place, .int q_token, .int q_value, .ref m_ends, .ref m_letters, .ref m_actOf, .ref m_whom, .ref m_actMany, .ref m_tokens, .ref m_afters, .ref m_afterOf, .int q_counted, .ref m_pile, .ref m_caseMany, .ref m_happen, .ref m_hasIf, .ref m_becomes, .ref m_goneOf, .ref m_heard, .ref m_pairs, .ref m_heaps, .int q_rounds, .int q_heapMany, .ref m_led, .ref m_newAt, .ref m_knowing, .ref m_firsts, .int (nI q_people), .ref m_secrets, .ref m_tried, .ref m_lanes, .ref m_lengths, .ref m_cells])), (m_actMany, .inl (E.2.1 1, 25, .inl f_actMany)), (m_actOf, .inl (E.2.1 1, 800, .inl f_actOf)), (m_whom, .inl (E.2.1 1, 800, .inl f_whom)), (m_tokens, .inl (E.2.1 1, 9, .inl f_tokens)), (m_afters, .inl (E.2.1 1, 9, .inl f_afters)), (m_pile, .inl (E.2.1 1, 34, .inl f_pilez_25))]) C hT [3, 4, 5, 0, 2, 1, 6] rfl rfl rfl rfl dX12_saying_116 (⟨f_pilez_25, rfl, (h_26.trans (sy_2 (j := j_18) (by omega) (rsy_at (by have h9 := h_4; rw [nI_clamp (by omega)] at h9; exact h9)) (by omega)))⟩)
              · have zc_22 : v1.toInt = 1 := i_eq rfl rfl c_22
                refine ww_aload_n C dX12_saying_93 2 rfl rfl ?_
                refine ww_get C fg_X12_43 5 rfl rfl dX12_saying_94 ?_
                refine ww_iload_n C dX12_saying_97 3 rfl rfl ?_
                have hbx_28 := (hb_afters j_18 (by omega)).2
                refine ww_iald (v := (nI (cN f_afters j_18))) C 3 rfl (vp_in_nI (by omega) (by omega)) (ldn (by omega) (hb_afters j_18 (by omega)).1) dX12_saying_98 ?_
                refine ww_goto (tgt := 116) C dX12_saying_99 (by decide) ?_
                exact ww_iret (u := [(hm, .inr (12, [.ref m_manys, .ref m_reals, .ref m_factsOf, .ref m_possible, .int (nI q_undos), .int (nI q_models), .ref m_tape, .int (nI q_taped), .int q_fault, .int q_wrong, .int q_wrongAt, .int q_spot, .int q_place, .int q_token, .int q_value, .ref m_ends, .ref m_letters, .ref m_actOf, .ref m_whom, .ref m_actMany, .ref m_tokens, .ref m_afters, .ref m_afterOf, .int q_counted, .ref m_pile, .ref m_caseMany, .ref m_happen, .ref m_hasIf, .ref m_becomes, .ref m_goneOf, .ref m_heard, .ref m_pairs, .ref m_heaps, .int q_rounds, .int q_heapMany, .ref m_led, .ref m_newAt, .ref m_knowing, .ref m_firsts, .int (nI q_people), .ref m_secrets, .ref m_tried, .ref m_lanes, .ref m_lengths, .ref m_cells])), (m_actMany, .inl (E.2.1 1, 25, .inl f_actMany)), (m_actOf, .inl (E.2.1 1, 800, .inl f_actOf)), (m_whom, .inl (E.2.1 1, 800, .inl f_whom)), (m_tokens, .inl (E.2.1 1, 9, .inl f_tokens)), (m_afters, .inl (E.2.1 1, 9, .inl f_afters)), (m_pile, .inl (E.2.1 1, 34, .inl f_pile))]) C hT [5, 0, 1, 2, 6, 3, 4] rfl rfl rfl rfl dX12_saying_116 (⟨f_pile, rfl, (sy_1 (j := j_18) (by omega) (rsy_at (by have h9 := h_4; rw [nI_clamp (by omega)] at h9; exact h9)) (by omega))⟩)
            · have zc_21 : v1.toInt = 0 := i_eq rfl rfl c_21
              refine ww_aload_n C dX12_saying_79 2 rfl rfl ?_
              refine ww_get C fg_X12_40 5 rfl rfl dX12_saying_80 ?_
              refine ww_iload_n C dX12_saying_83 3 rfl rfl ?_
              obtain ⟨x_29, ex_29⟩ : ∃ z : Int32, f_tokens j_18 = z := ⟨_, rfl⟩
              refine ww_iald (v := x_29) C 6 rfl (vp_in_nI (by omega) (by omega)) (ldn (by omega) ex_29) dX12_saying_84 ?_
              refine ww_goto (tgt := 116) C dX12_saying_85 (by decide) ?_
              exact ww_iret (u := [(hm, .inr (12, [.ref m_manys, .ref m_reals, .ref m_factsOf, .ref m_possible, .int (nI q_undos), .int (nI q_models), .ref m_tape, .int (nI q_taped), .int q_fault, .int q_wrong, .int q_wrongAt, .int q_spot, .int q_place, .int q_token, .int q_value, .ref m_ends, .ref m_letters, .ref m_actOf, .ref m_whom, .ref m_actMany, .ref m_tokens, .ref m_afters, .ref m_afterOf, .int q_counted, .ref m_pile, .ref m_caseMany, .ref m_happen, .ref m_hasIf, .ref m_becomes, .ref m_goneOf, .ref m_heard, .ref m_pairs, .ref m_heaps, .int q_rounds, .int q_heapMany, .ref m_led, .ref m_newAt, .ref m_knowing, .ref m_firsts, .int (nI q_people), .ref m_secrets, .ref m_tried, .ref m_lanes, .ref m_lengths, .ref m_cells])), (m_actMany, .inl (E.2.1 1, 25, .inl f_actMany)), (m_actOf, .inl (E.2.1 1, 800, .inl f_actOf)), (m_whom, .inl (E.2.1 1, 800, .inl f_whom)), (m_tokens, .inl (E.2.1 1, 9, .inl f_tokens)), (m_afters, .inl (E.2.1 1, 9, .inl f_afters)), (m_pile, .inl (E.2.1 1, 34, .inl f_pile))]) C hT [5, 0, 1, 2, 6, 3, 4] rfl rfl rfl rfl dX12_saying_116 (⟨f_pile, rfl, ((ex_29).symm.trans (sy_0 (j := j_18) (by omega) (rsy_at (by have h9 := h_4; rw [nI_clamp (by omega)] at h9; exact h9)) (by omega)))⟩)
          · have zc_20 : ((i1 : Nat) : Int) < ((cN f_actMany j_18 : Nat) : Int) := i_nle (nI_toInt (n := cN f_actMany j_18) (by omega)) (nI_toInt (n := i1) (by omega)) c_20
            refine ww_aload_n C dX12_saying_38 2 rfl rfl ?_
            refine ww_get C fg_X12_31 5 rfl rfl dX12_saying_39 ?_
            refine ww_bipush (v := 32) C dX12_saying_42 rfl ?_
            refine ww_iload_n C dX12_saying_44 3 rfl rfl ?_
            refine ww_imul (v := (nI (32 * j_18))) C dX12_saying_45 (pk_mul 32 j_18) ?_
            refine ww_iload C dX12_saying_46 0 rfl ?_
            refine ww_iadd (v := (nI ((32 * j_18) + i1))) C dX12_saying_48 (nI_add (32 * j_18) i1) ?_
            obtain ⟨x_30, ex_30⟩ : ∃ z : Int32, f_actOf ((32 * j_18) + i1) = z := ⟨_, rfl⟩
            refine ww_iald (v := x_30) C 1 rfl (vp_in_nI (by omega) (by omega)) (ldn (by omega) ex_30) dX12_saying_49 ?_
            refine ww_istore (lv' := [(5, .int x_30), (4, .int (nI i1)), (3, .int ac), (0, .ref hm), (1, .int (nI j_18)), (2, .int v1)]) C dX12_saying_50 rfl rfl ?_
            refine ww_iload_n C dX12_saying_52 2 rfl rfl ?_
            refine ww_iload C dX12_saying_53 0 rfl ?_
            refine ww_iconst (v := 4) C dX12_saying_55 rfl ?_
            refine ww_icmp_ge (tgt := 66) C dX12_saying_56 (by decide) (fun c_31 => ?_) (fun c_31 => ?_)
            · have zc_31 : x_30.toInt ≥ 4 := i_le rfl rfl c_31
              refine ww_iconst (v := 0) C dX12_saying_66 rfl ?_
              obtain ⟨x_32, ex_32⟩ : ∃ z : Int32, ac ||| (0 : Int32) = z := ⟨_, rfl⟩
              refine ww_ior (v := x_32) C dX12_saying_67 ex_32 ?_
              refine ww_istore_n (lv' := [(3, .int x_32), (5, .int x_30), (4, .int (nI i1)), (0, .ref hm), (1, .int (nI j_18)), (2, .int v1)]) C dX12_saying_68 rfl rfl rfl ?_
              refine ww_iinc (j := 2) (v := (nI (i1 + 1))) (lv' := [(4, .int (nI (i1 + 1))), (3, .int x_32), (5, .int x_30), (0, .ref hm), (1, .int (nI j_18)), (2, .int v1)]) C dX12_saying_69 rfl (nI_add i1 1) rfl rfl ?_
              refine ww_goto (tgt := 27) C dX12_saying_72 (by decide) ?_
              exact ww_lv [0, 1, 3, 4, 5] rfl (ww_sub [0, 1, 2, 3, 4, 5, 6] rfl rfl (ih_27 (i1 + 1) x_32 (by omega) (by first | exact nPl_r0 hac ex_30 (by omega) (by have h9 := ((hsv j_18 (by omega)).2.1.1 i1 (by omega)); rw [show slot f_actOf j_18 i1 = x_30 by assumption] at h9; exact h9) ex_32) (by omega)))
            · have zc_31 : x_30.toInt < 4 := i_nle rfl rfl c_31
              refine ww_iconst (v := 1) C dX12_saying_59 rfl ?_
              refine ww_iload C dX12_saying_60 0 rfl ?_
              obtain ⟨x_33, ex_33⟩ : ∃ z : Int32, (1 : Int32) <<< (x_30 &&& 31) = z := ⟨_, rfl⟩
              refine ww_ishl (v := x_33) C dX12_saying_62 ex_33 ?_
              refine ww_goto (tgt := 67) C dX12_saying_63 (by decide) ?_
              obtain ⟨x_34, ex_34⟩ : ∃ z : Int32, ac ||| x_33 = z := ⟨_, rfl⟩
              refine ww_ior (v := x_34) C dX12_saying_67 ex_34 ?_
              refine ww_istore_n (lv' := [(3, .int x_34), (5, .int x_30), (4, .int (nI i1)), (0, .ref hm), (1, .int (nI j_18)), (2, .int v1)]) C dX12_saying_68 rfl rfl rfl ?_
              refine ww_iinc (j := 2) (v := (nI (i1 + 1))) (lv' := [(4, .int (nI (i1 + 1))), (3, .int x_34), (5, .int x_30), (0, .ref hm), (1, .int (nI j_18)), (2, .int v1)]) C dX12_saying_69 rfl (nI_add i1 1) rfl rfl ?_
              refine ww_goto (tgt := 27) C dX12_saying_72 (by decide) ?_
              exact ww_lv [0, 1, 3, 4, 5] rfl (ww_sub [0, 1, 2, 3, 4, 5, 6] rfl rfl (ih_27 (i1 + 1) x_34 (by omega) (by first | exact nPl_r0 hac ex_30 (by omega) (by have h9 := ((hsv j_18 (by omega)).2.1.1 i1 (by omega)); rw [show slot f_actOf j_18 i1 = x_30 by assumption] at h9; exact h9) ex_34 | exact nPl_r1 hac ex_30 (show 0 ≤ x_30.toInt ∧ x_30.toInt ≤ 12 by have h9 := ((hsv j_18 (by omega)).2.1.1 i1 (by omega)); rw [show slot f_actOf j_18 i1 = x_30 by assumption] at h9; exact h9).1 (by omega) ex_33 ex_34) (by omega)))
      exact ww_lv [0, 1, 2, 3, 4] rfl (ww_sub [0, 1, 2, 3, 4, 5, 6] rfl rfl (loop_27 _ 0 0 (by omega) rfl (Nat.lt_succ_self _)))
    · refine an2 hw ?_
      clear hw
      intro he_16 he_17 hw
      have h_15 := hw
      clear hw
      have he_16 := he_16.symm
      subst he_16
      subst he_17
      refine ww_eq (ws' := [(m_actMany, .inl (E.2.1 1, 25, .inl f_actMany)), (m_actOf, .inl (E.2.1 1, 800, .inl f_actOf)), (m_whom, .inl (E.2.1 1, 800, .inl f_whom)), (m_afters, .inl (E.2.1 1, 9, .inl f_afters)), (m_pile, .inl (E.2.1 1, 34, .inl f_pile)), (hm, .inr (12, [.ref m_manys, .ref m_reals, .ref m_factsOf, .ref m_possible, .int (nI q_undos), .int (nI q_models), .ref m_tape, .int (nI q_taped), .int q_fault, .int q_wrong, .int q_wrongAt, .int q_spot, .int q_place, .int q_token, .int q_value, .ref m_ends, .ref m_letters, .ref m_actOf, .ref m_whom, .ref m_actMany, .ref m_tokens, .ref m_afters, .ref m_afterOf, .int q_counted, .ref m_pile, .ref m_caseMany, .ref m_happen, .ref m_hasIf, .ref m_becomes, .ref m_goneOf, .ref m_heard, .ref m_pairs, .ref m_heaps, .int q_rounds, .int q_heapMany, .ref m_led, .ref m_newAt, .ref m_knowing, .ref m_firsts, .int (nI q_people), .ref m_secrets, .ref m_tried, .ref m_lanes, .ref m_lengths, .ref m_cells])), (m_tokens, .inl (E.2.1 1, 9, .inl f_tokens))]) ?_ rfl rfl rfl
      refine ww_if_ne_f (tgt := 22) C dX12_saying_17 (by decide) (rfl) ?_
      refine ww_iconst (v := (-1)) C dX12_saying_20 rfl ?_
      exact ww_iret (u := [(hm, .inr (12, [.ref m_manys, .ref m_reals, .ref m_factsOf, .ref m_possible, .int (nI q_undos), .int (nI q_models), .ref m_tape, .int (nI q_taped), .int q_fault, .int q_wrong, .int q_wrongAt, .int q_spot, .int q_place, .int q_token, .int q_value, .ref m_ends, .ref m_letters, .ref m_actOf, .ref m_whom, .ref m_actMany, .ref m_tokens, .ref m_afters, .ref m_afterOf, .int q_counted, .ref m_pile, .ref m_caseMany, .ref m_happen, .ref m_hasIf, .ref m_becomes, .ref m_goneOf, .ref m_heard, .ref m_pairs, .ref m_heaps, .int q_rounds, .int q_heapMany, .ref m_led, .ref m_newAt, .ref m_knowing, .ref m_firsts, .int (nI q_people), .ref m_secrets, .ref m_tried, .ref m_lanes, .ref m_lengths, .ref m_cells])), (m_actMany, .inl (E.2.1 1, 25, .inl f_actMany)), (m_actOf, .inl (E.2.1 1, 800, .inl f_actOf)), (m_whom, .inl (E.2.1 1, 800, .inl f_whom)), (m_tokens, .inl (E.2.1 1, 9, .inl f_tokens)), (m_afters, .inl (E.2.1 1, 9, .inl f_afters)), (m_pile, .inl (E.2.1 1, 34, .inl f_pile))]) C hT [5, 0, 1, 2, 6, 3, 4] rfl rfl rfl rfl dX12_saying_21 (⟨f_pile, rfl, (sy_o (by omega))⟩)
  · refine an2 hw ?_
    clear hw
    intro he_8 he_9 hw
    have h_7 := hw
    clear hw
    have he_8 := he_8.symm
    subst he_8
    subst he_9
    refine ww_eq (ws' := [(m_actMany, .inl (E.2.1 1, 25, .inl f_actMany)), (m_actOf, .inl (E.2.1 1, 800, .inl f_actOf)), (m_whom, .inl (E.2.1 1, 800, .inl f_whom)), (m_afters, .inl (E.2.1 1, 9, .inl f_afters)), (m_pile, .inl (E.2.1 1, 34, .inl f_pile)), (hm, .inr (12, [.ref m_manys, .ref m_reals, .ref m_factsOf, .ref m_possible, .int (nI q_undos), .int (nI q_models), .ref m_tape, .int (nI q_taped), .int q_fault, .int q_wrong, .int q_wrongAt, .int q_spot, .int q_place, .int q_token, .int q_value, .ref m_ends, .ref m_letters, .ref m_actOf, .ref m_whom, .ref m_actMany, .ref m_tokens, .ref m_afters, .ref m_afterOf, .int q_counted, .ref m_pile, .ref m_caseMany, .ref m_happen, .ref m_hasIf, .ref m_becomes, .ref m_goneOf, .ref m_heard, .ref m_pairs, .ref m_heaps, .int q_rounds, .int q_heapMany, .ref m_led, .ref m_newAt, .ref m_knowing, .ref m_firsts, .int (nI q_people), .ref m_secrets, .ref m_tried, .ref m_lanes, .ref m_lengths, .ref m_cells])), (m_tokens, .inl (E.2.1 1, 9, .inl f_tokens))]) ?_ rfl rfl rfl
    refine ww_if_eq_t (tgt := 20) C dX12_saying_5 (by decide) (rfl) ?_
    refine ww_iconst (v := (-1)) C dX12_saying_20 rfl ?_
    exact ww_iret (u := [(hm, .inr (12, [.ref m_manys, .ref m_reals, .ref m_factsOf, .ref m_possible, .int (nI q_undos), .int (nI q_models), .ref m_tape, .int (nI q_taped), .int q_fault, .int q_wrong, .int q_wrongAt, .int q_spot, .int q_place, .int q_token, .int q_value, .ref m_ends, .ref m_letters, .ref m_actOf, .ref m_whom, .ref m_actMany, .ref m_tokens, .ref m_afters, .ref m_afterOf, .int q_counted, .ref m_pile, .ref m_caseMany, .ref m_happen, .ref m_hasIf, .ref m_becomes, .ref m_goneOf, .ref m_heard, .ref m_pairs, .ref m_heaps, .int q_rounds, .int q_heapMany, .ref m_led, .ref m_newAt, .ref m_knowing, .ref m_firsts, .int (nI q_people), .ref m_secrets, .ref m_tried, .ref m_lanes, .ref m_lengths, .ref m_cells])), (m_actMany, .inl (E.2.1 1, 25, .inl f_actMany)), (m_actOf, .inl (E.2.1 1, 800, .inl f_actOf)), (m_whom, .inl (E.2.1 1, 800, .inl f_whom)), (m_tokens, .inl (E.2.1 1, 9, .inl f_tokens)), (m_afters, .inl (E.2.1 1, 9, .inl f_afters)), (m_pile, .inl (E.2.1 1, 34, .inl f_pile))]) C hT [5, 0, 1, 2, 6, 3, 4] rfl rfl rfl rfl dX12_saying_21 (⟨f_pile, rfl, (rsy_no h_7)⟩)
end
section
/-! heaps of the reference -/
def rowH (hp : Nat → Int32) (r : Nat) : Nat → Int32 := fun w => hp (48 * r + w)
theorem rowH_0 (hp : Nat → Int32) : rowH hp 0 = hp := by funext w; unfold rowH; rw [Nat.mul_zero, Nat.zero_add]
theorem rowH_k {hp hp' : Nat → Int32} {r w : Nat} (h : KP (48 * (r + 1)) hp hp') (hw : w < 48) : rowH hp' r w = rowH hp r w := h _ (by omega)
def fxN (ff : Nat → Int32) : Nat → Int32 := fun v => ff (0 + v)
def fxR (n : Nat) (ff : Nat → Int32) (b : Nat) : Nat → Int32 := fun v => if v < n then ff (0 + v) else ff (24 * b + v - n)
theorem fxR_l {n b v : Nat} {ff : Nat → Int32} (h : v < n) : ff (0 + v) = fxR n ff b v := by unfold fxR; rw [if_pos h]
theorem fxR_r {n b v : Nat} {ff : Nat → Int32} (h : n ≤ v) : ff (24 * b + v - n) = fxR n ff b v := by unfold fxR; rw [if_neg (by omega)]
def ALR (hp : Nat → Int32) (r : Nat) (led : Nat → Int64) (v w : Nat) : Prop := hp (48 * r + v) = hp (48 * r + w) ∧ ∀ k, k < 4 → led (4 * v + k) = led (4 * w + k)
theorem ALR.rf {hp : Nat → Int32} {r : Nat} {led : Nat → Int64} {v : Nat} : ALR hp r led v v := ⟨rfl, fun _ _ => rfl⟩
theorem ALR.kp {hp hp' : Nat → Int32} {r : Nat} {led : Nat → Int64} {v w : Nat} (h : KP (48 * (r + 1)) hp hp') (hv : v < 48) (hw : w < 48) (a : ALR hp' r led v w) : ALR hp r led v w := ⟨by rw [← h _ (show 48 * r + v < _ by omega), ← h _ (show 48 * r + w < _ by omega)]; exact a.1, a.2⟩
theorem ALR.kp' {hp hp' : Nat → Int32} {r : Nat} {led : Nat → Int64} {v w : Nat} (h : KP (48 * (r + 1)) hp hp') (hv : v < 48) (hw : w < 48) (a : ALR hp r led v w) : ALR hp' r led v w := ⟨by rw [h _ (show 48 * r + v < _ by omega), h _ (show 48 * r + w < _ by omega)]; exact a.1, a.2⟩
def LEx (led : Nat → Int64) (v w k : Nat) : Prop := ∀ m, m < k → led (4 * v + m) = led (4 * w + m)
theorem LEx.zero {led : Nat → Int64} {v w : Nat} : LEx led v w 0 := fun m h => absurd h (Nat.not_lt_zero _)
theorem LEx.ext {led : Nat → Int64} {v w k : Nat} {x y : Int64} (h : LEx led v w k) (ex : led (4 * v + k) = x) (ey : led (4 * w + k) = y) (e : x.toInt = y.toInt) : LEx led v w (k + 1) := by
  intro m hm
  by_cases hk : m = k
  · rw [hk, ex, ey]; exact Int64.toInt_inj.mp e
  · exact h m (by omega)
/-- whether v and w are alike as far as k knowers say, and whether that is known -/
def ALk (hp : Nat → Int32) (r : Nat) (led : Nat → Int64) (v w k a : Nat) : Prop := (a = 1 → hp (48 * r + v) = hp (48 * r + w) ∧ LEx led v w k) ∧ (a = 0 → ¬ ALR hp r led v w)
theorem ALk.start {hp : Nat → Int32} {r : Nat} {led : Nat → Int64} {v w : Nat} {x y : Int32} (ex : hp (48 * r + v) = x) (ey : hp (48 * r + w) = y) (h : x.toInt = y.toInt) : ALk hp r led v w 0 1 := ⟨fun _ => ⟨by rw [ex, ey]; exact Int32.toInt_inj.mp h, LEx.zero⟩, fun h => absurd h (by decide)⟩
theorem ALk.start0 {hp : Nat → Int32} {r : Nat} {led : Nat → Int64} {v w : Nat} {x y : Int32} (ex : hp (48 * r + v) = x) (ey : hp (48 * r + w) = y) (h : x.toInt ≠ y.toInt) : ALk hp r led v w 0 0 := ⟨fun h => absurd h (by decide), fun _ q => h (by rw [← ex, ← ey, q.1])⟩
theorem ALk.keep0 {hp : Nat → Int32} {r : Nat} {led : Nat → Int64} {v w k a : Nat} (h : ALk hp r led v w k a) (ha : a = 0) : ALk hp r led v w (k + 1) 0 := ⟨fun h => absurd h (by decide), fun _ => h.2 ha⟩
theorem ALk.no {hp : Nat → Int32} {r : Nat} {led : Nat → Int64} {v w k a : Nat} {x y : Int64} (hk : k < 4) (ex : led (4 * v + k) = x) (ey : led (4 * w + k) = y) (h : x.toInt ≠ y.toInt) (_ : ALk hp r led v w k a) : ALk hp r led v w (k + 1) 0 := ⟨fun h => absurd h (by decide), fun _ q => h (by rw [← ex, ← ey, q.2 k hk])⟩
theorem ALk.yes {hp : Nat → Int32} {r : Nat} {led : Nat → Int64} {v w k a : Nat} {x y : Int64} (h : ALk hp r led v w k a) (ha : a = 1) (ex : led (4 * v + k) = x) (ey : led (4 * w + k) = y) (e : x.toInt = y.toInt) : ALk hp r led v w (k + 1) 1 := ⟨fun _ => ⟨(h.1 ha).1, (h.1 ha).2.ext ex ey e⟩, fun h => absurd h (by decide)⟩
theorem ALk.is {hp : Nat → Int32} {r : Nat} {led : Nat → Int64} {v w a : Nat} (h : ALk hp r led v w 4 a) (ha : a = 1) : ALR hp r led v w := ⟨(h.1 ha).1, (h.1 ha).2⟩
/-- of each world of the next row the least that is alike -/
def LA2 (n : Nat) (hp : Nat → Int32) (r : Nat) (led : Nat → Int64) (hp' : Nat → Int32) : Prop := ∀ w, w < n → ∃ v : Nat, v ≤ w ∧ rowH hp' (r + 1) w = nI v ∧ ALR hp r led v w ∧ ∀ u, u < v → ¬ ALR hp r led u w
theorem LA2.zero {hp hp' : Nat → Int32} {r : Nat} {led : Nat → Int64} : LA2 0 hp r led hp' := fun v h => absurd h (Nat.not_lt_zero _)
theorem LA2.ext {i v : Nat} {hp h1 h2 : Nat → Int32} {r : Nat} {led : Nat → Int64} (h : LA2 i hp r led h1) (hv : v ≤ i) (ha : ALR hp r led v i) (hu : ∀ u, u < v → ¬ ALR hp r led u i) (e : upd h1 (48 * (r + 1) + i) (nI v) = h2) : LA2 (i + 1) hp r led h2 := by
  intro w hw
  by_cases hk : w = i
  · subst hk
    exact ⟨v, hv, by unfold rowH; rw [← e, pk_us], ha, hu⟩
  · obtain ⟨x, a, b, c, d⟩ := h w (by omega)
    refine ⟨x, a, ?_, c, d⟩
    rw [← b]; unfold rowH; rw [← e, pk_un (by omega)]
theorem ALR.tr {hp : Nat → Int32} {r : Nat} {led : Nat → Int64} {u v w : Nat} (a : ALR hp r led u v) (b : ALR hp r led v w) : ALR hp r led u w := ⟨a.1.trans b.1, fun k hk => (a.2 k hk).trans (b.2 k hk)⟩
theorem LA2.LI {n : Nat} {hp hp' : Nat → Int32} {r : Nat} {led : Nat → Int64} (h : LA2 n hp r led hp') : LI n (rowH hp' (r + 1)) := by
  intro w hw
  obtain ⟨v, h1, h2, h3, h4⟩ := h w hw
  obtain ⟨u, g1, g2, g3, g4⟩ := h v (by omega)
  have e : u = v := by
    rcases Nat.lt_or_ge u v with q | q
    · exact absurd (g3.tr h3) (h4 u q)
    · omega
  rw [e] at g2
  exact ⟨v, h1, h2, g2⟩
/-- how many worlds name their heap -/
def cbS (hp : Nat → Int32) (r n : Nat) : Nat := cb (fun w => decide (rowH hp r w = nI w)) n
def MOR (n : Nat) (hp : Nat → Int32) (r : Nat) (hp' : Nat → Int32) : Prop := ∃ w, w < n ∧ rowH hp' (r + 1) w ≠ rowH hp r w
theorem MOR.ext {i : Nat} {v' : Int32} {hp h1 h2 : Nat → Int32} {r : Nat} (h : MOR i hp r h1) (e : upd h1 (48 * (r + 1) + i) v' = h2) : MOR (i + 1) hp r h2 := by
  obtain ⟨w, hw, hn⟩ := h
  refine ⟨w, by omega, ?_⟩
  have q : rowH h2 (r + 1) w = rowH h1 (r + 1) w := by unfold rowH; rw [← e, pk_un (by omega)]
  rw [q]; exact hn
theorem MOR.new {i v : Nat} {hp h1 h2 : Nat → Int32} {r : Nat} {x : Int32} (hi : i < 48) (hk : KP (48 * (r + 1)) hp h2) (e : upd h1 (48 * (r + 1) + i) (nI v) = h2) (ex : h2 (48 * r + i) = x) (hn : ¬ nI v = x) : MOR (i + 1) hp r h2 := by
  refine ⟨i, by omega, ?_⟩
  have q : rowH h2 (r + 1) i = nI v := by unfold rowH; rw [← e, pk_us]
  have q2 : rowH hp r i = x := by rw [← ex]; exact (hk _ (by omega)).symm
  rw [q, q2]; exact hn
theorem cbS_lt {n : Nat} {hp hp' : Nat → Int32} {r : Nat} {led : Nat → Int64} (hn : n ≤ 48) (hl : LI n (rowH hp r)) (h : LA2 n hp r led hp') (hm : MOR n hp r hp') : cbS hp r n < cbS hp' (r + 1) n := by
  unfold cbS
  refine cb_sub_lt n ?_ ?_
  · intro w hw hr
    have hr := of_decide_eq_true hr
    apply decide_eq_true
    obtain ⟨v, h1, h2, h3, h4⟩ := h w hw
    obtain ⟨u, g1, g2, -⟩ := hl v (by omega)
    have e1 : rowH hp r v = rowH hp r w := h3.1
    have e2 : nI u = nI w := by rw [← g2, e1, hr]
    have e3 := (nI_eq (by omega) (by omega)).mp e2
    rw [h2]; congr 1; omega
  · obtain ⟨w, hw, hne⟩ := hm
    obtain ⟨v, h1, h2, h3, h4⟩ := h w hw
    refine ⟨v, by omega, ?_, ?_⟩
    · apply decide_eq_false
      intro q
      apply hne
      have e1 : rowH hp r v = rowH hp r w := h3.1
      rw [h2, ← e1, q]
    · apply decide_eq_true
      obtain ⟨u, g1, g2, g3, g4⟩ := h v (by omega)
      have e : u = v := by
        rcases Nat.lt_or_ge u v with q | q
        · exact absurd (g3.tr h3) (h4 u q)
        · omega
      rw [g2, e]
theorem cbS_le (hp : Nat → Int32) (r n : Nat) : cbS hp r n ≤ n := cb_le _ _
/-! turns of the reference -/
theorem and_sub {a b c : Int32} {n : Nat} (h : ∀ i, i < 32 → bt a i = true → i < n) (e : a &&& b = c) : ∀ i, i < 32 → bt c i = true → i < n := fun i hi hb => h i hi (by rw [← e, b_and] at hb; exact (Bool.and_eq_true _ _ ▸ hb : _ ∧ _).1)
theorem all_sub {a : Int32} {n : Nat} (h : ∀ i, i < 32 → bt a i = decide (i < n)) : ∀ i, i < 32 → bt a i = true → i < n := fun i hi hb => by rw [h i hi] at hb; exact of_decide_eq_true hb
theorem all_at {a : Int32} {n r : Nat} (h : ∀ i, i < 32 → bt a i = decide (i < n)) (hn : n ≤ 24) (hr : r < n) : bt a r = true := by rw [h r (by omega)]; exact decide_eq_true hr
def NAx (i : Nat) (so : Int32) (f : Nat → Int32) : Prop := ∀ v, v < i → f v = nI (cb (bt so) v)
theorem NAx.zero {so : Int32} {f : Nat → Int32} : NAx 0 so f := fun v h => absurd h (Nat.not_lt_zero _)
theorem NAx.ext {i c : Nat} {so : Int32} {f g : Nat → Int32} (h : NAx i so f) (hc : c = cb (bt so) i) (e : upd f i (nI c) = g) : NAx (i + 1) so g := by
  intro v hv
  rw [← e]
  by_cases hk : v = i
  · rw [hk, pk_us, hc]
  · rw [pk_un hk]; exact h v (by omega)
theorem cb_true : ∀ n : Nat, cb (fun _ => true) n = n
  | 0 => rfl
  | n + 1 => by rw [cb_s, cb_true n]; rfl
theorem keep_lt {so al : Int32} {n : Nat} (hn : n ≤ 24) (hs : ∀ i, i < 32 → bt so i = true → i < n) (ha : ∀ i, i < 32 → bt al i = decide (i < n)) (hne : so.toInt ≠ al.toInt) : cb (bt so) n < n := by
  have key : cb (bt so) n < cb (fun _ => true) n := by
    refine cb_sub_lt n (fun _ _ _ => rfl) ?_
    apply Classical.byContradiction
    intro hno
    apply hne
    congr 1
    apply b_ext
    intro i hi
    rw [ha i hi]
    cases hb : bt so i with
    | true => exact (decide_eq_true (hs i hi hb)).symm
    | false =>
      symm
      apply decide_eq_false
      intro hin
      exact hno ⟨i, hin, hb, rfl⟩
  rw [cb_true] at key
  exact key
theorem pow64 {m : Nat} (h : m ≤ 3) : 2 ^ (2 * m) ≤ 64 := by
  have key : ∀ m, m ≤ 3 → 2 ^ (2 * m) ≤ 64 := by decide +kernel
  exact key m h
theorem pow6_le {m : Nat} (h : m ≤ 5) : 6 ^ m ≤ 7776 := by
  have key : ∀ m, m ≤ 5 → 6 ^ m ≤ 7776 := by decide +kernel
  exact key m h
theorem pow6_pos (m : Nat) : 1 ≤ 6 ^ m := Nat.pow_pos (by decide)
theorem pow6_s (m : Nat) : 6 ^ (m + 1) = 6 ^ m * 6 := Nat.pow_succ 6 m
theorem pow6_d {n k : Nat} (h : k + 1 < n) : 6 ^ (n - 1 - k) / 6 = 6 ^ (n - 1 - (k + 1)) := by
  rw [show n - 1 - k = (n - 1 - (k + 1)) + 1 by omega, Nat.pow_succ, Nat.mul_div_cancel _ (by decide)]
theorem nI_n0 {b : Nat} (h0 : 1 ≤ b) (h : b < 2 ^ 31) : ¬ nI b = 0 := fun e => by
  have h1 := nI_toInt h
  rw [e] at h1
  have e0 : (0 : Int32).toInt = 0 := rfl
  omega
theorem l_add32 (x y : Int32) : (x.toInt64 + y.toInt64).toInt = x.toInt + y.toInt := by
  have h1 := Int32.toInt_lt x
  have h2 := Int32.toInt_lt y
  have h3 := Int32.le_toInt x
  have h4 := Int32.le_toInt y
  rw [Int64.toInt_add, Int32.toInt_toInt64, Int32.toInt_toInt64, Int.bmod_eq_of_le (by omega) (by omega)]
/-! the reference's heaps, round by round -/
theorem LSx.zz {x z : Int64} {P : Nat → Bool} (h : LSx x P) (e : x ||| (0 : Int64) = z) : LSx z P := by
  have h0 : z = x := by
    rw [← e]
    apply Int64.toBitVec_inj.mp
    refine BitVec.eq_of_getLsbD_eq (fun i _ => ?_)
    rw [Int64.toBitVec_or, BitVec.getLsbD_or]
    have h1 : (0 : Int64).toBitVec.getLsbD i = false := BitVec.getLsbD_zero
    rw [h1, Bool.or_false]
  rw [h0]; exact h
theorem HOx.z {bs : Int32} {R : Nat → Nat} {sf i : Nat} {x z : Int64} (h : HOx bs R sf i x) (hb : bt bs i = false) (e : x ||| (0 : Int64) = z) : HOx bs R sf (i + 1) z := LSx.zz (HOx.f h hb) e
theorem HOx.t' {bs v : Int32} {R : Nat → Nat} {sf i : Nat} {x y z : Int64} (h : HOx bs R sf i x) (hb : bt bs i = true) (hv : v = nI (R (sf + i))) (hr : R (sf + i) < 48) (e1 : (1 : Int64) <<< (v.toInt64 &&& 63) = y) (e : x ||| y = z) : HOx bs R sf (i + 1) z := HOx.t h hb hr (by rw [← hv]; exact e1) e
def LKr (c : CMl) (rk : Nat → Nat) (w k : Nat) (led : Nat → Int64) : Prop := ∀ w' k', w' < c.1 → k' < 4 → (w' < w ∨ w' = w ∧ k' < k) → LSx (led (4 * w' + k')) (HSt c rk k' w')
section LKRS
variable {c : CMl} {R : Nat → Nat} {w k : Nat} {led led' : Nat → Int64}
theorem LKr.nil : LKr c R 0 0 led := fun w k _ _ h => absurd h (by omega)
theorem LKr.up (h : LKr c R w k led) (e : k = 4) : LKr c R (w + 1) 0 led := fun w' k' a b d => h w' k' a b (by omega)
theorem LKr.ext {x : Int64} (h : LKr c R w k led) (hk : k < 4) (hx : LSx x (HSt c R k w)) (e : vp_updL led (4 * w + k) x = led') : LKr c R w (k + 1) led' := fun w' k' a b d => by
  rw [← e]
  by_cases q : 4 * w' + k' = 4 * w + k
  · have e1 : w' = w := by omega
    have e2 : k' = k := by omega
    rw [q, pk_uLs, e1, e2]; exact hx
  · rw [pk_uLn q]; exact h w' k' a b (by omega)
end LKRS
section RKAS
variable {c : CMl} {hp hp' : Nat → Int32} {led : Nat → Int64} {r : Nat}
theorem alr_alk {v w : Nat} (h48 : c.1 ≤ 48) (h : RKx c c.1 r (rowH hp r)) (hs : LKr c (rk c r) c.1 0 led) (hv : v < c.1) (hw : w < c.1) : ALR hp r led v w ↔ ALK c (rk c r) w v := by
  have l1 := (rk_le c r v).1
  have l2 := (rk_le c r w).1
  have e1 : hp (48 * r + v) = nI (rk c r v) := h v hv
  have e2 : hp (48 * r + w) = nI (rk c r w) := h w hw
  unfold ALR ALK
  rw [e1, e2]
  constructor
  · rintro ⟨a, b⟩
    exact ⟨(nI_eq (by omega) (by omega)).mp a, fun k hk t ht => ((LSx.eq (hs v k hv hk (by omega)) (hs w k hw hk (by omega))).mp (b k hk)) t ht⟩
  · rintro ⟨a, b⟩
    exact ⟨by rw [a], fun k hk => (LSx.eq (hs v k hv hk (by omega)) (hs w k hw hk (by omega))).mpr (fun t ht => b k hk t ht)⟩
theorem la2_rk (h48 : c.1 ≤ 48) (h : RKx c c.1 r (rowH hp r)) (hs : LKr c (rk c r) c.1 0 led) (hl : LA2 c.1 hp r led hp') : RKx c c.1 (r + 1) (rowH hp' (r + 1)) := fun i hi => by
  obtain ⟨v, hv, e, ha, hu⟩ := hl i hi
  rw [e]
  congr 1
  symm
  show rkS c (rk c r) i = v
  exact rkS_u hv (fun u hu2 hk => hu u hu2 ((alr_alk h48 h hs (by omega) hi).mpr hk)) ((alr_alk h48 h hs (by omega) hi).mp ha)
/-- the rounds so far -/
def RKA (c : CMl) (hp : Nat → Int32) (r : Nat) : Prop := ∀ s, s ≤ r → RKx c c.1 s (rowH hp s)
theorem RKA.z (h : RKx c c.1 0 hp) : RKA c hp 0 := fun s hs => by
  have e : s = 0 := by omega
  rw [e, rowH_0]; exact h
theorem RKA.ext (h : RKA c hp r) (h48 : c.1 ≤ 48) (hk : KP (48 * (r + 1)) hp hp') (h1 : RKx c c.1 (r + 1) (rowH hp' (r + 1))) : RKA c hp' (r + 1) := fun s hs => by
  by_cases q : s = r + 1
  · rw [q]; exact h1
  · intro i hi
    have e : rowH hp' s i = rowH hp s i := hk _ (by omega)
    rw [e]; exact h s (by omega) i hi
theorem rk_same (h48 : c.1 ≤ 48) (h : RKx c c.1 r (rowH hp r)) (h1 : RKx c c.1 (r + 1) (rowH hp' (r + 1))) (hm : ∀ w, w < c.1 → rowH hp' (r + 1) w = rowH hp r w) : ∀ i, i < c.1 → rk c (r + 1) i = rk c r i := fun i hi => by
  have l1 := (rk_le c r i).1
  have l2 := (rk_le c (r + 1) i).1
  have e := hm i hi
  rw [h i hi, h1 i hi] at e
  exact (nI_eq (by omega) (by omega)).mp e
/-- the last round parts none -/
def RST (c : CMl) (z : Nat) : Prop := ∃ r, z = r + 1 ∧ r ≤ c.1 ∧ ∀ i, i < c.1 → rk c (r + 1) i = rk c r i
theorem RST.end {z : Nat} (h : RST c z) (hw : CWF c) (ha : RKA c hp z) : RKx c c.1 c.1 (rowH hp z) := by
  obtain ⟨r, e, hr, h1⟩ := h
  subst e
  exact rk_end hw hr h1 (ha (r + 1) (Nat.le_refl _))
end RKAS
theorem fx_1 {fm fr ff fp : Nat → Int32} : ∀ i, i < (cm1 (pgs fm fr ff fp 0)).1 → (cm1 (pgs fm fr ff fp 0)).2.1 i = fxN ff i := fun i hi => by
  have h1 : (pgs fm fr ff fp 0).2.2.1 i = ff (24 * 0 + i) := pg_F hi
  show (pgs fm fr ff fp 0).2.2.1 i = ff (0 + i)
  rw [h1]
theorem fx_2 {fm fr ff fp : Nat → Int32} {b : Nat} : ∀ i, i < (cm2 (pgs fm fr ff fp 0) (pgs fm fr ff fp b)).1 → (cm2 (pgs fm fr ff fp 0) (pgs fm fr ff fp b)).2.1 i = fxR (cN fm 0) ff b i := fun i hi => by
  have hi2 : i < cN fm 0 + cN fm b := hi
  show (if i < cN fm 0 then (pgs fm fr ff fp 0).2.2.1 i else (pgs fm fr ff fp b).2.2.1 (i - cN fm 0)) = (if i < cN fm 0 then ff (0 + i) else ff (24 * b + i - cN fm 0))
  by_cases q : i < cN fm 0
  · have h1 : (pgs fm fr ff fp 0).2.2.1 i = ff (24 * 0 + i) := pg_F q
    rw [if_pos q, if_pos q, h1]
  · have h1 : (pgs fm fr ff fp b).2.2.1 (i - cN fm 0) = ff (24 * b + (i - cN fm 0)) := pg_F (by omega)
    rw [if_neg q, if_neg q, h1]
    congr 1; omega
theorem MZ_ext {i v : Nat} {hp h1 h2 : Nat → Int32} {r : Nat} {x : Int32} (h : ∀ w, w < i → rowH h1 (r + 1) w = rowH hp r w) (hi : i < 48) (hk : KP (48 * (r + 1)) hp h2) (e : upd h1 (48 * (r + 1) + i) (nI v) = h2) (ex : h2 (48 * r + i) = x) (hz : ((v : Nat) : Int) = x.toInt) : ∀ w, w < i + 1 → rowH h2 (r + 1) w = rowH hp r w := fun w hw => by
  by_cases q : w = i
  · subst q
    have e1 : rowH h2 (r + 1) w = nI v := by unfold rowH; rw [← e, pk_us]
    have e2 : rowH hp r w = x := by rw [← ex]; exact (hk _ (by omega)).symm
    have h3 := Int32.toInt_lt x
    rw [e1, e2]
    exact Int32.toInt_inj.mp (by rw [nI_toInt (by omega)]; exact hz)
  · have e1 : rowH h2 (r + 1) w = rowH h1 (r + 1) w := by unfold rowH; rw [← e, pk_un (by omega)]
    rw [e1]; exact h w (by omega)
end
