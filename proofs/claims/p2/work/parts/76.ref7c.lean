/-! afters laid, in a row -/
def esl (es : Nat → Nat) : Nat → Nat → List Nat
  | _, 0 => []
  | i, c + 1 => es i :: esl es (i + 1) c
theorem aft_esl {S : SVal} (h : S.2.2.2.2.2.2.2 ≤ 2) : aftL S = esl (fun a => cN S.2.2.2.1 a) 0 S.2.2.2.2.2.2.2 := by
  rcases (show S.2.2.2.2.2.2.2 = 0 ∨ S.2.2.2.2.2.2.2 = 1 ∨ S.2.2.2.2.2.2.2 = 2 by omega) with q | q | q
  · exact (if_pos q : aftL S = []).trans (congrArg (esl (fun a => cN S.2.2.2.1 a) 0) q).symm
  · exact (aft_1 q rfl).trans (congrArg (esl (fun a => cN S.2.2.2.1 a) 0) q).symm
  · exact (aft_2 q rfl rfl).trans (congrArg (esl (fun a => cN S.2.2.2.1 a) 0) q).symm
theorem vW_0 {m : AM} {ev : Nat → EVl} {S : SVal} {x : Int32} {j : Nat} {es : List Nat} (h0 : (ev j).1 = 0) (h : BS x (vAll m)) : BS x (vW m ev S (j :: es)) := by
  have hP : ∀ p, lyP m (ev j) p = false := fun p => by
    unfold lyP; rw [h0, decide_eq_false (Nat.not_lt_zero _), Bool.false_and, Bool.and_false]
  show BS x (if lyC m (ev j) ≤ 24 then vBack m (ev j) (vW (aLay m (ev j)) ev S es) else vAll m)
  split
  · refine h.cg (fun w _ => ?_)
    show decide (w < m.1) = (decide (w < m.1) && (decide (cb (lyP m (ev j)) (4 * w + 4) = cb (lyP m (ev j)) (4 * w)) || _))
    rw [decide_eq_true (cb_flat (by omega) (fun p _ _ => hP p)), Bool.true_or, Bool.and_true]
  · exact h
theorem vW_stop {m : AM} {ev : Nat → EVl} {S : SVal} {x : Int32} {j : Nat} {es : List Nat} (h0 : (ev j).1 = 0 ∨ ¬ lyC m (ev j) ≤ 24) (h : BS x (vAll m)) : BS x (vW m ev S (j :: es)) := by
  rcases h0 with h0 | h0
  · exact vW_0 h0 h
  · exact vW_n h0 h
theorem PRF.off {P : Nat → Bool} {n cs pg q : Nat} {pr pr' : Nat → Int32} (h : PRF P n cs pg pr) (ho : OFF 96 q pr pr') (hq : pg ≠ q) (hn : n ≤ 24) (hcs : cs ≤ 4) : PRF P n cs pg pr' := fun w i a b => (ho _ (by omega)).trans (h w i a b)
def CHN (PG : Nat → AM) (pr : Nat → Int32) (ev : Nat → EVl) (es : Nat → Nat) (pa i : Nat) : Prop := ∀ j, j < i → 0 < (ev (es j)).1 ∧ lyC (PG (pa + j)) (ev (es j)) ≤ 24 ∧ PG (pa + j + 1) = aLay (PG (pa + j)) (ev (es j)) ∧ PRF (lyP (PG (pa + j)) (ev (es j))) (PG (pa + j)).1 (ev (es j)).1 (pa + j) pr
section CHNS
variable {PG PG' : Nat → AM} {pr pr' : Nat → Int32} {ev : Nat → EVl} {es : Nat → Nat} {pa i : Nat}
theorem CHN.nil : CHN PG pr ev es pa 0 := fun j h => absurd h (Nat.not_lt_zero _)
theorem CHN.keep (h : CHN PG pr ev es pa i) (ho : OTH (pa + i + 1) PG PG') (hp : OFF 96 (pa + i) pr pr') (hb : ∀ p, p < 18 → (PG p).1 ≤ 24) (hc : ∀ j, j < 2 → (ev (es j)).1 ≤ 4) (hi : i ≤ 2) (hpa : pa ≤ 3) : CHN PG' pr' ev es pa i := fun j hj => by
  have e1 : PG' (pa + j) = PG (pa + j) := ho _ (by omega) (by omega)
  have e2 : PG' (pa + j + 1) = PG (pa + j + 1) := ho _ (by omega) (by omega)
  obtain ⟨a, b, c, d⟩ := h j hj
  rw [e1, e2]
  exact ⟨a, b, c, d.off hp (by omega) (hb _ (by omega)) (hc _ (by omega))⟩
theorem CHN.ext (h : CHN PG pr ev es pa i) (ho : OTH (pa + i + 1) PG PG') (hp : OFF 96 (pa + i) pr pr') (hb : ∀ p, p < 18 → (PG p).1 ≤ 24) (hc : ∀ j, j < 2 → (ev (es j)).1 ≤ 4) (hi : i < 2) (hpa : pa ≤ 3) (h0 : 0 < (ev (es i)).1) (hC : lyC (PG (pa + i)) (ev (es i)) ≤ 24) (e : PG' (pa + i + 1) = aLay (PG (pa + i)) (ev (es i))) (hf : PRF (lyP (PG (pa + i)) (ev (es i))) (PG (pa + i)).1 (ev (es i)).1 (pa + i) pr') : CHN PG' pr' ev es pa (i + 1) := fun j hj => by
  by_cases q : j = i
  · rw [q, ho (pa + i) (by omega) (by omega)]; exact ⟨h0, hC, e, hf⟩
  · exact h.keep ho hp hb hc (by omega) hpa j (by omega)
end CHNS
/-- the pages up to pa, and the kept ones, stay -/
def KPA (pa : Nat) (PG PG' : Nat → AM) : Prop := ∀ p, p < 18 → (p ≤ pa ∨ 6 ≤ p) → PG' p = PG p
theorem KPA.rf {pa : Nat} {PG : Nat → AM} : KPA pa PG PG := fun _ _ _ => rfl
theorem KPA.oth {pa q : Nat} {PG PG1 PG2 : Nat → AM} (h : KPA pa PG PG1) (ho : OTH q PG1 PG2) (hq : pa < q) (h6 : q < 6) : KPA pa PG PG2 := fun p a b => (ho p a (by omega)).trans (h p a b)
theorem KPA.tr {pa pb : Nat} {PG PG1 PG2 : Nat → AM} (h : KPA pa PG PG1) (h2 : KPA pb PG1 PG2) (hp : pa ≤ pb) : KPA pa PG PG2 := fun p a b => (h2 p a (by omega)).trans (h p a b)
theorem dX12_truthOf_0 : decode cX12_truthOf 0 = .ok (.iload_n 2, 1) := by decide +kernel
theorem dX12_truthOf_1 : decode cX12_truthOf 1 = .ok (.istore_n 3, 1) := by decide +kernel
theorem dX12_truthOf_2 : decode cX12_truthOf 2 = .ok (.iconst 1, 1) := by decide +kernel
theorem dX12_truthOf_3 : decode cX12_truthOf 3 = .ok (.istore 4, 2) := by decide +kernel
theorem dX12_truthOf_5 : decode cX12_truthOf 5 = .ok (.iconst 0, 1) := by decide +kernel
theorem dX12_truthOf_6 : decode cX12_truthOf 6 = .ok (.istore 5, 2) := by decide +kernel
theorem dX12_truthOf_8 : decode cX12_truthOf 8 = .ok (.iload 5, 2) := by decide +kernel
theorem dX12_truthOf_10 : decode cX12_truthOf 10 = .ok (.aload_n 0, 1) := by decide +kernel
theorem dX12_truthOf_11 : decode cX12_truthOf 11 = .ok (.getfield 43, 3) := by decide +kernel
theorem dX12_truthOf_14 : decode cX12_truthOf 14 = .ok (.iload_n 1, 1) := by decide +kernel
theorem dX12_truthOf_15 : decode cX12_truthOf 15 = .ok (.iaload, 1) := by decide +kernel
theorem dX12_truthOf_16 : decode cX12_truthOf 16 = .ok (.if_icmp .ge 67, 3) := by decide +kernel
theorem dX12_truthOf_83 : decode cX12_truthOf 83 = .ok (.iload 4, 2) := by decide +kernel
theorem dX12_truthOf_85 : decode cX12_truthOf 85 = .ok (.ifCond .eq 12, 3) := by decide +kernel
theorem dX12_truthOf_97 : decode cX12_truthOf 97 = .ok (.aload_n 0, 1) := by decide +kernel
theorem dX12_truthOf_98 : decode cX12_truthOf 98 = .ok (.getfield 7, 3) := by decide +kernel
theorem dX12_truthOf_101 : decode cX12_truthOf 101 = .ok (.iload_n 3, 1) := by decide +kernel
theorem dX12_truthOf_102 : decode cX12_truthOf 102 = .ok (.iaload, 1) := by decide +kernel
theorem dX12_truthOf_103 : decode cX12_truthOf 103 = .ok (.invokestatic 230, 3) := by decide +kernel
theorem dX12_truthOf_106 : decode cX12_truthOf 106 = .ok (.istore 5, 2) := by decide +kernel
theorem dX12_truthOf_108 : decode cX12_truthOf 108 = .ok (.iload_n 3, 1) := by decide +kernel
theorem dX12_truthOf_109 : decode cX12_truthOf 109 = .ok (.iload_n 2, 1) := by decide +kernel
theorem dX12_truthOf_110 : decode cX12_truthOf 110 = .ok (.if_icmp .le 30, 3) := by decide +kernel
theorem dX12_truthOf_140 : decode cX12_truthOf 140 = .ok (.iload 5, 2) := by decide +kernel
theorem dX12_truthOf_142 : decode cX12_truthOf 142 = .ok (.ireturn, 1) := by decide +kernel
theorem dX12_truthOf_113 : decode cX12_truthOf 113 = .ok (.iinc 3 (-1), 3) := by decide +kernel
theorem dX12_truthOf_116 : decode cX12_truthOf 116 = .ok (.aload_n 0, 1) := by decide +kernel
theorem dX12_truthOf_117 : decode cX12_truthOf 117 = .ok (.aload_n 0, 1) := by decide +kernel
theorem dX12_truthOf_118 : decode cX12_truthOf 118 = .ok (.getfield 46, 3) := by decide +kernel
theorem dX12_truthOf_121 : decode cX12_truthOf 121 = .ok (.iconst 2, 1) := by decide +kernel
theorem dX12_truthOf_122 : decode cX12_truthOf 122 = .ok (.iload_n 1, 1) := by decide +kernel
theorem dX12_truthOf_123 : decode cX12_truthOf 123 = .ok (.imul, 1) := by decide +kernel
theorem dX12_truthOf_124 : decode cX12_truthOf 124 = .ok (.iload_n 3, 1) := by decide +kernel
theorem dX12_truthOf_125 : decode cX12_truthOf 125 = .ok (.iadd, 1) := by decide +kernel
theorem dX12_truthOf_126 : decode cX12_truthOf 126 = .ok (.iload_n 2, 1) := by decide +kernel
theorem dX12_truthOf_127 : decode cX12_truthOf 127 = .ok (.isub, 1) := by decide +kernel
theorem dX12_truthOf_128 : decode cX12_truthOf 128 = .ok (.iaload, 1) := by decide +kernel
theorem dX12_truthOf_129 : decode cX12_truthOf 129 = .ok (.iload_n 3, 1) := by decide +kernel
theorem dX12_truthOf_130 : decode cX12_truthOf 130 = .ok (.iload 5, 2) := by decide +kernel
theorem dX12_truthOf_132 : decode cX12_truthOf 132 = .ok (.invokevirtual 270, 3) := by decide +kernel
theorem wl_X12_270 : Cond.methodLink RX12 270 yX12_broughtBack ∈ TB := tbm (tq6 (List.mem_of_getElem? (i := 185) (by decide +kernel))) (by decide +kernel)
theorem wc_X12_broughtBack : Cond.code yX12_broughtBack cX12_broughtBack 8 (some .int) ∈ TB := tbm (tq6 (List.mem_of_getElem? (i := 188) (rfl))) (by decide +kernel)
theorem wi_X12_broughtBack : Cond.instanceMethod yX12_broughtBack ∈ TB := tbm (tq6 (List.mem_of_getElem? (i := 187) (by decide +kernel))) (by decide +kernel)
theorem ws_X12_broughtBack : Cond.selects RX12 yX12_broughtBack yX12_broughtBack ∈ TB := tbm (tq0 (List.mem_of_getElem? (i := 65) (by decide +kernel))) (by decide +kernel)
theorem mi_X12_broughtBack : MI yX12_broughtBack cX12_broughtBack 8 (some .int) 3 := ⟨wc_X12_broughtBack, wn_X12, ⟨by decide +kernel, by decide +kernel, by decide +kernel⟩, wi_X12_broughtBack, ws_X12_broughtBack⟩
theorem dX12_truthOf_135 : decode cX12_truthOf 135 = .ok (.istore 5, 2) := by decide +kernel
theorem dX12_truthOf_137 : decode cX12_truthOf 137 = .ok (.goto (-29), 3) := by decide +kernel
theorem dX12_truthOf_88 : decode cX12_truthOf 88 = .ok (.aload_n 0, 1) := by decide +kernel
theorem dX12_truthOf_89 : decode cX12_truthOf 89 = .ok (.iload_n 1, 1) := by decide +kernel
theorem dX12_truthOf_90 : decode cX12_truthOf 90 = .ok (.iload_n 3, 1) := by decide +kernel
theorem dX12_truthOf_91 : decode cX12_truthOf 91 = .ok (.invokevirtual 256, 3) := by decide +kernel
theorem dX12_truthOf_94 : decode cX12_truthOf 94 = .ok (.goto 12, 3) := by decide +kernel
theorem dX12_truthOf_19 : decode cX12_truthOf 19 = .ok (.iload 4, 2) := by decide +kernel
theorem dX12_truthOf_21 : decode cX12_truthOf 21 = .ok (.ifCond .eq 62, 3) := by decide +kernel
theorem dX12_truthOf_24 : decode cX12_truthOf 24 = .ok (.aload_n 0, 1) := by decide +kernel
theorem dX12_truthOf_25 : decode cX12_truthOf 25 = .ok (.getfield 46, 3) := by decide +kernel
theorem dX12_truthOf_28 : decode cX12_truthOf 28 = .ok (.iconst 2, 1) := by decide +kernel
theorem dX12_truthOf_29 : decode cX12_truthOf 29 = .ok (.iload_n 1, 1) := by decide +kernel
theorem dX12_truthOf_30 : decode cX12_truthOf 30 = .ok (.imul, 1) := by decide +kernel
theorem dX12_truthOf_31 : decode cX12_truthOf 31 = .ok (.iload 5, 2) := by decide +kernel
theorem dX12_truthOf_33 : decode cX12_truthOf 33 = .ok (.iadd, 1) := by decide +kernel
theorem dX12_truthOf_34 : decode cX12_truthOf 34 = .ok (.iaload, 1) := by decide +kernel
theorem dX12_truthOf_35 : decode cX12_truthOf 35 = .ok (.istore 6, 2) := by decide +kernel
theorem dX12_truthOf_37 : decode cX12_truthOf 37 = .ok (.aload_n 0, 1) := by decide +kernel
theorem dX12_truthOf_38 : decode cX12_truthOf 38 = .ok (.getfield 52, 3) := by decide +kernel
theorem dX12_truthOf_41 : decode cX12_truthOf 41 = .ok (.iload 6, 2) := by decide +kernel
theorem dX12_truthOf_43 : decode cX12_truthOf 43 = .ok (.iaload, 1) := by decide +kernel
theorem dX12_truthOf_44 : decode cX12_truthOf 44 = .ok (.ifCond .le 17, 3) := by decide +kernel
theorem dX12_truthOf_61 : decode cX12_truthOf 61 = .ok (.iconst 0, 1) := by decide +kernel
theorem dX12_truthOf_62 : decode cX12_truthOf 62 = .ok (.istore 4, 2) := by decide +kernel
theorem dX12_truthOf_64 : decode cX12_truthOf 64 = .ok (.iload_n 3, 1) := by decide +kernel
theorem dX12_truthOf_65 : decode cX12_truthOf 65 = .ok (.iload 4, 2) := by decide +kernel
theorem dX12_truthOf_67 : decode cX12_truthOf 67 = .ok (.ifCond .eq 7, 3) := by decide +kernel
theorem dX12_truthOf_74 : decode cX12_truthOf 74 = .ok (.iconst 0, 1) := by decide +kernel
theorem dX12_truthOf_75 : decode cX12_truthOf 75 = .ok (.iadd, 1) := by decide +kernel
theorem dX12_truthOf_76 : decode cX12_truthOf 76 = .ok (.istore_n 3, 1) := by decide +kernel
theorem dX12_truthOf_77 : decode cX12_truthOf 77 = .ok (.iinc 5 1, 3) := by decide +kernel
theorem dX12_truthOf_80 : decode cX12_truthOf 80 = .ok (.goto (-72), 3) := by decide +kernel
theorem dX12_truthOf_47 : decode cX12_truthOf 47 = .ok (.aload_n 0, 1) := by decide +kernel
theorem dX12_truthOf_48 : decode cX12_truthOf 48 = .ok (.iload 6, 2) := by decide +kernel
theorem dX12_truthOf_50 : decode cX12_truthOf 50 = .ok (.iload_n 3, 1) := by decide +kernel
theorem dX12_truthOf_51 : decode cX12_truthOf 51 = .ok (.invokevirtual 267, 3) := by decide +kernel
theorem wl_X12_267 : Cond.methodLink RX12 267 yX12_laid ∈ TB := tbm (tq6 (List.mem_of_getElem? (i := 162) (by decide +kernel))) (by decide +kernel)
theorem wc_X12_laid : Cond.code yX12_laid cX12_laid 9 (some .int) ∈ TB := tbm (tq6 (List.mem_of_getElem? (i := 165) (rfl))) (by decide +kernel)
theorem wi_X12_laid : Cond.instanceMethod yX12_laid ∈ TB := tbm (tq6 (List.mem_of_getElem? (i := 164) (by decide +kernel))) (by decide +kernel)
theorem ws_X12_laid : Cond.selects RX12 yX12_laid yX12_laid ∈ TB := tbm (tq0 (List.mem_of_getElem? (i := 60) (by decide +kernel))) (by decide +kernel)
theorem mi_X12_laid : MI yX12_laid cX12_laid 9 (some .int) 2 := ⟨wc_X12_laid, wn_X12, ⟨by decide +kernel, by decide +kernel, by decide +kernel⟩, wi_X12_laid, ws_X12_laid⟩
theorem dX12_truthOf_54 : decode cX12_truthOf 54 = .ok (.ifCond .lt 7, 3) := by decide +kernel
theorem dX12_truthOf_57 : decode cX12_truthOf 57 = .ok (.iconst 1, 1) := by decide +kernel
theorem dX12_truthOf_58 : decode cX12_truthOf 58 = .ok (.goto 4, 3) := by decide +kernel
theorem dX12_truthOf_70 : decode cX12_truthOf 70 = .ok (.iconst 1, 1) := by decide +kernel
theorem dX12_truthOf_71 : decode cX12_truthOf 71 = .ok (.goto 4, 3) := by decide +kernel
set_option maxRecDepth 100000 in
set_option maxHeartbeats 4000000 in
theorem r_truthOf (l : Launch) (E : EV) (ro : va_W) (hm : Nat) (k : Nat) (pa : Nat) (m_manys : Nat) (m_reals : Nat) (m_factsOf : Nat) (m_possible : Nat) (q_undos : Nat) (q_models : Nat) (m_tape : Nat) (q_taped : Nat) (q_fault : Int32) (q_wrong : Int32) (q_wrongAt : Int32) (q_spot : Int32) (q_place : Int32) (q_token : Int32) (q_value : Int32) (m_ends : Nat) (m_letters : Nat) (m_actOf : Nat) (m_whom : Nat) (m_actMany : Nat) (m_tokens : Nat) (m_afters : Nat) (m_afterOf : Nat) (q_counted : Int32) (m_pile : Nat) (m_caseMany : Nat) (m_happen : Nat) (m_hasIf : Nat) (m_becomes : Nat) (m_goneOf : Nat) (m_heard : Nat) (m_pairs : Nat) (m_heaps : Nat) (q_rounds : Int32) (q_heapMany : Int32) (m_led : Nat) (m_newAt : Nat) (m_knowing : Nat) (m_firsts : Nat) (q_people : Nat) (m_secrets : Nat) (m_tried : Nat) (m_lanes : Nat) (m_lengths : Nat) (m_cells : Nat) (f_manys : Nat → Int32) (f_reals : Nat → Int32) (f_factsOf : Nat → Int32) (f_possible : Nat → Int32) (f_pairs : Nat → Int32) (f_pile : Nat → Int32) (f_caseMany : Nat → Int32) (f_happen : Nat → Int32) (f_hasIf : Nat → Int32) (f_becomes : Nat → Int32) (f_goneOf : Nat → Int32) (f_heard : Nat → Int32) (f_actMany : Nat → Int32) (f_actOf : Nat → Int32) (f_whom : Nat → Int32) (f_afters : Nat → Int32) (f_afterOf : Nat → Int32) (hb_manys : NB 18 24 f_manys) (hb_reals : NB 18 23 f_reals) (hpg : PG f_manys f_reals) (hwf : WFP (pgs f_manys f_reals f_factsOf f_possible)) (hb_caseMany : NB 4 4 f_caseMany) (hb_happen : NB 4 3 f_happen) (hb_actMany : NB 25 32 f_actMany) (hhp : HP f_caseMany f_happen) (hsv : SV f_actOf f_actMany) (hb_afters : NB 9 2 f_afters) (hb_afterOf : NB 18 3 f_afterOf) (hk : k < 8) (hpa : pa ≤ 3) (hWs : WHs (cN f_actMany k) f_actOf f_whom k) (hWI : WHI f_hasIf f_actMany f_actOf f_whom) : CT l yX12_truthOf (Cond.code yX12_truthOf cX12_truthOf 7 (some .int) :: TB) ({ frames := 6, cells := 0, slots := 0, locals := 158 }) E ro [.ref hm, .int (nI k), .int (nI pa)] [(hm, .inr (12, [.ref m_manys, .ref m_reals, .ref m_factsOf, .ref m_possible, .int (nI q_undos), .int (nI q_models), .ref m_tape, .int (nI q_taped), .int q_fault, .int q_wrong, .int q_wrongAt, .int q_spot, .int q_place, .int q_token, .int q_value, .ref m_ends, .ref m_letters, .ref m_actOf, .ref m_whom, .ref m_actMany, .ref m_tokens, .ref m_afters, .ref m_afterOf, .int q_counted, .ref m_pile, .ref m_caseMany, .ref m_happen, .ref m_hasIf, .ref m_becomes, .ref m_goneOf, .ref m_heard, .ref m_pairs, .ref m_heaps, .int q_rounds, .int q_heapMany, .ref m_led, .ref m_newAt, .ref m_knowing, .ref m_firsts, .int (nI q_people), .ref m_secrets, .ref m_tried, .ref m_lanes, .ref m_lengths, .ref m_cells])), (m_manys, .inl (E.2.1 1, 18, .inl f_manys)), (m_reals, .inl (E.2.1 1, 18, .inl f_reals)), (m_factsOf, .inl (E.2.1 1, 432, .inl f_factsOf)), (m_possible, .inl (E.2.1 1, 1728, .inl f_possible)), (m_pairs, .inl (E.2.1 1, 576, .inl f_pairs)), (m_pile, .inl (E.2.1 1, 34, .inl f_pile)), (m_caseMany, .inl (E.2.1 1, 4, .inl f_caseMany)), (m_happen, .inl (E.2.1 1, 4, .inl f_happen)), (m_hasIf, .inl (E.2.1 3, 16, .inl f_hasIf)), (m_becomes, .inl (E.2.1 1, 16, .inl f_becomes)), (m_goneOf, .inl (E.2.1 1, 16, .inl f_goneOf)), (m_heard, .inl (E.2.1 1, 64, .inl f_heard)), (m_actMany, .inl (E.2.1 1, 25, .inl f_actMany)), (m_actOf, .inl (E.2.1 1, 800, .inl f_actOf)), (m_whom, .inl (E.2.1 1, 800, .inl f_whom)), (m_afters, .inl (E.2.1 1, 9, .inl f_afters)), (m_afterOf, .inl (E.2.1 1, 18, .inl f_afterOf))] (Qi E (fun (rz : Int32) uz => (∃ (f_manysz : Nat → Int32) (f_realsz : Nat → Int32) (f_factsOfz : Nat → Int32) (f_possiblez : Nat → Int32) (f_pairsz : Nat → Int32) (f_pilez : Nat → Int32), uz = [(hm, .inr (12, [.ref m_manys, .ref m_reals, .ref m_factsOf, .ref m_possible, .int (nI q_undos), .int (nI q_models), .ref m_tape, .int (nI q_taped), .int q_fault, .int q_wrong, .int q_wrongAt, .int q_spot, .int q_place, .int q_token, .int q_value, .ref m_ends, .ref m_letters, .ref m_actOf, .ref m_whom, .ref m_actMany, .ref m_tokens, .ref m_afters, .ref m_afterOf, .int q_counted, .ref m_pile, .ref m_caseMany, .ref m_happen, .ref m_hasIf, .ref m_becomes, .ref m_goneOf, .ref m_heard, .ref m_pairs, .ref m_heaps, .int q_rounds, .int q_heapMany, .ref m_led, .ref m_newAt, .ref m_knowing, .ref m_firsts, .int (nI q_people), .ref m_secrets, .ref m_tried, .ref m_lanes, .ref m_lengths, .ref m_cells])), (m_manys, .inl (E.2.1 1, 18, .inl f_manysz)), (m_reals, .inl (E.2.1 1, 18, .inl f_realsz)), (m_factsOf, .inl (E.2.1 1, 432, .inl f_factsOfz)), (m_possible, .inl (E.2.1 1, 1728, .inl f_possiblez)), (m_pairs, .inl (E.2.1 1, 576, .inl f_pairsz)), (m_pile, .inl (E.2.1 1, 34, .inl f_pilez)), (m_caseMany, .inl (E.2.1 1, 4, .inl f_caseMany)), (m_happen, .inl (E.2.1 1, 4, .inl f_happen)), (m_hasIf, .inl (E.2.1 3, 16, .inl f_hasIf)), (m_becomes, .inl (E.2.1 1, 16, .inl f_becomes)), (m_goneOf, .inl (E.2.1 1, 16, .inl f_goneOf)), (m_heard, .inl (E.2.1 1, 64, .inl f_heard)), (m_actMany, .inl (E.2.1 1, 25, .inl f_actMany)), (m_actOf, .inl (E.2.1 1, 800, .inl f_actOf)), (m_whom, .inl (E.2.1 1, 800, .inl f_whom)), (m_afters, .inl (E.2.1 1, 9, .inl f_afters)), (m_afterOf, .inl (E.2.1 1, 18, .inl f_afterOf))] ∧ (NB 18 24 f_manysz) ∧ (NB 18 23 f_realsz) ∧ (PG f_manysz f_realsz) ∧ (WFP (pgs f_manysz f_realsz f_factsOfz f_possiblez)) ∧ (KP (pa + 1) f_manys f_manysz) ∧ (KP (pa + 1) f_reals f_realsz) ∧ (BS rz (vWho (pgs f_manys f_reals f_factsOf f_possible pa) (rEv f_caseMany f_happen f_hasIf f_actMany f_actOf f_whom f_becomes f_goneOf f_heard) (rT f_actMany f_actOf f_whom f_afterOf f_afters k))) ∧ (KPA pa (pgs f_manys f_reals f_factsOf f_possible) (pgs f_manysz f_realsz f_factsOfz f_possiblez))))) 0 0 := by
  refine ct_of rfl rfl ?_
  intro X C hT hin hro
  show WW X 7 E 0 [(0, .ref hm), (1, .int (nI k)), (2, .int (nI pa))] [] [(hm, .inr (12, [.ref m_manys, .ref m_reals, .ref m_factsOf, .ref m_possible, .int (nI q_undos), .int (nI q_models), .ref m_tape, .int (nI q_taped), .int q_fault, .int q_wrong, .int q_wrongAt, .int q_spot, .int q_place, .int q_token, .int q_value, .ref m_ends, .ref m_letters, .ref m_actOf, .ref m_whom, .ref m_actMany, .ref m_tokens, .ref m_afters, .ref m_afterOf, .int q_counted, .ref m_pile, .ref m_caseMany, .ref m_happen, .ref m_hasIf, .ref m_becomes, .ref m_goneOf, .ref m_heard, .ref m_pairs, .ref m_heaps, .int q_rounds, .int q_heapMany, .ref m_led, .ref m_newAt, .ref m_knowing, .ref m_firsts, .int (nI q_people), .ref m_secrets, .ref m_tried, .ref m_lanes, .ref m_lengths, .ref m_cells])), (m_manys, .inl (E.2.1 1, 18, .inl f_manys)), (m_reals, .inl (E.2.1 1, 18, .inl f_reals)), (m_factsOf, .inl (E.2.1 1, 432, .inl f_factsOf)), (m_possible, .inl (E.2.1 1, 1728, .inl f_possible)), (m_pairs, .inl (E.2.1 1, 576, .inl f_pairs)), (m_pile, .inl (E.2.1 1, 34, .inl f_pile)), (m_caseMany, .inl (E.2.1 1, 4, .inl f_caseMany)), (m_happen, .inl (E.2.1 1, 4, .inl f_happen)), (m_hasIf, .inl (E.2.1 3, 16, .inl f_hasIf)), (m_becomes, .inl (E.2.1 1, 16, .inl f_becomes)), (m_goneOf, .inl (E.2.1 1, 16, .inl f_goneOf)), (m_heard, .inl (E.2.1 1, 64, .inl f_heard)), (m_actMany, .inl (E.2.1 1, 25, .inl f_actMany)), (m_actOf, .inl (E.2.1 1, 800, .inl f_actOf)), (m_whom, .inl (E.2.1 1, 800, .inl f_whom)), (m_afters, .inl (E.2.1 1, 9, .inl f_afters)), (m_afterOf, .inl (E.2.1 1, 18, .inl f_afterOf))] 0 0
  have hmn0 := (hb_manys 0 (by omega)).2
  have hafk := (hb_afters k (by omega)).2
  refine ww_iload_n C dX12_truthOf_0 2 rfl rfl ?_
  refine ww_istore_n (lv' := [(3, .int (nI pa)), (0, .ref hm), (1, .int (nI k)), (2, .int (nI pa))]) C dX12_truthOf_1 rfl rfl rfl ?_
  refine ww_iconst (v := 1) C dX12_truthOf_2 rfl ?_
  refine ww_istore (lv' := [(4, .int 1), (3, .int (nI pa)), (0, .ref hm), (1, .int (nI k)), (2, .int (nI pa))]) C dX12_truthOf_3 rfl rfl ?_
  refine ww_iconst (v := 0) C dX12_truthOf_5 rfl ?_
  refine ww_istore (lv' := [(5, .int 0), (4, .int 1), (3, .int (nI pa)), (0, .ref hm), (1, .int (nI k)), (2, .int (nI pa))]) C dX12_truthOf_6 rfl rfl ?_
  have loop_8 : ∀ (fu : Nat) (ln : Nat) (la : Nat) (a1 : Nat) (gt_manys : Nat → Int32) (gt_reals : Nat → Int32) (gt_factsOf : Nat → Int32) (gt_possible : Nat → Int32) (gt_pairs : Nat → Int32) (gt_pile : Nat → Int32), (a1 ≤ cN f_afters k) → (la ≤ 1) → (la = 1 → ln = a1) → (ln ≤ a1) → (la = 0 → ln < a1 ∧ (((rEv f_caseMany f_happen f_hasIf f_actMany f_actOf f_whom f_becomes f_goneOf f_heard) ((fun a => cN f_afterOf (2 * k + a)) ln)).1 = 0 ∨ ¬ lyC ((pgs gt_manys gt_reals gt_factsOf gt_possible) (pa + ln)) ((rEv f_caseMany f_happen f_hasIf f_actMany f_actOf f_whom f_becomes f_goneOf f_heard) ((fun a => cN f_afterOf (2 * k + a)) ln)) ≤ 24)) → (CHN (pgs gt_manys gt_reals gt_factsOf gt_possible) gt_pairs (rEv f_caseMany f_happen f_hasIf f_actMany f_actOf f_whom f_becomes f_goneOf f_heard) (fun a => cN f_afterOf (2 * k + a)) pa ln) → (KPA pa (pgs f_manys f_reals f_factsOf f_possible) (pgs gt_manys gt_reals gt_factsOf gt_possible)) → (KP (pa + 1) f_manys gt_manys) → (KP (pa + 1) f_reals gt_reals) → (NB 18 24 gt_manys) → (NB 18 23 gt_reals) → (PG gt_manys gt_reals) → (WFP (pgs gt_manys gt_reals gt_factsOf gt_possible)) → cN f_afters k - a1 < fu → WW X 7 E 8 [(5, .int (nI a1)), (4, .int (nI la)), (3, .int (nI (pa + ln))), (0, .ref hm), (1, .int (nI k)), (2, .int (nI pa))] [] [(hm, .inr (12, [.ref m_manys, .ref m_reals, .ref m_factsOf, .ref m_possible, .int (nI q_undos), .int (nI q_models), .ref m_tape, .int (nI q_taped), .int q_fault, .int q_wrong, .int q_wrongAt, .int q_spot, .int q_place, .int q_token, .int q_value, .ref m_ends, .ref m_letters, .ref m_actOf, .ref m_whom, .ref m_actMany, .ref m_tokens, .ref m_afters, .ref m_afterOf, .int q_counted, .ref m_pile, .ref m_caseMany, .ref m_happen, .ref m_hasIf, .ref m_becomes, .ref m_goneOf, .ref m_heard, .ref m_pairs, .ref m_heaps, .int q_rounds, .int q_heapMany, .ref m_led, .ref m_newAt, .ref m_knowing, .ref m_firsts, .int (nI q_people), .ref m_secrets, .ref m_tried, .ref m_lanes, .ref m_lengths, .ref m_cells])), (m_manys, .inl (E.2.1 1, 18, .inl gt_manys)), (m_reals, .inl (E.2.1 1, 18, .inl gt_reals)), (m_factsOf, .inl (E.2.1 1, 432, .inl gt_factsOf)), (m_possible, .inl (E.2.1 1, 1728, .inl gt_possible)), (m_pairs, .inl (E.2.1 1, 576, .inl gt_pairs)), (m_pile, .inl (E.2.1 1, 34, .inl gt_pile)), (m_caseMany, .inl (E.2.1 1, 4, .inl f_caseMany)), (m_happen, .inl (E.2.1 1, 4, .inl f_happen)), (m_hasIf, .inl (E.2.1 3, 16, .inl f_hasIf)), (m_becomes, .inl (E.2.1 1, 16, .inl f_becomes)), (m_goneOf, .inl (E.2.1 1, 16, .inl f_goneOf)), (m_heard, .inl (E.2.1 1, 64, .inl f_heard)), (m_actMany, .inl (E.2.1 1, 25, .inl f_actMany)), (m_actOf, .inl (E.2.1 1, 800, .inl f_actOf)), (m_whom, .inl (E.2.1 1, 800, .inl f_whom)), (m_afters, .inl (E.2.1 1, 9, .inl f_afters)), (m_afterOf, .inl (E.2.1 1, 18, .inl f_afterOf))] 0 0 := by
    intro fu
    induction fu with
    | zero => intro ln la a1 gt_manys gt_reals gt_factsOf gt_possible gt_pairs gt_pile ha1 hla hl1 hl2 hl0 hchn hoth hk_manys hk_reals hnb_m_manys_8 hnb_m_reals_8 hpg_8 hwf_8 hmeas; exact absurd hmeas (Nat.not_lt_zero _)
    | succ fu ih_8 =>
      intro ln la a1 gt_manys gt_reals gt_factsOf gt_possible gt_pairs gt_pile ha1 hla hl1 hl2 hl0 hchn hoth hk_manys hk_reals hnb_m_manys_8 hnb_m_reals_8 hpg_8 hwf_8 hmeas
      refine ww_iload C dX12_truthOf_8 0 rfl ?_
      refine ww_aload_n C dX12_truthOf_10 3 rfl rfl ?_
      refine ww_get C fg_X12_43 0 rfl rfl dX12_truthOf_11 ?_
      refine ww_iload_n C dX12_truthOf_14 4 rfl rfl ?_
      have hbx_1 := (hb_afters k (by omega)).2
      refine ww_iald (v := (nI (cN f_afters k))) C 16 rfl (vp_in_nI (by omega) (by omega)) (ldn (by omega) (hb_afters k (by omega)).1) dX12_truthOf_15 ?_
      refine ww_icmp_ge (tgt := 83) C dX12_truthOf_16 (by decide) (fun c_2 => ?_) (fun c_2 => ?_)
      · have zc_2 : ((a1 : Nat) : Int) ≥ ((cN f_afters k : Nat) : Int) := i_le (nI_toInt (n := cN f_afters k) (by omega)) (nI_toInt (n := a1) (by omega)) c_2
        refine ww_iload C dX12_truthOf_83 1 rfl ?_
        refine ww_if_eq (tgt := 97) C dX12_truthOf_85 (by decide) (fun c_3 => ?_) (fun c_3 => ?_)
        · have zc_3 : ((la : Nat) : Int) = 0 := i_eq (nI_toInt (n := la) (by omega)) rfl c_3
          refine ww_aload_n C dX12_truthOf_97 3 rfl rfl ?_
          refine ww_get C fg_X12_7 0 rfl rfl dX12_truthOf_98 ?_
          refine ww_iload_n C dX12_truthOf_101 2 rfl rfl ?_
          have hbx_4 := (hnb_m_manys_8 (pa + ln) (by omega)).2
          refine ww_iald (v := (nI (cN gt_manys (pa + ln)))) C 1 rfl (vp_in_nI (by omega) (by omega)) (ldn (by omega) (hnb_m_manys_8 (pa + ln) (by omega)).1) dX12_truthOf_102 ?_
          refine ww_ci (wr := [(hm, .inr (12, [.ref m_manys, .ref m_reals, .ref m_factsOf, .ref m_possible, .int (nI q_undos), .int (nI q_models), .ref m_tape, .int (nI q_taped), .int q_fault, .int q_wrong, .int q_wrongAt, .int q_spot, .int q_place, .int q_token, .int q_value, .ref m_ends, .ref m_letters, .ref m_actOf, .ref m_whom, .ref m_actMany, .ref m_tokens, .ref m_afters, .ref m_afterOf, .int q_counted, .ref m_pile, .ref m_caseMany, .ref m_happen, .ref m_hasIf, .ref m_becomes, .ref m_goneOf, .ref m_heard, .ref m_pairs, .ref m_heaps, .int q_rounds, .int q_heapMany, .ref m_led, .ref m_newAt, .ref m_knowing, .ref m_firsts, .int (nI q_people), .ref m_secrets, .ref m_tried, .ref m_lanes, .ref m_lengths, .ref m_cells])), (m_manys, .inl (E.2.1 1, 18, .inl gt_manys)), (m_reals, .inl (E.2.1 1, 18, .inl gt_reals)), (m_factsOf, .inl (E.2.1 1, 432, .inl gt_factsOf)), (m_possible, .inl (E.2.1 1, 1728, .inl gt_possible)), (m_pairs, .inl (E.2.1 1, 576, .inl gt_pairs)), (m_pile, .inl (E.2.1 1, 34, .inl gt_pile)), (m_caseMany, .inl (E.2.1 1, 4, .inl f_caseMany)), (m_happen, .inl (E.2.1 1, 4, .inl f_happen)), (m_hasIf, .inl (E.2.1 3, 16, .inl f_hasIf)), (m_becomes, .inl (E.2.1 1, 16, .inl f_becomes)), (m_goneOf, .inl (E.2.1 1, 16, .inl f_goneOf)), (m_heard, .inl (E.2.1 1, 64, .inl f_heard)), (m_actMany, .inl (E.2.1 1, 25, .inl f_actMany)), (m_actOf, .inl (E.2.1 1, 800, .inl f_actOf)), (m_whom, .inl (E.2.1 1, 800, .inl f_whom)), (m_afters, .inl (E.2.1 1, 9, .inl f_afters)), (m_afterOf, .inl (E.2.1 1, 18, .inl f_afterOf))]) (k' := 0) (n' := 0) C (run_S (As := [.int (nI (cN gt_manys (pa + ln)))]) (rest := []) C (r_all X.2.1 E ro (cN gt_manys (pa + ln)) (by omega)) ms_X12_all wl_X12_230 rfl rfl rfl rfl dX12_truthOf_103) (roK hro) [] [0, 1, 2, 3, 4, 5, 6, 7, 8, 9, 10, 11, 12, 13, 14, 15, 16, 17] rfl rfl rfl rfl (fun r_5 uz hw => ?_)
          refine an1 hw ?_
          clear hw
          intro he_7 hw
          have h_6 := hw
          clear hw
          subst he_7
          refine ww_eq (ws' := [(hm, .inr (12, [.ref m_manys, .ref m_reals, .ref m_factsOf, .ref m_possible, .int (nI q_undos), .int (nI q_models), .ref m_tape, .int (nI q_taped), .int q_fault, .int q_wrong, .int q_wrongAt, .int q_spot, .int q_place, .int q_token, .int q_value, .ref m_ends, .ref m_letters, .ref m_actOf, .ref m_whom, .ref m_actMany, .ref m_tokens, .ref m_afters, .ref m_afterOf, .int q_counted, .ref m_pile, .ref m_caseMany, .ref m_happen, .ref m_hasIf, .ref m_becomes, .ref m_goneOf, .ref m_heard, .ref m_pairs, .ref m_heaps, .int q_rounds, .int q_heapMany, .ref m_led, .ref m_newAt, .ref m_knowing, .ref m_firsts, .int (nI q_people), .ref m_secrets, .ref m_tried, .ref m_lanes, .ref m_lengths, .ref m_cells])), (m_manys, .inl (E.2.1 1, 18, .inl gt_manys)), (m_reals, .inl (E.2.1 1, 18, .inl gt_reals)), (m_factsOf, .inl (E.2.1 1, 432, .inl gt_factsOf)), (m_possible, .inl (E.2.1 1, 1728, .inl gt_possible)), (m_pairs, .inl (E.2.1 1, 576, .inl gt_pairs)), (m_pile, .inl (E.2.1 1, 34, .inl gt_pile)), (m_caseMany, .inl (E.2.1 1, 4, .inl f_caseMany)), (m_happen, .inl (E.2.1 1, 4, .inl f_happen)), (m_hasIf, .inl (E.2.1 3, 16, .inl f_hasIf)), (m_becomes, .inl (E.2.1 1, 16, .inl f_becomes)), (m_goneOf, .inl (E.2.1 1, 16, .inl f_goneOf)), (m_heard, .inl (E.2.1 1, 64, .inl f_heard)), (m_actMany, .inl (E.2.1 1, 25, .inl f_actMany)), (m_actOf, .inl (E.2.1 1, 800, .inl f_actOf)), (m_whom, .inl (E.2.1 1, 800, .inl f_whom)), (m_afters, .inl (E.2.1 1, 9, .inl f_afters)), (m_afterOf, .inl (E.2.1 1, 18, .inl f_afterOf))]) ?_ rfl rfl rfl
          refine ww_istore (lv' := [(5, .int r_5), (4, .int (nI la)), (3, .int (nI (pa + ln))), (0, .ref hm), (1, .int (nI k)), (2, .int (nI pa))]) C dX12_truthOf_106 rfl rfl ?_
          have loop_108 : ∀ (fu : Nat) (li : Nat) (so2 : Int32), (li ≤ ln) → (BS so2 (vW ((pgs gt_manys gt_reals gt_factsOf gt_possible) (pa + li)) (rEv f_caseMany f_happen f_hasIf f_actMany f_actOf f_whom f_becomes f_goneOf f_heard) (rT f_actMany f_actOf f_whom f_afterOf f_afters k) (esl (fun a => cN f_afterOf (2 * k + a)) li (cN f_afters k - li)))) → li < fu → WW X 7 E 108 [(5, .int so2), (4, .int (nI la)), (3, .int (nI (pa + li))), (0, .ref hm), (1, .int (nI k)), (2, .int (nI pa))] [] [(hm, .inr (12, [.ref m_manys, .ref m_reals, .ref m_factsOf, .ref m_possible, .int (nI q_undos), .int (nI q_models), .ref m_tape, .int (nI q_taped), .int q_fault, .int q_wrong, .int q_wrongAt, .int q_spot, .int q_place, .int q_token, .int q_value, .ref m_ends, .ref m_letters, .ref m_actOf, .ref m_whom, .ref m_actMany, .ref m_tokens, .ref m_afters, .ref m_afterOf, .int q_counted, .ref m_pile, .ref m_caseMany, .ref m_happen, .ref m_hasIf, .ref m_becomes, .ref m_goneOf, .ref m_heard, .ref m_pairs, .ref m_heaps, .int q_rounds, .int q_heapMany, .ref m_led, .ref m_newAt, .ref m_knowing, .ref m_firsts, .int (nI q_people), .ref m_secrets, .ref m_tried, .ref m_lanes, .ref m_lengths, .ref m_cells])), (m_manys, .inl (E.2.1 1, 18, .inl gt_manys)), (m_reals, .inl (E.2.1 1, 18, .inl gt_reals)), (m_factsOf, .inl (E.2.1 1, 432, .inl gt_factsOf)), (m_possible, .inl (E.2.1 1, 1728, .inl gt_possible)), (m_pairs, .inl (E.2.1 1, 576, .inl gt_pairs)), (m_pile, .inl (E.2.1 1, 34, .inl gt_pile)), (m_caseMany, .inl (E.2.1 1, 4, .inl f_caseMany)), (m_happen, .inl (E.2.1 1, 4, .inl f_happen)), (m_hasIf, .inl (E.2.1 3, 16, .inl f_hasIf)), (m_becomes, .inl (E.2.1 1, 16, .inl f_becomes)), (m_goneOf, .inl (E.2.1 1, 16, .inl f_goneOf)), (m_heard, .inl (E.2.1 1, 64, .inl f_heard)), (m_actMany, .inl (E.2.1 1, 25, .inl f_actMany)), (m_actOf, .inl (E.2.1 1, 800, .inl f_actOf)), (m_whom, .inl (E.2.1 1, 800, .inl f_whom)), (m_afters, .inl (E.2.1 1, 9, .inl f_afters)), (m_afterOf, .inl (E.2.1 1, 18, .inl f_afterOf))] 0 0 := by
            intro fu
            induction fu with
            | zero => intro li so2 hli hbs hmeas; exact absurd hmeas (Nat.not_lt_zero _)
            | succ fu ih_108 =>
              intro li so2 hli hbs hmeas
              refine ww_iload_n C dX12_truthOf_108 2 rfl rfl ?_
              refine ww_iload_n C dX12_truthOf_109 5 rfl rfl ?_
              refine ww_icmp_le (tgt := 140) C dX12_truthOf_110 (by decide) (fun c_8 => ?_) (fun c_8 => ?_)
              · have zc_8 : ((pa + li : Nat) : Int) ≤ ((pa : Nat) : Int) := i_le (nI_toInt (n := pa + li) (by omega)) (nI_toInt (n := pa) (by omega)) c_8
                refine ww_iload C dX12_truthOf_140 0 rfl ?_
                exact ww_iret (u := [(hm, .inr (12, [.ref m_manys, .ref m_reals, .ref m_factsOf, .ref m_possible, .int (nI q_undos), .int (nI q_models), .ref m_tape, .int (nI q_taped), .int q_fault, .int q_wrong, .int q_wrongAt, .int q_spot, .int q_place, .int q_token, .int q_value, .ref m_ends, .ref m_letters, .ref m_actOf, .ref m_whom, .ref m_actMany, .ref m_tokens, .ref m_afters, .ref m_afterOf, .int q_counted, .ref m_pile, .ref m_caseMany, .ref m_happen, .ref m_hasIf, .ref m_becomes, .ref m_goneOf, .ref m_heard, .ref m_pairs, .ref m_heaps, .int q_rounds, .int q_heapMany, .ref m_led, .ref m_newAt, .ref m_knowing, .ref m_firsts, .int (nI q_people), .ref m_secrets, .ref m_tried, .ref m_lanes, .ref m_lengths, .ref m_cells])), (m_manys, .inl (E.2.1 1, 18, .inl gt_manys)), (m_reals, .inl (E.2.1 1, 18, .inl gt_reals)), (m_factsOf, .inl (E.2.1 1, 432, .inl gt_factsOf)), (m_possible, .inl (E.2.1 1, 1728, .inl gt_possible)), (m_pairs, .inl (E.2.1 1, 576, .inl gt_pairs)), (m_pile, .inl (E.2.1 1, 34, .inl gt_pile)), (m_caseMany, .inl (E.2.1 1, 4, .inl f_caseMany)), (m_happen, .inl (E.2.1 1, 4, .inl f_happen)), (m_hasIf, .inl (E.2.1 3, 16, .inl f_hasIf)), (m_becomes, .inl (E.2.1 1, 16, .inl f_becomes)), (m_goneOf, .inl (E.2.1 1, 16, .inl f_goneOf)), (m_heard, .inl (E.2.1 1, 64, .inl f_heard)), (m_actMany, .inl (E.2.1 1, 25, .inl f_actMany)), (m_actOf, .inl (E.2.1 1, 800, .inl f_actOf)), (m_whom, .inl (E.2.1 1, 800, .inl f_whom)), (m_afters, .inl (E.2.1 1, 9, .inl f_afters)), (m_afterOf, .inl (E.2.1 1, 18, .inl f_afterOf))]) C hT [0, 1, 2, 3, 4, 5, 6, 7, 8, 9, 10, 11, 12, 13, 14, 15, 16, 17] rfl rfl rfl rfl dX12_truthOf_142 (⟨gt_manys, gt_reals, gt_factsOf, gt_possible, gt_pairs, gt_pile, rfl, hnb_m_manys_8, hnb_m_reals_8, hpg_8, hwf_8, hk_manys, hk_reals, (by have h9 : li = 0 := (by omega); rw [h9] at hbs; show BS _ (vW _ _ _ (aftL _)); rw [aft_esl (S := (rT f_actMany f_actOf f_whom f_afterOf f_afters k)) (show cN f_afters k ≤ 2 by omega), ← hoth pa (by omega) (Or.inl (Nat.le_refl _))]; exact hbs), hoth⟩)
              · have zc_8 : ((pa + li : Nat) : Int) > ((pa : Nat) : Int) := i_nle (nI_toInt (n := pa + li) (by omega)) (nI_toInt (n := pa) (by omega)) c_8
                obtain ⟨l3, rfl⟩ : ∃ z, li = z + 1 := ⟨li - 1, by omega⟩
                have hes3 := (hb_afterOf (2 * k + l3) (by omega)).2
                refine ww_iinc (j := 2) (v := (nI ((pa + (l3 + 1)) - 1))) (lv' := [(3, .int (nI ((pa + (l3 + 1)) - 1))), (5, .int so2), (4, .int (nI la)), (0, .ref hm), (1, .int (nI k)), (2, .int (nI pa))]) C dX12_truthOf_113 rfl (nI_subc (a := (pa + (l3 + 1))) (c := 1) (by omega) rfl) rfl rfl ?_
                refine ww_aload_n C dX12_truthOf_116 3 rfl rfl ?_
                refine ww_aload_n C dX12_truthOf_117 3 rfl rfl ?_
                refine ww_get C fg_X12_46 0 rfl rfl dX12_truthOf_118 ?_
                refine ww_iconst (v := 2) C dX12_truthOf_121 rfl ?_
                refine ww_iload_n C dX12_truthOf_122 4 rfl rfl ?_
                refine ww_imul (v := (nI (2 * k))) C dX12_truthOf_123 (pk_mul 2 k) ?_
                refine ww_iload_n C dX12_truthOf_124 0 rfl rfl ?_
                refine ww_iadd (v := (nI ((2 * k) + ((pa + (l3 + 1)) - 1)))) C dX12_truthOf_125 (nI_add (2 * k) ((pa + (l3 + 1)) - 1)) ?_
                refine ww_iload_n C dX12_truthOf_126 5 rfl rfl ?_
                refine ww_isub (v := (nI (((2 * k) + ((pa + (l3 + 1)) - 1)) - pa))) C dX12_truthOf_127 (pk_sub (a := ((2 * k) + ((pa + (l3 + 1)) - 1))) (b := pa) (by omega)) ?_
                have hbx_9 := (hb_afterOf (((2 * k) + ((pa + (l3 + 1)) - 1)) - pa) (by omega)).2
                refine ww_iald (v := (nI (cN f_afterOf (((2 * k) + ((pa + (l3 + 1)) - 1)) - pa)))) C 17 rfl (vp_in_nI (by omega) (by omega)) (ldn (by omega) (hb_afterOf (((2 * k) + ((pa + (l3 + 1)) - 1)) - pa) (by omega)).1) dX12_truthOf_128 ?_
                refine ww_iload_n C dX12_truthOf_129 0 rfl rfl ?_
                refine ww_iload C dX12_truthOf_130 1 rfl ?_
                have hE : cN f_afterOf (2 * k + (pa + (l3 + 1) - 1) - pa) = cN f_afterOf (2 * k + l3) := congrArg (cN f_afterOf) (by omega)
                have hE1 := hhp (cN f_afterOf (2 * k + l3)) (by omega)
                have hE2 : 0 < cN f_caseMany (cN f_afterOf (2 * k + l3)) := (hchn l3 (by omega)).1
                refine ww_ci (wr := [(m_reals, .inl (E.2.1 1, 18, .inl gt_reals)), (m_factsOf, .inl (E.2.1 1, 432, .inl gt_factsOf)), (m_possible, .inl (E.2.1 1, 1728, .inl gt_possible)), (m_pile, .inl (E.2.1 1, 34, .inl gt_pile)), (m_hasIf, .inl (E.2.1 3, 16, .inl f_hasIf)), (m_becomes, .inl (E.2.1 1, 16, .inl f_becomes)), (m_goneOf, .inl (E.2.1 1, 16, .inl f_goneOf)), (m_heard, .inl (E.2.1 1, 64, .inl f_heard)), (m_actMany, .inl (E.2.1 1, 25, .inl f_actMany)), (m_actOf, .inl (E.2.1 1, 800, .inl f_actOf)), (m_whom, .inl (E.2.1 1, 800, .inl f_whom)), (m_afters, .inl (E.2.1 1, 9, .inl f_afters)), (m_afterOf, .inl (E.2.1 1, 18, .inl f_afterOf))]) (k' := 0) (n' := 0) C (run_V (As := [.int (nI (cN f_afterOf (((2 * k) + ((pa + (l3 + 1)) - 1)) - pa))), .int (nI ((pa + (l3 + 1)) - 1)), .int so2]) (rest := []) C (r_broughtBack X.2.1 E ro hm (cN f_afterOf (((2 * k) + ((pa + (l3 + 1)) - 1)) - pa)) ((pa + (l3 + 1)) - 1) so2 m_manys m_reals m_factsOf m_possible q_undos q_models m_tape q_taped q_fault q_wrong q_wrongAt q_spot q_place q_token q_value m_ends m_letters m_actOf m_whom m_actMany m_tokens m_afters m_afterOf q_counted m_pile m_caseMany m_happen m_hasIf m_becomes m_goneOf m_heard m_pairs m_heaps q_rounds q_heapMany m_led m_newAt m_knowing m_firsts q_people m_secrets m_tried m_lanes m_lengths m_cells gt_manys f_caseMany f_happen gt_pairs (lyP ((pgs gt_manys gt_reals gt_factsOf gt_possible) (pa + l3)) ((rEv f_caseMany f_happen f_hasIf f_actMany f_actOf f_whom f_becomes f_goneOf f_heard) (cN f_afterOf (2 * k + l3)))) hnb_m_manys_8 hb_caseMany hb_happen (by omega) (by omega) (by rw [hE]; exact (hchn l3 (by omega)).2.2.2) (fun u j _ hj h4 => by rw [hE] at hj; exact lyP_no hj h4) (hchn l3 (by omega)).2.1 (by rw [hE]; omega)) mi_X12_broughtBack wl_X12_270 rfl 0 12 rfl rfl rfl rfl rfl dX12_truthOf_132) (roK hro) [0, 1, 7, 8, 5] [2, 3, 4, 6, 9, 10, 11, 12, 13, 14, 15, 16, 17] rfl rfl rfl rfl (fun r_10 uz hw => ?_)
                refine an1 hw ?_
                clear hw
                intro he_12 hw
                have h_11 := hw
                clear hw
                subst he_12
                refine ww_eq (ws' := [(m_reals, .inl (E.2.1 1, 18, .inl gt_reals)), (m_factsOf, .inl (E.2.1 1, 432, .inl gt_factsOf)), (m_possible, .inl (E.2.1 1, 1728, .inl gt_possible)), (m_pile, .inl (E.2.1 1, 34, .inl gt_pile)), (m_hasIf, .inl (E.2.1 3, 16, .inl f_hasIf)), (m_becomes, .inl (E.2.1 1, 16, .inl f_becomes)), (m_goneOf, .inl (E.2.1 1, 16, .inl f_goneOf)), (m_heard, .inl (E.2.1 1, 64, .inl f_heard)), (m_actMany, .inl (E.2.1 1, 25, .inl f_actMany)), (m_actOf, .inl (E.2.1 1, 800, .inl f_actOf)), (m_whom, .inl (E.2.1 1, 800, .inl f_whom)), (m_afters, .inl (E.2.1 1, 9, .inl f_afters)), (m_afterOf, .inl (E.2.1 1, 18, .inl f_afterOf)), (hm, .inr (12, [.ref m_manys, .ref m_reals, .ref m_factsOf, .ref m_possible, .int (nI q_undos), .int (nI q_models), .ref m_tape, .int (nI q_taped), .int q_fault, .int q_wrong, .int q_wrongAt, .int q_spot, .int q_place, .int q_token, .int q_value, .ref m_ends, .ref m_letters, .ref m_actOf, .ref m_whom, .ref m_actMany, .ref m_tokens, .ref m_afters, .ref m_afterOf, .int q_counted, .ref m_pile, .ref m_caseMany, .ref m_happen, .ref m_hasIf, .ref m_becomes, .ref m_goneOf, .ref m_heard, .ref m_pairs, .ref m_heaps, .int q_rounds, .int q_heapMany, .ref m_led, .ref m_newAt, .ref m_knowing, .ref m_firsts, .int (nI q_people), .ref m_secrets, .ref m_tried, .ref m_lanes, .ref m_lengths, .ref m_cells])), (m_manys, .inl (E.2.1 1, 18, .inl gt_manys)), (m_caseMany, .inl (E.2.1 1, 4, .inl f_caseMany)), (m_happen, .inl (E.2.1 1, 4, .inl f_happen)), (m_pairs, .inl (E.2.1 1, 576, .inl gt_pairs))]) ?_ rfl rfl rfl
                refine ww_istore (lv' := [(5, .int r_10), (3, .int (nI ((pa + (l3 + 1)) - 1))), (4, .int (nI la)), (0, .ref hm), (1, .int (nI k)), (2, .int (nI pa))]) C dX12_truthOf_135 rfl rfl ?_
                refine ww_goto (tgt := 108) C dX12_truthOf_137 (by decide) ?_
                exact ww_lv [0, 2, 1, 3, 4, 5] rfl (ww_sub [13, 14, 0, 1, 2, 17, 3, 15, 16, 4, 5, 6, 7, 8, 9, 10, 11, 12] rfl rfl (ih_108 l3 r_10 (by omega) (by rw [show cN f_afters k - l3 = (cN f_afters k - (l3 + 1)) + 1 by omega]; exact vW_y (hchn l3 (by omega)).2.1 (show cN f_happen (cN f_afterOf (2 * k + l3)) < 4 by have := (hb_happen (cN f_afterOf (2 * k + l3)) (by omega)).2; omega) (by have h9 := hbs; rw [show pa + (l3 + 1) = pa + l3 + 1 from rfl, (hchn l3 (by omega)).2.2.1] at h9; exact h9) (by have h9 := h_11; rw [hE] at h9; exact h9)) (by omega)))
          exact ww_lv [0, 1, 2, 3, 4, 5] rfl (ww_sub [0, 1, 2, 3, 4, 5, 6, 7, 8, 9, 10, 11, 12, 13, 14, 15, 16, 17] rfl rfl (loop_108 _ ln r_5 (by omega) (by rw [show cN f_afters k - ln = (cN f_afters k - (ln + 1)) + 1 by have h9 := (hl0 (by omega)).1; omega]; exact vW_stop (hl0 (by omega)).2 h_6) (Nat.lt_succ_self _)))
        · have zc_3 : ((la : Nat) : Int) ≠ 0 := i_ne (nI_toInt (n := la) (by omega)) rfl c_3
          refine ww_aload_n C dX12_truthOf_88 3 rfl rfl ?_
          refine ww_iload_n C dX12_truthOf_89 4 rfl rfl ?_
          refine ww_iload_n C dX12_truthOf_90 2 rfl rfl ?_
          refine ww_ci (wr := [(m_pairs, .inl (E.2.1 1, 576, .inl gt_pairs)), (m_caseMany, .inl (E.2.1 1, 4, .inl f_caseMany)), (m_happen, .inl (E.2.1 1, 4, .inl f_happen)), (m_hasIf, .inl (E.2.1 3, 16, .inl f_hasIf)), (m_becomes, .inl (E.2.1 1, 16, .inl f_becomes)), (m_goneOf, .inl (E.2.1 1, 16, .inl f_goneOf)), (m_heard, .inl (E.2.1 1, 64, .inl f_heard)), (m_afters, .inl (E.2.1 1, 9, .inl f_afters)), (m_afterOf, .inl (E.2.1 1, 18, .inl f_afterOf))]) (k' := 0) (n' := 0) C (run_V (As := [.int (nI k), .int (nI (pa + ln))]) (rest := []) C (r_trueAt X.2.1 E ro hm k (pa + ln) m_manys m_reals m_factsOf m_possible q_undos q_models m_tape q_taped q_fault q_wrong q_wrongAt q_spot q_place q_token q_value m_ends m_letters m_actOf m_whom m_actMany m_tokens m_afters m_afterOf q_counted m_pile m_caseMany m_happen m_hasIf m_becomes m_goneOf m_heard m_pairs m_heaps q_rounds q_heapMany m_led m_newAt m_knowing m_firsts q_people m_secrets m_tried m_lanes m_lengths m_cells gt_manys gt_reals gt_factsOf gt_possible f_actMany f_actOf f_whom gt_pile hnb_m_manys_8 hnb_m_reals_8 hb_actMany hpg_8 hsv hwf_8 (by omega) (by omega) hWs) mi_X12_trueAt wl_X12_256 rfl 0 12 rfl rfl rfl rfl rfl dX12_truthOf_91) (roK hro) [0, 1, 2, 3, 4, 13, 14, 15, 6] [5, 7, 8, 9, 10, 11, 12, 16, 17] rfl rfl rfl rfl (fun r_13 uz hw => ?_)
          refine ex1 hw ?_
          clear hw
          intro f_pilez_14 hw
          refine an1 hw ?_
          clear hw
          intro he_16 hw
          have h_15 := hw
          clear hw
          subst he_16
          refine ww_eq (ws' := [(m_pairs, .inl (E.2.1 1, 576, .inl gt_pairs)), (m_caseMany, .inl (E.2.1 1, 4, .inl f_caseMany)), (m_happen, .inl (E.2.1 1, 4, .inl f_happen)), (m_hasIf, .inl (E.2.1 3, 16, .inl f_hasIf)), (m_becomes, .inl (E.2.1 1, 16, .inl f_becomes)), (m_goneOf, .inl (E.2.1 1, 16, .inl f_goneOf)), (m_heard, .inl (E.2.1 1, 64, .inl f_heard)), (m_afters, .inl (E.2.1 1, 9, .inl f_afters)), (m_afterOf, .inl (E.2.1 1, 18, .inl f_afterOf)), (hm, .inr (12, [.ref m_manys, .ref m_reals, .ref m_factsOf, .ref m_possible, .int (nI q_undos), .int (nI q_models), .ref m_tape, .int (nI q_taped), .int q_fault, .int q_wrong, .int q_wrongAt, .int q_spot, .int q_place, .int q_token, .int q_value, .ref m_ends, .ref m_letters, .ref m_actOf, .ref m_whom, .ref m_actMany, .ref m_tokens, .ref m_afters, .ref m_afterOf, .int q_counted, .ref m_pile, .ref m_caseMany, .ref m_happen, .ref m_hasIf, .ref m_becomes, .ref m_goneOf, .ref m_heard, .ref m_pairs, .ref m_heaps, .int q_rounds, .int q_heapMany, .ref m_led, .ref m_newAt, .ref m_knowing, .ref m_firsts, .int (nI q_people), .ref m_secrets, .ref m_tried, .ref m_lanes, .ref m_lengths, .ref m_cells])), (m_manys, .inl (E.2.1 1, 18, .inl gt_manys)), (m_reals, .inl (E.2.1 1, 18, .inl gt_reals)), (m_factsOf, .inl (E.2.1 1, 432, .inl gt_factsOf)), (m_possible, .inl (E.2.1 1, 1728, .inl gt_possible)), (m_actMany, .inl (E.2.1 1, 25, .inl f_actMany)), (m_actOf, .inl (E.2.1 1, 800, .inl f_actOf)), (m_whom, .inl (E.2.1 1, 800, .inl f_whom)), (m_pile, .inl (E.2.1 1, 34, .inl f_pilez_14))]) ?_ rfl rfl rfl
          refine ww_goto (tgt := 106) C dX12_truthOf_94 (by decide) ?_
          refine ww_istore (lv' := [(5, .int r_13), (4, .int (nI la)), (3, .int (nI (pa + ln))), (0, .ref hm), (1, .int (nI k)), (2, .int (nI pa))]) C dX12_truthOf_106 rfl rfl ?_
          have loop_108 : ∀ (fu : Nat) (li : Nat) (so2 : Int32), (li ≤ ln) → (BS so2 (vW ((pgs gt_manys gt_reals gt_factsOf gt_possible) (pa + li)) (rEv f_caseMany f_happen f_hasIf f_actMany f_actOf f_whom f_becomes f_goneOf f_heard) (rT f_actMany f_actOf f_whom f_afterOf f_afters k) (esl (fun a => cN f_afterOf (2 * k + a)) li (cN f_afters k - li)))) → li < fu → WW X 7 E 108 [(5, .int so2), (4, .int (nI la)), (3, .int (nI (pa + li))), (0, .ref hm), (1, .int (nI k)), (2, .int (nI pa))] [] [(m_pairs, .inl (E.2.1 1, 576, .inl gt_pairs)), (m_caseMany, .inl (E.2.1 1, 4, .inl f_caseMany)), (m_happen, .inl (E.2.1 1, 4, .inl f_happen)), (m_hasIf, .inl (E.2.1 3, 16, .inl f_hasIf)), (m_becomes, .inl (E.2.1 1, 16, .inl f_becomes)), (m_goneOf, .inl (E.2.1 1, 16, .inl f_goneOf)), (m_heard, .inl (E.2.1 1, 64, .inl f_heard)), (m_afters, .inl (E.2.1 1, 9, .inl f_afters)), (m_afterOf, .inl (E.2.1 1, 18, .inl f_afterOf)), (hm, .inr (12, [.ref m_manys, .ref m_reals, .ref m_factsOf, .ref m_possible, .int (nI q_undos), .int (nI q_models), .ref m_tape, .int (nI q_taped), .int q_fault, .int q_wrong, .int q_wrongAt, .int q_spot, .int q_place, .int q_token, .int q_value, .ref m_ends, .ref m_letters, .ref m_actOf, .ref m_whom, .ref m_actMany, .ref m_tokens, .ref m_afters, .ref m_afterOf, .int q_counted, .ref m_pile, .ref m_caseMany, .ref m_happen, .ref m_hasIf, .ref m_becomes, .ref m_goneOf, .ref m_heard, .ref m_pairs, .ref m_heaps, .int q_rounds, .int q_heapMany, .ref m_led, .ref m_newAt, .ref m_knowing, .ref m_firsts, .int (nI q_people), .ref m_secrets, .ref m_tried, .ref m_lanes, .ref m_lengths, .ref m_cells])), (m_manys, .inl (E.2.1 1, 18, .inl gt_manys)), (m_reals, .inl (E.2.1 1, 18, .inl gt_reals)), (m_factsOf, .inl (E.2.1 1, 432, .inl gt_factsOf)), (m_possible, .inl (E.2.1 1, 1728, .inl gt_possible)), (m_actMany, .inl (E.2.1 1, 25, .inl f_actMany)), (m_actOf, .inl (E.2.1 1, 800, .inl f_actOf)), (m_whom, .inl (E.2.1 1, 800, .inl f_whom)), (m_pile, .inl (E.2.1 1, 34, .inl f_pilez_14))] 0 0 := by
            intro fu
            induction fu with
            | zero => intro li so2 hli hbs hmeas; exact absurd hmeas (Nat.not_lt_zero _)
            | succ fu ih_108 =>
              intro li so2 hli hbs hmeas
              refine ww_iload_n C dX12_truthOf_108 2 rfl rfl ?_
              refine ww_iload_n C dX12_truthOf_109 5 rfl rfl ?_
              refine ww_icmp_le (tgt := 140) C dX12_truthOf_110 (by decide) (fun c_17 => ?_) (fun c_17 => ?_)
              · have zc_17 : ((pa + li : Nat) : Int) ≤ ((pa : Nat) : Int) := i_le (nI_toInt (n := pa + li) (by omega)) (nI_toInt (n := pa) (by omega)) c_17
                refine ww_iload C dX12_truthOf_140 0 rfl ?_
                exact ww_iret (u := [(hm, .inr (12, [.ref m_manys, .ref m_reals, .ref m_factsOf, .ref m_possible, .int (nI q_undos), .int (nI q_models), .ref m_tape, .int (nI q_taped), .int q_fault, .int q_wrong, .int q_wrongAt, .int q_spot, .int q_place, .int q_token, .int q_value, .ref m_ends, .ref m_letters, .ref m_actOf, .ref m_whom, .ref m_actMany, .ref m_tokens, .ref m_afters, .ref m_afterOf, .int q_counted, .ref m_pile, .ref m_caseMany, .ref m_happen, .ref m_hasIf, .ref m_becomes, .ref m_goneOf, .ref m_heard, .ref m_pairs, .ref m_heaps, .int q_rounds, .int q_heapMany, .ref m_led, .ref m_newAt, .ref m_knowing, .ref m_firsts, .int (nI q_people), .ref m_secrets, .ref m_tried, .ref m_lanes, .ref m_lengths, .ref m_cells])), (m_manys, .inl (E.2.1 1, 18, .inl gt_manys)), (m_reals, .inl (E.2.1 1, 18, .inl gt_reals)), (m_factsOf, .inl (E.2.1 1, 432, .inl gt_factsOf)), (m_possible, .inl (E.2.1 1, 1728, .inl gt_possible)), (m_pairs, .inl (E.2.1 1, 576, .inl gt_pairs)), (m_pile, .inl (E.2.1 1, 34, .inl f_pilez_14)), (m_caseMany, .inl (E.2.1 1, 4, .inl f_caseMany)), (m_happen, .inl (E.2.1 1, 4, .inl f_happen)), (m_hasIf, .inl (E.2.1 3, 16, .inl f_hasIf)), (m_becomes, .inl (E.2.1 1, 16, .inl f_becomes)), (m_goneOf, .inl (E.2.1 1, 16, .inl f_goneOf)), (m_heard, .inl (E.2.1 1, 64, .inl f_heard)), (m_actMany, .inl (E.2.1 1, 25, .inl f_actMany)), (m_actOf, .inl (E.2.1 1, 800, .inl f_actOf)), (m_whom, .inl (E.2.1 1, 800, .inl f_whom)), (m_afters, .inl (E.2.1 1, 9, .inl f_afters)), (m_afterOf, .inl (E.2.1 1, 18, .inl f_afterOf))]) C hT [9, 10, 11, 12, 13, 0, 17, 1, 2, 3, 4, 5, 6, 14, 15, 16, 7, 8] rfl rfl rfl rfl dX12_truthOf_142 (⟨gt_manys, gt_reals, gt_factsOf, gt_possible, gt_pairs, f_pilez_14, rfl, hnb_m_manys_8, hnb_m_reals_8, hpg_8, hwf_8, hk_manys, hk_reals, (by have h9 : li = 0 := (by omega); rw [h9] at hbs; show BS _ (vW _ _ _ (aftL _)); rw [aft_esl (S := (rT f_actMany f_actOf f_whom f_afterOf f_afters k)) (show cN f_afters k ≤ 2 by omega), ← hoth pa (by omega) (Or.inl (Nat.le_refl _))]; exact hbs), hoth⟩)
              · have zc_17 : ((pa + li : Nat) : Int) > ((pa : Nat) : Int) := i_nle (nI_toInt (n := pa + li) (by omega)) (nI_toInt (n := pa) (by omega)) c_17
                obtain ⟨l3, rfl⟩ : ∃ z, li = z + 1 := ⟨li - 1, by omega⟩
                have hes3 := (hb_afterOf (2 * k + l3) (by omega)).2
                refine ww_iinc (j := 2) (v := (nI ((pa + (l3 + 1)) - 1))) (lv' := [(3, .int (nI ((pa + (l3 + 1)) - 1))), (5, .int so2), (4, .int (nI la)), (0, .ref hm), (1, .int (nI k)), (2, .int (nI pa))]) C dX12_truthOf_113 rfl (nI_subc (a := (pa + (l3 + 1))) (c := 1) (by omega) rfl) rfl rfl ?_
                refine ww_aload_n C dX12_truthOf_116 3 rfl rfl ?_
                refine ww_aload_n C dX12_truthOf_117 3 rfl rfl ?_
                refine ww_get C fg_X12_46 9 rfl rfl dX12_truthOf_118 ?_
                refine ww_iconst (v := 2) C dX12_truthOf_121 rfl ?_
                refine ww_iload_n C dX12_truthOf_122 4 rfl rfl ?_
                refine ww_imul (v := (nI (2 * k))) C dX12_truthOf_123 (pk_mul 2 k) ?_
                refine ww_iload_n C dX12_truthOf_124 0 rfl rfl ?_
                refine ww_iadd (v := (nI ((2 * k) + ((pa + (l3 + 1)) - 1)))) C dX12_truthOf_125 (nI_add (2 * k) ((pa + (l3 + 1)) - 1)) ?_
                refine ww_iload_n C dX12_truthOf_126 5 rfl rfl ?_
                refine ww_isub (v := (nI (((2 * k) + ((pa + (l3 + 1)) - 1)) - pa))) C dX12_truthOf_127 (pk_sub (a := ((2 * k) + ((pa + (l3 + 1)) - 1))) (b := pa) (by omega)) ?_
                have hbx_18 := (hb_afterOf (((2 * k) + ((pa + (l3 + 1)) - 1)) - pa) (by omega)).2
                refine ww_iald (v := (nI (cN f_afterOf (((2 * k) + ((pa + (l3 + 1)) - 1)) - pa)))) C 8 rfl (vp_in_nI (by omega) (by omega)) (ldn (by omega) (hb_afterOf (((2 * k) + ((pa + (l3 + 1)) - 1)) - pa) (by omega)).1) dX12_truthOf_128 ?_
                refine ww_iload_n C dX12_truthOf_129 0 rfl rfl ?_
                refine ww_iload C dX12_truthOf_130 1 rfl ?_
                have hE : cN f_afterOf (2 * k + (pa + (l3 + 1) - 1) - pa) = cN f_afterOf (2 * k + l3) := congrArg (cN f_afterOf) (by omega)
                have hE1 := hhp (cN f_afterOf (2 * k + l3)) (by omega)
                have hE2 : 0 < cN f_caseMany (cN f_afterOf (2 * k + l3)) := (hchn l3 (by omega)).1
                refine ww_ci (wr := [(m_hasIf, .inl (E.2.1 3, 16, .inl f_hasIf)), (m_becomes, .inl (E.2.1 1, 16, .inl f_becomes)), (m_goneOf, .inl (E.2.1 1, 16, .inl f_goneOf)), (m_heard, .inl (E.2.1 1, 64, .inl f_heard)), (m_afters, .inl (E.2.1 1, 9, .inl f_afters)), (m_afterOf, .inl (E.2.1 1, 18, .inl f_afterOf)), (m_reals, .inl (E.2.1 1, 18, .inl gt_reals)), (m_factsOf, .inl (E.2.1 1, 432, .inl gt_factsOf)), (m_possible, .inl (E.2.1 1, 1728, .inl gt_possible)), (m_actMany, .inl (E.2.1 1, 25, .inl f_actMany)), (m_actOf, .inl (E.2.1 1, 800, .inl f_actOf)), (m_whom, .inl (E.2.1 1, 800, .inl f_whom)), (m_pile, .inl (E.2.1 1, 34, .inl f_pilez_14))]) (k' := 0) (n' := 0) C (run_V (As := [.int (nI (cN f_afterOf (((2 * k) + ((pa + (l3 + 1)) - 1)) - pa))), .int (nI ((pa + (l3 + 1)) - 1)), .int so2]) (rest := []) C (r_broughtBack X.2.1 E ro hm (cN f_afterOf (((2 * k) + ((pa + (l3 + 1)) - 1)) - pa)) ((pa + (l3 + 1)) - 1) so2 m_manys m_reals m_factsOf m_possible q_undos q_models m_tape q_taped q_fault q_wrong q_wrongAt q_spot q_place q_token q_value m_ends m_letters m_actOf m_whom m_actMany m_tokens m_afters m_afterOf q_counted m_pile m_caseMany m_happen m_hasIf m_becomes m_goneOf m_heard m_pairs m_heaps q_rounds q_heapMany m_led m_newAt m_knowing m_firsts q_people m_secrets m_tried m_lanes m_lengths m_cells gt_manys f_caseMany f_happen gt_pairs (lyP ((pgs gt_manys gt_reals gt_factsOf gt_possible) (pa + l3)) ((rEv f_caseMany f_happen f_hasIf f_actMany f_actOf f_whom f_becomes f_goneOf f_heard) (cN f_afterOf (2 * k + l3)))) hnb_m_manys_8 hb_caseMany hb_happen (by omega) (by omega) (by rw [hE]; exact (hchn l3 (by omega)).2.2.2) (fun u j _ hj h4 => by rw [hE] at hj; exact lyP_no hj h4) (hchn l3 (by omega)).2.1 (by rw [hE]; omega)) mi_X12_broughtBack wl_X12_270 rfl 0 12 rfl rfl rfl rfl rfl dX12_truthOf_132) (roK hro) [9, 10, 1, 2, 0] [3, 4, 5, 6, 7, 8, 11, 12, 13, 14, 15, 16, 17] rfl rfl rfl rfl (fun r_19 uz hw => ?_)
                refine an1 hw ?_
                clear hw
                intro he_21 hw
                have h_20 := hw
                clear hw
                subst he_21
                refine ww_eq (ws' := [(m_hasIf, .inl (E.2.1 3, 16, .inl f_hasIf)), (m_becomes, .inl (E.2.1 1, 16, .inl f_becomes)), (m_goneOf, .inl (E.2.1 1, 16, .inl f_goneOf)), (m_heard, .inl (E.2.1 1, 64, .inl f_heard)), (m_afters, .inl (E.2.1 1, 9, .inl f_afters)), (m_afterOf, .inl (E.2.1 1, 18, .inl f_afterOf)), (m_reals, .inl (E.2.1 1, 18, .inl gt_reals)), (m_factsOf, .inl (E.2.1 1, 432, .inl gt_factsOf)), (m_possible, .inl (E.2.1 1, 1728, .inl gt_possible)), (m_actMany, .inl (E.2.1 1, 25, .inl f_actMany)), (m_actOf, .inl (E.2.1 1, 800, .inl f_actOf)), (m_whom, .inl (E.2.1 1, 800, .inl f_whom)), (m_pile, .inl (E.2.1 1, 34, .inl f_pilez_14)), (hm, .inr (12, [.ref m_manys, .ref m_reals, .ref m_factsOf, .ref m_possible, .int (nI q_undos), .int (nI q_models), .ref m_tape, .int (nI q_taped), .int q_fault, .int q_wrong, .int q_wrongAt, .int q_spot, .int q_place, .int q_token, .int q_value, .ref m_ends, .ref m_letters, .ref m_actOf, .ref m_whom, .ref m_actMany, .ref m_tokens, .ref m_afters, .ref m_afterOf, .int q_counted, .ref m_pile, .ref m_caseMany, .ref m_happen, .ref m_hasIf, .ref m_becomes, .ref m_goneOf, .ref m_heard, .ref m_pairs, .ref m_heaps, .int q_rounds, .int q_heapMany, .ref m_led, .ref m_newAt, .ref m_knowing, .ref m_firsts, .int (nI q_people), .ref m_secrets, .ref m_tried, .ref m_lanes, .ref m_lengths, .ref m_cells])), (m_manys, .inl (E.2.1 1, 18, .inl gt_manys)), (m_caseMany, .inl (E.2.1 1, 4, .inl f_caseMany)), (m_happen, .inl (E.2.1 1, 4, .inl f_happen)), (m_pairs, .inl (E.2.1 1, 576, .inl gt_pairs))]) ?_ rfl rfl rfl
                refine ww_istore (lv' := [(5, .int r_19), (3, .int (nI ((pa + (l3 + 1)) - 1))), (4, .int (nI la)), (0, .ref hm), (1, .int (nI k)), (2, .int (nI pa))]) C dX12_truthOf_135 rfl rfl ?_
                refine ww_goto (tgt := 108) C dX12_truthOf_137 (by decide) ?_
                exact ww_lv [0, 2, 1, 3, 4, 5] rfl (ww_sub [17, 15, 16, 0, 1, 2, 3, 4, 5, 13, 14, 6, 7, 8, 9, 10, 11, 12] rfl rfl (ih_108 l3 r_19 (by omega) (by rw [show cN f_afters k - l3 = (cN f_afters k - (l3 + 1)) + 1 by omega]; exact vW_y (hchn l3 (by omega)).2.1 (show cN f_happen (cN f_afterOf (2 * k + l3)) < 4 by have := (hb_happen (cN f_afterOf (2 * k + l3)) (by omega)).2; omega) (by have h9 := hbs; rw [show pa + (l3 + 1) = pa + l3 + 1 from rfl, (hchn l3 (by omega)).2.2.1] at h9; exact h9) (by have h9 := h_20; rw [hE] at h9; exact h9)) (by omega)))
          exact ww_lv [0, 1, 2, 3, 4, 5] rfl (ww_sub [0, 1, 2, 3, 4, 5, 6, 7, 8, 9, 10, 11, 12, 13, 14, 15, 16, 17] rfl rfl (loop_108 _ ln r_13 (by omega) (by rw [show cN f_afters k - ln = 0 by omega]; exact h_15) (Nat.lt_succ_self _)))
      · have zc_2 : ((a1 : Nat) : Int) < ((cN f_afters k : Nat) : Int) := i_nle (nI_toInt (n := cN f_afters k) (by omega)) (nI_toInt (n := a1) (by omega)) c_2
        refine ww_iload C dX12_truthOf_19 1 rfl ?_
        refine ww_if_eq (tgt := 83) C dX12_truthOf_21 (by decide) (fun c_22 => ?_) (fun c_22 => ?_)
        · have zc_22 : ((la : Nat) : Int) = 0 := i_eq (nI_toInt (n := la) (by omega)) rfl c_22
          refine ww_iload C dX12_truthOf_83 1 rfl ?_
          refine ww_if_eq (tgt := 97) C dX12_truthOf_85 (by decide) (fun c_23 => ?_) (fun c_23 => ?_)
          · have zc_23 : ((la : Nat) : Int) = 0 := i_eq (nI_toInt (n := la) (by omega)) rfl c_23
            refine ww_aload_n C dX12_truthOf_97 3 rfl rfl ?_
            refine ww_get C fg_X12_7 0 rfl rfl dX12_truthOf_98 ?_
            refine ww_iload_n C dX12_truthOf_101 2 rfl rfl ?_
            have hbx_24 := (hnb_m_manys_8 (pa + ln) (by omega)).2
            refine ww_iald (v := (nI (cN gt_manys (pa + ln)))) C 1 rfl (vp_in_nI (by omega) (by omega)) (ldn (by omega) (hnb_m_manys_8 (pa + ln) (by omega)).1) dX12_truthOf_102 ?_
            refine ww_ci (wr := [(hm, .inr (12, [.ref m_manys, .ref m_reals, .ref m_factsOf, .ref m_possible, .int (nI q_undos), .int (nI q_models), .ref m_tape, .int (nI q_taped), .int q_fault, .int q_wrong, .int q_wrongAt, .int q_spot, .int q_place, .int q_token, .int q_value, .ref m_ends, .ref m_letters, .ref m_actOf, .ref m_whom, .ref m_actMany, .ref m_tokens, .ref m_afters, .ref m_afterOf, .int q_counted, .ref m_pile, .ref m_caseMany, .ref m_happen, .ref m_hasIf, .ref m_becomes, .ref m_goneOf, .ref m_heard, .ref m_pairs, .ref m_heaps, .int q_rounds, .int q_heapMany, .ref m_led, .ref m_newAt, .ref m_knowing, .ref m_firsts, .int (nI q_people), .ref m_secrets, .ref m_tried, .ref m_lanes, .ref m_lengths, .ref m_cells])), (m_manys, .inl (E.2.1 1, 18, .inl gt_manys)), (m_reals, .inl (E.2.1 1, 18, .inl gt_reals)), (m_factsOf, .inl (E.2.1 1, 432, .inl gt_factsOf)), (m_possible, .inl (E.2.1 1, 1728, .inl gt_possible)), (m_pairs, .inl (E.2.1 1, 576, .inl gt_pairs)), (m_pile, .inl (E.2.1 1, 34, .inl gt_pile)), (m_caseMany, .inl (E.2.1 1, 4, .inl f_caseMany)), (m_happen, .inl (E.2.1 1, 4, .inl f_happen)), (m_hasIf, .inl (E.2.1 3, 16, .inl f_hasIf)), (m_becomes, .inl (E.2.1 1, 16, .inl f_becomes)), (m_goneOf, .inl (E.2.1 1, 16, .inl f_goneOf)), (m_heard, .inl (E.2.1 1, 64, .inl f_heard)), (m_actMany, .inl (E.2.1 1, 25, .inl f_actMany)), (m_actOf, .inl (E.2.1 1, 800, .inl f_actOf)), (m_whom, .inl (E.2.1 1, 800, .inl f_whom)), (m_afters, .inl (E.2.1 1, 9, .inl f_afters)), (m_afterOf, .inl (E.2.1 1, 18, .inl f_afterOf))]) (k' := 0) (n' := 0) C (run_S (As := [.int (nI (cN gt_manys (pa + ln)))]) (rest := []) C (r_all X.2.1 E ro (cN gt_manys (pa + ln)) (by omega)) ms_X12_all wl_X12_230 rfl rfl rfl rfl dX12_truthOf_103) (roK hro) [] [0, 1, 2, 3, 4, 5, 6, 7, 8, 9, 10, 11, 12, 13, 14, 15, 16, 17] rfl rfl rfl rfl (fun r_25 uz hw => ?_)
            refine an1 hw ?_
            clear hw
            intro he_27 hw
            have h_26 := hw
            clear hw
            subst he_27
            refine ww_eq (ws' := [(hm, .inr (12, [.ref m_manys, .ref m_reals, .ref m_factsOf, .ref m_possible, .int (nI q_undos), .int (nI q_models), .ref m_tape, .int (nI q_taped), .int q_fault, .int q_wrong, .int q_wrongAt, .int q_spot, .int q_place, .int q_token, .int q_value, .ref m_ends, .ref m_letters, .ref m_actOf, .ref m_whom, .ref m_actMany, .ref m_tokens, .ref m_afters, .ref m_afterOf, .int q_counted, .ref m_pile, .ref m_caseMany, .ref m_happen, .ref m_hasIf, .ref m_becomes, .ref m_goneOf, .ref m_heard, .ref m_pairs, .ref m_heaps, .int q_rounds, .int q_heapMany, .ref m_led, .ref m_newAt, .ref m_knowing, .ref m_firsts, .int (nI q_people), .ref m_secrets, .ref m_tried, .ref m_lanes, .ref m_lengths, .ref m_cells])), (m_manys, .inl (E.2.1 1, 18, .inl gt_manys)), (m_reals, .inl (E.2.1 1, 18, .inl gt_reals)), (m_factsOf, .inl (E.2.1 1, 432, .inl gt_factsOf)), (m_possible, .inl (E.2.1 1, 1728, .inl gt_possible)), (m_pairs, .inl (E.2.1 1, 576, .inl gt_pairs)), (m_pile, .inl (E.2.1 1, 34, .inl gt_pile)), (m_caseMany, .inl (E.2.1 1, 4, .inl f_caseMany)), (m_happen, .inl (E.2.1 1, 4, .inl f_happen)), (m_hasIf, .inl (E.2.1 3, 16, .inl f_hasIf)), (m_becomes, .inl (E.2.1 1, 16, .inl f_becomes)), (m_goneOf, .inl (E.2.1 1, 16, .inl f_goneOf)), (m_heard, .inl (E.2.1 1, 64, .inl f_heard)), (m_actMany, .inl (E.2.1 1, 25, .inl f_actMany)), (m_actOf, .inl (E.2.1 1, 800, .inl f_actOf)), (m_whom, .inl (E.2.1 1, 800, .inl f_whom)), (m_afters, .inl (E.2.1 1, 9, .inl f_afters)), (m_afterOf, .inl (E.2.1 1, 18, .inl f_afterOf))]) ?_ rfl rfl rfl
            refine ww_istore (lv' := [(5, .int r_25), (4, .int (nI la)), (3, .int (nI (pa + ln))), (0, .ref hm), (1, .int (nI k)), (2, .int (nI pa))]) C dX12_truthOf_106 rfl rfl ?_
            have loop_108 : ∀ (fu : Nat) (li : Nat) (so2 : Int32), (li ≤ ln) → (BS so2 (vW ((pgs gt_manys gt_reals gt_factsOf gt_possible) (pa + li)) (rEv f_caseMany f_happen f_hasIf f_actMany f_actOf f_whom f_becomes f_goneOf f_heard) (rT f_actMany f_actOf f_whom f_afterOf f_afters k) (esl (fun a => cN f_afterOf (2 * k + a)) li (cN f_afters k - li)))) → li < fu → WW X 7 E 108 [(5, .int so2), (4, .int (nI la)), (3, .int (nI (pa + li))), (0, .ref hm), (1, .int (nI k)), (2, .int (nI pa))] [] [(hm, .inr (12, [.ref m_manys, .ref m_reals, .ref m_factsOf, .ref m_possible, .int (nI q_undos), .int (nI q_models), .ref m_tape, .int (nI q_taped), .int q_fault, .int q_wrong, .int q_wrongAt, .int q_spot, .int q_place, .int q_token, .int q_value, .ref m_ends, .ref m_letters, .ref m_actOf, .ref m_whom, .ref m_actMany, .ref m_tokens, .ref m_afters, .ref m_afterOf, .int q_counted, .ref m_pile, .ref m_caseMany, .ref m_happen, .ref m_hasIf, .ref m_becomes, .ref m_goneOf, .ref m_heard, .ref m_pairs, .ref m_heaps, .int q_rounds, .int q_heapMany, .ref m_led, .ref m_newAt, .ref m_knowing, .ref m_firsts, .int (nI q_people), .ref m_secrets, .ref m_tried, .ref m_lanes, .ref m_lengths, .ref m_cells])), (m_manys, .inl (E.2.1 1, 18, .inl gt_manys)), (m_reals, .inl (E.2.1 1, 18, .inl gt_reals)), (m_factsOf, .inl (E.2.1 1, 432, .inl gt_factsOf)), (m_possible, .inl (E.2.1 1, 1728, .inl gt_possible)), (m_pairs, .inl (E.2.1 1, 576, .inl gt_pairs)), (m_pile, .inl (E.2.1 1, 34, .inl gt_pile)), (m_caseMany, .inl (E.2.1 1, 4, .inl f_caseMany)), (m_happen, .inl (E.2.1 1, 4, .inl f_happen)), (m_hasIf, .inl (E.2.1 3, 16, .inl f_hasIf)), (m_becomes, .inl (E.2.1 1, 16, .inl f_becomes)), (m_goneOf, .inl (E.2.1 1, 16, .inl f_goneOf)), (m_heard, .inl (E.2.1 1, 64, .inl f_heard)), (m_actMany, .inl (E.2.1 1, 25, .inl f_actMany)), (m_actOf, .inl (E.2.1 1, 800, .inl f_actOf)), (m_whom, .inl (E.2.1 1, 800, .inl f_whom)), (m_afters, .inl (E.2.1 1, 9, .inl f_afters)), (m_afterOf, .inl (E.2.1 1, 18, .inl f_afterOf))] 0 0 := by
              intro fu
              induction fu with
              | zero => intro li so2 hli hbs hmeas; exact absurd hmeas (Nat.not_lt_zero _)
              | succ fu ih_108 =>
                intro li so2 hli hbs hmeas
                refine ww_iload_n C dX12_truthOf_108 2 rfl rfl ?_
                refine ww_iload_n C dX12_truthOf_109 5 rfl rfl ?_
                refine ww_icmp_le (tgt := 140) C dX12_truthOf_110 (by decide) (fun c_28 => ?_) (fun c_28 => ?_)
                · have zc_28 : ((pa + li : Nat) : Int) ≤ ((pa : Nat) : Int) := i_le (nI_toInt (n := pa + li) (by omega)) (nI_toInt (n := pa) (by omega)) c_28
                  refine ww_iload C dX12_truthOf_140 0 rfl ?_
                  exact ww_iret (u := [(hm, .inr (12, [.ref m_manys, .ref m_reals, .ref m_factsOf, .ref m_possible, .int (nI q_undos), .int (nI q_models), .ref m_tape, .int (nI q_taped), .int q_fault, .int q_wrong, .int q_wrongAt, .int q_spot, .int q_place, .int q_token, .int q_value, .ref m_ends, .ref m_letters, .ref m_actOf, .ref m_whom, .ref m_actMany, .ref m_tokens, .ref m_afters, .ref m_afterOf, .int q_counted, .ref m_pile, .ref m_caseMany, .ref m_happen, .ref m_hasIf, .ref m_becomes, .ref m_goneOf, .ref m_heard, .ref m_pairs, .ref m_heaps, .int q_rounds, .int q_heapMany, .ref m_led, .ref m_newAt, .ref m_knowing, .ref m_firsts, .int (nI q_people), .ref m_secrets, .ref m_tried, .ref m_lanes, .ref m_lengths, .ref m_cells])), (m_manys, .inl (E.2.1 1, 18, .inl gt_manys)), (m_reals, .inl (E.2.1 1, 18, .inl gt_reals)), (m_factsOf, .inl (E.2.1 1, 432, .inl gt_factsOf)), (m_possible, .inl (E.2.1 1, 1728, .inl gt_possible)), (m_pairs, .inl (E.2.1 1, 576, .inl gt_pairs)), (m_pile, .inl (E.2.1 1, 34, .inl gt_pile)), (m_caseMany, .inl (E.2.1 1, 4, .inl f_caseMany)), (m_happen, .inl (E.2.1 1, 4, .inl f_happen)), (m_hasIf, .inl (E.2.1 3, 16, .inl f_hasIf)), (m_becomes, .inl (E.2.1 1, 16, .inl f_becomes)), (m_goneOf, .inl (E.2.1 1, 16, .inl f_goneOf)), (m_heard, .inl (E.2.1 1, 64, .inl f_heard)), (m_actMany, .inl (E.2.1 1, 25, .inl f_actMany)), (m_actOf, .inl (E.2.1 1, 800, .inl f_actOf)), (m_whom, .inl (E.2.1 1, 800, .inl f_whom)), (m_afters, .inl (E.2.1 1, 9, .inl f_afters)), (m_afterOf, .inl (E.2.1 1, 18, .inl f_afterOf))]) C hT [0, 1, 2, 3, 4, 5, 6, 7, 8, 9, 10, 11, 12, 13, 14, 15, 16, 17] rfl rfl rfl rfl dX12_truthOf_142 (⟨gt_manys, gt_reals, gt_factsOf, gt_possible, gt_pairs, gt_pile, rfl, hnb_m_manys_8, hnb_m_reals_8, hpg_8, hwf_8, hk_manys, hk_reals, (by have h9 : li = 0 := (by omega); rw [h9] at hbs; show BS _ (vW _ _ _ (aftL _)); rw [aft_esl (S := (rT f_actMany f_actOf f_whom f_afterOf f_afters k)) (show cN f_afters k ≤ 2 by omega), ← hoth pa (by omega) (Or.inl (Nat.le_refl _))]; exact hbs), hoth⟩)
                · have zc_28 : ((pa + li : Nat) : Int) > ((pa : Nat) : Int) := i_nle (nI_toInt (n := pa + li) (by omega)) (nI_toInt (n := pa) (by omega)) c_28
                  obtain ⟨l3, rfl⟩ : ∃ z, li = z + 1 := ⟨li - 1, by omega⟩
                  have hes3 := (hb_afterOf (2 * k + l3) (by omega)).2
                  refine ww_iinc (j := 2) (v := (nI ((pa + (l3 + 1)) - 1))) (lv' := [(3, .int (nI ((pa + (l3 + 1)) - 1))), (5, .int so2), (4, .int (nI la)), (0, .ref hm), (1, .int (nI k)), (2, .int (nI pa))]) C dX12_truthOf_113 rfl (nI_subc (a := (pa + (l3 + 1))) (c := 1) (by omega) rfl) rfl rfl ?_
                  refine ww_aload_n C dX12_truthOf_116 3 rfl rfl ?_
                  refine ww_aload_n C dX12_truthOf_117 3 rfl rfl ?_
                  refine ww_get C fg_X12_46 0 rfl rfl dX12_truthOf_118 ?_
                  refine ww_iconst (v := 2) C dX12_truthOf_121 rfl ?_
                  refine ww_iload_n C dX12_truthOf_122 4 rfl rfl ?_
                  refine ww_imul (v := (nI (2 * k))) C dX12_truthOf_123 (pk_mul 2 k) ?_
                  refine ww_iload_n C dX12_truthOf_124 0 rfl rfl ?_
                  refine ww_iadd (v := (nI ((2 * k) + ((pa + (l3 + 1)) - 1)))) C dX12_truthOf_125 (nI_add (2 * k) ((pa + (l3 + 1)) - 1)) ?_
                  refine ww_iload_n C dX12_truthOf_126 5 rfl rfl ?_
                  refine ww_isub (v := (nI (((2 * k) + ((pa + (l3 + 1)) - 1)) - pa))) C dX12_truthOf_127 (pk_sub (a := ((2 * k) + ((pa + (l3 + 1)) - 1))) (b := pa) (by omega)) ?_
                  have hbx_29 := (hb_afterOf (((2 * k) + ((pa + (l3 + 1)) - 1)) - pa) (by omega)).2
                  refine ww_iald (v := (nI (cN f_afterOf (((2 * k) + ((pa + (l3 + 1)) - 1)) - pa)))) C 17 rfl (vp_in_nI (by omega) (by omega)) (ldn (by omega) (hb_afterOf (((2 * k) + ((pa + (l3 + 1)) - 1)) - pa) (by omega)).1) dX12_truthOf_128 ?_
                  refine ww_iload_n C dX12_truthOf_129 0 rfl rfl ?_
                  refine ww_iload C dX12_truthOf_130 1 rfl ?_
                  have hE : cN f_afterOf (2 * k + (pa + (l3 + 1) - 1) - pa) = cN f_afterOf (2 * k + l3) := congrArg (cN f_afterOf) (by omega)
                  have hE1 := hhp (cN f_afterOf (2 * k + l3)) (by omega)
                  have hE2 : 0 < cN f_caseMany (cN f_afterOf (2 * k + l3)) := (hchn l3 (by omega)).1
                  refine ww_ci (wr := [(m_reals, .inl (E.2.1 1, 18, .inl gt_reals)), (m_factsOf, .inl (E.2.1 1, 432, .inl gt_factsOf)), (m_possible, .inl (E.2.1 1, 1728, .inl gt_possible)), (m_pile, .inl (E.2.1 1, 34, .inl gt_pile)), (m_hasIf, .inl (E.2.1 3, 16, .inl f_hasIf)), (m_becomes, .inl (E.2.1 1, 16, .inl f_becomes)), (m_goneOf, .inl (E.2.1 1, 16, .inl f_goneOf)), (m_heard, .inl (E.2.1 1, 64, .inl f_heard)), (m_actMany, .inl (E.2.1 1, 25, .inl f_actMany)), (m_actOf, .inl (E.2.1 1, 800, .inl f_actOf)), (m_whom, .inl (E.2.1 1, 800, .inl f_whom)), (m_afters, .inl (E.2.1 1, 9, .inl f_afters)), (m_afterOf, .inl (E.2.1 1, 18, .inl f_afterOf))]) (k' := 0) (n' := 0) C (run_V (As := [.int (nI (cN f_afterOf (((2 * k) + ((pa + (l3 + 1)) - 1)) - pa))), .int (nI ((pa + (l3 + 1)) - 1)), .int so2]) (rest := []) C (r_broughtBack X.2.1 E ro hm (cN f_afterOf (((2 * k) + ((pa + (l3 + 1)) - 1)) - pa)) ((pa + (l3 + 1)) - 1) so2 m_manys m_reals m_factsOf m_possible q_undos q_models m_tape q_taped q_fault q_wrong q_wrongAt q_spot q_place q_token q_value m_ends m_letters m_actOf m_whom m_actMany m_tokens m_afters m_afterOf q_counted m_pile m_caseMany m_happen m_hasIf m_becomes m_goneOf m_heard m_pairs m_heaps q_rounds q_heapMany m_led m_newAt m_knowing m_firsts q_people m_secrets m_tried m_lanes m_lengths m_cells gt_manys f_caseMany f_happen gt_pairs (lyP ((pgs gt_manys gt_reals gt_factsOf gt_possible) (pa + l3)) ((rEv f_caseMany f_happen f_hasIf f_actMany f_actOf f_whom f_becomes f_goneOf f_heard) (cN f_afterOf (2 * k + l3)))) hnb_m_manys_8 hb_caseMany hb_happen (by omega) (by omega) (by rw [hE]; exact (hchn l3 (by omega)).2.2.2) (fun u j _ hj h4 => by rw [hE] at hj; exact lyP_no hj h4) (hchn l3 (by omega)).2.1 (by rw [hE]; omega)) mi_X12_broughtBack wl_X12_270 rfl 0 12 rfl rfl rfl rfl rfl dX12_truthOf_132) (roK hro) [0, 1, 7, 8, 5] [2, 3, 4, 6, 9, 10, 11, 12, 13, 14, 15, 16, 17] rfl rfl rfl rfl (fun r_30 uz hw => ?_)
                  refine an1 hw ?_
                  clear hw
                  intro he_32 hw
                  have h_31 := hw
                  clear hw
                  subst he_32
                  refine ww_eq (ws' := [(m_reals, .inl (E.2.1 1, 18, .inl gt_reals)), (m_factsOf, .inl (E.2.1 1, 432, .inl gt_factsOf)), (m_possible, .inl (E.2.1 1, 1728, .inl gt_possible)), (m_pile, .inl (E.2.1 1, 34, .inl gt_pile)), (m_hasIf, .inl (E.2.1 3, 16, .inl f_hasIf)), (m_becomes, .inl (E.2.1 1, 16, .inl f_becomes)), (m_goneOf, .inl (E.2.1 1, 16, .inl f_goneOf)), (m_heard, .inl (E.2.1 1, 64, .inl f_heard)), (m_actMany, .inl (E.2.1 1, 25, .inl f_actMany)), (m_actOf, .inl (E.2.1 1, 800, .inl f_actOf)), (m_whom, .inl (E.2.1 1, 800, .inl f_whom)), (m_afters, .inl (E.2.1 1, 9, .inl f_afters)), (m_afterOf, .inl (E.2.1 1, 18, .inl f_afterOf)), (hm, .inr (12, [.ref m_manys, .ref m_reals, .ref m_factsOf, .ref m_possible, .int (nI q_undos), .int (nI q_models), .ref m_tape, .int (nI q_taped), .int q_fault, .int q_wrong, .int q_wrongAt, .int q_spot, .int q_place, .int q_token, .int q_value, .ref m_ends, .ref m_letters, .ref m_actOf, .ref m_whom, .ref m_actMany, .ref m_tokens, .ref m_afters, .ref m_afterOf, .int q_counted, .ref m_pile, .ref m_caseMany, .ref m_happen, .ref m_hasIf, .ref m_becomes, .ref m_goneOf, .ref m_heard, .ref m_pairs, .ref m_heaps, .int q_rounds, .int q_heapMany, .ref m_led, .ref m_newAt, .ref m_knowing, .ref m_firsts, .int (nI q_people), .ref m_secrets, .ref m_tried, .ref m_lanes, .ref m_lengths, .ref m_cells])), (m_manys, .inl (E.2.1 1, 18, .inl gt_manys)), (m_caseMany, .inl (E.2.1 1, 4, .inl f_caseMany)), (m_happen, .inl (E.2.1 1, 4, .inl f_happen)), (m_pairs, .inl (E.2.1 1, 576, .inl gt_pairs))]) ?_ rfl rfl rfl
                  refine ww_istore (lv' := [(5, .int r_30), (3, .int (nI ((pa + (l3 + 1)) - 1))), (4, .int (nI la)), (0, .ref hm), (1, .int (nI k)), (2, .int (nI pa))]) C dX12_truthOf_135 rfl rfl ?_
                  refine ww_goto (tgt := 108) C dX12_truthOf_137 (by decide) ?_
                  exact ww_lv [0, 2, 1, 3, 4, 5] rfl (ww_sub [13, 14, 0, 1, 2, 17, 3, 15, 16, 4, 5, 6, 7, 8, 9, 10, 11, 12] rfl rfl (ih_108 l3 r_30 (by omega) (by rw [show cN f_afters k - l3 = (cN f_afters k - (l3 + 1)) + 1 by omega]; exact vW_y (hchn l3 (by omega)).2.1 (show cN f_happen (cN f_afterOf (2 * k + l3)) < 4 by have := (hb_happen (cN f_afterOf (2 * k + l3)) (by omega)).2; omega) (by have h9 := hbs; rw [show pa + (l3 + 1) = pa + l3 + 1 from rfl, (hchn l3 (by omega)).2.2.1] at h9; exact h9) (by have h9 := h_31; rw [hE] at h9; exact h9)) (by omega)))
            exact ww_lv [0, 1, 2, 3, 4, 5] rfl (ww_sub [0, 1, 2, 3, 4, 5, 6, 7, 8, 9, 10, 11, 12, 13, 14, 15, 16, 17] rfl rfl (loop_108 _ ln r_25 (by omega) (by rw [show cN f_afters k - ln = (cN f_afters k - (ln + 1)) + 1 by have h9 := (hl0 (by omega)).1; omega]; exact vW_stop (hl0 (by omega)).2 h_26) (Nat.lt_succ_self _)))
          · have zc_23 : ((la : Nat) : Int) ≠ 0 := i_ne (nI_toInt (n := la) (by omega)) rfl c_23
            omega
        · have zc_22 : ((la : Nat) : Int) ≠ 0 := i_ne (nI_toInt (n := la) (by omega)) rfl c_22
          have h9_ : ln = a1 := hl1 (by omega)
          subst h9_
          refine ww_aload_n C dX12_truthOf_24 3 rfl rfl ?_
          refine ww_get C fg_X12_46 0 rfl rfl dX12_truthOf_25 ?_
          refine ww_iconst (v := 2) C dX12_truthOf_28 rfl ?_
          refine ww_iload_n C dX12_truthOf_29 4 rfl rfl ?_
          refine ww_imul (v := (nI (2 * k))) C dX12_truthOf_30 (pk_mul 2 k) ?_
          refine ww_iload C dX12_truthOf_31 0 rfl ?_
          refine ww_iadd (v := (nI ((2 * k) + ln))) C dX12_truthOf_33 (nI_add (2 * k) ln) ?_
          have hbx_33 := (hb_afterOf ((2 * k) + ln) (by omega)).2
          refine ww_iald (v := (nI (cN f_afterOf ((2 * k) + ln)))) C 17 rfl (vp_in_nI (by omega) (by omega)) (ldn (by omega) (hb_afterOf ((2 * k) + ln) (by omega)).1) dX12_truthOf_34 ?_
          refine ww_istore (lv' := [(6, .int (nI (cN f_afterOf ((2 * k) + ln)))), (5, .int (nI ln)), (4, .int (nI la)), (3, .int (nI (pa + ln))), (0, .ref hm), (1, .int (nI k)), (2, .int (nI pa))]) C dX12_truthOf_35 rfl rfl ?_
          refine ww_aload_n C dX12_truthOf_37 4 rfl rfl ?_
          refine ww_get C fg_X12_52 0 rfl rfl dX12_truthOf_38 ?_
          refine ww_iload C dX12_truthOf_41 0 rfl ?_
          have hbx_34 := (hb_caseMany (cN f_afterOf ((2 * k) + ln)) (by omega)).2
          refine ww_iald (v := (nI (cN f_caseMany (cN f_afterOf ((2 * k) + ln))))) C 7 rfl (vp_in_nI (by omega) (by omega)) (ldn (by omega) (hb_caseMany (cN f_afterOf ((2 * k) + ln)) (by omega)).1) dX12_truthOf_43 ?_
          refine ww_if_le (tgt := 61) C dX12_truthOf_44 (by decide) (fun c_35 => ?_) (fun c_35 => ?_)
          · have zc_35 : ((cN f_caseMany (cN f_afterOf ((2 * k) + ln)) : Nat) : Int) ≤ 0 := i_le (nI_toInt (n := cN f_caseMany (cN f_afterOf ((2 * k) + ln))) (by omega)) rfl c_35
            refine ww_iconst (v := 0) C dX12_truthOf_61 rfl ?_
            refine ww_istore (lv' := [(4, .int 0), (6, .int (nI (cN f_afterOf ((2 * k) + ln)))), (5, .int (nI ln)), (3, .int (nI (pa + ln))), (0, .ref hm), (1, .int (nI k)), (2, .int (nI pa))]) C dX12_truthOf_62 rfl rfl ?_
            refine ww_iload_n C dX12_truthOf_64 3 rfl rfl ?_
            refine ww_iload C dX12_truthOf_65 0 rfl ?_
            refine ww_if_eq_t (tgt := 74) C dX12_truthOf_67 (by decide) (rfl) ?_
            refine ww_iconst (v := 0) C dX12_truthOf_74 rfl ?_
            refine ww_iadd (v := (nI (pa + ln))) C dX12_truthOf_75 (nI_add (pa + ln) 0) ?_
            refine ww_istore_n (lv' := [(3, .int (nI (pa + ln))), (4, .int 0), (6, .int (nI (cN f_afterOf ((2 * k) + ln)))), (5, .int (nI ln)), (0, .ref hm), (1, .int (nI k)), (2, .int (nI pa))]) C dX12_truthOf_76 rfl rfl rfl ?_
            refine ww_iinc (j := 3) (v := (nI (ln + 1))) (lv' := [(5, .int (nI (ln + 1))), (3, .int (nI (pa + ln))), (4, .int 0), (6, .int (nI (cN f_afterOf ((2 * k) + ln)))), (0, .ref hm), (1, .int (nI k)), (2, .int (nI pa))]) C dX12_truthOf_77 rfl (nI_add ln 1) rfl rfl ?_
            refine ww_goto (tgt := 8) C dX12_truthOf_80 (by decide) ?_
            exact ww_lv [0, 2, 1, 4, 5, 6] rfl (ww_sub [0, 1, 2, 3, 4, 5, 6, 7, 8, 9, 10, 11, 12, 13, 14, 15, 16, 17] rfl rfl (ih_8 ln 0 (ln + 1) gt_manys gt_reals gt_factsOf gt_possible gt_pairs gt_pile (by omega) (by omega) (by omega) (by omega) (fun _ => ⟨by omega, Or.inl (show cN f_caseMany (cN f_afterOf (2 * k + ln)) = 0 by omega)⟩) hchn hoth hk_manys hk_reals hnb_m_manys_8 hnb_m_reals_8 hpg_8 hwf_8 (by omega)))
          · have zc_35 : ((cN f_caseMany (cN f_afterOf ((2 * k) + ln)) : Nat) : Int) > 0 := i_nle (nI_toInt (n := cN f_caseMany (cN f_afterOf ((2 * k) + ln))) (by omega)) rfl c_35
            refine ww_aload_n C dX12_truthOf_47 4 rfl rfl ?_
            refine ww_iload C dX12_truthOf_48 0 rfl ?_
            refine ww_iload_n C dX12_truthOf_50 3 rfl rfl ?_
            refine ww_ci (wr := [(m_afters, .inl (E.2.1 1, 9, .inl f_afters)), (m_afterOf, .inl (E.2.1 1, 18, .inl f_afterOf))]) (k' := 0) (n' := 0) C (run_V (As := [.int (nI (cN f_afterOf ((2 * k) + ln))), .int (nI (pa + ln))]) (rest := []) C (r_laid X.2.1 E ro hm (cN f_afterOf ((2 * k) + ln)) (pa + ln) m_manys m_reals m_factsOf m_possible q_undos q_models m_tape q_taped q_fault q_wrong q_wrongAt q_spot q_place q_token q_value m_ends m_letters m_actOf m_whom m_actMany m_tokens m_afters m_afterOf q_counted m_pile m_caseMany m_happen m_hasIf m_becomes m_goneOf m_heard m_pairs m_heaps q_rounds q_heapMany m_led m_newAt m_knowing m_firsts q_people m_secrets m_tried m_lanes m_lengths m_cells gt_manys gt_reals gt_factsOf gt_possible gt_pairs gt_pile f_caseMany f_happen f_hasIf f_becomes f_goneOf f_heard f_actMany f_actOf f_whom hnb_m_manys_8 hnb_m_reals_8 hpg_8 hwf_8 hb_caseMany hb_happen hb_actMany hhp hsv (by omega) (by omega) (by omega) hWI) mi_X12_laid wl_X12_267 rfl 0 12 rfl rfl rfl rfl rfl dX12_truthOf_51) (roK hro) [0, 1, 2, 3, 4, 5, 6, 7, 8, 9, 10, 11, 12, 13, 14, 15] [16, 17] rfl rfl rfl rfl (fun r_36 uz hw => ?_)
            rcases hw with hw | hw
            · refine ex6 hw ?_
              clear hw
              intro f_manysz_37 f_realsz_38 f_factsOfz_39 f_possiblez_40 f_pairsz_41 f_pilez_42 hw
              refine an8 hw ?_
              clear hw
              intro he_52 he_53 h_43 h_44 h_45 h_46 h_47 h_48 hw
              refine an2 hw ?_
              clear hw
              intro h_49 h_50 hw
              have h_51 := hw
              clear hw
              have he_52 := he_52.symm
              subst he_52
              subst he_53
              refine ww_eq (ws' := [(m_afters, .inl (E.2.1 1, 9, .inl f_afters)), (m_afterOf, .inl (E.2.1 1, 18, .inl f_afterOf)), (hm, .inr (12, [.ref m_manys, .ref m_reals, .ref m_factsOf, .ref m_possible, .int (nI q_undos), .int (nI q_models), .ref m_tape, .int (nI q_taped), .int q_fault, .int q_wrong, .int q_wrongAt, .int q_spot, .int q_place, .int q_token, .int q_value, .ref m_ends, .ref m_letters, .ref m_actOf, .ref m_whom, .ref m_actMany, .ref m_tokens, .ref m_afters, .ref m_afterOf, .int q_counted, .ref m_pile, .ref m_caseMany, .ref m_happen, .ref m_hasIf, .ref m_becomes, .ref m_goneOf, .ref m_heard, .ref m_pairs, .ref m_heaps, .int q_rounds, .int q_heapMany, .ref m_led, .ref m_newAt, .ref m_knowing, .ref m_firsts, .int (nI q_people), .ref m_secrets, .ref m_tried, .ref m_lanes, .ref m_lengths, .ref m_cells])), (m_manys, .inl (E.2.1 1, 18, .inl f_manysz_37)), (m_reals, .inl (E.2.1 1, 18, .inl f_realsz_38)), (m_factsOf, .inl (E.2.1 1, 432, .inl f_factsOfz_39)), (m_possible, .inl (E.2.1 1, 1728, .inl f_possiblez_40)), (m_pairs, .inl (E.2.1 1, 576, .inl f_pairsz_41)), (m_pile, .inl (E.2.1 1, 34, .inl f_pilez_42)), (m_caseMany, .inl (E.2.1 1, 4, .inl f_caseMany)), (m_happen, .inl (E.2.1 1, 4, .inl f_happen)), (m_hasIf, .inl (E.2.1 3, 16, .inl f_hasIf)), (m_becomes, .inl (E.2.1 1, 16, .inl f_becomes)), (m_goneOf, .inl (E.2.1 1, 16, .inl f_goneOf)), (m_heard, .inl (E.2.1 1, 64, .inl f_heard)), (m_actMany, .inl (E.2.1 1, 25, .inl f_actMany)), (m_actOf, .inl (E.2.1 1, 800, .inl f_actOf)), (m_whom, .inl (E.2.1 1, 800, .inl f_whom))]) ?_ rfl rfl rfl
              refine ww_if_lt_t (tgt := 61) C dX12_truthOf_54 (by decide) (by decide) ?_
              refine ww_iconst (v := 0) C dX12_truthOf_61 rfl ?_
              refine ww_istore (lv' := [(4, .int 0), (6, .int (nI (cN f_afterOf ((2 * k) + ln)))), (5, .int (nI ln)), (3, .int (nI (pa + ln))), (0, .ref hm), (1, .int (nI k)), (2, .int (nI pa))]) C dX12_truthOf_62 rfl rfl ?_
              refine ww_iload_n C dX12_truthOf_64 3 rfl rfl ?_
              refine ww_iload C dX12_truthOf_65 0 rfl ?_
              refine ww_if_eq_t (tgt := 74) C dX12_truthOf_67 (by decide) (rfl) ?_
              refine ww_iconst (v := 0) C dX12_truthOf_74 rfl ?_
              refine ww_iadd (v := (nI (pa + ln))) C dX12_truthOf_75 (nI_add (pa + ln) 0) ?_
              refine ww_istore_n (lv' := [(3, .int (nI (pa + ln))), (4, .int 0), (6, .int (nI (cN f_afterOf ((2 * k) + ln)))), (5, .int (nI ln)), (0, .ref hm), (1, .int (nI k)), (2, .int (nI pa))]) C dX12_truthOf_76 rfl rfl rfl ?_
              refine ww_iinc (j := 3) (v := (nI (ln + 1))) (lv' := [(5, .int (nI (ln + 1))), (3, .int (nI (pa + ln))), (4, .int 0), (6, .int (nI (cN f_afterOf ((2 * k) + ln)))), (0, .ref hm), (1, .int (nI k)), (2, .int (nI pa))]) C dX12_truthOf_77 rfl (nI_add ln 1) rfl rfl ?_
              refine ww_goto (tgt := 8) C dX12_truthOf_80 (by decide) ?_
              exact ww_lv [0, 2, 1, 4, 5, 6] rfl (ww_sub [2, 3, 4, 5, 6, 7, 8, 9, 10, 11, 12, 13, 14, 15, 16, 17, 0, 1] rfl rfl (ih_8 ln 0 (ln + 1) f_manysz_37 f_realsz_38 f_factsOfz_39 f_possiblez_40 f_pairsz_41 f_pilez_42 (by omega) (by omega) (by omega) (by omega) (fun _ => ⟨by omega, Or.inr (by rw [h_49 (pa + ln) (by omega) (by omega)]; exact h_51)⟩) (CHN.keep hchn h_49 h_50 (fun p hp => (hnb_m_manys_8 p hp).2) (fun j hj => (hb_caseMany _ (by have := (hb_afterOf (2 * k + j) (by omega)).2; omega)).2) (by omega) (by omega)) (KPA.oth hoth h_49 (by omega) (by omega)) (KP.tr hk_manys (KP.up h_47 (by omega))) (KP.tr hk_reals (KP.up h_48 (by omega))) h_43 h_44 h_45 h_46 (by omega)))
            · refine ex7 hw ?_
              clear hw
              intro mz_54 f_manysz_55 f_realsz_56 f_factsOfz_57 f_possiblez_58 f_pairsz_59 f_pilez_60 hw
              refine an8 hw ?_
              clear hw
              intro he_73 he_74 h_61 h_62 h_63 h_64 h_65 h_66 hw
              refine an5 hw ?_
              clear hw
              intro h_67 h_68 h_69 h_70 h_71 hw
              have h_72 := hw
              clear hw
              have he_73 := he_73.symm
              subst he_73
              subst he_74
              refine ww_eq (ws' := [(m_afters, .inl (E.2.1 1, 9, .inl f_afters)), (m_afterOf, .inl (E.2.1 1, 18, .inl f_afterOf)), (hm, .inr (12, [.ref m_manys, .ref m_reals, .ref m_factsOf, .ref m_possible, .int (nI q_undos), .int (nI q_models), .ref m_tape, .int (nI q_taped), .int q_fault, .int q_wrong, .int q_wrongAt, .int q_spot, .int q_place, .int q_token, .int q_value, .ref m_ends, .ref m_letters, .ref m_actOf, .ref m_whom, .ref m_actMany, .ref m_tokens, .ref m_afters, .ref m_afterOf, .int q_counted, .ref m_pile, .ref m_caseMany, .ref m_happen, .ref m_hasIf, .ref m_becomes, .ref m_goneOf, .ref m_heard, .ref m_pairs, .ref m_heaps, .int q_rounds, .int q_heapMany, .ref m_led, .ref m_newAt, .ref m_knowing, .ref m_firsts, .int (nI q_people), .ref m_secrets, .ref m_tried, .ref m_lanes, .ref m_lengths, .ref m_cells])), (m_manys, .inl (E.2.1 1, 18, .inl f_manysz_55)), (m_reals, .inl (E.2.1 1, 18, .inl f_realsz_56)), (m_factsOf, .inl (E.2.1 1, 432, .inl f_factsOfz_57)), (m_possible, .inl (E.2.1 1, 1728, .inl f_possiblez_58)), (m_pairs, .inl (E.2.1 1, 576, .inl f_pairsz_59)), (m_pile, .inl (E.2.1 1, 34, .inl f_pilez_60)), (m_caseMany, .inl (E.2.1 1, 4, .inl f_caseMany)), (m_happen, .inl (E.2.1 1, 4, .inl f_happen)), (m_hasIf, .inl (E.2.1 3, 16, .inl f_hasIf)), (m_becomes, .inl (E.2.1 1, 16, .inl f_becomes)), (m_goneOf, .inl (E.2.1 1, 16, .inl f_goneOf)), (m_heard, .inl (E.2.1 1, 64, .inl f_heard)), (m_actMany, .inl (E.2.1 1, 25, .inl f_actMany)), (m_actOf, .inl (E.2.1 1, 800, .inl f_actOf)), (m_whom, .inl (E.2.1 1, 800, .inl f_whom))]) ?_ rfl rfl rfl
              refine ww_if_lt (tgt := 61) C dX12_truthOf_54 (by decide) (fun c_75 => ?_) (fun c_75 => ?_)
              · have zc_75 : ((mz_54 : Nat) : Int) < 0 := i_lt (nI_toInt (n := mz_54) (by omega)) rfl c_75
                omega
              · have zc_75 : ((mz_54 : Nat) : Int) ≥ 0 := i_nlt (nI_toInt (n := mz_54) (by omega)) rfl c_75
                refine ww_iconst (v := 1) C dX12_truthOf_57 rfl ?_
                refine ww_goto (tgt := 62) C dX12_truthOf_58 (by decide) ?_
                refine ww_istore (lv' := [(4, .int 1), (6, .int (nI (cN f_afterOf ((2 * k) + ln)))), (5, .int (nI ln)), (3, .int (nI (pa + ln))), (0, .ref hm), (1, .int (nI k)), (2, .int (nI pa))]) C dX12_truthOf_62 rfl rfl ?_
                refine ww_iload_n C dX12_truthOf_64 3 rfl rfl ?_
                refine ww_iload C dX12_truthOf_65 0 rfl ?_
                refine ww_if_eq_f (tgt := 74) C dX12_truthOf_67 (by decide) (by decide) ?_
                refine ww_iconst (v := 1) C dX12_truthOf_70 rfl ?_
                refine ww_goto (tgt := 75) C dX12_truthOf_71 (by decide) ?_
                refine ww_iadd (v := (nI ((pa + ln) + 1))) C dX12_truthOf_75 (nI_add (pa + ln) 1) ?_
                refine ww_istore_n (lv' := [(3, .int (nI ((pa + ln) + 1))), (4, .int 1), (6, .int (nI (cN f_afterOf ((2 * k) + ln)))), (5, .int (nI ln)), (0, .ref hm), (1, .int (nI k)), (2, .int (nI pa))]) C dX12_truthOf_76 rfl rfl rfl ?_
                refine ww_iinc (j := 3) (v := (nI (ln + 1))) (lv' := [(5, .int (nI (ln + 1))), (3, .int (nI ((pa + ln) + 1))), (4, .int 1), (6, .int (nI (cN f_afterOf ((2 * k) + ln)))), (0, .ref hm), (1, .int (nI k)), (2, .int (nI pa))]) C dX12_truthOf_77 rfl (nI_add ln 1) rfl rfl ?_
                refine ww_goto (tgt := 8) C dX12_truthOf_80 (by decide) ?_
                exact ww_lv [0, 2, 1, 4, 5, 6] rfl (ww_sub [2, 3, 4, 5, 6, 7, 8, 9, 10, 11, 12, 13, 14, 15, 16, 17, 0, 1] rfl rfl (ih_8 (ln + 1) 1 (ln + 1) f_manysz_55 f_realsz_56 f_factsOfz_57 f_possiblez_58 f_pairsz_59 f_pilez_60 (by omega) (by omega) (by omega) (by omega) (fun h9 => absurd h9 (by decide)) (CHN.ext hchn h_67 h_68 (fun p hp => (hnb_m_manys_8 p hp).2) (fun j hj => (hb_caseMany _ (by have := (hb_afterOf (2 * k + j) (by omega)).2; omega)).2) (by omega) (by omega) (show 0 < cN f_caseMany (cN f_afterOf (2 * k + ln)) by omega) (by rw [h_69]; omega) h_70 h_71) (KPA.oth hoth h_67 (by omega) (by omega)) (KP.tr hk_manys (KP.up h_65 (by omega))) (KP.tr hk_reals (KP.up h_66 (by omega))) h_61 h_62 h_63 h_64 (by omega)))
  exact ww_lv [0, 1, 2, 3, 4, 5] rfl (ww_sub [0, 1, 2, 3, 4, 5, 6, 7, 8, 9, 10, 11, 12, 13, 14, 15, 16, 17] rfl rfl (loop_8 _ 0 1 0 f_manys f_reals f_factsOf f_possible f_pairs f_pile (by omega) (by omega) (by omega) (by omega) (fun h9 => absurd h9 (by decide)) CHN.nil KPA.rf KP.rf KP.rf hb_manys hb_reals hpg hwf (Nat.lt_succ_self _)))
