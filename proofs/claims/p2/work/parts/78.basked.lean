/-! turns, as the reference takes them -/
def rTk (ft : Nat → Int32) : Nat → Option SVal := fun k => if 0 < (ft k).toInt then some sv0 else none
theorem rTk_n {ft : Nat → Int32} {j : Nat} (hj : j ≤ 7) (h : (nI j).toInt < 0 ∨ 7 < (nI j).toInt ∨ (ft (nI j).toNatClampNeg).toInt ≤ 0) : rTk ft j = none := by
  rw [nI_toInt (by omega), nI_clamp (by omega)] at h
  exact if_neg (by omega)
theorem rTk_s {ft : Nat → Int32} {j : Nat} (hj : j ≤ 7) (h : 0 < (ft (nI j).toNatClampNeg).toInt) : rTk ft j = some sv0 := by
  rw [nI_clamp (by omega)] at h
  exact if_pos h
theorem TKS.cg {T T' : Nat → Option SVal} {gr sg : Int32} {i : Nat} (h : ∀ k, k < 8 → (T k).isSome = (T' k).isSome) (h2 : TKS T gr sg i) : TKS T' gr sg i := fun k hk hg => by
  have h3 : sgI sg k < 8 := by
    unfold sgI
    obtain ⟨j, hj, e⟩ := pk_andE (sg >>> (nI (3 * k) &&& 31)) (m := 7) 3 rfl
    rw [e, nI_clamp (by omega)]; omega
  rw [← h _ h3]; exact h2 k hk hg
theorem canT_cg {T T' : Nat → Option SVal} {v0 v1 : Int32} (h : ∀ k, k < 8 → (T k).isSome = (T' k).isSome) (h2 : canT T v0 v1) : canT T' v0 v1 := ⟨h2.1, h2.2.1, h2.2.2.1, h2.2.2.2.1, h2.2.2.2.2.cg h⟩
theorem rTk_T {ft fm fa fw fo fn : Nat → Int32} : ∀ k, k < 8 → (rTk ft k).isSome = (rTT ft fm fa fw fo fn k).isSome := fun k _ => by
  unfold rTk rTT
  by_cases q : 0 < (ft k).toInt
  · rw [if_pos q, if_pos q]; rfl
  · rw [if_neg q, if_neg q]
theorem evK_9 {gr so r : Int32} {m : AM} {P : Nat → Bool} (h : BS r (evK 9 gr m (bt so))) (hP : BS so P) : BS r (vWh m gr P) := (evK_b h hP).cg (fun w _ => by
  unfold evK KB vWh; rw [if_pos (by decide)])
section STR
variable {m : AM} {ev : Nat → EVl} {T : Nat → Option SVal} {gr sg so r z q wh : Int32} {k : Nat}
theorem stS_0 (h : BS so (stS m ev T gr sg k)) (ha : askd T gr sg k = false) : BS so (stS m ev T gr sg (k + 1)) := h.cg (fun w _ => by
  show stS m ev T gr sg k w = (stS m ev T gr sg k w && (!askd T gr sg k || _))
  rw [ha]; exact (Bool.and_true _).symm)
theorem stS_y (h : BS so (stS m ev T gr sg k)) (ha : askd T gr sg k = true) (hr : BS r (aKn m ev T sg k)) (h32 : m.2.1 < 32) (hb : bt r m.2.1 = true) (e : so &&& r = z) : BS z (stS m ev T gr sg (k + 1)) := (BS.and h hr e).cg (fun w _ => by
  show (stS m ev T gr sg k w && aKn m ev T sg k w) = (stS m ev T gr sg k w && (!askd T gr sg k || (if aKn m ev T sg k m.2.1 = true then aKn m ev T sg k w else !aKn m ev T sg k w)))
  rw [ha, if_pos (by rw [← hr m.2.1 h32]; exact hb)]; rfl)
theorem stS_n (h : BS so (stS m ev T gr sg k)) (ha : askd T gr sg k = true) (hr : BS r (aKn m ev T sg k)) (h32 : m.2.1 < 32) (hb : bt r m.2.1 = false) (e1 : r ^^^ (-1 : Int32) = q) (e : so &&& q = z) : BS z (stS m ev T gr sg (k + 1)) := (BS.and h (BS.not hr e1) e).cg (fun w _ => by
  show (stS m ev T gr sg k w && !aKn m ev T sg k w) = (stS m ev T gr sg k w && (!askd T gr sg k || (if aKn m ev T sg k m.2.1 = true then aKn m ev T sg k w else !aKn m ev T sg k w)))
  rw [ha, if_neg (by rw [← hr m.2.1 h32, hb]; exact Bool.false_ne_true)]; rfl)
theorem knS_0 (h : BS wh (knS m ev T gr sg k)) (ha : askd T gr sg k = false) : BS wh (knS m ev T gr sg (k + 1)) := h.cg (fun i _ => by
  show (decide (i < k) && (askd T gr sg i && aKn m ev T sg i m.2.1)) = (decide (i < k + 1) && (askd T gr sg i && aKn m ev T sg i m.2.1))
  by_cases c : i = k
  · rw [c, ha, Bool.false_and, Bool.and_false, Bool.and_false]
  · rw [dec_cg (show i < k ↔ i < k + 1 by omega)])
theorem knS_b {s y : Int32} {j : Nat} (h : BS wh (knS m ev T gr sg k)) (hk : k ≤ 30) (ha : askd T gr sg k = true) (hr : BS r (aKn m ev T sg k)) (h32 : m.2.1 < 32) (e1 : r >>> (nI m.2.1 &&& 31) = s) (e2 : s &&& 1 = nI j) (hj : j < 2) (e3 : nI j <<< (nI k &&& 31) = y) (e : wh ||| y = z) : BS z (knS m ev T gr sg (k + 1)) := fun i hi => by
  have h0 : bt wh i = (decide (i < k) && (askd T gr sg i && aKn m ev T sg i m.2.1)) := h i hi
  rw [← e, b_or, h0]
  show _ = (decide (i < k + 1) && (askd T gr sg i && aKn m ev T sg i m.2.1))
  have hy : bt y i = (decide (i = k) && decide (j = 1)) := by
    rcases (show j = 0 ∨ j = 1 by omega) with q | q
    · subst q; rw [← e3, z_shl k (by omega), b_0]; exact (Bool.and_false _).symm
    · subst q
      have h1 := one_b hk i hi
      rw [← e3]
      exact h1.trans (Bool.and_true _).symm
  have hv : aKn m ev T sg k m.2.1 = decide (j = 1) := by
    rw [← hr m.2.1 h32]
    rcases (show j = 0 ∨ j = 1 by omega) with q | q
    · rw [hasb_0 h32 e1 e2 q, q]; rfl
    · rw [hasb_1 h32 e1 e2 q, q]; rfl
  rw [hy]
  by_cases c : i = k
  · rw [c, hv, ha, decide_eq_false (Nat.lt_irrefl k), decide_eq_true rfl, decide_eq_true (show k < k + 1 by omega), Bool.false_and, Bool.false_or]
    rfl
  · rw [decide_eq_false c, Bool.false_and, Bool.or_false, dec_cg (show i < k ↔ i < k + 1 by omega)]
end STR
theorem dX12_areAsked_0 : decode cX12_areAsked 0 = .ok (.iload_n 1, 1) := by decide +kernel
theorem dX12_areAsked_1 : decode cX12_areAsked 1 = .ok (.i2l, 1) := by decide +kernel
theorem dX12_areAsked_2 : decode cX12_areAsked 2 = .ok (.lconst 1, 1) := by decide +kernel
theorem dX12_areAsked_3 : decode cX12_areAsked 3 = .ok (.ldc2_w 119, 3) := by decide +kernel
theorem dX12_areAsked_6 : decode cX12_areAsked 6 = .ok (.invokestatic 115, 3) := by decide +kernel
theorem dX12_areAsked_9 : decode cX12_areAsked 9 = .ok (.ifCond .eq 19, 3) := by decide +kernel
theorem dX12_areAsked_12 : decode cX12_areAsked 12 = .ok (.iload_n 2, 1) := by decide +kernel
theorem dX12_areAsked_13 : decode cX12_areAsked 13 = .ok (.i2l, 1) := by decide +kernel
theorem dX12_areAsked_14 : decode cX12_areAsked 14 = .ok (.lconst 0, 1) := by decide +kernel
theorem dX12_areAsked_15 : decode cX12_areAsked 15 = .ok (.ldc2_w 310, 3) := by decide +kernel
theorem wv_X12_310 : Cond.constantLong RX12 310 4095 ∈ TB := tbm (tq7 (List.mem_of_getElem? (i := 25) (by decide +kernel))) (by decide +kernel)
theorem dX12_areAsked_18 : decode cX12_areAsked 18 = .ok (.invokestatic 115, 3) := by decide +kernel
theorem dX12_areAsked_21 : decode cX12_areAsked 21 = .ok (.ifCond .eq 7, 3) := by decide +kernel
theorem dX12_areAsked_24 : decode cX12_areAsked 24 = .ok (.iconst 1, 1) := by decide +kernel
theorem dX12_areAsked_25 : decode cX12_areAsked 25 = .ok (.goto 4, 3) := by decide +kernel
theorem dX12_areAsked_29 : decode cX12_areAsked 29 = .ok (.istore_n 3, 1) := by decide +kernel
theorem dX12_areAsked_30 : decode cX12_areAsked 30 = .ok (.iconst 0, 1) := by decide +kernel
theorem dX12_areAsked_31 : decode cX12_areAsked 31 = .ok (.istore 4, 2) := by decide +kernel
theorem dX12_areAsked_33 : decode cX12_areAsked 33 = .ok (.iload 4, 2) := by decide +kernel
theorem dX12_areAsked_35 : decode cX12_areAsked 35 = .ok (.iconst 4, 1) := by decide +kernel
theorem dX12_areAsked_36 : decode cX12_areAsked 36 = .ok (.if_icmp .ge 44, 3) := by decide +kernel
theorem dX12_areAsked_80 : decode cX12_areAsked 80 = .ok (.iload_n 3, 1) := by decide +kernel
theorem dX12_areAsked_81 : decode cX12_areAsked 81 = .ok (.ireturn, 1) := by decide +kernel
theorem dX12_areAsked_39 : decode cX12_areAsked 39 = .ok (.iload_n 3, 1) := by decide +kernel
theorem dX12_areAsked_40 : decode cX12_areAsked 40 = .ok (.ifCond .eq 40, 3) := by decide +kernel
theorem dX12_areAsked_43 : decode cX12_areAsked 43 = .ok (.iload_n 1, 1) := by decide +kernel
theorem dX12_areAsked_44 : decode cX12_areAsked 44 = .ok (.iload 4, 2) := by decide +kernel
theorem dX12_areAsked_46 : decode cX12_areAsked 46 = .ok (.ishr, 1) := by decide +kernel
theorem dX12_areAsked_47 : decode cX12_areAsked 47 = .ok (.iconst 1, 1) := by decide +kernel
theorem dX12_areAsked_48 : decode cX12_areAsked 48 = .ok (.iand, 1) := by decide +kernel
theorem dX12_areAsked_49 : decode cX12_areAsked 49 = .ok (.ifCond .eq 19, 3) := by decide +kernel
theorem dX12_areAsked_68 : decode cX12_areAsked 68 = .ok (.iconst 1, 1) := by decide +kernel
theorem dX12_areAsked_69 : decode cX12_areAsked 69 = .ok (.goto 4, 3) := by decide +kernel
theorem dX12_areAsked_73 : decode cX12_areAsked 73 = .ok (.istore_n 3, 1) := by decide +kernel
theorem dX12_areAsked_74 : decode cX12_areAsked 74 = .ok (.iinc 4 1, 3) := by decide +kernel
theorem dX12_areAsked_77 : decode cX12_areAsked 77 = .ok (.goto (-44), 3) := by decide +kernel
theorem dX12_areAsked_52 : decode cX12_areAsked 52 = .ok (.aload_n 0, 1) := by decide +kernel
theorem dX12_areAsked_53 : decode cX12_areAsked 53 = .ok (.iload_n 2, 1) := by decide +kernel
theorem dX12_areAsked_54 : decode cX12_areAsked 54 = .ok (.iconst 3, 1) := by decide +kernel
theorem dX12_areAsked_55 : decode cX12_areAsked 55 = .ok (.iload 4, 2) := by decide +kernel
theorem dX12_areAsked_57 : decode cX12_areAsked 57 = .ok (.imul, 1) := by decide +kernel
theorem dX12_areAsked_58 : decode cX12_areAsked 58 = .ok (.ishr, 1) := by decide +kernel
theorem dX12_areAsked_59 : decode cX12_areAsked 59 = .ok (.bipush 7, 2) := by decide +kernel
theorem dX12_areAsked_61 : decode cX12_areAsked 61 = .ok (.iand, 1) := by decide +kernel
theorem dX12_areAsked_62 : decode cX12_areAsked 62 = .ok (.invokevirtual 224, 3) := by decide +kernel
theorem dX12_areAsked_65 : decode cX12_areAsked 65 = .ok (.ifCond .eq 7, 3) := by decide +kernel
theorem dX12_areAsked_72 : decode cX12_areAsked 72 = .ok (.iconst 0, 1) := by decide +kernel
theorem dX12_areAsked_28 : decode cX12_areAsked 28 = .ok (.iconst 0, 1) := by decide +kernel
set_option maxRecDepth 100000 in
set_option maxHeartbeats 4000000 in
theorem r_areAsked (l : Launch) (E : EV) (ro : va_W) (hm : Nat) (v0 : Int32) (v1 : Int32) (m_manys : Nat) (m_reals : Nat) (m_factsOf : Nat) (m_possible : Nat) (q_undos : Nat) (q_models : Nat) (m_tape : Nat) (q_taped : Nat) (q_fault : Int32) (q_wrong : Int32) (q_wrongAt : Int32) (q_spot : Int32) (q_place : Int32) (q_token : Int32) (q_value : Int32) (m_ends : Nat) (m_letters : Nat) (m_actOf : Nat) (m_whom : Nat) (m_actMany : Nat) (m_tokens : Nat) (m_afters : Nat) (m_afterOf : Nat) (q_counted : Int32) (m_pile : Nat) (m_caseMany : Nat) (m_happen : Nat) (m_hasIf : Nat) (m_becomes : Nat) (m_goneOf : Nat) (m_heard : Nat) (m_pairs : Nat) (m_heaps : Nat) (q_rounds : Int32) (q_heapMany : Int32) (m_led : Nat) (m_newAt : Nat) (m_knowing : Nat) (m_firsts : Nat) (q_people : Nat) (m_secrets : Nat) (m_tried : Nat) (m_lanes : Nat) (m_lengths : Nat) (m_cells : Nat) (f_tokens : Nat → Int32)  : CT l yX12_areAsked (Cond.code yX12_areAsked cX12_areAsked 5 (some .boolean) :: TB) ({ frames := 2, cells := 0, slots := 0, locals := 46 }) E ro [.ref hm, .int v0, .int v1] [(hm, .inr (12, [.ref m_manys, .ref m_reals, .ref m_factsOf, .ref m_possible, .int (nI q_undos), .int (nI q_models), .ref m_tape, .int (nI q_taped), .int q_fault, .int q_wrong, .int q_wrongAt, .int q_spot, .int q_place, .int q_token, .int q_value, .ref m_ends, .ref m_letters, .ref m_actOf, .ref m_whom, .ref m_actMany, .ref m_tokens, .ref m_afters, .ref m_afterOf, .int q_counted, .ref m_pile, .ref m_caseMany, .ref m_happen, .ref m_hasIf, .ref m_becomes, .ref m_goneOf, .ref m_heard, .ref m_pairs, .ref m_heaps, .int q_rounds, .int q_heapMany, .ref m_led, .ref m_newAt, .ref m_knowing, .ref m_firsts, .int (nI q_people), .ref m_secrets, .ref m_tried, .ref m_lanes, .ref m_lengths, .ref m_cells])), (m_tokens, .inl (E.2.1 1, 9, .inl f_tokens))] (Qi E (fun (rz : Int32) uz => (rz = 1 ∧ uz = [(hm, .inr (12, [.ref m_manys, .ref m_reals, .ref m_factsOf, .ref m_possible, .int (nI q_undos), .int (nI q_models), .ref m_tape, .int (nI q_taped), .int q_fault, .int q_wrong, .int q_wrongAt, .int q_spot, .int q_place, .int q_token, .int q_value, .ref m_ends, .ref m_letters, .ref m_actOf, .ref m_whom, .ref m_actMany, .ref m_tokens, .ref m_afters, .ref m_afterOf, .int q_counted, .ref m_pile, .ref m_caseMany, .ref m_happen, .ref m_hasIf, .ref m_becomes, .ref m_goneOf, .ref m_heard, .ref m_pairs, .ref m_heaps, .int q_rounds, .int q_heapMany, .ref m_led, .ref m_newAt, .ref m_knowing, .ref m_firsts, .int (nI q_people), .ref m_secrets, .ref m_tried, .ref m_lanes, .ref m_lengths, .ref m_cells])), (m_tokens, .inl (E.2.1 1, 9, .inl f_tokens))] ∧ (canT (rTk f_tokens) v0 v1)) ∨ (rz = 0 ∧ uz = [(hm, .inr (12, [.ref m_manys, .ref m_reals, .ref m_factsOf, .ref m_possible, .int (nI q_undos), .int (nI q_models), .ref m_tape, .int (nI q_taped), .int q_fault, .int q_wrong, .int q_wrongAt, .int q_spot, .int q_place, .int q_token, .int q_value, .ref m_ends, .ref m_letters, .ref m_actOf, .ref m_whom, .ref m_actMany, .ref m_tokens, .ref m_afters, .ref m_afterOf, .int q_counted, .ref m_pile, .ref m_caseMany, .ref m_happen, .ref m_hasIf, .ref m_becomes, .ref m_goneOf, .ref m_heard, .ref m_pairs, .ref m_heaps, .int q_rounds, .int q_heapMany, .ref m_led, .ref m_newAt, .ref m_knowing, .ref m_firsts, .int (nI q_people), .ref m_secrets, .ref m_tried, .ref m_lanes, .ref m_lengths, .ref m_cells])), (m_tokens, .inl (E.2.1 1, 9, .inl f_tokens))] ∧ (¬ canT (rTk f_tokens) v0 v1)))) 0 0 := by
  refine ct_of rfl rfl ?_
  intro X C hT hin hro
  show WW X 5 E 0 [(0, .ref hm), (1, .int v0), (2, .int v1)] [] [(hm, .inr (12, [.ref m_manys, .ref m_reals, .ref m_factsOf, .ref m_possible, .int (nI q_undos), .int (nI q_models), .ref m_tape, .int (nI q_taped), .int q_fault, .int q_wrong, .int q_wrongAt, .int q_spot, .int q_place, .int q_token, .int q_value, .ref m_ends, .ref m_letters, .ref m_actOf, .ref m_whom, .ref m_actMany, .ref m_tokens, .ref m_afters, .ref m_afterOf, .int q_counted, .ref m_pile, .ref m_caseMany, .ref m_happen, .ref m_hasIf, .ref m_becomes, .ref m_goneOf, .ref m_heard, .ref m_pairs, .ref m_heaps, .int q_rounds, .int q_heapMany, .ref m_led, .ref m_newAt, .ref m_knowing, .ref m_firsts, .int (nI q_people), .ref m_secrets, .ref m_tried, .ref m_lanes, .ref m_lengths, .ref m_cells])), (m_tokens, .inl (E.2.1 1, 9, .inl f_tokens))] 0 0
  refine ww_iload_n C dX12_areAsked_0 1 rfl rfl ?_
  refine ww_i2l (v := v0.toInt64) C dX12_areAsked_1 rfl ?_
  refine ww_lconst (v := 1) C dX12_areAsked_2 rfl ?_
  refine ww_ldc2 C wv_X12_119 dX12_areAsked_3 ?_
  refine ww_ci (wr := [(hm, .inr (12, [.ref m_manys, .ref m_reals, .ref m_factsOf, .ref m_possible, .int (nI q_undos), .int (nI q_models), .ref m_tape, .int (nI q_taped), .int q_fault, .int q_wrong, .int q_wrongAt, .int q_spot, .int q_place, .int q_token, .int q_value, .ref m_ends, .ref m_letters, .ref m_actOf, .ref m_whom, .ref m_actMany, .ref m_tokens, .ref m_afters, .ref m_afterOf, .int q_counted, .ref m_pile, .ref m_caseMany, .ref m_happen, .ref m_hasIf, .ref m_becomes, .ref m_goneOf, .ref m_heard, .ref m_pairs, .ref m_heaps, .int q_rounds, .int q_heapMany, .ref m_led, .ref m_newAt, .ref m_knowing, .ref m_firsts, .int (nI q_people), .ref m_secrets, .ref m_tried, .ref m_lanes, .ref m_lengths, .ref m_cells])), (m_tokens, .inl (E.2.1 1, 9, .inl f_tokens))]) (k' := 0) (n' := 0) C (run_S (As := [.long v0.toInt64, .long 1, .long 15]) (rest := []) C (r_in X.2.1 E ro v0.toInt64 1 15 v0.toInt 1 15 (Int32.toInt_toInt64 _) rfl rfl) ms_X12_in wl_X12_115 rfl rfl rfl rfl dX12_areAsked_6) (roK hro) [] [0, 1] rfl rfl rfl rfl (fun r_1 uz hw => ?_)
  rcases hw with hw | hw
  · refine an3 hw ?_
    clear hw
    intro he_4 he_5 h_2 hw
    have h_3 := hw
    clear hw
    have he_4 := he_4.symm
    subst he_4
    subst he_5
    refine ww_eq (ws' := [(hm, .inr (12, [.ref m_manys, .ref m_reals, .ref m_factsOf, .ref m_possible, .int (nI q_undos), .int (nI q_models), .ref m_tape, .int (nI q_taped), .int q_fault, .int q_wrong, .int q_wrongAt, .int q_spot, .int q_place, .int q_token, .int q_value, .ref m_ends, .ref m_letters, .ref m_actOf, .ref m_whom, .ref m_actMany, .ref m_tokens, .ref m_afters, .ref m_afterOf, .int q_counted, .ref m_pile, .ref m_caseMany, .ref m_happen, .ref m_hasIf, .ref m_becomes, .ref m_goneOf, .ref m_heard, .ref m_pairs, .ref m_heaps, .int q_rounds, .int q_heapMany, .ref m_led, .ref m_newAt, .ref m_knowing, .ref m_firsts, .int (nI q_people), .ref m_secrets, .ref m_tried, .ref m_lanes, .ref m_lengths, .ref m_cells])), (m_tokens, .inl (E.2.1 1, 9, .inl f_tokens))]) ?_ rfl rfl rfl
    refine ww_if_eq_f (tgt := 28) C dX12_areAsked_9 (by decide) (by decide) ?_
    refine ww_iload_n C dX12_areAsked_12 2 rfl rfl ?_
    refine ww_i2l (v := v1.toInt64) C dX12_areAsked_13 rfl ?_
    refine ww_lconst (v := 0) C dX12_areAsked_14 rfl ?_
    refine ww_ldc2 C wv_X12_310 dX12_areAsked_15 ?_
    refine ww_ci (wr := [(hm, .inr (12, [.ref m_manys, .ref m_reals, .ref m_factsOf, .ref m_possible, .int (nI q_undos), .int (nI q_models), .ref m_tape, .int (nI q_taped), .int q_fault, .int q_wrong, .int q_wrongAt, .int q_spot, .int q_place, .int q_token, .int q_value, .ref m_ends, .ref m_letters, .ref m_actOf, .ref m_whom, .ref m_actMany, .ref m_tokens, .ref m_afters, .ref m_afterOf, .int q_counted, .ref m_pile, .ref m_caseMany, .ref m_happen, .ref m_hasIf, .ref m_becomes, .ref m_goneOf, .ref m_heard, .ref m_pairs, .ref m_heaps, .int q_rounds, .int q_heapMany, .ref m_led, .ref m_newAt, .ref m_knowing, .ref m_firsts, .int (nI q_people), .ref m_secrets, .ref m_tried, .ref m_lanes, .ref m_lengths, .ref m_cells])), (m_tokens, .inl (E.2.1 1, 9, .inl f_tokens))]) (k' := 0) (n' := 0) C (run_S (As := [.long v1.toInt64, .long 0, .long 4095]) (rest := []) C (r_in X.2.1 E ro v1.toInt64 0 4095 v1.toInt 0 4095 (Int32.toInt_toInt64 _) rfl rfl) ms_X12_in wl_X12_115 rfl rfl rfl rfl dX12_areAsked_18) (roK hro) [] [0, 1] rfl rfl rfl rfl (fun r_9 uz hw => ?_)
    rcases hw with hw | hw
    · refine an3 hw ?_
      clear hw
      intro he_12 he_13 h_10 hw
      have h_11 := hw
      clear hw
      have he_12 := he_12.symm
      subst he_12
      subst he_13
      refine ww_eq (ws' := [(hm, .inr (12, [.ref m_manys, .ref m_reals, .ref m_factsOf, .ref m_possible, .int (nI q_undos), .int (nI q_models), .ref m_tape, .int (nI q_taped), .int q_fault, .int q_wrong, .int q_wrongAt, .int q_spot, .int q_place, .int q_token, .int q_value, .ref m_ends, .ref m_letters, .ref m_actOf, .ref m_whom, .ref m_actMany, .ref m_tokens, .ref m_afters, .ref m_afterOf, .int q_counted, .ref m_pile, .ref m_caseMany, .ref m_happen, .ref m_hasIf, .ref m_becomes, .ref m_goneOf, .ref m_heard, .ref m_pairs, .ref m_heaps, .int q_rounds, .int q_heapMany, .ref m_led, .ref m_newAt, .ref m_knowing, .ref m_firsts, .int (nI q_people), .ref m_secrets, .ref m_tried, .ref m_lanes, .ref m_lengths, .ref m_cells])), (m_tokens, .inl (E.2.1 1, 9, .inl f_tokens))]) ?_ rfl rfl rfl
      refine ww_if_eq_f (tgt := 28) C dX12_areAsked_21 (by decide) (by decide) ?_
      refine ww_iconst (v := 1) C dX12_areAsked_24 rfl ?_
      refine ww_goto (tgt := 29) C dX12_areAsked_25 (by decide) ?_
      refine ww_istore_n (lv' := [(3, .int 1), (0, .ref hm), (1, .int v0), (2, .int v1)]) C dX12_areAsked_29 rfl rfl rfl ?_
      refine ww_iconst (v := 0) C dX12_areAsked_30 rfl ?_
      refine ww_istore (lv' := [(4, .int 0), (3, .int 1), (0, .ref hm), (1, .int v0), (2, .int v1)]) C dX12_areAsked_31 rfl rfl ?_
      have loop_33 : ∀ (fu : Nat) (k1 : Nat) (a1 : Nat), (k1 ≤ 4) → (a1 ≤ 1) → (a1 = 1 → TKS (rTk f_tokens) v0 v1 k1) → (a1 = 0 → ¬ TKS (rTk f_tokens) v0 v1 4) → 4 - k1 < fu → WW X 5 E 33 [(4, .int (nI k1)), (3, .int (nI a1)), (0, .ref hm), (1, .int v0), (2, .int v1)] [] [(hm, .inr (12, [.ref m_manys, .ref m_reals, .ref m_factsOf, .ref m_possible, .int (nI q_undos), .int (nI q_models), .ref m_tape, .int (nI q_taped), .int q_fault, .int q_wrong, .int q_wrongAt, .int q_spot, .int q_place, .int q_token, .int q_value, .ref m_ends, .ref m_letters, .ref m_actOf, .ref m_whom, .ref m_actMany, .ref m_tokens, .ref m_afters, .ref m_afterOf, .int q_counted, .ref m_pile, .ref m_caseMany, .ref m_happen, .ref m_hasIf, .ref m_becomes, .ref m_goneOf, .ref m_heard, .ref m_pairs, .ref m_heaps, .int q_rounds, .int q_heapMany, .ref m_led, .ref m_newAt, .ref m_knowing, .ref m_firsts, .int (nI q_people), .ref m_secrets, .ref m_tried, .ref m_lanes, .ref m_lengths, .ref m_cells])), (m_tokens, .inl (E.2.1 1, 9, .inl f_tokens))] 0 0 := by
        intro fu
        induction fu with
        | zero => intro k1 a1 hk1 ha1 hyes hno hmeas; exact absurd hmeas (Nat.not_lt_zero _)
        | succ fu ih_33 =>
          intro k1 a1 hk1 ha1 hyes hno hmeas
          refine ww_iload C dX12_areAsked_33 0 rfl ?_
          refine ww_iconst (v := 4) C dX12_areAsked_35 rfl ?_
          refine ww_icmp_ge (tgt := 80) C dX12_areAsked_36 (by decide) (fun c_17 => ?_) (fun c_17 => ?_)
          · have zc_17 : ((k1 : Nat) : Int) ≥ 4 := i_le rfl (nI_toInt (n := k1) (by omega)) c_17
            rcases (show a1 = 0 ∨ a1 = 1 by omega) with rfl | rfl
            · refine ww_iload_n C dX12_areAsked_80 1 rfl rfl ?_
              exact ww_zret (u := [(hm, .inr (12, [.ref m_manys, .ref m_reals, .ref m_factsOf, .ref m_possible, .int (nI q_undos), .int (nI q_models), .ref m_tape, .int (nI q_taped), .int q_fault, .int q_wrong, .int q_wrongAt, .int q_spot, .int q_place, .int q_token, .int q_value, .ref m_ends, .ref m_letters, .ref m_actOf, .ref m_whom, .ref m_actMany, .ref m_tokens, .ref m_afters, .ref m_afterOf, .int q_counted, .ref m_pile, .ref m_caseMany, .ref m_happen, .ref m_hasIf, .ref m_becomes, .ref m_goneOf, .ref m_heard, .ref m_pairs, .ref m_heaps, .int q_rounds, .int q_heapMany, .ref m_led, .ref m_newAt, .ref m_knowing, .ref m_firsts, .int (nI q_people), .ref m_secrets, .ref m_tried, .ref m_lanes, .ref m_lengths, .ref m_cells])), (m_tokens, .inl (E.2.1 1, 9, .inl f_tokens))]) C hT [0, 1] rfl rfl rfl rfl rfl dX12_areAsked_81 (Or.inr ⟨rfl, rfl, (fun h9 => hno (by omega) h9.2.2.2.2)⟩)
            · refine ww_iload_n C dX12_areAsked_80 1 rfl rfl ?_
              exact ww_zret (u := [(hm, .inr (12, [.ref m_manys, .ref m_reals, .ref m_factsOf, .ref m_possible, .int (nI q_undos), .int (nI q_models), .ref m_tape, .int (nI q_taped), .int q_fault, .int q_wrong, .int q_wrongAt, .int q_spot, .int q_place, .int q_token, .int q_value, .ref m_ends, .ref m_letters, .ref m_actOf, .ref m_whom, .ref m_actMany, .ref m_tokens, .ref m_afters, .ref m_afterOf, .int q_counted, .ref m_pile, .ref m_caseMany, .ref m_happen, .ref m_hasIf, .ref m_becomes, .ref m_goneOf, .ref m_heard, .ref m_pairs, .ref m_heaps, .int q_rounds, .int q_heapMany, .ref m_led, .ref m_newAt, .ref m_knowing, .ref m_firsts, .int (nI q_people), .ref m_secrets, .ref m_tried, .ref m_lanes, .ref m_lengths, .ref m_cells])), (m_tokens, .inl (E.2.1 1, 9, .inl f_tokens))]) C hT [0, 1] rfl rfl rfl rfl rfl dX12_areAsked_81 (Or.inl ⟨rfl, rfl, ⟨by omega, by omega, by omega, by omega, by have h9 : k1 = 4 := (by omega); have h8 := hyes (by omega); rw [h9] at h8; exact h8⟩⟩)
          · have zc_17 : ((k1 : Nat) : Int) < 4 := i_nle rfl (nI_toInt (n := k1) (by omega)) c_17
            refine ww_iload_n C dX12_areAsked_39 1 rfl rfl ?_
            refine ww_if_eq (tgt := 80) C dX12_areAsked_40 (by decide) (fun c_18 => ?_) (fun c_18 => ?_)
            · have zc_18 : ((a1 : Nat) : Int) = 0 := i_eq (nI_toInt (n := a1) (by omega)) rfl c_18
              rcases (show a1 = 0 ∨ a1 = 1 by omega) with rfl | rfl
              · refine ww_iload_n C dX12_areAsked_80 1 rfl rfl ?_
                exact ww_zret (u := [(hm, .inr (12, [.ref m_manys, .ref m_reals, .ref m_factsOf, .ref m_possible, .int (nI q_undos), .int (nI q_models), .ref m_tape, .int (nI q_taped), .int q_fault, .int q_wrong, .int q_wrongAt, .int q_spot, .int q_place, .int q_token, .int q_value, .ref m_ends, .ref m_letters, .ref m_actOf, .ref m_whom, .ref m_actMany, .ref m_tokens, .ref m_afters, .ref m_afterOf, .int q_counted, .ref m_pile, .ref m_caseMany, .ref m_happen, .ref m_hasIf, .ref m_becomes, .ref m_goneOf, .ref m_heard, .ref m_pairs, .ref m_heaps, .int q_rounds, .int q_heapMany, .ref m_led, .ref m_newAt, .ref m_knowing, .ref m_firsts, .int (nI q_people), .ref m_secrets, .ref m_tried, .ref m_lanes, .ref m_lengths, .ref m_cells])), (m_tokens, .inl (E.2.1 1, 9, .inl f_tokens))]) C hT [0, 1] rfl rfl rfl rfl rfl dX12_areAsked_81 (Or.inr ⟨rfl, rfl, (fun h9 => hno (by omega) h9.2.2.2.2)⟩)
              · refine ww_iload_n C dX12_areAsked_80 1 rfl rfl ?_
                exact ww_zret (u := [(hm, .inr (12, [.ref m_manys, .ref m_reals, .ref m_factsOf, .ref m_possible, .int (nI q_undos), .int (nI q_models), .ref m_tape, .int (nI q_taped), .int q_fault, .int q_wrong, .int q_wrongAt, .int q_spot, .int q_place, .int q_token, .int q_value, .ref m_ends, .ref m_letters, .ref m_actOf, .ref m_whom, .ref m_actMany, .ref m_tokens, .ref m_afters, .ref m_afterOf, .int q_counted, .ref m_pile, .ref m_caseMany, .ref m_happen, .ref m_hasIf, .ref m_becomes, .ref m_goneOf, .ref m_heard, .ref m_pairs, .ref m_heaps, .int q_rounds, .int q_heapMany, .ref m_led, .ref m_newAt, .ref m_knowing, .ref m_firsts, .int (nI q_people), .ref m_secrets, .ref m_tried, .ref m_lanes, .ref m_lengths, .ref m_cells])), (m_tokens, .inl (E.2.1 1, 9, .inl f_tokens))]) C hT [0, 1] rfl rfl rfl rfl rfl dX12_areAsked_81 (Or.inl ⟨rfl, rfl, ⟨by omega, by omega, by omega, by omega, by have h9 : k1 = 4 := (by omega); have h8 := hyes (by omega); rw [h9] at h8; exact h8⟩⟩)
            · have zc_18 : ((a1 : Nat) : Int) ≠ 0 := i_ne (nI_toInt (n := a1) (by omega)) rfl c_18
              refine ww_iload_n C dX12_areAsked_43 3 rfl rfl ?_
              refine ww_iload C dX12_areAsked_44 0 rfl ?_
              obtain ⟨x_19, ex_19⟩ : ∃ z : Int32, v0 >>> ((nI k1) &&& 31) = z := ⟨_, rfl⟩
              refine ww_ishr (v := x_19) C dX12_areAsked_46 ex_19 ?_
              refine ww_iconst (v := 1) C dX12_areAsked_47 rfl ?_
              obtain ⟨j_20, hj_20, ej_20⟩ := pk_andE x_19 (m := 1) 1 rfl
              refine ww_iand (v := (nI j_20)) C dX12_areAsked_48 ej_20 ?_
              refine ww_if_eq (tgt := 68) C dX12_areAsked_49 (by decide) (fun c_21 => ?_) (fun c_21 => ?_)
              · have zc_21 : ((j_20 : Nat) : Int) = 0 := i_eq (nI_toInt (n := j_20) (by omega)) rfl c_21
                refine ww_iconst (v := 1) C dX12_areAsked_68 rfl ?_
                refine ww_goto (tgt := 73) C dX12_areAsked_69 (by decide) ?_
                refine ww_istore_n (lv' := [(3, .int 1), (4, .int (nI k1)), (0, .ref hm), (1, .int v0), (2, .int v1)]) C dX12_areAsked_73 rfl rfl rfl ?_
                refine ww_iinc (j := 1) (v := (nI (k1 + 1))) (lv' := [(4, .int (nI (k1 + 1))), (3, .int 1), (0, .ref hm), (1, .int v0), (2, .int v1)]) C dX12_areAsked_74 rfl (nI_add k1 1) rfl rfl ?_
                refine ww_goto (tgt := 33) C dX12_areAsked_77 (by decide) ?_
                exact ww_lv [0, 1, 2, 3, 4] rfl (ww_sub [0, 1] rfl rfl (ih_33 (k1 + 1) 1 (by omega) (by omega) (fun _ => TKS.f (hyes (by omega)) (hasb_0 (b := v0) (p := k1) (by omega) (by assumption) (by assumption) (by omega))) (fun h9 => absurd h9 (by decide)) (by omega)))
              · have zc_21 : ((j_20 : Nat) : Int) ≠ 0 := i_ne (nI_toInt (n := j_20) (by omega)) rfl c_21
                refine ww_aload_n C dX12_areAsked_52 2 rfl rfl ?_
                refine ww_iload_n C dX12_areAsked_53 4 rfl rfl ?_
                refine ww_iconst (v := 3) C dX12_areAsked_54 rfl ?_
                refine ww_iload C dX12_areAsked_55 0 rfl ?_
                refine ww_imul (v := (nI (3 * k1))) C dX12_areAsked_57 (pk_mul 3 k1) ?_
                obtain ⟨x_22, ex_22⟩ : ∃ z : Int32, v1 >>> ((nI (3 * k1)) &&& 31) = z := ⟨_, rfl⟩
                refine ww_ishr (v := x_22) C dX12_areAsked_58 ex_22 ?_
                refine ww_bipush (v := 7) C dX12_areAsked_59 rfl ?_
                obtain ⟨j_23, hj_23, ej_23⟩ := pk_andE x_22 (m := 7) 3 rfl
                refine ww_iand (v := (nI j_23)) C dX12_areAsked_61 ej_23 ?_
                refine ww_ci (wr := []) (k' := 0) (n' := 0) C (run_V (As := [.int (nI j_23)]) (rest := []) C (r_isSaying X.2.1 E ro hm (nI j_23) m_manys m_reals m_factsOf m_possible q_undos q_models m_tape q_taped q_fault q_wrong q_wrongAt q_spot q_place q_token q_value m_ends m_letters m_actOf m_whom m_actMany m_tokens m_afters m_afterOf q_counted m_pile m_caseMany m_happen m_hasIf m_becomes m_goneOf m_heard m_pairs m_heaps q_rounds q_heapMany m_led m_newAt m_knowing m_firsts q_people m_secrets m_tried m_lanes m_lengths m_cells f_tokens) mi_X12_isSaying wl_X12_224 rfl 0 12 rfl rfl rfl rfl rfl dX12_areAsked_62) (roK hro) [0, 1] [] rfl rfl rfl rfl (fun r_24 uz hw => ?_)
                rcases hw with hw | hw
                · refine an4 hw ?_
                  clear hw
                  intro he_28 he_29 h_25 h_26 hw
                  have h_27 := hw
                  clear hw
                  have he_28 := he_28.symm
                  subst he_28
                  subst he_29
                  refine ww_eq (ws' := [(hm, .inr (12, [.ref m_manys, .ref m_reals, .ref m_factsOf, .ref m_possible, .int (nI q_undos), .int (nI q_models), .ref m_tape, .int (nI q_taped), .int q_fault, .int q_wrong, .int q_wrongAt, .int q_spot, .int q_place, .int q_token, .int q_value, .ref m_ends, .ref m_letters, .ref m_actOf, .ref m_whom, .ref m_actMany, .ref m_tokens, .ref m_afters, .ref m_afterOf, .int q_counted, .ref m_pile, .ref m_caseMany, .ref m_happen, .ref m_hasIf, .ref m_becomes, .ref m_goneOf, .ref m_heard, .ref m_pairs, .ref m_heaps, .int q_rounds, .int q_heapMany, .ref m_led, .ref m_newAt, .ref m_knowing, .ref m_firsts, .int (nI q_people), .ref m_secrets, .ref m_tried, .ref m_lanes, .ref m_lengths, .ref m_cells])), (m_tokens, .inl (E.2.1 1, 9, .inl f_tokens))]) ?_ rfl rfl rfl
                  refine ww_if_eq_f (tgt := 72) C dX12_areAsked_65 (by decide) (by decide) ?_
                  refine ww_iconst (v := 1) C dX12_areAsked_68 rfl ?_
                  refine ww_goto (tgt := 73) C dX12_areAsked_69 (by decide) ?_
                  refine ww_istore_n (lv' := [(3, .int 1), (4, .int (nI k1)), (0, .ref hm), (1, .int v0), (2, .int v1)]) C dX12_areAsked_73 rfl rfl rfl ?_
                  refine ww_iinc (j := 1) (v := (nI (k1 + 1))) (lv' := [(4, .int (nI (k1 + 1))), (3, .int 1), (0, .ref hm), (1, .int v0), (2, .int v1)]) C dX12_areAsked_74 rfl (nI_add k1 1) rfl rfl ?_
                  refine ww_goto (tgt := 33) C dX12_areAsked_77 (by decide) ?_
                  exact ww_lv [0, 1, 2, 3, 4] rfl (ww_sub [0, 1] rfl rfl (ih_33 (k1 + 1) 1 (by omega) (by omega) (fun _ => TKS.t (hyes (by omega)) (by rw [(sgI_of ex_22 ej_23 (by omega)), rTk_s (by omega) h_27]; rfl)) (fun h9 => absurd h9 (by decide)) (by omega)))
                · refine an2 hw ?_
                  clear hw
                  intro he_31 he_32 hw
                  have h_30 := hw
                  clear hw
                  have he_31 := he_31.symm
                  subst he_31
                  subst he_32
                  refine ww_eq (ws' := [(hm, .inr (12, [.ref m_manys, .ref m_reals, .ref m_factsOf, .ref m_possible, .int (nI q_undos), .int (nI q_models), .ref m_tape, .int (nI q_taped), .int q_fault, .int q_wrong, .int q_wrongAt, .int q_spot, .int q_place, .int q_token, .int q_value, .ref m_ends, .ref m_letters, .ref m_actOf, .ref m_whom, .ref m_actMany, .ref m_tokens, .ref m_afters, .ref m_afterOf, .int q_counted, .ref m_pile, .ref m_caseMany, .ref m_happen, .ref m_hasIf, .ref m_becomes, .ref m_goneOf, .ref m_heard, .ref m_pairs, .ref m_heaps, .int q_rounds, .int q_heapMany, .ref m_led, .ref m_newAt, .ref m_knowing, .ref m_firsts, .int (nI q_people), .ref m_secrets, .ref m_tried, .ref m_lanes, .ref m_lengths, .ref m_cells])), (m_tokens, .inl (E.2.1 1, 9, .inl f_tokens))]) ?_ rfl rfl rfl
                  refine ww_if_eq_t (tgt := 72) C dX12_areAsked_65 (by decide) (rfl) ?_
                  refine ww_iconst (v := 0) C dX12_areAsked_72 rfl ?_
                  refine ww_istore_n (lv' := [(3, .int 0), (4, .int (nI k1)), (0, .ref hm), (1, .int v0), (2, .int v1)]) C dX12_areAsked_73 rfl rfl rfl ?_
                  refine ww_iinc (j := 1) (v := (nI (k1 + 1))) (lv' := [(4, .int (nI (k1 + 1))), (3, .int 0), (0, .ref hm), (1, .int v0), (2, .int v1)]) C dX12_areAsked_74 rfl (nI_add k1 1) rfl rfl ?_
                  refine ww_goto (tgt := 33) C dX12_areAsked_77 (by decide) ?_
                  exact ww_lv [0, 1, 2, 3, 4] rfl (ww_sub [0, 1] rfl rfl (ih_33 (k1 + 1) 0 (by omega) (by omega) (fun h9 => absurd h9 (by decide)) (fun _ h9 => by have h8 := h9 k1 (by omega) (hasb_1 (b := v0) (p := k1) (by omega) (by assumption) (by assumption) (by omega)); rw [(sgI_of ex_22 ej_23 (by omega)), rTk_n (by omega) h_30] at h8; cases h8) (by omega)))
      exact ww_lv [0, 1, 2, 3, 4] rfl (ww_sub [0, 1] rfl rfl (loop_33 _ 0 1 (by omega) (by omega) (fun _ => TKS.nil) (fun h9 => absurd h9 (by decide)) (Nat.lt_succ_self _)))
    · refine an2 hw ?_
      clear hw
      intro he_15 he_16 hw
      have h_14 := hw
      clear hw
      have he_15 := he_15.symm
      subst he_15
      subst he_16
      refine ww_eq (ws' := [(hm, .inr (12, [.ref m_manys, .ref m_reals, .ref m_factsOf, .ref m_possible, .int (nI q_undos), .int (nI q_models), .ref m_tape, .int (nI q_taped), .int q_fault, .int q_wrong, .int q_wrongAt, .int q_spot, .int q_place, .int q_token, .int q_value, .ref m_ends, .ref m_letters, .ref m_actOf, .ref m_whom, .ref m_actMany, .ref m_tokens, .ref m_afters, .ref m_afterOf, .int q_counted, .ref m_pile, .ref m_caseMany, .ref m_happen, .ref m_hasIf, .ref m_becomes, .ref m_goneOf, .ref m_heard, .ref m_pairs, .ref m_heaps, .int q_rounds, .int q_heapMany, .ref m_led, .ref m_newAt, .ref m_knowing, .ref m_firsts, .int (nI q_people), .ref m_secrets, .ref m_tried, .ref m_lanes, .ref m_lengths, .ref m_cells])), (m_tokens, .inl (E.2.1 1, 9, .inl f_tokens))]) ?_ rfl rfl rfl
      refine ww_if_eq_t (tgt := 28) C dX12_areAsked_21 (by decide) (rfl) ?_
      refine ww_iconst (v := 0) C dX12_areAsked_28 rfl ?_
      refine ww_istore_n (lv' := [(3, .int 0), (0, .ref hm), (1, .int v0), (2, .int v1)]) C dX12_areAsked_29 rfl rfl rfl ?_
      refine ww_iconst (v := 0) C dX12_areAsked_30 rfl ?_
      refine ww_istore (lv' := [(4, .int 0), (3, .int 0), (0, .ref hm), (1, .int v0), (2, .int v1)]) C dX12_areAsked_31 rfl rfl ?_
      refine ww_iload C dX12_areAsked_33 0 rfl ?_
      refine ww_iconst (v := 4) C dX12_areAsked_35 rfl ?_
      refine ww_icmp_ge_f (tgt := 80) C dX12_areAsked_36 (by decide) (by decide) ?_
      refine ww_iload_n C dX12_areAsked_39 1 rfl rfl ?_
      refine ww_if_eq_t (tgt := 80) C dX12_areAsked_40 (by decide) (rfl) ?_
      refine ww_iload_n C dX12_areAsked_80 1 rfl rfl ?_
      exact ww_zret (u := [(hm, .inr (12, [.ref m_manys, .ref m_reals, .ref m_factsOf, .ref m_possible, .int (nI q_undos), .int (nI q_models), .ref m_tape, .int (nI q_taped), .int q_fault, .int q_wrong, .int q_wrongAt, .int q_spot, .int q_place, .int q_token, .int q_value, .ref m_ends, .ref m_letters, .ref m_actOf, .ref m_whom, .ref m_actMany, .ref m_tokens, .ref m_afters, .ref m_afterOf, .int q_counted, .ref m_pile, .ref m_caseMany, .ref m_happen, .ref m_hasIf, .ref m_becomes, .ref m_goneOf, .ref m_heard, .ref m_pairs, .ref m_heaps, .int q_rounds, .int q_heapMany, .ref m_led, .ref m_newAt, .ref m_knowing, .ref m_firsts, .int (nI q_people), .ref m_secrets, .ref m_tried, .ref m_lanes, .ref m_lengths, .ref m_cells])), (m_tokens, .inl (E.2.1 1, 9, .inl f_tokens))]) C hT [0, 1] rfl rfl rfl rfl rfl dX12_areAsked_81 (Or.inr ⟨rfl, rfl, (fun h9 => by have h8 := h9.1; have h7 := h9.2.1; have h6 := h9.2.2.1; have h5 := h9.2.2.2.1; omega)⟩)
  · refine an2 hw ?_
    clear hw
    intro he_7 he_8 hw
    have h_6 := hw
    clear hw
    have he_7 := he_7.symm
    subst he_7
    subst he_8
    refine ww_eq (ws' := [(hm, .inr (12, [.ref m_manys, .ref m_reals, .ref m_factsOf, .ref m_possible, .int (nI q_undos), .int (nI q_models), .ref m_tape, .int (nI q_taped), .int q_fault, .int q_wrong, .int q_wrongAt, .int q_spot, .int q_place, .int q_token, .int q_value, .ref m_ends, .ref m_letters, .ref m_actOf, .ref m_whom, .ref m_actMany, .ref m_tokens, .ref m_afters, .ref m_afterOf, .int q_counted, .ref m_pile, .ref m_caseMany, .ref m_happen, .ref m_hasIf, .ref m_becomes, .ref m_goneOf, .ref m_heard, .ref m_pairs, .ref m_heaps, .int q_rounds, .int q_heapMany, .ref m_led, .ref m_newAt, .ref m_knowing, .ref m_firsts, .int (nI q_people), .ref m_secrets, .ref m_tried, .ref m_lanes, .ref m_lengths, .ref m_cells])), (m_tokens, .inl (E.2.1 1, 9, .inl f_tokens))]) ?_ rfl rfl rfl
    refine ww_if_eq_t (tgt := 28) C dX12_areAsked_9 (by decide) (rfl) ?_
    refine ww_iconst (v := 0) C dX12_areAsked_28 rfl ?_
    refine ww_istore_n (lv' := [(3, .int 0), (0, .ref hm), (1, .int v0), (2, .int v1)]) C dX12_areAsked_29 rfl rfl rfl ?_
    refine ww_iconst (v := 0) C dX12_areAsked_30 rfl ?_
    refine ww_istore (lv' := [(4, .int 0), (3, .int 0), (0, .ref hm), (1, .int v0), (2, .int v1)]) C dX12_areAsked_31 rfl rfl ?_
    refine ww_iload C dX12_areAsked_33 0 rfl ?_
    refine ww_iconst (v := 4) C dX12_areAsked_35 rfl ?_
    refine ww_icmp_ge_f (tgt := 80) C dX12_areAsked_36 (by decide) (by decide) ?_
    refine ww_iload_n C dX12_areAsked_39 1 rfl rfl ?_
    refine ww_if_eq_t (tgt := 80) C dX12_areAsked_40 (by decide) (rfl) ?_
    refine ww_iload_n C dX12_areAsked_80 1 rfl rfl ?_
    exact ww_zret (u := [(hm, .inr (12, [.ref m_manys, .ref m_reals, .ref m_factsOf, .ref m_possible, .int (nI q_undos), .int (nI q_models), .ref m_tape, .int (nI q_taped), .int q_fault, .int q_wrong, .int q_wrongAt, .int q_spot, .int q_place, .int q_token, .int q_value, .ref m_ends, .ref m_letters, .ref m_actOf, .ref m_whom, .ref m_actMany, .ref m_tokens, .ref m_afters, .ref m_afterOf, .int q_counted, .ref m_pile, .ref m_caseMany, .ref m_happen, .ref m_hasIf, .ref m_becomes, .ref m_goneOf, .ref m_heard, .ref m_pairs, .ref m_heaps, .int q_rounds, .int q_heapMany, .ref m_led, .ref m_newAt, .ref m_knowing, .ref m_firsts, .int (nI q_people), .ref m_secrets, .ref m_tried, .ref m_lanes, .ref m_lengths, .ref m_cells])), (m_tokens, .inl (E.2.1 1, 9, .inl f_tokens))]) C hT [0, 1] rfl rfl rfl rfl rfl dX12_areAsked_81 (Or.inr ⟨rfl, rfl, (fun h9 => by have h8 := h9.1; have h7 := h9.2.1; have h6 := h9.2.2.1; have h5 := h9.2.2.2.1; omega)⟩)
