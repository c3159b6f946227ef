section
/-- the first i cells of sheet k are 0, the other sheets' cells as they were -/
def CZR (k i : Nat) (f g : Nat → Int32) : Prop := (∀ j, j < i → g (48 * k + j) = 0) ∧ ∀ j, (j < 48 * k ∨ 48 * k + 48 ≤ j) → g j = f j
theorem CZR.nil {k : Nat} {f : Nat → Int32} : CZR k 0 f f := ⟨fun j h => absurd h (by omega), fun _ _ => rfl⟩
theorem CZR.ext {k i : Nat} {f g g' : Nat → Int32} (h : CZR k i f g) (hi : i < 48) (e : upd g (48 * k + i) 0 = g') : CZR k (i + 1) f g' := by
  refine ⟨fun j hj => ?_, fun j hj => ?_⟩
  · by_cases q : j = i
    · rw [q, ← e, pk_us]
    · rw [← e, pk_un (by omega)]; exact h.1 j (by omega)
  · rw [← e, pk_un (by omega)]; exact h.2 j hj
def putw (la v : Int32) : Int32 := if la.toInt = 0 then v <<< ((24 : Int32) &&& 31) >>> ((24 : Int32) &&& 31) else if la.toInt = 1 then v <<< ((16 : Int32) &&& 31) >>> ((16 : Int32) &&& 31) else v
def rdB (la : Int32) (sz : Nat) (cl : Nat → Int32) (l : Nat) (f : Int32) (n : Nat) : Int32 := if la ≠ nI l then (if la = -4 then -11 else -13) else if ckR cl sz f.toInt n 0 = 0 then nI n else ckR cl sz f.toInt n 0
theorem rdB_1 {la f : Int32} {sz l n : Nat} {cl : Nat → Int32} (h : la.toInt ≠ (l : Int)) (hl : l ≤ 2) (h4 : la.toInt = -4) : (-11 : Int32) = rdB la sz cl l f n := by
  have e4 : (-4 : Int32).toInt = -4 := rfl
  unfold rdB
  rw [if_pos (fun q => by rw [q, nI_toInt (by omega)] at h; exact h rfl), if_pos (Int32.toInt_inj.mp (h4.trans e4.symm))]
theorem rdB_2 {la f : Int32} {sz l n : Nat} {cl : Nat → Int32} (h : la.toInt ≠ (l : Int)) (hl : l ≤ 2) (h4 : la.toInt ≠ -4) : (-13 : Int32) = rdB la sz cl l f n := by
  unfold rdB
  rw [if_pos (fun q => by rw [q, nI_toInt (by omega)] at h; exact h rfl), if_neg (fun q => h4 (by rw [q]; rfl))]
theorem rdB_3 {la f : Int32} {sz l n : Nat} {cl : Nat → Int32} (h : la.toInt = (l : Int)) (hl : l ≤ 2) : rdB la sz cl l f n = if ckR cl sz f.toInt n 0 = 0 then nI n else ckR cl sz f.toInt n 0 := by
  unfold rdB
  rw [if_neg (fun q => q (Int32.toInt_inj.mp (by rw [h, nI_toInt (by omega)])))]
theorem rdB_n {la f r : Int32} {sz l n : Nat} {cl : Nat → Int32} (h : la.toInt = (l : Int)) (hl : l ≤ 2) (hr : ckR cl sz f.toInt n 0 = r) (h0 : r.toInt ≠ 0) : r = rdB la sz cl l f n := by
  rw [rdB_3 h hl, hr, if_neg (fun q => h0 (by rw [q]; rfl))]
theorem rdB_o {la f : Int32} {sz l n : Nat} {cl : Nat → Int32} (h : la.toInt = (l : Int)) (hl : l ≤ 2) (hr : ckR cl sz f.toInt n 0 = 0) : nI n = rdB la sz cl l f n := by
  rw [rdB_3 h hl, hr, if_pos rfl]
theorem dX12_sheet_0 : decode cX12_sheet 0 = .ok (.iload_n 1, 1) := dl_27 (by decide +kernel)
theorem dX12_sheet_1 : decode cX12_sheet 1 = .ok (.i2l, 1) := dl_133 (by decide +kernel)
theorem dX12_sheet_2 : decode cX12_sheet 2 = .ok (.lconst 0, 1) := dl_9 (by decide +kernel)
theorem dX12_sheet_3 : decode cX12_sheet 3 = .ok (.ldc2_w 113, 3) := dl_20 (by decide +kernel)
theorem dX12_sheet_6 : decode cX12_sheet 6 = .ok (.invokestatic 115, 3) := dl_184 (by decide +kernel)
theorem dX12_sheet_9 : decode cX12_sheet 9 = .ok (.ifCond .eq 21, 3) := dl_153 (by decide +kernel)
theorem dX12_sheet_12 : decode cX12_sheet 12 = .ok (.iload_n 2, 1) := dl_28 (by decide +kernel)
theorem dX12_sheet_13 : decode cX12_sheet 13 = .ok (.i2l, 1) := dl_133 (by decide +kernel)
theorem dX12_sheet_14 : decode cX12_sheet 14 = .ok (.lconst 0, 1) := dl_9 (by decide +kernel)
theorem dX12_sheet_15 : decode cX12_sheet 15 = .ok (.ldc2_w 254, 3) := dl_20 (by decide +kernel)
theorem dX12_sheet_18 : decode cX12_sheet 18 = .ok (.invokestatic 115, 3) := dl_184 (by decide +kernel)
theorem dX12_sheet_21 : decode cX12_sheet 21 = .ok (.ifCond .eq 9, 3) := dl_153 (by decide +kernel)
theorem dX12_sheet_24 : decode cX12_sheet 24 = .ok (.iload_n 3, 1) := dl_29 (by decide +kernel)
theorem dX12_sheet_25 : decode cX12_sheet 25 = .ok (.bipush 48, 2) := dl_16 (by decide +kernel)
theorem dX12_sheet_27 : decode cX12_sheet 27 = .ok (.if_icmp .le 5, 3) := dl_164 (by decide +kernel)
theorem dX12_sheet_32 : decode cX12_sheet 32 = .ok (.iload_n 3, 1) := dl_29 (by decide +kernel)
theorem dX12_sheet_33 : decode cX12_sheet 33 = .ok (.ifCond .ge 6, 3) := dl_156 (by decide +kernel)
theorem dX12_sheet_39 : decode cX12_sheet 39 = .ok (.aload_n 0, 1) := dl_42 (by decide +kernel)
theorem dX12_sheet_40 : decode cX12_sheet 40 = .ok (.getfield 96, 3) := dl_180 (by decide +kernel)
theorem wf_X12_96 : Cond.fieldLink RX12 96 RX12 "lanes" "[I" ∈ TB := tbm (tq5 (List.mem_of_getElem? (i := 120) (by decide +kernel))) (by decide +kernel)
theorem fg_X12_96 : FG RX12 96 12 42 := ⟨RX12, TX12, 45, uw_X12, wf_X12_96, rfl, by decide, rfl⟩
theorem dX12_sheet_43 : decode cX12_sheet 43 = .ok (.iload_n 1, 1) := dl_27 (by decide +kernel)
theorem dX12_sheet_44 : decode cX12_sheet 44 = .ok (.iload_n 2, 1) := dl_28 (by decide +kernel)
theorem dX12_sheet_45 : decode cX12_sheet 45 = .ok (.iastore, 1) := dl_79 (by decide +kernel)
theorem dX12_sheet_46 : decode cX12_sheet 46 = .ok (.aload_n 0, 1) := dl_42 (by decide +kernel)
theorem dX12_sheet_47 : decode cX12_sheet 47 = .ok (.getfield 99, 3) := dl_180 (by decide +kernel)
theorem wf_X12_99 : Cond.fieldLink RX12 99 RX12 "lengths" "[I" ∈ TB := tbm (tq5 (List.mem_of_getElem? (i := 121) (by decide +kernel))) (by decide +kernel)
theorem fg_X12_99 : FG RX12 99 12 43 := ⟨RX12, TX12, 45, uw_X12, wf_X12_99, rfl, by decide, rfl⟩
theorem dX12_sheet_50 : decode cX12_sheet 50 = .ok (.iload_n 1, 1) := dl_27 (by decide +kernel)
theorem dX12_sheet_51 : decode cX12_sheet 51 = .ok (.iload_n 3, 1) := dl_29 (by decide +kernel)
theorem dX12_sheet_52 : decode cX12_sheet 52 = .ok (.iastore, 1) := dl_79 (by decide +kernel)
theorem dX12_sheet_53 : decode cX12_sheet 53 = .ok (.iconst 0, 1) := dl_3 (by decide +kernel)
theorem dX12_sheet_54 : decode cX12_sheet 54 = .ok (.istore 4, 2) := dl_54 (by decide +kernel)
theorem dX12_sheet_56 : decode cX12_sheet 56 = .ok (.iload 4, 2) := dl_21 (by decide +kernel)
theorem dX12_sheet_58 : decode cX12_sheet 58 = .ok (.bipush 48, 2) := dl_16 (by decide +kernel)
theorem dX12_sheet_60 : decode cX12_sheet 60 = .ok (.if_icmp .ge 22, 3) := dl_162 (by decide +kernel)
theorem dX12_sheet_82 : decode cX12_sheet 82 = .ok (.iconst 1, 1) := dl_4 (by decide +kernel)
theorem dX12_sheet_83 : decode cX12_sheet 83 = .ok (.ireturn, 1) := dl_172 (by decide +kernel)
theorem dX12_sheet_63 : decode cX12_sheet 63 = .ok (.aload_n 0, 1) := dl_42 (by decide +kernel)
theorem dX12_sheet_64 : decode cX12_sheet 64 = .ok (.getfield 102, 3) := dl_180 (by decide +kernel)
theorem wf_X12_102 : Cond.fieldLink RX12 102 RX12 "cells" "[I" ∈ TB := tbm (tq5 (List.mem_of_getElem? (i := 122) (by decide +kernel))) (by decide +kernel)
theorem fg_X12_102 : FG RX12 102 12 44 := ⟨RX12, TX12, 45, uw_X12, wf_X12_102, rfl, by decide, rfl⟩
theorem dX12_sheet_67 : decode cX12_sheet 67 = .ok (.bipush 48, 2) := dl_16 (by decide +kernel)
theorem dX12_sheet_69 : decode cX12_sheet 69 = .ok (.iload_n 1, 1) := dl_27 (by decide +kernel)
theorem dX12_sheet_70 : decode cX12_sheet 70 = .ok (.imul, 1) := dl_104 (by decide +kernel)
theorem dX12_sheet_71 : decode cX12_sheet 71 = .ok (.iload 4, 2) := dl_21 (by decide +kernel)
theorem dX12_sheet_73 : decode cX12_sheet 73 = .ok (.iadd, 1) := dl_96 (by decide +kernel)
theorem dX12_sheet_74 : decode cX12_sheet 74 = .ok (.iconst 0, 1) := dl_3 (by decide +kernel)
theorem dX12_sheet_75 : decode cX12_sheet 75 = .ok (.iastore, 1) := dl_79 (by decide +kernel)
theorem dX12_sheet_76 : decode cX12_sheet 76 = .ok (.iinc 4 1, 3) := dl_132 (by decide +kernel)
theorem dX12_sheet_79 : decode cX12_sheet 79 = .ok (.goto (-23), 3) := dl_167 (by decide +kernel)
theorem dX12_sheet_36 : decode cX12_sheet 36 = .ok (.bipush (-14), 2) := dl_16 (by decide +kernel)
theorem dX12_sheet_38 : decode cX12_sheet 38 = .ok (.ireturn, 1) := dl_172 (by decide +kernel)
theorem dX12_sheet_30 : decode cX12_sheet 30 = .ok (.iconst (-1), 1) := dl_2 (by decide +kernel)
theorem dX12_sheet_31 : decode cX12_sheet 31 = .ok (.ireturn, 1) := dl_172 (by decide +kernel)
set_option maxRecDepth 100000 in
set_option maxHeartbeats 4000000 in
theorem y_sheet (l : Launch) (E : EV) (ro : va_W) (hm : Nat) (v0 : Int32) (v1 : Int32) (v2 : Int32) (m_manys : Nat) (m_reals : Nat) (m_factsOf : Nat) (m_possible : Nat) (q_undos : Nat) (q_models : Nat) (m_tape : Nat) (q_taped : Nat) (q_fault : Int32) (q_wrong : Int32) (q_wrongAt : Int32) (q_spot : Int32) (q_place : Int32) (q_token : Int32) (q_value : Int32) (m_ends : Nat) (m_letters : Nat) (m_actOf : Nat) (m_whom : Nat) (m_actMany : Nat) (m_tokens : Nat) (m_afters : Nat) (m_afterOf : Nat) (q_counted : Int32) (m_pile : Nat) (m_caseMany : Nat) (m_happen : Nat) (m_hasIf : Nat) (m_becomes : Nat) (m_goneOf : Nat) (m_heard : Nat) (m_pairs : Nat) (m_heaps : Nat) (q_rounds : Int32) (q_heapMany : Int32) (m_led : Nat) (m_newAt : Nat) (m_knowing : Nat) (m_firsts : Nat) (q_people : Nat) (m_secrets : Nat) (m_tried : Nat) (m_lanes : Nat) (m_lengths : Nat) (m_cells : Nat) (f_lanes : Nat → Int32) (f_lengths : Nat → Int32) (f_cells : Nat → Int32) (hb_lengths : NB 4 48 f_lengths) : CT l yX12_sheet (Cond.code yX12_sheet cX12_sheet 5 (some .int) :: TB) ({ frames := 1, cells := 0, slots := 0, locals := 25 }) E ro [.ref hm, .int v0, .int v1, .int v2] [(hm, .inr (12, [.ref m_manys, .ref m_reals, .ref m_factsOf, .ref m_possible, .int (nI q_undos), .int (nI q_models), .ref m_tape, .int (nI q_taped), .int q_fault, .int q_wrong, .int q_wrongAt, .int q_spot, .int q_place, .int q_token, .int q_value, .ref m_ends, .ref m_letters, .ref m_actOf, .ref m_whom, .ref m_actMany, .ref m_tokens, .ref m_afters, .ref m_afterOf, .int q_counted, .ref m_pile, .ref m_caseMany, .ref m_happen, .ref m_hasIf, .ref m_becomes, .ref m_goneOf, .ref m_heard, .ref m_pairs, .ref m_heaps, .int q_rounds, .int q_heapMany, .ref m_led, .ref m_newAt, .ref m_knowing, .ref m_firsts, .int (nI q_people), .ref m_secrets, .ref m_tried, .ref m_lanes, .ref m_lengths, .ref m_cells])), (m_lanes, .inl (E.2.1 1, 4, .inl f_lanes)), (m_lengths, .inl (E.2.1 1, 4, .inl f_lengths)), (m_cells, .inl (E.2.1 1, 192, .inl f_cells))] (Qi E (fun (rz : Int32) uz => (rz = (-1) ∧ uz = [(hm, .inr (12, [.ref m_manys, .ref m_reals, .ref m_factsOf, .ref m_possible, .int (nI q_undos), .int (nI q_models), .ref m_tape, .int (nI q_taped), .int q_fault, .int q_wrong, .int q_wrongAt, .int q_spot, .int q_place, .int q_token, .int q_value, .ref m_ends, .ref m_letters, .ref m_actOf, .ref m_whom, .ref m_actMany, .ref m_tokens, .ref m_afters, .ref m_afterOf, .int q_counted, .ref m_pile, .ref m_caseMany, .ref m_happen, .ref m_hasIf, .ref m_becomes, .ref m_goneOf, .ref m_heard, .ref m_pairs, .ref m_heaps, .int q_rounds, .int q_heapMany, .ref m_led, .ref m_newAt, .ref m_knowing, .ref m_firsts, .int (nI q_people), .ref m_secrets, .ref m_tried, .ref m_lanes, .ref m_lengths, .ref m_cells])), (m_lanes, .inl (E.2.1 1, 4, .inl f_lanes)), (m_lengths, .inl (E.2.1 1, 4, .inl f_lengths)), (m_cells, .inl (E.2.1 1, 192, .inl f_cells))] ∧ (v0.toInt < 0 ∨ 3 < v0.toInt ∨ v1.toInt < 0 ∨ 2 < v1.toInt ∨ 48 < v2.toInt)) ∨ (rz = (-14) ∧ uz = [(hm, .inr (12, [.ref m_manys, .ref m_reals, .ref m_factsOf, .ref m_possible, .int (nI q_undos), .int (nI q_models), .ref m_tape, .int (nI q_taped), .int q_fault, .int q_wrong, .int q_wrongAt, .int q_spot, .int q_place, .int q_token, .int q_value, .ref m_ends, .ref m_letters, .ref m_actOf, .ref m_whom, .ref m_actMany, .ref m_tokens, .ref m_afters, .ref m_afterOf, .int q_counted, .ref m_pile, .ref m_caseMany, .ref m_happen, .ref m_hasIf, .ref m_becomes, .ref m_goneOf, .ref m_heard, .ref m_pairs, .ref m_heaps, .int q_rounds, .int q_heapMany, .ref m_led, .ref m_newAt, .ref m_knowing, .ref m_firsts, .int (nI q_people), .ref m_secrets, .ref m_tried, .ref m_lanes, .ref m_lengths, .ref m_cells])), (m_lanes, .inl (E.2.1 1, 4, .inl f_lanes)), (m_lengths, .inl (E.2.1 1, 4, .inl f_lengths)), (m_cells, .inl (E.2.1 1, 192, .inl f_cells))] ∧ (0 ≤ v0.toInt) ∧ (v0.toInt ≤ 3) ∧ (0 ≤ v1.toInt) ∧ (v1.toInt ≤ 2) ∧ (v2.toInt < 0)) ∨ (∃ (k_ : Nat) (l_ : Nat) (n_ : Nat) (f_lanesz : Nat → Int32) (f_lengthsz : Nat → Int32) (f_cellsz : Nat → Int32), rz = 1 ∧ uz = [(hm, .inr (12, [.ref m_manys, .ref m_reals, .ref m_factsOf, .ref m_possible, .int (nI q_undos), .int (nI q_models), .ref m_tape, .int (nI q_taped), .int q_fault, .int q_wrong, .int q_wrongAt, .int q_spot, .int q_place, .int q_token, .int q_value, .ref m_ends, .ref m_letters, .ref m_actOf, .ref m_whom, .ref m_actMany, .ref m_tokens, .ref m_afters, .ref m_afterOf, .int q_counted, .ref m_pile, .ref m_caseMany, .ref m_happen, .ref m_hasIf, .ref m_becomes, .ref m_goneOf, .ref m_heard, .ref m_pairs, .ref m_heaps, .int q_rounds, .int q_heapMany, .ref m_led, .ref m_newAt, .ref m_knowing, .ref m_firsts, .int (nI q_people), .ref m_secrets, .ref m_tried, .ref m_lanes, .ref m_lengths, .ref m_cells])), (m_lanes, .inl (E.2.1 1, 4, .inl f_lanesz)), (m_lengths, .inl (E.2.1 1, 4, .inl f_lengthsz)), (m_cells, .inl (E.2.1 1, 192, .inl f_cellsz))] ∧ (NB 4 48 f_lengthsz) ∧ (v0 = nI k_) ∧ (v1 = nI l_) ∧ (v2 = nI n_) ∧ (k_ ≤ 3) ∧ (l_ ≤ 2) ∧ (n_ ≤ 48) ∧ (upd f_lanes k_ (nI l_) = f_lanesz) ∧ (upd f_lengths k_ (nI n_) = f_lengthsz) ∧ (CZR k_ 48 f_cells f_cellsz)))) 0 0 := by
  refine ct_of rfl rfl ?_
  intro X C hT hin hro
  show WW X 5 E 0 [(0, .ref hm), (1, .int v0), (2, .int v1), (3, .int v2)] [] [(hm, .inr (12, [.ref m_manys, .ref m_reals, .ref m_factsOf, .ref m_possible, .int (nI q_undos), .int (nI q_models), .ref m_tape, .int (nI q_taped), .int q_fault, .int q_wrong, .int q_wrongAt, .int q_spot, .int q_place, .int q_token, .int q_value, .ref m_ends, .ref m_letters, .ref m_actOf, .ref m_whom, .ref m_actMany, .ref m_tokens, .ref m_afters, .ref m_afterOf, .int q_counted, .ref m_pile, .ref m_caseMany, .ref m_happen, .ref m_hasIf, .ref m_becomes, .ref m_goneOf, .ref m_heard, .ref m_pairs, .ref m_heaps, .int q_rounds, .int q_heapMany, .ref m_led, .ref m_newAt, .ref m_knowing, .ref m_firsts, .int (nI q_people), .ref m_secrets, .ref m_tried, .ref m_lanes, .ref m_lengths, .ref m_cells])), (m_lanes, .inl (E.2.1 1, 4, .inl f_lanes)), (m_lengths, .inl (E.2.1 1, 4, .inl f_lengths)), (m_cells, .inl (E.2.1 1, 192, .inl f_cells))] 0 0
  refine ww_iload_n C dX12_sheet_0 1 rfl rfl ?_
  refine ww_i2l (v := v0.toInt64) C dX12_sheet_1 rfl ?_
  refine ww_lconst (v := 0) C dX12_sheet_2 rfl ?_
  refine ww_ldc2 C wv_X12_113 dX12_sheet_3 ?_
  refine ww_ci (wr := [(hm, .inr (12, [.ref m_manys, .ref m_reals, .ref m_factsOf, .ref m_possible, .int (nI q_undos), .int (nI q_models), .ref m_tape, .int (nI q_taped), .int q_fault, .int q_wrong, .int q_wrongAt, .int q_spot, .int q_place, .int q_token, .int q_value, .ref m_ends, .ref m_letters, .ref m_actOf, .ref m_whom, .ref m_actMany, .ref m_tokens, .ref m_afters, .ref m_afterOf, .int q_counted, .ref m_pile, .ref m_caseMany, .ref m_happen, .ref m_hasIf, .ref m_becomes, .ref m_goneOf, .ref m_heard, .ref m_pairs, .ref m_heaps, .int q_rounds, .int q_heapMany, .ref m_led, .ref m_newAt, .ref m_knowing, .ref m_firsts, .int (nI q_people), .ref m_secrets, .ref m_tried, .ref m_lanes, .ref m_lengths, .ref m_cells])), (m_lanes, .inl (E.2.1 1, 4, .inl f_lanes)), (m_lengths, .inl (E.2.1 1, 4, .inl f_lengths)), (m_cells, .inl (E.2.1 1, 192, .inl f_cells))]) (k' := 0) (n' := 0) C (run_S (As := [.long v0.toInt64, .long 0, .long 3]) (rest := []) C (r_in X.2.1 E ro v0.toInt64 0 3 v0.toInt 0 3 (Int32.toInt_toInt64 _) rfl rfl) ms_X12_in wl_X12_115 rfl rfl rfl rfl dX12_sheet_6) (roK hro) [] [0, 1, 2, 3] rfl rfl rfl rfl (fun r_1 uz hw => ?_)
  rcases hw with hw | hw
  · refine an3 hw ?_
    clear hw
    intro he_4 he_5 h_2 hw
    have h_3 := hw
    clear hw
    have he_4 := he_4.symm
    subst he_4
    subst he_5
    refine ww_eq (ws' := [(hm, .inr (12, [.ref m_manys, .ref m_reals, .ref m_factsOf, .ref m_possible, .int (nI q_undos), .int (nI q_models), .ref m_tape, .int (nI q_taped), .int q_fault, .int q_wrong, .int q_wrongAt, .int q_spot, .int q_place, .int q_token, .int q_value, .ref m_ends, .ref m_letters, .ref m_actOf, .ref m_whom, .ref m_actMany, .ref m_tokens, .ref m_afters, .ref m_afterOf, .int q_counted, .ref m_pile, .ref m_caseMany, .ref m_happen, .ref m_hasIf, .ref m_becomes, .ref m_goneOf, .ref m_heard, .ref m_pairs, .ref m_heaps, .int q_rounds, .int q_heapMany, .ref m_led, .ref m_newAt, .ref m_knowing, .ref m_firsts, .int (nI q_people), .ref m_secrets, .ref m_tried, .ref m_lanes, .ref m_lengths, .ref m_cells])), (m_lanes, .inl (E.2.1 1, 4, .inl f_lanes)), (m_lengths, .inl (E.2.1 1, 4, .inl f_lengths)), (m_cells, .inl (E.2.1 1, 192, .inl f_cells))]) ?_ rfl rfl rfl
    refine ww_if_eq_f (tgt := 30) C dX12_sheet_9 (by decide) (by decide) ?_
    refine ww_iload_n C dX12_sheet_12 2 rfl rfl ?_
    refine ww_i2l (v := v1.toInt64) C dX12_sheet_13 rfl ?_
    refine ww_lconst (v := 0) C dX12_sheet_14 rfl ?_
    refine ww_ldc2 C wv_X12_254 dX12_sheet_15 ?_
    refine ww_ci (wr := [(hm, .inr (12, [.ref m_manys, .ref m_reals, .ref m_factsOf, .ref m_possible, .int (nI q_undos), .int (nI q_models), .ref m_tape, .int (nI q_taped), .int q_fault, .int q_wrong, .int q_wrongAt, .int q_spot, .int q_place, .int q_token, .int q_value, .ref m_ends, .ref m_letters, .ref m_actOf, .ref m_whom, .ref m_actMany, .ref m_tokens, .ref m_afters, .ref m_afterOf, .int q_counted, .ref m_pile, .ref m_caseMany, .ref m_happen, .ref m_hasIf, .ref m_becomes, .ref m_goneOf, .ref m_heard, .ref m_pairs, .ref m_heaps, .int q_rounds, .int q_heapMany, .ref m_led, .ref m_newAt, .ref m_knowing, .ref m_firsts, .int (nI q_people), .ref m_secrets, .ref m_tried, .ref m_lanes, .ref m_lengths, .ref m_cells])), (m_lanes, .inl (E.2.1 1, 4, .inl f_lanes)), (m_lengths, .inl (E.2.1 1, 4, .inl f_lengths)), (m_cells, .inl (E.2.1 1, 192, .inl f_cells))]) (k' := 0) (n' := 0) C (run_S (As := [.long v1.toInt64, .long 0, .long 2]) (rest := []) C (r_in X.2.1 E ro v1.toInt64 0 2 v1.toInt 0 2 (Int32.toInt_toInt64 _) rfl rfl) ms_X12_in wl_X12_115 rfl rfl rfl rfl dX12_sheet_18) (roK hro) [] [0, 1, 2, 3] rfl rfl rfl rfl (fun r_9 uz hw => ?_)
    rcases hw with hw | hw
    · refine an3 hw ?_
      clear hw
      intro he_12 he_13 h_10 hw
      have h_11 := hw
      clear hw
      have he_12 := he_12.symm
      subst he_12
      subst he_13
      refine ww_eq (ws' := [(hm, .inr (12, [.ref m_manys, .ref m_reals, .ref m_factsOf, .ref m_possible, .int (nI q_undos), .int (nI q_models), .ref m_tape, .int (nI q_taped), .int q_fault, .int q_wrong, .int q_wrongAt, .int q_spot, .int q_place, .int q_token, .int q_value, .ref m_ends, .ref m_letters, .ref m_actOf, .ref m_whom, .ref m_actMany, .ref m_tokens, .ref m_afters, .ref m_afterOf, .int q_counted, .ref m_pile, .ref m_caseMany, .ref m_happen, .ref m_hasIf, .ref m_becomes, .ref m_goneOf, .ref m_heard, .ref m_pairs, .ref m_heaps, .int q_rounds, .int q_heapMany, .ref m_led, .ref m_newAt, .ref m_knowing, .ref m_firsts, .int (nI q_people), .ref m_secrets, .ref m_tried, .ref m_lanes, .ref m_lengths, .ref m_cells])), (m_lanes, .inl (E.2.1 1, 4, .inl f_lanes)), (m_lengths, .inl (E.2.1 1, 4, .inl f_lengths)), (m_cells, .inl (E.2.1 1, 192, .inl f_cells))]) ?_ rfl rfl rfl
      refine ww_if_eq_f (tgt := 30) C dX12_sheet_21 (by decide) (by decide) ?_
      refine ww_iload_n C dX12_sheet_24 3 rfl rfl ?_
      refine ww_bipush (v := 48) C dX12_sheet_25 rfl ?_
      refine ww_icmp_le (tgt := 32) C dX12_sheet_27 (by decide) (fun c_17 => ?_) (fun c_17 => ?_)
      · have zc_17 : v2.toInt ≤ 48 := i_le rfl rfl c_17
        refine ww_iload_n C dX12_sheet_32 3 rfl rfl ?_
        refine ww_if_ge (tgt := 39) C dX12_sheet_33 (by decide) (fun c_18 => ?_) (fun c_18 => ?_)
        · have zc_18 : v2.toInt ≥ 0 := i_le rfl rfl c_18
          obtain ⟨j_19, hj_19, rfl⟩ := i_nat (x := v0) (N := 3) (by omega) (by omega)
          have hzj_19 := nI_toInt (n := j_19) (by omega)
          obtain ⟨j_20, hj_20, rfl⟩ := i_nat (x := v1) (N := 2) (by omega) (by omega)
          have hzj_20 := nI_toInt (n := j_20) (by omega)
          obtain ⟨j_21, hj_21, rfl⟩ := i_nat (x := v2) (N := 48) (by omega) (by omega)
          have hzj_21 := nI_toInt (n := j_21) (by omega)
          refine ww_aload_n C dX12_sheet_39 0 rfl rfl ?_
          refine ww_get C fg_X12_96 0 rfl rfl dX12_sheet_40 ?_
          refine ww_iload_n C dX12_sheet_43 1 rfl rfl ?_
          refine ww_iload_n C dX12_sheet_44 2 rfl rfl ?_
          obtain ⟨f_22, ef_22⟩ : ∃ z : Nat → Int32, upd f_lanes j_19 (nI j_20) = z := ⟨_, rfl⟩
          refine ww_iast (ws' := [(hm, .inr (12, [.ref m_manys, .ref m_reals, .ref m_factsOf, .ref m_possible, .int (nI q_undos), .int (nI q_models), .ref m_tape, .int (nI q_taped), .int q_fault, .int q_wrong, .int q_wrongAt, .int q_spot, .int q_place, .int q_token, .int q_value, .ref m_ends, .ref m_letters, .ref m_actOf, .ref m_whom, .ref m_actMany, .ref m_tokens, .ref m_afters, .ref m_afterOf, .int q_counted, .ref m_pile, .ref m_caseMany, .ref m_happen, .ref m_hasIf, .ref m_becomes, .ref m_goneOf, .ref m_heard, .ref m_pairs, .ref m_heaps, .int q_rounds, .int q_heapMany, .ref m_led, .ref m_newAt, .ref m_knowing, .ref m_firsts, .int (nI q_people), .ref m_secrets, .ref m_tried, .ref m_lanes, .ref m_lengths, .ref m_cells])), (m_lanes, .inl (E.2.1 1, 4, .inl f_22)), (m_lengths, .inl (E.2.1 1, 4, .inl f_lengths)), (m_cells, .inl (E.2.1 1, 192, .inl f_cells))]) C 1 rfl (vp_in_nI (by omega) (by omega)) (ldn2 (by omega) ef_22) rfl dX12_sheet_45 ?_
          refine ww_aload_n C dX12_sheet_46 0 rfl rfl ?_
          refine ww_get C fg_X12_99 0 rfl rfl dX12_sheet_47 ?_
          refine ww_iload_n C dX12_sheet_50 1 rfl rfl ?_
          refine ww_iload_n C dX12_sheet_51 3 rfl rfl ?_
          obtain ⟨f_23, ef_23⟩ : ∃ z : Nat → Int32, upd f_lengths j_19 (nI j_21) = z := ⟨_, rfl⟩
          refine ww_iast (ws' := [(hm, .inr (12, [.ref m_manys, .ref m_reals, .ref m_factsOf, .ref m_possible, .int (nI q_undos), .int (nI q_models), .ref m_tape, .int (nI q_taped), .int q_fault, .int q_wrong, .int q_wrongAt, .int q_spot, .int q_place, .int q_token, .int q_value, .ref m_ends, .ref m_letters, .ref m_actOf, .ref m_whom, .ref m_actMany, .ref m_tokens, .ref m_afters, .ref m_afterOf, .int q_counted, .ref m_pile, .ref m_caseMany, .ref m_happen, .ref m_hasIf, .ref m_becomes, .ref m_goneOf, .ref m_heard, .ref m_pairs, .ref m_heaps, .int q_rounds, .int q_heapMany, .ref m_led, .ref m_newAt, .ref m_knowing, .ref m_firsts, .int (nI q_people), .ref m_secrets, .ref m_tried, .ref m_lanes, .ref m_lengths, .ref m_cells])), (m_lanes, .inl (E.2.1 1, 4, .inl f_22)), (m_lengths, .inl (E.2.1 1, 4, .inl f_23)), (m_cells, .inl (E.2.1 1, 192, .inl f_cells))]) C 2 rfl (vp_in_nI (by omega) (by omega)) (ldn2 (by omega) ef_23) rfl dX12_sheet_52 ?_
          refine ww_iconst (v := 0) C dX12_sheet_53 rfl ?_
          refine ww_istore (lv' := [(4, .int 0), (0, .ref hm), (1, .int (nI j_19)), (2, .int (nI j_20)), (3, .int (nI j_21))]) C dX12_sheet_54 rfl rfl ?_
          have loop_56 : ∀ (fu : Nat) (i1 : Nat) (g1 : Nat → Int32), (i1 ≤ 48) → (CZR j_19 i1 f_cells g1) → 48 - i1 < fu → WW X 5 E 56 [(4, .int (nI i1)), (0, .ref hm), (1, .int (nI j_19)), (2, .int (nI j_20)), (3, .int (nI j_21))] [] [(hm, .inr (12, [.ref m_manys, .ref m_reals, .ref m_factsOf, .ref m_possible, .int (nI q_undos), .int (nI q_models), .ref m_tape, .int (nI q_taped), .int q_fault, .int q_wrong, .int q_wrongAt, .int q_spot, .int q_place, .int q_token, .int q_value, .ref m_ends, .ref m_letters, .ref m_actOf, .ref m_whom, .ref m_actMany, .ref m_tokens, .ref m_afters, .ref m_afterOf, .int q_counted, .ref m_pile, .ref m_caseMany, .ref m_happen, .ref m_hasIf, .ref m_becomes, .ref m_goneOf, .ref m_heard, .ref m_pairs, .ref m_heaps, .int q_rounds, .int q_heapMany, .ref m_led, .ref m_newAt, .ref m_knowing, .ref m_firsts, .int (nI q_people), .ref m_secrets, .ref m_tried, .ref m_lanes, .ref m_lengths, .ref m_cells])), (m_lanes, .inl (E.2.1 1, 4, .inl f_22)), (m_lengths, .inl (E.2.1 1, 4, .inl f_23)), (m_cells, .inl (E.2.1 1, 192, .inl g1))] 0 0 := by
            intro fu
            induction fu with
            | zero => intro i1 g1 hi1 hczr hmeas; exact absurd hmeas (Nat.not_lt_zero _)
            | succ fu ih_56 =>
              intro i1 g1 hi1 hczr hmeas
              refine ww_iload C dX12_sheet_56 0 rfl ?_
              refine ww_bipush (v := 48) C dX12_sheet_58 rfl ?_
              refine ww_icmp_ge (tgt := 82) C dX12_sheet_60 (by decide) (fun c_24 => ?_) (fun c_24 => ?_)
              · have zc_24 : ((i1 : Nat) : Int) ≥ 48 := i_le rfl (nI_toInt (n := i1) (by omega)) c_24
                refine ww_iconst (v := 1) C dX12_sheet_82 rfl ?_
                exact ww_iret (u := [(hm, .inr (12, [.ref m_manys, .ref m_reals, .ref m_factsOf, .ref m_possible, .int (nI q_undos), .int (nI q_models), .ref m_tape, .int (nI q_taped), .int q_fault, .int q_wrong, .int q_wrongAt, .int q_spot, .int q_place, .int q_token, .int q_value, .ref m_ends, .ref m_letters, .ref m_actOf, .ref m_whom, .ref m_actMany, .ref m_tokens, .ref m_afters, .ref m_afterOf, .int q_counted, .ref m_pile, .ref m_caseMany, .ref m_happen, .ref m_hasIf, .ref m_becomes, .ref m_goneOf, .ref m_heard, .ref m_pairs, .ref m_heaps, .int q_rounds, .int q_heapMany, .ref m_led, .ref m_newAt, .ref m_knowing, .ref m_firsts, .int (nI q_people), .ref m_secrets, .ref m_tried, .ref m_lanes, .ref m_lengths, .ref m_cells])), (m_lanes, .inl (E.2.1 1, 4, .inl f_22)), (m_lengths, .inl (E.2.1 1, 4, .inl f_23)), (m_cells, .inl (E.2.1 1, 192, .inl g1))]) C hT [0, 1, 2, 3] rfl rfl rfl rfl dX12_sheet_83 (Or.inr (Or.inr ⟨j_19, j_20, j_21, f_22, f_23, g1, rfl, rfl, (NB.put hb_lengths (t := j_21) (by omega) (by decide) ef_23), rfl, rfl, rfl, (by omega), (by omega), (by omega), ef_22, ef_23, (by rw [show 48 = i1 by omega]; exact hczr)⟩))
              · have zc_24 : ((i1 : Nat) : Int) < 48 := i_nle rfl (nI_toInt (n := i1) (by omega)) c_24
                refine ww_aload_n C dX12_sheet_63 1 rfl rfl ?_
                refine ww_get C fg_X12_102 0 rfl rfl dX12_sheet_64 ?_
                refine ww_bipush (v := 48) C dX12_sheet_67 rfl ?_
                refine ww_iload_n C dX12_sheet_69 2 rfl rfl ?_
                refine ww_imul (v := (nI (48 * j_19))) C dX12_sheet_70 (pk_mul 48 j_19) ?_
                refine ww_iload C dX12_sheet_71 0 rfl ?_
                refine ww_iadd (v := (nI ((48 * j_19) + i1))) C dX12_sheet_73 (nI_add (48 * j_19) i1) ?_
                refine ww_iconst (v := 0) C dX12_sheet_74 rfl ?_
                obtain ⟨f_25, ef_25⟩ : ∃ z : Nat → Int32, upd g1 ((48 * j_19) + i1) 0 = z := ⟨_, rfl⟩
                refine ww_iast (ws' := [(hm, .inr (12, [.ref m_manys, .ref m_reals, .ref m_factsOf, .ref m_possible, .int (nI q_undos), .int (nI q_models), .ref m_tape, .int (nI q_taped), .int q_fault, .int q_wrong, .int q_wrongAt, .int q_spot, .int q_place, .int q_token, .int q_value, .ref m_ends, .ref m_letters, .ref m_actOf, .ref m_whom, .ref m_actMany, .ref m_tokens, .ref m_afters, .ref m_afterOf, .int q_counted, .ref m_pile, .ref m_caseMany, .ref m_happen, .ref m_hasIf, .ref m_becomes, .ref m_goneOf, .ref m_heard, .ref m_pairs, .ref m_heaps, .int q_rounds, .int q_heapMany, .ref m_led, .ref m_newAt, .ref m_knowing, .ref m_firsts, .int (nI q_people), .ref m_secrets, .ref m_tried, .ref m_lanes, .ref m_lengths, .ref m_cells])), (m_lanes, .inl (E.2.1 1, 4, .inl f_22)), (m_lengths, .inl (E.2.1 1, 4, .inl f_23)), (m_cells, .inl (E.2.1 1, 192, .inl f_25))]) C 3 rfl (vp_in_nI (by omega) (by omega)) (ldn2 (by omega) ef_25) rfl dX12_sheet_75 ?_
                refine ww_iinc (j := 0) (v := (nI (i1 + 1))) (lv' := [(4, .int (nI (i1 + 1))), (0, .ref hm), (1, .int (nI j_19)), (2, .int (nI j_20)), (3, .int (nI j_21))]) C dX12_sheet_76 rfl (nI_add i1 1) rfl rfl ?_
                refine ww_goto (tgt := 56) C dX12_sheet_79 (by decide) ?_
                exact ww_lv [0, 1, 2, 3, 4] rfl (ww_sub [0, 1, 2, 3] rfl rfl (ih_56 (i1 + 1) f_25 (by omega) (CZR.ext hczr (by omega) ef_25) (by omega)))
          exact ww_lv [0, 1, 2, 3, 4] rfl (ww_sub [0, 1, 2, 3] rfl rfl (loop_56 _ 0 f_cells (by omega) CZR.nil (Nat.lt_succ_self _)))
        · have zc_18 : v2.toInt < 0 := i_nle rfl rfl c_18
          refine ww_bipush (v := (-14)) C dX12_sheet_36 rfl ?_
          exact ww_iret (u := [(hm, .inr (12, [.ref m_manys, .ref m_reals, .ref m_factsOf, .ref m_possible, .int (nI q_undos), .int (nI q_models), .ref m_tape, .int (nI q_taped), .int q_fault, .int q_wrong, .int q_wrongAt, .int q_spot, .int q_place, .int q_token, .int q_value, .ref m_ends, .ref m_letters, .ref m_actOf, .ref m_whom, .ref m_actMany, .ref m_tokens, .ref m_afters, .ref m_afterOf, .int q_counted, .ref m_pile, .ref m_caseMany, .ref m_happen, .ref m_hasIf, .ref m_becomes, .ref m_goneOf, .ref m_heard, .ref m_pairs, .ref m_heaps, .int q_rounds, .int q_heapMany, .ref m_led, .ref m_newAt, .ref m_knowing, .ref m_firsts, .int (nI q_people), .ref m_secrets, .ref m_tried, .ref m_lanes, .ref m_lengths, .ref m_cells])), (m_lanes, .inl (E.2.1 1, 4, .inl f_lanes)), (m_lengths, .inl (E.2.1 1, 4, .inl f_lengths)), (m_cells, .inl (E.2.1 1, 192, .inl f_cells))]) C hT [0, 1, 2, 3] rfl rfl rfl rfl dX12_sheet_38 (Or.inr (Or.inl ⟨rfl, rfl, (by first | assumption | omega | decide), (by first | assumption | omega | decide), (by first | assumption | omega | decide), (by first | assumption | omega | decide), (by first | assumption | omega | decide)⟩))
      · have zc_17 : v2.toInt > 48 := i_nle rfl rfl c_17
        refine ww_iconst (v := (-1)) C dX12_sheet_30 rfl ?_
        exact ww_iret (u := [(hm, .inr (12, [.ref m_manys, .ref m_reals, .ref m_factsOf, .ref m_possible, .int (nI q_undos), .int (nI q_models), .ref m_tape, .int (nI q_taped), .int q_fault, .int q_wrong, .int q_wrongAt, .int q_spot, .int q_place, .int q_token, .int q_value, .ref m_ends, .ref m_letters, .ref m_actOf, .ref m_whom, .ref m_actMany, .ref m_tokens, .ref m_afters, .ref m_afterOf, .int q_counted, .ref m_pile, .ref m_caseMany, .ref m_happen, .ref m_hasIf, .ref m_becomes, .ref m_goneOf, .ref m_heard, .ref m_pairs, .ref m_heaps, .int q_rounds, .int q_heapMany, .ref m_led, .ref m_newAt, .ref m_knowing, .ref m_firsts, .int (nI q_people), .ref m_secrets, .ref m_tried, .ref m_lanes, .ref m_lengths, .ref m_cells])), (m_lanes, .inl (E.2.1 1, 4, .inl f_lanes)), (m_lengths, .inl (E.2.1 1, 4, .inl f_lengths)), (m_cells, .inl (E.2.1 1, 192, .inl f_cells))]) C hT [0, 1, 2, 3] rfl rfl rfl rfl dX12_sheet_31 (Or.inl ⟨rfl, rfl, (by first | assumption | omega | decide)⟩)
    · refine an2 hw ?_
      clear hw
      intro he_15 he_16 hw
      have h_14 := hw
      clear hw
      have he_15 := he_15.symm
      subst he_15
      subst he_16
      refine ww_eq (ws' := [(hm, .inr (12, [.ref m_manys, .ref m_reals, .ref m_factsOf, .ref m_possible, .int (nI q_undos), .int (nI q_models), .ref m_tape, .int (nI q_taped), .int q_fault, .int q_wrong, .int q_wrongAt, .int q_spot, .int q_place, .int q_token, .int q_value, .ref m_ends, .ref m_letters, .ref m_actOf, .ref m_whom, .ref m_actMany, .ref m_tokens, .ref m_afters, .ref m_afterOf, .int q_counted, .ref m_pile, .ref m_caseMany, .ref m_happen, .ref m_hasIf, .ref m_becomes, .ref m_goneOf, .ref m_heard, .ref m_pairs, .ref m_heaps, .int q_rounds, .int q_heapMany, .ref m_led, .ref m_newAt, .ref m_knowing, .ref m_firsts, .int (nI q_people), .ref m_secrets, .ref m_tried, .ref m_lanes, .ref m_lengths, .ref m_cells])), (m_lanes, .inl (E.2.1 1, 4, .inl f_lanes)), (m_lengths, .inl (E.2.1 1, 4, .inl f_lengths)), (m_cells, .inl (E.2.1 1, 192, .inl f_cells))]) ?_ rfl rfl rfl
      refine ww_if_eq_t (tgt := 30) C dX12_sheet_21 (by decide) (rfl) ?_
      refine ww_iconst (v := (-1)) C dX12_sheet_30 rfl ?_
      exact ww_iret (u := [(hm, .inr (12, [.ref m_manys, .ref m_reals, .ref m_factsOf, .ref m_possible, .int (nI q_undos), .int (nI q_models), .ref m_tape, .int (nI q_taped), .int q_fault, .int q_wrong, .int q_wrongAt, .int q_spot, .int q_place, .int q_token, .int q_value, .ref m_ends, .ref m_letters, .ref m_actOf, .ref m_whom, .ref m_actMany, .ref m_tokens, .ref m_afters, .ref m_afterOf, .int q_counted, .ref m_pile, .ref m_caseMany, .ref m_happen, .ref m_hasIf, .ref m_becomes, .ref m_goneOf, .ref m_heard, .ref m_pairs, .ref m_heaps, .int q_rounds, .int q_heapMany, .ref m_led, .ref m_newAt, .ref m_knowing, .ref m_firsts, .int (nI q_people), .ref m_secrets, .ref m_tried, .ref m_lanes, .ref m_lengths, .ref m_cells])), (m_lanes, .inl (E.2.1 1, 4, .inl f_lanes)), (m_lengths, .inl (E.2.1 1, 4, .inl f_lengths)), (m_cells, .inl (E.2.1 1, 192, .inl f_cells))]) C hT [0, 1, 2, 3] rfl rfl rfl rfl dX12_sheet_31 (Or.inl ⟨rfl, rfl, (by first | assumption | omega | decide)⟩)
  · refine an2 hw ?_
    clear hw
    intro he_7 he_8 hw
    have h_6 := hw
    clear hw
    have he_7 := he_7.symm
    subst he_7
    subst he_8
    refine ww_eq (ws' := [(hm, .inr (12, [.ref m_manys, .ref m_reals, .ref m_factsOf, .ref m_possible, .int (nI q_undos), .int (nI q_models), .ref m_tape, .int (nI q_taped), .int q_fault, .int q_wrong, .int q_wrongAt, .int q_spot, .int q_place, .int q_token, .int q_value, .ref m_ends, .ref m_letters, .ref m_actOf, .ref m_whom, .ref m_actMany, .ref m_tokens, .ref m_afters, .ref m_afterOf, .int q_counted, .ref m_pile, .ref m_caseMany, .ref m_happen, .ref m_hasIf, .ref m_becomes, .ref m_goneOf, .ref m_heard, .ref m_pairs, .ref m_heaps, .int q_rounds, .int q_heapMany, .ref m_led, .ref m_newAt, .ref m_knowing, .ref m_firsts, .int (nI q_people), .ref m_secrets, .ref m_tried, .ref m_lanes, .ref m_lengths, .ref m_cells])), (m_lanes, .inl (E.2.1 1, 4, .inl f_lanes)), (m_lengths, .inl (E.2.1 1, 4, .inl f_lengths)), (m_cells, .inl (E.2.1 1, 192, .inl f_cells))]) ?_ rfl rfl rfl
    refine ww_if_eq_t (tgt := 30) C dX12_sheet_9 (by decide) (rfl) ?_
    refine ww_iconst (v := (-1)) C dX12_sheet_30 rfl ?_
    exact ww_iret (u := [(hm, .inr (12, [.ref m_manys, .ref m_reals, .ref m_factsOf, .ref m_possible, .int (nI q_undos), .int (nI q_models), .ref m_tape, .int (nI q_taped), .int q_fault, .int q_wrong, .int q_wrongAt, .int q_spot, .int q_place, .int q_token, .int q_value, .ref m_ends, .ref m_letters, .ref m_actOf, .ref m_whom, .ref m_actMany, .ref m_tokens, .ref m_afters, .ref m_afterOf, .int q_counted, .ref m_pile, .ref m_caseMany, .ref m_happen, .ref m_hasIf, .ref m_becomes, .ref m_goneOf, .ref m_heard, .ref m_pairs, .ref m_heaps, .int q_rounds, .int q_heapMany, .ref m_led, .ref m_newAt, .ref m_knowing, .ref m_firsts, .int (nI q_people), .ref m_secrets, .ref m_tried, .ref m_lanes, .ref m_lengths, .ref m_cells])), (m_lanes, .inl (E.2.1 1, 4, .inl f_lanes)), (m_lengths, .inl (E.2.1 1, 4, .inl f_lengths)), (m_cells, .inl (E.2.1 1, 192, .inl f_cells))]) C hT [0, 1, 2, 3] rfl rfl rfl rfl dX12_sheet_31 (Or.inl ⟨rfl, rfl, (by first | assumption | omega | decide)⟩)
theorem dX12_write_0 : decode cX12_write 0 = .ok (.iload_n 1, 1) := dl_27 (by decide +kernel)
theorem dX12_write_1 : decode cX12_write 1 = .ok (.i2l, 1) := dl_133 (by decide +kernel)
theorem dX12_write_2 : decode cX12_write 2 = .ok (.lconst 0, 1) := dl_9 (by decide +kernel)
theorem dX12_write_3 : decode cX12_write 3 = .ok (.ldc2_w 113, 3) := dl_20 (by decide +kernel)
theorem dX12_write_6 : decode cX12_write 6 = .ok (.invokestatic 115, 3) := dl_184 (by decide +kernel)
theorem dX12_write_9 : decode cX12_write 9 = .ok (.ifCond .ne 5, 3) := dl_154 (by decide +kernel)
theorem dX12_write_14 : decode cX12_write 14 = .ok (.aload_n 0, 1) := dl_42 (by decide +kernel)
theorem dX12_write_15 : decode cX12_write 15 = .ok (.getfield 96, 3) := dl_180 (by decide +kernel)
theorem dX12_write_18 : decode cX12_write 18 = .ok (.iload_n 1, 1) := dl_27 (by decide +kernel)
theorem dX12_write_19 : decode cX12_write 19 = .ok (.iaload, 1) := dl_46 (by decide +kernel)
theorem dX12_write_20 : decode cX12_write 20 = .ok (.bipush (-4), 2) := dl_16 (by decide +kernel)
theorem dX12_write_22 : decode cX12_write 22 = .ok (.if_icmp .ne 6, 3) := dl_160 (by decide +kernel)
theorem dX12_write_28 : decode cX12_write 28 = .ok (.iload_n 2, 1) := dl_28 (by decide +kernel)
theorem dX12_write_29 : decode cX12_write 29 = .ok (.i2l, 1) := dl_133 (by decide +kernel)
theorem dX12_write_30 : decode cX12_write 30 = .ok (.lconst 0, 1) := dl_9 (by decide +kernel)
theorem dX12_write_31 : decode cX12_write 31 = .ok (.aload_n 0, 1) := dl_42 (by decide +kernel)
theorem dX12_write_32 : decode cX12_write 32 = .ok (.getfield 99, 3) := dl_180 (by decide +kernel)
theorem dX12_write_35 : decode cX12_write 35 = .ok (.iload_n 1, 1) := dl_27 (by decide +kernel)
theorem dX12_write_36 : decode cX12_write 36 = .ok (.iaload, 1) := dl_46 (by decide +kernel)
theorem dX12_write_37 : decode cX12_write 37 = .ok (.iconst 1, 1) := dl_4 (by decide +kernel)
theorem dX12_write_38 : decode cX12_write 38 = .ok (.isub, 1) := dl_100 (by decide +kernel)
theorem dX12_write_39 : decode cX12_write 39 = .ok (.i2l, 1) := dl_133 (by decide +kernel)
theorem dX12_write_40 : decode cX12_write 40 = .ok (.invokestatic 115, 3) := dl_184 (by decide +kernel)
theorem dX12_write_43 : decode cX12_write 43 = .ok (.ifCond .ne 6, 3) := dl_154 (by decide +kernel)
theorem dX12_write_49 : decode cX12_write 49 = .ok (.aload_n 0, 1) := dl_42 (by decide +kernel)
theorem dX12_write_50 : decode cX12_write 50 = .ok (.getfield 102, 3) := dl_180 (by decide +kernel)
theorem dX12_write_53 : decode cX12_write 53 = .ok (.bipush 48, 2) := dl_16 (by decide +kernel)
theorem dX12_write_55 : decode cX12_write 55 = .ok (.iload_n 1, 1) := dl_27 (by decide +kernel)
theorem dX12_write_56 : decode cX12_write 56 = .ok (.imul, 1) := dl_104 (by decide +kernel)
theorem dX12_write_57 : decode cX12_write 57 = .ok (.iload_n 2, 1) := dl_28 (by decide +kernel)
theorem dX12_write_58 : decode cX12_write 58 = .ok (.iadd, 1) := dl_96 (by decide +kernel)
theorem dX12_write_59 : decode cX12_write 59 = .ok (.aload_n 0, 1) := dl_42 (by decide +kernel)
theorem dX12_write_60 : decode cX12_write 60 = .ok (.getfield 96, 3) := dl_180 (by decide +kernel)
theorem dX12_write_63 : decode cX12_write 63 = .ok (.iload_n 1, 1) := dl_27 (by decide +kernel)
theorem dX12_write_64 : decode cX12_write 64 = .ok (.iaload, 1) := dl_46 (by decide +kernel)
theorem dX12_write_65 : decode cX12_write 65 = .ok (.ifCond .ne 13, 3) := dl_154 (by decide +kernel)
theorem dX12_write_78 : decode cX12_write 78 = .ok (.aload_n 0, 1) := dl_42 (by decide +kernel)
theorem dX12_write_79 : decode cX12_write 79 = .ok (.getfield 96, 3) := dl_180 (by decide +kernel)
theorem dX12_write_82 : decode cX12_write 82 = .ok (.iload_n 1, 1) := dl_27 (by decide +kernel)
theorem dX12_write_83 : decode cX12_write 83 = .ok (.iaload, 1) := dl_46 (by decide +kernel)
theorem dX12_write_84 : decode cX12_write 84 = .ok (.iconst 1, 1) := dl_4 (by decide +kernel)
theorem dX12_write_85 : decode cX12_write 85 = .ok (.if_icmp .ne 13, 3) := dl_160 (by decide +kernel)
theorem dX12_write_98 : decode cX12_write 98 = .ok (.iload_n 3, 1) := dl_29 (by decide +kernel)
theorem dX12_write_99 : decode cX12_write 99 = .ok (.iastore, 1) := dl_79 (by decide +kernel)
theorem dX12_write_100 : decode cX12_write 100 = .ok (.iconst 1, 1) := dl_4 (by decide +kernel)
theorem dX12_write_101 : decode cX12_write 101 = .ok (.ireturn, 1) := dl_172 (by decide +kernel)
theorem dX12_write_88 : decode cX12_write 88 = .ok (.iload_n 3, 1) := dl_29 (by decide +kernel)
theorem dX12_write_89 : decode cX12_write 89 = .ok (.bipush 16, 2) := dl_16 (by decide +kernel)
theorem dX12_write_91 : decode cX12_write 91 = .ok (.ishl, 1) := dl_120 (by decide +kernel)
theorem dX12_write_92 : decode cX12_write 92 = .ok (.bipush 16, 2) := dl_16 (by decide +kernel)
theorem dX12_write_94 : decode cX12_write 94 = .ok (.ishr, 1) := dl_122 (by decide +kernel)
theorem dX12_write_95 : decode cX12_write 95 = .ok (.goto 4, 3) := dl_167 (by decide +kernel)
theorem dX12_write_68 : decode cX12_write 68 = .ok (.iload_n 3, 1) := dl_29 (by decide +kernel)
theorem dX12_write_69 : decode cX12_write 69 = .ok (.bipush 24, 2) := dl_16 (by decide +kernel)
theorem dX12_write_71 : decode cX12_write 71 = .ok (.ishl, 1) := dl_120 (by decide +kernel)
theorem dX12_write_72 : decode cX12_write 72 = .ok (.bipush 24, 2) := dl_16 (by decide +kernel)
theorem dX12_write_74 : decode cX12_write 74 = .ok (.ishr, 1) := dl_122 (by decide +kernel)
theorem dX12_write_75 : decode cX12_write 75 = .ok (.goto 24, 3) := dl_167 (by decide +kernel)
theorem dX12_write_46 : decode cX12_write 46 = .ok (.bipush (-12), 2) := dl_16 (by decide +kernel)
theorem dX12_write_48 : decode cX12_write 48 = .ok (.ireturn, 1) := dl_172 (by decide +kernel)
theorem dX12_write_25 : decode cX12_write 25 = .ok (.bipush (-11), 2) := dl_16 (by decide +kernel)
theorem dX12_write_27 : decode cX12_write 27 = .ok (.ireturn, 1) := dl_172 (by decide +kernel)
theorem dX12_write_12 : decode cX12_write 12 = .ok (.iconst (-1), 1) := dl_2 (by decide +kernel)
theorem dX12_write_13 : decode cX12_write 13 = .ok (.ireturn, 1) := dl_172 (by decide +kernel)
set_option maxRecDepth 100000 in
set_option maxHeartbeats 4000000 in
theorem y_write (l : Launch) (E : EV) (ro : va_W) (hm : Nat) (v0 : Int32) (v1 : Int32) (v2 : Int32) (m_manys : Nat) (m_reals : Nat) (m_factsOf : Nat) (m_possible : Nat) (q_undos : Nat) (q_models : Nat) (m_tape : Nat) (q_taped : Nat) (q_fault : Int32) (q_wrong : Int32) (q_wrongAt : Int32) (q_spot : Int32) (q_place : Int32) (q_token : Int32) (q_value : Int32) (m_ends : Nat) (m_letters : Nat) (m_actOf : Nat) (m_whom : Nat) (m_actMany : Nat) (m_tokens : Nat) (m_afters : Nat) (m_afterOf : Nat) (q_counted : Int32) (m_pile : Nat) (m_caseMany : Nat) (m_happen : Nat) (m_hasIf : Nat) (m_becomes : Nat) (m_goneOf : Nat) (m_heard : Nat) (m_pairs : Nat) (m_heaps : Nat) (q_rounds : Int32) (q_heapMany : Int32) (m_led : Nat) (m_newAt : Nat) (m_knowing : Nat) (m_firsts : Nat) (q_people : Nat) (m_secrets : Nat) (m_tried : Nat) (m_lanes : Nat) (m_lengths : Nat) (m_cells : Nat) (f_lanes : Nat → Int32) (f_lengths : Nat → Int32) (f_cells : Nat → Int32) (hb_lengths : NB 4 48 f_lengths) : CT l yX12_write (Cond.code yX12_write cX12_write 4 (some .int) :: TB) ({ frames := 1, cells := 0, slots := 0, locals := 25 }) E ro [.ref hm, .int v0, .int v1, .int v2] [(hm, .inr (12, [.ref m_manys, .ref m_reals, .ref m_factsOf, .ref m_possible, .int (nI q_undos), .int (nI q_models), .ref m_tape, .int (nI q_taped), .int q_fault, .int q_wrong, .int q_wrongAt, .int q_spot, .int q_place, .int q_token, .int q_value, .ref m_ends, .ref m_letters, .ref m_actOf, .ref m_whom, .ref m_actMany, .ref m_tokens, .ref m_afters, .ref m_afterOf, .int q_counted, .ref m_pile, .ref m_caseMany, .ref m_happen, .ref m_hasIf, .ref m_becomes, .ref m_goneOf, .ref m_heard, .ref m_pairs, .ref m_heaps, .int q_rounds, .int q_heapMany, .ref m_led, .ref m_newAt, .ref m_knowing, .ref m_firsts, .int (nI q_people), .ref m_secrets, .ref m_tried, .ref m_lanes, .ref m_lengths, .ref m_cells])), (m_lanes, .inl (E.2.1 1, 4, .inl f_lanes)), (m_lengths, .inl (E.2.1 1, 4, .inl f_lengths)), (m_cells, .inl (E.2.1 1, 192, .inl f_cells))] (Qi E (fun (rz : Int32) uz => (rz = (-1) ∧ uz = [(hm, .inr (12, [.ref m_manys, .ref m_reals, .ref m_factsOf, .ref m_possible, .int (nI q_undos), .int (nI q_models), .ref m_tape, .int (nI q_taped), .int q_fault, .int q_wrong, .int q_wrongAt, .int q_spot, .int q_place, .int q_token, .int q_value, .ref m_ends, .ref m_letters, .ref m_actOf, .ref m_whom, .ref m_actMany, .ref m_tokens, .ref m_afters, .ref m_afterOf, .int q_counted, .ref m_pile, .ref m_caseMany, .ref m_happen, .ref m_hasIf, .ref m_becomes, .ref m_goneOf, .ref m_heard, .ref m_pairs, .ref m_heaps, .int q_rounds, .int q_heapMany, .ref m_led, .ref m_newAt, .ref m_knowing, .ref m_firsts, .int (nI q_people), .ref m_secrets, .ref m_tried, .ref m_lanes, .ref m_lengths, .ref m_cells])), (m_lanes, .inl (E.2.1 1, 4, .inl f_lanes)), (m_lengths, .inl (E.2.1 1, 4, .inl f_lengths)), (m_cells, .inl (E.2.1 1, 192, .inl f_cells))] ∧ (v0.toInt < 0 ∨ 3 < v0.toInt)) ∨ (∃ (k_ : Nat), rz = (-11) ∧ uz = [(hm, .inr (12, [.ref m_manys, .ref m_reals, .ref m_factsOf, .ref m_possible, .int (nI q_undos), .int (nI q_models), .ref m_tape, .int (nI q_taped), .int q_fault, .int q_wrong, .int q_wrongAt, .int q_spot, .int q_place, .int q_token, .int q_value, .ref m_ends, .ref m_letters, .ref m_actOf, .ref m_whom, .ref m_actMany, .ref m_tokens, .ref m_afters, .ref m_afterOf, .int q_counted, .ref m_pile, .ref m_caseMany, .ref m_happen, .ref m_hasIf, .ref m_becomes, .ref m_goneOf, .ref m_heard, .ref m_pairs, .ref m_heaps, .int q_rounds, .int q_heapMany, .ref m_led, .ref m_newAt, .ref m_knowing, .ref m_firsts, .int (nI q_people), .ref m_secrets, .ref m_tried, .ref m_lanes, .ref m_lengths, .ref m_cells])), (m_lanes, .inl (E.2.1 1, 4, .inl f_lanes)), (m_lengths, .inl (E.2.1 1, 4, .inl f_lengths)), (m_cells, .inl (E.2.1 1, 192, .inl f_cells))] ∧ (v0 = nI k_) ∧ (k_ ≤ 3) ∧ (f_lanes k_ = -4)) ∨ (∃ (k_ : Nat), rz = (-12) ∧ uz = [(hm, .inr (12, [.ref m_manys, .ref m_reals, .ref m_factsOf, .ref m_possible, .int (nI q_undos), .int (nI q_models), .ref m_tape, .int (nI q_taped), .int q_fault, .int q_wrong, .int q_wrongAt, .int q_spot, .int q_place, .int q_token, .int q_value, .ref m_ends, .ref m_letters, .ref m_actOf, .ref m_whom, .ref m_actMany, .ref m_tokens, .ref m_afters, .ref m_afterOf, .int q_counted, .ref m_pile, .ref m_caseMany, .ref m_happen, .ref m_hasIf, .ref m_becomes, .ref m_goneOf, .ref m_heard, .ref m_pairs, .ref m_heaps, .int q_rounds, .int q_heapMany, .ref m_led, .ref m_newAt, .ref m_knowing, .ref m_firsts, .int (nI q_people), .ref m_secrets, .ref m_tried, .ref m_lanes, .ref m_lengths, .ref m_cells])), (m_lanes, .inl (E.2.1 1, 4, .inl f_lanes)), (m_lengths, .inl (E.2.1 1, 4, .inl f_lengths)), (m_cells, .inl (E.2.1 1, 192, .inl f_cells))] ∧ (v0 = nI k_) ∧ (k_ ≤ 3) ∧ (f_lanes k_ ≠ -4) ∧ (v1.toInt < 0 ∨ ((cN f_lengths k_ : Nat) : Int) ≤ v1.toInt)) ∨ (∃ (k_ : Nat) (i_ : Nat) (f_cellsz : Nat → Int32), rz = 1 ∧ uz = [(hm, .inr (12, [.ref m_manys, .ref m_reals, .ref m_factsOf, .ref m_possible, .int (nI q_undos), .int (nI q_models), .ref m_tape, .int (nI q_taped), .int q_fault, .int q_wrong, .int q_wrongAt, .int q_spot, .int q_place, .int q_token, .int q_value, .ref m_ends, .ref m_letters, .ref m_actOf, .ref m_whom, .ref m_actMany, .ref m_tokens, .ref m_afters, .ref m_afterOf, .int q_counted, .ref m_pile, .ref m_caseMany, .ref m_happen, .ref m_hasIf, .ref m_becomes, .ref m_goneOf, .ref m_heard, .ref m_pairs, .ref m_heaps, .int q_rounds, .int q_heapMany, .ref m_led, .ref m_newAt, .ref m_knowing, .ref m_firsts, .int (nI q_people), .ref m_secrets, .ref m_tried, .ref m_lanes, .ref m_lengths, .ref m_cells])), (m_lanes, .inl (E.2.1 1, 4, .inl f_lanes)), (m_lengths, .inl (E.2.1 1, 4, .inl f_lengths)), (m_cells, .inl (E.2.1 1, 192, .inl f_cellsz))] ∧ (v0 = nI k_) ∧ (k_ ≤ 3) ∧ (f_lanes k_ ≠ -4) ∧ (0 ≤ v1.toInt ∧ v1.toInt < ((cN f_lengths k_ : Nat) : Int)) ∧ (v1 = nI i_) ∧ (i_ < 48) ∧ (upd f_cells (48 * k_ + i_) (putw (f_lanes k_) v2) = f_cellsz)))) 0 0 := by
  refine ct_of rfl rfl ?_
  intro X C hT hin hro
  show WW X 4 E 0 [(0, .ref hm), (1, .int v0), (2, .int v1), (3, .int v2)] [] [(hm, .inr (12, [.ref m_manys, .ref m_reals, .ref m_factsOf, .ref m_possible, .int (nI q_undos), .int (nI q_models), .ref m_tape, .int (nI q_taped), .int q_fault, .int q_wrong, .int q_wrongAt, .int q_spot, .int q_place, .int q_token, .int q_value, .ref m_ends, .ref m_letters, .ref m_actOf, .ref m_whom, .ref m_actMany, .ref m_tokens, .ref m_afters, .ref m_afterOf, .int q_counted, .ref m_pile, .ref m_caseMany, .ref m_happen, .ref m_hasIf, .ref m_becomes, .ref m_goneOf, .ref m_heard, .ref m_pairs, .ref m_heaps, .int q_rounds, .int q_heapMany, .ref m_led, .ref m_newAt, .ref m_knowing, .ref m_firsts, .int (nI q_people), .ref m_secrets, .ref m_tried, .ref m_lanes, .ref m_lengths, .ref m_cells])), (m_lanes, .inl (E.2.1 1, 4, .inl f_lanes)), (m_lengths, .inl (E.2.1 1, 4, .inl f_lengths)), (m_cells, .inl (E.2.1 1, 192, .inl f_cells))] 0 0
  refine ww_iload_n C dX12_write_0 1 rfl rfl ?_
  refine ww_i2l (v := v0.toInt64) C dX12_write_1 rfl ?_
  refine ww_lconst (v := 0) C dX12_write_2 rfl ?_
  refine ww_ldc2 C wv_X12_113 dX12_write_3 ?_
  refine ww_ci (wr := [(hm, .inr (12, [.ref m_manys, .ref m_reals, .ref m_factsOf, .ref m_possible, .int (nI q_undos), .int (nI q_models), .ref m_tape, .int (nI q_taped), .int q_fault, .int q_wrong, .int q_wrongAt, .int q_spot, .int q_place, .int q_token, .int q_value, .ref m_ends, .ref m_letters, .ref m_actOf, .ref m_whom, .ref m_actMany, .ref m_tokens, .ref m_afters, .ref m_afterOf, .int q_counted, .ref m_pile, .ref m_caseMany, .ref m_happen, .ref m_hasIf, .ref m_becomes, .ref m_goneOf, .ref m_heard, .ref m_pairs, .ref m_heaps, .int q_rounds, .int q_heapMany, .ref m_led, .ref m_newAt, .ref m_knowing, .ref m_firsts, .int (nI q_people), .ref m_secrets, .ref m_tried, .ref m_lanes, .ref m_lengths, .ref m_cells])), (m_lanes, .inl (E.2.1 1, 4, .inl f_lanes)), (m_lengths, .inl (E.2.1 1, 4, .inl f_lengths)), (m_cells, .inl (E.2.1 1, 192, .inl f_cells))]) (k' := 0) (n' := 0) C (run_S (As := [.long v0.toInt64, .long 0, .long 3]) (rest := []) C (r_in X.2.1 E ro v0.toInt64 0 3 v0.toInt 0 3 (Int32.toInt_toInt64 _) rfl rfl) ms_X12_in wl_X12_115 rfl rfl rfl rfl dX12_write_6) (roK hro) [] [0, 1, 2, 3] rfl rfl rfl rfl (fun r_1 uz hw => ?_)
  rcases hw with hw | hw
  · refine an3 hw ?_
    clear hw
    intro he_4 he_5 h_2 hw
    have h_3 := hw
    clear hw
    have he_4 := he_4.symm
    subst he_4
    subst he_5
    refine ww_eq (ws' := [(hm, .inr (12, [.ref m_manys, .ref m_reals, .ref m_factsOf, .ref m_possible, .int (nI q_undos), .int (nI q_models), .ref m_tape, .int (nI q_taped), .int q_fault, .int q_wrong, .int q_wrongAt, .int q_spot, .int q_place, .int q_token, .int q_value, .ref m_ends, .ref m_letters, .ref m_actOf, .ref m_whom, .ref m_actMany, .ref m_tokens, .ref m_afters, .ref m_afterOf, .int q_counted, .ref m_pile, .ref m_caseMany, .ref m_happen, .ref m_hasIf, .ref m_becomes, .ref m_goneOf, .ref m_heard, .ref m_pairs, .ref m_heaps, .int q_rounds, .int q_heapMany, .ref m_led, .ref m_newAt, .ref m_knowing, .ref m_firsts, .int (nI q_people), .ref m_secrets, .ref m_tried, .ref m_lanes, .ref m_lengths, .ref m_cells])), (m_lanes, .inl (E.2.1 1, 4, .inl f_lanes)), (m_lengths, .inl (E.2.1 1, 4, .inl f_lengths)), (m_cells, .inl (E.2.1 1, 192, .inl f_cells))]) ?_ rfl rfl rfl
    refine ww_if_ne_t (tgt := 14) C dX12_write_9 (by decide) (by decide) ?_
    obtain ⟨j_9, hj_9, rfl⟩ := i_nat (x := v0) (N := 3) (by omega) (by omega)
    have hzj_9 := nI_toInt (n := j_9) (by omega)
    refine ww_aload_n C dX12_write_14 0 rfl rfl ?_
    refine ww_get C fg_X12_96 0 rfl rfl dX12_write_15 ?_
    refine ww_iload_n C dX12_write_18 1 rfl rfl ?_
    obtain ⟨x_10, ex_10⟩ : ∃ z : Int32, f_lanes j_9 = z := ⟨_, rfl⟩
    refine ww_iald (v := x_10) C 1 rfl (vp_in_nI (by omega) (by omega)) (ldn (by omega) ex_10) dX12_write_19 ?_
    refine ww_bipush (v := (-4)) C dX12_write_20 rfl ?_
    refine ww_icmp_ne (tgt := 28) C dX12_write_22 (by decide) (fun c_11 => ?_) (fun c_11 => ?_)
    · have zc_11 : x_10.toInt ≠ (-4) := i_ne rfl rfl c_11
      refine ww_iload_n C dX12_write_28 2 rfl rfl ?_
      refine ww_i2l (v := v1.toInt64) C dX12_write_29 rfl ?_
      refine ww_lconst (v := 0) C dX12_write_30 rfl ?_
      refine ww_aload_n C dX12_write_31 0 rfl rfl ?_
      refine ww_get C fg_X12_99 0 rfl rfl dX12_write_32 ?_
      refine ww_iload_n C dX12_write_35 1 rfl rfl ?_
      have hbx_12 := (hb_lengths j_9 (by omega)).2
      refine ww_iald (v := (nI (cN f_lengths j_9))) C 2 rfl (vp_in_nI (by omega) (by omega)) (ldn (by omega) (hb_lengths j_9 (by omega)).1) dX12_write_36 ?_
      refine ww_iconst (v := 1) C dX12_write_37 rfl ?_
      obtain ⟨x_13, ex_13⟩ : ∃ z : Int32, (nI (cN f_lengths j_9)) - (1 : Int32) = z := ⟨_, rfl⟩
      have zx_13 : x_13.toInt = ((cN f_lengths j_9 : Nat) : Int) - 1 := by rw [← ex_13]; exact i_sub (nI_toInt (n := cN f_lengths j_9) (by omega)) rfl (by omega) (by omega)
      refine ww_isub (v := x_13) C dX12_write_38 ex_13 ?_
      refine ww_i2l (v := x_13.toInt64) C dX12_write_39 rfl ?_
      refine ww_ci (wr := [(hm, .inr (12, [.ref m_manys, .ref m_reals, .ref m_factsOf, .ref m_possible, .int (nI q_undos), .int (nI q_models), .ref m_tape, .int (nI q_taped), .int q_fault, .int q_wrong, .int q_wrongAt, .int q_spot, .int q_place, .int q_token, .int q_value, .ref m_ends, .ref m_letters, .ref m_actOf, .ref m_whom, .ref m_actMany, .ref m_tokens, .ref m_afters, .ref m_afterOf, .int q_counted, .ref m_pile, .ref m_caseMany, .ref m_happen, .ref m_hasIf, .ref m_becomes, .ref m_goneOf, .ref m_heard, .ref m_pairs, .ref m_heaps, .int q_rounds, .int q_heapMany, .ref m_led, .ref m_newAt, .ref m_knowing, .ref m_firsts, .int (nI q_people), .ref m_secrets, .ref m_tried, .ref m_lanes, .ref m_lengths, .ref m_cells])), (m_lanes, .inl (E.2.1 1, 4, .inl f_lanes)), (m_lengths, .inl (E.2.1 1, 4, .inl f_lengths)), (m_cells, .inl (E.2.1 1, 192, .inl f_cells))]) (k' := 0) (n' := 0) C (run_S (As := [.long v1.toInt64, .long 0, .long x_13.toInt64]) (rest := []) C (r_in X.2.1 E ro v1.toInt64 0 x_13.toInt64 v1.toInt 0 (((cN f_lengths j_9 : Nat) : Int) - 1) (Int32.toInt_toInt64 _) rfl ((Int32.toInt_toInt64 _).trans zx_13)) ms_X12_in wl_X12_115 rfl rfl rfl rfl dX12_write_40) (roK hro) [] [0, 1, 2, 3] rfl rfl rfl rfl (fun r_14 uz hw => ?_)
      rcases hw with hw | hw
      · refine an3 hw ?_
        clear hw
        intro he_17 he_18 h_15 hw
        have h_16 := hw
        clear hw
        have he_17 := he_17.symm
        subst he_17
        subst he_18
        refine ww_eq (ws' := [(hm, .inr (12, [.ref m_manys, .ref m_reals, .ref m_factsOf, .ref m_possible, .int (nI q_undos), .int (nI q_models), .ref m_tape, .int (nI q_taped), .int q_fault, .int q_wrong, .int q_wrongAt, .int q_spot, .int q_place, .int q_token, .int q_value, .ref m_ends, .ref m_letters, .ref m_actOf, .ref m_whom, .ref m_actMany, .ref m_tokens, .ref m_afters, .ref m_afterOf, .int q_counted, .ref m_pile, .ref m_caseMany, .ref m_happen, .ref m_hasIf, .ref m_becomes, .ref m_goneOf, .ref m_heard, .ref m_pairs, .ref m_heaps, .int q_rounds, .int q_heapMany, .ref m_led, .ref m_newAt, .ref m_knowing, .ref m_firsts, .int (nI q_people), .ref m_secrets, .ref m_tried, .ref m_lanes, .ref m_lengths, .ref m_cells])), (m_lanes, .inl (E.2.1 1, 4, .inl f_lanes)), (m_lengths, .inl (E.2.1 1, 4, .inl f_lengths)), (m_cells, .inl (E.2.1 1, 192, .inl f_cells))]) ?_ rfl rfl rfl
        refine ww_if_ne_t (tgt := 49) C dX12_write_43 (by decide) (by decide) ?_
        obtain ⟨j_22, hj_22, rfl⟩ := i_nat (x := v1) (N := 47) (by omega) (by omega)
        have hzj_22 := nI_toInt (n := j_22) (by omega)
        refine ww_aload_n C dX12_write_49 0 rfl rfl ?_
        refine ww_get C fg_X12_102 0 rfl rfl dX12_write_50 ?_
        refine ww_bipush (v := 48) C dX12_write_53 rfl ?_
        refine ww_iload_n C dX12_write_55 1 rfl rfl ?_
        refine ww_imul (v := (nI (48 * j_9))) C dX12_write_56 (pk_mul 48 j_9) ?_
        refine ww_iload_n C dX12_write_57 2 rfl rfl ?_
        refine ww_iadd (v := (nI ((48 * j_9) + j_22))) C dX12_write_58 (nI_add (48 * j_9) j_22) ?_
        refine ww_aload_n C dX12_write_59 0 rfl rfl ?_
        refine ww_get C fg_X12_96 0 rfl rfl dX12_write_60 ?_
        refine ww_iload_n C dX12_write_63 1 rfl rfl ?_
        refine ww_iald (v := x_10) C 1 rfl (vp_in_nI (by omega) (by omega)) (ldn (by omega) ex_10) dX12_write_64 ?_
        refine ww_if_ne (tgt := 78) C dX12_write_65 (by decide) (fun c_23 => ?_) (fun c_23 => ?_)
        · have zc_23 : x_10.toInt ≠ 0 := i_ne rfl rfl c_23
          refine ww_aload_n C dX12_write_78 0 rfl rfl ?_
          refine ww_get C fg_X12_96 0 rfl rfl dX12_write_79 ?_
          refine ww_iload_n C dX12_write_82 1 rfl rfl ?_
          refine ww_iald (v := x_10) C 1 rfl (vp_in_nI (by omega) (by omega)) (ldn (by omega) ex_10) dX12_write_83 ?_
          refine ww_iconst (v := 1) C dX12_write_84 rfl ?_
          refine ww_icmp_ne (tgt := 98) C dX12_write_85 (by decide) (fun c_24 => ?_) (fun c_24 => ?_)
          · have zc_24 : x_10.toInt ≠ 1 := i_ne rfl rfl c_24
            refine ww_iload_n C dX12_write_98 3 rfl rfl ?_
            obtain ⟨f_25, ef_25⟩ : ∃ z : Nat → Int32, upd f_cells ((48 * j_9) + j_22) v2 = z := ⟨_, rfl⟩
            refine ww_iast (ws' := [(hm, .inr (12, [.ref m_manys, .ref m_reals, .ref m_factsOf, .ref m_possible, .int (nI q_undos), .int (nI q_models), .ref m_tape, .int (nI q_taped), .int q_fault, .int q_wrong, .int q_wrongAt, .int q_spot, .int q_place, .int q_token, .int q_value, .ref m_ends, .ref m_letters, .ref m_actOf, .ref m_whom, .ref m_actMany, .ref m_tokens, .ref m_afters, .ref m_afterOf, .int q_counted, .ref m_pile, .ref m_caseMany, .ref m_happen, .ref m_hasIf, .ref m_becomes, .ref m_goneOf, .ref m_heard, .ref m_pairs, .ref m_heaps, .int q_rounds, .int q_heapMany, .ref m_led, .ref m_newAt, .ref m_knowing, .ref m_firsts, .int (nI q_people), .ref m_secrets, .ref m_tried, .ref m_lanes, .ref m_lengths, .ref m_cells])), (m_lanes, .inl (E.2.1 1, 4, .inl f_lanes)), (m_lengths, .inl (E.2.1 1, 4, .inl f_lengths)), (m_cells, .inl (E.2.1 1, 192, .inl f_25))]) C 3 rfl (vp_in_nI (by omega) (by omega)) (ldn2 (by omega) ef_25) rfl dX12_write_99 ?_
            refine ww_iconst (v := 1) C dX12_write_100 rfl ?_
            exact ww_iret (u := [(hm, .inr (12, [.ref m_manys, .ref m_reals, .ref m_factsOf, .ref m_possible, .int (nI q_undos), .int (nI q_models), .ref m_tape, .int (nI q_taped), .int q_fault, .int q_wrong, .int q_wrongAt, .int q_spot, .int q_place, .int q_token, .int q_value, .ref m_ends, .ref m_letters, .ref m_actOf, .ref m_whom, .ref m_actMany, .ref m_tokens, .ref m_afters, .ref m_afterOf, .int q_counted, .ref m_pile, .ref m_caseMany, .ref m_happen, .ref m_hasIf, .ref m_becomes, .ref m_goneOf, .ref m_heard, .ref m_pairs, .ref m_heaps, .int q_rounds, .int q_heapMany, .ref m_led, .ref m_newAt, .ref m_knowing, .ref m_firsts, .int (nI q_people), .ref m_secrets, .ref m_tried, .ref m_lanes, .ref m_lengths, .ref m_cells])), (m_lanes, .inl (E.2.1 1, 4, .inl f_lanes)), (m_lengths, .inl (E.2.1 1, 4, .inl f_lengths)), (m_cells, .inl (E.2.1 1, 192, .inl f_25))]) C hT [0, 1, 2, 3] rfl rfl rfl rfl dX12_write_101 (Or.inr (Or.inr (Or.inr ⟨j_9, j_22, f_25, rfl, rfl, rfl, (by omega), (by rw [ex_10]; first | exact Int32.toInt_inj.mp (by assumption) | exact fun h9 => absurd (congrArg Int32.toInt h9) (by assumption)), (by omega), rfl, (by omega), (by unfold putw; rw [ex_10, if_neg (by assumption), if_neg (by assumption)]; exact ef_25)⟩)))
          · have zc_24 : x_10.toInt = 1 := i_eq rfl rfl c_24
            refine ww_iload_n C dX12_write_88 3 rfl rfl ?_
            refine ww_bipush (v := 16) C dX12_write_89 rfl ?_
            obtain ⟨x_26, ex_26⟩ : ∃ z : Int32, v2 <<< ((16 : Int32) &&& 31) = z := ⟨_, rfl⟩
            refine ww_ishl (v := x_26) C dX12_write_91 ex_26 ?_
            refine ww_bipush (v := 16) C dX12_write_92 rfl ?_
            obtain ⟨x_27, ex_27⟩ : ∃ z : Int32, x_26 >>> ((16 : Int32) &&& 31) = z := ⟨_, rfl⟩
            refine ww_ishr (v := x_27) C dX12_write_94 ex_27 ?_
            refine ww_goto (tgt := 99) C dX12_write_95 (by decide) ?_
            obtain ⟨f_28, ef_28⟩ : ∃ z : Nat → Int32, upd f_cells ((48 * j_9) + j_22) x_27 = z := ⟨_, rfl⟩
            refine ww_iast (ws' := [(hm, .inr (12, [.ref m_manys, .ref m_reals, .ref m_factsOf, .ref m_possible, .int (nI q_undos), .int (nI q_models), .ref m_tape, .int (nI q_taped), .int q_fault, .int q_wrong, .int q_wrongAt, .int q_spot, .int q_place, .int q_token, .int q_value, .ref m_ends, .ref m_letters, .ref m_actOf, .ref m_whom, .ref m_actMany, .ref m_tokens, .ref m_afters, .ref m_afterOf, .int q_counted, .ref m_pile, .ref m_caseMany, .ref m_happen, .ref m_hasIf, .ref m_becomes, .ref m_goneOf, .ref m_heard, .ref m_pairs, .ref m_heaps, .int q_rounds, .int q_heapMany, .ref m_led, .ref m_newAt, .ref m_knowing, .ref m_firsts, .int (nI q_people), .ref m_secrets, .ref m_tried, .ref m_lanes, .ref m_lengths, .ref m_cells])), (m_lanes, .inl (E.2.1 1, 4, .inl f_lanes)), (m_lengths, .inl (E.2.1 1, 4, .inl f_lengths)), (m_cells, .inl (E.2.1 1, 192, .inl f_28))]) C 3 rfl (vp_in_nI (by omega) (by omega)) (ldn2 (by omega) ef_28) rfl dX12_write_99 ?_
            refine ww_iconst (v := 1) C dX12_write_100 rfl ?_
            exact ww_iret (u := [(hm, .inr (12, [.ref m_manys, .ref m_reals, .ref m_factsOf, .ref m_possible, .int (nI q_undos), .int (nI q_models), .ref m_tape, .int (nI q_taped), .int q_fault, .int q_wrong, .int q_wrongAt, .int q_spot, .int q_place, .int q_token, .int q_value, .ref m_ends, .ref m_letters, .ref m_actOf, .ref m_whom, .ref m_actMany, .ref m_tokens, .ref m_afters, .ref m_afterOf, .int q_counted, .ref m_pile, .ref m_caseMany, .ref m_happen, .ref m_hasIf, .ref m_becomes, .ref m_goneOf, .ref m_heard, .ref m_pairs, .ref m_heaps, .int q_rounds, .int q_heapMany, .ref m_led, .ref m_newAt, .ref m_knowing, .ref m_firsts, .int (nI q_people), .ref m_secrets, .ref m_tried, .ref m_lanes, .ref m_lengths, .ref m_cells])), (m_lanes, .inl (E.2.1 1, 4, .inl f_lanes)), (m_lengths, .inl (E.2.1 1, 4, .inl f_lengths)), (m_cells, .inl (E.2.1 1, 192, .inl f_28))]) C hT [0, 1, 2, 3] rfl rfl rfl rfl dX12_write_101 (Or.inr (Or.inr (Or.inr ⟨j_9, j_22, f_28, rfl, rfl, rfl, (by omega), (by rw [ex_10]; first | exact Int32.toInt_inj.mp (by assumption) | exact fun h9 => absurd (congrArg Int32.toInt h9) (by assumption)), (by omega), rfl, (by omega), (by unfold putw; rw [ex_10, if_neg (by assumption), if_pos (by assumption), ex_26, ex_27]; exact ef_28)⟩)))
        · have zc_23 : x_10.toInt = 0 := i_eq rfl rfl c_23
          refine ww_iload_n C dX12_write_68 3 rfl rfl ?_
          refine ww_bipush (v := 24) C dX12_write_69 rfl ?_
          obtain ⟨x_29, ex_29⟩ : ∃ z : Int32, v2 <<< ((24 : Int32) &&& 31) = z := ⟨_, rfl⟩
          refine ww_ishl (v := x_29) C dX12_write_71 ex_29 ?_
          refine ww_bipush (v := 24) C dX12_write_72 rfl ?_
          obtain ⟨x_30, ex_30⟩ : ∃ z : Int32, x_29 >>> ((24 : Int32) &&& 31) = z := ⟨_, rfl⟩
          refine ww_ishr (v := x_30) C dX12_write_74 ex_30 ?_
          refine ww_goto (tgt := 99) C dX12_write_75 (by decide) ?_
          obtain ⟨f_31, ef_31⟩ : ∃ z : Nat → Int32, upd f_cells ((48 * j_9) + j_22) x_30 = z := ⟨_, rfl⟩
          refine ww_iast (ws' := [(hm, .inr (12, [.ref m_manys, .ref m_reals, .ref m_factsOf, .ref m_possible, .int (nI q_undos), .int (nI q_models), .ref m_tape, .int (nI q_taped), .int q_fault, .int q_wrong, .int q_wrongAt, .int q_spot, .int q_place, .int q_token, .int q_value, .ref m_ends, .ref m_letters, .ref m_actOf, .ref m_whom, .ref m_actMany, .ref m_tokens, .ref m_afters, .ref m_afterOf, .int q_counted, .ref m_pile, .ref m_caseMany, .ref m_happen, .ref m_hasIf, .ref m_becomes, .ref m_goneOf, .ref m_heard, .ref m_pairs, .ref m_heaps, .int q_rounds, .int q_heapMany, .ref m_led, .ref m_newAt, .ref m_knowing, .ref m_firsts, .int (nI q_people), .ref m_secrets, .ref m_tried, .ref m_lanes, .ref m_lengths, .ref m_cells])), (m_lanes, .inl (E.2.1 1, 4, .inl f_lanes)), (m_lengths, .inl (E.2.1 1, 4, .inl f_lengths)), (m_cells, .inl (E.2.1 1, 192, .inl f_31))]) C 3 rfl (vp_in_nI (by omega) (by omega)) (ldn2 (by omega) ef_31) rfl dX12_write_99 ?_
          refine ww_iconst (v := 1) C dX12_write_100 rfl ?_
          exact ww_iret (u := [(hm, .inr (12, [.ref m_manys, .ref m_reals, .ref m_factsOf, .ref m_possible, .int (nI q_undos), .int (nI q_models), .ref m_tape, .int (nI q_taped), .int q_fault, .int q_wrong, .int q_wrongAt, .int q_spot, .int q_place, .int q_token, .int q_value, .ref m_ends, .ref m_letters, .ref m_actOf, .ref m_whom, .ref m_actMany, .ref m_tokens, .ref m_afters, .ref m_afterOf, .int q_counted, .ref m_pile, .ref m_caseMany, .ref m_happen, .ref m_hasIf, .ref m_becomes, .ref m_goneOf, .ref m_heard, .ref m_pairs, .ref m_heaps, .int q_rounds, .int q_heapMany, .ref m_led, .ref m_newAt, .ref m_knowing, .ref m_firsts, .int (nI q_people), .ref m_secrets, .ref m_tried, .ref m_lanes, .ref m_lengths, .ref m_cells])), (m_lanes, .inl (E.2.1 1, 4, .inl f_lanes)), (m_lengths, .inl (E.2.1 1, 4, .inl f_lengths)), (m_cells, .inl (E.2.1 1, 192, .inl f_31))]) C hT [0, 1, 2, 3] rfl rfl rfl rfl dX12_write_101 (Or.inr (Or.inr (Or.inr ⟨j_9, j_22, f_31, rfl, rfl, rfl, (by omega), (by rw [ex_10]; first | exact Int32.toInt_inj.mp (by assumption) | exact fun h9 => absurd (congrArg Int32.toInt h9) (by assumption)), (by omega), rfl, (by omega), (by unfold putw; rw [ex_10, if_pos (by assumption), ex_29, ex_30]; exact ef_31)⟩)))
      · refine an2 hw ?_
        clear hw
        intro he_20 he_21 hw
        have h_19 := hw
        clear hw
        have he_20 := he_20.symm
        subst he_20
        subst he_21
        refine ww_eq (ws' := [(hm, .inr (12, [.ref m_manys, .ref m_reals, .ref m_factsOf, .ref m_possible, .int (nI q_undos), .int (nI q_models), .ref m_tape, .int (nI q_taped), .int q_fault, .int q_wrong, .int q_wrongAt, .int q_spot, .int q_place, .int q_token, .int q_value, .ref m_ends, .ref m_letters, .ref m_actOf, .ref m_whom, .ref m_actMany, .ref m_tokens, .ref m_afters, .ref m_afterOf, .int q_counted, .ref m_pile, .ref m_caseMany, .ref m_happen, .ref m_hasIf, .ref m_becomes, .ref m_goneOf, .ref m_heard, .ref m_pairs, .ref m_heaps, .int q_rounds, .int q_heapMany, .ref m_led, .ref m_newAt, .ref m_knowing, .ref m_firsts, .int (nI q_people), .ref m_secrets, .ref m_tried, .ref m_lanes, .ref m_lengths, .ref m_cells])), (m_lanes, .inl (E.2.1 1, 4, .inl f_lanes)), (m_lengths, .inl (E.2.1 1, 4, .inl f_lengths)), (m_cells, .inl (E.2.1 1, 192, .inl f_cells))]) ?_ rfl rfl rfl
        refine ww_if_ne_f (tgt := 49) C dX12_write_43 (by decide) (rfl) ?_
        refine ww_bipush (v := (-12)) C dX12_write_46 rfl ?_
        exact ww_iret (u := [(hm, .inr (12, [.ref m_manys, .ref m_reals, .ref m_factsOf, .ref m_possible, .int (nI q_undos), .int (nI q_models), .ref m_tape, .int (nI q_taped), .int q_fault, .int q_wrong, .int q_wrongAt, .int q_spot, .int q_place, .int q_token, .int q_value, .ref m_ends, .ref m_letters, .ref m_actOf, .ref m_whom, .ref m_actMany, .ref m_tokens, .ref m_afters, .ref m_afterOf, .int q_counted, .ref m_pile, .ref m_caseMany, .ref m_happen, .ref m_hasIf, .ref m_becomes, .ref m_goneOf, .ref m_heard, .ref m_pairs, .ref m_heaps, .int q_rounds, .int q_heapMany, .ref m_led, .ref m_newAt, .ref m_knowing, .ref m_firsts, .int (nI q_people), .ref m_secrets, .ref m_tried, .ref m_lanes, .ref m_lengths, .ref m_cells])), (m_lanes, .inl (E.2.1 1, 4, .inl f_lanes)), (m_lengths, .inl (E.2.1 1, 4, .inl f_lengths)), (m_cells, .inl (E.2.1 1, 192, .inl f_cells))]) C hT [0, 1, 2, 3] rfl rfl rfl rfl dX12_write_48 (Or.inr (Or.inr (Or.inl ⟨j_9, rfl, rfl, rfl, (by omega), (by rw [ex_10]; first | exact Int32.toInt_inj.mp (by assumption) | exact fun h9 => absurd (congrArg Int32.toInt h9) (by assumption)), (by omega)⟩)))
    · have zc_11 : x_10.toInt = (-4) := i_eq rfl rfl c_11
      refine ww_bipush (v := (-11)) C dX12_write_25 rfl ?_
      exact ww_iret (u := [(hm, .inr (12, [.ref m_manys, .ref m_reals, .ref m_factsOf, .ref m_possible, .int (nI q_undos), .int (nI q_models), .ref m_tape, .int (nI q_taped), .int q_fault, .int q_wrong, .int q_wrongAt, .int q_spot, .int q_place, .int q_token, .int q_value, .ref m_ends, .ref m_letters, .ref m_actOf, .ref m_whom, .ref m_actMany, .ref m_tokens, .ref m_afters, .ref m_afterOf, .int q_counted, .ref m_pile, .ref m_caseMany, .ref m_happen, .ref m_hasIf, .ref m_becomes, .ref m_goneOf, .ref m_heard, .ref m_pairs, .ref m_heaps, .int q_rounds, .int q_heapMany, .ref m_led, .ref m_newAt, .ref m_knowing, .ref m_firsts, .int (nI q_people), .ref m_secrets, .ref m_tried, .ref m_lanes, .ref m_lengths, .ref m_cells])), (m_lanes, .inl (E.2.1 1, 4, .inl f_lanes)), (m_lengths, .inl (E.2.1 1, 4, .inl f_lengths)), (m_cells, .inl (E.2.1 1, 192, .inl f_cells))]) C hT [0, 1, 2, 3] rfl rfl rfl rfl dX12_write_27 (Or.inr (Or.inl ⟨j_9, rfl, rfl, rfl, (by omega), (by rw [ex_10]; first | exact Int32.toInt_inj.mp (by assumption) | exact fun h9 => absurd (congrArg Int32.toInt h9) (by assumption))⟩))
  · refine an2 hw ?_
    clear hw
    intro he_7 he_8 hw
    have h_6 := hw
    clear hw
    have he_7 := he_7.symm
    subst he_7
    subst he_8
    refine ww_eq (ws' := [(hm, .inr (12, [.ref m_manys, .ref m_reals, .ref m_factsOf, .ref m_possible, .int (nI q_undos), .int (nI q_models), .ref m_tape, .int (nI q_taped), .int q_fault, .int q_wrong, .int q_wrongAt, .int q_spot, .int q_place, .int q_token, .int q_value, .ref m_ends, .ref m_letters, .ref m_actOf, .ref m_whom, .ref m_actMany, .ref m_tokens, .ref m_afters, .ref m_afterOf, .int q_counted, .ref m_pile, .ref m_caseMany, .ref m_happen, .ref m_hasIf, .ref m_becomes, .ref m_goneOf, .ref m_heard, .ref m_pairs, .ref m_heaps, .int q_rounds, .int q_heapMany, .ref m_led, .ref m_newAt, .ref m_knowing, .ref m_firsts, .int (nI q_people), .ref m_secrets, .ref m_tried, .ref m_lanes, .ref m_lengths, .ref m_cells])), (m_lanes, .inl (E.2.1 1, 4, .inl f_lanes)), (m_lengths, .inl (E.2.1 1, 4, .inl f_lengths)), (m_cells, .inl (E.2.1 1, 192, .inl f_cells))]) ?_ rfl rfl rfl
    refine ww_if_ne_f (tgt := 14) C dX12_write_9 (by decide) (rfl) ?_
    refine ww_iconst (v := (-1)) C dX12_write_12 rfl ?_
    exact ww_iret (u := [(hm, .inr (12, [.ref m_manys, .ref m_reals, .ref m_factsOf, .ref m_possible, .int (nI q_undos), .int (nI q_models), .ref m_tape, .int (nI q_taped), .int q_fault, .int q_wrong, .int q_wrongAt, .int q_spot, .int q_place, .int q_token, .int q_value, .ref m_ends, .ref m_letters, .ref m_actOf, .ref m_whom, .ref m_actMany, .ref m_tokens, .ref m_afters, .ref m_afterOf, .int q_counted, .ref m_pile, .ref m_caseMany, .ref m_happen, .ref m_hasIf, .ref m_becomes, .ref m_goneOf, .ref m_heard, .ref m_pairs, .ref m_heaps, .int q_rounds, .int q_heapMany, .ref m_led, .ref m_newAt, .ref m_knowing, .ref m_firsts, .int (nI q_people), .ref m_secrets, .ref m_tried, .ref m_lanes, .ref m_lengths, .ref m_cells])), (m_lanes, .inl (E.2.1 1, 4, .inl f_lanes)), (m_lengths, .inl (E.2.1 1, 4, .inl f_lengths)), (m_cells, .inl (E.2.1 1, 192, .inl f_cells))]) C hT [0, 1, 2, 3] rfl rfl rfl rfl dX12_write_13 (Or.inl ⟨rfl, rfl, (by first | assumption | omega | decide)⟩)
theorem pg_clear {fm fr ff fp fm' fr' F : Nat → Int32} (h1 : upd fm 0 0 = fm') (h2 : upd fr 0 0 = fr') : pgs fm' fr' ff fp 0 = aRd F 0 := by
  unfold pgs
  rw [cN_s (t := 0) (by omega) h1, cN_s (t := 0) (by omega) h2]; exact aRd_0
theorem rd_pg {m m' : AM} {F : Nat → Int32} {i : Nat} {x : Int32} (h : m = aRd F i) (h2 : m' = aAdd m x) (hx : F i = x) : m' = aRd F (i + 1) := by
  rw [h2, h, ← hx]; rfl
theorem dX12_read_0 : decode cX12_read 0 = .ok (.iload_n 1, 1) := dl_27 (by decide +kernel)
theorem dX12_read_1 : decode cX12_read 1 = .ok (.i2l, 1) := dl_133 (by decide +kernel)
theorem dX12_read_2 : decode cX12_read 2 = .ok (.lconst 0, 1) := dl_9 (by decide +kernel)
theorem dX12_read_3 : decode cX12_read 3 = .ok (.ldc2_w 113, 3) := dl_20 (by decide +kernel)
theorem dX12_read_6 : decode cX12_read 6 = .ok (.invokestatic 115, 3) := dl_184 (by decide +kernel)
theorem dX12_read_9 : decode cX12_read 9 = .ok (.ifCond .eq 28, 3) := dl_153 (by decide +kernel)
theorem dX12_read_12 : decode cX12_read 12 = .ok (.iload_n 2, 1) := dl_28 (by decide +kernel)
theorem dX12_read_13 : decode cX12_read 13 = .ok (.i2l, 1) := dl_133 (by decide +kernel)
theorem dX12_read_14 : decode cX12_read 14 = .ok (.lconst 0, 1) := dl_9 (by decide +kernel)
theorem dX12_read_15 : decode cX12_read 15 = .ok (.ldc2_w 254, 3) := dl_20 (by decide +kernel)
theorem dX12_read_18 : decode cX12_read 18 = .ok (.invokestatic 115, 3) := dl_184 (by decide +kernel)
theorem dX12_read_21 : decode cX12_read 21 = .ok (.ifCond .eq 16, 3) := dl_153 (by decide +kernel)
theorem dX12_read_24 : decode cX12_read 24 = .ok (.iload 4, 2) := dl_21 (by decide +kernel)
theorem dX12_read_26 : decode cX12_read 26 = .ok (.i2l, 1) := dl_133 (by decide +kernel)
theorem dX12_read_27 : decode cX12_read 27 = .ok (.lconst 0, 1) := dl_9 (by decide +kernel)
theorem dX12_read_28 : decode cX12_read 28 = .ok (.ldc2_w 341, 3) := dl_20 (by decide +kernel)
theorem wv_X12_341 : Cond.constantLong RX12 341 24 ∈ TB := tbm (tq7 (List.mem_of_getElem? (i := 88) (by decide +kernel))) (by decide +kernel)
theorem dX12_read_31 : decode cX12_read 31 = .ok (.invokestatic 115, 3) := dl_184 (by decide +kernel)
theorem dX12_read_34 : decode cX12_read 34 = .ok (.ifCond .ne 5, 3) := dl_154 (by decide +kernel)
theorem dX12_read_39 : decode cX12_read 39 = .ok (.aload_n 0, 1) := dl_42 (by decide +kernel)
theorem dX12_read_40 : decode cX12_read 40 = .ok (.getfield 96, 3) := dl_180 (by decide +kernel)
theorem dX12_read_43 : decode cX12_read 43 = .ok (.iload_n 1, 1) := dl_27 (by decide +kernel)
theorem dX12_read_44 : decode cX12_read 44 = .ok (.iaload, 1) := dl_46 (by decide +kernel)
theorem dX12_read_45 : decode cX12_read 45 = .ok (.iload_n 2, 1) := dl_28 (by decide +kernel)
theorem dX12_read_46 : decode cX12_read 46 = .ok (.if_icmp .eq 22, 3) := dl_159 (by decide +kernel)
theorem dX12_read_68 : decode cX12_read 68 = .ok (.iconst 0, 1) := dl_3 (by decide +kernel)
theorem dX12_read_69 : decode cX12_read 69 = .ok (.istore 5, 2) := dl_54 (by decide +kernel)
theorem dX12_read_71 : decode cX12_read 71 = .ok (.iload 5, 2) := dl_21 (by decide +kernel)
theorem dX12_read_73 : decode cX12_read 73 = .ok (.iload 4, 2) := dl_21 (by decide +kernel)
theorem dX12_read_75 : decode cX12_read 75 = .ok (.if_icmp .ge 65, 3) := dl_162 (by decide +kernel)
theorem dX12_read_140 : decode cX12_read 140 = .ok (.aload_n 0, 1) := dl_42 (by decide +kernel)
theorem dX12_read_141 : decode cX12_read 141 = .ok (.invokevirtual 121, 3) := dl_182 (by decide +kernel)
theorem dX12_read_144 : decode cX12_read 144 = .ok (.aload_n 0, 1) := dl_42 (by decide +kernel)
theorem dX12_read_145 : decode cX12_read 145 = .ok (.getfield 7, 3) := dl_180 (by decide +kernel)
theorem dX12_read_148 : decode cX12_read 148 = .ok (.iconst 0, 1) := dl_3 (by decide +kernel)
theorem dX12_read_149 : decode cX12_read 149 = .ok (.iconst 0, 1) := dl_3 (by decide +kernel)
theorem dX12_read_150 : decode cX12_read 150 = .ok (.iastore, 1) := dl_79 (by decide +kernel)
theorem dX12_read_151 : decode cX12_read 151 = .ok (.aload_n 0, 1) := dl_42 (by decide +kernel)
theorem dX12_read_152 : decode cX12_read 152 = .ok (.getfield 13, 3) := dl_180 (by decide +kernel)
theorem dX12_read_155 : decode cX12_read 155 = .ok (.iconst 0, 1) := dl_3 (by decide +kernel)
theorem dX12_read_156 : decode cX12_read 156 = .ok (.iconst 0, 1) := dl_3 (by decide +kernel)
theorem dX12_read_157 : decode cX12_read 157 = .ok (.iastore, 1) := dl_79 (by decide +kernel)
theorem dX12_read_158 : decode cX12_read 158 = .ok (.iconst 0, 1) := dl_3 (by decide +kernel)
theorem dX12_read_159 : decode cX12_read 159 = .ok (.istore 5, 2) := dl_54 (by decide +kernel)
theorem dX12_read_161 : decode cX12_read 161 = .ok (.iload 5, 2) := dl_21 (by decide +kernel)
theorem dX12_read_163 : decode cX12_read 163 = .ok (.iload 4, 2) := dl_21 (by decide +kernel)
theorem dX12_read_165 : decode cX12_read 165 = .ok (.if_icmp .ge 27, 3) := dl_162 (by decide +kernel)
theorem dX12_read_192 : decode cX12_read 192 = .ok (.iload 4, 2) := dl_21 (by decide +kernel)
theorem dX12_read_194 : decode cX12_read 194 = .ok (.ireturn, 1) := dl_172 (by decide +kernel)
theorem dX12_read_168 : decode cX12_read 168 = .ok (.aload_n 0, 1) := dl_42 (by decide +kernel)
theorem dX12_read_169 : decode cX12_read 169 = .ok (.aload_n 0, 1) := dl_42 (by decide +kernel)
theorem dX12_read_170 : decode cX12_read 170 = .ok (.getfield 102, 3) := dl_180 (by decide +kernel)
theorem dX12_read_173 : decode cX12_read 173 = .ok (.bipush 48, 2) := dl_16 (by decide +kernel)
theorem dX12_read_175 : decode cX12_read 175 = .ok (.iload_n 1, 1) := dl_27 (by decide +kernel)
theorem dX12_read_176 : decode cX12_read 176 = .ok (.imul, 1) := dl_104 (by decide +kernel)
theorem dX12_read_177 : decode cX12_read 177 = .ok (.iload_n 3, 1) := dl_29 (by decide +kernel)
theorem dX12_read_178 : decode cX12_read 178 = .ok (.iadd, 1) := dl_96 (by decide +kernel)
theorem dX12_read_179 : decode cX12_read 179 = .ok (.iload 5, 2) := dl_21 (by decide +kernel)
theorem dX12_read_181 : decode cX12_read 181 = .ok (.iadd, 1) := dl_96 (by decide +kernel)
theorem dX12_read_182 : decode cX12_read 182 = .ok (.iaload, 1) := dl_46 (by decide +kernel)
theorem dX12_read_183 : decode cX12_read 183 = .ok (.invokevirtual 124, 3) := dl_182 (by decide +kernel)
theorem dX12_read_186 : decode cX12_read 186 = .ok (.iinc 5 1, 3) := dl_132 (by decide +kernel)
theorem dX12_read_189 : decode cX12_read 189 = .ok (.goto (-28), 3) := dl_167 (by decide +kernel)
theorem dX12_read_78 : decode cX12_read 78 = .ok (.iload_n 3, 1) := dl_29 (by decide +kernel)
theorem dX12_read_79 : decode cX12_read 79 = .ok (.i2l, 1) := dl_133 (by decide +kernel)
theorem dX12_read_80 : decode cX12_read 80 = .ok (.iload 5, 2) := dl_21 (by decide +kernel)
theorem dX12_read_82 : decode cX12_read 82 = .ok (.i2l, 1) := dl_133 (by decide +kernel)
theorem dX12_read_83 : decode cX12_read 83 = .ok (.ladd, 1) := dl_97 (by decide +kernel)
theorem dX12_read_84 : decode cX12_read 84 = .ok (.lconst 0, 1) := dl_9 (by decide +kernel)
theorem dX12_read_85 : decode cX12_read 85 = .ok (.aload_n 0, 1) := dl_42 (by decide +kernel)
theorem dX12_read_86 : decode cX12_read 86 = .ok (.getfield 99, 3) := dl_180 (by decide +kernel)
theorem dX12_read_89 : decode cX12_read 89 = .ok (.iload_n 1, 1) := dl_27 (by decide +kernel)
theorem dX12_read_90 : decode cX12_read 90 = .ok (.iaload, 1) := dl_46 (by decide +kernel)
theorem dX12_read_91 : decode cX12_read 91 = .ok (.iconst 1, 1) := dl_4 (by decide +kernel)
theorem dX12_read_92 : decode cX12_read 92 = .ok (.isub, 1) := dl_100 (by decide +kernel)
theorem dX12_read_93 : decode cX12_read 93 = .ok (.i2l, 1) := dl_133 (by decide +kernel)
theorem dX12_read_94 : decode cX12_read 94 = .ok (.invokestatic 115, 3) := dl_184 (by decide +kernel)
theorem dX12_read_97 : decode cX12_read 97 = .ok (.ifCond .ne 6, 3) := dl_154 (by decide +kernel)
theorem dX12_read_103 : decode cX12_read 103 = .ok (.aload_n 0, 1) := dl_42 (by decide +kernel)
theorem dX12_read_104 : decode cX12_read 104 = .ok (.getfield 102, 3) := dl_180 (by decide +kernel)
theorem dX12_read_107 : decode cX12_read 107 = .ok (.bipush 48, 2) := dl_16 (by decide +kernel)
theorem dX12_read_109 : decode cX12_read 109 = .ok (.iload_n 1, 1) := dl_27 (by decide +kernel)
theorem dX12_read_110 : decode cX12_read 110 = .ok (.imul, 1) := dl_104 (by decide +kernel)
theorem dX12_read_111 : decode cX12_read 111 = .ok (.iload_n 3, 1) := dl_29 (by decide +kernel)
theorem dX12_read_112 : decode cX12_read 112 = .ok (.iadd, 1) := dl_96 (by decide +kernel)
theorem dX12_read_113 : decode cX12_read 113 = .ok (.iload 5, 2) := dl_21 (by decide +kernel)
theorem dX12_read_115 : decode cX12_read 115 = .ok (.iadd, 1) := dl_96 (by decide +kernel)
theorem dX12_read_116 : decode cX12_read 116 = .ok (.iaload, 1) := dl_46 (by decide +kernel)
theorem dX12_read_117 : decode cX12_read 117 = .ok (.i2l, 1) := dl_133 (by decide +kernel)
theorem dX12_read_118 : decode cX12_read 118 = .ok (.lconst 0, 1) := dl_9 (by decide +kernel)
theorem dX12_read_119 : decode cX12_read 119 = .ok (.ldc2_w 119, 3) := dl_20 (by decide +kernel)
theorem dX12_read_122 : decode cX12_read 122 = .ok (.invokestatic 115, 3) := dl_184 (by decide +kernel)
theorem dX12_read_125 : decode cX12_read 125 = .ok (.ifCond .ne 9, 3) := dl_154 (by decide +kernel)
theorem dX12_read_134 : decode cX12_read 134 = .ok (.iinc 5 1, 3) := dl_132 (by decide +kernel)
theorem dX12_read_137 : decode cX12_read 137 = .ok (.goto (-66), 3) := dl_167 (by decide +kernel)
theorem dX12_read_128 : decode cX12_read 128 = .ok (.bipush (-20), 2) := dl_16 (by decide +kernel)
theorem dX12_read_130 : decode cX12_read 130 = .ok (.iload 5, 2) := dl_21 (by decide +kernel)
theorem dX12_read_132 : decode cX12_read 132 = .ok (.isub, 1) := dl_100 (by decide +kernel)
theorem dX12_read_133 : decode cX12_read 133 = .ok (.ireturn, 1) := dl_172 (by decide +kernel)
theorem dX12_read_100 : decode cX12_read 100 = .ok (.bipush (-12), 2) := dl_16 (by decide +kernel)
theorem dX12_read_102 : decode cX12_read 102 = .ok (.ireturn, 1) := dl_172 (by decide +kernel)
theorem dX12_read_49 : decode cX12_read 49 = .ok (.aload_n 0, 1) := dl_42 (by decide +kernel)
theorem dX12_read_50 : decode cX12_read 50 = .ok (.getfield 96, 3) := dl_180 (by decide +kernel)
theorem dX12_read_53 : decode cX12_read 53 = .ok (.iload_n 1, 1) := dl_27 (by decide +kernel)
theorem dX12_read_54 : decode cX12_read 54 = .ok (.iaload, 1) := dl_46 (by decide +kernel)
theorem dX12_read_55 : decode cX12_read 55 = .ok (.bipush (-4), 2) := dl_16 (by decide +kernel)
theorem dX12_read_57 : decode cX12_read 57 = .ok (.if_icmp .ne 8, 3) := dl_160 (by decide +kernel)
theorem dX12_read_65 : decode cX12_read 65 = .ok (.bipush (-13), 2) := dl_16 (by decide +kernel)
theorem dX12_read_67 : decode cX12_read 67 = .ok (.ireturn, 1) := dl_172 (by decide +kernel)
theorem dX12_read_60 : decode cX12_read 60 = .ok (.bipush (-11), 2) := dl_16 (by decide +kernel)
theorem dX12_read_62 : decode cX12_read 62 = .ok (.goto 5, 3) := dl_167 (by decide +kernel)
theorem dX12_read_37 : decode cX12_read 37 = .ok (.iconst (-1), 1) := dl_2 (by decide +kernel)
theorem dX12_read_38 : decode cX12_read 38 = .ok (.ireturn, 1) := dl_172 (by decide +kernel)
set_option maxRecDepth 100000 in
set_option maxHeartbeats 4000000 in
theorem y_read (l : Launch) (E : EV) (ro : va_W) (hm : Nat) (v0 : Int32) (v1 : Int32) (v2 : Int32) (v3 : Int32) (m_manys : Nat) (m_reals : Nat) (m_factsOf : Nat) (m_possible : Nat) (q_undos : Nat) (q_models : Nat) (m_tape : Nat) (q_taped : Nat) (q_fault : Int32) (q_wrong : Int32) (q_wrongAt : Int32) (q_spot : Int32) (q_place : Int32) (q_token : Int32) (q_value : Int32) (m_ends : Nat) (m_letters : Nat) (m_actOf : Nat) (m_whom : Nat) (m_actMany : Nat) (m_tokens : Nat) (m_afters : Nat) (m_afterOf : Nat) (q_counted : Int32) (m_pile : Nat) (m_caseMany : Nat) (m_happen : Nat) (m_hasIf : Nat) (m_becomes : Nat) (m_goneOf : Nat) (m_heard : Nat) (m_pairs : Nat) (m_heaps : Nat) (q_rounds : Int32) (q_heapMany : Int32) (m_led : Nat) (m_newAt : Nat) (m_knowing : Nat) (m_firsts : Nat) (q_people : Nat) (m_secrets : Nat) (m_tried : Nat) (m_lanes : Nat) (m_lengths : Nat) (m_cells : Nat) (f_manys : Nat → Int32) (f_reals : Nat → Int32) (f_factsOf : Nat → Int32) (f_possible : Nat → Int32) (f_lanes : Nat → Int32) (f_lengths : Nat → Int32) (f_cells : Nat → Int32) (hb_manys : NB 18 24 f_manys) (hb_reals : NB 18 23 f_reals) (hpg : PG f_manys f_reals) (hwf : WFP (pgs f_manys f_reals f_factsOf f_possible)) (hb_lengths : NB 4 48 f_lengths) (hq_undos : q_undos ≤ 8) : CT l yX12_read (Cond.code yX12_read cX12_read 6 (some .int) :: TB) ({ frames := 2, cells := 0, slots := 0, locals := 44 }) E ro [.ref hm, .int v0, .int v1, .int v2, .int v3] [(hm, .inr (12, [.ref m_manys, .ref m_reals, .ref m_factsOf, .ref m_possible, .int (nI q_undos), .int (nI q_models), .ref m_tape, .int (nI q_taped), .int q_fault, .int q_wrong, .int q_wrongAt, .int q_spot, .int q_place, .int q_token, .int q_value, .ref m_ends, .ref m_letters, .ref m_actOf, .ref m_whom, .ref m_actMany, .ref m_tokens, .ref m_afters, .ref m_afterOf, .int q_counted, .ref m_pile, .ref m_caseMany, .ref m_happen, .ref m_hasIf, .ref m_becomes, .ref m_goneOf, .ref m_heard, .ref m_pairs, .ref m_heaps, .int q_rounds, .int q_heapMany, .ref m_led, .ref m_newAt, .ref m_knowing, .ref m_firsts, .int (nI q_people), .ref m_secrets, .ref m_tried, .ref m_lanes, .ref m_lengths, .ref m_cells])), (m_manys, .inl (E.2.1 1, 18, .inl f_manys)), (m_reals, .inl (E.2.1 1, 18, .inl f_reals)), (m_factsOf, .inl (E.2.1 1, 432, .inl f_factsOf)), (m_possible, .inl (E.2.1 1, 1728, .inl f_possible)), (m_lanes, .inl (E.2.1 1, 4, .inl f_lanes)), (m_lengths, .inl (E.2.1 1, 4, .inl f_lengths)), (m_cells, .inl (E.2.1 1, 192, .inl f_cells))] (Qi E (fun (rz : Int32) uz => (∃ (uz_ : Nat) (f_manysz : Nat → Int32) (f_realsz : Nat → Int32) (f_factsOfz : Nat → Int32) (f_possiblez : Nat → Int32), uz = [(hm, .inr (12, [.ref m_manys, .ref m_reals, .ref m_factsOf, .ref m_possible, .int (nI uz_), .int (nI q_models), .ref m_tape, .int (nI q_taped), .int q_fault, .int q_wrong, .int q_wrongAt, .int q_spot, .int q_place, .int q_token, .int q_value, .ref m_ends, .ref m_letters, .ref m_actOf, .ref m_whom, .ref m_actMany, .ref m_tokens, .ref m_afters, .ref m_afterOf, .int q_counted, .ref m_pile, .ref m_caseMany, .ref m_happen, .ref m_hasIf, .ref m_becomes, .ref m_goneOf, .ref m_heard, .ref m_pairs, .ref m_heaps, .int q_rounds, .int q_heapMany, .ref m_led, .ref m_newAt, .ref m_knowing, .ref m_firsts, .int (nI q_people), .ref m_secrets, .ref m_tried, .ref m_lanes, .ref m_lengths, .ref m_cells])), (m_manys, .inl (E.2.1 1, 18, .inl f_manysz)), (m_reals, .inl (E.2.1 1, 18, .inl f_realsz)), (m_factsOf, .inl (E.2.1 1, 432, .inl f_factsOfz)), (m_possible, .inl (E.2.1 1, 1728, .inl f_possiblez)), (m_lanes, .inl (E.2.1 1, 4, .inl f_lanes)), (m_lengths, .inl (E.2.1 1, 4, .inl f_lengths)), (m_cells, .inl (E.2.1 1, 192, .inl f_cells))] ∧ (uz_ ≤ 8) ∧ (NB 18 24 f_manysz) ∧ (NB 18 23 f_realsz) ∧ (PG f_manysz f_realsz) ∧ (WFP (pgs f_manysz f_realsz f_factsOfz f_possiblez)) ∧ (((v0.toInt < 0 ∨ 3 < v0.toInt ∨ v1.toInt < 0 ∨ 2 < v1.toInt ∨ v3.toInt < 0 ∨ 24 < v3.toInt) ∧ rz = -1) ∨ ∃ k_ l_ n_ : Nat, v0 = nI k_ ∧ v1 = nI l_ ∧ v3 = nI n_ ∧ k_ ≤ 3 ∧ l_ ≤ 2 ∧ n_ ≤ 24 ∧ rz = rdB (f_lanes k_) (cN f_lengths k_) (fun j => f_cells (48 * k_ + j)) l_ v2 n_) ∧ ((rz.toInt < 0 ∧ asM uz_ (pgs f_manysz f_realsz f_factsOfz f_possiblez) = asM q_undos (pgs f_manys f_reals f_factsOf f_possible)) ∨ ∃ k_ n_ : Nat, v0 = nI k_ ∧ k_ ≤ 3 ∧ v3 = nI n_ ∧ n_ ≤ 24 ∧ rz = nI n_ ∧ asM uz_ (pgs f_manysz f_realsz f_factsOfz f_possiblez) = aRem (asM q_undos (pgs f_manys f_reals f_factsOf f_possible)) (aRd (fun i_ => f_cells (48 * k_ + (v2.toInt.toNat + i_))) n_)) ∧ (KP6 (pgs f_manys f_reals f_factsOf f_possible) (pgs f_manysz f_realsz f_factsOfz f_possiblez))))) 0 0 := by
  refine ct_of rfl rfl ?_
  intro X C hT hin hro
  show WW X 6 E 0 [(0, .ref hm), (1, .int v0), (2, .int v1), (3, .int v2), (4, .int v3)] [] [(hm, .inr (12, [.ref m_manys, .ref m_reals, .ref m_factsOf, .ref m_possible, .int (nI q_undos), .int (nI q_models), .ref m_tape, .int (nI q_taped), .int q_fault, .int q_wrong, .int q_wrongAt, .int q_spot, .int q_place, .int q_token, .int q_value, .ref m_ends, .ref m_letters, .ref m_actOf, .ref m_whom, .ref m_actMany, .ref m_tokens, .ref m_afters, .ref m_afterOf, .int q_counted, .ref m_pile, .ref m_caseMany, .ref m_happen, .ref m_hasIf, .ref m_becomes, .ref m_goneOf, .ref m_heard, .ref m_pairs, .ref m_heaps, .int q_rounds, .int q_heapMany, .ref m_led, .ref m_newAt, .ref m_knowing, .ref m_firsts, .int (nI q_people), .ref m_secrets, .ref m_tried, .ref m_lanes, .ref m_lengths, .ref m_cells])), (m_manys, .inl (E.2.1 1, 18, .inl f_manys)), (m_reals, .inl (E.2.1 1, 18, .inl f_reals)), (m_factsOf, .inl (E.2.1 1, 432, .inl f_factsOf)), (m_possible, .inl (E.2.1 1, 1728, .inl f_possible)), (m_lanes, .inl (E.2.1 1, 4, .inl f_lanes)), (m_lengths, .inl (E.2.1 1, 4, .inl f_lengths)), (m_cells, .inl (E.2.1 1, 192, .inl f_cells))] 0 0
  have hmn0 := (hb_manys 0 (by omega)).2
  refine ww_iload_n C dX12_read_0 1 rfl rfl ?_
  refine ww_i2l (v := v0.toInt64) C dX12_read_1 rfl ?_
  refine ww_lconst (v := 0) C dX12_read_2 rfl ?_
  refine ww_ldc2 C wv_X12_113 dX12_read_3 ?_
  refine ww_ci (wr := [(hm, .inr (12, [.ref m_manys, .ref m_reals, .ref m_factsOf, .ref m_possible, .int (nI q_undos), .int (nI q_models), .ref m_tape, .int (nI q_taped), .int q_fault, .int q_wrong, .int q_wrongAt, .int q_spot, .int q_place, .int q_token, .int q_value, .ref m_ends, .ref m_letters, .ref m_actOf, .ref m_whom, .ref m_actMany, .ref m_tokens, .ref m_afters, .ref m_afterOf, .int q_counted, .ref m_pile, .ref m_caseMany, .ref m_happen, .ref m_hasIf, .ref m_becomes, .ref m_goneOf, .ref m_heard, .ref m_pairs, .ref m_heaps, .int q_rounds, .int q_heapMany, .ref m_led, .ref m_newAt, .ref m_knowing, .ref m_firsts, .int (nI q_people), .ref m_secrets, .ref m_tried, .ref m_lanes, .ref m_lengths, .ref m_cells])), (m_manys, .inl (E.2.1 1, 18, .inl f_manys)), (m_reals, .inl (E.2.1 1, 18, .inl f_reals)), (m_factsOf, .inl (E.2.1 1, 432, .inl f_factsOf)), (m_possible, .inl (E.2.1 1, 1728, .inl f_possible)), (m_lanes, .inl (E.2.1 1, 4, .inl f_lanes)), (m_lengths, .inl (E.2.1 1, 4, .inl f_lengths)), (m_cells, .inl (E.2.1 1, 192, .inl f_cells))]) (k' := 0) (n' := 0) C (run_S (As := [.long v0.toInt64, .long 0, .long 3]) (rest := []) C (r_in X.2.1 E ro v0.toInt64 0 3 v0.toInt 0 3 (Int32.toInt_toInt64 _) rfl rfl) ms_X12_in wl_X12_115 rfl rfl rfl rfl dX12_read_6) (roK hro) [] [0, 1, 2, 3, 4, 5, 6, 7] rfl (gqk (by eq_refl)) (plk (by decide +kernel)) rfl (fun r_1 uz hw => ?_)
  rcases hw with hw | hw
  · refine an3 hw ?_
    clear hw
    intro he_4 he_5 h_2 hw
    have h_3 := hw
    clear hw
    have he_4 := he_4.symm
    subst he_4
    subst he_5
    refine ww_eq (ws' := [(hm, .inr (12, [.ref m_manys, .ref m_reals, .ref m_factsOf, .ref m_possible, .int (nI q_undos), .int (nI q_models), .ref m_tape, .int (nI q_taped), .int q_fault, .int q_wrong, .int q_wrongAt, .int q_spot, .int q_place, .int q_token, .int q_value, .ref m_ends, .ref m_letters, .ref m_actOf, .ref m_whom, .ref m_actMany, .ref m_tokens, .ref m_afters, .ref m_afterOf, .int q_counted, .ref m_pile, .ref m_caseMany, .ref m_happen, .ref m_hasIf, .ref m_becomes, .ref m_goneOf, .ref m_heard, .ref m_pairs, .ref m_heaps, .int q_rounds, .int q_heapMany, .ref m_led, .ref m_newAt, .ref m_knowing, .ref m_firsts, .int (nI q_people), .ref m_secrets, .ref m_tried, .ref m_lanes, .ref m_lengths, .ref m_cells])), (m_manys, .inl (E.2.1 1, 18, .inl f_manys)), (m_reals, .inl (E.2.1 1, 18, .inl f_reals)), (m_factsOf, .inl (E.2.1 1, 432, .inl f_factsOf)), (m_possible, .inl (E.2.1 1, 1728, .inl f_possible)), (m_lanes, .inl (E.2.1 1, 4, .inl f_lanes)), (m_lengths, .inl (E.2.1 1, 4, .inl f_lengths)), (m_cells, .inl (E.2.1 1, 192, .inl f_cells))]) ?_ rfl rfl rfl
    refine ww_if_eq_f (tgt := 37) C dX12_read_9 (by decide) (by decide) ?_
    refine ww_iload_n C dX12_read_12 2 rfl rfl ?_
    refine ww_i2l (v := v1.toInt64) C dX12_read_13 rfl ?_
    refine ww_lconst (v := 0) C dX12_read_14 rfl ?_
    refine ww_ldc2 C wv_X12_254 dX12_read_15 ?_
    refine ww_ci (wr := [(hm, .inr (12, [.ref m_manys, .ref m_reals, .ref m_factsOf, .ref m_possible, .int (nI q_undos), .int (nI q_models), .ref m_tape, .int (nI q_taped), .int q_fault, .int q_wrong, .int q_wrongAt, .int q_spot, .int q_place, .int q_token, .int q_value, .ref m_ends, .ref m_letters, .ref m_actOf, .ref m_whom, .ref m_actMany, .ref m_tokens, .ref m_afters, .ref m_afterOf, .int q_counted, .ref m_pile, .ref m_caseMany, .ref m_happen, .ref m_hasIf, .ref m_becomes, .ref m_goneOf, .ref m_heard, .ref m_pairs, .ref m_heaps, .int q_rounds, .int q_heapMany, .ref m_led, .ref m_newAt, .ref m_knowing, .ref m_firsts, .int (nI q_people), .ref m_secrets, .ref m_tried, .ref m_lanes, .ref m_lengths, .ref m_cells])), (m_manys, .inl (E.2.1 1, 18, .inl f_manys)), (m_reals, .inl (E.2.1 1, 18, .inl f_reals)), (m_factsOf, .inl (E.2.1 1, 432, .inl f_factsOf)), (m_possible, .inl (E.2.1 1, 1728, .inl f_possible)), (m_lanes, .inl (E.2.1 1, 4, .inl f_lanes)), (m_lengths, .inl (E.2.1 1, 4, .inl f_lengths)), (m_cells, .inl (E.2.1 1, 192, .inl f_cells))]) (k' := 0) (n' := 0) C (run_S (As := [.long v1.toInt64, .long 0, .long 2]) (rest := []) C (r_in X.2.1 E ro v1.toInt64 0 2 v1.toInt 0 2 (Int32.toInt_toInt64 _) rfl rfl) ms_X12_in wl_X12_115 rfl rfl rfl rfl dX12_read_18) (roK hro) [] [0, 1, 2, 3, 4, 5, 6, 7] rfl (gqk (by eq_refl)) (plk (by decide +kernel)) rfl (fun r_9 uz hw => ?_)
    rcases hw with hw | hw
    · refine an3 hw ?_
      clear hw
      intro he_12 he_13 h_10 hw
      have h_11 := hw
      clear hw
      have he_12 := he_12.symm
      subst he_12
      subst he_13
      refine ww_eq (ws' := [(hm, .inr (12, [.ref m_manys, .ref m_reals, .ref m_factsOf, .ref m_possible, .int (nI q_undos), .int (nI q_models), .ref m_tape, .int (nI q_taped), .int q_fault, .int q_wrong, .int q_wrongAt, .int q_spot, .int q_place, .int q_token, .int q_value, .ref m_ends, .ref m_letters, .ref m_actOf, .ref m_whom, .ref m_actMany, .ref m_tokens, .ref m_afters, .ref m_afterOf, .int q_counted, .ref m_pile, .ref m_caseMany, .ref m_happen, .ref m_hasIf, .ref m_becomes, .ref m_goneOf, .ref m_heard, .ref m_pairs, .ref m_heaps, .int q_rounds, .int q_heapMany, .ref m_led, .ref m_newAt, .ref m_knowing, .ref m_firsts, .int (nI q_people), .ref m_secrets, .ref m_tried, .ref m_lanes, .ref m_lengths, .ref m_cells])), (m_manys, .inl (E.2.1 1, 18, .inl f_manys)), (m_reals, .inl (E.2.1 1, 18, .inl f_reals)), (m_factsOf, .inl (E.2.1 1, 432, .inl f_factsOf)), (m_possible, .inl (E.2.1 1, 1728, .inl f_possible)), (m_lanes, .inl (E.2.1 1, 4, .inl f_lanes)), (m_lengths, .inl (E.2.1 1, 4, .inl f_lengths)), (m_cells, .inl (E.2.1 1, 192, .inl f_cells))]) ?_ rfl rfl rfl
      refine ww_if_eq_f (tgt := 37) C dX12_read_21 (by decide) (by decide) ?_
      refine ww_iload C dX12_read_24 4 rfl ?_
      refine ww_i2l (v := v3.toInt64) C dX12_read_26 rfl ?_
      refine ww_lconst (v := 0) C dX12_read_27 rfl ?_
      refine ww_ldc2 C wv_X12_341 dX12_read_28 ?_
      refine ww_ci (wr := [(hm, .inr (12, [.ref m_manys, .ref m_reals, .ref m_factsOf, .ref m_possible, .int (nI q_undos), .int (nI q_models), .ref m_tape, .int (nI q_taped), .int q_fault, .int q_wrong, .int q_wrongAt, .int q_spot, .int q_place, .int q_token, .int q_value, .ref m_ends, .ref m_letters, .ref m_actOf, .ref m_whom, .ref m_actMany, .ref m_tokens, .ref m_afters, .ref m_afterOf, .int q_counted, .ref m_pile, .ref m_caseMany, .ref m_happen, .ref m_hasIf, .ref m_becomes, .ref m_goneOf, .ref m_heard, .ref m_pairs, .ref m_heaps, .int q_rounds, .int q_heapMany, .ref m_led, .ref m_newAt, .ref m_knowing, .ref m_firsts, .int (nI q_people), .ref m_secrets, .ref m_tried, .ref m_lanes, .ref m_lengths, .ref m_cells])), (m_manys, .inl (E.2.1 1, 18, .inl f_manys)), (m_reals, .inl (E.2.1 1, 18, .inl f_reals)), (m_factsOf, .inl (E.2.1 1, 432, .inl f_factsOf)), (m_possible, .inl (E.2.1 1, 1728, .inl f_possible)), (m_lanes, .inl (E.2.1 1, 4, .inl f_lanes)), (m_lengths, .inl (E.2.1 1, 4, .inl f_lengths)), (m_cells, .inl (E.2.1 1, 192, .inl f_cells))]) (k' := 0) (n' := 0) C (run_S (As := [.long v3.toInt64, .long 0, .long 24]) (rest := []) C (r_in X.2.1 E ro v3.toInt64 0 24 v3.toInt 0 24 (Int32.toInt_toInt64 _) rfl rfl) ms_X12_in wl_X12_115 rfl rfl rfl rfl dX12_read_31) (roK hro) [] [0, 1, 2, 3, 4, 5, 6, 7] rfl (gqk (by eq_refl)) (plk (by decide +kernel)) rfl (fun r_17 uz hw => ?_)
      rcases hw with hw | hw
      · refine an3 hw ?_
        clear hw
        intro he_20 he_21 h_18 hw
        have h_19 := hw
        clear hw
        have he_20 := he_20.symm
        subst he_20
        subst he_21
        refine ww_eq (ws' := [(hm, .inr (12, [.ref m_manys, .ref m_reals, .ref m_factsOf, .ref m_possible, .int (nI q_undos), .int (nI q_models), .ref m_tape, .int (nI q_taped), .int q_fault, .int q_wrong, .int q_wrongAt, .int q_spot, .int q_place, .int q_token, .int q_value, .ref m_ends, .ref m_letters, .ref m_actOf, .ref m_whom, .ref m_actMany, .ref m_tokens, .ref m_afters, .ref m_afterOf, .int q_counted, .ref m_pile, .ref m_caseMany, .ref m_happen, .ref m_hasIf, .ref m_becomes, .ref m_goneOf, .ref m_heard, .ref m_pairs, .ref m_heaps, .int q_rounds, .int q_heapMany, .ref m_led, .ref m_newAt, .ref m_knowing, .ref m_firsts, .int (nI q_people), .ref m_secrets, .ref m_tried, .ref m_lanes, .ref m_lengths, .ref m_cells])), (m_manys, .inl (E.2.1 1, 18, .inl f_manys)), (m_reals, .inl (E.2.1 1, 18, .inl f_reals)), (m_factsOf, .inl (E.2.1 1, 432, .inl f_factsOf)), (m_possible, .inl (E.2.1 1, 1728, .inl f_possible)), (m_lanes, .inl (E.2.1 1, 4, .inl f_lanes)), (m_lengths, .inl (E.2.1 1, 4, .inl f_lengths)), (m_cells, .inl (E.2.1 1, 192, .inl f_cells))]) ?_ rfl rfl rfl
        refine ww_if_ne_t (tgt := 39) C dX12_read_34 (by decide) (by decide) ?_
        obtain ⟨j_25, hj_25, rfl⟩ := i_nat (x := v0) (N := 3) (by omega) (by omega)
        have hzj_25 := nI_toInt (n := j_25) (by omega)
        obtain ⟨j_26, hj_26, rfl⟩ := i_nat (x := v1) (N := 2) (by omega) (by omega)
        have hzj_26 := nI_toInt (n := j_26) (by omega)
        obtain ⟨j_27, hj_27, rfl⟩ := i_nat (x := v3) (N := 24) (by omega) (by omega)
        have hzj_27 := nI_toInt (n := j_27) (by omega)
        refine ww_aload_n C dX12_read_39 0 rfl rfl ?_
        refine ww_get C fg_X12_96 0 rfl rfl dX12_read_40 ?_
        refine ww_iload_n C dX12_read_43 1 rfl rfl ?_
        obtain ⟨x_28, ex_28⟩ : ∃ z : Int32, f_lanes j_25 = z := ⟨_, rfl⟩
        refine ww_iald (v := x_28) C 5 rfl (vp_in_nI (by omega) (by omega)) (ldn (by omega) ex_28) dX12_read_44 ?_
        refine ww_iload_n C dX12_read_45 2 rfl rfl ?_
        refine ww_icmp_eq (tgt := 68) C dX12_read_46 (by decide) (fun c_29 => ?_) (fun c_29 => ?_)
        · have zc_29 : x_28.toInt = ((j_26 : Nat) : Int) := i_eq rfl (nI_toInt (n := j_26) (by omega)) c_29
          refine ww_iconst (v := 0) C dX12_read_68 rfl ?_
          refine ww_istore (lv' := [(5, .int 0), (0, .ref hm), (1, .int (nI j_25)), (2, .int (nI j_26)), (3, .int v2), (4, .int (nI j_27))]) C dX12_read_69 rfl rfl ?_
          have loop_71 : ∀ (fu : Nat) (i1 : Nat), (i1 ≤ j_27) → (∀ i, i < i1 → 0 ≤ v2.toInt ∧ v2.toInt + i < cN f_lengths j_25) → (ckR (fun j => f_cells (48 * j_25 + j)) (cN f_lengths j_25) v2.toInt (j_27 - i1) i1 = ckR (fun j => f_cells (48 * j_25 + j)) (cN f_lengths j_25) v2.toInt j_27 0) → j_27 - i1 < fu → WW X 6 E 71 [(5, .int (nI i1)), (0, .ref hm), (1, .int (nI j_25)), (2, .int (nI j_26)), (3, .int v2), (4, .int (nI j_27))] [] [(hm, .inr (12, [.ref m_manys, .ref m_reals, .ref m_factsOf, .ref m_possible, .int (nI q_undos), .int (nI q_models), .ref m_tape, .int (nI q_taped), .int q_fault, .int q_wrong, .int q_wrongAt, .int q_spot, .int q_place, .int q_token, .int q_value, .ref m_ends, .ref m_letters, .ref m_actOf, .ref m_whom, .ref m_actMany, .ref m_tokens, .ref m_afters, .ref m_afterOf, .int q_counted, .ref m_pile, .ref m_caseMany, .ref m_happen, .ref m_hasIf, .ref m_becomes, .ref m_goneOf, .ref m_heard, .ref m_pairs, .ref m_heaps, .int q_rounds, .int q_heapMany, .ref m_led, .ref m_newAt, .ref m_knowing, .ref m_firsts, .int (nI q_people), .ref m_secrets, .ref m_tried, .ref m_lanes, .ref m_lengths, .ref m_cells])), (m_manys, .inl (E.2.1 1, 18, .inl f_manys)), (m_reals, .inl (E.2.1 1, 18, .inl f_reals)), (m_factsOf, .inl (E.2.1 1, 432, .inl f_factsOf)), (m_possible, .inl (E.2.1 1, 1728, .inl f_possible)), (m_lanes, .inl (E.2.1 1, 4, .inl f_lanes)), (m_lengths, .inl (E.2.1 1, 4, .inl f_lengths)), (m_cells, .inl (E.2.1 1, 192, .inl f_cells))] 0 0 := by
            intro fu
            induction fu with
            | zero => intro i1 hi1 hff hck hmeas; exact absurd hmeas (Nat.not_lt_zero _)
            | succ fu ih_71 =>
              intro i1 hi1 hff hck hmeas
              refine ww_iload C dX12_read_71 0 rfl ?_
              refine ww_iload C dX12_read_73 5 rfl ?_
              refine ww_icmp_ge (tgt := 140) C dX12_read_75 (by decide) (fun c_30 => ?_) (fun c_30 => ?_)
              · have zc_30 : ((i1 : Nat) : Int) ≥ ((j_27 : Nat) : Int) := i_le (nI_toInt (n := j_27) (by omega)) (nI_toInt (n := i1) (by omega)) c_30
                refine ww_aload_n C dX12_read_140 1 rfl rfl ?_
                refine ww_cv (wr := [(m_lanes, .inl (E.2.1 1, 4, .inl f_lanes)), (m_lengths, .inl (E.2.1 1, 4, .inl f_lengths)), (m_cells, .inl (E.2.1 1, 192, .inl f_cells))]) (k' := 0) (n' := 0) C (run_V (As := []) (rest := []) C (r_acts X.2.1 E ro hm m_manys m_reals m_factsOf m_possible q_undos q_models m_tape q_taped q_fault q_wrong q_wrongAt q_spot q_place q_token q_value m_ends m_letters m_actOf m_whom m_actMany m_tokens m_afters m_afterOf q_counted m_pile m_caseMany m_happen m_hasIf m_becomes m_goneOf m_heard m_pairs m_heaps q_rounds q_heapMany m_led m_newAt m_knowing m_firsts q_people m_secrets m_tried m_lanes m_lengths m_cells f_manys f_reals f_factsOf f_possible hb_manys hb_reals hpg hwf (by omega)) mi_X12_acts wl_X12_121 rfl 0 12 rfl rfl rfl rfl rfl dX12_read_141) (roK hro) [0, 1, 2, 3, 4] [5, 6, 7] rfl rfl (plk (by decide +kernel)) rfl (fun uz hw => ?_)
                refine ex5 hw ?_
                clear hw
                intro uz__32 f_manysz_33 f_realsz_34 f_factsOfz_35 f_possiblez_36 hw
                refine an8 hw ?_
                clear hw
                intro he_47 h_37 h_38 h_39 h_40 h_41 h_42 h_43 hw
                refine an2 hw ?_
                clear hw
                intro h_44 h_45 hw
                have h_46 := hw
                clear hw
                subst he_47
                refine ww_eq (ws' := [(m_lanes, .inl (E.2.1 1, 4, .inl f_lanes)), (m_lengths, .inl (E.2.1 1, 4, .inl f_lengths)), (m_cells, .inl (E.2.1 1, 192, .inl f_cells)), (hm, .inr (12, [.ref m_manys, .ref m_reals, .ref m_factsOf, .ref m_possible, .int (nI uz__32), .int (nI q_models), .ref m_tape, .int (nI q_taped), .int q_fault, .int q_wrong, .int q_wrongAt, .int q_spot, .int q_place, .int q_token, .int q_value, .ref m_ends, .ref m_letters, .ref m_actOf, .ref m_whom, .ref m_actMany, .ref m_tokens, .ref m_afters, .ref m_afterOf, .int q_counted, .ref m_pile, .ref m_caseMany, .ref m_happen, .ref m_hasIf, .ref m_becomes, .ref m_goneOf, .ref m_heard, .ref m_pairs, .ref m_heaps, .int q_rounds, .int q_heapMany, .ref m_led, .ref m_newAt, .ref m_knowing, .ref m_firsts, .int (nI q_people), .ref m_secrets, .ref m_tried, .ref m_lanes, .ref m_lengths, .ref m_cells])), (m_manys, .inl (E.2.1 1, 18, .inl f_manysz_33)), (m_reals, .inl (E.2.1 1, 18, .inl f_realsz_34)), (m_factsOf, .inl (E.2.1 1, 432, .inl f_factsOfz_35)), (m_possible, .inl (E.2.1 1, 1728, .inl f_possiblez_36))]) ?_ rfl rfl rfl
                refine ww_aload_n C dX12_read_144 1 rfl rfl ?_
                refine ww_get C fg_X12_7 3 rfl rfl dX12_read_145 ?_
                refine ww_iconst (v := 0) C dX12_read_148 rfl ?_
                refine ww_iconst (v := 0) C dX12_read_149 rfl ?_
                obtain ⟨f_48, ef_48⟩ : ∃ z : Nat → Int32, upd f_manysz_33 0 0 = z := ⟨_, rfl⟩
                refine ww_iast (ws' := [(m_lanes, .inl (E.2.1 1, 4, .inl f_lanes)), (m_lengths, .inl (E.2.1 1, 4, .inl f_lengths)), (m_cells, .inl (E.2.1 1, 192, .inl f_cells)), (hm, .inr (12, [.ref m_manys, .ref m_reals, .ref m_factsOf, .ref m_possible, .int (nI uz__32), .int (nI q_models), .ref m_tape, .int (nI q_taped), .int q_fault, .int q_wrong, .int q_wrongAt, .int q_spot, .int q_place, .int q_token, .int q_value, .ref m_ends, .ref m_letters, .ref m_actOf, .ref m_whom, .ref m_actMany, .ref m_tokens, .ref m_afters, .ref m_afterOf, .int q_counted, .ref m_pile, .ref m_caseMany, .ref m_happen, .ref m_hasIf, .ref m_becomes, .ref m_goneOf, .ref m_heard, .ref m_pairs, .ref m_heaps, .int q_rounds, .int q_heapMany, .ref m_led, .ref m_newAt, .ref m_knowing, .ref m_firsts, .int (nI q_people), .ref m_secrets, .ref m_tried, .ref m_lanes, .ref m_lengths, .ref m_cells])), (m_manys, .inl (E.2.1 1, 18, .inl f_48)), (m_reals, .inl (E.2.1 1, 18, .inl f_realsz_34)), (m_factsOf, .inl (E.2.1 1, 432, .inl f_factsOfz_35)), (m_possible, .inl (E.2.1 1, 1728, .inl f_possiblez_36))]) C 4 rfl (vin rfl) ef_48 rfl dX12_read_150 ?_
                refine ww_aload_n C dX12_read_151 1 rfl rfl ?_
                refine ww_get C fg_X12_13 3 rfl rfl dX12_read_152 ?_
                refine ww_iconst (v := 0) C dX12_read_155 rfl ?_
                refine ww_iconst (v := 0) C dX12_read_156 rfl ?_
                obtain ⟨f_49, ef_49⟩ : ∃ z : Nat → Int32, upd f_realsz_34 0 0 = z := ⟨_, rfl⟩
                refine ww_iast (ws' := [(m_lanes, .inl (E.2.1 1, 4, .inl f_lanes)), (m_lengths, .inl (E.2.1 1, 4, .inl f_lengths)), (m_cells, .inl (E.2.1 1, 192, .inl f_cells)), (hm, .inr (12, [.ref m_manys, .ref m_reals, .ref m_factsOf, .ref m_possible, .int (nI uz__32), .int (nI q_models), .ref m_tape, .int (nI q_taped), .int q_fault, .int q_wrong, .int q_wrongAt, .int q_spot, .int q_place, .int q_token, .int q_value, .ref m_ends, .ref m_letters, .ref m_actOf, .ref m_whom, .ref m_actMany, .ref m_tokens, .ref m_afters, .ref m_afterOf, .int q_counted, .ref m_pile, .ref m_caseMany, .ref m_happen, .ref m_hasIf, .ref m_becomes, .ref m_goneOf, .ref m_heard, .ref m_pairs, .ref m_heaps, .int q_rounds, .int q_heapMany, .ref m_led, .ref m_newAt, .ref m_knowing, .ref m_firsts, .int (nI q_people), .ref m_secrets, .ref m_tried, .ref m_lanes, .ref m_lengths, .ref m_cells])), (m_manys, .inl (E.2.1 1, 18, .inl f_48)), (m_reals, .inl (E.2.1 1, 18, .inl f_49)), (m_factsOf, .inl (E.2.1 1, 432, .inl f_factsOfz_35)), (m_possible, .inl (E.2.1 1, 1728, .inl f_possiblez_36))]) C 5 rfl (vin rfl) ef_49 rfl dX12_read_157 ?_
                have hpgz := PG.put (a := 0) (b := 0) h_39 ef_48 ef_49 (by omega) (by omega) (by omega)
                have hot0 : OTH 0 (pgs f_manysz_33 f_realsz_34 f_factsOfz_35 f_possiblez_36) (pgs f_48 f_49 f_factsOfz_35 f_possiblez_36) := pgs_oth h_37 (OFF.put OFF.rf (by omega) (by omega) ef_48) (OFF.put OFF.rf (by omega) (by omega) ef_49) OFF.rf OFF.rf
                have hwfz := WFP.at (REMS.wf h_46 hwf) hot0 (by rw [pg_clear (F := fun _ => 0) ef_48 ef_49]; exact aRd_wf 0)
                refine ww_iconst (v := 0) C dX12_read_158 rfl ?_
                refine ww_istore (lv' := [(5, .int 0), (0, .ref hm), (1, .int (nI j_25)), (2, .int (nI j_26)), (3, .int v2), (4, .int (nI j_27))]) C dX12_read_159 rfl rfl ?_
                have loop_161 : ∀ (fu : Nat) (i2 : Nat) (gr_manys : Nat → Int32) (gr_reals : Nat → Int32) (gr_factsOf : Nat → Int32) (gr_possible : Nat → Int32), (i2 ≤ j_27) → (cN gr_manys 0 = i2) → ((pgs gr_manys gr_reals gr_factsOf gr_possible) 0 = aRd (fun i_ => f_cells (48 * j_25 + (v2.toInt.toNat + i_))) i2) → (OTH 0 (pgs f_manysz_33 f_realsz_34 f_factsOfz_35 f_possiblez_36) (pgs gr_manys gr_reals gr_factsOf gr_possible)) → (NB 18 24 gr_manys) → (NB 18 23 gr_reals) → (PG gr_manys gr_reals) → (WFP (pgs gr_manys gr_reals gr_factsOf gr_possible)) → j_27 - i2 < fu → WW X 6 E 161 [(5, .int (nI i2)), (0, .ref hm), (1, .int (nI j_25)), (2, .int (nI j_26)), (3, .int v2), (4, .int (nI j_27))] [] [(m_lanes, .inl (E.2.1 1, 4, .inl f_lanes)), (m_lengths, .inl (E.2.1 1, 4, .inl f_lengths)), (m_cells, .inl (E.2.1 1, 192, .inl f_cells)), (hm, .inr (12, [.ref m_manys, .ref m_reals, .ref m_factsOf, .ref m_possible, .int (nI uz__32), .int (nI q_models), .ref m_tape, .int (nI q_taped), .int q_fault, .int q_wrong, .int q_wrongAt, .int q_spot, .int q_place, .int q_token, .int q_value, .ref m_ends, .ref m_letters, .ref m_actOf, .ref m_whom, .ref m_actMany, .ref m_tokens, .ref m_afters, .ref m_afterOf, .int q_counted, .ref m_pile, .ref m_caseMany, .ref m_happen, .ref m_hasIf, .ref m_becomes, .ref m_goneOf, .ref m_heard, .ref m_pairs, .ref m_heaps, .int q_rounds, .int q_heapMany, .ref m_led, .ref m_newAt, .ref m_knowing, .ref m_firsts, .int (nI q_people), .ref m_secrets, .ref m_tried, .ref m_lanes, .ref m_lengths, .ref m_cells])), (m_manys, .inl (E.2.1 1, 18, .inl gr_manys)), (m_reals, .inl (E.2.1 1, 18, .inl gr_reals)), (m_factsOf, .inl (E.2.1 1, 432, .inl gr_factsOf)), (m_possible, .inl (E.2.1 1, 1728, .inl gr_possible))] 0 0 := by
                  intro fu
                  induction fu with
                  | zero => intro i2 gr_manys gr_reals gr_factsOf gr_possible hi2 hm2 hrd hot hnb_m_manys_161 hnb_m_reals_161 hpg_161 hwf_161 hmeas; exact absurd hmeas (Nat.not_lt_zero _)
                  | succ fu ih_161 =>
                    intro i2 gr_manys gr_reals gr_factsOf gr_possible hi2 hm2 hrd hot hnb_m_manys_161 hnb_m_reals_161 hpg_161 hwf_161 hmeas
                    refine ww_iload C dX12_read_161 0 rfl ?_
                    refine ww_iload C dX12_read_163 5 rfl ?_
                    refine ww_icmp_ge (tgt := 192) C dX12_read_165 (by decide) (fun c_50 => ?_) (fun c_50 => ?_)
                    · have zc_50 : ((i2 : Nat) : Int) ≥ ((j_27 : Nat) : Int) := i_le (nI_toInt (n := j_27) (by omega)) (nI_toInt (n := i2) (by omega)) c_50
                      refine ww_iload C dX12_read_192 5 rfl ?_
                      exact ww_iret (u := [(hm, .inr (12, [.ref m_manys, .ref m_reals, .ref m_factsOf, .ref m_possible, .int (nI uz__32), .int (nI q_models), .ref m_tape, .int (nI q_taped), .int q_fault, .int q_wrong, .int q_wrongAt, .int q_spot, .int q_place, .int q_token, .int q_value, .ref m_ends, .ref m_letters, .ref m_actOf, .ref m_whom, .ref m_actMany, .ref m_tokens, .ref m_afters, .ref m_afterOf, .int q_counted, .ref m_pile, .ref m_caseMany, .ref m_happen, .ref m_hasIf, .ref m_becomes, .ref m_goneOf, .ref m_heard, .ref m_pairs, .ref m_heaps, .int q_rounds, .int q_heapMany, .ref m_led, .ref m_newAt, .ref m_knowing, .ref m_firsts, .int (nI q_people), .ref m_secrets, .ref m_tried, .ref m_lanes, .ref m_lengths, .ref m_cells])), (m_manys, .inl (E.2.1 1, 18, .inl gr_manys)), (m_reals, .inl (E.2.1 1, 18, .inl gr_reals)), (m_factsOf, .inl (E.2.1 1, 432, .inl gr_factsOf)), (m_possible, .inl (E.2.1 1, 1728, .inl gr_possible)), (m_lanes, .inl (E.2.1 1, 4, .inl f_lanes)), (m_lengths, .inl (E.2.1 1, 4, .inl f_lengths)), (m_cells, .inl (E.2.1 1, 192, .inl f_cells))]) C hT [3, 4, 5, 6, 7, 0, 1, 2] (gqk (by eq_refl)) (ndk (by decide +kernel)) rfl rfl dX12_read_194 (⟨uz__32, gr_manys, gr_reals, gr_factsOf, gr_possible, rfl, (by omega), hnb_m_manys_161, hnb_m_reals_161, hpg_161, hwf_161, (Or.inr ⟨j_25, j_26, j_27, rfl, rfl, rfl, by omega, by omega, by omega, rdB_o (by rw [ex_28]; omega) (by omega) (hck.symm.trans (ck_end (by omega)))⟩), (Or.inr ⟨j_25, j_27, rfl, by omega, rfl, by omega, rfl, (rm_end hq_undos h_46 (OTH.hi hot (by omega)) (hrd.trans (congrArg (aRd _) (show i2 = j_27 by omega))))⟩), (KP6.rem h_46 (OTH.hi hot (by omega)))⟩)
                    · have zc_50 : ((i2 : Nat) : Int) < ((j_27 : Nat) : Int) := i_nle (nI_toInt (n := j_27) (by omega)) (nI_toInt (n := i2) (by omega)) c_50
                      have hfi := hff i2 (by omega)
                      have hml0 := (hnb_m_manys_161 0 (by omega)).2
                      have hlen := (hb_lengths j_25 (by omega)).2
                      refine ww_aload_n C dX12_read_168 1 rfl rfl ?_
                      refine ww_aload_n C dX12_read_169 1 rfl rfl ?_
                      refine ww_get C fg_X12_102 3 rfl rfl dX12_read_170 ?_
                      refine ww_bipush (v := 48) C dX12_read_173 rfl ?_
                      refine ww_iload_n C dX12_read_175 2 rfl rfl ?_
                      refine ww_imul (v := (nI (48 * j_25))) C dX12_read_176 (pk_mul 48 j_25) ?_
                      refine ww_iload_n C dX12_read_177 4 rfl rfl ?_
                      obtain ⟨j_51, ej_51, hj_51⟩ := nI_ex (x := v2) (n := 47) (by omega) (by omega)
                      have hzj_51 : v2.toInt = (j_51 : Int) := by rw [ej_51]; exact nI_toInt (by omega)
                      refine ww_iadd (v := (nI ((48 * j_25) + j_51))) C dX12_read_178 (by rw [ej_51, nI_add]) ?_
                      refine ww_iload C dX12_read_179 0 rfl ?_
                      refine ww_iadd (v := (nI (((48 * j_25) + j_51) + i2))) C dX12_read_181 (nI_add ((48 * j_25) + j_51) i2) ?_
                      obtain ⟨x_52, ex_52⟩ : ∃ z : Int32, f_cells (((48 * j_25) + j_51) + i2) = z := ⟨_, rfl⟩
                      refine ww_iald (v := x_52) C 2 rfl (vp_in_nI (by omega) (by omega)) (ldn (by omega) ex_52) dX12_read_182 ?_
                      refine ww_cv (wr := [(m_lanes, .inl (E.2.1 1, 4, .inl f_lanes)), (m_lengths, .inl (E.2.1 1, 4, .inl f_lengths)), (m_cells, .inl (E.2.1 1, 192, .inl f_cells))]) (k' := 0) (n' := 0) C (run_V (As := [.int x_52]) (rest := []) C (r_addWorld X.2.1 E ro hm x_52 m_manys m_reals m_factsOf m_possible uz__32 q_models m_tape q_taped q_fault q_wrong q_wrongAt q_spot q_place q_token q_value m_ends m_letters m_actOf m_whom m_actMany m_tokens m_afters m_afterOf q_counted m_pile m_caseMany m_happen m_hasIf m_becomes m_goneOf m_heard m_pairs m_heaps q_rounds q_heapMany m_led m_newAt m_knowing m_firsts q_people m_secrets m_tried m_lanes m_lengths m_cells gr_manys gr_reals gr_factsOf gr_possible hnb_m_manys_161 hnb_m_reals_161 hpg_161 hwf_161 (by omega)) mi_X12_addWorld wl_X12_124 rfl 0 12 rfl rfl rfl rfl rfl dX12_read_183) (roK hro) [3, 4, 5, 6, 7] [0, 1, 2] rfl rfl (plk (by decide +kernel)) rfl (fun uz hw => ?_)
                      refine ex4 hw ?_
                      clear hw
                      intro f_manysz_54 f_realsz_55 f_factsOfz_56 f_possiblez_57 hw
                      refine an8 hw ?_
                      clear hw
                      intro he_66 h_58 h_59 h_60 h_61 h_62 h_63 h_64 hw
                      have h_65 := hw
                      clear hw
                      subst he_66
                      refine ww_eq (ws' := [(m_lanes, .inl (E.2.1 1, 4, .inl f_lanes)), (m_lengths, .inl (E.2.1 1, 4, .inl f_lengths)), (m_cells, .inl (E.2.1 1, 192, .inl f_cells)), (hm, .inr (12, [.ref m_manys, .ref m_reals, .ref m_factsOf, .ref m_possible, .int (nI uz__32), .int (nI q_models), .ref m_tape, .int (nI q_taped), .int q_fault, .int q_wrong, .int q_wrongAt, .int q_spot, .int q_place, .int q_token, .int q_value, .ref m_ends, .ref m_letters, .ref m_actOf, .ref m_whom, .ref m_actMany, .ref m_tokens, .ref m_afters, .ref m_afterOf, .int q_counted, .ref m_pile, .ref m_caseMany, .ref m_happen, .ref m_hasIf, .ref m_becomes, .ref m_goneOf, .ref m_heard, .ref m_pairs, .ref m_heaps, .int q_rounds, .int q_heapMany, .ref m_led, .ref m_newAt, .ref m_knowing, .ref m_firsts, .int (nI q_people), .ref m_secrets, .ref m_tried, .ref m_lanes, .ref m_lengths, .ref m_cells])), (m_manys, .inl (E.2.1 1, 18, .inl f_manysz_54)), (m_reals, .inl (E.2.1 1, 18, .inl f_realsz_55)), (m_factsOf, .inl (E.2.1 1, 432, .inl f_factsOfz_56)), (m_possible, .inl (E.2.1 1, 1728, .inl f_possiblez_57))]) ?_ rfl rfl rfl
                      have hmz := cN_s (by omega) h_62
                      have hmz2 : cN f_manysz_54 0 = i2 + 1 := by omega
                      refine ww_iinc (j := 0) (v := (nI (i2 + 1))) (lv' := [(5, .int (nI (i2 + 1))), (0, .ref hm), (1, .int (nI j_25)), (2, .int (nI j_26)), (3, .int v2), (4, .int (nI j_27))]) C dX12_read_186 rfl (nI_add i2 1) rfl rfl ?_
                      refine ww_goto (tgt := 161) C dX12_read_189 (by decide) ?_
                      exact ww_lv [0, 1, 2, 3, 4, 5] rfl (ww_sub [0, 1, 2, 3, 4, 5, 6, 7] (ndk (by decide +kernel)) (gqk (by eq_refl)) (ih_161 (i2 + 1) f_manysz_54 f_realsz_55 f_factsOfz_56 f_possiblez_57 (by omega) hmz2 (rd_pg hrd h_63 (show (fun i_ => f_cells (48 * j_25 + (v2.toInt.toNat + i_))) i2 = x_52 from (congrArg f_cells (show 48 * j_25 + (v2.toInt.toNat + i2) = (((48 * j_25) + j_51) + i2) by omega)).trans ex_52)) (OTH.tr hot h_64) h_58 h_59 h_60 h_61 (by omega)))
                exact ww_lv [0, 1, 2, 3, 4, 5] rfl (ww_sub [0, 1, 2, 3, 4, 5, 6, 7] (ndk (by decide +kernel)) (gqk (by eq_refl)) (loop_161 _ 0 f_48 f_49 f_factsOfz_35 f_possiblez_36 (by omega) (cN_s (t := 0) (by omega) ef_48) (pg_clear ef_48 ef_49) hot0 (NB.put h_37 (t := 0) (by omega) (by decide) ef_48) (NB.put h_38 (t := 0) (by omega) (by decide) ef_49) hpgz hwfz (Nat.lt_succ_self _)))
              · have zc_30 : ((i1 : Nat) : Int) < ((j_27 : Nat) : Int) := i_nle (nI_toInt (n := j_27) (by omega)) (nI_toInt (n := i1) (by omega)) c_30
                refine ww_iload_n C dX12_read_78 4 rfl rfl ?_
                refine ww_i2l (v := v2.toInt64) C dX12_read_79 rfl ?_
                refine ww_iload C dX12_read_80 0 rfl ?_
                refine ww_i2l (v := (nI i1).toInt64) C dX12_read_82 rfl ?_
                obtain ⟨l_67, el_67⟩ : ∃ z : Int64, v2.toInt64 + ((nI i1).toInt64) = z := ⟨_, rfl⟩
                have zl_67 : l_67.toInt = v2.toInt + ((i1 : Nat) : Int) := by have h7 := l_add32 v2 (nI i1); have h8 : v2.toInt = v2.toInt := rfl; have h9 : (nI i1).toInt = ((i1 : Nat) : Int) := (nI_toInt (n := i1) (by omega)); rw [← el_67]; omega
                refine ww_ladd C dX12_read_83 el_67 ?_
                refine ww_lconst (v := 0) C dX12_read_84 rfl ?_
                refine ww_aload_n C dX12_read_85 1 rfl rfl ?_
                refine ww_get C fg_X12_99 0 rfl rfl dX12_read_86 ?_
                refine ww_iload_n C dX12_read_89 2 rfl rfl ?_
                have hbx_68 := (hb_lengths j_25 (by omega)).2
                refine ww_iald (v := (nI (cN f_lengths j_25))) C 6 rfl (vp_in_nI (by omega) (by omega)) (ldn (by omega) (hb_lengths j_25 (by omega)).1) dX12_read_90 ?_
                refine ww_iconst (v := 1) C dX12_read_91 rfl ?_
                obtain ⟨x_69, ex_69⟩ : ∃ z : Int32, (nI (cN f_lengths j_25)) - (1 : Int32) = z := ⟨_, rfl⟩
                have zx_69 : x_69.toInt = ((cN f_lengths j_25 : Nat) : Int) - 1 := by rw [← ex_69]; exact i_sub (nI_toInt (n := cN f_lengths j_25) (by omega)) rfl (by omega) (by omega)
                refine ww_isub (v := x_69) C dX12_read_92 ex_69 ?_
                refine ww_i2l (v := x_69.toInt64) C dX12_read_93 rfl ?_
                refine ww_ci (wr := [(hm, .inr (12, [.ref m_manys, .ref m_reals, .ref m_factsOf, .ref m_possible, .int (nI q_undos), .int (nI q_models), .ref m_tape, .int (nI q_taped), .int q_fault, .int q_wrong, .int q_wrongAt, .int q_spot, .int q_place, .int q_token, .int q_value, .ref m_ends, .ref m_letters, .ref m_actOf, .ref m_whom, .ref m_actMany, .ref m_tokens, .ref m_afters, .ref m_afterOf, .int q_counted, .ref m_pile, .ref m_caseMany, .ref m_happen, .ref m_hasIf, .ref m_becomes, .ref m_goneOf, .ref m_heard, .ref m_pairs, .ref m_heaps, .int q_rounds, .int q_heapMany, .ref m_led, .ref m_newAt, .ref m_knowing, .ref m_firsts, .int (nI q_people), .ref m_secrets, .ref m_tried, .ref m_lanes, .ref m_lengths, .ref m_cells])), (m_manys, .inl (E.2.1 1, 18, .inl f_manys)), (m_reals, .inl (E.2.1 1, 18, .inl f_reals)), (m_factsOf, .inl (E.2.1 1, 432, .inl f_factsOf)), (m_possible, .inl (E.2.1 1, 1728, .inl f_possible)), (m_lanes, .inl (E.2.1 1, 4, .inl f_lanes)), (m_lengths, .inl (E.2.1 1, 4, .inl f_lengths)), (m_cells, .inl (E.2.1 1, 192, .inl f_cells))]) (k' := 0) (n' := 0) C (run_S (As := [.long l_67, .long 0, .long x_69.toInt64]) (rest := []) C (r_in X.2.1 E ro l_67 0 x_69.toInt64 (v2.toInt + ((i1 : Nat) : Int)) 0 (((cN f_lengths j_25 : Nat) : Int) - 1) zl_67 rfl ((Int32.toInt_toInt64 _).trans zx_69)) ms_X12_in wl_X12_115 rfl rfl rfl rfl dX12_read_94) (roK hro) [] [0, 1, 2, 3, 4, 5, 6, 7] rfl (gqk (by eq_refl)) (plk (by decide +kernel)) rfl (fun r_70 uz hw => ?_)
                rcases hw with hw | hw
                · refine an3 hw ?_
                  clear hw
                  intro he_73 he_74 h_71 hw
                  have h_72 := hw
                  clear hw
                  have he_73 := he_73.symm
                  subst he_73
                  subst he_74
                  refine ww_eq (ws' := [(hm, .inr (12, [.ref m_manys, .ref m_reals, .ref m_factsOf, .ref m_possible, .int (nI q_undos), .int (nI q_models), .ref m_tape, .int (nI q_taped), .int q_fault, .int q_wrong, .int q_wrongAt, .int q_spot, .int q_place, .int q_token, .int q_value, .ref m_ends, .ref m_letters, .ref m_actOf, .ref m_whom, .ref m_actMany, .ref m_tokens, .ref m_afters, .ref m_afterOf, .int q_counted, .ref m_pile, .ref m_caseMany, .ref m_happen, .ref m_hasIf, .ref m_becomes, .ref m_goneOf, .ref m_heard, .ref m_pairs, .ref m_heaps, .int q_rounds, .int q_heapMany, .ref m_led, .ref m_newAt, .ref m_knowing, .ref m_firsts, .int (nI q_people), .ref m_secrets, .ref m_tried, .ref m_lanes, .ref m_lengths, .ref m_cells])), (m_manys, .inl (E.2.1 1, 18, .inl f_manys)), (m_reals, .inl (E.2.1 1, 18, .inl f_reals)), (m_factsOf, .inl (E.2.1 1, 432, .inl f_factsOf)), (m_possible, .inl (E.2.1 1, 1728, .inl f_possible)), (m_lanes, .inl (E.2.1 1, 4, .inl f_lanes)), (m_lengths, .inl (E.2.1 1, 4, .inl f_lengths)), (m_cells, .inl (E.2.1 1, 192, .inl f_cells))]) ?_ rfl rfl rfl
                  refine ww_if_ne_t (tgt := 103) C dX12_read_97 (by decide) (by decide) ?_
                  have hf0 : 0 ≤ v2.toInt := if h9 : i1 = 0 then (by omega) else (hff 0 (by omega)).1
                  refine ww_aload_n C dX12_read_103 1 rfl rfl ?_
                  refine ww_get C fg_X12_102 0 rfl rfl dX12_read_104 ?_
                  refine ww_bipush (v := 48) C dX12_read_107 rfl ?_
                  refine ww_iload_n C dX12_read_109 2 rfl rfl ?_
                  refine ww_imul (v := (nI (48 * j_25))) C dX12_read_110 (pk_mul 48 j_25) ?_
                  refine ww_iload_n C dX12_read_111 4 rfl rfl ?_
                  obtain ⟨j_78, ej_78, hj_78⟩ := nI_ex (x := v2) (n := 47) (by omega) (by omega)
                  have hzj_78 : v2.toInt = (j_78 : Int) := by rw [ej_78]; exact nI_toInt (by omega)
                  refine ww_iadd (v := (nI ((48 * j_25) + j_78))) C dX12_read_112 (by rw [ej_78, nI_add]) ?_
                  refine ww_iload C dX12_read_113 0 rfl ?_
                  refine ww_iadd (v := (nI (((48 * j_25) + j_78) + i1))) C dX12_read_115 (nI_add ((48 * j_25) + j_78) i1) ?_
                  obtain ⟨x_79, ex_79⟩ : ∃ z : Int32, f_cells (((48 * j_25) + j_78) + i1) = z := ⟨_, rfl⟩
                  refine ww_iald (v := x_79) C 7 rfl (vp_in_nI (by omega) (by omega)) (ldn (by omega) ex_79) dX12_read_116 ?_
                  refine ww_i2l (v := x_79.toInt64) C dX12_read_117 rfl ?_
                  refine ww_lconst (v := 0) C dX12_read_118 rfl ?_
                  refine ww_ldc2 C wv_X12_119 dX12_read_119 ?_
                  refine ww_ci (wr := [(hm, .inr (12, [.ref m_manys, .ref m_reals, .ref m_factsOf, .ref m_possible, .int (nI q_undos), .int (nI q_models), .ref m_tape, .int (nI q_taped), .int q_fault, .int q_wrong, .int q_wrongAt, .int q_spot, .int q_place, .int q_token, .int q_value, .ref m_ends, .ref m_letters, .ref m_actOf, .ref m_whom, .ref m_actMany, .ref m_tokens, .ref m_afters, .ref m_afterOf, .int q_counted, .ref m_pile, .ref m_caseMany, .ref m_happen, .ref m_hasIf, .ref m_becomes, .ref m_goneOf, .ref m_heard, .ref m_pairs, .ref m_heaps, .int q_rounds, .int q_heapMany, .ref m_led, .ref m_newAt, .ref m_knowing, .ref m_firsts, .int (nI q_people), .ref m_secrets, .ref m_tried, .ref m_lanes, .ref m_lengths, .ref m_cells])), (m_manys, .inl (E.2.1 1, 18, .inl f_manys)), (m_reals, .inl (E.2.1 1, 18, .inl f_reals)), (m_factsOf, .inl (E.2.1 1, 432, .inl f_factsOf)), (m_possible, .inl (E.2.1 1, 1728, .inl f_possible)), (m_lanes, .inl (E.2.1 1, 4, .inl f_lanes)), (m_lengths, .inl (E.2.1 1, 4, .inl f_lengths)), (m_cells, .inl (E.2.1 1, 192, .inl f_cells))]) (k' := 0) (n' := 0) C (run_S (As := [.long x_79.toInt64, .long 0, .long 15]) (rest := []) C (r_in X.2.1 E ro x_79.toInt64 0 15 x_79.toInt 0 15 (Int32.toInt_toInt64 _) rfl rfl) ms_X12_in wl_X12_115 rfl rfl rfl rfl dX12_read_122) (roK hro) [] [0, 1, 2, 3, 4, 5, 6, 7] rfl (gqk (by eq_refl)) (plk (by decide +kernel)) rfl (fun r_80 uz hw => ?_)
                  rcases hw with hw | hw
                  · refine an3 hw ?_
                    clear hw
                    intro he_83 he_84 h_81 hw
                    have h_82 := hw
                    clear hw
                    have he_83 := he_83.symm
                    subst he_83
                    subst he_84
                    refine ww_eq (ws' := [(hm, .inr (12, [.ref m_manys, .ref m_reals, .ref m_factsOf, .ref m_possible, .int (nI q_undos), .int (nI q_models), .ref m_tape, .int (nI q_taped), .int q_fault, .int q_wrong, .int q_wrongAt, .int q_spot, .int q_place, .int q_token, .int q_value, .ref m_ends, .ref m_letters, .ref m_actOf, .ref m_whom, .ref m_actMany, .ref m_tokens, .ref m_afters, .ref m_afterOf, .int q_counted, .ref m_pile, .ref m_caseMany, .ref m_happen, .ref m_hasIf, .ref m_becomes, .ref m_goneOf, .ref m_heard, .ref m_pairs, .ref m_heaps, .int q_rounds, .int q_heapMany, .ref m_led, .ref m_newAt, .ref m_knowing, .ref m_firsts, .int (nI q_people), .ref m_secrets, .ref m_tried, .ref m_lanes, .ref m_lengths, .ref m_cells])), (m_manys, .inl (E.2.1 1, 18, .inl f_manys)), (m_reals, .inl (E.2.1 1, 18, .inl f_reals)), (m_factsOf, .inl (E.2.1 1, 432, .inl f_factsOf)), (m_possible, .inl (E.2.1 1, 1728, .inl f_possible)), (m_lanes, .inl (E.2.1 1, 4, .inl f_lanes)), (m_lengths, .inl (E.2.1 1, 4, .inl f_lengths)), (m_cells, .inl (E.2.1 1, 192, .inl f_cells))]) ?_ rfl rfl rfl
                    refine ww_if_ne_t (tgt := 134) C dX12_read_125 (by decide) (by decide) ?_
                    refine ww_iinc (j := 0) (v := (nI (i1 + 1))) (lv' := [(5, .int (nI (i1 + 1))), (0, .ref hm), (1, .int (nI j_25)), (2, .int (nI j_26)), (3, .int v2), (4, .int (nI j_27))]) C dX12_read_134 rfl (nI_add i1 1) rfl rfl ?_
                    refine ww_goto (tgt := 71) C dX12_read_137 (by decide) ?_
                    exact ww_lv [0, 1, 2, 3, 4, 5] rfl (ww_sub [0, 1, 2, 3, 4, 5, 6, 7] (ndk (by decide +kernel)) (gqk (by eq_refl)) (ih_71 (i1 + 1) (by omega) (fun i hi => if hk : i = i1 then ⟨by omega, by omega⟩ else hff i (by omega)) ((ck_go (by omega) (by omega) (show f_cells (48 * j_25 + (v2.toInt.toNat + i1)) = x_79 from (by rw [show 48 * j_25 + (v2.toInt.toNat + i1) = 48 * j_25 + j_78 + i1 by omega]; exact ex_79)) ⟨by omega, by omega⟩).symm.trans hck) (by omega)))
                  · refine an2 hw ?_
                    clear hw
                    intro he_86 he_87 hw
                    have h_85 := hw
                    clear hw
                    have he_86 := he_86.symm
                    subst he_86
                    subst he_87
                    refine ww_eq (ws' := [(hm, .inr (12, [.ref m_manys, .ref m_reals, .ref m_factsOf, .ref m_possible, .int (nI q_undos), .int (nI q_models), .ref m_tape, .int (nI q_taped), .int q_fault, .int q_wrong, .int q_wrongAt, .int q_spot, .int q_place, .int q_token, .int q_value, .ref m_ends, .ref m_letters, .ref m_actOf, .ref m_whom, .ref m_actMany, .ref m_tokens, .ref m_afters, .ref m_afterOf, .int q_counted, .ref m_pile, .ref m_caseMany, .ref m_happen, .ref m_hasIf, .ref m_becomes, .ref m_goneOf, .ref m_heard, .ref m_pairs, .ref m_heaps, .int q_rounds, .int q_heapMany, .ref m_led, .ref m_newAt, .ref m_knowing, .ref m_firsts, .int (nI q_people), .ref m_secrets, .ref m_tried, .ref m_lanes, .ref m_lengths, .ref m_cells])), (m_manys, .inl (E.2.1 1, 18, .inl f_manys)), (m_reals, .inl (E.2.1 1, 18, .inl f_reals)), (m_factsOf, .inl (E.2.1 1, 432, .inl f_factsOf)), (m_possible, .inl (E.2.1 1, 1728, .inl f_possible)), (m_lanes, .inl (E.2.1 1, 4, .inl f_lanes)), (m_lengths, .inl (E.2.1 1, 4, .inl f_lengths)), (m_cells, .inl (E.2.1 1, 192, .inl f_cells))]) ?_ rfl rfl rfl
                    refine ww_if_ne_f (tgt := 134) C dX12_read_125 (by decide) (rfl) ?_
                    refine ww_bipush (v := (-20)) C dX12_read_128 rfl ?_
                    refine ww_iload C dX12_read_130 0 rfl ?_
                    obtain ⟨x_88, ex_88⟩ : ∃ z : Int32, (-20 : Int32) - (nI i1) = z := ⟨_, rfl⟩
                    have zx_88 : x_88.toInt = -20 - ((i1 : Nat) : Int) := by rw [← ex_88]; exact i_sub rfl (nI_toInt (n := i1) (by omega)) (by omega) (by omega)
                    refine ww_isub (v := x_88) C dX12_read_132 ex_88 ?_
                    exact ww_iret (u := [(hm, .inr (12, [.ref m_manys, .ref m_reals, .ref m_factsOf, .ref m_possible, .int (nI q_undos), .int (nI q_models), .ref m_tape, .int (nI q_taped), .int q_fault, .int q_wrong, .int q_wrongAt, .int q_spot, .int q_place, .int q_token, .int q_value, .ref m_ends, .ref m_letters, .ref m_actOf, .ref m_whom, .ref m_actMany, .ref m_tokens, .ref m_afters, .ref m_afterOf, .int q_counted, .ref m_pile, .ref m_caseMany, .ref m_happen, .ref m_hasIf, .ref m_becomes, .ref m_goneOf, .ref m_heard, .ref m_pairs, .ref m_heaps, .int q_rounds, .int q_heapMany, .ref m_led, .ref m_newAt, .ref m_knowing, .ref m_firsts, .int (nI q_people), .ref m_secrets, .ref m_tried, .ref m_lanes, .ref m_lengths, .ref m_cells])), (m_manys, .inl (E.2.1 1, 18, .inl f_manys)), (m_reals, .inl (E.2.1 1, 18, .inl f_reals)), (m_factsOf, .inl (E.2.1 1, 432, .inl f_factsOf)), (m_possible, .inl (E.2.1 1, 1728, .inl f_possible)), (m_lanes, .inl (E.2.1 1, 4, .inl f_lanes)), (m_lengths, .inl (E.2.1 1, 4, .inl f_lengths)), (m_cells, .inl (E.2.1 1, 192, .inl f_cells))]) C hT [0, 1, 2, 3, 4, 5, 6, 7] (gqk (by eq_refl)) (ndk (by decide +kernel)) rfl rfl dX12_read_133 (⟨q_undos, f_manys, f_reals, f_factsOf, f_possible, rfl, (by omega), hb_manys, hb_reals, hpg, hwf, (Or.inr ⟨j_25, j_26, j_27, rfl, rfl, rfl, by omega, by omega, by omega, rdB_n (by rw [ex_28]; omega) (by omega) (hck.symm.trans ((ck_20 (by omega) (by omega) (show f_cells (48 * j_25 + (v2.toInt.toNat + i1)) = x_79 from (by rw [show 48 * j_25 + (v2.toInt.toNat + i1) = 48 * j_25 + j_78 + i1 by omega]; exact ex_79)) (by omega)).trans ex_88)) (by omega)⟩), (Or.inl ⟨by omega, rfl⟩), KP6.rf⟩)
                · refine an2 hw ?_
                  clear hw
                  intro he_76 he_77 hw
                  have h_75 := hw
                  clear hw
                  have he_76 := he_76.symm
                  subst he_76
                  subst he_77
                  refine ww_eq (ws' := [(hm, .inr (12, [.ref m_manys, .ref m_reals, .ref m_factsOf, .ref m_possible, .int (nI q_undos), .int (nI q_models), .ref m_tape, .int (nI q_taped), .int q_fault, .int q_wrong, .int q_wrongAt, .int q_spot, .int q_place, .int q_token, .int q_value, .ref m_ends, .ref m_letters, .ref m_actOf, .ref m_whom, .ref m_actMany, .ref m_tokens, .ref m_afters, .ref m_afterOf, .int q_counted, .ref m_pile, .ref m_caseMany, .ref m_happen, .ref m_hasIf, .ref m_becomes, .ref m_goneOf, .ref m_heard, .ref m_pairs, .ref m_heaps, .int q_rounds, .int q_heapMany, .ref m_led, .ref m_newAt, .ref m_knowing, .ref m_firsts, .int (nI q_people), .ref m_secrets, .ref m_tried, .ref m_lanes, .ref m_lengths, .ref m_cells])), (m_manys, .inl (E.2.1 1, 18, .inl f_manys)), (m_reals, .inl (E.2.1 1, 18, .inl f_reals)), (m_factsOf, .inl (E.2.1 1, 432, .inl f_factsOf)), (m_possible, .inl (E.2.1 1, 1728, .inl f_possible)), (m_lanes, .inl (E.2.1 1, 4, .inl f_lanes)), (m_lengths, .inl (E.2.1 1, 4, .inl f_lengths)), (m_cells, .inl (E.2.1 1, 192, .inl f_cells))]) ?_ rfl rfl rfl
                  refine ww_if_ne_f (tgt := 103) C dX12_read_97 (by decide) (rfl) ?_
                  refine ww_bipush (v := (-12)) C dX12_read_100 rfl ?_
                  exact ww_iret (u := [(hm, .inr (12, [.ref m_manys, .ref m_reals, .ref m_factsOf, .ref m_possible, .int (nI q_undos), .int (nI q_models), .ref m_tape, .int (nI q_taped), .int q_fault, .int q_wrong, .int q_wrongAt, .int q_spot, .int q_place, .int q_token, .int q_value, .ref m_ends, .ref m_letters, .ref m_actOf, .ref m_whom, .ref m_actMany, .ref m_tokens, .ref m_afters, .ref m_afterOf, .int q_counted, .ref m_pile, .ref m_caseMany, .ref m_happen, .ref m_hasIf, .ref m_becomes, .ref m_goneOf, .ref m_heard, .ref m_pairs, .ref m_heaps, .int q_rounds, .int q_heapMany, .ref m_led, .ref m_newAt, .ref m_knowing, .ref m_firsts, .int (nI q_people), .ref m_secrets, .ref m_tried, .ref m_lanes, .ref m_lengths, .ref m_cells])), (m_manys, .inl (E.2.1 1, 18, .inl f_manys)), (m_reals, .inl (E.2.1 1, 18, .inl f_reals)), (m_factsOf, .inl (E.2.1 1, 432, .inl f_factsOf)), (m_possible, .inl (E.2.1 1, 1728, .inl f_possible)), (m_lanes, .inl (E.2.1 1, 4, .inl f_lanes)), (m_lengths, .inl (E.2.1 1, 4, .inl f_lengths)), (m_cells, .inl (E.2.1 1, 192, .inl f_cells))]) C hT [0, 1, 2, 3, 4, 5, 6, 7] (gqk (by eq_refl)) (ndk (by decide +kernel)) rfl rfl dX12_read_102 (⟨q_undos, f_manys, f_reals, f_factsOf, f_possible, rfl, (by omega), hb_manys, hb_reals, hpg, hwf, (Or.inr ⟨j_25, j_26, j_27, rfl, rfl, rfl, by omega, by omega, by omega, rdB_n (by rw [ex_28]; omega) (by omega) (hck.symm.trans (ck_12 (by omega) (by omega))) (by decide)⟩), (Or.inl ⟨by decide, rfl⟩), KP6.rf⟩)
          exact ww_lv [0, 1, 2, 3, 4, 5] rfl (ww_sub [0, 1, 2, 3, 4, 5, 6, 7] (ndk (by decide +kernel)) (gqk (by eq_refl)) (loop_71 _ 0 (by omega) (fun i hi => absurd hi (by omega)) rfl (Nat.lt_succ_self _)))
        · have zc_29 : x_28.toInt ≠ ((j_26 : Nat) : Int) := i_ne rfl (nI_toInt (n := j_26) (by omega)) c_29
          refine ww_aload_n C dX12_read_49 0 rfl rfl ?_
          refine ww_get C fg_X12_96 0 rfl rfl dX12_read_50 ?_
          refine ww_iload_n C dX12_read_53 1 rfl rfl ?_
          refine ww_iald (v := x_28) C 5 rfl (vp_in_nI (by omega) (by omega)) (ldn (by omega) ex_28) dX12_read_54 ?_
          refine ww_bipush (v := (-4)) C dX12_read_55 rfl ?_
          refine ww_icmp_ne (tgt := 65) C dX12_read_57 (by decide) (fun c_89 => ?_) (fun c_89 => ?_)
          · have zc_89 : x_28.toInt ≠ (-4) := i_ne rfl rfl c_89
            refine ww_bipush (v := (-13)) C dX12_read_65 rfl ?_
            exact ww_iret (u := [(hm, .inr (12, [.ref m_manys, .ref m_reals, .ref m_factsOf, .ref m_possible, .int (nI q_undos), .int (nI q_models), .ref m_tape, .int (nI q_taped), .int q_fault, .int q_wrong, .int q_wrongAt, .int q_spot, .int q_place, .int q_token, .int q_value, .ref m_ends, .ref m_letters, .ref m_actOf, .ref m_whom, .ref m_actMany, .ref m_tokens, .ref m_afters, .ref m_afterOf, .int q_counted, .ref m_pile, .ref m_caseMany, .ref m_happen, .ref m_hasIf, .ref m_becomes, .ref m_goneOf, .ref m_heard, .ref m_pairs, .ref m_heaps, .int q_rounds, .int q_heapMany, .ref m_led, .ref m_newAt, .ref m_knowing, .ref m_firsts, .int (nI q_people), .ref m_secrets, .ref m_tried, .ref m_lanes, .ref m_lengths, .ref m_cells])), (m_manys, .inl (E.2.1 1, 18, .inl f_manys)), (m_reals, .inl (E.2.1 1, 18, .inl f_reals)), (m_factsOf, .inl (E.2.1 1, 432, .inl f_factsOf)), (m_possible, .inl (E.2.1 1, 1728, .inl f_possible)), (m_lanes, .inl (E.2.1 1, 4, .inl f_lanes)), (m_lengths, .inl (E.2.1 1, 4, .inl f_lengths)), (m_cells, .inl (E.2.1 1, 192, .inl f_cells))]) C hT [0, 1, 2, 3, 4, 5, 6, 7] (gqk (by eq_refl)) (ndk (by decide +kernel)) rfl rfl dX12_read_67 (⟨q_undos, f_manys, f_reals, f_factsOf, f_possible, rfl, (by omega), hb_manys, hb_reals, hpg, hwf, (Or.inr ⟨j_25, j_26, j_27, rfl, rfl, rfl, by omega, by omega, by omega, rdB_2 (by rw [ex_28]; omega) (by omega) (by rw [ex_28]; omega)⟩), (Or.inl ⟨by decide, rfl⟩), KP6.rf⟩)
          · have zc_89 : x_28.toInt = (-4) := i_eq rfl rfl c_89
            refine ww_bipush (v := (-11)) C dX12_read_60 rfl ?_
            refine ww_goto (tgt := 67) C dX12_read_62 (by decide) ?_
            exact ww_iret (u := [(hm, .inr (12, [.ref m_manys, .ref m_reals, .ref m_factsOf, .ref m_possible, .int (nI q_undos), .int (nI q_models), .ref m_tape, .int (nI q_taped), .int q_fault, .int q_wrong, .int q_wrongAt, .int q_spot, .int q_place, .int q_token, .int q_value, .ref m_ends, .ref m_letters, .ref m_actOf, .ref m_whom, .ref m_actMany, .ref m_tokens, .ref m_afters, .ref m_afterOf, .int q_counted, .ref m_pile, .ref m_caseMany, .ref m_happen, .ref m_hasIf, .ref m_becomes, .ref m_goneOf, .ref m_heard, .ref m_pairs, .ref m_heaps, .int q_rounds, .int q_heapMany, .ref m_led, .ref m_newAt, .ref m_knowing, .ref m_firsts, .int (nI q_people), .ref m_secrets, .ref m_tried, .ref m_lanes, .ref m_lengths, .ref m_cells])), (m_manys, .inl (E.2.1 1, 18, .inl f_manys)), (m_reals, .inl (E.2.1 1, 18, .inl f_reals)), (m_factsOf, .inl (E.2.1 1, 432, .inl f_factsOf)), (m_possible, .inl (E.2.1 1, 1728, .inl f_possible)), (m_lanes, .inl (E.2.1 1, 4, .inl f_lanes)), (m_lengths, .inl (E.2.1 1, 4, .inl f_lengths)), (m_cells, .inl (E.2.1 1, 192, .inl f_cells))]) C hT [0, 1, 2, 3, 4, 5, 6, 7] (gqk (by eq_refl)) (ndk (by decide +kernel)) rfl rfl dX12_read_67 (⟨q_undos, f_manys, f_reals, f_factsOf, f_possible, rfl, (by omega), hb_manys, hb_reals, hpg, hwf, (Or.inr ⟨j_25, j_26, j_27, rfl, rfl, rfl, by omega, by omega, by omega, rdB_1 (by rw [ex_28]; omega) (by omega) (by rw [ex_28]; omega)⟩), (Or.inl ⟨by decide, rfl⟩), KP6.rf⟩)
      · refine an2 hw ?_
        clear hw
        intro he_23 he_24 hw
        have h_22 := hw
        clear hw
        have he_23 := he_23.symm
        subst he_23
        subst he_24
        refine ww_eq (ws' := [(hm, .inr (12, [.ref m_manys, .ref m_reals, .ref m_factsOf, .ref m_possible, .int (nI q_undos), .int (nI q_models), .ref m_tape, .int (nI q_taped), .int q_fault, .int q_wrong, .int q_wrongAt, .int q_spot, .int q_place, .int q_token, .int q_value, .ref m_ends, .ref m_letters, .ref m_actOf, .ref m_whom, .ref m_actMany, .ref m_tokens, .ref m_afters, .ref m_afterOf, .int q_counted, .ref m_pile, .ref m_caseMany, .ref m_happen, .ref m_hasIf, .ref m_becomes, .ref m_goneOf, .ref m_heard, .ref m_pairs, .ref m_heaps, .int q_rounds, .int q_heapMany, .ref m_led, .ref m_newAt, .ref m_knowing, .ref m_firsts, .int (nI q_people), .ref m_secrets, .ref m_tried, .ref m_lanes, .ref m_lengths, .ref m_cells])), (m_manys, .inl (E.2.1 1, 18, .inl f_manys)), (m_reals, .inl (E.2.1 1, 18, .inl f_reals)), (m_factsOf, .inl (E.2.1 1, 432, .inl f_factsOf)), (m_possible, .inl (E.2.1 1, 1728, .inl f_possible)), (m_lanes, .inl (E.2.1 1, 4, .inl f_lanes)), (m_lengths, .inl (E.2.1 1, 4, .inl f_lengths)), (m_cells, .inl (E.2.1 1, 192, .inl f_cells))]) ?_ rfl rfl rfl
        refine ww_if_ne_f (tgt := 39) C dX12_read_34 (by decide) (rfl) ?_
        refine ww_iconst (v := (-1)) C dX12_read_37 rfl ?_
        exact ww_iret (u := [(hm, .inr (12, [.ref m_manys, .ref m_reals, .ref m_factsOf, .ref m_possible, .int (nI q_undos), .int (nI q_models), .ref m_tape, .int (nI q_taped), .int q_fault, .int q_wrong, .int q_wrongAt, .int q_spot, .int q_place, .int q_token, .int q_value, .ref m_ends, .ref m_letters, .ref m_actOf, .ref m_whom, .ref m_actMany, .ref m_tokens, .ref m_afters, .ref m_afterOf, .int q_counted, .ref m_pile, .ref m_caseMany, .ref m_happen, .ref m_hasIf, .ref m_becomes, .ref m_goneOf, .ref m_heard, .ref m_pairs, .ref m_heaps, .int q_rounds, .int q_heapMany, .ref m_led, .ref m_newAt, .ref m_knowing, .ref m_firsts, .int (nI q_people), .ref m_secrets, .ref m_tried, .ref m_lanes, .ref m_lengths, .ref m_cells])), (m_manys, .inl (E.2.1 1, 18, .inl f_manys)), (m_reals, .inl (E.2.1 1, 18, .inl f_reals)), (m_factsOf, .inl (E.2.1 1, 432, .inl f_factsOf)), (m_possible, .inl (E.2.1 1, 1728, .inl f_possible)), (m_lanes, .inl (E.2.1 1, 4, .inl f_lanes)), (m_lengths, .inl (E.2.1 1, 4, .inl f_lengths)), (m_cells, .inl (E.2.1 1, 192, .inl f_cells))]) C hT [0, 1, 2, 3, 4, 5, 6, 7] (gqk (by eq_refl)) (ndk (by decide +kernel)) rfl rfl dX12_read_38 (⟨q_undos, f_manys, f_reals, f_factsOf, f_possible, rfl, (by omega), hb_manys, hb_reals, hpg, hwf, (Or.inl ⟨by omega, rfl⟩), (Or.inl ⟨by decide, rfl⟩), KP6.rf⟩)
    · refine an2 hw ?_
      clear hw
      intro he_15 he_16 hw
      have h_14 := hw
      clear hw
      have he_15 := he_15.symm
      subst he_15
      subst he_16
      refine ww_eq (ws' := [(hm, .inr (12, [.ref m_manys, .ref m_reals, .ref m_factsOf, .ref m_possible, .int (nI q_undos), .int (nI q_models), .ref m_tape, .int (nI q_taped), .int q_fault, .int q_wrong, .int q_wrongAt, .int q_spot, .int q_place, .int q_token, .int q_value, .ref m_ends, .ref m_letters, .ref m_actOf, .ref m_whom, .ref m_actMany, .ref m_tokens, .ref m_afters, .ref m_afterOf, .int q_counted, .ref m_pile, .ref m_caseMany, .ref m_happen, .ref m_hasIf, .ref m_becomes, .ref m_goneOf, .ref m_heard, .ref m_pairs, .ref m_heaps, .int q_rounds, .int q_heapMany, .ref m_led, .ref m_newAt, .ref m_knowing, .ref m_firsts, .int (nI q_people), .ref m_secrets, .ref m_tried, .ref m_lanes, .ref m_lengths, .ref m_cells])), (m_manys, .inl (E.2.1 1, 18, .inl f_manys)), (m_reals, .inl (E.2.1 1, 18, .inl f_reals)), (m_factsOf, .inl (E.2.1 1, 432, .inl f_factsOf)), (m_possible, .inl (E.2.1 1, 1728, .inl f_possible)), (m_lanes, .inl (E.2.1 1, 4, .inl f_lanes)), (m_lengths, .inl (E.2.1 1, 4, .inl f_lengths)), (m_cells, .inl (E.2.1 1, 192, .inl f_cells))]) ?_ rfl rfl rfl
      refine ww_if_eq_t (tgt := 37) C dX12_read_21 (by decide) (rfl) ?_
      refine ww_iconst (v := (-1)) C dX12_read_37 rfl ?_
      exact ww_iret (u := [(hm, .inr (12, [.ref m_manys, .ref m_reals, .ref m_factsOf, .ref m_possible, .int (nI q_undos), .int (nI q_models), .ref m_tape, .int (nI q_taped), .int q_fault, .int q_wrong, .int q_wrongAt, .int q_spot, .int q_place, .int q_token, .int q_value, .ref m_ends, .ref m_letters, .ref m_actOf, .ref m_whom, .ref m_actMany, .ref m_tokens, .ref m_afters, .ref m_afterOf, .int q_counted, .ref m_pile, .ref m_caseMany, .ref m_happen, .ref m_hasIf, .ref m_becomes, .ref m_goneOf, .ref m_heard, .ref m_pairs, .ref m_heaps, .int q_rounds, .int q_heapMany, .ref m_led, .ref m_newAt, .ref m_knowing, .ref m_firsts, .int (nI q_people), .ref m_secrets, .ref m_tried, .ref m_lanes, .ref m_lengths, .ref m_cells])), (m_manys, .inl (E.2.1 1, 18, .inl f_manys)), (m_reals, .inl (E.2.1 1, 18, .inl f_reals)), (m_factsOf, .inl (E.2.1 1, 432, .inl f_factsOf)), (m_possible, .inl (E.2.1 1, 1728, .inl f_possible)), (m_lanes, .inl (E.2.1 1, 4, .inl f_lanes)), (m_lengths, .inl (E.2.1 1, 4, .inl f_lengths)), (m_cells, .inl (E.2.1 1, 192, .inl f_cells))]) C hT [0, 1, 2, 3, 4, 5, 6, 7] (gqk (by eq_refl)) (ndk (by decide +kernel)) rfl rfl dX12_read_38 (⟨q_undos, f_manys, f_reals, f_factsOf, f_possible, rfl, (by omega), hb_manys, hb_reals, hpg, hwf, (Or.inl ⟨by omega, rfl⟩), (Or.inl ⟨by decide, rfl⟩), KP6.rf⟩)
  · refine an2 hw ?_
    clear hw
    intro he_7 he_8 hw
    have h_6 := hw
    clear hw
    have he_7 := he_7.symm
    subst he_7
    subst he_8
    refine ww_eq (ws' := [(hm, .inr (12, [.ref m_manys, .ref m_reals, .ref m_factsOf, .ref m_possible, .int (nI q_undos), .int (nI q_models), .ref m_tape, .int (nI q_taped), .int q_fault, .int q_wrong, .int q_wrongAt, .int q_spot, .int q_place, .int q_token, .int q_value, .ref m_ends, .ref m_letters, .ref m_actOf, .ref m_whom, .ref m_actMany, .ref m_tokens, .ref m_afters, .ref m_afterOf, .int q_counted, .ref m_pile, .ref m_caseMany, .ref m_happen, .ref m_hasIf, .ref m_becomes, .ref m_goneOf, .ref m_heard, .ref m_pairs, .ref m_heaps, .int q_rounds, .int q_heapMany, .ref m_led, .ref m_newAt, .ref m_knowing, .ref m_firsts, .int (nI q_people), .ref m_secrets, .ref m_tried, .ref m_lanes, .ref m_lengths, .ref m_cells])), (m_manys, .inl (E.2.1 1, 18, .inl f_manys)), (m_reals, .inl (E.2.1 1, 18, .inl f_reals)), (m_factsOf, .inl (E.2.1 1, 432, .inl f_factsOf)), (m_possible, .inl (E.2.1 1, 1728, .inl f_possible)), (m_lanes, .inl (E.2.1 1, 4, .inl f_lanes)), (m_lengths, .inl (E.2.1 1, 4, .inl f_lengths)), (m_cells, .inl (E.2.1 1, 192, .inl f_cells))]) ?_ rfl rfl rfl
    refine ww_if_eq_t (tgt := 37) C dX12_read_9 (by decide) (rfl) ?_
    refine ww_iconst (v := (-1)) C dX12_read_37 rfl ?_
    exact ww_iret (u := [(hm, .inr (12, [.ref m_manys, .ref m_reals, .ref m_factsOf, .ref m_possible, .int (nI q_undos), .int (nI q_models), .ref m_tape, .int (nI q_taped), .int q_fault, .int q_wrong, .int q_wrongAt, .int q_spot, .int q_place, .int q_token, .int q_value, .ref m_ends, .ref m_letters, .ref m_actOf, .ref m_whom, .ref m_actMany, .ref m_tokens, .ref m_afters, .ref m_afterOf, .int q_counted, .ref m_pile, .ref m_caseMany, .ref m_happen, .ref m_hasIf, .ref m_becomes, .ref m_goneOf, .ref m_heard, .ref m_pairs, .ref m_heaps, .int q_rounds, .int q_heapMany, .ref m_led, .ref m_newAt, .ref m_knowing, .ref m_firsts, .int (nI q_people), .ref m_secrets, .ref m_tried, .ref m_lanes, .ref m_lengths, .ref m_cells])), (m_manys, .inl (E.2.1 1, 18, .inl f_manys)), (m_reals, .inl (E.2.1 1, 18, .inl f_reals)), (m_factsOf, .inl (E.2.1 1, 432, .inl f_factsOf)), (m_possible, .inl (E.2.1 1, 1728, .inl f_possible)), (m_lanes, .inl (E.2.1 1, 4, .inl f_lanes)), (m_lengths, .inl (E.2.1 1, 4, .inl f_lengths)), (m_cells, .inl (E.2.1 1, 192, .inl f_cells))]) C hT [0, 1, 2, 3, 4, 5, 6, 7] (gqk (by eq_refl)) (ndk (by decide +kernel)) rfl rfl dX12_read_38 (⟨q_undos, f_manys, f_reals, f_factsOf, f_possible, rfl, (by omega), hb_manys, hb_reals, hpg, hwf, (Or.inl ⟨by omega, rfl⟩), (Or.inl ⟨by decide, rfl⟩), KP6.rf⟩)
theorem dX12_count_0 : decode cX12_count 0 = .ok (.iconst 0, 1) := dl_3 (by decide +kernel)
theorem dX12_count_1 : decode cX12_count 1 = .ok (.istore_n 2, 1) := dl_61 (by decide +kernel)
theorem dX12_count_2 : decode cX12_count 2 = .ok (.iconst 0, 1) := dl_3 (by decide +kernel)
theorem dX12_count_3 : decode cX12_count 3 = .ok (.istore_n 3, 1) := dl_62 (by decide +kernel)
theorem dX12_count_4 : decode cX12_count 4 = .ok (.iconst 0, 1) := dl_3 (by decide +kernel)
theorem dX12_count_5 : decode cX12_count 5 = .ok (.istore 4, 2) := dl_54 (by decide +kernel)
theorem dX12_count_7 : decode cX12_count 7 = .ok (.iload 4, 2) := dl_21 (by decide +kernel)
theorem dX12_count_9 : decode cX12_count 9 = .ok (.bipush 8, 2) := dl_16 (by decide +kernel)
theorem dX12_count_11 : decode cX12_count 11 = .ok (.if_icmp .ge 27, 3) := dl_162 (by decide +kernel)
theorem dX12_count_38 : decode cX12_count 38 = .ok (.iconst 0, 1) := dl_3 (by decide +kernel)
theorem dX12_count_39 : decode cX12_count 39 = .ok (.istore 4, 2) := dl_54 (by decide +kernel)
theorem dX12_count_41 : decode cX12_count 41 = .ok (.iload 4, 2) := dl_21 (by decide +kernel)
theorem dX12_count_43 : decode cX12_count 43 = .ok (.iconst 4, 1) := dl_7 (by decide +kernel)
theorem dX12_count_44 : decode cX12_count 44 = .ok (.if_icmp .ge 27, 3) := dl_162 (by decide +kernel)
theorem dX12_count_71 : decode cX12_count 71 = .ok (.iload_n 1, 1) := dl_27 (by decide +kernel)
theorem dX12_count_72 : decode cX12_count 72 = .ok (.tableswitch 127 0 8 #[52, 59, 80, 82, 84, 89, 94, 99, 104], 52) := by decide +kernel
theorem dX12_count_124 : decode cX12_count 124 = .ok (.aload_n 0, 1) := dl_42 (by decide +kernel)
theorem dX12_count_125 : decode cX12_count 125 = .ok (.getfield 7, 3) := dl_180 (by decide +kernel)
theorem dX12_count_128 : decode cX12_count 128 = .ok (.iconst 0, 1) := dl_3 (by decide +kernel)
theorem dX12_count_129 : decode cX12_count 129 = .ok (.iaload, 1) := dl_46 (by decide +kernel)
theorem dX12_count_130 : decode cX12_count 130 = .ok (.ireturn, 1) := dl_172 (by decide +kernel)
theorem dX12_count_131 : decode cX12_count 131 = .ok (.aload_n 0, 1) := dl_42 (by decide +kernel)
theorem dX12_count_132 : decode cX12_count 132 = .ok (.getfield 7, 3) := dl_180 (by decide +kernel)
theorem dX12_count_135 : decode cX12_count 135 = .ok (.iconst 0, 1) := dl_3 (by decide +kernel)
theorem dX12_count_136 : decode cX12_count 136 = .ok (.iaload, 1) := dl_46 (by decide +kernel)
theorem dX12_count_137 : decode cX12_count 137 = .ok (.ifCond .ne 8, 3) := dl_154 (by decide +kernel)
theorem dX12_count_145 : decode cX12_count 145 = .ok (.aload_n 0, 1) := dl_42 (by decide +kernel)
theorem dX12_count_146 : decode cX12_count 146 = .ok (.getfield 13, 3) := dl_180 (by decide +kernel)
theorem dX12_count_149 : decode cX12_count 149 = .ok (.iconst 0, 1) := dl_3 (by decide +kernel)
theorem dX12_count_150 : decode cX12_count 150 = .ok (.iaload, 1) := dl_46 (by decide +kernel)
theorem dX12_count_151 : decode cX12_count 151 = .ok (.ireturn, 1) := dl_172 (by decide +kernel)
theorem dX12_count_140 : decode cX12_count 140 = .ok (.bipush (-4), 2) := dl_16 (by decide +kernel)
theorem dX12_count_142 : decode cX12_count 142 = .ok (.goto 9, 3) := dl_167 (by decide +kernel)
theorem dX12_count_152 : decode cX12_count 152 = .ok (.iload_n 2, 1) := dl_28 (by decide +kernel)
theorem dX12_count_153 : decode cX12_count 153 = .ok (.ireturn, 1) := dl_172 (by decide +kernel)
theorem dX12_count_154 : decode cX12_count 154 = .ok (.iload_n 3, 1) := dl_29 (by decide +kernel)
theorem dX12_count_155 : decode cX12_count 155 = .ok (.ireturn, 1) := dl_172 (by decide +kernel)
theorem dX12_count_156 : decode cX12_count 156 = .ok (.aload_n 0, 1) := dl_42 (by decide +kernel)
theorem dX12_count_157 : decode cX12_count 157 = .ok (.getfield 304, 3) := dl_180 (by decide +kernel)
theorem dX12_count_160 : decode cX12_count 160 = .ok (.ireturn, 1) := dl_172 (by decide +kernel)
theorem dX12_count_161 : decode cX12_count 161 = .ok (.aload_n 0, 1) := dl_42 (by decide +kernel)
theorem dX12_count_162 : decode cX12_count 162 = .ok (.getfield 105, 3) := dl_180 (by decide +kernel)
theorem dX12_count_165 : decode cX12_count 165 = .ok (.ireturn, 1) := dl_172 (by decide +kernel)
theorem dX12_count_166 : decode cX12_count 166 = .ok (.aload_n 0, 1) := dl_42 (by decide +kernel)
theorem dX12_count_167 : decode cX12_count 167 = .ok (.getfield 332, 3) := dl_180 (by decide +kernel)
theorem dX12_count_170 : decode cX12_count 170 = .ok (.ireturn, 1) := dl_172 (by decide +kernel)
theorem dX12_count_171 : decode cX12_count 171 = .ok (.aload_n 0, 1) := dl_42 (by decide +kernel)
theorem dX12_count_172 : decode cX12_count 172 = .ok (.getfield 154, 3) := dl_180 (by decide +kernel)
theorem dX12_count_175 : decode cX12_count 175 = .ok (.ireturn, 1) := dl_172 (by decide +kernel)
theorem dX12_count_176 : decode cX12_count 176 = .ok (.aload_n 0, 1) := dl_42 (by decide +kernel)
theorem dX12_count_177 : decode cX12_count 177 = .ok (.getfield 96, 3) := dl_180 (by decide +kernel)
theorem dX12_count_180 : decode cX12_count 180 = .ok (.iconst 0, 1) := dl_3 (by decide +kernel)
theorem dX12_count_181 : decode cX12_count 181 = .ok (.iaload, 1) := dl_46 (by decide +kernel)
theorem dX12_count_182 : decode cX12_count 182 = .ok (.bipush (-4), 2) := dl_16 (by decide +kernel)
theorem dX12_count_184 : decode cX12_count 184 = .ok (.if_icmp .ne 8, 3) := dl_160 (by decide +kernel)
theorem dX12_count_192 : decode cX12_count 192 = .ok (.aload_n 0, 1) := dl_42 (by decide +kernel)
theorem dX12_count_193 : decode cX12_count 193 = .ok (.getfield 99, 3) := dl_180 (by decide +kernel)
theorem dX12_count_196 : decode cX12_count 196 = .ok (.iconst 0, 1) := dl_3 (by decide +kernel)
theorem dX12_count_197 : decode cX12_count 197 = .ok (.iaload, 1) := dl_46 (by decide +kernel)
theorem dX12_count_198 : decode cX12_count 198 = .ok (.ireturn, 1) := dl_172 (by decide +kernel)
theorem dX12_count_187 : decode cX12_count 187 = .ok (.bipush (-4), 2) := dl_16 (by decide +kernel)
theorem dX12_count_189 : decode cX12_count 189 = .ok (.goto 9, 3) := dl_167 (by decide +kernel)
theorem dX12_count_199 : decode cX12_count 199 = .ok (.iconst (-1), 1) := dl_2 (by decide +kernel)
theorem dX12_count_200 : decode cX12_count 200 = .ok (.ireturn, 1) := dl_172 (by decide +kernel)
theorem dX12_count_47 : decode cX12_count 47 = .ok (.iload_n 3, 1) := dl_29 (by decide +kernel)
theorem dX12_count_48 : decode cX12_count 48 = .ok (.aload_n 0, 1) := dl_42 (by decide +kernel)
theorem dX12_count_49 : decode cX12_count 49 = .ok (.getfield 52, 3) := dl_180 (by decide +kernel)
theorem dX12_count_52 : decode cX12_count 52 = .ok (.iload 4, 2) := dl_21 (by decide +kernel)
theorem dX12_count_54 : decode cX12_count 54 = .ok (.iaload, 1) := dl_46 (by decide +kernel)
theorem dX12_count_55 : decode cX12_count 55 = .ok (.ifCond .le 7, 3) := dl_158 (by decide +kernel)
theorem dX12_count_62 : decode cX12_count 62 = .ok (.iconst 0, 1) := dl_3 (by decide +kernel)
theorem dX12_count_63 : decode cX12_count 63 = .ok (.iadd, 1) := dl_96 (by decide +kernel)
theorem dX12_count_64 : decode cX12_count 64 = .ok (.istore_n 3, 1) := dl_62 (by decide +kernel)
theorem dX12_count_65 : decode cX12_count 65 = .ok (.iinc 4 1, 3) := dl_132 (by decide +kernel)
theorem dX12_count_68 : decode cX12_count 68 = .ok (.goto (-27), 3) := dl_167 (by decide +kernel)
theorem dX12_count_58 : decode cX12_count 58 = .ok (.iconst 1, 1) := dl_4 (by decide +kernel)
theorem dX12_count_59 : decode cX12_count 59 = .ok (.goto 4, 3) := dl_167 (by decide +kernel)
theorem dX12_count_14 : decode cX12_count 14 = .ok (.iload_n 2, 1) := dl_28 (by decide +kernel)
theorem dX12_count_15 : decode cX12_count 15 = .ok (.aload_n 0, 1) := dl_42 (by decide +kernel)
theorem dX12_count_16 : decode cX12_count 16 = .ok (.getfield 40, 3) := dl_180 (by decide +kernel)
theorem dX12_count_19 : decode cX12_count 19 = .ok (.iload 4, 2) := dl_21 (by decide +kernel)
theorem dX12_count_21 : decode cX12_count 21 = .ok (.iaload, 1) := dl_46 (by decide +kernel)
theorem dX12_count_22 : decode cX12_count 22 = .ok (.ifCond .le 7, 3) := dl_158 (by decide +kernel)
theorem dX12_count_29 : decode cX12_count 29 = .ok (.iconst 0, 1) := dl_3 (by decide +kernel)
theorem dX12_count_30 : decode cX12_count 30 = .ok (.iadd, 1) := dl_96 (by decide +kernel)
theorem dX12_count_31 : decode cX12_count 31 = .ok (.istore_n 2, 1) := dl_61 (by decide +kernel)
theorem dX12_count_32 : decode cX12_count 32 = .ok (.iinc 4 1, 3) := dl_132 (by decide +kernel)
theorem dX12_count_35 : decode cX12_count 35 = .ok (.goto (-28), 3) := dl_167 (by decide +kernel)
theorem dX12_count_25 : decode cX12_count 25 = .ok (.iconst 1, 1) := dl_4 (by decide +kernel)
theorem dX12_count_26 : decode cX12_count 26 = .ok (.goto 4, 3) := dl_167 (by decide +kernel)
set_option maxRecDepth 100000 in
set_option maxHeartbeats 4000000 in
theorem y_count (l : Launch) (E : EV) (ro : va_W) (hm : Nat) (v0 : Int32) (m_manys : Nat) (m_reals : Nat) (m_factsOf : Nat) (m_possible : Nat) (q_undos : Nat) (q_models : Nat) (m_tape : Nat) (q_taped : Nat) (q_fault : Int32) (q_wrong : Int32) (q_wrongAt : Int32) (q_spot : Int32) (q_place : Int32) (q_token : Int32) (q_value : Int32) (m_ends : Nat) (m_letters : Nat) (m_actOf : Nat) (m_whom : Nat) (m_actMany : Nat) (m_tokens : Nat) (m_afters : Nat) (m_afterOf : Nat) (q_counted : Int32) (m_pile : Nat) (m_caseMany : Nat) (m_happen : Nat) (m_hasIf : Nat) (m_becomes : Nat) (m_goneOf : Nat) (m_heard : Nat) (m_pairs : Nat) (m_heaps : Nat) (q_rounds : Int32) (q_heapMany : Int32) (m_led : Nat) (m_newAt : Nat) (m_knowing : Nat) (m_firsts : Nat) (q_people : Nat) (m_secrets : Nat) (m_tried : Nat) (m_lanes : Nat) (m_lengths : Nat) (m_cells : Nat) (f_manys : Nat → Int32) (f_reals : Nat → Int32) (f_tokens : Nat → Int32) (f_caseMany : Nat → Int32) (f_lanes : Nat → Int32) (f_lengths : Nat → Int32) (hb_manys : NB 18 24 f_manys) (hb_reals : NB 18 23 f_reals) (hb_caseMany : NB 4 4 f_caseMany) (hb_lengths : NB 4 48 f_lengths) (hpg : PG f_manys f_reals) (hq_undos : q_undos ≤ 8) (hq_models : q_models ≤ 4) (hq_people : q_people ≤ 4) (hq_taped : q_taped ≤ 160) : CT l yX12_count (Cond.code yX12_count cX12_count 5 (some .int) :: TB) ({ frames := 0, cells := 0, slots := 0, locals := 0 }) E ro [.ref hm, .int v0] [(hm, .inr (12, [.ref m_manys, .ref m_reals, .ref m_factsOf, .ref m_possible, .int (nI q_undos), .int (nI q_models), .ref m_tape, .int (nI q_taped), .int q_fault, .int q_wrong, .int q_wrongAt, .int q_spot, .int q_place, .int q_token, .int q_value, .ref m_ends, .ref m_letters, .ref m_actOf, .ref m_whom, .ref m_actMany, .ref m_tokens, .ref m_afters, .ref m_afterOf, .int q_counted, .ref m_pile, .ref m_caseMany, .ref m_happen, .ref m_hasIf, .ref m_becomes, .ref m_goneOf, .ref m_heard, .ref m_pairs, .ref m_heaps, .int q_rounds, .int q_heapMany, .ref m_led, .ref m_newAt, .ref m_knowing, .ref m_firsts, .int (nI q_people), .ref m_secrets, .ref m_tried, .ref m_lanes, .ref m_lengths, .ref m_cells])), (m_manys, .inl (E.2.1 1, 18, .inl f_manys)), (m_reals, .inl (E.2.1 1, 18, .inl f_reals)), (m_tokens, .inl (E.2.1 1, 9, .inl f_tokens)), (m_caseMany, .inl (E.2.1 1, 4, .inl f_caseMany)), (m_lanes, .inl (E.2.1 1, 4, .inl f_lanes)), (m_lengths, .inl (E.2.1 1, 4, .inl f_lengths))] (Qi E (fun (rz : Int32) uz => (uz = [(hm, .inr (12, [.ref m_manys, .ref m_reals, .ref m_factsOf, .ref m_possible, .int (nI q_undos), .int (nI q_models), .ref m_tape, .int (nI q_taped), .int q_fault, .int q_wrong, .int q_wrongAt, .int q_spot, .int q_place, .int q_token, .int q_value, .ref m_ends, .ref m_letters, .ref m_actOf, .ref m_whom, .ref m_actMany, .ref m_tokens, .ref m_afters, .ref m_afterOf, .int q_counted, .ref m_pile, .ref m_caseMany, .ref m_happen, .ref m_hasIf, .ref m_becomes, .ref m_goneOf, .ref m_heard, .ref m_pairs, .ref m_heaps, .int q_rounds, .int q_heapMany, .ref m_led, .ref m_newAt, .ref m_knowing, .ref m_firsts, .int (nI q_people), .ref m_secrets, .ref m_tried, .ref m_lanes, .ref m_lengths, .ref m_cells])), (m_manys, .inl (E.2.1 1, 18, .inl f_manys)), (m_reals, .inl (E.2.1 1, 18, .inl f_reals)), (m_tokens, .inl (E.2.1 1, 9, .inl f_tokens)), (m_caseMany, .inl (E.2.1 1, 4, .inl f_caseMany)), (m_lanes, .inl (E.2.1 1, 4, .inl f_lanes)), (m_lengths, .inl (E.2.1 1, 4, .inl f_lengths))] ∧ (rz = ansCnt (cN f_manys 0) (cN f_reals 0) (cb (fun k => decide (0 < (f_tokens k).toInt)) 8) (cb (fun e => decide (0 < cN f_caseMany e)) 4) q_models q_undos q_people q_taped (if f_lanes 0 = -4 then -4 else nI (cN f_lengths 0)) v0)))) 0 0 := by
  refine ct_of rfl rfl ?_
  intro X C hT hin hro
  show WW X 5 E 0 [(0, .ref hm), (1, .int v0)] [] [(hm, .inr (12, [.ref m_manys, .ref m_reals, .ref m_factsOf, .ref m_possible, .int (nI q_undos), .int (nI q_models), .ref m_tape, .int (nI q_taped), .int q_fault, .int q_wrong, .int q_wrongAt, .int q_spot, .int q_place, .int q_token, .int q_value, .ref m_ends, .ref m_letters, .ref m_actOf, .ref m_whom, .ref m_actMany, .ref m_tokens, .ref m_afters, .ref m_afterOf, .int q_counted, .ref m_pile, .ref m_caseMany, .ref m_happen, .ref m_hasIf, .ref m_becomes, .ref m_goneOf, .ref m_heard, .ref m_pairs, .ref m_heaps, .int q_rounds, .int q_heapMany, .ref m_led, .ref m_newAt, .ref m_knowing, .ref m_firsts, .int (nI q_people), .ref m_secrets, .ref m_tried, .ref m_lanes, .ref m_lengths, .ref m_cells])), (m_manys, .inl (E.2.1 1, 18, .inl f_manys)), (m_reals, .inl (E.2.1 1, 18, .inl f_reals)), (m_tokens, .inl (E.2.1 1, 9, .inl f_tokens)), (m_caseMany, .inl (E.2.1 1, 4, .inl f_caseMany)), (m_lanes, .inl (E.2.1 1, 4, .inl f_lanes)), (m_lengths, .inl (E.2.1 1, 4, .inl f_lengths))] 0 0
  have hmn0 := (hb_manys 0 (by omega)).2
  refine ww_iconst (v := 0) C dX12_count_0 rfl ?_
  refine ww_istore_n (lv' := [(2, .int 0), (0, .ref hm), (1, .int v0)]) C dX12_count_1 rfl rfl rfl ?_
  refine ww_iconst (v := 0) C dX12_count_2 rfl ?_
  refine ww_istore_n (lv' := [(3, .int 0), (2, .int 0), (0, .ref hm), (1, .int v0)]) C dX12_count_3 rfl rfl rfl ?_
  refine ww_iconst (v := 0) C dX12_count_4 rfl ?_
  refine ww_istore (lv' := [(4, .int 0), (3, .int 0), (2, .int 0), (0, .ref hm), (1, .int v0)]) C dX12_count_5 rfl rfl ?_
  have loop_7 : ∀ (fu : Nat) (k7 : Nat) (c7 : Nat), (k7 ≤ 8) → (c7 = cb (fun k => decide (0 < (f_tokens k).toInt)) k7) → (c7 ≤ k7) → 8 - k7 < fu → WW X 5 E 7 [(4, .int (nI k7)), (3, .int 0), (2, .int (nI c7)), (0, .ref hm), (1, .int v0)] [] [(hm, .inr (12, [.ref m_manys, .ref m_reals, .ref m_factsOf, .ref m_possible, .int (nI q_undos), .int (nI q_models), .ref m_tape, .int (nI q_taped), .int q_fault, .int q_wrong, .int q_wrongAt, .int q_spot, .int q_place, .int q_token, .int q_value, .ref m_ends, .ref m_letters, .ref m_actOf, .ref m_whom, .ref m_actMany, .ref m_tokens, .ref m_afters, .ref m_afterOf, .int q_counted, .ref m_pile, .ref m_caseMany, .ref m_happen, .ref m_hasIf, .ref m_becomes, .ref m_goneOf, .ref m_heard, .ref m_pairs, .ref m_heaps, .int q_rounds, .int q_heapMany, .ref m_led, .ref m_newAt, .ref m_knowing, .ref m_firsts, .int (nI q_people), .ref m_secrets, .ref m_tried, .ref m_lanes, .ref m_lengths, .ref m_cells])), (m_manys, .inl (E.2.1 1, 18, .inl f_manys)), (m_reals, .inl (E.2.1 1, 18, .inl f_reals)), (m_tokens, .inl (E.2.1 1, 9, .inl f_tokens)), (m_caseMany, .inl (E.2.1 1, 4, .inl f_caseMany)), (m_lanes, .inl (E.2.1 1, 4, .inl f_lanes)), (m_lengths, .inl (E.2.1 1, 4, .inl f_lengths))] 0 0 := by
    intro fu
    induction fu with
    | zero => intro k7 c7 hk7 hc7 hb7 hmeas; exact absurd hmeas (Nat.not_lt_zero _)
    | succ fu ih_7 =>
      intro k7 c7 hk7 hc7 hb7 hmeas
      refine ww_iload C dX12_count_7 0 rfl ?_
      refine ww_bipush (v := 8) C dX12_count_9 rfl ?_
      refine ww_icmp_ge (tgt := 38) C dX12_count_11 (by decide) (fun c_1 => ?_) (fun c_1 => ?_)
      · have zc_1 : ((k7 : Nat) : Int) ≥ 8 := i_le rfl (nI_toInt (n := k7) (by omega)) c_1
        refine ww_iconst (v := 0) C dX12_count_38 rfl ?_
        refine ww_istore (lv' := [(4, .int 0), (3, .int 0), (2, .int (nI c7)), (0, .ref hm), (1, .int v0)]) C dX12_count_39 rfl rfl ?_
        have loop_41 : ∀ (fu : Nat) (k41 : Nat) (c41 : Nat), (k41 ≤ 4) → (c41 = cb (fun e => decide (0 < cN f_caseMany e)) k41) → (c41 ≤ k41) → 4 - k41 < fu → WW X 5 E 41 [(4, .int (nI k41)), (3, .int (nI c41)), (2, .int (nI c7)), (0, .ref hm), (1, .int v0)] [] [(hm, .inr (12, [.ref m_manys, .ref m_reals, .ref m_factsOf, .ref m_possible, .int (nI q_undos), .int (nI q_models), .ref m_tape, .int (nI q_taped), .int q_fault, .int q_wrong, .int q_wrongAt, .int q_spot, .int q_place, .int q_token, .int q_value, .ref m_ends, .ref m_letters, .ref m_actOf, .ref m_whom, .ref m_actMany, .ref m_tokens, .ref m_afters, .ref m_afterOf, .int q_counted, .ref m_pile, .ref m_caseMany, .ref m_happen, .ref m_hasIf, .ref m_becomes, .ref m_goneOf, .ref m_heard, .ref m_pairs, .ref m_heaps, .int q_rounds, .int q_heapMany, .ref m_led, .ref m_newAt, .ref m_knowing, .ref m_firsts, .int (nI q_people), .ref m_secrets, .ref m_tried, .ref m_lanes, .ref m_lengths, .ref m_cells])), (m_manys, .inl (E.2.1 1, 18, .inl f_manys)), (m_reals, .inl (E.2.1 1, 18, .inl f_reals)), (m_tokens, .inl (E.2.1 1, 9, .inl f_tokens)), (m_caseMany, .inl (E.2.1 1, 4, .inl f_caseMany)), (m_lanes, .inl (E.2.1 1, 4, .inl f_lanes)), (m_lengths, .inl (E.2.1 1, 4, .inl f_lengths))] 0 0 := by
          intro fu
          induction fu with
          | zero => intro k41 c41 hk41 hc41 hb41 hmeas; exact absurd hmeas (Nat.not_lt_zero _)
          | succ fu ih_41 =>
            intro k41 c41 hk41 hc41 hb41 hmeas
            refine ww_iload C dX12_count_41 0 rfl ?_
            refine ww_iconst (v := 4) C dX12_count_43 rfl ?_
            refine ww_icmp_ge (tgt := 71) C dX12_count_44 (by decide) (fun c_2 => ?_) (fun c_2 => ?_)
            · have zc_2 : ((k41 : Nat) : Int) ≥ 4 := i_le rfl (nI_toInt (n := k41) (by omega)) c_2
              refine ww_iload_n C dX12_count_71 4 rfl rfl ?_
              by_cases c_3 : (0 : Int) ≤ v0.toInt ∧ v0.toInt ≤ 8
              · rcases sp_0_8 (x := v0) (by omega) (by omega) with rfl | rfl | rfl | rfl | rfl | rfl | rfl | rfl | rfl
                · refine ww_tableIn (tgt := 124) C dX12_count_72 (by decide) (by decide) rfl (by decide) ?_
                  refine ww_aload_n C dX12_count_124 3 rfl rfl ?_
                  refine ww_get C fg_X12_7 0 rfl rfl dX12_count_125 ?_
                  refine ww_iconst (v := 0) C dX12_count_128 rfl ?_
                  have hbx_4 := (hb_manys 0 (by omega)).2
                  refine ww_iald (v := (nI (cN f_manys 0))) C 1 rfl (vin rfl) (hb_manys 0 (by omega)).1 dX12_count_129 ?_
                  exact ww_iret (u := [(hm, .inr (12, [.ref m_manys, .ref m_reals, .ref m_factsOf, .ref m_possible, .int (nI q_undos), .int (nI q_models), .ref m_tape, .int (nI q_taped), .int q_fault, .int q_wrong, .int q_wrongAt, .int q_spot, .int q_place, .int q_token, .int q_value, .ref m_ends, .ref m_letters, .ref m_actOf, .ref m_whom, .ref m_actMany, .ref m_tokens, .ref m_afters, .ref m_afterOf, .int q_counted, .ref m_pile, .ref m_caseMany, .ref m_happen, .ref m_hasIf, .ref m_becomes, .ref m_goneOf, .ref m_heard, .ref m_pairs, .ref m_heaps, .int q_rounds, .int q_heapMany, .ref m_led, .ref m_newAt, .ref m_knowing, .ref m_firsts, .int (nI q_people), .ref m_secrets, .ref m_tried, .ref m_lanes, .ref m_lengths, .ref m_cells])), (m_manys, .inl (E.2.1 1, 18, .inl f_manys)), (m_reals, .inl (E.2.1 1, 18, .inl f_reals)), (m_tokens, .inl (E.2.1 1, 9, .inl f_tokens)), (m_caseMany, .inl (E.2.1 1, 4, .inl f_caseMany)), (m_lanes, .inl (E.2.1 1, 4, .inl f_lanes)), (m_lengths, .inl (E.2.1 1, 4, .inl f_lengths))]) C hT [0, 1, 2, 3, 4, 5, 6] rfl rfl rfl rfl dX12_count_130 (⟨rfl, (by unfold ansCnt; rw [if_pos (show (0 : Int32).toInt = 0 by decide)])⟩)
                · refine ww_tableIn (tgt := 131) C dX12_count_72 (by decide) (by decide) rfl (by decide) ?_
                  refine ww_aload_n C dX12_count_131 3 rfl rfl ?_
                  refine ww_get C fg_X12_7 0 rfl rfl dX12_count_132 ?_
                  refine ww_iconst (v := 0) C dX12_count_135 rfl ?_
                  have hbx_5 := (hb_manys 0 (by omega)).2
                  refine ww_iald (v := (nI (cN f_manys 0))) C 1 rfl (vin rfl) (hb_manys 0 (by omega)).1 dX12_count_136 ?_
                  refine ww_if_ne (tgt := 145) C dX12_count_137 (by decide) (fun c_6 => ?_) (fun c_6 => ?_)
                  · have zc_6 : ((cN f_manys 0 : Nat) : Int) ≠ 0 := i_ne (nI_toInt (n := cN f_manys 0) (by omega)) rfl c_6
                    refine ww_aload_n C dX12_count_145 3 rfl rfl ?_
                    refine ww_get C fg_X12_13 0 rfl rfl dX12_count_146 ?_
                    refine ww_iconst (v := 0) C dX12_count_149 rfl ?_
                    have hbx_7 := (hb_reals 0 (by omega)).2
                    refine ww_iald (v := (nI (cN f_reals 0))) C 2 rfl (vin rfl) (hb_reals 0 (by omega)).1 dX12_count_150 ?_
                    exact ww_iret (u := [(hm, .inr (12, [.ref m_manys, .ref m_reals, .ref m_factsOf, .ref m_possible, .int (nI q_undos), .int (nI q_models), .ref m_tape, .int (nI q_taped), .int q_fault, .int q_wrong, .int q_wrongAt, .int q_spot, .int q_place, .int q_token, .int q_value, .ref m_ends, .ref m_letters, .ref m_actOf, .ref m_whom, .ref m_actMany, .ref m_tokens, .ref m_afters, .ref m_afterOf, .int q_counted, .ref m_pile, .ref m_caseMany, .ref m_happen, .ref m_hasIf, .ref m_becomes, .ref m_goneOf, .ref m_heard, .ref m_pairs, .ref m_heaps, .int q_rounds, .int q_heapMany, .ref m_led, .ref m_newAt, .ref m_knowing, .ref m_firsts, .int (nI q_people), .ref m_secrets, .ref m_tried, .ref m_lanes, .ref m_lengths, .ref m_cells])), (m_manys, .inl (E.2.1 1, 18, .inl f_manys)), (m_reals, .inl (E.2.1 1, 18, .inl f_reals)), (m_tokens, .inl (E.2.1 1, 9, .inl f_tokens)), (m_caseMany, .inl (E.2.1 1, 4, .inl f_caseMany)), (m_lanes, .inl (E.2.1 1, 4, .inl f_lanes)), (m_lengths, .inl (E.2.1 1, 4, .inl f_lengths))]) C hT [0, 1, 2, 3, 4, 5, 6] rfl rfl rfl rfl dX12_count_151 (⟨rfl, (by unfold ansCnt; rw [if_neg (show ¬ (1 : Int32).toInt = 0 by decide), if_pos (show (1 : Int32).toInt = 1 by decide)]; rw [if_neg (by omega)])⟩)
                  · have zc_6 : ((cN f_manys 0 : Nat) : Int) = 0 := i_eq (nI_toInt (n := cN f_manys 0) (by omega)) rfl c_6
                    refine ww_bipush (v := (-4)) C dX12_count_140 rfl ?_
                    refine ww_goto (tgt := 151) C dX12_count_142 (by decide) ?_
                    exact ww_iret (u := [(hm, .inr (12, [.ref m_manys, .ref m_reals, .ref m_factsOf, .ref m_possible, .int (nI q_undos), .int (nI q_models), .ref m_tape, .int (nI q_taped), .int q_fault, .int q_wrong, .int q_wrongAt, .int q_spot, .int q_place, .int q_token, .int q_value, .ref m_ends, .ref m_letters, .ref m_actOf, .ref m_whom, .ref m_actMany, .ref m_tokens, .ref m_afters, .ref m_afterOf, .int q_counted, .ref m_pile, .ref m_caseMany, .ref m_happen, .ref m_hasIf, .ref m_becomes, .ref m_goneOf, .ref m_heard, .ref m_pairs, .ref m_heaps, .int q_rounds, .int q_heapMany, .ref m_led, .ref m_newAt, .ref m_knowing, .ref m_firsts, .int (nI q_people), .ref m_secrets, .ref m_tried, .ref m_lanes, .ref m_lengths, .ref m_cells])), (m_manys, .inl (E.2.1 1, 18, .inl f_manys)), (m_reals, .inl (E.2.1 1, 18, .inl f_reals)), (m_tokens, .inl (E.2.1 1, 9, .inl f_tokens)), (m_caseMany, .inl (E.2.1 1, 4, .inl f_caseMany)), (m_lanes, .inl (E.2.1 1, 4, .inl f_lanes)), (m_lengths, .inl (E.2.1 1, 4, .inl f_lengths))]) C hT [0, 1, 2, 3, 4, 5, 6] rfl rfl rfl rfl dX12_count_151 (⟨rfl, (by unfold ansCnt; rw [if_neg (show ¬ (1 : Int32).toInt = 0 by decide), if_pos (show (1 : Int32).toInt = 1 by decide)]; rw [if_pos (by omega)])⟩)
                · refine ww_tableIn (tgt := 152) C dX12_count_72 (by decide) (by decide) rfl (by decide) ?_
                  refine ww_iload_n C dX12_count_152 2 rfl rfl ?_
                  exact ww_iret (u := [(hm, .inr (12, [.ref m_manys, .ref m_reals, .ref m_factsOf, .ref m_possible, .int (nI q_undos), .int (nI q_models), .ref m_tape, .int (nI q_taped), .int q_fault, .int q_wrong, .int q_wrongAt, .int q_spot, .int q_place, .int q_token, .int q_value, .ref m_ends, .ref m_letters, .ref m_actOf, .ref m_whom, .ref m_actMany, .ref m_tokens, .ref m_afters, .ref m_afterOf, .int q_counted, .ref m_pile, .ref m_caseMany, .ref m_happen, .ref m_hasIf, .ref m_becomes, .ref m_goneOf, .ref m_heard, .ref m_pairs, .ref m_heaps, .int q_rounds, .int q_heapMany, .ref m_led, .ref m_newAt, .ref m_knowing, .ref m_firsts, .int (nI q_people), .ref m_secrets, .ref m_tried, .ref m_lanes, .ref m_lengths, .ref m_cells])), (m_manys, .inl (E.2.1 1, 18, .inl f_manys)), (m_reals, .inl (E.2.1 1, 18, .inl f_reals)), (m_tokens, .inl (E.2.1 1, 9, .inl f_tokens)), (m_caseMany, .inl (E.2.1 1, 4, .inl f_caseMany)), (m_lanes, .inl (E.2.1 1, 4, .inl f_lanes)), (m_lengths, .inl (E.2.1 1, 4, .inl f_lengths))]) C hT [0, 1, 2, 3, 4, 5, 6] rfl rfl rfl rfl dX12_count_153 (⟨rfl, (by unfold ansCnt; rw [if_neg (show ¬ (2 : Int32).toInt = 0 by decide), if_neg (show ¬ (2 : Int32).toInt = 1 by decide), if_pos (show (2 : Int32).toInt = 2 by decide)]; exact congrArg nI (hc7.trans (by rw [show k7 = 8 by omega])))⟩)
                · refine ww_tableIn (tgt := 154) C dX12_count_72 (by decide) (by decide) rfl (by decide) ?_
                  refine ww_iload_n C dX12_count_154 1 rfl rfl ?_
                  exact ww_iret (u := [(hm, .inr (12, [.ref m_manys, .ref m_reals, .ref m_factsOf, .ref m_possible, .int (nI q_undos), .int (nI q_models), .ref m_tape, .int (nI q_taped), .int q_fault, .int q_wrong, .int q_wrongAt, .int q_spot, .int q_place, .int q_token, .int q_value, .ref m_ends, .ref m_letters, .ref m_actOf, .ref m_whom, .ref m_actMany, .ref m_tokens, .ref m_afters, .ref m_afterOf, .int q_counted, .ref m_pile, .ref m_caseMany, .ref m_happen, .ref m_hasIf, .ref m_becomes, .ref m_goneOf, .ref m_heard, .ref m_pairs, .ref m_heaps, .int q_rounds, .int q_heapMany, .ref m_led, .ref m_newAt, .ref m_knowing, .ref m_firsts, .int (nI q_people), .ref m_secrets, .ref m_tried, .ref m_lanes, .ref m_lengths, .ref m_cells])), (m_manys, .inl (E.2.1 1, 18, .inl f_manys)), (m_reals, .inl (E.2.1 1, 18, .inl f_reals)), (m_tokens, .inl (E.2.1 1, 9, .inl f_tokens)), (m_caseMany, .inl (E.2.1 1, 4, .inl f_caseMany)), (m_lanes, .inl (E.2.1 1, 4, .inl f_lanes)), (m_lengths, .inl (E.2.1 1, 4, .inl f_lengths))]) C hT [0, 1, 2, 3, 4, 5, 6] rfl rfl rfl rfl dX12_count_155 (⟨rfl, (by unfold ansCnt; rw [if_neg (show ¬ (3 : Int32).toInt = 0 by decide), if_neg (show ¬ (3 : Int32).toInt = 1 by decide), if_neg (show ¬ (3 : Int32).toInt = 2 by decide), if_pos (show (3 : Int32).toInt = 3 by decide)]; exact congrArg nI (hc41.trans (by rw [show k41 = 4 by omega])))⟩)
                · refine ww_tableIn (tgt := 156) C dX12_count_72 (by decide) (by decide) rfl (by decide) ?_
                  refine ww_aload_n C dX12_count_156 3 rfl rfl ?_
                  refine ww_get C fg_X12_304 0 rfl rfl dX12_count_157 ?_
                  exact ww_iret (u := [(hm, .inr (12, [.ref m_manys, .ref m_reals, .ref m_factsOf, .ref m_possible, .int (nI q_undos), .int (nI q_models), .ref m_tape, .int (nI q_taped), .int q_fault, .int q_wrong, .int q_wrongAt, .int q_spot, .int q_place, .int q_token, .int q_value, .ref m_ends, .ref m_letters, .ref m_actOf, .ref m_whom, .ref m_actMany, .ref m_tokens, .ref m_afters, .ref m_afterOf, .int q_counted, .ref m_pile, .ref m_caseMany, .ref m_happen, .ref m_hasIf, .ref m_becomes, .ref m_goneOf, .ref m_heard, .ref m_pairs, .ref m_heaps, .int q_rounds, .int q_heapMany, .ref m_led, .ref m_newAt, .ref m_knowing, .ref m_firsts, .int (nI q_people), .ref m_secrets, .ref m_tried, .ref m_lanes, .ref m_lengths, .ref m_cells])), (m_manys, .inl (E.2.1 1, 18, .inl f_manys)), (m_reals, .inl (E.2.1 1, 18, .inl f_reals)), (m_tokens, .inl (E.2.1 1, 9, .inl f_tokens)), (m_caseMany, .inl (E.2.1 1, 4, .inl f_caseMany)), (m_lanes, .inl (E.2.1 1, 4, .inl f_lanes)), (m_lengths, .inl (E.2.1 1, 4, .inl f_lengths))]) C hT [0, 1, 2, 3, 4, 5, 6] rfl rfl rfl rfl dX12_count_160 (⟨rfl, (by unfold ansCnt; rw [if_neg (show ¬ (4 : Int32).toInt = 0 by decide), if_neg (show ¬ (4 : Int32).toInt = 1 by decide), if_neg (show ¬ (4 : Int32).toInt = 2 by decide), if_neg (show ¬ (4 : Int32).toInt = 3 by decide), if_pos (show (4 : Int32).toInt = 4 by decide)])⟩)
                · refine ww_tableIn (tgt := 161) C dX12_count_72 (by decide) (by decide) rfl (by decide) ?_
                  refine ww_aload_n C dX12_count_161 3 rfl rfl ?_
                  refine ww_get C fg_X12_105 0 rfl rfl dX12_count_162 ?_
                  exact ww_iret (u := [(hm, .inr (12, [.ref m_manys, .ref m_reals, .ref m_factsOf, .ref m_possible, .int (nI q_undos), .int (nI q_models), .ref m_tape, .int (nI q_taped), .int q_fault, .int q_wrong, .int q_wrongAt, .int q_spot, .int q_place, .int q_token, .int q_value, .ref m_ends, .ref m_letters, .ref m_actOf, .ref m_whom, .ref m_actMany, .ref m_tokens, .ref m_afters, .ref m_afterOf, .int q_counted, .ref m_pile, .ref m_caseMany, .ref m_happen, .ref m_hasIf, .ref m_becomes, .ref m_goneOf, .ref m_heard, .ref m_pairs, .ref m_heaps, .int q_rounds, .int q_heapMany, .ref m_led, .ref m_newAt, .ref m_knowing, .ref m_firsts, .int (nI q_people), .ref m_secrets, .ref m_tried, .ref m_lanes, .ref m_lengths, .ref m_cells])), (m_manys, .inl (E.2.1 1, 18, .inl f_manys)), (m_reals, .inl (E.2.1 1, 18, .inl f_reals)), (m_tokens, .inl (E.2.1 1, 9, .inl f_tokens)), (m_caseMany, .inl (E.2.1 1, 4, .inl f_caseMany)), (m_lanes, .inl (E.2.1 1, 4, .inl f_lanes)), (m_lengths, .inl (E.2.1 1, 4, .inl f_lengths))]) C hT [0, 1, 2, 3, 4, 5, 6] rfl rfl rfl rfl dX12_count_165 (⟨rfl, (by unfold ansCnt; rw [if_neg (show ¬ (5 : Int32).toInt = 0 by decide), if_neg (show ¬ (5 : Int32).toInt = 1 by decide), if_neg (show ¬ (5 : Int32).toInt = 2 by decide), if_neg (show ¬ (5 : Int32).toInt = 3 by decide), if_neg (show ¬ (5 : Int32).toInt = 4 by decide), if_pos (show (5 : Int32).toInt = 5 by decide)])⟩)
                · refine ww_tableIn (tgt := 166) C dX12_count_72 (by decide) (by decide) rfl (by decide) ?_
                  refine ww_aload_n C dX12_count_166 3 rfl rfl ?_
                  refine ww_get C fg_X12_332 0 rfl rfl dX12_count_167 ?_
                  exact ww_iret (u := [(hm, .inr (12, [.ref m_manys, .ref m_reals, .ref m_factsOf, .ref m_possible, .int (nI q_undos), .int (nI q_models), .ref m_tape, .int (nI q_taped), .int q_fault, .int q_wrong, .int q_wrongAt, .int q_spot, .int q_place, .int q_token, .int q_value, .ref m_ends, .ref m_letters, .ref m_actOf, .ref m_whom, .ref m_actMany, .ref m_tokens, .ref m_afters, .ref m_afterOf, .int q_counted, .ref m_pile, .ref m_caseMany, .ref m_happen, .ref m_hasIf, .ref m_becomes, .ref m_goneOf, .ref m_heard, .ref m_pairs, .ref m_heaps, .int q_rounds, .int q_heapMany, .ref m_led, .ref m_newAt, .ref m_knowing, .ref m_firsts, .int (nI q_people), .ref m_secrets, .ref m_tried, .ref m_lanes, .ref m_lengths, .ref m_cells])), (m_manys, .inl (E.2.1 1, 18, .inl f_manys)), (m_reals, .inl (E.2.1 1, 18, .inl f_reals)), (m_tokens, .inl (E.2.1 1, 9, .inl f_tokens)), (m_caseMany, .inl (E.2.1 1, 4, .inl f_caseMany)), (m_lanes, .inl (E.2.1 1, 4, .inl f_lanes)), (m_lengths, .inl (E.2.1 1, 4, .inl f_lengths))]) C hT [0, 1, 2, 3, 4, 5, 6] rfl rfl rfl rfl dX12_count_170 (⟨rfl, (by unfold ansCnt; rw [if_neg (show ¬ (6 : Int32).toInt = 0 by decide), if_neg (show ¬ (6 : Int32).toInt = 1 by decide), if_neg (show ¬ (6 : Int32).toInt = 2 by decide), if_neg (show ¬ (6 : Int32).toInt = 3 by decide), if_neg (show ¬ (6 : Int32).toInt = 4 by decide), if_neg (show ¬ (6 : Int32).toInt = 5 by decide), if_pos (show (6 : Int32).toInt = 6 by decide)])⟩)
                · refine ww_tableIn (tgt := 171) C dX12_count_72 (by decide) (by decide) rfl (by decide) ?_
                  refine ww_aload_n C dX12_count_171 3 rfl rfl ?_
                  refine ww_get C fg_X12_154 0 rfl rfl dX12_count_172 ?_
                  exact ww_iret (u := [(hm, .inr (12, [.ref m_manys, .ref m_reals, .ref m_factsOf, .ref m_possible, .int (nI q_undos), .int (nI q_models), .ref m_tape, .int (nI q_taped), .int q_fault, .int q_wrong, .int q_wrongAt, .int q_spot, .int q_place, .int q_token, .int q_value, .ref m_ends, .ref m_letters, .ref m_actOf, .ref m_whom, .ref m_actMany, .ref m_tokens, .ref m_afters, .ref m_afterOf, .int q_counted, .ref m_pile, .ref m_caseMany, .ref m_happen, .ref m_hasIf, .ref m_becomes, .ref m_goneOf, .ref m_heard, .ref m_pairs, .ref m_heaps, .int q_rounds, .int q_heapMany, .ref m_led, .ref m_newAt, .ref m_knowing, .ref m_firsts, .int (nI q_people), .ref m_secrets, .ref m_tried, .ref m_lanes, .ref m_lengths, .ref m_cells])), (m_manys, .inl (E.2.1 1, 18, .inl f_manys)), (m_reals, .inl (E.2.1 1, 18, .inl f_reals)), (m_tokens, .inl (E.2.1 1, 9, .inl f_tokens)), (m_caseMany, .inl (E.2.1 1, 4, .inl f_caseMany)), (m_lanes, .inl (E.2.1 1, 4, .inl f_lanes)), (m_lengths, .inl (E.2.1 1, 4, .inl f_lengths))]) C hT [0, 1, 2, 3, 4, 5, 6] rfl rfl rfl rfl dX12_count_175 (⟨rfl, (by unfold ansCnt; rw [if_neg (show ¬ (7 : Int32).toInt = 0 by decide), if_neg (show ¬ (7 : Int32).toInt = 1 by decide), if_neg (show ¬ (7 : Int32).toInt = 2 by decide), if_neg (show ¬ (7 : Int32).toInt = 3 by decide), if_neg (show ¬ (7 : Int32).toInt = 4 by decide), if_neg (show ¬ (7 : Int32).toInt = 5 by decide), if_neg (show ¬ (7 : Int32).toInt = 6 by decide), if_pos (show (7 : Int32).toInt = 7 by decide)])⟩)
                · refine ww_tableIn (tgt := 176) C dX12_count_72 (by decide) (by decide) rfl (by decide) ?_
                  refine ww_aload_n C dX12_count_176 3 rfl rfl ?_
                  refine ww_get C fg_X12_96 0 rfl rfl dX12_count_177 ?_
                  refine ww_iconst (v := 0) C dX12_count_180 rfl ?_
                  obtain ⟨x_8, ex_8⟩ : ∃ z : Int32, f_lanes 0 = z := ⟨_, rfl⟩
                  refine ww_iald (v := x_8) C 5 rfl (vin rfl) ex_8 dX12_count_181 ?_
                  refine ww_bipush (v := (-4)) C dX12_count_182 rfl ?_
                  refine ww_icmp_ne (tgt := 192) C dX12_count_184 (by decide) (fun c_9 => ?_) (fun c_9 => ?_)
                  · have zc_9 : x_8.toInt ≠ (-4) := i_ne rfl rfl c_9
                    refine ww_aload_n C dX12_count_192 3 rfl rfl ?_
                    refine ww_get C fg_X12_99 0 rfl rfl dX12_count_193 ?_
                    refine ww_iconst (v := 0) C dX12_count_196 rfl ?_
                    have hbx_10 := (hb_lengths 0 (by omega)).2
                    refine ww_iald (v := (nI (cN f_lengths 0))) C 6 rfl (vin rfl) (hb_lengths 0 (by omega)).1 dX12_count_197 ?_
                    exact ww_iret (u := [(hm, .inr (12, [.ref m_manys, .ref m_reals, .ref m_factsOf, .ref m_possible, .int (nI q_undos), .int (nI q_models), .ref m_tape, .int (nI q_taped), .int q_fault, .int q_wrong, .int q_wrongAt, .int q_spot, .int q_place, .int q_token, .int q_value, .ref m_ends, .ref m_letters, .ref m_actOf, .ref m_whom, .ref m_actMany, .ref m_tokens, .ref m_afters, .ref m_afterOf, .int q_counted, .ref m_pile, .ref m_caseMany, .ref m_happen, .ref m_hasIf, .ref m_becomes, .ref m_goneOf, .ref m_heard, .ref m_pairs, .ref m_heaps, .int q_rounds, .int q_heapMany, .ref m_led, .ref m_newAt, .ref m_knowing, .ref m_firsts, .int (nI q_people), .ref m_secrets, .ref m_tried, .ref m_lanes, .ref m_lengths, .ref m_cells])), (m_manys, .inl (E.2.1 1, 18, .inl f_manys)), (m_reals, .inl (E.2.1 1, 18, .inl f_reals)), (m_tokens, .inl (E.2.1 1, 9, .inl f_tokens)), (m_caseMany, .inl (E.2.1 1, 4, .inl f_caseMany)), (m_lanes, .inl (E.2.1 1, 4, .inl f_lanes)), (m_lengths, .inl (E.2.1 1, 4, .inl f_lengths))]) C hT [0, 1, 2, 3, 4, 5, 6] rfl rfl rfl rfl dX12_count_198 (⟨rfl, (by unfold ansCnt; rw [if_neg (show ¬ (8 : Int32).toInt = 0 by decide), if_neg (show ¬ (8 : Int32).toInt = 1 by decide), if_neg (show ¬ (8 : Int32).toInt = 2 by decide), if_neg (show ¬ (8 : Int32).toInt = 3 by decide), if_neg (show ¬ (8 : Int32).toInt = 4 by decide), if_neg (show ¬ (8 : Int32).toInt = 5 by decide), if_neg (show ¬ (8 : Int32).toInt = 6 by decide), if_neg (show ¬ (8 : Int32).toInt = 7 by decide), if_pos (show (8 : Int32).toInt = 8 by decide)]; rw [ex_8, if_neg (fun h9 => absurd (congrArg Int32.toInt h9) (by assumption))])⟩)
                  · have zc_9 : x_8.toInt = (-4) := i_eq rfl rfl c_9
                    refine ww_bipush (v := (-4)) C dX12_count_187 rfl ?_
                    refine ww_goto (tgt := 198) C dX12_count_189 (by decide) ?_
                    exact ww_iret (u := [(hm, .inr (12, [.ref m_manys, .ref m_reals, .ref m_factsOf, .ref m_possible, .int (nI q_undos), .int (nI q_models), .ref m_tape, .int (nI q_taped), .int q_fault, .int q_wrong, .int q_wrongAt, .int q_spot, .int q_place, .int q_token, .int q_value, .ref m_ends, .ref m_letters, .ref m_actOf, .ref m_whom, .ref m_actMany, .ref m_tokens, .ref m_afters, .ref m_afterOf, .int q_counted, .ref m_pile, .ref m_caseMany, .ref m_happen, .ref m_hasIf, .ref m_becomes, .ref m_goneOf, .ref m_heard, .ref m_pairs, .ref m_heaps, .int q_rounds, .int q_heapMany, .ref m_led, .ref m_newAt, .ref m_knowing, .ref m_firsts, .int (nI q_people), .ref m_secrets, .ref m_tried, .ref m_lanes, .ref m_lengths, .ref m_cells])), (m_manys, .inl (E.2.1 1, 18, .inl f_manys)), (m_reals, .inl (E.2.1 1, 18, .inl f_reals)), (m_tokens, .inl (E.2.1 1, 9, .inl f_tokens)), (m_caseMany, .inl (E.2.1 1, 4, .inl f_caseMany)), (m_lanes, .inl (E.2.1 1, 4, .inl f_lanes)), (m_lengths, .inl (E.2.1 1, 4, .inl f_lengths))]) C hT [0, 1, 2, 3, 4, 5, 6] rfl rfl rfl rfl dX12_count_198 (⟨rfl, (by unfold ansCnt; rw [if_neg (show ¬ (8 : Int32).toInt = 0 by decide), if_neg (show ¬ (8 : Int32).toInt = 1 by decide), if_neg (show ¬ (8 : Int32).toInt = 2 by decide), if_neg (show ¬ (8 : Int32).toInt = 3 by decide), if_neg (show ¬ (8 : Int32).toInt = 4 by decide), if_neg (show ¬ (8 : Int32).toInt = 5 by decide), if_neg (show ¬ (8 : Int32).toInt = 6 by decide), if_neg (show ¬ (8 : Int32).toInt = 7 by decide), if_pos (show (8 : Int32).toInt = 8 by decide)]; rw [ex_8, if_pos (Int32.toInt_inj.mp (by assumption))])⟩)
              · refine ww_tableOut (tgt := 199) C dX12_count_72 (by omega) (by decide) ?_
                refine ww_iconst (v := (-1)) C dX12_count_199 rfl ?_
                exact ww_iret (u := [(hm, .inr (12, [.ref m_manys, .ref m_reals, .ref m_factsOf, .ref m_possible, .int (nI q_undos), .int (nI q_models), .ref m_tape, .int (nI q_taped), .int q_fault, .int q_wrong, .int q_wrongAt, .int q_spot, .int q_place, .int q_token, .int q_value, .ref m_ends, .ref m_letters, .ref m_actOf, .ref m_whom, .ref m_actMany, .ref m_tokens, .ref m_afters, .ref m_afterOf, .int q_counted, .ref m_pile, .ref m_caseMany, .ref m_happen, .ref m_hasIf, .ref m_becomes, .ref m_goneOf, .ref m_heard, .ref m_pairs, .ref m_heaps, .int q_rounds, .int q_heapMany, .ref m_led, .ref m_newAt, .ref m_knowing, .ref m_firsts, .int (nI q_people), .ref m_secrets, .ref m_tried, .ref m_lanes, .ref m_lengths, .ref m_cells])), (m_manys, .inl (E.2.1 1, 18, .inl f_manys)), (m_reals, .inl (E.2.1 1, 18, .inl f_reals)), (m_tokens, .inl (E.2.1 1, 9, .inl f_tokens)), (m_caseMany, .inl (E.2.1 1, 4, .inl f_caseMany)), (m_lanes, .inl (E.2.1 1, 4, .inl f_lanes)), (m_lengths, .inl (E.2.1 1, 4, .inl f_lengths))]) C hT [0, 1, 2, 3, 4, 5, 6] rfl rfl rfl rfl dX12_count_200 (⟨rfl, (by unfold ansCnt; rw [if_neg (show ¬ v0.toInt = 0 by omega), if_neg (show ¬ v0.toInt = 1 by omega), if_neg (show ¬ v0.toInt = 2 by omega), if_neg (show ¬ v0.toInt = 3 by omega), if_neg (show ¬ v0.toInt = 4 by omega), if_neg (show ¬ v0.toInt = 5 by omega), if_neg (show ¬ v0.toInt = 6 by omega), if_neg (show ¬ v0.toInt = 7 by omega), if_neg (show ¬ v0.toInt = 8 by omega)])⟩)
            · have zc_2 : ((k41 : Nat) : Int) < 4 := i_nle rfl (nI_toInt (n := k41) (by omega)) c_2
              refine ww_iload_n C dX12_count_47 1 rfl rfl ?_
              refine ww_aload_n C dX12_count_48 3 rfl rfl ?_
              refine ww_get C fg_X12_52 0 rfl rfl dX12_count_49 ?_
              refine ww_iload C dX12_count_52 0 rfl ?_
              have hbx_11 := (hb_caseMany k41 (by omega)).2
              refine ww_iald (v := (nI (cN f_caseMany k41))) C 4 rfl (vp_in_nI (by omega) (by omega)) (ldn (by omega) (hb_caseMany k41 (by omega)).1) dX12_count_54 ?_
              refine ww_if_le (tgt := 62) C dX12_count_55 (by decide) (fun c_12 => ?_) (fun c_12 => ?_)
              · have zc_12 : ((cN f_caseMany k41 : Nat) : Int) ≤ 0 := i_le (nI_toInt (n := cN f_caseMany k41) (by omega)) rfl c_12
                refine ww_iconst (v := 0) C dX12_count_62 rfl ?_
                refine ww_iadd (v := (nI c41)) C dX12_count_63 (nI_add c41 0) ?_
                refine ww_istore_n (lv' := [(3, .int (nI c41)), (4, .int (nI k41)), (2, .int (nI c7)), (0, .ref hm), (1, .int v0)]) C dX12_count_64 rfl rfl rfl ?_
                refine ww_iinc (j := 1) (v := (nI (k41 + 1))) (lv' := [(4, .int (nI (k41 + 1))), (3, .int (nI c41)), (2, .int (nI c7)), (0, .ref hm), (1, .int v0)]) C dX12_count_65 rfl (nI_add k41 1) rfl rfl ?_
                refine ww_goto (tgt := 41) C dX12_count_68 (by decide) ?_
                exact ww_lv [0, 1, 2, 3, 4] rfl (ww_sub [0, 1, 2, 3, 4, 5, 6] rfl rfl (ih_41 (k41 + 1) c41 (by omega) (by first | exact cnt_t hc41 (decide_eq_true (by omega)) | exact cnt_f hc41 (decide_eq_false (by omega)) | exact cnt_f0 hc41 (decide_eq_false (by omega))) (by omega) (by omega)))
              · have zc_12 : ((cN f_caseMany k41 : Nat) : Int) > 0 := i_nle (nI_toInt (n := cN f_caseMany k41) (by omega)) rfl c_12
                refine ww_iconst (v := 1) C dX12_count_58 rfl ?_
                refine ww_goto (tgt := 63) C dX12_count_59 (by decide) ?_
                refine ww_iadd (v := (nI (c41 + 1))) C dX12_count_63 (nI_add c41 1) ?_
                refine ww_istore_n (lv' := [(3, .int (nI (c41 + 1))), (4, .int (nI k41)), (2, .int (nI c7)), (0, .ref hm), (1, .int v0)]) C dX12_count_64 rfl rfl rfl ?_
                refine ww_iinc (j := 1) (v := (nI (k41 + 1))) (lv' := [(4, .int (nI (k41 + 1))), (3, .int (nI (c41 + 1))), (2, .int (nI c7)), (0, .ref hm), (1, .int v0)]) C dX12_count_65 rfl (nI_add k41 1) rfl rfl ?_
                refine ww_goto (tgt := 41) C dX12_count_68 (by decide) ?_
                exact ww_lv [0, 1, 2, 3, 4] rfl (ww_sub [0, 1, 2, 3, 4, 5, 6] rfl rfl (ih_41 (k41 + 1) (c41 + 1) (by omega) (by first | exact cnt_t hc41 (decide_eq_true (by omega)) | exact cnt_f hc41 (decide_eq_false (by omega)) | exact cnt_f0 hc41 (decide_eq_false (by omega))) (by omega) (by omega)))
        exact ww_lv [0, 1, 2, 3, 4] rfl (ww_sub [0, 1, 2, 3, 4, 5, 6] rfl rfl (loop_41 _ 0 0 (by omega) rfl (by omega) (Nat.lt_succ_self _)))
      · have zc_1 : ((k7 : Nat) : Int) < 8 := i_nle rfl (nI_toInt (n := k7) (by omega)) c_1
        refine ww_iload_n C dX12_count_14 2 rfl rfl ?_
        refine ww_aload_n C dX12_count_15 3 rfl rfl ?_
        refine ww_get C fg_X12_40 0 rfl rfl dX12_count_16 ?_
        refine ww_iload C dX12_count_19 0 rfl ?_
        obtain ⟨x_13, ex_13⟩ : ∃ z : Int32, f_tokens k7 = z := ⟨_, rfl⟩
        refine ww_iald (v := x_13) C 3 rfl (vp_in_nI (by omega) (by omega)) (ldn (by omega) ex_13) dX12_count_21 ?_
        refine ww_if_le (tgt := 29) C dX12_count_22 (by decide) (fun c_14 => ?_) (fun c_14 => ?_)
        · have zc_14 : x_13.toInt ≤ 0 := i_le rfl rfl c_14
          refine ww_iconst (v := 0) C dX12_count_29 rfl ?_
          refine ww_iadd (v := (nI c7)) C dX12_count_30 (nI_add c7 0) ?_
          refine ww_istore_n (lv' := [(2, .int (nI c7)), (4, .int (nI k7)), (3, .int 0), (0, .ref hm), (1, .int v0)]) C dX12_count_31 rfl rfl rfl ?_
          refine ww_iinc (j := 1) (v := (nI (k7 + 1))) (lv' := [(4, .int (nI (k7 + 1))), (2, .int (nI c7)), (3, .int 0), (0, .ref hm), (1, .int v0)]) C dX12_count_32 rfl (nI_add k7 1) rfl rfl ?_
          refine ww_goto (tgt := 7) C dX12_count_35 (by decide) ?_
          exact ww_lv [0, 2, 1, 3, 4] rfl (ww_sub [0, 1, 2, 3, 4, 5, 6] rfl rfl (ih_7 (k7 + 1) c7 (by omega) (by first | exact cnt_t hc7 (decide_eq_true (show 0 < (f_tokens k7).toInt by rw [ex_13]; omega)) | exact cnt_f hc7 (decide_eq_false (show ¬ 0 < (f_tokens k7).toInt by rw [ex_13]; omega)) | exact cnt_f0 hc7 (decide_eq_false (show ¬ 0 < (f_tokens k7).toInt by rw [ex_13]; omega))) (by omega) (by omega)))
        · have zc_14 : x_13.toInt > 0 := i_nle rfl rfl c_14
          refine ww_iconst (v := 1) C dX12_count_25 rfl ?_
          refine ww_goto (tgt := 30) C dX12_count_26 (by decide) ?_
          refine ww_iadd (v := (nI (c7 + 1))) C dX12_count_30 (nI_add c7 1) ?_
          refine ww_istore_n (lv' := [(2, .int (nI (c7 + 1))), (4, .int (nI k7)), (3, .int 0), (0, .ref hm), (1, .int v0)]) C dX12_count_31 rfl rfl rfl ?_
          refine ww_iinc (j := 1) (v := (nI (k7 + 1))) (lv' := [(4, .int (nI (k7 + 1))), (2, .int (nI (c7 + 1))), (3, .int 0), (0, .ref hm), (1, .int v0)]) C dX12_count_32 rfl (nI_add k7 1) rfl rfl ?_
          refine ww_goto (tgt := 7) C dX12_count_35 (by decide) ?_
          exact ww_lv [0, 2, 1, 3, 4] rfl (ww_sub [0, 1, 2, 3, 4, 5, 6] rfl rfl (ih_7 (k7 + 1) (c7 + 1) (by omega) (by first | exact cnt_t hc7 (decide_eq_true (show 0 < (f_tokens k7).toInt by rw [ex_13]; omega)) | exact cnt_f hc7 (decide_eq_false (show ¬ 0 < (f_tokens k7).toInt by rw [ex_13]; omega)) | exact cnt_f0 hc7 (decide_eq_false (show ¬ 0 < (f_tokens k7).toInt by rw [ex_13]; omega))) (by omega) (by omega)))
  exact ww_lv [0, 1, 2, 3, 4] rfl (ww_sub [0, 1, 2, 3, 4, 5, 6] rfl rfl (loop_7 _ 0 0 (by omega) rfl (by omega) (Nat.lt_succ_self _)))
end
section
theorem rlt {n r : Nat} (h : r < n ∨ r = 0) (hn : n ≤ 24) : r < 24 := by omega
theorem dX6_goesOn_0 : decode cX6_goesOn 0 = .ok (.aload_n 0, 1) := dl_42 (by decide +kernel)
theorem dX6_goesOn_1 : decode cX6_goesOn 1 = .ok (.getfield 22, 3) := dl_180 (by decide +kernel)
theorem uw_X6 : ∀ w ∈ u_ws RX6 TX6 5, w ∈ TB := uw_of [302, 304, 306, 308, 310] (by decide +kernel) (by decide +kernel)
theorem wf_X6_22 : Cond.fieldLink RX6 22 RX6 "hide" "LWhoKnows$Saying;" ∈ TB := tbm (tq2 (List.mem_of_getElem? (i := 57) (by decide +kernel))) (by decide +kernel)
theorem fg_X6_22 : FG RX6 22 6 2 := ⟨RX6, TX6, 5, uw_X6, wf_X6_22, rfl, by decide, rfl⟩
theorem dX6_goesOn_4 : decode cX6_goesOn 4 = .ok (.astore 4, 2) := dl_58 (by decide +kernel)
theorem dX6_goesOn_6 : decode cX6_goesOn 6 = .ok (.aload 4, 2) := dl_25 (by decide +kernel)
theorem dX6_goesOn_8 : decode cX6_goesOn 8 = .ok (.ifnull 22, 3) := dl_198 (by decide +kernel)
theorem dX6_goesOn_30 : decode cX6_goesOn 30 = .ok (.iload_n 3, 1) := dl_29 (by decide +kernel)
theorem dX6_goesOn_31 : decode cX6_goesOn 31 = .ok (.aload_n 0, 1) := dl_42 (by decide +kernel)
theorem dX6_goesOn_32 : decode cX6_goesOn 32 = .ok (.getfield 25, 3) := dl_180 (by decide +kernel)
theorem wf_X6_25 : Cond.fieldLink RX6 25 RX6 "length" "I" ∈ TB := tbm (tq2 (List.mem_of_getElem? (i := 58) (by decide +kernel))) (by decide +kernel)
theorem fg_X6_25 : FG RX6 25 6 3 := ⟨RX6, TX6, 5, uw_X6, wf_X6_25, rfl, by decide, rfl⟩
theorem dX6_goesOn_35 : decode cX6_goesOn 35 = .ok (.if_icmp .ge 8, 3) := dl_162 (by decide +kernel)
theorem dX6_goesOn_43 : decode cX6_goesOn 43 = .ok (.aload_n 1, 1) := dl_43 (by decide +kernel)
theorem dX6_goesOn_44 : decode cX6_goesOn 44 = .ok (.aload_n 2, 1) := dl_44 (by decide +kernel)
theorem dX6_goesOn_45 : decode cX6_goesOn 45 = .ok (.aload_n 0, 1) := dl_42 (by decide +kernel)
theorem dX6_goesOn_46 : decode cX6_goesOn 46 = .ok (.getfield 18, 3) := dl_180 (by decide +kernel)
theorem wf_X6_18 : Cond.fieldLink RX6 18 RX6 "aim" "LWhoKnows$Saying;" ∈ TB := tbm (tq2 (List.mem_of_getElem? (i := 56) (by decide +kernel))) (by decide +kernel)
theorem fg_X6_18 : FG RX6 18 6 1 := ⟨RX6, TX6, 5, uw_X6, wf_X6_18, rfl, by decide, rfl⟩
theorem dX6_goesOn_49 : decode cX6_goesOn 49 = .ok (.invokevirtual 36, 3) := dl_182 (by decide +kernel)
theorem wl_X6_36 : Cond.methodLink RX6 36 yX2_whole ∈ TB := tbm (tq4 (List.mem_of_getElem? (i := 229) (by decide +kernel))) (by decide +kernel)
theorem dX6_goesOn_52 : decode cX6_goesOn 52 = .ok (.aload_n 2, 1) := dl_44 (by decide +kernel)
theorem dX6_goesOn_53 : decode cX6_goesOn 53 = .ok (.getfield 42, 3) := dl_180 (by decide +kernel)
theorem wf_X6_42 : Cond.fieldLink RX6 42 RX4 "realOne" "I" ∈ TB := tbm (tq1 (List.mem_of_getElem? (i := 40) (by decide +kernel))) (by decide +kernel)
theorem fg_X6_42 : FG RX6 42 4 1 := ⟨RX4, TX4, 4, uw_X4, wf_X6_42, rfl, by decide, rfl⟩
theorem dX6_goesOn_56 : decode cX6_goesOn 56 = .ok (.invokestatic 47, 3) := dl_184 (by decide +kernel)
theorem dX6_goesOn_59 : decode cX6_goesOn 59 = .ok (.ireturn, 1) := dl_172 (by decide +kernel)
theorem dX6_goesOn_38 : decode cX6_goesOn 38 = .ok (.iload_n 3, 1) := dl_29 (by decide +kernel)
theorem dX6_goesOn_39 : decode cX6_goesOn 39 = .ok (.iconst 3, 1) := dl_6 (by decide +kernel)
theorem dX6_goesOn_40 : decode cX6_goesOn 40 = .ok (.if_icmp .lt 20, 3) := dl_161 (by decide +kernel)
set_option maxRecDepth 100000 in
set_option maxHeartbeats 4000000 in
theorem p_goesOn3N (l : Launch) (E : EV) (ro : va_W) (pl : Nat) (qj : Nat) (h : Nat) (ps : Nat) (aim : Nat) (len : Nat) (row : Nat) (fps : Nat → Option Nat) (st0 : Nat) (st1 : Nat) (st2 : Nat) (jt : Nat) (je : Nat) (ju : Nat) (ja : Nat) (ft : Nat → Int32) (fa : Nat → Option Nat) (la0 : Nat) (la1 : Nat) (la0m : Nat) (la0p : Int32) (la0w : Int32) (la0c : Nat) (la0f : Nat) (la0q : Nat) (la0fc : Nat → Int32) (la0ff : Nat → Int32) (la0fq : Nat → Int32) (la0n : Nat) (la0r : Nat) (la0x : Nat) (la0y : Nat) (la0gx : Nat → Int32) (la0gy : Nat → Int32) (la1m : Nat) (la1p : Int32) (la1w : Int32) (la1c : Nat) (la1f : Nat) (la1q : Nat) (la1fc : Nat → Int32) (la1ff : Nat → Int32) (la1fq : Nat → Int32) (la1n : Nat) (la1r : Nat) (la1x : Nat) (la1y : Nat) (la1gx : Nat → Int32) (la1gy : Nat → Int32) (n : Nat) (r : Nat) (a : Nat) (b : Nat) (f : Nat → Int32) (gg : Nat → Int32) (vc : Nat → Nat) (vr : Nat → Nat) (vi : Nat → Nat → Option SVal) (vs : Nat → Nat → Int32) (vn : Nat → Nat → Int32) (vp : Nat → Nat → Int32) (SA : SVal) (k_fps_0 : fps 0 = some st0) (k_fps_1 : fps 1 = some st1) (k_fps_2 : fps 2 = some st2) (k_fa_0 : fa 0 = some la0) (k_fa_1 : fa 1 = some la1) (hn : n ≤ 24) (hr : r < n ∨ r = 0) (hla0n : la0n ≤ 24) (hla0r : la0r < la0n ∨ la0r = 0) (hla1n : la1n ≤ 24) (hla1r : la1r < la1n ∨ la1r = 0) (hEV : EVA E ro je vc vr vi vs vn vp) (ham : SYv E ro aim SA) (hwfm : WFm (am n r f gg)) (hlen : len ≤ 3) : CT l yX6_goesOn (Cond.code yX6_goesOn cX6_goesOn 9 (some .boolean) :: TB) ({ frames := 5, cells := 0, slots := 0, locals := 135 }) E ro [.ref pl, .ref qj, .ref h, .int 3] [(pl, .inr (6, [.ref ps, .ref aim, .null, .int (nI len), .int (nI row)])), (ps, .inl (E.2.1 5, 3, .inr (.inr (.inr (.inr fps))))), (qj, .inr (2, [.ref jt, .ref je, .ref ju, .ref ja])), (ju, .inl (E.2.1 1, 32, .inl ft)), (ja, .inl (E.2.1 5, 2, .inr (.inr (.inr (.inr fa))))), (la0, .inr (3, [.ref la0m, .int la0p, .int la0w, .ref la0c, .ref la0f, .ref la0q])), (la0c, .inl (E.2.1 1, 24, .inl la0fc)), (la0f, .inl (E.2.1 1, 24, .inl la0ff)), (la0q, .inl (E.2.1 1, 4, .inl la0fq)), (la0m, .inr (4, [.int (nI la0n), .int (nI la0r), .ref la0x, .ref la0y])), (la0x, .inl (E.2.1 1, 24, .inl la0gx)), (la0y, .inl (E.2.1 1, 96, .inl la0gy)), (la1, .inr (3, [.ref la1m, .int la1p, .int la1w, .ref la1c, .ref la1f, .ref la1q])), (la1c, .inl (E.2.1 1, 24, .inl la1fc)), (la1f, .inl (E.2.1 1, 24, .inl la1ff)), (la1q, .inl (E.2.1 1, 4, .inl la1fq)), (la1m, .inr (4, [.int (nI la1n), .int (nI la1r), .ref la1x, .ref la1y])), (la1x, .inl (E.2.1 1, 24, .inl la1gx)), (la1y, .inl (E.2.1 1, 96, .inl la1gy)), (h, .inr (4, [.int (nI n), .int (nI r), .ref a, .ref b])), (a, .inl (E.2.1 1, 24, .inl f)), (b, .inl (E.2.1 1, 96, .inl gg))] (Qi E (fun (rz : Int32) uz => (∃ (rowz : Nat) (ft2 : Nat → Int32) (la0zp : Int32) (la0zw : Int32) (la0zn : Nat) (la0zr : Nat) (la0zfc : Nat → Int32) (la0zff : Nat → Int32) (la0zfq : Nat → Int32) (la0zgx : Nat → Int32) (la0zgy : Nat → Int32) (la1zp : Int32) (la1zw : Int32) (la1zn : Nat) (la1zr : Nat) (la1zfc : Nat → Int32) (la1zff : Nat → Int32) (la1zfq : Nat → Int32) (la1zgx : Nat → Int32) (la1zgy : Nat → Int32), rz = 1 ∧ uz = [(pl, .inr (6, [.ref ps, .ref aim, .null, .int (nI len), .int (nI rowz)])), (ps, .inl (E.2.1 5, 3, .inr (.inr (.inr (.inr fps))))), (qj, .inr (2, [.ref jt, .ref je, .ref ju, .ref ja])), (ju, .inl (E.2.1 1, 32, .inl ft2)), (ja, .inl (E.2.1 5, 2, .inr (.inr (.inr (.inr fa))))), (la0, .inr (3, [.ref la0m, .int la0zp, .int la0zw, .ref la0c, .ref la0f, .ref la0q])), (la0c, .inl (E.2.1 1, 24, .inl la0zfc)), (la0f, .inl (E.2.1 1, 24, .inl la0zff)), (la0q, .inl (E.2.1 1, 4, .inl la0zfq)), (la0m, .inr (4, [.int (nI la0zn), .int (nI la0zr), .ref la0x, .ref la0y])), (la0x, .inl (E.2.1 1, 24, .inl la0zgx)), (la0y, .inl (E.2.1 1, 96, .inl la0zgy)), (la1, .inr (3, [.ref la1m, .int la1zp, .int la1zw, .ref la1c, .ref la1f, .ref la1q])), (la1c, .inl (E.2.1 1, 24, .inl la1zfc)), (la1f, .inl (E.2.1 1, 24, .inl la1zff)), (la1q, .inl (E.2.1 1, 4, .inl la1zfq)), (la1m, .inr (4, [.int (nI la1zn), .int (nI la1zr), .ref la1x, .ref la1y])), (la1x, .inl (E.2.1 1, 24, .inl la1zgx)), (la1y, .inl (E.2.1 1, 96, .inl la1zgy)), (h, .inr (4, [.int (nI n), .int (nI r), .ref a, .ref b])), (a, .inl (E.2.1 1, 24, .inl f)), (b, .inl (E.2.1 1, 96, .inl gg))] ∧ (la0zn ≤ 24) ∧ (la0zr < la0zn ∨ la0zr = 0) ∧ (la1zn ≤ 24) ∧ (la1zr < la1zn ∨ la1zr = 0) ∧ (plB (ev6 vc vr vi vs vn vp) SA none (len - 3) (am n r f gg) (row) = some rowz)) ∨ (∃ (rowz : Nat) (ft2 : Nat → Int32) (la0zp : Int32) (la0zw : Int32) (la0zn : Nat) (la0zr : Nat) (la0zfc : Nat → Int32) (la0zff : Nat → Int32) (la0zfq : Nat → Int32) (la0zgx : Nat → Int32) (la0zgy : Nat → Int32) (la1zp : Int32) (la1zw : Int32) (la1zn : Nat) (la1zr : Nat) (la1zfc : Nat → Int32) (la1zff : Nat → Int32) (la1zfq : Nat → Int32) (la1zgx : Nat → Int32) (la1zgy : Nat → Int32), rz = 0 ∧ uz = [(pl, .inr (6, [.ref ps, .ref aim, .null, .int (nI len), .int (nI rowz)])), (ps, .inl (E.2.1 5, 3, .inr (.inr (.inr (.inr fps))))), (qj, .inr (2, [.ref jt, .ref je, .ref ju, .ref ja])), (ju, .inl (E.2.1 1, 32, .inl ft2)), (ja, .inl (E.2.1 5, 2, .inr (.inr (.inr (.inr fa))))), (la0, .inr (3, [.ref la0m, .int la0zp, .int la0zw, .ref la0c, .ref la0f, .ref la0q])), (la0c, .inl (E.2.1 1, 24, .inl la0zfc)), (la0f, .inl (E.2.1 1, 24, .inl la0zff)), (la0q, .inl (E.2.1 1, 4, .inl la0zfq)), (la0m, .inr (4, [.int (nI la0zn), .int (nI la0zr), .ref la0x, .ref la0y])), (la0x, .inl (E.2.1 1, 24, .inl la0zgx)), (la0y, .inl (E.2.1 1, 96, .inl la0zgy)), (la1, .inr (3, [.ref la1m, .int la1zp, .int la1zw, .ref la1c, .ref la1f, .ref la1q])), (la1c, .inl (E.2.1 1, 24, .inl la1zfc)), (la1f, .inl (E.2.1 1, 24, .inl la1zff)), (la1q, .inl (E.2.1 1, 4, .inl la1zfq)), (la1m, .inr (4, [.int (nI la1zn), .int (nI la1zr), .ref la1x, .ref la1y])), (la1x, .inl (E.2.1 1, 24, .inl la1zgx)), (la1y, .inl (E.2.1 1, 96, .inl la1zgy)), (h, .inr (4, [.int (nI n), .int (nI r), .ref a, .ref b])), (a, .inl (E.2.1 1, 24, .inl f)), (b, .inl (E.2.1 1, 96, .inl gg))] ∧ (la0zn ≤ 24) ∧ (la0zr < la0zn ∨ la0zr = 0) ∧ (la1zn ≤ 24) ∧ (la1zr < la1zn ∨ la1zr = 0) ∧ (plB (ev6 vc vr vi vs vn vp) SA none (len - 3) (am n r f gg) (row) = none)))) 0 0 := by
  refine ct_of rfl rfl ?_
  intro X C hT hin hro
  show WW X 9 E 0 [(0, .ref pl), (1, .ref qj), (2, .ref h), (3, .int 3)] [] [(pl, .inr (6, [.ref ps, .ref aim, .null, .int (nI len), .int (nI row)])), (ps, .inl (E.2.1 5, 3, .inr (.inr (.inr (.inr fps))))), (qj, .inr (2, [.ref jt, .ref je, .ref ju, .ref ja])), (ju, .inl (E.2.1 1, 32, .inl ft)), (ja, .inl (E.2.1 5, 2, .inr (.inr (.inr (.inr fa))))), (la0, .inr (3, [.ref la0m, .int la0p, .int la0w, .ref la0c, .ref la0f, .ref la0q])), (la0c, .inl (E.2.1 1, 24, .inl la0fc)), (la0f, .inl (E.2.1 1, 24, .inl la0ff)), (la0q, .inl (E.2.1 1, 4, .inl la0fq)), (la0m, .inr (4, [.int (nI la0n), .int (nI la0r), .ref la0x, .ref la0y])), (la0x, .inl (E.2.1 1, 24, .inl la0gx)), (la0y, .inl (E.2.1 1, 96, .inl la0gy)), (la1, .inr (3, [.ref la1m, .int la1p, .int la1w, .ref la1c, .ref la1f, .ref la1q])), (la1c, .inl (E.2.1 1, 24, .inl la1fc)), (la1f, .inl (E.2.1 1, 24, .inl la1ff)), (la1q, .inl (E.2.1 1, 4, .inl la1fq)), (la1m, .inr (4, [.int (nI la1n), .int (nI la1r), .ref la1x, .ref la1y])), (la1x, .inl (E.2.1 1, 24, .inl la1gx)), (la1y, .inl (E.2.1 1, 96, .inl la1gy)), (h, .inr (4, [.int (nI n), .int (nI r), .ref a, .ref b])), (a, .inl (E.2.1 1, 24, .inl f)), (b, .inl (E.2.1 1, 96, .inl gg))] 0 0
  obtain ⟨jei_, fe_, hje_, hall_⟩ := id hEV
  have hr24 : r < 24 := rlt hr hn
  refine ww_aload_n C dX6_goesOn_0 0 rfl rfl ?_
  refine ww_get C fg_X6_22 0 rfl rfl dX6_goesOn_1 ?_
  refine ww_astoreN (lv' := [(4, .null), (0, .ref pl), (1, .ref qj), (2, .ref h), (3, .int 3)]) C dX6_goesOn_4 rfl rfl ?_
  refine ww_aloadN C dX6_goesOn_6 0 rfl ?_
  refine ww_ifnullN (tgt := 30) C dX6_goesOn_8 (by decide) ?_
  refine ww_iload_n C dX6_goesOn_30 4 rfl rfl ?_
  refine ww_aload_n C dX6_goesOn_31 1 rfl rfl ?_
  refine ww_get C fg_X6_25 0 rfl rfl dX6_goesOn_32 ?_
  refine ww_icmp_ge (tgt := 43) C dX6_goesOn_35 (by decide) (fun c_1 => ?_) (fun c_1 => ?_)
  · have zc_1 : 3 ≥ ((len : Nat) : Int) := i_le (nI_toInt (n := len) (by omega)) rfl c_1
    refine ww_aload_n C dX6_goesOn_43 2 rfl rfl ?_
    refine ww_aload_n C dX6_goesOn_44 3 rfl rfl ?_
    refine ww_aload_n C dX6_goesOn_45 1 rfl rfl ?_
    refine ww_get C fg_X6_18 0 rfl rfl dX6_goesOn_46 ?_
    refine ww_ci (wr := [(pl, .inr (6, [.ref ps, .ref aim, .null, .int (nI len), .int (nI row)])), (ps, .inl (E.2.1 5, 3, .inr (.inr (.inr (.inr fps)))))]) (k' := 0) (n' := 0) C (run_V (As := [.ref h, .ref aim]) (rest := []) C (j_whole X.2.1 E ro qj h aim jt je ju ja ft fa la0 la1 la0m la0p la0w la0c la0f la0q la0fc la0ff la0fq la0n la0r la0x la0y la0gx la0gy la1m la1p la1w la1c la1f la1q la1fc la1ff la1fq la1n la1r la1x la1y la1gx la1gy n r a b f gg vc vr vi vs vn vp SA k_fa_0 k_fa_1 (by omega) (by omega) (by omega) (by omega) (by omega) (by omega) hEV ham hwfm) mi_X2_whole wl_X6_36 rfl 0 2 rfl rfl rfl rfl rfl dX6_goesOn_49) (roK hro) [2, 3, 4, 5, 6, 7, 8, 9, 10, 11, 12, 13, 14, 15, 16, 17, 18, 19, 20, 21] [0, 1] (gqk (by eq_refl)) rfl (plk (by decide +kernel)) rfl (fun r_2 uz hw => ?_)
    refine ex8 hw ?_
    clear hw
    intro ft2_3 la0zp_4 la0zw_5 la0zn_6 la0zr_7 la0zfc_8 la0zff_9 la0zfq_10 hw
    refine ex8 hw ?_
    clear hw
    intro la0zgx_11 la0zgy_12 la1zp_13 la1zw_14 la1zn_15 la1zr_16 la1zfc_17 la1zff_18 hw
    refine ex3 hw ?_
    clear hw
    intro la1zfq_19 la1zgx_20 la1zgy_21 hw
    refine an5 hw ?_
    clear hw
    intro he_27 h_22 h_23 h_24 h_25 hw
    have h_26 := hw
    clear hw
    subst he_27
    refine ww_eq (ws' := [(pl, .inr (6, [.ref ps, .ref aim, .null, .int (nI len), .int (nI row)])), (ps, .inl (E.2.1 5, 3, .inr (.inr (.inr (.inr fps))))), (qj, .inr (2, [.ref jt, .ref je, .ref ju, .ref ja])), (ju, .inl (E.2.1 1, 32, .inl ft2_3)), (ja, .inl (E.2.1 5, 2, .inr (.inr (.inr (.inr fa))))), (la0, .inr (3, [.ref la0m, .int la0zp_4, .int la0zw_5, .ref la0c, .ref la0f, .ref la0q])), (la0c, .inl (E.2.1 1, 24, .inl la0zfc_8)), (la0f, .inl (E.2.1 1, 24, .inl la0zff_9)), (la0q, .inl (E.2.1 1, 4, .inl la0zfq_10)), (la0m, .inr (4, [.int (nI la0zn_6), .int (nI la0zr_7), .ref la0x, .ref la0y])), (la0x, .inl (E.2.1 1, 24, .inl la0zgx_11)), (la0y, .inl (E.2.1 1, 96, .inl la0zgy_12)), (la1, .inr (3, [.ref la1m, .int la1zp_13, .int la1zw_14, .ref la1c, .ref la1f, .ref la1q])), (la1c, .inl (E.2.1 1, 24, .inl la1zfc_17)), (la1f, .inl (E.2.1 1, 24, .inl la1zff_18)), (la1q, .inl (E.2.1 1, 4, .inl la1zfq_19)), (la1m, .inr (4, [.int (nI la1zn_15), .int (nI la1zr_16), .ref la1x, .ref la1y])), (la1x, .inl (E.2.1 1, 24, .inl la1zgx_20)), (la1y, .inl (E.2.1 1, 96, .inl la1zgy_21)), (h, .inr (4, [.int (nI n), .int (nI r), .ref a, .ref b])), (a, .inl (E.2.1 1, 24, .inl f)), (b, .inl (E.2.1 1, 96, .inl gg))]) ?_ rfl rfl rfl
    refine ww_aload_n C dX6_goesOn_52 3 rfl rfl ?_
    refine ww_get C fg_X6_42 19 rfl rfl dX6_goesOn_53 ?_
    refine ww_ci (wr := [(pl, .inr (6, [.ref ps, .ref aim, .null, .int (nI len), .int (nI row)])), (ps, .inl (E.2.1 5, 3, .inr (.inr (.inr (.inr fps))))), (qj, .inr (2, [.ref jt, .ref je, .ref ju, .ref ja])), (ju, .inl (E.2.1 1, 32, .inl ft2_3)), (ja, .inl (E.2.1 5, 2, .inr (.inr (.inr (.inr fa))))), (la0, .inr (3, [.ref la0m, .int la0zp_4, .int la0zw_5, .ref la0c, .ref la0f, .ref la0q])), (la0c, .inl (E.2.1 1, 24, .inl la0zfc_8)), (la0f, .inl (E.2.1 1, 24, .inl la0zff_9)), (la0q, .inl (E.2.1 1, 4, .inl la0zfq_10)), (la0m, .inr (4, [.int (nI la0zn_6), .int (nI la0zr_7), .ref la0x, .ref la0y])), (la0x, .inl (E.2.1 1, 24, .inl la0zgx_11)), (la0y, .inl (E.2.1 1, 96, .inl la0zgy_12)), (la1, .inr (3, [.ref la1m, .int la1zp_13, .int la1zw_14, .ref la1c, .ref la1f, .ref la1q])), (la1c, .inl (E.2.1 1, 24, .inl la1zfc_17)), (la1f, .inl (E.2.1 1, 24, .inl la1zff_18)), (la1q, .inl (E.2.1 1, 4, .inl la1zfq_19)), (la1m, .inr (4, [.int (nI la1zn_15), .int (nI la1zr_16), .ref la1x, .ref la1y])), (la1x, .inl (E.2.1 1, 24, .inl la1zgx_20)), (la1y, .inl (E.2.1 1, 96, .inl la1zgy_21)), (h, .inr (4, [.int (nI n), .int (nI r), .ref a, .ref b])), (a, .inl (E.2.1 1, 24, .inl f)), (b, .inl (E.2.1 1, 96, .inl gg))]) (k' := 0) (n' := 0) C (run_SN (As := [.int r_2, .int (nI r)]) (rest := []) C (c_hasN X.2.1 E ro r_2 r (by omega)) ms_X11_has (List.mem_of_getElem? (i := 20) rfl) rfl rfl rfl rfl dX6_goesOn_56) (roK hro) [] [0, 1, 2, 3, 4, 5, 6, 7, 8, 9, 10, 11, 12, 13, 14, 15, 16, 17, 18, 19, 20, 21] rfl (gqk (by eq_refl)) (plk (by decide +kernel)) rfl (fun r_28 uz hw => ?_)
    rcases hw with hw | hw
    · refine an2 hw ?_
      clear hw
      intro he_30 he_31 hw
      have h_29 := hw
      clear hw
      have he_30 := he_30.symm
      subst he_30
      subst he_31
      refine ww_eq (ws' := [(pl, .inr (6, [.ref ps, .ref aim, .null, .int (nI len), .int (nI row)])), (ps, .inl (E.2.1 5, 3, .inr (.inr (.inr (.inr fps))))), (qj, .inr (2, [.ref jt, .ref je, .ref ju, .ref ja])), (ju, .inl (E.2.1 1, 32, .inl ft2_3)), (ja, .inl (E.2.1 5, 2, .inr (.inr (.inr (.inr fa))))), (la0, .inr (3, [.ref la0m, .int la0zp_4, .int la0zw_5, .ref la0c, .ref la0f, .ref la0q])), (la0c, .inl (E.2.1 1, 24, .inl la0zfc_8)), (la0f, .inl (E.2.1 1, 24, .inl la0zff_9)), (la0q, .inl (E.2.1 1, 4, .inl la0zfq_10)), (la0m, .inr (4, [.int (nI la0zn_6), .int (nI la0zr_7), .ref la0x, .ref la0y])), (la0x, .inl (E.2.1 1, 24, .inl la0zgx_11)), (la0y, .inl (E.2.1 1, 96, .inl la0zgy_12)), (la1, .inr (3, [.ref la1m, .int la1zp_13, .int la1zw_14, .ref la1c, .ref la1f, .ref la1q])), (la1c, .inl (E.2.1 1, 24, .inl la1zfc_17)), (la1f, .inl (E.2.1 1, 24, .inl la1zff_18)), (la1q, .inl (E.2.1 1, 4, .inl la1zfq_19)), (la1m, .inr (4, [.int (nI la1zn_15), .int (nI la1zr_16), .ref la1x, .ref la1y])), (la1x, .inl (E.2.1 1, 24, .inl la1zgx_20)), (la1y, .inl (E.2.1 1, 96, .inl la1zgy_21)), (h, .inr (4, [.int (nI n), .int (nI r), .ref a, .ref b])), (a, .inl (E.2.1 1, 24, .inl f)), (b, .inl (E.2.1 1, 96, .inl gg))]) ?_ rfl rfl rfl
      exact ww_zret (u := [(pl, .inr (6, [.ref ps, .ref aim, .null, .int (nI len), .int (nI row)])), (ps, .inl (E.2.1 5, 3, .inr (.inr (.inr (.inr fps))))), (qj, .inr (2, [.ref jt, .ref je, .ref ju, .ref ja])), (ju, .inl (E.2.1 1, 32, .inl ft2_3)), (ja, .inl (E.2.1 5, 2, .inr (.inr (.inr (.inr fa))))), (la0, .inr (3, [.ref la0m, .int la0zp_4, .int la0zw_5, .ref la0c, .ref la0f, .ref la0q])), (la0c, .inl (E.2.1 1, 24, .inl la0zfc_8)), (la0f, .inl (E.2.1 1, 24, .inl la0zff_9)), (la0q, .inl (E.2.1 1, 4, .inl la0zfq_10)), (la0m, .inr (4, [.int (nI la0zn_6), .int (nI la0zr_7), .ref la0x, .ref la0y])), (la0x, .inl (E.2.1 1, 24, .inl la0zgx_11)), (la0y, .inl (E.2.1 1, 96, .inl la0zgy_12)), (la1, .inr (3, [.ref la1m, .int la1zp_13, .int la1zw_14, .ref la1c, .ref la1f, .ref la1q])), (la1c, .inl (E.2.1 1, 24, .inl la1zfc_17)), (la1f, .inl (E.2.1 1, 24, .inl la1zff_18)), (la1q, .inl (E.2.1 1, 4, .inl la1zfq_19)), (la1m, .inr (4, [.int (nI la1zn_15), .int (nI la1zr_16), .ref la1x, .ref la1y])), (la1x, .inl (E.2.1 1, 24, .inl la1zgx_20)), (la1y, .inl (E.2.1 1, 96, .inl la1zgy_21)), (h, .inr (4, [.int (nI n), .int (nI r), .ref a, .ref b])), (a, .inl (E.2.1 1, 24, .inl f)), (b, .inl (E.2.1 1, 96, .inl gg))]) C hT [0, 1, 2, 3, 4, 5, 6, 7, 8, 9, 10, 11, 12, 13, 14, 15, 16, 17, 18, 19, 20, 21] (gqk (by eq_refl)) (ndk (by decide +kernel)) rfl rfl rfl dX6_goesOn_59 (Or.inl ⟨row, ft2_3, la0zp_4, la0zw_5, la0zn_6, la0zr_7, la0zfc_8, la0zff_9, la0zfq_10, la0zgx_11, la0zgy_12, la1zp_13, la1zw_14, la1zn_15, la1zr_16, la1zfc_17, la1zff_18, la1zfq_19, la1zgx_20, la1zgy_21, rfl, rfl, (by first | assumption | omega | decide), (by first | assumption | omega | decide), (by first | assumption | omega | decide), (by first | assumption | omega | decide), (pl_01 (show hidO (am n r f gg) (ev6 vc vr vi vs vn vp) none = true from rfl) (show vWho (am n r f gg) (ev6 vc vr vi vs vn vp) SA r = true from (BS.t (i := r) h_26 (by omega) h_29)) (by omega))⟩)
    · refine an2 hw ?_
      clear hw
      intro he_33 he_34 hw
      have h_32 := hw
      clear hw
      have he_33 := he_33.symm
      subst he_33
      subst he_34
      refine ww_eq (ws' := [(pl, .inr (6, [.ref ps, .ref aim, .null, .int (nI len), .int (nI row)])), (ps, .inl (E.2.1 5, 3, .inr (.inr (.inr (.inr fps))))), (qj, .inr (2, [.ref jt, .ref je, .ref ju, .ref ja])), (ju, .inl (E.2.1 1, 32, .inl ft2_3)), (ja, .inl (E.2.1 5, 2, .inr (.inr (.inr (.inr fa))))), (la0, .inr (3, [.ref la0m, .int la0zp_4, .int la0zw_5, .ref la0c, .ref la0f, .ref la0q])), (la0c, .inl (E.2.1 1, 24, .inl la0zfc_8)), (la0f, .inl (E.2.1 1, 24, .inl la0zff_9)), (la0q, .inl (E.2.1 1, 4, .inl la0zfq_10)), (la0m, .inr (4, [.int (nI la0zn_6), .int (nI la0zr_7), .ref la0x, .ref la0y])), (la0x, .inl (E.2.1 1, 24, .inl la0zgx_11)), (la0y, .inl (E.2.1 1, 96, .inl la0zgy_12)), (la1, .inr (3, [.ref la1m, .int la1zp_13, .int la1zw_14, .ref la1c, .ref la1f, .ref la1q])), (la1c, .inl (E.2.1 1, 24, .inl la1zfc_17)), (la1f, .inl (E.2.1 1, 24, .inl la1zff_18)), (la1q, .inl (E.2.1 1, 4, .inl la1zfq_19)), (la1m, .inr (4, [.int (nI la1zn_15), .int (nI la1zr_16), .ref la1x, .ref la1y])), (la1x, .inl (E.2.1 1, 24, .inl la1zgx_20)), (la1y, .inl (E.2.1 1, 96, .inl la1zgy_21)), (h, .inr (4, [.int (nI n), .int (nI r), .ref a, .ref b])), (a, .inl (E.2.1 1, 24, .inl f)), (b, .inl (E.2.1 1, 96, .inl gg))]) ?_ rfl rfl rfl
      exact ww_zret (u := [(pl, .inr (6, [.ref ps, .ref aim, .null, .int (nI len), .int (nI row)])), (ps, .inl (E.2.1 5, 3, .inr (.inr (.inr (.inr fps))))), (qj, .inr (2, [.ref jt, .ref je, .ref ju, .ref ja])), (ju, .inl (E.2.1 1, 32, .inl ft2_3)), (ja, .inl (E.2.1 5, 2, .inr (.inr (.inr (.inr fa))))), (la0, .inr (3, [.ref la0m, .int la0zp_4, .int la0zw_5, .ref la0c, .ref la0f, .ref la0q])), (la0c, .inl (E.2.1 1, 24, .inl la0zfc_8)), (la0f, .inl (E.2.1 1, 24, .inl la0zff_9)), (la0q, .inl (E.2.1 1, 4, .inl la0zfq_10)), (la0m, .inr (4, [.int (nI la0zn_6), .int (nI la0zr_7), .ref la0x, .ref la0y])), (la0x, .inl (E.2.1 1, 24, .inl la0zgx_11)), (la0y, .inl (E.2.1 1, 96, .inl la0zgy_12)), (la1, .inr (3, [.ref la1m, .int la1zp_13, .int la1zw_14, .ref la1c, .ref la1f, .ref la1q])), (la1c, .inl (E.2.1 1, 24, .inl la1zfc_17)), (la1f, .inl (E.2.1 1, 24, .inl la1zff_18)), (la1q, .inl (E.2.1 1, 4, .inl la1zfq_19)), (la1m, .inr (4, [.int (nI la1zn_15), .int (nI la1zr_16), .ref la1x, .ref la1y])), (la1x, .inl (E.2.1 1, 24, .inl la1zgx_20)), (la1y, .inl (E.2.1 1, 96, .inl la1zgy_21)), (h, .inr (4, [.int (nI n), .int (nI r), .ref a, .ref b])), (a, .inl (E.2.1 1, 24, .inl f)), (b, .inl (E.2.1 1, 96, .inl gg))]) C hT [0, 1, 2, 3, 4, 5, 6, 7, 8, 9, 10, 11, 12, 13, 14, 15, 16, 17, 18, 19, 20, 21] (gqk (by eq_refl)) (ndk (by decide +kernel)) rfl rfl rfl dX6_goesOn_59 (Or.inr ⟨row, ft2_3, la0zp_4, la0zw_5, la0zn_6, la0zr_7, la0zfc_8, la0zff_9, la0zfq_10, la0zgx_11, la0zgy_12, la1zp_13, la1zw_14, la1zn_15, la1zr_16, la1zfc_17, la1zff_18, la1zfq_19, la1zgx_20, la1zgy_21, rfl, rfl, (by first | assumption | omega | decide), (by first | assumption | omega | decide), (by first | assumption | omega | decide), (by first | assumption | omega | decide), (pl_00 (show vWho (am n r f gg) (ev6 vc vr vi vs vn vp) SA r = false from (BS.f (i := r) h_26 (by omega) h_32)) (by omega))⟩)
  · have zc_1 : 3 < ((len : Nat) : Int) := i_nle (nI_toInt (n := len) (by omega)) rfl c_1
    refine ww_iload_n C dX6_goesOn_38 4 rfl rfl ?_
    refine ww_iconst (v := 3) C dX6_goesOn_39 rfl ?_
    refine ww_icmp_lt_f (tgt := 60) C dX6_goesOn_40 (by decide) (by decide) ?_
    refine ww_aload_n C dX6_goesOn_43 2 rfl rfl ?_
    refine ww_aload_n C dX6_goesOn_44 3 rfl rfl ?_
    refine ww_aload_n C dX6_goesOn_45 1 rfl rfl ?_
    refine ww_get C fg_X6_18 0 rfl rfl dX6_goesOn_46 ?_
    refine ww_ci (wr := [(pl, .inr (6, [.ref ps, .ref aim, .null, .int (nI len), .int (nI row)])), (ps, .inl (E.2.1 5, 3, .inr (.inr (.inr (.inr fps)))))]) (k' := 0) (n' := 0) C (run_V (As := [.ref h, .ref aim]) (rest := []) C (j_whole X.2.1 E ro qj h aim jt je ju ja ft fa la0 la1 la0m la0p la0w la0c la0f la0q la0fc la0ff la0fq la0n la0r la0x la0y la0gx la0gy la1m la1p la1w la1c la1f la1q la1fc la1ff la1fq la1n la1r la1x la1y la1gx la1gy n r a b f gg vc vr vi vs vn vp SA k_fa_0 k_fa_1 (by omega) (by omega) (by omega) (by omega) (by omega) (by omega) hEV ham hwfm) mi_X2_whole wl_X6_36 rfl 0 2 rfl rfl rfl rfl rfl dX6_goesOn_49) (roK hro) [2, 3, 4, 5, 6, 7, 8, 9, 10, 11, 12, 13, 14, 15, 16, 17, 18, 19, 20, 21] [0, 1] (gqk (by eq_refl)) rfl (plk (by decide +kernel)) rfl (fun r_35 uz hw => ?_)
    refine ex8 hw ?_
    clear hw
    intro ft2_36 la0zp_37 la0zw_38 la0zn_39 la0zr_40 la0zfc_41 la0zff_42 la0zfq_43 hw
    refine ex8 hw ?_
    clear hw
    intro la0zgx_44 la0zgy_45 la1zp_46 la1zw_47 la1zn_48 la1zr_49 la1zfc_50 la1zff_51 hw
    refine ex3 hw ?_
    clear hw
    intro la1zfq_52 la1zgx_53 la1zgy_54 hw
    refine an5 hw ?_
    clear hw
    intro he_60 h_55 h_56 h_57 h_58 hw
    have h_59 := hw
    clear hw
    subst he_60
    refine ww_eq (ws' := [(pl, .inr (6, [.ref ps, .ref aim, .null, .int (nI len), .int (nI row)])), (ps, .inl (E.2.1 5, 3, .inr (.inr (.inr (.inr fps))))), (qj, .inr (2, [.ref jt, .ref je, .ref ju, .ref ja])), (ju, .inl (E.2.1 1, 32, .inl ft2_36)), (ja, .inl (E.2.1 5, 2, .inr (.inr (.inr (.inr fa))))), (la0, .inr (3, [.ref la0m, .int la0zp_37, .int la0zw_38, .ref la0c, .ref la0f, .ref la0q])), (la0c, .inl (E.2.1 1, 24, .inl la0zfc_41)), (la0f, .inl (E.2.1 1, 24, .inl la0zff_42)), (la0q, .inl (E.2.1 1, 4, .inl la0zfq_43)), (la0m, .inr (4, [.int (nI la0zn_39), .int (nI la0zr_40), .ref la0x, .ref la0y])), (la0x, .inl (E.2.1 1, 24, .inl la0zgx_44)), (la0y, .inl (E.2.1 1, 96, .inl la0zgy_45)), (la1, .inr (3, [.ref la1m, .int la1zp_46, .int la1zw_47, .ref la1c, .ref la1f, .ref la1q])), (la1c, .inl (E.2.1 1, 24, .inl la1zfc_50)), (la1f, .inl (E.2.1 1, 24, .inl la1zff_51)), (la1q, .inl (E.2.1 1, 4, .inl la1zfq_52)), (la1m, .inr (4, [.int (nI la1zn_48), .int (nI la1zr_49), .ref la1x, .ref la1y])), (la1x, .inl (E.2.1 1, 24, .inl la1zgx_53)), (la1y, .inl (E.2.1 1, 96, .inl la1zgy_54)), (h, .inr (4, [.int (nI n), .int (nI r), .ref a, .ref b])), (a, .inl (E.2.1 1, 24, .inl f)), (b, .inl (E.2.1 1, 96, .inl gg))]) ?_ rfl rfl rfl
    refine ww_aload_n C dX6_goesOn_52 3 rfl rfl ?_
    refine ww_get C fg_X6_42 19 rfl rfl dX6_goesOn_53 ?_
    refine ww_ci (wr := [(pl, .inr (6, [.ref ps, .ref aim, .null, .int (nI len), .int (nI row)])), (ps, .inl (E.2.1 5, 3, .inr (.inr (.inr (.inr fps))))), (qj, .inr (2, [.ref jt, .ref je, .ref ju, .ref ja])), (ju, .inl (E.2.1 1, 32, .inl ft2_36)), (ja, .inl (E.2.1 5, 2, .inr (.inr (.inr (.inr fa))))), (la0, .inr (3, [.ref la0m, .int la0zp_37, .int la0zw_38, .ref la0c, .ref la0f, .ref la0q])), (la0c, .inl (E.2.1 1, 24, .inl la0zfc_41)), (la0f, .inl (E.2.1 1, 24, .inl la0zff_42)), (la0q, .inl (E.2.1 1, 4, .inl la0zfq_43)), (la0m, .inr (4, [.int (nI la0zn_39), .int (nI la0zr_40), .ref la0x, .ref la0y])), (la0x, .inl (E.2.1 1, 24, .inl la0zgx_44)), (la0y, .inl (E.2.1 1, 96, .inl la0zgy_45)), (la1, .inr (3, [.ref la1m, .int la1zp_46, .int la1zw_47, .ref la1c, .ref la1f, .ref la1q])), (la1c, .inl (E.2.1 1, 24, .inl la1zfc_50)), (la1f, .inl (E.2.1 1, 24, .inl la1zff_51)), (la1q, .inl (E.2.1 1, 4, .inl la1zfq_52)), (la1m, .inr (4, [.int (nI la1zn_48), .int (nI la1zr_49), .ref la1x, .ref la1y])), (la1x, .inl (E.2.1 1, 24, .inl la1zgx_53)), (la1y, .inl (E.2.1 1, 96, .inl la1zgy_54)), (h, .inr (4, [.int (nI n), .int (nI r), .ref a, .ref b])), (a, .inl (E.2.1 1, 24, .inl f)), (b, .inl (E.2.1 1, 96, .inl gg))]) (k' := 0) (n' := 0) C (run_SN (As := [.int r_35, .int (nI r)]) (rest := []) C (c_hasN X.2.1 E ro r_35 r (by omega)) ms_X11_has (List.mem_of_getElem? (i := 20) rfl) rfl rfl rfl rfl dX6_goesOn_56) (roK hro) [] [0, 1, 2, 3, 4, 5, 6, 7, 8, 9, 10, 11, 12, 13, 14, 15, 16, 17, 18, 19, 20, 21] rfl (gqk (by eq_refl)) (plk (by decide +kernel)) rfl (fun r_61 uz hw => ?_)
    rcases hw with hw | hw
    · refine an2 hw ?_
      clear hw
      intro he_63 he_64 hw
      have h_62 := hw
      clear hw
      have he_63 := he_63.symm
      subst he_63
      subst he_64
      refine ww_eq (ws' := [(pl, .inr (6, [.ref ps, .ref aim, .null, .int (nI len), .int (nI row)])), (ps, .inl (E.2.1 5, 3, .inr (.inr (.inr (.inr fps))))), (qj, .inr (2, [.ref jt, .ref je, .ref ju, .ref ja])), (ju, .inl (E.2.1 1, 32, .inl ft2_36)), (ja, .inl (E.2.1 5, 2, .inr (.inr (.inr (.inr fa))))), (la0, .inr (3, [.ref la0m, .int la0zp_37, .int la0zw_38, .ref la0c, .ref la0f, .ref la0q])), (la0c, .inl (E.2.1 1, 24, .inl la0zfc_41)), (la0f, .inl (E.2.1 1, 24, .inl la0zff_42)), (la0q, .inl (E.2.1 1, 4, .inl la0zfq_43)), (la0m, .inr (4, [.int (nI la0zn_39), .int (nI la0zr_40), .ref la0x, .ref la0y])), (la0x, .inl (E.2.1 1, 24, .inl la0zgx_44)), (la0y, .inl (E.2.1 1, 96, .inl la0zgy_45)), (la1, .inr (3, [.ref la1m, .int la1zp_46, .int la1zw_47, .ref la1c, .ref la1f, .ref la1q])), (la1c, .inl (E.2.1 1, 24, .inl la1zfc_50)), (la1f, .inl (E.2.1 1, 24, .inl la1zff_51)), (la1q, .inl (E.2.1 1, 4, .inl la1zfq_52)), (la1m, .inr (4, [.int (nI la1zn_48), .int (nI la1zr_49), .ref la1x, .ref la1y])), (la1x, .inl (E.2.1 1, 24, .inl la1zgx_53)), (la1y, .inl (E.2.1 1, 96, .inl la1zgy_54)), (h, .inr (4, [.int (nI n), .int (nI r), .ref a, .ref b])), (a, .inl (E.2.1 1, 24, .inl f)), (b, .inl (E.2.1 1, 96, .inl gg))]) ?_ rfl rfl rfl
      exact ww_zret (u := [(pl, .inr (6, [.ref ps, .ref aim, .null, .int (nI len), .int (nI row)])), (ps, .inl (E.2.1 5, 3, .inr (.inr (.inr (.inr fps))))), (qj, .inr (2, [.ref jt, .ref je, .ref ju, .ref ja])), (ju, .inl (E.2.1 1, 32, .inl ft2_36)), (ja, .inl (E.2.1 5, 2, .inr (.inr (.inr (.inr fa))))), (la0, .inr (3, [.ref la0m, .int la0zp_37, .int la0zw_38, .ref la0c, .ref la0f, .ref la0q])), (la0c, .inl (E.2.1 1, 24, .inl la0zfc_41)), (la0f, .inl (E.2.1 1, 24, .inl la0zff_42)), (la0q, .inl (E.2.1 1, 4, .inl la0zfq_43)), (la0m, .inr (4, [.int (nI la0zn_39), .int (nI la0zr_40), .ref la0x, .ref la0y])), (la0x, .inl (E.2.1 1, 24, .inl la0zgx_44)), (la0y, .inl (E.2.1 1, 96, .inl la0zgy_45)), (la1, .inr (3, [.ref la1m, .int la1zp_46, .int la1zw_47, .ref la1c, .ref la1f, .ref la1q])), (la1c, .inl (E.2.1 1, 24, .inl la1zfc_50)), (la1f, .inl (E.2.1 1, 24, .inl la1zff_51)), (la1q, .inl (E.2.1 1, 4, .inl la1zfq_52)), (la1m, .inr (4, [.int (nI la1zn_48), .int (nI la1zr_49), .ref la1x, .ref la1y])), (la1x, .inl (E.2.1 1, 24, .inl la1zgx_53)), (la1y, .inl (E.2.1 1, 96, .inl la1zgy_54)), (h, .inr (4, [.int (nI n), .int (nI r), .ref a, .ref b])), (a, .inl (E.2.1 1, 24, .inl f)), (b, .inl (E.2.1 1, 96, .inl gg))]) C hT [0, 1, 2, 3, 4, 5, 6, 7, 8, 9, 10, 11, 12, 13, 14, 15, 16, 17, 18, 19, 20, 21] (gqk (by eq_refl)) (ndk (by decide +kernel)) rfl rfl rfl dX6_goesOn_59 (Or.inl ⟨row, ft2_36, la0zp_37, la0zw_38, la0zn_39, la0zr_40, la0zfc_41, la0zff_42, la0zfq_43, la0zgx_44, la0zgy_45, la1zp_46, la1zw_47, la1zn_48, la1zr_49, la1zfc_50, la1zff_51, la1zfq_52, la1zgx_53, la1zgy_54, rfl, rfl, (by first | assumption | omega | decide), (by first | assumption | omega | decide), (by first | assumption | omega | decide), (by first | assumption | omega | decide), (pl_01 (show hidO (am n r f gg) (ev6 vc vr vi vs vn vp) none = true from rfl) (show vWho (am n r f gg) (ev6 vc vr vi vs vn vp) SA r = true from (BS.t (i := r) h_59 (by omega) h_62)) (by omega))⟩)
    · refine an2 hw ?_
      clear hw
      intro he_66 he_67 hw
      have h_65 := hw
      clear hw
      have he_66 := he_66.symm
      subst he_66
      subst he_67
      refine ww_eq (ws' := [(pl, .inr (6, [.ref ps, .ref aim, .null, .int (nI len), .int (nI row)])), (ps, .inl (E.2.1 5, 3, .inr (.inr (.inr (.inr fps))))), (qj, .inr (2, [.ref jt, .ref je, .ref ju, .ref ja])), (ju, .inl (E.2.1 1, 32, .inl ft2_36)), (ja, .inl (E.2.1 5, 2, .inr (.inr (.inr (.inr fa))))), (la0, .inr (3, [.ref la0m, .int la0zp_37, .int la0zw_38, .ref la0c, .ref la0f, .ref la0q])), (la0c, .inl (E.2.1 1, 24, .inl la0zfc_41)), (la0f, .inl (E.2.1 1, 24, .inl la0zff_42)), (la0q, .inl (E.2.1 1, 4, .inl la0zfq_43)), (la0m, .inr (4, [.int (nI la0zn_39), .int (nI la0zr_40), .ref la0x, .ref la0y])), (la0x, .inl (E.2.1 1, 24, .inl la0zgx_44)), (la0y, .inl (E.2.1 1, 96, .inl la0zgy_45)), (la1, .inr (3, [.ref la1m, .int la1zp_46, .int la1zw_47, .ref la1c, .ref la1f, .ref la1q])), (la1c, .inl (E.2.1 1, 24, .inl la1zfc_50)), (la1f, .inl (E.2.1 1, 24, .inl la1zff_51)), (la1q, .inl (E.2.1 1, 4, .inl la1zfq_52)), (la1m, .inr (4, [.int (nI la1zn_48), .int (nI la1zr_49), .ref la1x, .ref la1y])), (la1x, .inl (E.2.1 1, 24, .inl la1zgx_53)), (la1y, .inl (E.2.1 1, 96, .inl la1zgy_54)), (h, .inr (4, [.int (nI n), .int (nI r), .ref a, .ref b])), (a, .inl (E.2.1 1, 24, .inl f)), (b, .inl (E.2.1 1, 96, .inl gg))]) ?_ rfl rfl rfl
      exact ww_zret (u := [(pl, .inr (6, [.ref ps, .ref aim, .null, .int (nI len), .int (nI row)])), (ps, .inl (E.2.1 5, 3, .inr (.inr (.inr (.inr fps))))), (qj, .inr (2, [.ref jt, .ref je, .ref ju, .ref ja])), (ju, .inl (E.2.1 1, 32, .inl ft2_36)), (ja, .inl (E.2.1 5, 2, .inr (.inr (.inr (.inr fa))))), (la0, .inr (3, [.ref la0m, .int la0zp_37, .int la0zw_38, .ref la0c, .ref la0f, .ref la0q])), (la0c, .inl (E.2.1 1, 24, .inl la0zfc_41)), (la0f, .inl (E.2.1 1, 24, .inl la0zff_42)), (la0q, .inl (E.2.1 1, 4, .inl la0zfq_43)), (la0m, .inr (4, [.int (nI la0zn_39), .int (nI la0zr_40), .ref la0x, .ref la0y])), (la0x, .inl (E.2.1 1, 24, .inl la0zgx_44)), (la0y, .inl (E.2.1 1, 96, .inl la0zgy_45)), (la1, .inr (3, [.ref la1m, .int la1zp_46, .int la1zw_47, .ref la1c, .ref la1f, .ref la1q])), (la1c, .inl (E.2.1 1, 24, .inl la1zfc_50)), (la1f, .inl (E.2.1 1, 24, .inl la1zff_51)), (la1q, .inl (E.2.1 1, 4, .inl la1zfq_52)), (la1m, .inr (4, [.int (nI la1zn_48), .int (nI la1zr_49), .ref la1x, .ref la1y])), (la1x, .inl (E.2.1 1, 24, .inl la1zgx_53)), (la1y, .inl (E.2.1 1, 96, .inl la1zgy_54)), (h, .inr (4, [.int (nI n), .int (nI r), .ref a, .ref b])), (a, .inl (E.2.1 1, 24, .inl f)), (b, .inl (E.2.1 1, 96, .inl gg))]) C hT [0, 1, 2, 3, 4, 5, 6, 7, 8, 9, 10, 11, 12, 13, 14, 15, 16, 17, 18, 19, 20, 21] (gqk (by eq_refl)) (ndk (by decide +kernel)) rfl rfl rfl dX6_goesOn_59 (Or.inr ⟨row, ft2_36, la0zp_37, la0zw_38, la0zn_39, la0zr_40, la0zfc_41, la0zff_42, la0zfq_43, la0zgx_44, la0zgy_45, la1zp_46, la1zw_47, la1zn_48, la1zr_49, la1zfc_50, la1zff_51, la1zfq_52, la1zgx_53, la1zgy_54, rfl, rfl, (by first | assumption | omega | decide), (by first | assumption | omega | decide), (by first | assumption | omega | decide), (by first | assumption | omega | decide), (pl_00 (show vWho (am n r f gg) (ev6 vc vr vi vs vn vp) SA r = false from (BS.f (i := r) h_59 (by omega) h_65)) (by omega))⟩)
end
