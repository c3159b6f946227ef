theorem dX12_in_0 : decode cX12_in 0 = .ok (.lload_n 0, 1) := by decide +kernel
theorem dX12_in_1 : decode cX12_in 1 = .ok (.lload_n 2, 1) := by decide +kernel
theorem dX12_in_2 : decode cX12_in 2 = .ok (.lcmp, 1) := by decide +kernel
theorem dX12_in_3 : decode cX12_in 3 = .ok (.ifCond .lt 14, 3) := by decide +kernel
theorem dX12_in_17 : decode cX12_in 17 = .ok (.iconst 0, 1) := by decide +kernel
theorem dX12_in_18 : decode cX12_in 18 = .ok (.ireturn, 1) := by decide +kernel
theorem dX12_in_6 : decode cX12_in 6 = .ok (.lload_n 0, 1) := by decide +kernel
theorem dX12_in_7 : decode cX12_in 7 = .ok (.lload 4, 2) := by decide +kernel
theorem dX12_in_9 : decode cX12_in 9 = .ok (.lcmp, 1) := by decide +kernel
theorem dX12_in_10 : decode cX12_in 10 = .ok (.ifCond .gt 7, 3) := by decide +kernel
theorem dX12_in_13 : decode cX12_in 13 = .ok (.iconst 1, 1) := by decide +kernel
theorem dX12_in_14 : decode cX12_in 14 = .ok (.goto 4, 3) := by decide +kernel
set_option maxRecDepth 100000 in
set_option maxHeartbeats 4000000 in
theorem r_in (l : Launch) (E : EV) (v : Int64) (lo : Int64) (hi : Int64) (zv : Int) (zl : Int) (zh : Int) (hz_zv : v.toInt = zv) (hz_zl : lo.toInt = zl) (hz_zh : hi.toInt = zh) : CT l yX12_in (Cond.code yX12_in cX12_in 6 (some .boolean) :: TB) ({ frames := 0, cells := 0, slots := 0, locals := 0 }) E [.long v, .long lo, .long hi] [] (Qi E (fun (r : Int32) u => (r = 1 ∧ u = [] ∧ (zl ≤ zv) ∧ (zv ≤ zh)) ∨ (r = 0 ∧ u = [] ∧ (zv < zl ∨ zh < zv)))) 0 0 := by
  refine ct_of rfl rfl ?_
  intro X C hT hin
  show WW X 6 E 0 [(0, .long v), (2, .long lo), (4, .long hi)] [] [] 0 0
  refine ww_lload_n C dX12_in_0 0 rfl rfl ?_
  refine ww_lload_n C dX12_in_1 1 rfl rfl ?_
  refine ww_lcmp (v := lg_cmp v lo) C dX12_in_2 rfl ?_
  refine ww_if_lt (tgt := 17) C dX12_in_3 (by decide) (fun c_2 => ?_) (fun c_2 => ?_)
  · have zc_2 : v.toInt < lo.toInt := lc_lt_t rfl rfl c_2
    refine ww_iconst (v := 0) C dX12_in_17 rfl ?_
    exact ww_zret (u := []) C hT [] rfl rfl rfl rfl rfl dX12_in_18 (Or.inr ⟨rfl, rfl, (by first | assumption | omega | decide)⟩)
  · have zc_2 : v.toInt ≥ lo.toInt := lc_lt_f rfl rfl c_2
    refine ww_lload_n C dX12_in_6 0 rfl rfl ?_
    refine ww_lload C dX12_in_7 2 rfl ?_
    refine ww_lcmp (v := lg_cmp v hi) C dX12_in_9 rfl ?_
    refine ww_if_gt (tgt := 17) C dX12_in_10 (by decide) (fun c_4 => ?_) (fun c_4 => ?_)
    · have zc_4 : v.toInt > hi.toInt := lc_gt_t rfl rfl c_4
      refine ww_iconst (v := 0) C dX12_in_17 rfl ?_
      exact ww_zret (u := []) C hT [] rfl rfl rfl rfl rfl dX12_in_18 (Or.inr ⟨rfl, rfl, (by first | assumption | omega | decide)⟩)
    · have zc_4 : v.toInt ≤ hi.toInt := lc_gt_f rfl rfl c_4
      refine ww_iconst (v := 1) C dX12_in_13 rfl ?_
      refine ww_goto (tgt := 18) C dX12_in_14 (by decide) ?_
      exact ww_zret (u := []) C hT [] rfl rfl rfl rfl rfl dX12_in_18 (Or.inl ⟨rfl, rfl, (by first | assumption | omega | decide), (by first | assumption | omega | decide)⟩)
theorem dX12_copy_0 : decode cX12_copy 0 = .ok (.aload_n 0, 1) := by decide +kernel
theorem dX12_copy_1 : decode cX12_copy 1 = .ok (.getfield 7, 3) := by decide +kernel
theorem fg_X12_7 : FG RX12 7 12 0 := ⟨RX12, TX12, 45, uw_X12, wf_X12_7, rfl, by decide, rfl⟩
theorem dX12_copy_4 : decode cX12_copy 4 = .ok (.iload_n 2, 1) := by decide +kernel
theorem dX12_copy_5 : decode cX12_copy 5 = .ok (.aload_n 0, 1) := by decide +kernel
theorem dX12_copy_6 : decode cX12_copy 6 = .ok (.getfield 7, 3) := by decide +kernel
theorem dX12_copy_9 : decode cX12_copy 9 = .ok (.iload_n 1, 1) := by decide +kernel
theorem dX12_copy_10 : decode cX12_copy 10 = .ok (.iaload, 1) := by decide +kernel
theorem dX12_copy_11 : decode cX12_copy 11 = .ok (.iastore, 1) := by decide +kernel
theorem dX12_copy_12 : decode cX12_copy 12 = .ok (.aload_n 0, 1) := by decide +kernel
theorem dX12_copy_13 : decode cX12_copy 13 = .ok (.getfield 13, 3) := by decide +kernel
theorem fg_X12_13 : FG RX12 13 12 1 := ⟨RX12, TX12, 45, uw_X12, wf_X12_13, rfl, by decide, rfl⟩
theorem dX12_copy_16 : decode cX12_copy 16 = .ok (.iload_n 2, 1) := by decide +kernel
theorem dX12_copy_17 : decode cX12_copy 17 = .ok (.aload_n 0, 1) := by decide +kernel
theorem dX12_copy_18 : decode cX12_copy 18 = .ok (.getfield 13, 3) := by decide +kernel
theorem dX12_copy_21 : decode cX12_copy 21 = .ok (.iload_n 1, 1) := by decide +kernel
theorem dX12_copy_22 : decode cX12_copy 22 = .ok (.iaload, 1) := by decide +kernel
theorem dX12_copy_23 : decode cX12_copy 23 = .ok (.iastore, 1) := by decide +kernel
theorem dX12_copy_24 : decode cX12_copy 24 = .ok (.iconst 0, 1) := by decide +kernel
theorem dX12_copy_25 : decode cX12_copy 25 = .ok (.istore_n 3, 1) := by decide +kernel
theorem dX12_copy_26 : decode cX12_copy 26 = .ok (.iload_n 3, 1) := by decide +kernel
theorem dX12_copy_27 : decode cX12_copy 27 = .ok (.bipush 24, 2) := by decide +kernel
theorem dX12_copy_29 : decode cX12_copy 29 = .ok (.if_icmp .ge 31, 3) := by decide +kernel
theorem dX12_copy_60 : decode cX12_copy 60 = .ok (.iconst 0, 1) := by decide +kernel
theorem dX12_copy_61 : decode cX12_copy 61 = .ok (.istore_n 3, 1) := by decide +kernel
theorem dX12_copy_62 : decode cX12_copy 62 = .ok (.iload_n 3, 1) := by decide +kernel
theorem dX12_copy_63 : decode cX12_copy 63 = .ok (.bipush 96, 2) := by decide +kernel
theorem dX12_copy_65 : decode cX12_copy 65 = .ok (.if_icmp .ge 31, 3) := by decide +kernel
theorem dX12_copy_96 : decode cX12_copy 96 = .ok (.return_, 1) := by decide +kernel
theorem dX12_copy_68 : decode cX12_copy 68 = .ok (.aload_n 0, 1) := by decide +kernel
theorem dX12_copy_69 : decode cX12_copy 69 = .ok (.getfield 19, 3) := by decide +kernel
theorem fg_X12_19 : FG RX12 19 12 3 := ⟨RX12, TX12, 45, uw_X12, wf_X12_19, rfl, by decide, rfl⟩
theorem dX12_copy_72 : decode cX12_copy 72 = .ok (.bipush 96, 2) := by decide +kernel
theorem dX12_copy_74 : decode cX12_copy 74 = .ok (.iload_n 2, 1) := by decide +kernel
theorem dX12_copy_75 : decode cX12_copy 75 = .ok (.imul, 1) := by decide +kernel
theorem dX12_copy_76 : decode cX12_copy 76 = .ok (.iload_n 3, 1) := by decide +kernel
theorem dX12_copy_77 : decode cX12_copy 77 = .ok (.iadd, 1) := by decide +kernel
theorem dX12_copy_78 : decode cX12_copy 78 = .ok (.aload_n 0, 1) := by decide +kernel
theorem dX12_copy_79 : decode cX12_copy 79 = .ok (.getfield 19, 3) := by decide +kernel
theorem dX12_copy_82 : decode cX12_copy 82 = .ok (.bipush 96, 2) := by decide +kernel
theorem dX12_copy_84 : decode cX12_copy 84 = .ok (.iload_n 1, 1) := by decide +kernel
theorem dX12_copy_85 : decode cX12_copy 85 = .ok (.imul, 1) := by decide +kernel
theorem dX12_copy_86 : decode cX12_copy 86 = .ok (.iload_n 3, 1) := by decide +kernel
theorem dX12_copy_87 : decode cX12_copy 87 = .ok (.iadd, 1) := by decide +kernel
theorem dX12_copy_88 : decode cX12_copy 88 = .ok (.iaload, 1) := by decide +kernel
theorem dX12_copy_89 : decode cX12_copy 89 = .ok (.iastore, 1) := by decide +kernel
theorem dX12_copy_90 : decode cX12_copy 90 = .ok (.iinc 3 1, 3) := by decide +kernel
theorem dX12_copy_93 : decode cX12_copy 93 = .ok (.goto (-31), 3) := by decide +kernel
theorem dX12_copy_32 : decode cX12_copy 32 = .ok (.aload_n 0, 1) := by decide +kernel
theorem dX12_copy_33 : decode cX12_copy 33 = .ok (.getfield 16, 3) := by decide +kernel
theorem fg_X12_16 : FG RX12 16 12 2 := ⟨RX12, TX12, 45, uw_X12, wf_X12_16, rfl, by decide, rfl⟩
theorem dX12_copy_36 : decode cX12_copy 36 = .ok (.bipush 24, 2) := by decide +kernel
theorem dX12_copy_38 : decode cX12_copy 38 = .ok (.iload_n 2, 1) := by decide +kernel
theorem dX12_copy_39 : decode cX12_copy 39 = .ok (.imul, 1) := by decide +kernel
theorem dX12_copy_40 : decode cX12_copy 40 = .ok (.iload_n 3, 1) := by decide +kernel
theorem dX12_copy_41 : decode cX12_copy 41 = .ok (.iadd, 1) := by decide +kernel
theorem dX12_copy_42 : decode cX12_copy 42 = .ok (.aload_n 0, 1) := by decide +kernel
theorem dX12_copy_43 : decode cX12_copy 43 = .ok (.getfield 16, 3) := by decide +kernel
theorem dX12_copy_46 : decode cX12_copy 46 = .ok (.bipush 24, 2) := by decide +kernel
theorem dX12_copy_48 : decode cX12_copy 48 = .ok (.iload_n 1, 1) := by decide +kernel
theorem dX12_copy_49 : decode cX12_copy 49 = .ok (.imul, 1) := by decide +kernel
theorem dX12_copy_50 : decode cX12_copy 50 = .ok (.iload_n 3, 1) := by decide +kernel
theorem dX12_copy_51 : decode cX12_copy 51 = .ok (.iadd, 1) := by decide +kernel
theorem dX12_copy_52 : decode cX12_copy 52 = .ok (.iaload, 1) := by decide +kernel
theorem dX12_copy_53 : decode cX12_copy 53 = .ok (.iastore, 1) := by decide +kernel
theorem dX12_copy_54 : decode cX12_copy 54 = .ok (.iinc 3 1, 3) := by decide +kernel
theorem dX12_copy_57 : decode cX12_copy 57 = .ok (.goto (-31), 3) := by decide +kernel
set_option maxRecDepth 100000 in
set_option maxHeartbeats 4000000 in
theorem r_copy (l : Launch) (E : EV) (hm : Nat) (m_manys : Nat) (m_reals : Nat) (m_factsOf : Nat) (m_possible : Nat) (m_tape : Nat) (m_ends : Nat) (m_letters : Nat) (m_actOf : Nat) (m_whom : Nat) (m_actMany : Nat) (m_tokens : Nat) (m_afters : Nat) (m_afterOf : Nat) (m_pile : Nat) (m_caseMany : Nat) (m_happen : Nat) (m_hasIf : Nat) (m_becomes : Nat) (m_goneOf : Nat) (m_heard : Nat) (m_pairs : Nat) (m_heaps : Nat) (m_led : Nat) (m_newAt : Nat) (m_knowing : Nat) (m_firsts : Nat) (m_secrets : Nat) (m_tried : Nat) (m_lanes : Nat) (m_lengths : Nat) (m_cells : Nat)  : CT l yX12_copy (Cond.code yX12_copy cX12_copy 4 none :: TB) ({ frames := 0, cells := 0, slots := 0, locals := 0 }) E [.ref hm, .int 0, .int 10] [(hm, .inr (12, [.ref m_manys, .ref m_reals, .ref m_factsOf, .ref m_possible, .int 0, .int 0, .ref m_tape, .int 0, .int 0, .int 0, .int 0, .int 0, .int 0, .int 0, .int 0, .ref m_ends, .ref m_letters, .ref m_actOf, .ref m_whom, .ref m_actMany, .ref m_tokens, .ref m_afters, .ref m_afterOf, .int 0, .ref m_pile, .ref m_caseMany, .ref m_happen, .ref m_hasIf, .ref m_becomes, .ref m_goneOf, .ref m_heard, .ref m_pairs, .ref m_heaps, .int 0, .int 0, .ref m_led, .ref m_newAt, .ref m_knowing, .ref m_firsts, .int 0, .ref m_secrets, .ref m_tried, .ref m_lanes, .ref m_lengths, .ref m_cells])), (m_manys, .inl (E.2.1 1, 18, .inl (fun _ => 0))), (m_reals, .inl (E.2.1 1, 18, .inl (fun _ => 0))), (m_factsOf, .inl (E.2.1 1, 432, .inl (fun _ => 0))), (m_possible, .inl (E.2.1 1, 1728, .inl (fun _ => 0)))] (Qv E (fun u => (∃ (a1 : Nat → Int32) (b1 : Nat → Int32) (b2 : Nat → Int32) (b3 : Nat → Int32), u = [(hm, .inr (12, [.ref m_manys, .ref m_reals, .ref m_factsOf, .ref m_possible, .int 0, .int 0, .ref m_tape, .int 0, .int 0, .int 0, .int 0, .int 0, .int 0, .int 0, .int 0, .ref m_ends, .ref m_letters, .ref m_actOf, .ref m_whom, .ref m_actMany, .ref m_tokens, .ref m_afters, .ref m_afterOf, .int 0, .ref m_pile, .ref m_caseMany, .ref m_happen, .ref m_hasIf, .ref m_becomes, .ref m_goneOf, .ref m_heard, .ref m_pairs, .ref m_heaps, .int 0, .int 0, .ref m_led, .ref m_newAt, .ref m_knowing, .ref m_firsts, .int 0, .ref m_secrets, .ref m_tried, .ref m_lanes, .ref m_lengths, .ref m_cells])), (m_manys, .inl (E.2.1 1, 18, .inl a1)), (m_reals, .inl (E.2.1 1, 18, .inl b1)), (m_factsOf, .inl (E.2.1 1, 432, .inl b2)), (m_possible, .inl (E.2.1 1, 1728, .inl b3))] ∧ (a1 0 = 0)))) 0 0 := by
  refine ct_of rfl rfl ?_
  intro X C hT hin
  show WW X 4 E 0 [(0, .ref hm), (1, .int 0), (2, .int 10)] [] [(hm, .inr (12, [.ref m_manys, .ref m_reals, .ref m_factsOf, .ref m_possible, .int 0, .int 0, .ref m_tape, .int 0, .int 0, .int 0, .int 0, .int 0, .int 0, .int 0, .int 0, .ref m_ends, .ref m_letters, .ref m_actOf, .ref m_whom, .ref m_actMany, .ref m_tokens, .ref m_afters, .ref m_afterOf, .int 0, .ref m_pile, .ref m_caseMany, .ref m_happen, .ref m_hasIf, .ref m_becomes, .ref m_goneOf, .ref m_heard, .ref m_pairs, .ref m_heaps, .int 0, .int 0, .ref m_led, .ref m_newAt, .ref m_knowing, .ref m_firsts, .int 0, .ref m_secrets, .ref m_tried, .ref m_lanes, .ref m_lengths, .ref m_cells])), (m_manys, .inl (E.2.1 1, 18, .inl (fun _ => 0))), (m_reals, .inl (E.2.1 1, 18, .inl (fun _ => 0))), (m_factsOf, .inl (E.2.1 1, 432, .inl (fun _ => 0))), (m_possible, .inl (E.2.1 1, 1728, .inl (fun _ => 0)))] 0 0
  refine ww_aload_n C dX12_copy_0 0 rfl rfl ?_
  refine ww_get C fg_X12_7 0 rfl rfl dX12_copy_1 ?_
  refine ww_iload_n C dX12_copy_4 2 rfl rfl ?_
  refine ww_aload_n C dX12_copy_5 0 rfl rfl ?_
  refine ww_get C fg_X12_7 0 rfl rfl dX12_copy_6 ?_
  refine ww_iload_n C dX12_copy_9 1 rfl rfl ?_
  refine ww_iald (v := 0) C 1 rfl (vin rfl) rfl dX12_copy_10 ?_
  obtain ⟨f_1, ef_1⟩ : ∃ z : Nat → Int32, upd (fun _ => 0) 10 0 = z := ⟨_, rfl⟩
  refine ww_iast (ws' := [(hm, .inr (12, [.ref m_manys, .ref m_reals, .ref m_factsOf, .ref m_possible, .int 0, .int 0, .ref m_tape, .int 0, .int 0, .int 0, .int 0, .int 0, .int 0, .int 0, .int 0, .ref m_ends, .ref m_letters, .ref m_actOf, .ref m_whom, .ref m_actMany, .ref m_tokens, .ref m_afters, .ref m_afterOf, .int 0, .ref m_pile, .ref m_caseMany, .ref m_happen, .ref m_hasIf, .ref m_becomes, .ref m_goneOf, .ref m_heard, .ref m_pairs, .ref m_heaps, .int 0, .int 0, .ref m_led, .ref m_newAt, .ref m_knowing, .ref m_firsts, .int 0, .ref m_secrets, .ref m_tried, .ref m_lanes, .ref m_lengths, .ref m_cells])), (m_manys, .inl (E.2.1 1, 18, .inl f_1)), (m_reals, .inl (E.2.1 1, 18, .inl (fun _ => 0))), (m_factsOf, .inl (E.2.1 1, 432, .inl (fun _ => 0))), (m_possible, .inl (E.2.1 1, 1728, .inl (fun _ => 0)))]) C 1 rfl (vin rfl) ef_1 rfl dX12_copy_11 ?_
  refine ww_aload_n C dX12_copy_12 0 rfl rfl ?_
  refine ww_get C fg_X12_13 0 rfl rfl dX12_copy_13 ?_
  refine ww_iload_n C dX12_copy_16 2 rfl rfl ?_
  refine ww_aload_n C dX12_copy_17 0 rfl rfl ?_
  refine ww_get C fg_X12_13 0 rfl rfl dX12_copy_18 ?_
  refine ww_iload_n C dX12_copy_21 1 rfl rfl ?_
  refine ww_iald (v := 0) C 2 rfl (vin rfl) rfl dX12_copy_22 ?_
  obtain ⟨f_2, ef_2⟩ : ∃ z : Nat → Int32, upd (fun _ => 0) 10 0 = z := ⟨_, rfl⟩
  refine ww_iast (ws' := [(hm, .inr (12, [.ref m_manys, .ref m_reals, .ref m_factsOf, .ref m_possible, .int 0, .int 0, .ref m_tape, .int 0, .int 0, .int 0, .int 0, .int 0, .int 0, .int 0, .int 0, .ref m_ends, .ref m_letters, .ref m_actOf, .ref m_whom, .ref m_actMany, .ref m_tokens, .ref m_afters, .ref m_afterOf, .int 0, .ref m_pile, .ref m_caseMany, .ref m_happen, .ref m_hasIf, .ref m_becomes, .ref m_goneOf, .ref m_heard, .ref m_pairs, .ref m_heaps, .int 0, .int 0, .ref m_led, .ref m_newAt, .ref m_knowing, .ref m_firsts, .int 0, .ref m_secrets, .ref m_tried, .ref m_lanes, .ref m_lengths, .ref m_cells])), (m_manys, .inl (E.2.1 1, 18, .inl f_1)), (m_reals, .inl (E.2.1 1, 18, .inl f_2)), (m_factsOf, .inl (E.2.1 1, 432, .inl (fun _ => 0))), (m_possible, .inl (E.2.1 1, 1728, .inl (fun _ => 0)))]) C 2 rfl (vin rfl) ef_2 rfl dX12_copy_23 ?_
  refine ww_iconst (v := 0) C dX12_copy_24 rfl ?_
  refine ww_istore_n (lv' := [(3, .int 0), (0, .ref hm), (1, .int 0), (2, .int 10)]) C dX12_copy_25 rfl rfl rfl ?_
  have loop_26 : ∀ (nn : Nat) (ii26 : Nat) (ff26 : Nat → Int32), (ii26 ≤ 24) → 24 - ii26 < nn → WW X 4 E 26 [(0, .ref hm), (1, .int 0), (2, .int 10), (3, .int (nI ii26))] [] [(hm, .inr (12, [.ref m_manys, .ref m_reals, .ref m_factsOf, .ref m_possible, .int 0, .int 0, .ref m_tape, .int 0, .int 0, .int 0, .int 0, .int 0, .int 0, .int 0, .int 0, .ref m_ends, .ref m_letters, .ref m_actOf, .ref m_whom, .ref m_actMany, .ref m_tokens, .ref m_afters, .ref m_afterOf, .int 0, .ref m_pile, .ref m_caseMany, .ref m_happen, .ref m_hasIf, .ref m_becomes, .ref m_goneOf, .ref m_heard, .ref m_pairs, .ref m_heaps, .int 0, .int 0, .ref m_led, .ref m_newAt, .ref m_knowing, .ref m_firsts, .int 0, .ref m_secrets, .ref m_tried, .ref m_lanes, .ref m_lengths, .ref m_cells])), (m_manys, .inl (E.2.1 1, 18, .inl f_1)), (m_reals, .inl (E.2.1 1, 18, .inl f_2)), (m_factsOf, .inl (E.2.1 1, 432, .inl ff26)), (m_possible, .inl (E.2.1 1, 1728, .inl (fun _ => 0)))] 0 0 := by
    intro nn
    induction nn with
    | zero => intro ii26 ff26 hi26 hmeas; exact absurd hmeas (Nat.not_lt_zero _)
    | succ nn ih_26 =>
      intro ii26 ff26 hi26 hmeas
      refine ww_iload_n C dX12_copy_26 3 rfl rfl ?_
      refine ww_bipush (v := 24) C dX12_copy_27 rfl ?_
      refine ww_icmp_ge (tgt := 60) C dX12_copy_29 (by decide) (fun c_3 => ?_) (fun c_3 => ?_)
      · have zc_3 : ((ii26 : Nat) : Int) ≥ 24 := i_le rfl (nI_toInt (by omega)) c_3
        refine ww_iconst (v := 0) C dX12_copy_60 rfl ?_
        refine ww_istore_n (lv' := [(3, .int 0), (0, .ref hm), (1, .int 0), (2, .int 10)]) C dX12_copy_61 rfl rfl rfl ?_
        have loop_62 : ∀ (nn : Nat) (ii62 : Nat) (ff62 : Nat → Int32), (ii62 ≤ 96) → 96 - ii62 < nn → WW X 4 E 62 [(0, .ref hm), (1, .int 0), (2, .int 10), (3, .int (nI ii62))] [] [(hm, .inr (12, [.ref m_manys, .ref m_reals, .ref m_factsOf, .ref m_possible, .int 0, .int 0, .ref m_tape, .int 0, .int 0, .int 0, .int 0, .int 0, .int 0, .int 0, .int 0, .ref m_ends, .ref m_letters, .ref m_actOf, .ref m_whom, .ref m_actMany, .ref m_tokens, .ref m_afters, .ref m_afterOf, .int 0, .ref m_pile, .ref m_caseMany, .ref m_happen, .ref m_hasIf, .ref m_becomes, .ref m_goneOf, .ref m_heard, .ref m_pairs, .ref m_heaps, .int 0, .int 0, .ref m_led, .ref m_newAt, .ref m_knowing, .ref m_firsts, .int 0, .ref m_secrets, .ref m_tried, .ref m_lanes, .ref m_lengths, .ref m_cells])), (m_manys, .inl (E.2.1 1, 18, .inl f_1)), (m_reals, .inl (E.2.1 1, 18, .inl f_2)), (m_factsOf, .inl (E.2.1 1, 432, .inl ff26)), (m_possible, .inl (E.2.1 1, 1728, .inl ff62))] 0 0 := by
          intro nn
          induction nn with
          | zero => intro ii62 ff62 hi62 hmeas; exact absurd hmeas (Nat.not_lt_zero _)
          | succ nn ih_62 =>
            intro ii62 ff62 hi62 hmeas
            refine ww_iload_n C dX12_copy_62 3 rfl rfl ?_
            refine ww_bipush (v := 96) C dX12_copy_63 rfl ?_
            refine ww_icmp_ge (tgt := 96) C dX12_copy_65 (by decide) (fun c_4 => ?_) (fun c_4 => ?_)
            · have zc_4 : ((ii62 : Nat) : Int) ≥ 96 := i_le rfl (nI_toInt (by omega)) c_4
              exact ww_vret (u := [(hm, .inr (12, [.ref m_manys, .ref m_reals, .ref m_factsOf, .ref m_possible, .int 0, .int 0, .ref m_tape, .int 0, .int 0, .int 0, .int 0, .int 0, .int 0, .int 0, .int 0, .ref m_ends, .ref m_letters, .ref m_actOf, .ref m_whom, .ref m_actMany, .ref m_tokens, .ref m_afters, .ref m_afterOf, .int 0, .ref m_pile, .ref m_caseMany, .ref m_happen, .ref m_hasIf, .ref m_becomes, .ref m_goneOf, .ref m_heard, .ref m_pairs, .ref m_heaps, .int 0, .int 0, .ref m_led, .ref m_newAt, .ref m_knowing, .ref m_firsts, .int 0, .ref m_secrets, .ref m_tried, .ref m_lanes, .ref m_lengths, .ref m_cells])), (m_manys, .inl (E.2.1 1, 18, .inl f_1)), (m_reals, .inl (E.2.1 1, 18, .inl f_2)), (m_factsOf, .inl (E.2.1 1, 432, .inl ff26)), (m_possible, .inl (E.2.1 1, 1728, .inl ff62))]) C hT [0, 1, 2, 3, 4] rfl rfl rfl rfl dX12_copy_96 (⟨f_1, f_2, ff26, ff62, rfl, ((congrFun ef_1 0).symm.trans ((pk_un (by decide)).trans rfl))⟩)
            · have zc_4 : ((ii62 : Nat) : Int) < 96 := i_nle rfl (nI_toInt (by omega)) c_4
              refine ww_aload_n C dX12_copy_68 0 rfl rfl ?_
              refine ww_get C fg_X12_19 0 rfl rfl dX12_copy_69 ?_
              refine ww_bipush (v := 96) C dX12_copy_72 rfl ?_
              refine ww_iload_n C dX12_copy_74 2 rfl rfl ?_
              refine ww_imul (v := 960) C dX12_copy_75 (by decide) ?_
              refine ww_iload_n C dX12_copy_76 3 rfl rfl ?_
              refine ww_iadd (v := (nI (960 + ii62))) C dX12_copy_77 (nI_add 960 ii62) ?_
              refine ww_aload_n C dX12_copy_78 0 rfl rfl ?_
              refine ww_get C fg_X12_19 0 rfl rfl dX12_copy_79 ?_
              refine ww_bipush (v := 96) C dX12_copy_82 rfl ?_
              refine ww_iload_n C dX12_copy_84 1 rfl rfl ?_
              refine ww_imul (v := 0) C dX12_copy_85 (by decide) ?_
              refine ww_iload_n C dX12_copy_86 3 rfl rfl ?_
              refine ww_iadd (v := (nI (0 + ii62))) C dX12_copy_87 (nI_add 0 ii62) ?_
              obtain ⟨x_5, ex_5⟩ : ∃ z : Int32, ff62 (nI (0 + ii62)).toNatClampNeg = z := ⟨_, rfl⟩
              refine ww_iald (v := x_5) C 4 rfl (vp_in_nI (by omega) (by omega)) ex_5 dX12_copy_88 ?_
              obtain ⟨f_6, ef_6⟩ : ∃ z : Nat → Int32, upd ff62 (nI (960 + ii62)).toNatClampNeg x_5 = z := ⟨_, rfl⟩
              refine ww_iast (ws' := [(hm, .inr (12, [.ref m_manys, .ref m_reals, .ref m_factsOf, .ref m_possible, .int 0, .int 0, .ref m_tape, .int 0, .int 0, .int 0, .int 0, .int 0, .int 0, .int 0, .int 0, .ref m_ends, .ref m_letters, .ref m_actOf, .ref m_whom, .ref m_actMany, .ref m_tokens, .ref m_afters, .ref m_afterOf, .int 0, .ref m_pile, .ref m_caseMany, .ref m_happen, .ref m_hasIf, .ref m_becomes, .ref m_goneOf, .ref m_heard, .ref m_pairs, .ref m_heaps, .int 0, .int 0, .ref m_led, .ref m_newAt, .ref m_knowing, .ref m_firsts, .int 0, .ref m_secrets, .ref m_tried, .ref m_lanes, .ref m_lengths, .ref m_cells])), (m_manys, .inl (E.2.1 1, 18, .inl f_1)), (m_reals, .inl (E.2.1 1, 18, .inl f_2)), (m_factsOf, .inl (E.2.1 1, 432, .inl ff26)), (m_possible, .inl (E.2.1 1, 1728, .inl f_6))]) C 4 rfl (vp_in_nI (by omega) (by omega)) ef_6 rfl dX12_copy_89 ?_
              refine ww_iinc (j := 3) (v := (nI (ii62 + 1))) (lv' := [(3, .int (nI (ii62 + 1))), (0, .ref hm), (1, .int 0), (2, .int 10)]) C dX12_copy_90 rfl (nI_add ii62 1) rfl rfl ?_
              refine ww_goto (tgt := 62) C dX12_copy_93 (by decide) ?_
              exact ww_lv [1, 2, 3, 0] rfl (ww_sub [0, 1, 2, 3, 4] rfl rfl (ih_62 (ii62 + 1) f_6 (by omega) (by omega)))
        exact ww_lv [1, 2, 3, 0] rfl (ww_sub [0, 1, 2, 3, 4] rfl rfl (loop_62 _ 0 (fun _ => 0) (by omega) (Nat.lt_succ_self _)))
      · have zc_3 : ((ii26 : Nat) : Int) < 24 := i_nle rfl (nI_toInt (by omega)) c_3
        refine ww_aload_n C dX12_copy_32 0 rfl rfl ?_
        refine ww_get C fg_X12_16 0 rfl rfl dX12_copy_33 ?_
        refine ww_bipush (v := 24) C dX12_copy_36 rfl ?_
        refine ww_iload_n C dX12_copy_38 2 rfl rfl ?_
        refine ww_imul (v := 240) C dX12_copy_39 (by decide) ?_
        refine ww_iload_n C dX12_copy_40 3 rfl rfl ?_
        refine ww_iadd (v := (nI (240 + ii26))) C dX12_copy_41 (nI_add 240 ii26) ?_
        refine ww_aload_n C dX12_copy_42 0 rfl rfl ?_
        refine ww_get C fg_X12_16 0 rfl rfl dX12_copy_43 ?_
        refine ww_bipush (v := 24) C dX12_copy_46 rfl ?_
        refine ww_iload_n C dX12_copy_48 1 rfl rfl ?_
        refine ww_imul (v := 0) C dX12_copy_49 (by decide) ?_
        refine ww_iload_n C dX12_copy_50 3 rfl rfl ?_
        refine ww_iadd (v := (nI (0 + ii26))) C dX12_copy_51 (nI_add 0 ii26) ?_
        obtain ⟨x_7, ex_7⟩ : ∃ z : Int32, ff26 (nI (0 + ii26)).toNatClampNeg = z := ⟨_, rfl⟩
        refine ww_iald (v := x_7) C 3 rfl (vp_in_nI (by omega) (by omega)) ex_7 dX12_copy_52 ?_
        obtain ⟨f_8, ef_8⟩ : ∃ z : Nat → Int32, upd ff26 (nI (240 + ii26)).toNatClampNeg x_7 = z := ⟨_, rfl⟩
        refine ww_iast (ws' := [(hm, .inr (12, [.ref m_manys, .ref m_reals, .ref m_factsOf, .ref m_possible, .int 0, .int 0, .ref m_tape, .int 0, .int 0, .int 0, .int 0, .int 0, .int 0, .int 0, .int 0, .ref m_ends, .ref m_letters, .ref m_actOf, .ref m_whom, .ref m_actMany, .ref m_tokens, .ref m_afters, .ref m_afterOf, .int 0, .ref m_pile, .ref m_caseMany, .ref m_happen, .ref m_hasIf, .ref m_becomes, .ref m_goneOf, .ref m_heard, .ref m_pairs, .ref m_heaps, .int 0, .int 0, .ref m_led, .ref m_newAt, .ref m_knowing, .ref m_firsts, .int 0, .ref m_secrets, .ref m_tried, .ref m_lanes, .ref m_lengths, .ref m_cells])), (m_manys, .inl (E.2.1 1, 18, .inl f_1)), (m_reals, .inl (E.2.1 1, 18, .inl f_2)), (m_factsOf, .inl (E.2.1 1, 432, .inl f_8)), (m_possible, .inl (E.2.1 1, 1728, .inl (fun _ => 0)))]) C 3 rfl (vp_in_nI (by omega) (by omega)) ef_8 rfl dX12_copy_53 ?_
        refine ww_iinc (j := 3) (v := (nI (ii26 + 1))) (lv' := [(3, .int (nI (ii26 + 1))), (0, .ref hm), (1, .int 0), (2, .int 10)]) C dX12_copy_54 rfl (nI_add ii26 1) rfl rfl ?_
        refine ww_goto (tgt := 26) C dX12_copy_57 (by decide) ?_
        exact ww_lv [1, 2, 3, 0] rfl (ww_sub [0, 1, 2, 3, 4] rfl rfl (ih_26 (ii26 + 1) f_8 (by omega) (by omega)))
  exact ww_lv [1, 2, 3, 0] rfl (ww_sub [0, 1, 2, 3, 4] rfl rfl (loop_26 _ 0 (fun _ => 0) (by omega) (Nat.lt_succ_self _)))
theorem dX12_acts_0 : decode cX12_acts 0 = .ok (.aload_n 0, 1) := by decide +kernel
theorem dX12_acts_1 : decode cX12_acts 1 = .ok (.getfield 105, 3) := by decide +kernel
theorem wf_X12_105 : Cond.fieldLink RX12 105 RX12 "undos" "I" ∈ TB := tbm (tq5 (List.mem_of_getElem? (i := 82) (by decide +kernel))) (by decide +kernel)
theorem fg_X12_105 : FG RX12 105 12 4 := ⟨RX12, TX12, 45, uw_X12, wf_X12_105, rfl, by decide, rfl⟩
theorem dX12_acts_4 : decode cX12_acts 4 = .ok (.bipush 8, 2) := by decide +kernel
theorem dX12_acts_6 : decode cX12_acts 6 = .ok (.if_icmp .ne 41, 3) := by decide +kernel
theorem dX12_acts_47 : decode cX12_acts 47 = .ok (.aload_n 0, 1) := by decide +kernel
theorem dX12_acts_48 : decode cX12_acts 48 = .ok (.iconst 0, 1) := by decide +kernel
theorem dX12_acts_49 : decode cX12_acts 49 = .ok (.bipush 10, 2) := by decide +kernel
theorem dX12_acts_51 : decode cX12_acts 51 = .ok (.aload_n 0, 1) := by decide +kernel
theorem dX12_acts_52 : decode cX12_acts 52 = .ok (.getfield 105, 3) := by decide +kernel
theorem dX12_acts_55 : decode cX12_acts 55 = .ok (.iadd, 1) := by decide +kernel
theorem dX12_acts_56 : decode cX12_acts 56 = .ok (.invokevirtual 109, 3) := by decide +kernel
theorem wl_X12_109 : Cond.methodLink RX12 109 yX12_copy ∈ TB := tbm (tq5 (List.mem_of_getElem? (i := 227) (by decide +kernel))) (by decide +kernel)
theorem wc_X12_copy : Cond.code yX12_copy cX12_copy 4 none ∈ TB := tbm (tq5 (List.mem_of_getElem? (i := 230) (rfl))) (by decide +kernel)
theorem wn_X12 : Cond.initialized RX12 ∈ TB := tbm (tq1 (List.mem_of_getElem? (i := 12) (by decide +kernel))) (by decide +kernel)
theorem wi_X12_copy : Cond.instanceMethod yX12_copy ∈ TB := tbm (tq5 (List.mem_of_getElem? (i := 229) (by decide +kernel))) (by decide +kernel)
theorem ws_X12_copy : Cond.selects RX12 yX12_copy yX12_copy ∈ TB := tbm (tq0 (List.mem_of_getElem? (i := 37) (by decide +kernel))) (by decide +kernel)
theorem mi_X12_copy : MI yX12_copy cX12_copy 4 none 2 := ⟨wc_X12_copy, wn_X12, ⟨by decide +kernel, by decide +kernel, by decide +kernel⟩, wi_X12_copy, ws_X12_copy⟩
theorem dX12_acts_59 : decode cX12_acts 59 = .ok (.aload_n 0, 1) := by decide +kernel
theorem dX12_acts_60 : decode cX12_acts 60 = .ok (.dup, 1) := by decide +kernel
theorem dX12_acts_61 : decode cX12_acts 61 = .ok (.getfield 105, 3) := by decide +kernel
theorem dX12_acts_64 : decode cX12_acts 64 = .ok (.iconst 1, 1) := by decide +kernel
theorem dX12_acts_65 : decode cX12_acts 65 = .ok (.iadd, 1) := by decide +kernel
theorem dX12_acts_66 : decode cX12_acts 66 = .ok (.putfield 105, 3) := by decide +kernel
theorem fp_X12_105 : FP RX12 105 12 4 .int false := ⟨RX12, TX12, 45, tyX12, uw_X12, wf_X12_105, rfl, by decide, rfl, tyX12_ok, nmX12, rfl, by decide +kernel⟩
theorem dX12_acts_69 : decode cX12_acts 69 = .ok (.return_, 1) := by decide +kernel
set_option maxRecDepth 100000 in
set_option maxHeartbeats 4000000 in
theorem r_acts (l : Launch) (E : EV) (hm : Nat) (m_manys : Nat) (m_reals : Nat) (m_factsOf : Nat) (m_possible : Nat) (m_tape : Nat) (m_ends : Nat) (m_letters : Nat) (m_actOf : Nat) (m_whom : Nat) (m_actMany : Nat) (m_tokens : Nat) (m_afters : Nat) (m_afterOf : Nat) (m_pile : Nat) (m_caseMany : Nat) (m_happen : Nat) (m_hasIf : Nat) (m_becomes : Nat) (m_goneOf : Nat) (m_heard : Nat) (m_pairs : Nat) (m_heaps : Nat) (m_led : Nat) (m_newAt : Nat) (m_knowing : Nat) (m_firsts : Nat) (m_secrets : Nat) (m_tried : Nat) (m_lanes : Nat) (m_lengths : Nat) (m_cells : Nat)  : CT l yX12_acts (Cond.code yX12_acts cX12_acts 2 none :: TB) ({ frames := 1, cells := 0, slots := 0, locals := 23 }) E [.ref hm] [(hm, .inr (12, [.ref m_manys, .ref m_reals, .ref m_factsOf, .ref m_possible, .int 0, .int 0, .ref m_tape, .int 0, .int 0, .int 0, .int 0, .int 0, .int 0, .int 0, .int 0, .ref m_ends, .ref m_letters, .ref m_actOf, .ref m_whom, .ref m_actMany, .ref m_tokens, .ref m_afters, .ref m_afterOf, .int 0, .ref m_pile, .ref m_caseMany, .ref m_happen, .ref m_hasIf, .ref m_becomes, .ref m_goneOf, .ref m_heard, .ref m_pairs, .ref m_heaps, .int 0, .int 0, .ref m_led, .ref m_newAt, .ref m_knowing, .ref m_firsts, .int 0, .ref m_secrets, .ref m_tried, .ref m_lanes, .ref m_lengths, .ref m_cells])), (m_manys, .inl (E.2.1 1, 18, .inl (fun _ => 0))), (m_reals, .inl (E.2.1 1, 18, .inl (fun _ => 0))), (m_factsOf, .inl (E.2.1 1, 432, .inl (fun _ => 0))), (m_possible, .inl (E.2.1 1, 1728, .inl (fun _ => 0)))] (Qv E (fun u => (∃ (a1 : Nat → Int32) (b1 : Nat → Int32) (b2 : Nat → Int32) (b3 : Nat → Int32), u = [(hm, .inr (12, [.ref m_manys, .ref m_reals, .ref m_factsOf, .ref m_possible, .int 1, .int 0, .ref m_tape, .int 0, .int 0, .int 0, .int 0, .int 0, .int 0, .int 0, .int 0, .ref m_ends, .ref m_letters, .ref m_actOf, .ref m_whom, .ref m_actMany, .ref m_tokens, .ref m_afters, .ref m_afterOf, .int 0, .ref m_pile, .ref m_caseMany, .ref m_happen, .ref m_hasIf, .ref m_becomes, .ref m_goneOf, .ref m_heard, .ref m_pairs, .ref m_heaps, .int 0, .int 0, .ref m_led, .ref m_newAt, .ref m_knowing, .ref m_firsts, .int 0, .ref m_secrets, .ref m_tried, .ref m_lanes, .ref m_lengths, .ref m_cells])), (m_manys, .inl (E.2.1 1, 18, .inl a1)), (m_reals, .inl (E.2.1 1, 18, .inl b1)), (m_factsOf, .inl (E.2.1 1, 432, .inl b2)), (m_possible, .inl (E.2.1 1, 1728, .inl b3))] ∧ (a1 0 = 0)))) 0 0 := by
  refine ct_of rfl rfl ?_
  intro X C hT hin
  show WW X 2 E 0 [(0, .ref hm)] [] [(hm, .inr (12, [.ref m_manys, .ref m_reals, .ref m_factsOf, .ref m_possible, .int 0, .int 0, .ref m_tape, .int 0, .int 0, .int 0, .int 0, .int 0, .int 0, .int 0, .int 0, .ref m_ends, .ref m_letters, .ref m_actOf, .ref m_whom, .ref m_actMany, .ref m_tokens, .ref m_afters, .ref m_afterOf, .int 0, .ref m_pile, .ref m_caseMany, .ref m_happen, .ref m_hasIf, .ref m_becomes, .ref m_goneOf, .ref m_heard, .ref m_pairs, .ref m_heaps, .int 0, .int 0, .ref m_led, .ref m_newAt, .ref m_knowing, .ref m_firsts, .int 0, .ref m_secrets, .ref m_tried, .ref m_lanes, .ref m_lengths, .ref m_cells])), (m_manys, .inl (E.2.1 1, 18, .inl (fun _ => 0))), (m_reals, .inl (E.2.1 1, 18, .inl (fun _ => 0))), (m_factsOf, .inl (E.2.1 1, 432, .inl (fun _ => 0))), (m_possible, .inl (E.2.1 1, 1728, .inl (fun _ => 0)))] 0 0
  refine ww_aload_n C dX12_acts_0 0 rfl rfl ?_
  refine ww_get C fg_X12_105 0 rfl rfl dX12_acts_1 ?_
  refine ww_bipush (v := 8) C dX12_acts_4 rfl ?_
  refine ww_icmp_ne_t (tgt := 47) C dX12_acts_6 (by decide) (by decide) ?_
  refine ww_aload_n C dX12_acts_47 0 rfl rfl ?_
  refine ww_iconst (v := 0) C dX12_acts_48 rfl ?_
  refine ww_bipush (v := 10) C dX12_acts_49 rfl ?_
  refine ww_aload_n C dX12_acts_51 0 rfl rfl ?_
  refine ww_get C fg_X12_105 0 rfl rfl dX12_acts_52 ?_
  refine ww_iadd (v := 10) C dX12_acts_55 (by decide) ?_
  refine ww_cv (wr := []) (k' := 0) (n' := 0) C (run_V (As := [.int 0, .int 10]) (rest := []) C (r_copy X.2.1 E hm m_manys m_reals m_factsOf m_possible m_tape m_ends m_letters m_actOf m_whom m_actMany m_tokens m_afters m_afterOf m_pile m_caseMany m_happen m_hasIf m_becomes m_goneOf m_heard m_pairs m_heaps m_led m_newAt m_knowing m_firsts m_secrets m_tried m_lanes m_lengths m_cells) mi_X12_copy wl_X12_109 rfl 0 12 rfl rfl rfl rfl rfl dX12_acts_56) [0, 1, 2, 3, 4] [] rfl rfl rfl rfl (fun u hw => ?_)
  obtain ⟨a1_1, b1_2, b2_3, b3_4, rfl, h_5⟩ := hw
  refine ww_eq (ws' := [(hm, .inr (12, [.ref m_manys, .ref m_reals, .ref m_factsOf, .ref m_possible, .int 0, .int 0, .ref m_tape, .int 0, .int 0, .int 0, .int 0, .int 0, .int 0, .int 0, .int 0, .ref m_ends, .ref m_letters, .ref m_actOf, .ref m_whom, .ref m_actMany, .ref m_tokens, .ref m_afters, .ref m_afterOf, .int 0, .ref m_pile, .ref m_caseMany, .ref m_happen, .ref m_hasIf, .ref m_becomes, .ref m_goneOf, .ref m_heard, .ref m_pairs, .ref m_heaps, .int 0, .int 0, .ref m_led, .ref m_newAt, .ref m_knowing, .ref m_firsts, .int 0, .ref m_secrets, .ref m_tried, .ref m_lanes, .ref m_lengths, .ref m_cells])), (m_manys, .inl (E.2.1 1, 18, .inl a1_1)), (m_reals, .inl (E.2.1 1, 18, .inl b1_2)), (m_factsOf, .inl (E.2.1 1, 432, .inl b2_3)), (m_possible, .inl (E.2.1 1, 1728, .inl b3_4))]) ?_ rfl rfl rfl
  refine ww_aload_n C dX12_acts_59 0 rfl rfl ?_
  refine ww_dup C dX12_acts_60 rfl ?_
  refine ww_get C fg_X12_105 0 rfl rfl dX12_acts_61 ?_
  refine ww_iconst (v := 1) C dX12_acts_64 rfl ?_
  refine ww_iadd (v := 1) C dX12_acts_65 (by decide) ?_
  refine ww_put (ws' := [(hm, .inr (12, [.ref m_manys, .ref m_reals, .ref m_factsOf, .ref m_possible, .int 1, .int 0, .ref m_tape, .int 0, .int 0, .int 0, .int 0, .int 0, .int 0, .int 0, .int 0, .ref m_ends, .ref m_letters, .ref m_actOf, .ref m_whom, .ref m_actMany, .ref m_tokens, .ref m_afters, .ref m_afterOf, .int 0, .ref m_pile, .ref m_caseMany, .ref m_happen, .ref m_hasIf, .ref m_becomes, .ref m_goneOf, .ref m_heard, .ref m_pairs, .ref m_heaps, .int 0, .int 0, .ref m_led, .ref m_newAt, .ref m_knowing, .ref m_firsts, .int 0, .ref m_secrets, .ref m_tried, .ref m_lanes, .ref m_lengths, .ref m_cells])), (m_manys, .inl (E.2.1 1, 18, .inl a1_1)), (m_reals, .inl (E.2.1 1, 18, .inl b1_2)), (m_factsOf, .inl (E.2.1 1, 432, .inl b2_3)), (m_possible, .inl (E.2.1 1, 1728, .inl b3_4))]) C fp_X12_105 0 rfl rfl rfl rfl rfl dX12_acts_66 ?_
  exact ww_vret (u := [(hm, .inr (12, [.ref m_manys, .ref m_reals, .ref m_factsOf, .ref m_possible, .int 1, .int 0, .ref m_tape, .int 0, .int 0, .int 0, .int 0, .int 0, .int 0, .int 0, .int 0, .ref m_ends, .ref m_letters, .ref m_actOf, .ref m_whom, .ref m_actMany, .ref m_tokens, .ref m_afters, .ref m_afterOf, .int 0, .ref m_pile, .ref m_caseMany, .ref m_happen, .ref m_hasIf, .ref m_becomes, .ref m_goneOf, .ref m_heard, .ref m_pairs, .ref m_heaps, .int 0, .int 0, .ref m_led, .ref m_newAt, .ref m_knowing, .ref m_firsts, .int 0, .ref m_secrets, .ref m_tried, .ref m_lanes, .ref m_lengths, .ref m_cells])), (m_manys, .inl (E.2.1 1, 18, .inl a1_1)), (m_reals, .inl (E.2.1 1, 18, .inl b1_2)), (m_factsOf, .inl (E.2.1 1, 432, .inl b2_3)), (m_possible, .inl (E.2.1 1, 1728, .inl b3_4))]) C hT [0, 1, 2, 3, 4] rfl rfl rfl rfl dX12_acts_69 (⟨a1_1, b1_2, b2_3, b3_4, rfl, h_5⟩)
theorem dX12_addWorld_0 : decode cX12_addWorld 0 = .ok (.aload_n 0, 1) := by decide +kernel
theorem dX12_addWorld_1 : decode cX12_addWorld 1 = .ok (.getfield 7, 3) := by decide +kernel
theorem dX12_addWorld_4 : decode cX12_addWorld 4 = .ok (.iconst 0, 1) := by decide +kernel
theorem dX12_addWorld_5 : decode cX12_addWorld 5 = .ok (.iaload, 1) := by decide +kernel
theorem dX12_addWorld_6 : decode cX12_addWorld 6 = .ok (.istore_n 2, 1) := by decide +kernel
theorem dX12_addWorld_7 : decode cX12_addWorld 7 = .ok (.aload_n 0, 1) := by decide +kernel
theorem dX12_addWorld_8 : decode cX12_addWorld 8 = .ok (.getfield 16, 3) := by decide +kernel
theorem dX12_addWorld_11 : decode cX12_addWorld 11 = .ok (.iload_n 2, 1) := by decide +kernel
theorem dX12_addWorld_12 : decode cX12_addWorld 12 = .ok (.iload_n 1, 1) := by decide +kernel
theorem dX12_addWorld_13 : decode cX12_addWorld 13 = .ok (.iastore, 1) := by decide +kernel
theorem dX12_addWorld_14 : decode cX12_addWorld 14 = .ok (.iconst 0, 1) := by decide +kernel
theorem dX12_addWorld_15 : decode cX12_addWorld 15 = .ok (.istore_n 3, 1) := by decide +kernel
theorem dX12_addWorld_16 : decode cX12_addWorld 16 = .ok (.iload_n 3, 1) := by decide +kernel
theorem dX12_addWorld_17 : decode cX12_addWorld 17 = .ok (.iconst 4, 1) := by decide +kernel
theorem dX12_addWorld_18 : decode cX12_addWorld 18 = .ok (.if_icmp .ge 21, 3) := by decide +kernel
theorem dX12_addWorld_21 : decode cX12_addWorld 21 = .ok (.aload_n 0, 1) := by decide +kernel
theorem dX12_addWorld_22 : decode cX12_addWorld 22 = .ok (.getfield 19, 3) := by decide +kernel
theorem dX12_addWorld_25 : decode cX12_addWorld 25 = .ok (.bipush 24, 2) := by decide +kernel
theorem dX12_addWorld_27 : decode cX12_addWorld 27 = .ok (.iload_n 3, 1) := by decide +kernel
theorem dX12_addWorld_28 : decode cX12_addWorld 28 = .ok (.imul, 1) := by decide +kernel
theorem dX12_addWorld_29 : decode cX12_addWorld 29 = .ok (.iload_n 2, 1) := by decide +kernel
theorem dX12_addWorld_30 : decode cX12_addWorld 30 = .ok (.iadd, 1) := by decide +kernel
theorem dX12_addWorld_31 : decode cX12_addWorld 31 = .ok (.iconst 0, 1) := by decide +kernel
theorem dX12_addWorld_32 : decode cX12_addWorld 32 = .ok (.iastore, 1) := by decide +kernel
theorem dX12_addWorld_33 : decode cX12_addWorld 33 = .ok (.iinc 3 1, 3) := by decide +kernel
theorem dX12_addWorld_36 : decode cX12_addWorld 36 = .ok (.goto (-20), 3) := by decide +kernel
theorem dX12_addWorld_39 : decode cX12_addWorld 39 = .ok (.aload_n 0, 1) := by decide +kernel
theorem dX12_addWorld_40 : decode cX12_addWorld 40 = .ok (.getfield 13, 3) := by decide +kernel
theorem dX12_addWorld_43 : decode cX12_addWorld 43 = .ok (.iconst 0, 1) := by decide +kernel
theorem dX12_addWorld_44 : decode cX12_addWorld 44 = .ok (.iload_n 2, 1) := by decide +kernel
theorem dX12_addWorld_45 : decode cX12_addWorld 45 = .ok (.ifCond .ne 7, 3) := by decide +kernel
theorem dX12_addWorld_48 : decode cX12_addWorld 48 = .ok (.iconst 0, 1) := by decide +kernel
theorem dX12_addWorld_49 : decode cX12_addWorld 49 = .ok (.goto 9, 3) := by decide +kernel
theorem dX12_addWorld_58 : decode cX12_addWorld 58 = .ok (.iastore, 1) := by decide +kernel
theorem dX12_addWorld_59 : decode cX12_addWorld 59 = .ok (.aload_n 0, 1) := by decide +kernel
theorem dX12_addWorld_60 : decode cX12_addWorld 60 = .ok (.getfield 7, 3) := by decide +kernel
theorem dX12_addWorld_63 : decode cX12_addWorld 63 = .ok (.iconst 0, 1) := by decide +kernel
theorem dX12_addWorld_64 : decode cX12_addWorld 64 = .ok (.dup2, 1) := by decide +kernel
theorem dX12_addWorld_65 : decode cX12_addWorld 65 = .ok (.iaload, 1) := by decide +kernel
theorem dX12_addWorld_66 : decode cX12_addWorld 66 = .ok (.iconst 1, 1) := by decide +kernel
theorem dX12_addWorld_67 : decode cX12_addWorld 67 = .ok (.iadd, 1) := by decide +kernel
theorem dX12_addWorld_68 : decode cX12_addWorld 68 = .ok (.iastore, 1) := by decide +kernel
theorem dX12_addWorld_69 : decode cX12_addWorld 69 = .ok (.return_, 1) := by decide +kernel
set_option maxRecDepth 100000 in
set_option maxHeartbeats 4000000 in
theorem r_addWorld (l : Launch) (E : EV) (hm : Nat) (p0 : Int32) (m_manys : Nat) (m_reals : Nat) (m_factsOf : Nat) (m_possible : Nat) (m_tape : Nat) (m_ends : Nat) (m_letters : Nat) (m_actOf : Nat) (m_whom : Nat) (m_actMany : Nat) (m_tokens : Nat) (m_afters : Nat) (m_afterOf : Nat) (m_pile : Nat) (m_caseMany : Nat) (m_happen : Nat) (m_hasIf : Nat) (m_becomes : Nat) (m_goneOf : Nat) (m_heard : Nat) (m_pairs : Nat) (m_heaps : Nat) (m_led : Nat) (m_newAt : Nat) (m_knowing : Nat) (m_firsts : Nat) (m_secrets : Nat) (m_tried : Nat) (m_lanes : Nat) (m_lengths : Nat) (m_cells : Nat) (a0 : Nat → Int32) (b1 : Nat → Int32) (b2 : Nat → Int32) (b3 : Nat → Int32) (k_a0_0 : a0 0 = 0) : CT l yX12_addWorld (Cond.code yX12_addWorld cX12_addWorld 4 none :: TB) ({ frames := 0, cells := 0, slots := 0, locals := 0 }) E [.ref hm, .int p0] [(hm, .inr (12, [.ref m_manys, .ref m_reals, .ref m_factsOf, .ref m_possible, .int 1, .int 0, .ref m_tape, .int 0, .int 0, .int 0, .int 0, .int 0, .int 0, .int 0, .int 0, .ref m_ends, .ref m_letters, .ref m_actOf, .ref m_whom, .ref m_actMany, .ref m_tokens, .ref m_afters, .ref m_afterOf, .int 0, .ref m_pile, .ref m_caseMany, .ref m_happen, .ref m_hasIf, .ref m_becomes, .ref m_goneOf, .ref m_heard, .ref m_pairs, .ref m_heaps, .int 0, .int 0, .ref m_led, .ref m_newAt, .ref m_knowing, .ref m_firsts, .int 0, .ref m_secrets, .ref m_tried, .ref m_lanes, .ref m_lengths, .ref m_cells])), (m_manys, .inl (E.2.1 1, 18, .inl a0)), (m_reals, .inl (E.2.1 1, 18, .inl b1)), (m_factsOf, .inl (E.2.1 1, 432, .inl b2)), (m_possible, .inl (E.2.1 1, 1728, .inl b3))] (Qv E (fun u => (∃ (a1 : Nat → Int32), u = [(hm, .inr (12, [.ref m_manys, .ref m_reals, .ref m_factsOf, .ref m_possible, .int 1, .int 0, .ref m_tape, .int 0, .int 0, .int 0, .int 0, .int 0, .int 0, .int 0, .int 0, .ref m_ends, .ref m_letters, .ref m_actOf, .ref m_whom, .ref m_actMany, .ref m_tokens, .ref m_afters, .ref m_afterOf, .int 0, .ref m_pile, .ref m_caseMany, .ref m_happen, .ref m_hasIf, .ref m_becomes, .ref m_goneOf, .ref m_heard, .ref m_pairs, .ref m_heaps, .int 0, .int 0, .ref m_led, .ref m_newAt, .ref m_knowing, .ref m_firsts, .int 0, .ref m_secrets, .ref m_tried, .ref m_lanes, .ref m_lengths, .ref m_cells])), (m_manys, .inl (E.2.1 1, 18, .inl a1))] ∧ (a1 0 = 1)))) 0 0 := by
  refine ct_of rfl rfl ?_
  intro X C hT hin
  show WW X 4 E 0 [(0, .ref hm), (1, .int p0)] [] [(hm, .inr (12, [.ref m_manys, .ref m_reals, .ref m_factsOf, .ref m_possible, .int 1, .int 0, .ref m_tape, .int 0, .int 0, .int 0, .int 0, .int 0, .int 0, .int 0, .int 0, .ref m_ends, .ref m_letters, .ref m_actOf, .ref m_whom, .ref m_actMany, .ref m_tokens, .ref m_afters, .ref m_afterOf, .int 0, .ref m_pile, .ref m_caseMany, .ref m_happen, .ref m_hasIf, .ref m_becomes, .ref m_goneOf, .ref m_heard, .ref m_pairs, .ref m_heaps, .int 0, .int 0, .ref m_led, .ref m_newAt, .ref m_knowing, .ref m_firsts, .int 0, .ref m_secrets, .ref m_tried, .ref m_lanes, .ref m_lengths, .ref m_cells])), (m_manys, .inl (E.2.1 1, 18, .inl a0)), (m_reals, .inl (E.2.1 1, 18, .inl b1)), (m_factsOf, .inl (E.2.1 1, 432, .inl b2)), (m_possible, .inl (E.2.1 1, 1728, .inl b3))] 0 0
  refine ww_aload_n C dX12_addWorld_0 0 rfl rfl ?_
  refine ww_get C fg_X12_7 0 rfl rfl dX12_addWorld_1 ?_
  refine ww_iconst (v := 0) C dX12_addWorld_4 rfl ?_
  refine ww_iald (v := 0) C 1 rfl (vin rfl) k_a0_0 dX12_addWorld_5 ?_
  refine ww_istore_n (lv' := [(2, .int 0), (0, .ref hm), (1, .int p0)]) C dX12_addWorld_6 rfl rfl rfl ?_
  refine ww_aload_n C dX12_addWorld_7 1 rfl rfl ?_
  refine ww_get C fg_X12_16 0 rfl rfl dX12_addWorld_8 ?_
  refine ww_iload_n C dX12_addWorld_11 0 rfl rfl ?_
  refine ww_iload_n C dX12_addWorld_12 2 rfl rfl ?_
  obtain ⟨f_1, ef_1⟩ : ∃ z : Nat → Int32, upd b2 0 p0 = z := ⟨_, rfl⟩
  refine ww_iast (ws' := [(hm, .inr (12, [.ref m_manys, .ref m_reals, .ref m_factsOf, .ref m_possible, .int 1, .int 0, .ref m_tape, .int 0, .int 0, .int 0, .int 0, .int 0, .int 0, .int 0, .int 0, .ref m_ends, .ref m_letters, .ref m_actOf, .ref m_whom, .ref m_actMany, .ref m_tokens, .ref m_afters, .ref m_afterOf, .int 0, .ref m_pile, .ref m_caseMany, .ref m_happen, .ref m_hasIf, .ref m_becomes, .ref m_goneOf, .ref m_heard, .ref m_pairs, .ref m_heaps, .int 0, .int 0, .ref m_led, .ref m_newAt, .ref m_knowing, .ref m_firsts, .int 0, .ref m_secrets, .ref m_tried, .ref m_lanes, .ref m_lengths, .ref m_cells])), (m_manys, .inl (E.2.1 1, 18, .inl a0)), (m_reals, .inl (E.2.1 1, 18, .inl b1)), (m_factsOf, .inl (E.2.1 1, 432, .inl f_1)), (m_possible, .inl (E.2.1 1, 1728, .inl b3))]) C 3 rfl (vin rfl) ef_1 rfl dX12_addWorld_13 ?_
  refine ww_iconst (v := 0) C dX12_addWorld_14 rfl ?_
  refine ww_istore_n (lv' := [(3, .int 0), (2, .int 0), (0, .ref hm), (1, .int p0)]) C dX12_addWorld_15 rfl rfl rfl ?_
  refine ww_iload_n C dX12_addWorld_16 0 rfl rfl ?_
  refine ww_iconst (v := 4) C dX12_addWorld_17 rfl ?_
  refine ww_icmp_ge_f (tgt := 39) C dX12_addWorld_18 (by decide) (by decide) ?_
  refine ww_aload_n C dX12_addWorld_21 2 rfl rfl ?_
  refine ww_get C fg_X12_19 0 rfl rfl dX12_addWorld_22 ?_
  refine ww_bipush (v := 24) C dX12_addWorld_25 rfl ?_
  refine ww_iload_n C dX12_addWorld_27 0 rfl rfl ?_
  refine ww_imul (v := 0) C dX12_addWorld_28 (by decide) ?_
  refine ww_iload_n C dX12_addWorld_29 1 rfl rfl ?_
  refine ww_iadd (v := 0) C dX12_addWorld_30 (by decide) ?_
  refine ww_iconst (v := 0) C dX12_addWorld_31 rfl ?_
  obtain ⟨f_2, ef_2⟩ : ∃ z : Nat → Int32, upd b3 0 0 = z := ⟨_, rfl⟩
  refine ww_iast (ws' := [(hm, .inr (12, [.ref m_manys, .ref m_reals, .ref m_factsOf, .ref m_possible, .int 1, .int 0, .ref m_tape, .int 0, .int 0, .int 0, .int 0, .int 0, .int 0, .int 0, .int 0, .ref m_ends, .ref m_letters, .ref m_actOf, .ref m_whom, .ref m_actMany, .ref m_tokens, .ref m_afters, .ref m_afterOf, .int 0, .ref m_pile, .ref m_caseMany, .ref m_happen, .ref m_hasIf, .ref m_becomes, .ref m_goneOf, .ref m_heard, .ref m_pairs, .ref m_heaps, .int 0, .int 0, .ref m_led, .ref m_newAt, .ref m_knowing, .ref m_firsts, .int 0, .ref m_secrets, .ref m_tried, .ref m_lanes, .ref m_lengths, .ref m_cells])), (m_manys, .inl (E.2.1 1, 18, .inl a0)), (m_reals, .inl (E.2.1 1, 18, .inl b1)), (m_factsOf, .inl (E.2.1 1, 432, .inl f_1)), (m_possible, .inl (E.2.1 1, 1728, .inl f_2))]) C 4 rfl (vin rfl) ef_2 rfl dX12_addWorld_32 ?_
  refine ww_iinc (j := 0) (v := 1) (lv' := [(3, .int 1), (2, .int 0), (0, .ref hm), (1, .int p0)]) C dX12_addWorld_33 rfl rfl rfl rfl ?_
  refine ww_goto (tgt := 16) C dX12_addWorld_36 (by decide) ?_
  refine ww_iload_n C dX12_addWorld_16 0 rfl rfl ?_
  refine ww_iconst (v := 4) C dX12_addWorld_17 rfl ?_
  refine ww_icmp_ge_f (tgt := 39) C dX12_addWorld_18 (by decide) (by decide) ?_
  refine ww_aload_n C dX12_addWorld_21 2 rfl rfl ?_
  refine ww_get C fg_X12_19 0 rfl rfl dX12_addWorld_22 ?_
  refine ww_bipush (v := 24) C dX12_addWorld_25 rfl ?_
  refine ww_iload_n C dX12_addWorld_27 0 rfl rfl ?_
  refine ww_imul (v := 24) C dX12_addWorld_28 (by decide) ?_
  refine ww_iload_n C dX12_addWorld_29 1 rfl rfl ?_
  refine ww_iadd (v := 24) C dX12_addWorld_30 (by decide) ?_
  refine ww_iconst (v := 0) C dX12_addWorld_31 rfl ?_
  obtain ⟨f_3, ef_3⟩ : ∃ z : Nat → Int32, upd f_2 24 0 = z := ⟨_, rfl⟩
  refine ww_iast (ws' := [(hm, .inr (12, [.ref m_manys, .ref m_reals, .ref m_factsOf, .ref m_possible, .int 1, .int 0, .ref m_tape, .int 0, .int 0, .int 0, .int 0, .int 0, .int 0, .int 0, .int 0, .ref m_ends, .ref m_letters, .ref m_actOf, .ref m_whom, .ref m_actMany, .ref m_tokens, .ref m_afters, .ref m_afterOf, .int 0, .ref m_pile, .ref m_caseMany, .ref m_happen, .ref m_hasIf, .ref m_becomes, .ref m_goneOf, .ref m_heard, .ref m_pairs, .ref m_heaps, .int 0, .int 0, .ref m_led, .ref m_newAt, .ref m_knowing, .ref m_firsts, .int 0, .ref m_secrets, .ref m_tried, .ref m_lanes, .ref m_lengths, .ref m_cells])), (m_manys, .inl (E.2.1 1, 18, .inl a0)), (m_reals, .inl (E.2.1 1, 18, .inl b1)), (m_factsOf, .inl (E.2.1 1, 432, .inl f_1)), (m_possible, .inl (E.2.1 1, 1728, .inl f_3))]) C 4 rfl (vin rfl) ef_3 rfl dX12_addWorld_32 ?_
  refine ww_iinc (j := 0) (v := 2) (lv' := [(3, .int 2), (2, .int 0), (0, .ref hm), (1, .int p0)]) C dX12_addWorld_33 rfl rfl rfl rfl ?_
  refine ww_goto (tgt := 16) C dX12_addWorld_36 (by decide) ?_
  refine ww_iload_n C dX12_addWorld_16 0 rfl rfl ?_
  refine ww_iconst (v := 4) C dX12_addWorld_17 rfl ?_
  refine ww_icmp_ge_f (tgt := 39) C dX12_addWorld_18 (by decide) (by decide) ?_
  refine ww_aload_n C dX12_addWorld_21 2 rfl rfl ?_
  refine ww_get C fg_X12_19 0 rfl rfl dX12_addWorld_22 ?_
  refine ww_bipush (v := 24) C dX12_addWorld_25 rfl ?_
  refine ww_iload_n C dX12_addWorld_27 0 rfl rfl ?_
  refine ww_imul (v := 48) C dX12_addWorld_28 (by decide) ?_
  refine ww_iload_n C dX12_addWorld_29 1 rfl rfl ?_
  refine ww_iadd (v := 48) C dX12_addWorld_30 (by decide) ?_
  refine ww_iconst (v := 0) C dX12_addWorld_31 rfl ?_
  obtain ⟨f_4, ef_4⟩ : ∃ z : Nat → Int32, upd f_3 48 0 = z := ⟨_, rfl⟩
  refine ww_iast (ws' := [(hm, .inr (12, [.ref m_manys, .ref m_reals, .ref m_factsOf, .ref m_possible, .int 1, .int 0, .ref m_tape, .int 0, .int 0, .int 0, .int 0, .int 0, .int 0, .int 0, .int 0, .ref m_ends, .ref m_letters, .ref m_actOf, .ref m_whom, .ref m_actMany, .ref m_tokens, .ref m_afters, .ref m_afterOf, .int 0, .ref m_pile, .ref m_caseMany, .ref m_happen, .ref m_hasIf, .ref m_becomes, .ref m_goneOf, .ref m_heard, .ref m_pairs, .ref m_heaps, .int 0, .int 0, .ref m_led, .ref m_newAt, .ref m_knowing, .ref m_firsts, .int 0, .ref m_secrets, .ref m_tried, .ref m_lanes, .ref m_lengths, .ref m_cells])), (m_manys, .inl (E.2.1 1, 18, .inl a0)), (m_reals, .inl (E.2.1 1, 18, .inl b1)), (m_factsOf, .inl (E.2.1 1, 432, .inl f_1)), (m_possible, .inl (E.2.1 1, 1728, .inl f_4))]) C 4 rfl (vin rfl) ef_4 rfl dX12_addWorld_32 ?_
  refine ww_iinc (j := 0) (v := 3) (lv' := [(3, .int 3), (2, .int 0), (0, .ref hm), (1, .int p0)]) C dX12_addWorld_33 rfl rfl rfl rfl ?_
  refine ww_goto (tgt := 16) C dX12_addWorld_36 (by decide) ?_
  refine ww_iload_n C dX12_addWorld_16 0 rfl rfl ?_
  refine ww_iconst (v := 4) C dX12_addWorld_17 rfl ?_
  refine ww_icmp_ge_f (tgt := 39) C dX12_addWorld_18 (by decide) (by decide) ?_
  refine ww_aload_n C dX12_addWorld_21 2 rfl rfl ?_
  refine ww_get C fg_X12_19 0 rfl rfl dX12_addWorld_22 ?_
  refine ww_bipush (v := 24) C dX12_addWorld_25 rfl ?_
  refine ww_iload_n C dX12_addWorld_27 0 rfl rfl ?_
  refine ww_imul (v := 72) C dX12_addWorld_28 (by decide) ?_
  refine ww_iload_n C dX12_addWorld_29 1 rfl rfl ?_
  refine ww_iadd (v := 72) C dX12_addWorld_30 (by decide) ?_
  refine ww_iconst (v := 0) C dX12_addWorld_31 rfl ?_
  obtain ⟨f_5, ef_5⟩ : ∃ z : Nat → Int32, upd f_4 72 0 = z := ⟨_, rfl⟩
  refine ww_iast (ws' := [(hm, .inr (12, [.ref m_manys, .ref m_reals, .ref m_factsOf, .ref m_possible, .int 1, .int 0, .ref m_tape, .int 0, .int 0, .int 0, .int 0, .int 0, .int 0, .int 0, .int 0, .ref m_ends, .ref m_letters, .ref m_actOf, .ref m_whom, .ref m_actMany, .ref m_tokens, .ref m_afters, .ref m_afterOf, .int 0, .ref m_pile, .ref m_caseMany, .ref m_happen, .ref m_hasIf, .ref m_becomes, .ref m_goneOf, .ref m_heard, .ref m_pairs, .ref m_heaps, .int 0, .int 0, .ref m_led, .ref m_newAt, .ref m_knowing, .ref m_firsts, .int 0, .ref m_secrets, .ref m_tried, .ref m_lanes, .ref m_lengths, .ref m_cells])), (m_manys, .inl (E.2.1 1, 18, .inl a0)), (m_reals, .inl (E.2.1 1, 18, .inl b1)), (m_factsOf, .inl (E.2.1 1, 432, .inl f_1)), (m_possible, .inl (E.2.1 1, 1728, .inl f_5))]) C 4 rfl (vin rfl) ef_5 rfl dX12_addWorld_32 ?_
  refine ww_iinc (j := 0) (v := 4) (lv' := [(3, .int 4), (2, .int 0), (0, .ref hm), (1, .int p0)]) C dX12_addWorld_33 rfl rfl rfl rfl ?_
  refine ww_goto (tgt := 16) C dX12_addWorld_36 (by decide) ?_
  refine ww_iload_n C dX12_addWorld_16 0 rfl rfl ?_
  refine ww_iconst (v := 4) C dX12_addWorld_17 rfl ?_
  refine ww_icmp_ge_t (tgt := 39) C dX12_addWorld_18 (by decide) (by decide) ?_
  refine ww_aload_n C dX12_addWorld_39 2 rfl rfl ?_
  refine ww_get C fg_X12_13 0 rfl rfl dX12_addWorld_40 ?_
  refine ww_iconst (v := 0) C dX12_addWorld_43 rfl ?_
  refine ww_iload_n C dX12_addWorld_44 1 rfl rfl ?_
  refine ww_if_ne_f (tgt := 52) C dX12_addWorld_45 (by decide) (rfl) ?_
  refine ww_iconst (v := 0) C dX12_addWorld_48 rfl ?_
  refine ww_goto (tgt := 58) C dX12_addWorld_49 (by decide) ?_
  obtain ⟨f_6, ef_6⟩ : ∃ z : Nat → Int32, upd b1 0 0 = z := ⟨_, rfl⟩
  refine ww_iast (ws' := [(hm, .inr (12, [.ref m_manys, .ref m_reals, .ref m_factsOf, .ref m_possible, .int 1, .int 0, .ref m_tape, .int 0, .int 0, .int 0, .int 0, .int 0, .int 0, .int 0, .int 0, .ref m_ends, .ref m_letters, .ref m_actOf, .ref m_whom, .ref m_actMany, .ref m_tokens, .ref m_afters, .ref m_afterOf, .int 0, .ref m_pile, .ref m_caseMany, .ref m_happen, .ref m_hasIf, .ref m_becomes, .ref m_goneOf, .ref m_heard, .ref m_pairs, .ref m_heaps, .int 0, .int 0, .ref m_led, .ref m_newAt, .ref m_knowing, .ref m_firsts, .int 0, .ref m_secrets, .ref m_tried, .ref m_lanes, .ref m_lengths, .ref m_cells])), (m_manys, .inl (E.2.1 1, 18, .inl a0)), (m_reals, .inl (E.2.1 1, 18, .inl f_6)), (m_factsOf, .inl (E.2.1 1, 432, .inl f_1)), (m_possible, .inl (E.2.1 1, 1728, .inl f_5))]) C 2 rfl (vin rfl) ef_6 rfl dX12_addWorld_58 ?_
  refine ww_aload_n C dX12_addWorld_59 2 rfl rfl ?_
  refine ww_get C fg_X12_7 0 rfl rfl dX12_addWorld_60 ?_
  refine ww_iconst (v := 0) C dX12_addWorld_63 rfl ?_
  refine ww_dup2 C dX12_addWorld_64 rfl rfl ?_
  refine ww_iald (v := 0) C 1 rfl (vin rfl) k_a0_0 dX12_addWorld_65 ?_
  refine ww_iconst (v := 1) C dX12_addWorld_66 rfl ?_
  refine ww_iadd (v := 1) C dX12_addWorld_67 (by decide) ?_
  obtain ⟨f_7, ef_7⟩ : ∃ z : Nat → Int32, upd a0 0 1 = z := ⟨_, rfl⟩
  refine ww_iast (ws' := [(hm, .inr (12, [.ref m_manys, .ref m_reals, .ref m_factsOf, .ref m_possible, .int 1, .int 0, .ref m_tape, .int 0, .int 0, .int 0, .int 0, .int 0, .int 0, .int 0, .int 0, .ref m_ends, .ref m_letters, .ref m_actOf, .ref m_whom, .ref m_actMany, .ref m_tokens, .ref m_afters, .ref m_afterOf, .int 0, .ref m_pile, .ref m_caseMany, .ref m_happen, .ref m_hasIf, .ref m_becomes, .ref m_goneOf, .ref m_heard, .ref m_pairs, .ref m_heaps, .int 0, .int 0, .ref m_led, .ref m_newAt, .ref m_knowing, .ref m_firsts, .int 0, .ref m_secrets, .ref m_tried, .ref m_lanes, .ref m_lengths, .ref m_cells])), (m_manys, .inl (E.2.1 1, 18, .inl f_7)), (m_reals, .inl (E.2.1 1, 18, .inl f_6)), (m_factsOf, .inl (E.2.1 1, 432, .inl f_1)), (m_possible, .inl (E.2.1 1, 1728, .inl f_5))]) C 1 rfl (vin rfl) ef_7 rfl dX12_addWorld_68 ?_
  exact ww_vret (u := [(hm, .inr (12, [.ref m_manys, .ref m_reals, .ref m_factsOf, .ref m_possible, .int 1, .int 0, .ref m_tape, .int 0, .int 0, .int 0, .int 0, .int 0, .int 0, .int 0, .int 0, .ref m_ends, .ref m_letters, .ref m_actOf, .ref m_whom, .ref m_actMany, .ref m_tokens, .ref m_afters, .ref m_afterOf, .int 0, .ref m_pile, .ref m_caseMany, .ref m_happen, .ref m_hasIf, .ref m_becomes, .ref m_goneOf, .ref m_heard, .ref m_pairs, .ref m_heaps, .int 0, .int 0, .ref m_led, .ref m_newAt, .ref m_knowing, .ref m_firsts, .int 0, .ref m_secrets, .ref m_tried, .ref m_lanes, .ref m_lengths, .ref m_cells])), (m_manys, .inl (E.2.1 1, 18, .inl f_7))]) C hT [0, 1] rfl rfl rfl rfl dX12_addWorld_69 (⟨f_7, rfl, ((congrFun ef_7 0).symm.trans pk_us)⟩)
theorem dX12_world_0 : decode cX12_world 0 = .ok (.iload_n 1, 1) := by decide +kernel
theorem dX12_world_1 : decode cX12_world 1 = .ok (.i2l, 1) := by decide +kernel
theorem dX12_world_2 : decode cX12_world 2 = .ok (.lconst 0, 1) := by decide +kernel
theorem dX12_world_3 : decode cX12_world 3 = .ok (.ldc2_w 119, 3) := by decide +kernel
theorem wv_X12_119 : Cond.constantLong RX12 119 15 ∈ TB := tbm (tq5 (List.mem_of_getElem? (i := 219) (by decide +kernel))) (by decide +kernel)
theorem dX12_world_6 : decode cX12_world 6 = .ok (.invokestatic 115, 3) := by decide +kernel
theorem wl_X12_115 : Cond.methodLink RX12 115 yX12_in ∈ TB := tbm (tq5 (List.mem_of_getElem? (i := 220) (by decide +kernel))) (by decide +kernel)
theorem wc_X12_in : Cond.code yX12_in cX12_in 6 (some .boolean) ∈ TB := tbm (tq5 (List.mem_of_getElem? (i := 222) (rfl))) (by decide +kernel)
theorem wt_X12_in : Cond.static yX12_in ∈ TB := tbm (tq5 (List.mem_of_getElem? (i := 221) (by decide +kernel))) (by decide +kernel)
theorem ms_X12_in : MS yX12_in cX12_in 6 (some .boolean) 3 := ⟨wc_X12_in, wn_X12, ⟨by decide +kernel, by decide +kernel, by decide +kernel⟩, wt_X12_in⟩
theorem dX12_world_9 : decode cX12_world 9 = .ok (.ifCond .ne 5, 3) := by decide +kernel
theorem dX12_world_14 : decode cX12_world 14 = .ok (.aload_n 0, 1) := by decide +kernel
theorem dX12_world_15 : decode cX12_world 15 = .ok (.getfield 7, 3) := by decide +kernel
theorem dX12_world_18 : decode cX12_world 18 = .ok (.iconst 0, 1) := by decide +kernel
theorem dX12_world_19 : decode cX12_world 19 = .ok (.iaload, 1) := by decide +kernel
theorem dX12_world_20 : decode cX12_world 20 = .ok (.bipush 24, 2) := by decide +kernel
theorem dX12_world_22 : decode cX12_world 22 = .ok (.if_icmp .ne 6, 3) := by decide +kernel
theorem dX12_world_28 : decode cX12_world 28 = .ok (.aload_n 0, 1) := by decide +kernel
theorem dX12_world_29 : decode cX12_world 29 = .ok (.invokevirtual 121, 3) := by decide +kernel
theorem wl_X12_121 : Cond.methodLink RX12 121 yX12_acts ∈ TB := tbm (tq5 (List.mem_of_getElem? (i := 223) (by decide +kernel))) (by decide +kernel)
theorem wc_X12_acts : Cond.code yX12_acts cX12_acts 2 none ∈ TB := tbm (tq5 (List.mem_of_getElem? (i := 226) (rfl))) (by decide +kernel)
theorem wi_X12_acts : Cond.instanceMethod yX12_acts ∈ TB := tbm (tq5 (List.mem_of_getElem? (i := 225) (by decide +kernel))) (by decide +kernel)
theorem ws_X12_acts : Cond.selects RX12 yX12_acts yX12_acts ∈ TB := tbm (tq0 (List.mem_of_getElem? (i := 36) (by decide +kernel))) (by decide +kernel)
theorem mi_X12_acts : MI yX12_acts cX12_acts 2 none 0 := ⟨wc_X12_acts, wn_X12, ⟨by decide +kernel, by decide +kernel, by decide +kernel⟩, wi_X12_acts, ws_X12_acts⟩
theorem dX12_world_32 : decode cX12_world 32 = .ok (.aload_n 0, 1) := by decide +kernel
theorem dX12_world_33 : decode cX12_world 33 = .ok (.iload_n 1, 1) := by decide +kernel
theorem dX12_world_34 : decode cX12_world 34 = .ok (.invokevirtual 124, 3) := by decide +kernel
theorem wl_X12_124 : Cond.methodLink RX12 124 yX12_addWorld ∈ TB := tbm (tq5 (List.mem_of_getElem? (i := 231) (by decide +kernel))) (by decide +kernel)
theorem wc_X12_addWorld : Cond.code yX12_addWorld cX12_addWorld 4 none ∈ TB := tbm (tq5 (List.mem_of_getElem? (i := 234) (rfl))) (by decide +kernel)
theorem wi_X12_addWorld : Cond.instanceMethod yX12_addWorld ∈ TB := tbm (tq5 (List.mem_of_getElem? (i := 233) (by decide +kernel))) (by decide +kernel)
theorem ws_X12_addWorld : Cond.selects RX12 yX12_addWorld yX12_addWorld ∈ TB := tbm (tq0 (List.mem_of_getElem? (i := 38) (by decide +kernel))) (by decide +kernel)
theorem mi_X12_addWorld : MI yX12_addWorld cX12_addWorld 4 none 1 := ⟨wc_X12_addWorld, wn_X12, ⟨by decide +kernel, by decide +kernel, by decide +kernel⟩, wi_X12_addWorld, ws_X12_addWorld⟩
theorem dX12_world_37 : decode cX12_world 37 = .ok (.aload_n 0, 1) := by decide +kernel
theorem dX12_world_38 : decode cX12_world 38 = .ok (.getfield 7, 3) := by decide +kernel
theorem dX12_world_41 : decode cX12_world 41 = .ok (.iconst 0, 1) := by decide +kernel
theorem dX12_world_42 : decode cX12_world 42 = .ok (.iaload, 1) := by decide +kernel
theorem dX12_world_43 : decode cX12_world 43 = .ok (.iconst 1, 1) := by decide +kernel
theorem dX12_world_44 : decode cX12_world 44 = .ok (.isub, 1) := by decide +kernel
theorem dX12_world_45 : decode cX12_world 45 = .ok (.ireturn, 1) := by decide +kernel
theorem dX12_world_12 : decode cX12_world 12 = .ok (.iconst (-1), 1) := by decide +kernel
theorem dX12_world_13 : decode cX12_world 13 = .ok (.ireturn, 1) := by decide +kernel
set_option maxRecDepth 100000 in
set_option maxHeartbeats 4000000 in
theorem y_world (l : Launch) (E : EV) (hm : Nat) (p0 : Int32) (m_manys : Nat) (m_reals : Nat) (m_factsOf : Nat) (m_possible : Nat) (m_tape : Nat) (m_ends : Nat) (m_letters : Nat) (m_actOf : Nat) (m_whom : Nat) (m_actMany : Nat) (m_tokens : Nat) (m_afters : Nat) (m_afterOf : Nat) (m_pile : Nat) (m_caseMany : Nat) (m_happen : Nat) (m_hasIf : Nat) (m_becomes : Nat) (m_goneOf : Nat) (m_heard : Nat) (m_pairs : Nat) (m_heaps : Nat) (m_led : Nat) (m_newAt : Nat) (m_knowing : Nat) (m_firsts : Nat) (m_secrets : Nat) (m_tried : Nat) (m_lanes : Nat) (m_lengths : Nat) (m_cells : Nat)  : CT l yX12_world (Cond.code yX12_world cX12_world 2 (some .int) :: TB) ({ frames := 2, cells := 0, slots := 0, locals := 44 }) E [.ref hm, .int p0] [(hm, .inr (12, [.ref m_manys, .ref m_reals, .ref m_factsOf, .ref m_possible, .int 0, .int 0, .ref m_tape, .int 0, .int 0, .int 0, .int 0, .int 0, .int 0, .int 0, .int 0, .ref m_ends, .ref m_letters, .ref m_actOf, .ref m_whom, .ref m_actMany, .ref m_tokens, .ref m_afters, .ref m_afterOf, .int 0, .ref m_pile, .ref m_caseMany, .ref m_happen, .ref m_hasIf, .ref m_becomes, .ref m_goneOf, .ref m_heard, .ref m_pairs, .ref m_heaps, .int 0, .int 0, .ref m_led, .ref m_newAt, .ref m_knowing, .ref m_firsts, .int 0, .ref m_secrets, .ref m_tried, .ref m_lanes, .ref m_lengths, .ref m_cells])), (m_manys, .inl (E.2.1 1, 18, .inl (fun _ => 0))), (m_reals, .inl (E.2.1 1, 18, .inl (fun _ => 0))), (m_factsOf, .inl (E.2.1 1, 432, .inl (fun _ => 0))), (m_possible, .inl (E.2.1 1, 1728, .inl (fun _ => 0)))] (Qi E (fun (r : Int32) u => (r = (-1) ∧ u = [] ∧ (p0.toInt < 0 ∨ 15 < p0.toInt)) ∨ (r = 0 ∧ u = [] ∧ (0 ≤ p0.toInt) ∧ (p0.toInt ≤ 15)))) 0 0 := by
  refine ct_of rfl rfl ?_
  intro X C hT hin
  show WW X 2 E 0 [(0, .ref hm), (1, .int p0)] [] [(hm, .inr (12, [.ref m_manys, .ref m_reals, .ref m_factsOf, .ref m_possible, .int 0, .int 0, .ref m_tape, .int 0, .int 0, .int 0, .int 0, .int 0, .int 0, .int 0, .int 0, .ref m_ends, .ref m_letters, .ref m_actOf, .ref m_whom, .ref m_actMany, .ref m_tokens, .ref m_afters, .ref m_afterOf, .int 0, .ref m_pile, .ref m_caseMany, .ref m_happen, .ref m_hasIf, .ref m_becomes, .ref m_goneOf, .ref m_heard, .ref m_pairs, .ref m_heaps, .int 0, .int 0, .ref m_led, .ref m_newAt, .ref m_knowing, .ref m_firsts, .int 0, .ref m_secrets, .ref m_tried, .ref m_lanes, .ref m_lengths, .ref m_cells])), (m_manys, .inl (E.2.1 1, 18, .inl (fun _ => 0))), (m_reals, .inl (E.2.1 1, 18, .inl (fun _ => 0))), (m_factsOf, .inl (E.2.1 1, 432, .inl (fun _ => 0))), (m_possible, .inl (E.2.1 1, 1728, .inl (fun _ => 0)))] 0 0
  refine ww_iload_n C dX12_world_0 1 rfl rfl ?_
  refine ww_i2l (v := p0.toInt64) C dX12_world_1 rfl ?_
  refine ww_lconst (v := 0) C dX12_world_2 rfl ?_
  refine ww_ldc2 C wv_X12_119 dX12_world_3 ?_
  refine ww_ci (wr := [(hm, .inr (12, [.ref m_manys, .ref m_reals, .ref m_factsOf, .ref m_possible, .int 0, .int 0, .ref m_tape, .int 0, .int 0, .int 0, .int 0, .int 0, .int 0, .int 0, .int 0, .ref m_ends, .ref m_letters, .ref m_actOf, .ref m_whom, .ref m_actMany, .ref m_tokens, .ref m_afters, .ref m_afterOf, .int 0, .ref m_pile, .ref m_caseMany, .ref m_happen, .ref m_hasIf, .ref m_becomes, .ref m_goneOf, .ref m_heard, .ref m_pairs, .ref m_heaps, .int 0, .int 0, .ref m_led, .ref m_newAt, .ref m_knowing, .ref m_firsts, .int 0, .ref m_secrets, .ref m_tried, .ref m_lanes, .ref m_lengths, .ref m_cells])), (m_manys, .inl (E.2.1 1, 18, .inl (fun _ => 0))), (m_reals, .inl (E.2.1 1, 18, .inl (fun _ => 0))), (m_factsOf, .inl (E.2.1 1, 432, .inl (fun _ => 0))), (m_possible, .inl (E.2.1 1, 1728, .inl (fun _ => 0)))]) (k' := 0) (n' := 0) C (run_S (As := [.long p0.toInt64, .long 0, .long 15]) (rest := []) C (r_in X.2.1 E p0.toInt64 0 15 p0.toInt 0 15 (Int32.toInt_toInt64 _) rfl rfl) ms_X12_in wl_X12_115 rfl rfl rfl rfl dX12_world_6) [] [0, 1, 2, 3, 4] rfl rfl rfl rfl (fun r u hw => ?_)
  rcases hw with ⟨rfl, rfl, h_1, h_2⟩ | ⟨rfl, rfl, h_3⟩
  · refine ww_eq (ws' := [(hm, .inr (12, [.ref m_manys, .ref m_reals, .ref m_factsOf, .ref m_possible, .int 0, .int 0, .ref m_tape, .int 0, .int 0, .int 0, .int 0, .int 0, .int 0, .int 0, .int 0, .ref m_ends, .ref m_letters, .ref m_actOf, .ref m_whom, .ref m_actMany, .ref m_tokens, .ref m_afters, .ref m_afterOf, .int 0, .ref m_pile, .ref m_caseMany, .ref m_happen, .ref m_hasIf, .ref m_becomes, .ref m_goneOf, .ref m_heard, .ref m_pairs, .ref m_heaps, .int 0, .int 0, .ref m_led, .ref m_newAt, .ref m_knowing, .ref m_firsts, .int 0, .ref m_secrets, .ref m_tried, .ref m_lanes, .ref m_lengths, .ref m_cells])), (m_manys, .inl (E.2.1 1, 18, .inl (fun _ => 0))), (m_reals, .inl (E.2.1 1, 18, .inl (fun _ => 0))), (m_factsOf, .inl (E.2.1 1, 432, .inl (fun _ => 0))), (m_possible, .inl (E.2.1 1, 1728, .inl (fun _ => 0)))]) ?_ rfl rfl rfl
    refine ww_if_ne_t (tgt := 14) C dX12_world_9 (by decide) (by decide) ?_
    refine ww_aload_n C dX12_world_14 0 rfl rfl ?_
    refine ww_get C fg_X12_7 0 rfl rfl dX12_world_15 ?_
    refine ww_iconst (v := 0) C dX12_world_18 rfl ?_
    refine ww_iald (v := 0) C 1 rfl (vin rfl) rfl dX12_world_19 ?_
    refine ww_bipush (v := 24) C dX12_world_20 rfl ?_
    refine ww_icmp_ne_t (tgt := 28) C dX12_world_22 (by decide) (by decide) ?_
    refine ww_aload_n C dX12_world_28 0 rfl rfl ?_
    refine ww_cv (wr := []) (k' := 0) (n' := 0) C (run_V (As := []) (rest := []) C (r_acts X.2.1 E hm m_manys m_reals m_factsOf m_possible m_tape m_ends m_letters m_actOf m_whom m_actMany m_tokens m_afters m_afterOf m_pile m_caseMany m_happen m_hasIf m_becomes m_goneOf m_heard m_pairs m_heaps m_led m_newAt m_knowing m_firsts m_secrets m_tried m_lanes m_lengths m_cells) mi_X12_acts wl_X12_121 rfl 0 12 rfl rfl rfl rfl rfl dX12_world_29) [0, 1, 2, 3, 4] [] rfl rfl rfl rfl (fun u hw => ?_)
    obtain ⟨a1_4, b1_5, b2_6, b3_7, rfl, h_8⟩ := hw
    refine ww_eq (ws' := [(hm, .inr (12, [.ref m_manys, .ref m_reals, .ref m_factsOf, .ref m_possible, .int 1, .int 0, .ref m_tape, .int 0, .int 0, .int 0, .int 0, .int 0, .int 0, .int 0, .int 0, .ref m_ends, .ref m_letters, .ref m_actOf, .ref m_whom, .ref m_actMany, .ref m_tokens, .ref m_afters, .ref m_afterOf, .int 0, .ref m_pile, .ref m_caseMany, .ref m_happen, .ref m_hasIf, .ref m_becomes, .ref m_goneOf, .ref m_heard, .ref m_pairs, .ref m_heaps, .int 0, .int 0, .ref m_led, .ref m_newAt, .ref m_knowing, .ref m_firsts, .int 0, .ref m_secrets, .ref m_tried, .ref m_lanes, .ref m_lengths, .ref m_cells])), (m_manys, .inl (E.2.1 1, 18, .inl a1_4)), (m_reals, .inl (E.2.1 1, 18, .inl b1_5)), (m_factsOf, .inl (E.2.1 1, 432, .inl b2_6)), (m_possible, .inl (E.2.1 1, 1728, .inl b3_7))]) ?_ rfl rfl rfl
    refine ww_aload_n C dX12_world_32 0 rfl rfl ?_
    refine ww_iload_n C dX12_world_33 1 rfl rfl ?_
    refine ww_cv (wr := []) (k' := 0) (n' := 0) C (run_V (As := [.int p0]) (rest := []) C (r_addWorld X.2.1 E hm p0 m_manys m_reals m_factsOf m_possible m_tape m_ends m_letters m_actOf m_whom m_actMany m_tokens m_afters m_afterOf m_pile m_caseMany m_happen m_hasIf m_becomes m_goneOf m_heard m_pairs m_heaps m_led m_newAt m_knowing m_firsts m_secrets m_tried m_lanes m_lengths m_cells a1_4 b1_5 b2_6 b3_7 h_8) mi_X12_addWorld wl_X12_124 rfl 0 12 rfl rfl rfl rfl rfl dX12_world_34) [0, 1, 2, 3, 4] [] rfl rfl rfl rfl (fun u hw => ?_)
    obtain ⟨a1_9, rfl, h_10⟩ := hw
    refine ww_eq (ws' := [(hm, .inr (12, [.ref m_manys, .ref m_reals, .ref m_factsOf, .ref m_possible, .int 1, .int 0, .ref m_tape, .int 0, .int 0, .int 0, .int 0, .int 0, .int 0, .int 0, .int 0, .ref m_ends, .ref m_letters, .ref m_actOf, .ref m_whom, .ref m_actMany, .ref m_tokens, .ref m_afters, .ref m_afterOf, .int 0, .ref m_pile, .ref m_caseMany, .ref m_happen, .ref m_hasIf, .ref m_becomes, .ref m_goneOf, .ref m_heard, .ref m_pairs, .ref m_heaps, .int 0, .int 0, .ref m_led, .ref m_newAt, .ref m_knowing, .ref m_firsts, .int 0, .ref m_secrets, .ref m_tried, .ref m_lanes, .ref m_lengths, .ref m_cells])), (m_manys, .inl (E.2.1 1, 18, .inl a1_9))]) ?_ rfl rfl rfl
    refine ww_aload_n C dX12_world_37 0 rfl rfl ?_
    refine ww_get C fg_X12_7 0 rfl rfl dX12_world_38 ?_
    refine ww_iconst (v := 0) C dX12_world_41 rfl ?_
    refine ww_iald (v := 1) C 1 rfl (vin rfl) h_10 dX12_world_42 ?_
    refine ww_iconst (v := 1) C dX12_world_43 rfl ?_
    refine ww_isub (v := 0) C dX12_world_44 (by decide) ?_
    exact ww_iret (u := []) C hT [] rfl rfl rfl rfl dX12_world_45 (Or.inr ⟨rfl, rfl, (by first | assumption | omega | decide), (by first | assumption | omega | decide)⟩)
  · refine ww_eq (ws' := [(hm, .inr (12, [.ref m_manys, .ref m_reals, .ref m_factsOf, .ref m_possible, .int 0, .int 0, .ref m_tape, .int 0, .int 0, .int 0, .int 0, .int 0, .int 0, .int 0, .int 0, .ref m_ends, .ref m_letters, .ref m_actOf, .ref m_whom, .ref m_actMany, .ref m_tokens, .ref m_afters, .ref m_afterOf, .int 0, .ref m_pile, .ref m_caseMany, .ref m_happen, .ref m_hasIf, .ref m_becomes, .ref m_goneOf, .ref m_heard, .ref m_pairs, .ref m_heaps, .int 0, .int 0, .ref m_led, .ref m_newAt, .ref m_knowing, .ref m_firsts, .int 0, .ref m_secrets, .ref m_tried, .ref m_lanes, .ref m_lengths, .ref m_cells])), (m_manys, .inl (E.2.1 1, 18, .inl (fun _ => 0))), (m_reals, .inl (E.2.1 1, 18, .inl (fun _ => 0))), (m_factsOf, .inl (E.2.1 1, 432, .inl (fun _ => 0))), (m_possible, .inl (E.2.1 1, 1728, .inl (fun _ => 0)))]) ?_ rfl rfl rfl
    refine ww_if_ne_f (tgt := 14) C dX12_world_9 (by decide) (rfl) ?_
    refine ww_iconst (v := (-1)) C dX12_world_12 rfl ?_
    exact ww_iret (u := []) C hT [] rfl rfl rfl rfl dX12_world_13 (Or.inl ⟨rfl, rfl, (by first | assumption | omega | decide)⟩)
theorem dX12_isKnower_0 : decode cX12_isKnower 0 = .ok (.iload_n 0, 1) := by decide +kernel
theorem dX12_isKnower_1 : decode cX12_isKnower 1 = .ok (.i2l, 1) := by decide +kernel
theorem dX12_isKnower_2 : decode cX12_isKnower 2 = .ok (.lconst 0, 1) := by decide +kernel
theorem dX12_isKnower_3 : decode cX12_isKnower 3 = .ok (.ldc2_w 113, 3) := by decide +kernel
theorem wv_X12_113 : Cond.constantLong RX12 113 3 ∈ TB := tbm (tq6 (List.mem_of_getElem? (i := 2) (by decide +kernel))) (by decide +kernel)
theorem dX12_isKnower_6 : decode cX12_isKnower 6 = .ok (.invokestatic 115, 3) := by decide +kernel
theorem dX12_isKnower_9 : decode cX12_isKnower 9 = .ok (.ireturn, 1) := by decide +kernel
set_option maxRecDepth 100000 in
set_option maxHeartbeats 4000000 in
theorem r_isKnower (l : Launch) (E : EV) (p0 : Int32)  : CT l yX12_isKnower (Cond.code yX12_isKnower cX12_isKnower 1 (some .boolean) :: TB) ({ frames := 1, cells := 0, slots := 0, locals := 25 }) E [.int p0] [] (Qi E (fun (r : Int32) u => (r = 1 ∧ u = [] ∧ (0 ≤ p0.toInt) ∧ (p0.toInt ≤ 3)) ∨ (r = 0 ∧ u = [] ∧ (p0.toInt < 0 ∨ 3 < p0.toInt)))) 0 0 := by
  refine ct_of rfl rfl ?_
  intro X C hT hin
  show WW X 1 E 0 [(0, .int p0)] [] [] 0 0
  refine ww_iload_n C dX12_isKnower_0 0 rfl rfl ?_
  refine ww_i2l (v := p0.toInt64) C dX12_isKnower_1 rfl ?_
  refine ww_lconst (v := 0) C dX12_isKnower_2 rfl ?_
  refine ww_ldc2 C wv_X12_113 dX12_isKnower_3 ?_
  refine ww_ci (wr := []) (k' := 0) (n' := 0) C (run_S (As := [.long p0.toInt64, .long 0, .long 3]) (rest := []) C (r_in X.2.1 E p0.toInt64 0 3 p0.toInt 0 3 (Int32.toInt_toInt64 _) rfl rfl) ms_X12_in wl_X12_115 rfl rfl rfl rfl dX12_isKnower_6) [] [] rfl rfl rfl rfl (fun r u hw => ?_)
  rcases hw with ⟨rfl, rfl, h_1, h_2⟩ | ⟨rfl, rfl, h_3⟩
  · refine ww_eq (ws' := []) ?_ rfl rfl rfl
    exact ww_zret (u := []) C hT [] rfl rfl rfl rfl rfl dX12_isKnower_9 (Or.inl ⟨rfl, rfl, (by first | assumption | omega | decide), (by first | assumption | omega | decide)⟩)
  · refine ww_eq (ws' := []) ?_ rfl rfl rfl
    exact ww_zret (u := []) C hT [] rfl rfl rfl rfl rfl dX12_isKnower_9 (Or.inr ⟨rfl, rfl, (by first | assumption | omega | decide)⟩)
theorem dX12_isWorld_0 : decode cX12_isWorld 0 = .ok (.iload_n 1, 1) := by decide +kernel
theorem dX12_isWorld_1 : decode cX12_isWorld 1 = .ok (.i2l, 1) := by decide +kernel
theorem dX12_isWorld_2 : decode cX12_isWorld 2 = .ok (.lconst 0, 1) := by decide +kernel
theorem dX12_isWorld_3 : decode cX12_isWorld 3 = .ok (.aload_n 0, 1) := by decide +kernel
theorem dX12_isWorld_4 : decode cX12_isWorld 4 = .ok (.getfield 7, 3) := by decide +kernel
theorem dX12_isWorld_7 : decode cX12_isWorld 7 = .ok (.iconst 0, 1) := by decide +kernel
theorem dX12_isWorld_8 : decode cX12_isWorld 8 = .ok (.iaload, 1) := by decide +kernel
theorem dX12_isWorld_9 : decode cX12_isWorld 9 = .ok (.iconst 1, 1) := by decide +kernel
theorem dX12_isWorld_10 : decode cX12_isWorld 10 = .ok (.isub, 1) := by decide +kernel
theorem dX12_isWorld_11 : decode cX12_isWorld 11 = .ok (.i2l, 1) := by decide +kernel
theorem dX12_isWorld_12 : decode cX12_isWorld 12 = .ok (.invokestatic 115, 3) := by decide +kernel
theorem dX12_isWorld_15 : decode cX12_isWorld 15 = .ok (.ireturn, 1) := by decide +kernel
set_option maxRecDepth 100000 in
set_option maxHeartbeats 4000000 in
theorem r_isWorld (l : Launch) (E : EV) (hm : Nat) (p0 : Int32) (m_manys : Nat) (m_reals : Nat) (m_factsOf : Nat) (m_possible : Nat) (m_tape : Nat) (m_ends : Nat) (m_letters : Nat) (m_actOf : Nat) (m_whom : Nat) (m_actMany : Nat) (m_tokens : Nat) (m_afters : Nat) (m_afterOf : Nat) (m_pile : Nat) (m_caseMany : Nat) (m_happen : Nat) (m_hasIf : Nat) (m_becomes : Nat) (m_goneOf : Nat) (m_heard : Nat) (m_pairs : Nat) (m_heaps : Nat) (m_led : Nat) (m_newAt : Nat) (m_knowing : Nat) (m_firsts : Nat) (m_secrets : Nat) (m_tried : Nat) (m_lanes : Nat) (m_lengths : Nat) (m_cells : Nat)  : CT l yX12_isWorld (Cond.code yX12_isWorld cX12_isWorld 2 (some .boolean) :: TB) ({ frames := 1, cells := 0, slots := 0, locals := 25 }) E [.ref hm, .int p0] [(hm, .inr (12, [.ref m_manys, .ref m_reals, .ref m_factsOf, .ref m_possible, .int 0, .int 0, .ref m_tape, .int 0, .int 0, .int 0, .int 0, .int 0, .int 0, .int 0, .int 0, .ref m_ends, .ref m_letters, .ref m_actOf, .ref m_whom, .ref m_actMany, .ref m_tokens, .ref m_afters, .ref m_afterOf, .int 0, .ref m_pile, .ref m_caseMany, .ref m_happen, .ref m_hasIf, .ref m_becomes, .ref m_goneOf, .ref m_heard, .ref m_pairs, .ref m_heaps, .int 0, .int 0, .ref m_led, .ref m_newAt, .ref m_knowing, .ref m_firsts, .int 0, .ref m_secrets, .ref m_tried, .ref m_lanes, .ref m_lengths, .ref m_cells])), (m_manys, .inl (E.2.1 1, 18, .inl (fun _ => 0)))] (Qi E (fun (r : Int32) u => (r = 0 ∧ u = [(hm, .inr (12, [.ref m_manys, .ref m_reals, .ref m_factsOf, .ref m_possible, .int 0, .int 0, .ref m_tape, .int 0, .int 0, .int 0, .int 0, .int 0, .int 0, .int 0, .int 0, .ref m_ends, .ref m_letters, .ref m_actOf, .ref m_whom, .ref m_actMany, .ref m_tokens, .ref m_afters, .ref m_afterOf, .int 0, .ref m_pile, .ref m_caseMany, .ref m_happen, .ref m_hasIf, .ref m_becomes, .ref m_goneOf, .ref m_heard, .ref m_pairs, .ref m_heaps, .int 0, .int 0, .ref m_led, .ref m_newAt, .ref m_knowing, .ref m_firsts, .int 0, .ref m_secrets, .ref m_tried, .ref m_lanes, .ref m_lengths, .ref m_cells])), (m_manys, .inl (E.2.1 1, 18, .inl (fun _ => 0)))]))) 0 0 := by
  refine ct_of rfl rfl ?_
  intro X C hT hin
  show WW X 2 E 0 [(0, .ref hm), (1, .int p0)] [] [(hm, .inr (12, [.ref m_manys, .ref m_reals, .ref m_factsOf, .ref m_possible, .int 0, .int 0, .ref m_tape, .int 0, .int 0, .int 0, .int 0, .int 0, .int 0, .int 0, .int 0, .ref m_ends, .ref m_letters, .ref m_actOf, .ref m_whom, .ref m_actMany, .ref m_tokens, .ref m_afters, .ref m_afterOf, .int 0, .ref m_pile, .ref m_caseMany, .ref m_happen, .ref m_hasIf, .ref m_becomes, .ref m_goneOf, .ref m_heard, .ref m_pairs, .ref m_heaps, .int 0, .int 0, .ref m_led, .ref m_newAt, .ref m_knowing, .ref m_firsts, .int 0, .ref m_secrets, .ref m_tried, .ref m_lanes, .ref m_lengths, .ref m_cells])), (m_manys, .inl (E.2.1 1, 18, .inl (fun _ => 0)))] 0 0
  refine ww_iload_n C dX12_isWorld_0 1 rfl rfl ?_
  refine ww_i2l (v := p0.toInt64) C dX12_isWorld_1 rfl ?_
  refine ww_lconst (v := 0) C dX12_isWorld_2 rfl ?_
  refine ww_aload_n C dX12_isWorld_3 0 rfl rfl ?_
  refine ww_get C fg_X12_7 0 rfl rfl dX12_isWorld_4 ?_
  refine ww_iconst (v := 0) C dX12_isWorld_7 rfl ?_
  refine ww_iald (v := 0) C 1 rfl (vin rfl) rfl dX12_isWorld_8 ?_
  refine ww_iconst (v := 1) C dX12_isWorld_9 rfl ?_
  refine ww_isub (v := (-1)) C dX12_isWorld_10 (by decide) ?_
  refine ww_i2l (v := (-1)) C dX12_isWorld_11 rfl ?_
  refine ww_ci (wr := [(hm, .inr (12, [.ref m_manys, .ref m_reals, .ref m_factsOf, .ref m_possible, .int 0, .int 0, .ref m_tape, .int 0, .int 0, .int 0, .int 0, .int 0, .int 0, .int 0, .int 0, .ref m_ends, .ref m_letters, .ref m_actOf, .ref m_whom, .ref m_actMany, .ref m_tokens, .ref m_afters, .ref m_afterOf, .int 0, .ref m_pile, .ref m_caseMany, .ref m_happen, .ref m_hasIf, .ref m_becomes, .ref m_goneOf, .ref m_heard, .ref m_pairs, .ref m_heaps, .int 0, .int 0, .ref m_led, .ref m_newAt, .ref m_knowing, .ref m_firsts, .int 0, .ref m_secrets, .ref m_tried, .ref m_lanes, .ref m_lengths, .ref m_cells])), (m_manys, .inl (E.2.1 1, 18, .inl (fun _ => 0)))]) (k' := 0) (n' := 0) C (run_S (As := [.long p0.toInt64, .long 0, .long (-1)]) (rest := []) C (r_in X.2.1 E p0.toInt64 0 (-1) p0.toInt 0 (-1) (Int32.toInt_toInt64 _) rfl rfl) ms_X12_in wl_X12_115 rfl rfl rfl rfl dX12_isWorld_12) [] [0, 1] rfl rfl rfl rfl (fun r u hw => ?_)
  rcases hw with ⟨rfl, rfl, h_1, h_2⟩ | ⟨rfl, rfl, h_3⟩
  · omega
  · refine ww_eq (ws' := [(hm, .inr (12, [.ref m_manys, .ref m_reals, .ref m_factsOf, .ref m_possible, .int 0, .int 0, .ref m_tape, .int 0, .int 0, .int 0, .int 0, .int 0, .int 0, .int 0, .int 0, .ref m_ends, .ref m_letters, .ref m_actOf, .ref m_whom, .ref m_actMany, .ref m_tokens, .ref m_afters, .ref m_afterOf, .int 0, .ref m_pile, .ref m_caseMany, .ref m_happen, .ref m_hasIf, .ref m_becomes, .ref m_goneOf, .ref m_heard, .ref m_pairs, .ref m_heaps, .int 0, .int 0, .ref m_led, .ref m_newAt, .ref m_knowing, .ref m_firsts, .int 0, .ref m_secrets, .ref m_tried, .ref m_lanes, .ref m_lengths, .ref m_cells])), (m_manys, .inl (E.2.1 1, 18, .inl (fun _ => 0)))]) ?_ rfl rfl rfl
    exact ww_zret (u := [(hm, .inr (12, [.ref m_manys, .ref m_reals, .ref m_factsOf, .ref m_possible, .int 0, .int 0, .ref m_tape, .int 0, .int 0, .int 0, .int 0, .int 0, .int 0, .int 0, .int 0, .ref m_ends, .ref m_letters, .ref m_actOf, .ref m_whom, .ref m_actMany, .ref m_tokens, .ref m_afters, .ref m_afterOf, .int 0, .ref m_pile, .ref m_caseMany, .ref m_happen, .ref m_hasIf, .ref m_becomes, .ref m_goneOf, .ref m_heard, .ref m_pairs, .ref m_heaps, .int 0, .int 0, .ref m_led, .ref m_newAt, .ref m_knowing, .ref m_firsts, .int 0, .ref m_secrets, .ref m_tried, .ref m_lanes, .ref m_lengths, .ref m_cells])), (m_manys, .inl (E.2.1 1, 18, .inl (fun _ => 0)))]) C hT [0, 1] rfl rfl rfl rfl rfl dX12_isWorld_15 (⟨rfl, rfl⟩)
theorem dX12_sees_0 : decode cX12_sees 0 = .ok (.iload_n 1, 1) := by decide +kernel
theorem dX12_sees_1 : decode cX12_sees 1 = .ok (.invokestatic 128, 3) := by decide +kernel
theorem wl_X12_128 : Cond.methodLink RX12 128 yX12_isKnower ∈ TB := tbm (tq5 (List.mem_of_getElem? (i := 239) (by decide +kernel))) (by decide +kernel)
theorem wc_X12_isKnower : Cond.code yX12_isKnower cX12_isKnower 1 (some .boolean) ∈ TB := tbm (tq6 (List.mem_of_getElem? (i := 1) (rfl))) (by decide +kernel)
theorem wt_X12_isKnower : Cond.static yX12_isKnower ∈ TB := tbm (tq6 (List.mem_of_getElem? (i := 0) (by decide +kernel))) (by decide +kernel)
theorem ms_X12_isKnower : MS yX12_isKnower cX12_isKnower 1 (some .boolean) 1 := ⟨wc_X12_isKnower, wn_X12, ⟨by decide +kernel, by decide +kernel, by decide +kernel⟩, wt_X12_isKnower⟩
theorem dX12_sees_4 : decode cX12_sees 4 = .ok (.ifCond .eq 19, 3) := by decide +kernel
theorem dX12_sees_7 : decode cX12_sees 7 = .ok (.aload_n 0, 1) := by decide +kernel
theorem dX12_sees_8 : decode cX12_sees 8 = .ok (.iload_n 2, 1) := by decide +kernel
theorem dX12_sees_9 : decode cX12_sees 9 = .ok (.invokevirtual 132, 3) := by decide +kernel
theorem wl_X12_132 : Cond.methodLink RX12 132 yX12_isWorld ∈ TB := tbm (tq6 (List.mem_of_getElem? (i := 3) (by decide +kernel))) (by decide +kernel)
theorem wc_X12_isWorld : Cond.code yX12_isWorld cX12_isWorld 2 (some .boolean) ∈ TB := tbm (tq6 (List.mem_of_getElem? (i := 6) (rfl))) (by decide +kernel)
theorem wi_X12_isWorld : Cond.instanceMethod yX12_isWorld ∈ TB := tbm (tq6 (List.mem_of_getElem? (i := 5) (by decide +kernel))) (by decide +kernel)
theorem ws_X12_isWorld : Cond.selects RX12 yX12_isWorld yX12_isWorld ∈ TB := tbm (tq0 (List.mem_of_getElem? (i := 39) (by decide +kernel))) (by decide +kernel)
theorem mi_X12_isWorld : MI yX12_isWorld cX12_isWorld 2 (some .boolean) 1 := ⟨wc_X12_isWorld, wn_X12, ⟨by decide +kernel, by decide +kernel, by decide +kernel⟩, wi_X12_isWorld, ws_X12_isWorld⟩
theorem dX12_sees_12 : decode cX12_sees 12 = .ok (.ifCond .eq 11, 3) := by decide +kernel
theorem dX12_sees_23 : decode cX12_sees 23 = .ok (.iconst (-1), 1) := by decide +kernel
theorem dX12_sees_24 : decode cX12_sees 24 = .ok (.ireturn, 1) := by decide +kernel
set_option maxRecDepth 100000 in
set_option maxHeartbeats 4000000 in
theorem y_sees (l : Launch) (E : EV) (hm : Nat) (p0 : Int32) (p1 : Int32) (p2 : Int32) (p3 : Int32) (p4 : Int32) (m_manys : Nat) (m_reals : Nat) (m_factsOf : Nat) (m_possible : Nat) (m_tape : Nat) (m_ends : Nat) (m_letters : Nat) (m_actOf : Nat) (m_whom : Nat) (m_actMany : Nat) (m_tokens : Nat) (m_afters : Nat) (m_afterOf : Nat) (m_pile : Nat) (m_caseMany : Nat) (m_happen : Nat) (m_hasIf : Nat) (m_becomes : Nat) (m_goneOf : Nat) (m_heard : Nat) (m_pairs : Nat) (m_heaps : Nat) (m_led : Nat) (m_newAt : Nat) (m_knowing : Nat) (m_firsts : Nat) (m_secrets : Nat) (m_tried : Nat) (m_lanes : Nat) (m_lengths : Nat) (m_cells : Nat)  : CT l yX12_sees (Cond.code yX12_sees cX12_sees 7 (some .int) :: TB) ({ frames := 2, cells := 0, slots := 0, locals := 46 }) E [.ref hm, .int p0, .int p1, .int p2, .int p3, .int p4] [(hm, .inr (12, [.ref m_manys, .ref m_reals, .ref m_factsOf, .ref m_possible, .int 0, .int 0, .ref m_tape, .int 0, .int 0, .int 0, .int 0, .int 0, .int 0, .int 0, .int 0, .ref m_ends, .ref m_letters, .ref m_actOf, .ref m_whom, .ref m_actMany, .ref m_tokens, .ref m_afters, .ref m_afterOf, .int 0, .ref m_pile, .ref m_caseMany, .ref m_happen, .ref m_hasIf, .ref m_becomes, .ref m_goneOf, .ref m_heard, .ref m_pairs, .ref m_heaps, .int 0, .int 0, .ref m_led, .ref m_newAt, .ref m_knowing, .ref m_firsts, .int 0, .ref m_secrets, .ref m_tried, .ref m_lanes, .ref m_lengths, .ref m_cells])), (m_manys, .inl (E.2.1 1, 18, .inl (fun _ => 0)))] (Qi E (fun (r : Int32) u => (r = (-1) ∧ u = []))) 0 0 := by
  refine ct_of rfl rfl ?_
  intro X C hT hin
  show WW X 7 E 0 [(0, .ref hm), (1, .int p0), (2, .int p1), (3, .int p2), (4, .int p3), (5, .int p4)] [] [(hm, .inr (12, [.ref m_manys, .ref m_reals, .ref m_factsOf, .ref m_possible, .int 0, .int 0, .ref m_tape, .int 0, .int 0, .int 0, .int 0, .int 0, .int 0, .int 0, .int 0, .ref m_ends, .ref m_letters, .ref m_actOf, .ref m_whom, .ref m_actMany, .ref m_tokens, .ref m_afters, .ref m_afterOf, .int 0, .ref m_pile, .ref m_caseMany, .ref m_happen, .ref m_hasIf, .ref m_becomes, .ref m_goneOf, .ref m_heard, .ref m_pairs, .ref m_heaps, .int 0, .int 0, .ref m_led, .ref m_newAt, .ref m_knowing, .ref m_firsts, .int 0, .ref m_secrets, .ref m_tried, .ref m_lanes, .ref m_lengths, .ref m_cells])), (m_manys, .inl (E.2.1 1, 18, .inl (fun _ => 0)))] 0 0
  refine ww_iload_n C dX12_sees_0 1 rfl rfl ?_
  refine ww_ci (wr := [(hm, .inr (12, [.ref m_manys, .ref m_reals, .ref m_factsOf, .ref m_possible, .int 0, .int 0, .ref m_tape, .int 0, .int 0, .int 0, .int 0, .int 0, .int 0, .int 0, .int 0, .ref m_ends, .ref m_letters, .ref m_actOf, .ref m_whom, .ref m_actMany, .ref m_tokens, .ref m_afters, .ref m_afterOf, .int 0, .ref m_pile, .ref m_caseMany, .ref m_happen, .ref m_hasIf, .ref m_becomes, .ref m_goneOf, .ref m_heard, .ref m_pairs, .ref m_heaps, .int 0, .int 0, .ref m_led, .ref m_newAt, .ref m_knowing, .ref m_firsts, .int 0, .ref m_secrets, .ref m_tried, .ref m_lanes, .ref m_lengths, .ref m_cells])), (m_manys, .inl (E.2.1 1, 18, .inl (fun _ => 0)))]) (k' := 0) (n' := 0) C (run_S (As := [.int p0]) (rest := []) C (r_isKnower X.2.1 E p0) ms_X12_isKnower wl_X12_128 rfl rfl rfl rfl dX12_sees_1) [] [0, 1] rfl rfl rfl rfl (fun r u hw => ?_)
  rcases hw with ⟨rfl, rfl, h_1, h_2⟩ | ⟨rfl, rfl, h_3⟩
  · refine ww_eq (ws' := [(hm, .inr (12, [.ref m_manys, .ref m_reals, .ref m_factsOf, .ref m_possible, .int 0, .int 0, .ref m_tape, .int 0, .int 0, .int 0, .int 0, .int 0, .int 0, .int 0, .int 0, .ref m_ends, .ref m_letters, .ref m_actOf, .ref m_whom, .ref m_actMany, .ref m_tokens, .ref m_afters, .ref m_afterOf, .int 0, .ref m_pile, .ref m_caseMany, .ref m_happen, .ref m_hasIf, .ref m_becomes, .ref m_goneOf, .ref m_heard, .ref m_pairs, .ref m_heaps, .int 0, .int 0, .ref m_led, .ref m_newAt, .ref m_knowing, .ref m_firsts, .int 0, .ref m_secrets, .ref m_tried, .ref m_lanes, .ref m_lengths, .ref m_cells])), (m_manys, .inl (E.2.1 1, 18, .inl (fun _ => 0)))]) ?_ rfl rfl rfl
    refine ww_if_eq_f (tgt := 23) C dX12_sees_4 (by decide) (by decide) ?_
    refine ww_aload_n C dX12_sees_7 0 rfl rfl ?_
    refine ww_iload_n C dX12_sees_8 2 rfl rfl ?_
    refine ww_ci (wr := []) (k' := 0) (n' := 0) C (run_V (As := [.int p1]) (rest := []) C (r_isWorld X.2.1 E hm p1 m_manys m_reals m_factsOf m_possible m_tape m_ends m_letters m_actOf m_whom m_actMany m_tokens m_afters m_afterOf m_pile m_caseMany m_happen m_hasIf m_becomes m_goneOf m_heard m_pairs m_heaps m_led m_newAt m_knowing m_firsts m_secrets m_tried m_lanes m_lengths m_cells) mi_X12_isWorld wl_X12_132 rfl 0 12 rfl rfl rfl rfl rfl dX12_sees_9) [0, 1] [] rfl rfl rfl rfl (fun r u hw => ?_)
    obtain ⟨rfl, rfl⟩ := hw
    refine ww_eq (ws' := [(hm, .inr (12, [.ref m_manys, .ref m_reals, .ref m_factsOf, .ref m_possible, .int 0, .int 0, .ref m_tape, .int 0, .int 0, .int 0, .int 0, .int 0, .int 0, .int 0, .int 0, .ref m_ends, .ref m_letters, .ref m_actOf, .ref m_whom, .ref m_actMany, .ref m_tokens, .ref m_afters, .ref m_afterOf, .int 0, .ref m_pile, .ref m_caseMany, .ref m_happen, .ref m_hasIf, .ref m_becomes, .ref m_goneOf, .ref m_heard, .ref m_pairs, .ref m_heaps, .int 0, .int 0, .ref m_led, .ref m_newAt, .ref m_knowing, .ref m_firsts, .int 0, .ref m_secrets, .ref m_tried, .ref m_lanes, .ref m_lengths, .ref m_cells])), (m_manys, .inl (E.2.1 1, 18, .inl (fun _ => 0)))]) ?_ rfl rfl rfl
    refine ww_if_eq_t (tgt := 23) C dX12_sees_12 (by decide) (rfl) ?_
    refine ww_iconst (v := (-1)) C dX12_sees_23 rfl ?_
    exact ww_iret (u := []) C hT [] rfl rfl rfl rfl dX12_sees_24 (⟨rfl, rfl⟩)
  · refine ww_eq (ws' := [(hm, .inr (12, [.ref m_manys, .ref m_reals, .ref m_factsOf, .ref m_possible, .int 0, .int 0, .ref m_tape, .int 0, .int 0, .int 0, .int 0, .int 0, .int 0, .int 0, .int 0, .ref m_ends, .ref m_letters, .ref m_actOf, .ref m_whom, .ref m_actMany, .ref m_tokens, .ref m_afters, .ref m_afterOf, .int 0, .ref m_pile, .ref m_caseMany, .ref m_happen, .ref m_hasIf, .ref m_becomes, .ref m_goneOf, .ref m_heard, .ref m_pairs, .ref m_heaps, .int 0, .int 0, .ref m_led, .ref m_newAt, .ref m_knowing, .ref m_firsts, .int 0, .ref m_secrets, .ref m_tried, .ref m_lanes, .ref m_lengths, .ref m_cells])), (m_manys, .inl (E.2.1 1, 18, .inl (fun _ => 0)))]) ?_ rfl rfl rfl
    refine ww_if_eq_t (tgt := 23) C dX12_sees_4 (by decide) (rfl) ?_
    refine ww_iconst (v := (-1)) C dX12_sees_23 rfl ?_
    exact ww_iret (u := []) C hT [] rfl rfl rfl rfl dX12_sees_24 (⟨rfl, rfl⟩)
theorem dX12_blind_0 : decode cX12_blind 0 = .ok (.iload_n 1, 1) := by decide +kernel
theorem dX12_blind_1 : decode cX12_blind 1 = .ok (.i2l, 1) := by decide +kernel
theorem dX12_blind_2 : decode cX12_blind 2 = .ok (.lconst 0, 1) := by decide +kernel
theorem dX12_blind_3 : decode cX12_blind 3 = .ok (.ldc2_w 143, 3) := by decide +kernel
theorem wv_X12_143 : Cond.constantLong RX12 143 65535 ∈ TB := tbm (tq6 (List.mem_of_getElem? (i := 19) (by decide +kernel))) (by decide +kernel)
theorem dX12_blind_6 : decode cX12_blind 6 = .ok (.invokestatic 115, 3) := by decide +kernel
theorem dX12_blind_9 : decode cX12_blind 9 = .ok (.ifCond .ne 5, 3) := by decide +kernel
theorem dX12_blind_14 : decode cX12_blind 14 = .ok (.aload_n 0, 1) := by decide +kernel
theorem dX12_blind_15 : decode cX12_blind 15 = .ok (.invokevirtual 121, 3) := by decide +kernel
theorem dX12_blind_18 : decode cX12_blind 18 = .ok (.iconst 0, 1) := by decide +kernel
theorem dX12_blind_19 : decode cX12_blind 19 = .ok (.istore_n 2, 1) := by decide +kernel
theorem dX12_blind_20 : decode cX12_blind 20 = .ok (.iconst 0, 1) := by decide +kernel
theorem dX12_blind_21 : decode cX12_blind 21 = .ok (.istore_n 3, 1) := by decide +kernel
theorem dX12_blind_22 : decode cX12_blind 22 = .ok (.iload_n 3, 1) := by decide +kernel
theorem dX12_blind_23 : decode cX12_blind 23 = .ok (.iconst 4, 1) := by decide +kernel
theorem dX12_blind_24 : decode cX12_blind 24 = .ok (.if_icmp .ge 110, 3) := by decide +kernel
theorem dX12_blind_27 : decode cX12_blind 27 = .ok (.iload_n 1, 1) := by decide +kernel
theorem dX12_blind_28 : decode cX12_blind 28 = .ok (.iconst 4, 1) := by decide +kernel
theorem dX12_blind_29 : decode cX12_blind 29 = .ok (.iload_n 3, 1) := by decide +kernel
theorem dX12_blind_30 : decode cX12_blind 30 = .ok (.imul, 1) := by decide +kernel
theorem dX12_blind_31 : decode cX12_blind 31 = .ok (.ishr, 1) := by decide +kernel
theorem dX12_blind_32 : decode cX12_blind 32 = .ok (.bipush 15, 2) := by decide +kernel
theorem dX12_blind_34 : decode cX12_blind 34 = .ok (.iand, 1) := by decide +kernel
theorem dX12_blind_35 : decode cX12_blind 35 = .ok (.istore 4, 2) := by decide +kernel
theorem dX12_blind_37 : decode cX12_blind 37 = .ok (.iconst 0, 1) := by decide +kernel
theorem dX12_blind_38 : decode cX12_blind 38 = .ok (.istore 5, 2) := by decide +kernel
theorem dX12_blind_40 : decode cX12_blind 40 = .ok (.iload 5, 2) := by decide +kernel
theorem dX12_blind_42 : decode cX12_blind 42 = .ok (.aload_n 0, 1) := by decide +kernel
theorem dX12_blind_43 : decode cX12_blind 43 = .ok (.getfield 7, 3) := by decide +kernel
theorem dX12_blind_46 : decode cX12_blind 46 = .ok (.iconst 0, 1) := by decide +kernel
theorem dX12_blind_47 : decode cX12_blind 47 = .ok (.iaload, 1) := by decide +kernel
theorem dX12_blind_48 : decode cX12_blind 48 = .ok (.if_icmp .ge 80, 3) := by decide +kernel
theorem dX12_blind_128 : decode cX12_blind 128 = .ok (.iinc 3 1, 3) := by decide +kernel
theorem dX12_blind_131 : decode cX12_blind 131 = .ok (.goto (-109), 3) := by decide +kernel
theorem dX12_blind_134 : decode cX12_blind 134 = .ok (.iload_n 2, 1) := by decide +kernel
theorem dX12_blind_135 : decode cX12_blind 135 = .ok (.ireturn, 1) := by decide +kernel
theorem dX12_blind_12 : decode cX12_blind 12 = .ok (.iconst (-1), 1) := by decide +kernel
theorem dX12_blind_13 : decode cX12_blind 13 = .ok (.ireturn, 1) := by decide +kernel
set_option maxRecDepth 100000 in
set_option maxHeartbeats 4000000 in
theorem y_blind (l : Launch) (E : EV) (hm : Nat) (p0 : Int32) (m_manys : Nat) (m_reals : Nat) (m_factsOf : Nat) (m_possible : Nat) (m_tape : Nat) (m_ends : Nat) (m_letters : Nat) (m_actOf : Nat) (m_whom : Nat) (m_actMany : Nat) (m_tokens : Nat) (m_afters : Nat) (m_afterOf : Nat) (m_pile : Nat) (m_caseMany : Nat) (m_happen : Nat) (m_hasIf : Nat) (m_becomes : Nat) (m_goneOf : Nat) (m_heard : Nat) (m_pairs : Nat) (m_heaps : Nat) (m_led : Nat) (m_newAt : Nat) (m_knowing : Nat) (m_firsts : Nat) (m_secrets : Nat) (m_tried : Nat) (m_lanes : Nat) (m_lengths : Nat) (m_cells : Nat)  : CT l yX12_blind (Cond.code yX12_blind cX12_blind 7 (some .int) :: TB) ({ frames := 2, cells := 0, slots := 0, locals := 44 }) E [.ref hm, .int p0] [(hm, .inr (12, [.ref m_manys, .ref m_reals, .ref m_factsOf, .ref m_possible, .int 0, .int 0, .ref m_tape, .int 0, .int 0, .int 0, .int 0, .int 0, .int 0, .int 0, .int 0, .ref m_ends, .ref m_letters, .ref m_actOf, .ref m_whom, .ref m_actMany, .ref m_tokens, .ref m_afters, .ref m_afterOf, .int 0, .ref m_pile, .ref m_caseMany, .ref m_happen, .ref m_hasIf, .ref m_becomes, .ref m_goneOf, .ref m_heard, .ref m_pairs, .ref m_heaps, .int 0, .int 0, .ref m_led, .ref m_newAt, .ref m_knowing, .ref m_firsts, .int 0, .ref m_secrets, .ref m_tried, .ref m_lanes, .ref m_lengths, .ref m_cells])), (m_manys, .inl (E.2.1 1, 18, .inl (fun _ => 0))), (m_reals, .inl (E.2.1 1, 18, .inl (fun _ => 0))), (m_factsOf, .inl (E.2.1 1, 432, .inl (fun _ => 0))), (m_possible, .inl (E.2.1 1, 1728, .inl (fun _ => 0)))] (Qi E (fun (r : Int32) u => (r = (-1) ∧ u = [] ∧ (p0.toInt < 0 ∨ 65535 < p0.toInt)) ∨ (r = 0 ∧ u = [] ∧ (0 ≤ p0.toInt) ∧ (p0.toInt ≤ 65535)))) 0 0 := by
  refine ct_of rfl rfl ?_
  intro X C hT hin
  show WW X 7 E 0 [(0, .ref hm), (1, .int p0)] [] [(hm, .inr (12, [.ref m_manys, .ref m_reals, .ref m_factsOf, .ref m_possible, .int 0, .int 0, .ref m_tape, .int 0, .int 0, .int 0, .int 0, .int 0, .int 0, .int 0, .int 0, .ref m_ends, .ref m_letters, .ref m_actOf, .ref m_whom, .ref m_actMany, .ref m_tokens, .ref m_afters, .ref m_afterOf, .int 0, .ref m_pile, .ref m_caseMany, .ref m_happen, .ref m_hasIf, .ref m_becomes, .ref m_goneOf, .ref m_heard, .ref m_pairs, .ref m_heaps, .int 0, .int 0, .ref m_led, .ref m_newAt, .ref m_knowing, .ref m_firsts, .int 0, .ref m_secrets, .ref m_tried, .ref m_lanes, .ref m_lengths, .ref m_cells])), (m_manys, .inl (E.2.1 1, 18, .inl (fun _ => 0))), (m_reals, .inl (E.2.1 1, 18, .inl (fun _ => 0))), (m_factsOf, .inl (E.2.1 1, 432, .inl (fun _ => 0))), (m_possible, .inl (E.2.1 1, 1728, .inl (fun _ => 0)))] 0 0
  refine ww_iload_n C dX12_blind_0 1 rfl rfl ?_
  refine ww_i2l (v := p0.toInt64) C dX12_blind_1 rfl ?_
  refine ww_lconst (v := 0) C dX12_blind_2 rfl ?_
  refine ww_ldc2 C wv_X12_143 dX12_blind_3 ?_
  refine ww_ci (wr := [(hm, .inr (12, [.ref m_manys, .ref m_reals, .ref m_factsOf, .ref m_possible, .int 0, .int 0, .ref m_tape, .int 0, .int 0, .int 0, .int 0, .int 0, .int 0, .int 0, .int 0, .ref m_ends, .ref m_letters, .ref m_actOf, .ref m_whom, .ref m_actMany, .ref m_tokens, .ref m_afters, .ref m_afterOf, .int 0, .ref m_pile, .ref m_caseMany, .ref m_happen, .ref m_hasIf, .ref m_becomes, .ref m_goneOf, .ref m_heard, .ref m_pairs, .ref m_heaps, .int 0, .int 0, .ref m_led, .ref m_newAt, .ref m_knowing, .ref m_firsts, .int 0, .ref m_secrets, .ref m_tried, .ref m_lanes, .ref m_lengths, .ref m_cells])), (m_manys, .inl (E.2.1 1, 18, .inl (fun _ => 0))), (m_reals, .inl (E.2.1 1, 18, .inl (fun _ => 0))), (m_factsOf, .inl (E.2.1 1, 432, .inl (fun _ => 0))), (m_possible, .inl (E.2.1 1, 1728, .inl (fun _ => 0)))]) (k' := 0) (n' := 0) C (run_S (As := [.long p0.toInt64, .long 0, .long 65535]) (rest := []) C (r_in X.2.1 E p0.toInt64 0 65535 p0.toInt 0 65535 (Int32.toInt_toInt64 _) rfl rfl) ms_X12_in wl_X12_115 rfl rfl rfl rfl dX12_blind_6) [] [0, 1, 2, 3, 4] rfl rfl rfl rfl (fun r u hw => ?_)
  rcases hw with ⟨rfl, rfl, h_1, h_2⟩ | ⟨rfl, rfl, h_3⟩
  · refine ww_eq (ws' := [(hm, .inr (12, [.ref m_manys, .ref m_reals, .ref m_factsOf, .ref m_possible, .int 0, .int 0, .ref m_tape, .int 0, .int 0, .int 0, .int 0, .int 0, .int 0, .int 0, .int 0, .ref m_ends, .ref m_letters, .ref m_actOf, .ref m_whom, .ref m_actMany, .ref m_tokens, .ref m_afters, .ref m_afterOf, .int 0, .ref m_pile, .ref m_caseMany, .ref m_happen, .ref m_hasIf, .ref m_becomes, .ref m_goneOf, .ref m_heard, .ref m_pairs, .ref m_heaps, .int 0, .int 0, .ref m_led, .ref m_newAt, .ref m_knowing, .ref m_firsts, .int 0, .ref m_secrets, .ref m_tried, .ref m_lanes, .ref m_lengths, .ref m_cells])), (m_manys, .inl (E.2.1 1, 18, .inl (fun _ => 0))), (m_reals, .inl (E.2.1 1, 18, .inl (fun _ => 0))), (m_factsOf, .inl (E.2.1 1, 432, .inl (fun _ => 0))), (m_possible, .inl (E.2.1 1, 1728, .inl (fun _ => 0)))]) ?_ rfl rfl rfl
    refine ww_if_ne_t (tgt := 14) C dX12_blind_9 (by decide) (by decide) ?_
    refine ww_aload_n C dX12_blind_14 0 rfl rfl ?_
    refine ww_cv (wr := []) (k' := 0) (n' := 0) C (run_V (As := []) (rest := []) C (r_acts X.2.1 E hm m_manys m_reals m_factsOf m_possible m_tape m_ends m_letters m_actOf m_whom m_actMany m_tokens m_afters m_afterOf m_pile m_caseMany m_happen m_hasIf m_becomes m_goneOf m_heard m_pairs m_heaps m_led m_newAt m_knowing m_firsts m_secrets m_tried m_lanes m_lengths m_cells) mi_X12_acts wl_X12_121 rfl 0 12 rfl rfl rfl rfl rfl dX12_blind_15) [0, 1, 2, 3, 4] [] rfl rfl rfl rfl (fun u hw => ?_)
    obtain ⟨a1_4, b1_5, b2_6, b3_7, rfl, h_8⟩ := hw
    refine ww_eq (ws' := [(hm, .inr (12, [.ref m_manys, .ref m_reals, .ref m_factsOf, .ref m_possible, .int 1, .int 0, .ref m_tape, .int 0, .int 0, .int 0, .int 0, .int 0, .int 0, .int 0, .int 0, .ref m_ends, .ref m_letters, .ref m_actOf, .ref m_whom, .ref m_actMany, .ref m_tokens, .ref m_afters, .ref m_afterOf, .int 0, .ref m_pile, .ref m_caseMany, .ref m_happen, .ref m_hasIf, .ref m_becomes, .ref m_goneOf, .ref m_heard, .ref m_pairs, .ref m_heaps, .int 0, .int 0, .ref m_led, .ref m_newAt, .ref m_knowing, .ref m_firsts, .int 0, .ref m_secrets, .ref m_tried, .ref m_lanes, .ref m_lengths, .ref m_cells])), (m_manys, .inl (E.2.1 1, 18, .inl a1_4)), (m_reals, .inl (E.2.1 1, 18, .inl b1_5)), (m_factsOf, .inl (E.2.1 1, 432, .inl b2_6)), (m_possible, .inl (E.2.1 1, 1728, .inl b3_7))]) ?_ rfl rfl rfl
    refine ww_iconst (v := 0) C dX12_blind_18 rfl ?_
    refine ww_istore_n (lv' := [(2, .int 0), (0, .ref hm), (1, .int p0)]) C dX12_blind_19 rfl rfl rfl ?_
    refine ww_iconst (v := 0) C dX12_blind_20 rfl ?_
    refine ww_istore_n (lv' := [(3, .int 0), (2, .int 0), (0, .ref hm), (1, .int p0)]) C dX12_blind_21 rfl rfl rfl ?_
    refine ww_iload_n C dX12_blind_22 0 rfl rfl ?_
    refine ww_iconst (v := 4) C dX12_blind_23 rfl ?_
    refine ww_icmp_ge_f (tgt := 134) C dX12_blind_24 (by decide) (by decide) ?_
    refine ww_iload_n C dX12_blind_27 3 rfl rfl ?_
    refine ww_iconst (v := 4) C dX12_blind_28 rfl ?_
    refine ww_iload_n C dX12_blind_29 0 rfl rfl ?_
    refine ww_imul (v := 0) C dX12_blind_30 (by decide) ?_
    obtain ⟨x_9, ex_9⟩ : ∃ z : Int32, p0 >>> ((0 : Int32) &&& 31) = z := ⟨_, rfl⟩
    refine ww_ishr (v := x_9) C dX12_blind_31 ex_9 ?_
    refine ww_bipush (v := 15) C dX12_blind_32 rfl ?_
    obtain ⟨x_10, ex_10⟩ : ∃ z : Int32, x_9 &&& (15 : Int32) = z := ⟨_, rfl⟩
    refine ww_iand (v := x_10) C dX12_blind_34 ex_10 ?_
    refine ww_istore (lv' := [(4, .int x_10), (3, .int 0), (2, .int 0), (0, .ref hm), (1, .int p0)]) C dX12_blind_35 rfl rfl ?_
    refine ww_iconst (v := 0) C dX12_blind_37 rfl ?_
    refine ww_istore (lv' := [(5, .int 0), (4, .int x_10), (3, .int 0), (2, .int 0), (0, .ref hm), (1, .int p0)]) C dX12_blind_38 rfl rfl ?_
    refine ww_iload C dX12_blind_40 0 rfl ?_
    refine ww_aload_n C dX12_blind_42 4 rfl rfl ?_
    refine ww_get C fg_X12_7 0 rfl rfl dX12_blind_43 ?_
    refine ww_iconst (v := 0) C dX12_blind_46 rfl ?_
    refine ww_iald (v := 0) C 1 rfl (vin rfl) h_8 dX12_blind_47 ?_
    refine ww_icmp_ge_t (tgt := 128) C dX12_blind_48 (by decide) (by decide) ?_
    refine ww_iinc (j := 2) (v := 1) (lv' := [(3, .int 1), (5, .int 0), (4, .int x_10), (2, .int 0), (0, .ref hm), (1, .int p0)]) C dX12_blind_128 rfl rfl rfl rfl ?_
    refine ww_goto (tgt := 22) C dX12_blind_131 (by decide) ?_
    refine ww_iload_n C dX12_blind_22 0 rfl rfl ?_
    refine ww_iconst (v := 4) C dX12_blind_23 rfl ?_
    refine ww_icmp_ge_f (tgt := 134) C dX12_blind_24 (by decide) (by decide) ?_
    refine ww_iload_n C dX12_blind_27 5 rfl rfl ?_
    refine ww_iconst (v := 4) C dX12_blind_28 rfl ?_
    refine ww_iload_n C dX12_blind_29 0 rfl rfl ?_
    refine ww_imul (v := 4) C dX12_blind_30 (by decide) ?_
    obtain ⟨x_11, ex_11⟩ : ∃ z : Int32, p0 >>> ((4 : Int32) &&& 31) = z := ⟨_, rfl⟩
    refine ww_ishr (v := x_11) C dX12_blind_31 ex_11 ?_
    refine ww_bipush (v := 15) C dX12_blind_32 rfl ?_
    obtain ⟨x_12, ex_12⟩ : ∃ z : Int32, x_11 &&& (15 : Int32) = z := ⟨_, rfl⟩
    refine ww_iand (v := x_12) C dX12_blind_34 ex_12 ?_
    refine ww_istore (lv' := [(4, .int x_12), (3, .int 1), (5, .int 0), (2, .int 0), (0, .ref hm), (1, .int p0)]) C dX12_blind_35 rfl rfl ?_
    refine ww_iconst (v := 0) C dX12_blind_37 rfl ?_
    refine ww_istore (lv' := [(5, .int 0), (4, .int x_12), (3, .int 1), (2, .int 0), (0, .ref hm), (1, .int p0)]) C dX12_blind_38 rfl rfl ?_
    refine ww_iload C dX12_blind_40 0 rfl ?_
    refine ww_aload_n C dX12_blind_42 4 rfl rfl ?_
    refine ww_get C fg_X12_7 0 rfl rfl dX12_blind_43 ?_
    refine ww_iconst (v := 0) C dX12_blind_46 rfl ?_
    refine ww_iald (v := 0) C 1 rfl (vin rfl) h_8 dX12_blind_47 ?_
    refine ww_icmp_ge_t (tgt := 128) C dX12_blind_48 (by decide) (by decide) ?_
    refine ww_iinc (j := 2) (v := 2) (lv' := [(3, .int 2), (5, .int 0), (4, .int x_12), (2, .int 0), (0, .ref hm), (1, .int p0)]) C dX12_blind_128 rfl rfl rfl rfl ?_
    refine ww_goto (tgt := 22) C dX12_blind_131 (by decide) ?_
    refine ww_iload_n C dX12_blind_22 0 rfl rfl ?_
    refine ww_iconst (v := 4) C dX12_blind_23 rfl ?_
    refine ww_icmp_ge_f (tgt := 134) C dX12_blind_24 (by decide) (by decide) ?_
    refine ww_iload_n C dX12_blind_27 5 rfl rfl ?_
    refine ww_iconst (v := 4) C dX12_blind_28 rfl ?_
    refine ww_iload_n C dX12_blind_29 0 rfl rfl ?_
    refine ww_imul (v := 8) C dX12_blind_30 (by decide) ?_
    obtain ⟨x_13, ex_13⟩ : ∃ z : Int32, p0 >>> ((8 : Int32) &&& 31) = z := ⟨_, rfl⟩
    refine ww_ishr (v := x_13) C dX12_blind_31 ex_13 ?_
    refine ww_bipush (v := 15) C dX12_blind_32 rfl ?_
    obtain ⟨x_14, ex_14⟩ : ∃ z : Int32, x_13 &&& (15 : Int32) = z := ⟨_, rfl⟩
    refine ww_iand (v := x_14) C dX12_blind_34 ex_14 ?_
    refine ww_istore (lv' := [(4, .int x_14), (3, .int 2), (5, .int 0), (2, .int 0), (0, .ref hm), (1, .int p0)]) C dX12_blind_35 rfl rfl ?_
    refine ww_iconst (v := 0) C dX12_blind_37 rfl ?_
    refine ww_istore (lv' := [(5, .int 0), (4, .int x_14), (3, .int 2), (2, .int 0), (0, .ref hm), (1, .int p0)]) C dX12_blind_38 rfl rfl ?_
    refine ww_iload C dX12_blind_40 0 rfl ?_
    refine ww_aload_n C dX12_blind_42 4 rfl rfl ?_
    refine ww_get C fg_X12_7 0 rfl rfl dX12_blind_43 ?_
    refine ww_iconst (v := 0) C dX12_blind_46 rfl ?_
    refine ww_iald (v := 0) C 1 rfl (vin rfl) h_8 dX12_blind_47 ?_
    refine ww_icmp_ge_t (tgt := 128) C dX12_blind_48 (by decide) (by decide) ?_
    refine ww_iinc (j := 2) (v := 3) (lv' := [(3, .int 3), (5, .int 0), (4, .int x_14), (2, .int 0), (0, .ref hm), (1, .int p0)]) C dX12_blind_128 rfl rfl rfl rfl ?_
    refine ww_goto (tgt := 22) C dX12_blind_131 (by decide) ?_
    refine ww_iload_n C dX12_blind_22 0 rfl rfl ?_
    refine ww_iconst (v := 4) C dX12_blind_23 rfl ?_
    refine ww_icmp_ge_f (tgt := 134) C dX12_blind_24 (by decide) (by decide) ?_
    refine ww_iload_n C dX12_blind_27 5 rfl rfl ?_
    refine ww_iconst (v := 4) C dX12_blind_28 rfl ?_
    refine ww_iload_n C dX12_blind_29 0 rfl rfl ?_
    refine ww_imul (v := 12) C dX12_blind_30 (by decide) ?_
    obtain ⟨x_15, ex_15⟩ : ∃ z : Int32, p0 >>> ((12 : Int32) &&& 31) = z := ⟨_, rfl⟩
    refine ww_ishr (v := x_15) C dX12_blind_31 ex_15 ?_
    refine ww_bipush (v := 15) C dX12_blind_32 rfl ?_
    obtain ⟨x_16, ex_16⟩ : ∃ z : Int32, x_15 &&& (15 : Int32) = z := ⟨_, rfl⟩
    refine ww_iand (v := x_16) C dX12_blind_34 ex_16 ?_
    refine ww_istore (lv' := [(4, .int x_16), (3, .int 3), (5, .int 0), (2, .int 0), (0, .ref hm), (1, .int p0)]) C dX12_blind_35 rfl rfl ?_
    refine ww_iconst (v := 0) C dX12_blind_37 rfl ?_
    refine ww_istore (lv' := [(5, .int 0), (4, .int x_16), (3, .int 3), (2, .int 0), (0, .ref hm), (1, .int p0)]) C dX12_blind_38 rfl rfl ?_
    refine ww_iload C dX12_blind_40 0 rfl ?_
    refine ww_aload_n C dX12_blind_42 4 rfl rfl ?_
    refine ww_get C fg_X12_7 0 rfl rfl dX12_blind_43 ?_
    refine ww_iconst (v := 0) C dX12_blind_46 rfl ?_
    refine ww_iald (v := 0) C 1 rfl (vin rfl) h_8 dX12_blind_47 ?_
    refine ww_icmp_ge_t (tgt := 128) C dX12_blind_48 (by decide) (by decide) ?_
    refine ww_iinc (j := 2) (v := 4) (lv' := [(3, .int 4), (5, .int 0), (4, .int x_16), (2, .int 0), (0, .ref hm), (1, .int p0)]) C dX12_blind_128 rfl rfl rfl rfl ?_
    refine ww_goto (tgt := 22) C dX12_blind_131 (by decide) ?_
    refine ww_iload_n C dX12_blind_22 0 rfl rfl ?_
    refine ww_iconst (v := 4) C dX12_blind_23 rfl ?_
    refine ww_icmp_ge_t (tgt := 134) C dX12_blind_24 (by decide) (by decide) ?_
    refine ww_iload_n C dX12_blind_134 3 rfl rfl ?_
    exact ww_iret (u := []) C hT [] rfl rfl rfl rfl dX12_blind_135 (Or.inr ⟨rfl, rfl, (by first | assumption | omega | decide), (by first | assumption | omega | decide)⟩)
  · refine ww_eq (ws' := [(hm, .inr (12, [.ref m_manys, .ref m_reals, .ref m_factsOf, .ref m_possible, .int 0, .int 0, .ref m_tape, .int 0, .int 0, .int 0, .int 0, .int 0, .int 0, .int 0, .int 0, .ref m_ends, .ref m_letters, .ref m_actOf, .ref m_whom, .ref m_actMany, .ref m_tokens, .ref m_afters, .ref m_afterOf, .int 0, .ref m_pile, .ref m_caseMany, .ref m_happen, .ref m_hasIf, .ref m_becomes, .ref m_goneOf, .ref m_heard, .ref m_pairs, .ref m_heaps, .int 0, .int 0, .ref m_led, .ref m_newAt, .ref m_knowing, .ref m_firsts, .int 0, .ref m_secrets, .ref m_tried, .ref m_lanes, .ref m_lengths, .ref m_cells])), (m_manys, .inl (E.2.1 1, 18, .inl (fun _ => 0))), (m_reals, .inl (E.2.1 1, 18, .inl (fun _ => 0))), (m_factsOf, .inl (E.2.1 1, 432, .inl (fun _ => 0))), (m_possible, .inl (E.2.1 1, 1728, .inl (fun _ => 0)))]) ?_ rfl rfl rfl
    refine ww_if_ne_f (tgt := 14) C dX12_blind_9 (by decide) (rfl) ?_
    refine ww_iconst (v := (-1)) C dX12_blind_12 rfl ?_
    exact ww_iret (u := []) C hT [] rfl rfl rfl rfl dX12_blind_13 (Or.inl ⟨rfl, rfl, (by first | assumption | omega | decide)⟩)
theorem dX12_real_0 : decode cX12_real 0 = .ok (.aload_n 0, 1) := by decide +kernel
theorem dX12_real_1 : decode cX12_real 1 = .ok (.iload_n 1, 1) := by decide +kernel
theorem dX12_real_2 : decode cX12_real 2 = .ok (.invokevirtual 132, 3) := by decide +kernel
theorem dX12_real_5 : decode cX12_real 5 = .ok (.ifCond .ne 5, 3) := by decide +kernel
theorem dX12_real_8 : decode cX12_real 8 = .ok (.iconst (-1), 1) := by decide +kernel
theorem dX12_real_9 : decode cX12_real 9 = .ok (.ireturn, 1) := by decide +kernel
set_option maxRecDepth 100000 in
set_option maxHeartbeats 4000000 in
theorem y_real (l : Launch) (E : EV) (hm : Nat) (p0 : Int32) (m_manys : Nat) (m_reals : Nat) (m_factsOf : Nat) (m_possible : Nat) (m_tape : Nat) (m_ends : Nat) (m_letters : Nat) (m_actOf : Nat) (m_whom : Nat) (m_actMany : Nat) (m_tokens : Nat) (m_afters : Nat) (m_afterOf : Nat) (m_pile : Nat) (m_caseMany : Nat) (m_happen : Nat) (m_hasIf : Nat) (m_becomes : Nat) (m_goneOf : Nat) (m_heard : Nat) (m_pairs : Nat) (m_heaps : Nat) (m_led : Nat) (m_newAt : Nat) (m_knowing : Nat) (m_firsts : Nat) (m_secrets : Nat) (m_tried : Nat) (m_lanes : Nat) (m_lengths : Nat) (m_cells : Nat)  : CT l yX12_real (Cond.code yX12_real cX12_real 3 (some .int) :: TB) ({ frames := 2, cells := 0, slots := 0, locals := 46 }) E [.ref hm, .int p0] [(hm, .inr (12, [.ref m_manys, .ref m_reals, .ref m_factsOf, .ref m_possible, .int 0, .int 0, .ref m_tape, .int 0, .int 0, .int 0, .int 0, .int 0, .int 0, .int 0, .int 0, .ref m_ends, .ref m_letters, .ref m_actOf, .ref m_whom, .ref m_actMany, .ref m_tokens, .ref m_afters, .ref m_afterOf, .int 0, .ref m_pile, .ref m_caseMany, .ref m_happen, .ref m_hasIf, .ref m_becomes, .ref m_goneOf, .ref m_heard, .ref m_pairs, .ref m_heaps, .int 0, .int 0, .ref m_led, .ref m_newAt, .ref m_knowing, .ref m_firsts, .int 0, .ref m_secrets, .ref m_tried, .ref m_lanes, .ref m_lengths, .ref m_cells])), (m_manys, .inl (E.2.1 1, 18, .inl (fun _ => 0)))] (Qi E (fun (r : Int32) u => (r = (-1) ∧ u = []))) 0 0 := by
  refine ct_of rfl rfl ?_
  intro X C hT hin
  show WW X 3 E 0 [(0, .ref hm), (1, .int p0)] [] [(hm, .inr (12, [.ref m_manys, .ref m_reals, .ref m_factsOf, .ref m_possible, .int 0, .int 0, .ref m_tape, .int 0, .int 0, .int 0, .int 0, .int 0, .int 0, .int 0, .int 0, .ref m_ends, .ref m_letters, .ref m_actOf, .ref m_whom, .ref m_actMany, .ref m_tokens, .ref m_afters, .ref m_afterOf, .int 0, .ref m_pile, .ref m_caseMany, .ref m_happen, .ref m_hasIf, .ref m_becomes, .ref m_goneOf, .ref m_heard, .ref m_pairs, .ref m_heaps, .int 0, .int 0, .ref m_led, .ref m_newAt, .ref m_knowing, .ref m_firsts, .int 0, .ref m_secrets, .ref m_tried, .ref m_lanes, .ref m_lengths, .ref m_cells])), (m_manys, .inl (E.2.1 1, 18, .inl (fun _ => 0)))] 0 0
  refine ww_aload_n C dX12_real_0 0 rfl rfl ?_
  refine ww_iload_n C dX12_real_1 1 rfl rfl ?_
  refine ww_ci (wr := []) (k' := 0) (n' := 0) C (run_V (As := [.int p0]) (rest := []) C (r_isWorld X.2.1 E hm p0 m_manys m_reals m_factsOf m_possible m_tape m_ends m_letters m_actOf m_whom m_actMany m_tokens m_afters m_afterOf m_pile m_caseMany m_happen m_hasIf m_becomes m_goneOf m_heard m_pairs m_heaps m_led m_newAt m_knowing m_firsts m_secrets m_tried m_lanes m_lengths m_cells) mi_X12_isWorld wl_X12_132 rfl 0 12 rfl rfl rfl rfl rfl dX12_real_2) [0, 1] [] rfl rfl rfl rfl (fun r u hw => ?_)
  obtain ⟨rfl, rfl⟩ := hw
  refine ww_eq (ws' := [(hm, .inr (12, [.ref m_manys, .ref m_reals, .ref m_factsOf, .ref m_possible, .int 0, .int 0, .ref m_tape, .int 0, .int 0, .int 0, .int 0, .int 0, .int 0, .int 0, .int 0, .ref m_ends, .ref m_letters, .ref m_actOf, .ref m_whom, .ref m_actMany, .ref m_tokens, .ref m_afters, .ref m_afterOf, .int 0, .ref m_pile, .ref m_caseMany, .ref m_happen, .ref m_hasIf, .ref m_becomes, .ref m_goneOf, .ref m_heard, .ref m_pairs, .ref m_heaps, .int 0, .int 0, .ref m_led, .ref m_newAt, .ref m_knowing, .ref m_firsts, .int 0, .ref m_secrets, .ref m_tried, .ref m_lanes, .ref m_lengths, .ref m_cells])), (m_manys, .inl (E.2.1 1, 18, .inl (fun _ => 0)))]) ?_ rfl rfl rfl
  refine ww_if_ne_f (tgt := 10) C dX12_real_5 (by decide) (rfl) ?_
  refine ww_iconst (v := (-1)) C dX12_real_8 rfl ?_
  exact ww_iret (u := []) C hT [] rfl rfl rfl rfl dX12_real_9 (⟨rfl, rfl⟩)
theorem dX12_of_0 : decode cX12_of 0 = .ok (.aload_n 0, 1) := by decide +kernel
theorem dX12_of_1 : decode cX12_of 1 = .ok (.iload_n 1, 1) := by decide +kernel
theorem dX12_of_2 : decode cX12_of 2 = .ok (.invokevirtual 132, 3) := by decide +kernel
theorem dX12_of_5 : decode cX12_of 5 = .ok (.ifCond .ne 5, 3) := by decide +kernel
theorem dX12_of_8 : decode cX12_of 8 = .ok (.iconst (-1), 1) := by decide +kernel
theorem dX12_of_9 : decode cX12_of 9 = .ok (.ireturn, 1) := by decide +kernel
set_option maxRecDepth 100000 in
set_option maxHeartbeats 4000000 in
theorem y_of (l : Launch) (E : EV) (hm : Nat) (p0 : Int32) (p1 : Int32) (m_manys : Nat) (m_reals : Nat) (m_factsOf : Nat) (m_possible : Nat) (m_tape : Nat) (m_ends : Nat) (m_letters : Nat) (m_actOf : Nat) (m_whom : Nat) (m_actMany : Nat) (m_tokens : Nat) (m_afters : Nat) (m_afterOf : Nat) (m_pile : Nat) (m_caseMany : Nat) (m_happen : Nat) (m_hasIf : Nat) (m_becomes : Nat) (m_goneOf : Nat) (m_heard : Nat) (m_pairs : Nat) (m_heaps : Nat) (m_led : Nat) (m_newAt : Nat) (m_knowing : Nat) (m_firsts : Nat) (m_secrets : Nat) (m_tried : Nat) (m_lanes : Nat) (m_lengths : Nat) (m_cells : Nat)  : CT l yX12_of (Cond.code yX12_of cX12_of 5 (some .int) :: TB) ({ frames := 2, cells := 0, slots := 0, locals := 46 }) E [.ref hm, .int p0, .int p1] [(hm, .inr (12, [.ref m_manys, .ref m_reals, .ref m_factsOf, .ref m_possible, .int 0, .int 0, .ref m_tape, .int 0, .int 0, .int 0, .int 0, .int 0, .int 0, .int 0, .int 0, .ref m_ends, .ref m_letters, .ref m_actOf, .ref m_whom, .ref m_actMany, .ref m_tokens, .ref m_afters, .ref m_afterOf, .int 0, .ref m_pile, .ref m_caseMany, .ref m_happen, .ref m_hasIf, .ref m_becomes, .ref m_goneOf, .ref m_heard, .ref m_pairs, .ref m_heaps, .int 0, .int 0, .ref m_led, .ref m_newAt, .ref m_knowing, .ref m_firsts, .int 0, .ref m_secrets, .ref m_tried, .ref m_lanes, .ref m_lengths, .ref m_cells])), (m_manys, .inl (E.2.1 1, 18, .inl (fun _ => 0)))] (Qi E (fun (r : Int32) u => (r = (-1) ∧ u = []))) 0 0 := by
  refine ct_of rfl rfl ?_
  intro X C hT hin
  show WW X 5 E 0 [(0, .ref hm), (1, .int p0), (2, .int p1)] [] [(hm, .inr (12, [.ref m_manys, .ref m_reals, .ref m_factsOf, .ref m_possible, .int 0, .int 0, .ref m_tape, .int 0, .int 0, .int 0, .int 0, .int 0, .int 0, .int 0, .int 0, .ref m_ends, .ref m_letters, .ref m_actOf, .ref m_whom, .ref m_actMany, .ref m_tokens, .ref m_afters, .ref m_afterOf, .int 0, .ref m_pile, .ref m_caseMany, .ref m_happen, .ref m_hasIf, .ref m_becomes, .ref m_goneOf, .ref m_heard, .ref m_pairs, .ref m_heaps, .int 0, .int 0, .ref m_led, .ref m_newAt, .ref m_knowing, .ref m_firsts, .int 0, .ref m_secrets, .ref m_tried, .ref m_lanes, .ref m_lengths, .ref m_cells])), (m_manys, .inl (E.2.1 1, 18, .inl (fun _ => 0)))] 0 0
  refine ww_aload_n C dX12_of_0 0 rfl rfl ?_
  refine ww_iload_n C dX12_of_1 1 rfl rfl ?_
  refine ww_ci (wr := []) (k' := 0) (n' := 0) C (run_V (As := [.int p0]) (rest := []) C (r_isWorld X.2.1 E hm p0 m_manys m_reals m_factsOf m_possible m_tape m_ends m_letters m_actOf m_whom m_actMany m_tokens m_afters m_afterOf m_pile m_caseMany m_happen m_hasIf m_becomes m_goneOf m_heard m_pairs m_heaps m_led m_newAt m_knowing m_firsts m_secrets m_tried m_lanes m_lengths m_cells) mi_X12_isWorld wl_X12_132 rfl 0 12 rfl rfl rfl rfl rfl dX12_of_2) [0, 1] [] rfl rfl rfl rfl (fun r u hw => ?_)
  obtain ⟨rfl, rfl⟩ := hw
  refine ww_eq (ws' := [(hm, .inr (12, [.ref m_manys, .ref m_reals, .ref m_factsOf, .ref m_possible, .int 0, .int 0, .ref m_tape, .int 0, .int 0, .int 0, .int 0, .int 0, .int 0, .int 0, .int 0, .ref m_ends, .ref m_letters, .ref m_actOf, .ref m_whom, .ref m_actMany, .ref m_tokens, .ref m_afters, .ref m_afterOf, .int 0, .ref m_pile, .ref m_caseMany, .ref m_happen, .ref m_hasIf, .ref m_becomes, .ref m_goneOf, .ref m_heard, .ref m_pairs, .ref m_heaps, .int 0, .int 0, .ref m_led, .ref m_newAt, .ref m_knowing, .ref m_firsts, .int 0, .ref m_secrets, .ref m_tried, .ref m_lanes, .ref m_lengths, .ref m_cells])), (m_manys, .inl (E.2.1 1, 18, .inl (fun _ => 0)))]) ?_ rfl rfl rfl
  refine ww_if_ne_f (tgt := 10) C dX12_of_5 (by decide) (rfl) ?_
  refine ww_iconst (v := (-1)) C dX12_of_8 rfl ?_
  exact ww_iret (u := []) C hT [] rfl rfl rfl rfl dX12_of_9 (⟨rfl, rfl⟩)
theorem dX12_reach_0 : decode cX12_reach 0 = .ok (.iload_n 1, 1) := by decide +kernel
theorem dX12_reach_1 : decode cX12_reach 1 = .ok (.i2l, 1) := by decide +kernel
theorem dX12_reach_2 : decode cX12_reach 2 = .ok (.lconst 0, 1) := by decide +kernel
theorem dX12_reach_3 : decode cX12_reach 3 = .ok (.ldc2_w 119, 3) := by decide +kernel
theorem dX12_reach_6 : decode cX12_reach 6 = .ok (.invokestatic 115, 3) := by decide +kernel
theorem dX12_reach_9 : decode cX12_reach 9 = .ok (.ifCond .eq 21, 3) := by decide +kernel
theorem dX12_reach_12 : decode cX12_reach 12 = .ok (.aload_n 0, 1) := by decide +kernel
theorem dX12_reach_13 : decode cX12_reach 13 = .ok (.iload_n 2, 1) := by decide +kernel
theorem dX12_reach_14 : decode cX12_reach 14 = .ok (.invokevirtual 132, 3) := by decide +kernel
theorem dX12_reach_17 : decode cX12_reach 17 = .ok (.ifCond .eq 13, 3) := by decide +kernel
theorem dX12_reach_30 : decode cX12_reach 30 = .ok (.iconst (-1), 1) := by decide +kernel
theorem dX12_reach_31 : decode cX12_reach 31 = .ok (.ireturn, 1) := by decide +kernel
set_option maxRecDepth 100000 in
set_option maxHeartbeats 4000000 in
theorem y_reach (l : Launch) (E : EV) (hm : Nat) (p0 : Int32) (p1 : Int32) (m_manys : Nat) (m_reals : Nat) (m_factsOf : Nat) (m_possible : Nat) (m_tape : Nat) (m_ends : Nat) (m_letters : Nat) (m_actOf : Nat) (m_whom : Nat) (m_actMany : Nat) (m_tokens : Nat) (m_afters : Nat) (m_afterOf : Nat) (m_pile : Nat) (m_caseMany : Nat) (m_happen : Nat) (m_hasIf : Nat) (m_becomes : Nat) (m_goneOf : Nat) (m_heard : Nat) (m_pairs : Nat) (m_heaps : Nat) (m_led : Nat) (m_newAt : Nat) (m_knowing : Nat) (m_firsts : Nat) (m_secrets : Nat) (m_tried : Nat) (m_lanes : Nat) (m_lengths : Nat) (m_cells : Nat)  : CT l yX12_reach (Cond.code yX12_reach cX12_reach 3 (some .int) :: TB) ({ frames := 2, cells := 0, slots := 0, locals := 46 }) E [.ref hm, .int p0, .int p1] [(hm, .inr (12, [.ref m_manys, .ref m_reals, .ref m_factsOf, .ref m_possible, .int 0, .int 0, .ref m_tape, .int 0, .int 0, .int 0, .int 0, .int 0, .int 0, .int 0, .int 0, .ref m_ends, .ref m_letters, .ref m_actOf, .ref m_whom, .ref m_actMany, .ref m_tokens, .ref m_afters, .ref m_afterOf, .int 0, .ref m_pile, .ref m_caseMany, .ref m_happen, .ref m_hasIf, .ref m_becomes, .ref m_goneOf, .ref m_heard, .ref m_pairs, .ref m_heaps, .int 0, .int 0, .ref m_led, .ref m_newAt, .ref m_knowing, .ref m_firsts, .int 0, .ref m_secrets, .ref m_tried, .ref m_lanes, .ref m_lengths, .ref m_cells])), (m_manys, .inl (E.2.1 1, 18, .inl (fun _ => 0)))] (Qi E (fun (r : Int32) u => (r = (-1) ∧ u = []))) 0 0 := by
  refine ct_of rfl rfl ?_
  intro X C hT hin
  show WW X 3 E 0 [(0, .ref hm), (1, .int p0), (2, .int p1)] [] [(hm, .inr (12, [.ref m_manys, .ref m_reals, .ref m_factsOf, .ref m_possible, .int 0, .int 0, .ref m_tape, .int 0, .int 0, .int 0, .int 0, .int 0, .int 0, .int 0, .int 0, .ref m_ends, .ref m_letters, .ref m_actOf, .ref m_whom, .ref m_actMany, .ref m_tokens, .ref m_afters, .ref m_afterOf, .int 0, .ref m_pile, .ref m_caseMany, .ref m_happen, .ref m_hasIf, .ref m_becomes, .ref m_goneOf, .ref m_heard, .ref m_pairs, .ref m_heaps, .int 0, .int 0, .ref m_led, .ref m_newAt, .ref m_knowing, .ref m_firsts, .int 0, .ref m_secrets, .ref m_tried, .ref m_lanes, .ref m_lengths, .ref m_cells])), (m_manys, .inl (E.2.1 1, 18, .inl (fun _ => 0)))] 0 0
  refine ww_iload_n C dX12_reach_0 1 rfl rfl ?_
  refine ww_i2l (v := p0.toInt64) C dX12_reach_1 rfl ?_
  refine ww_lconst (v := 0) C dX12_reach_2 rfl ?_
  refine ww_ldc2 C wv_X12_119 dX12_reach_3 ?_
  refine ww_ci (wr := [(hm, .inr (12, [.ref m_manys, .ref m_reals, .ref m_factsOf, .ref m_possible, .int 0, .int 0, .ref m_tape, .int 0, .int 0, .int 0, .int 0, .int 0, .int 0, .int 0, .int 0, .ref m_ends, .ref m_letters, .ref m_actOf, .ref m_whom, .ref m_actMany, .ref m_tokens, .ref m_afters, .ref m_afterOf, .int 0, .ref m_pile, .ref m_caseMany, .ref m_happen, .ref m_hasIf, .ref m_becomes, .ref m_goneOf, .ref m_heard, .ref m_pairs, .ref m_heaps, .int 0, .int 0, .ref m_led, .ref m_newAt, .ref m_knowing, .ref m_firsts, .int 0, .ref m_secrets, .ref m_tried, .ref m_lanes, .ref m_lengths, .ref m_cells])), (m_manys, .inl (E.2.1 1, 18, .inl (fun _ => 0)))]) (k' := 0) (n' := 0) C (run_S (As := [.long p0.toInt64, .long 0, .long 15]) (rest := []) C (r_in X.2.1 E p0.toInt64 0 15 p0.toInt 0 15 (Int32.toInt_toInt64 _) rfl rfl) ms_X12_in wl_X12_115 rfl rfl rfl rfl dX12_reach_6) [] [0, 1] rfl rfl rfl rfl (fun r u hw => ?_)
  rcases hw with ⟨rfl, rfl, h_1, h_2⟩ | ⟨rfl, rfl, h_3⟩
  · refine ww_eq (ws' := [(hm, .inr (12, [.ref m_manys, .ref m_reals, .ref m_factsOf, .ref m_possible, .int 0, .int 0, .ref m_tape, .int 0, .int 0, .int 0, .int 0, .int 0, .int 0, .int 0, .int 0, .ref m_ends, .ref m_letters, .ref m_actOf, .ref m_whom, .ref m_actMany, .ref m_tokens, .ref m_afters, .ref m_afterOf, .int 0, .ref m_pile, .ref m_caseMany, .ref m_happen, .ref m_hasIf, .ref m_becomes, .ref m_goneOf, .ref m_heard, .ref m_pairs, .ref m_heaps, .int 0, .int 0, .ref m_led, .ref m_newAt, .ref m_knowing, .ref m_firsts, .int 0, .ref m_secrets, .ref m_tried, .ref m_lanes, .ref m_lengths, .ref m_cells])), (m_manys, .inl (E.2.1 1, 18, .inl (fun _ => 0)))]) ?_ rfl rfl rfl
    refine ww_if_eq_f (tgt := 30) C dX12_reach_9 (by decide) (by decide) ?_
    refine ww_aload_n C dX12_reach_12 0 rfl rfl ?_
    refine ww_iload_n C dX12_reach_13 2 rfl rfl ?_
    refine ww_ci (wr := []) (k' := 0) (n' := 0) C (run_V (As := [.int p1]) (rest := []) C (r_isWorld X.2.1 E hm p1 m_manys m_reals m_factsOf m_possible m_tape m_ends m_letters m_actOf m_whom m_actMany m_tokens m_afters m_afterOf m_pile m_caseMany m_happen m_hasIf m_becomes m_goneOf m_heard m_pairs m_heaps m_led m_newAt m_knowing m_firsts m_secrets m_tried m_lanes m_lengths m_cells) mi_X12_isWorld wl_X12_132 rfl 0 12 rfl rfl rfl rfl rfl dX12_reach_14) [0, 1] [] rfl rfl rfl rfl (fun r u hw => ?_)
    obtain ⟨rfl, rfl⟩ := hw
    refine ww_eq (ws' := [(hm, .inr (12, [.ref m_manys, .ref m_reals, .ref m_factsOf, .ref m_possible, .int 0, .int 0, .ref m_tape, .int 0, .int 0, .int 0, .int 0, .int 0, .int 0, .int 0, .int 0, .ref m_ends, .ref m_letters, .ref m_actOf, .ref m_whom, .ref m_actMany, .ref m_tokens, .ref m_afters, .ref m_afterOf, .int 0, .ref m_pile, .ref m_caseMany, .ref m_happen, .ref m_hasIf, .ref m_becomes, .ref m_goneOf, .ref m_heard, .ref m_pairs, .ref m_heaps, .int 0, .int 0, .ref m_led, .ref m_newAt, .ref m_knowing, .ref m_firsts, .int 0, .ref m_secrets, .ref m_tried, .ref m_lanes, .ref m_lengths, .ref m_cells])), (m_manys, .inl (E.2.1 1, 18, .inl (fun _ => 0)))]) ?_ rfl rfl rfl
    refine ww_if_eq_t (tgt := 30) C dX12_reach_17 (by decide) (rfl) ?_
    refine ww_iconst (v := (-1)) C dX12_reach_30 rfl ?_
    exact ww_iret (u := []) C hT [] rfl rfl rfl rfl dX12_reach_31 (⟨rfl, rfl⟩)
  · refine ww_eq (ws' := [(hm, .inr (12, [.ref m_manys, .ref m_reals, .ref m_factsOf, .ref m_possible, .int 0, .int 0, .ref m_tape, .int 0, .int 0, .int 0, .int 0, .int 0, .int 0, .int 0, .int 0, .ref m_ends, .ref m_letters, .ref m_actOf, .ref m_whom, .ref m_actMany, .ref m_tokens, .ref m_afters, .ref m_afterOf, .int 0, .ref m_pile, .ref m_caseMany, .ref m_happen, .ref m_hasIf, .ref m_becomes, .ref m_goneOf, .ref m_heard, .ref m_pairs, .ref m_heaps, .int 0, .int 0, .ref m_led, .ref m_newAt, .ref m_knowing, .ref m_firsts, .int 0, .ref m_secrets, .ref m_tried, .ref m_lanes, .ref m_lengths, .ref m_cells])), (m_manys, .inl (E.2.1 1, 18, .inl (fun _ => 0)))]) ?_ rfl rfl rfl
    refine ww_if_eq_t (tgt := 30) C dX12_reach_9 (by decide) (rfl) ?_
    refine ww_iconst (v := (-1)) C dX12_reach_30 rfl ?_
    exact ww_iret (u := []) C hT [] rfl rfl rfl rfl dX12_reach_31 (⟨rfl, rfl⟩)
