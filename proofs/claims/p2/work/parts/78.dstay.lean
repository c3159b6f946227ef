/-! turns of the reference: what stays, turn by turn -/
theorem sgI_lt {sg : Int32} {k : Nat} : sgI sg k < 8 := by
  unfold sgI
  obtain ⟨j, hj, e⟩ := pk_andE (sg >>> (nI (3 * k) &&& 31)) (m := 7) 3 rfl
  rw [e, nI_clamp (by omega)]; omega
theorem tq_of {ft fm fa fw fo fn : Nat → Int32} {v0 v1 : Int32} (h : canT (rTk ft) v0 v1) (hW : WHT ft fm fa fw) : ∀ k, k < 4 → bt v0 k = true → rTT ft fm fa fw fo fn (sgI v1 k) = some (rT fm fa fw fo fn (sgI v1 k)) ∧ WHs (cN fm (sgI v1 k)) fa fw (sgI v1 k) := fun k hk hb => by
  have h1 := h.2.2.2.2 k hk hb
  unfold rTk at h1
  by_cases q : 0 < (ft (sgI v1 k)).toInt
  · exact ⟨if_pos q, hW _ sgI_lt q⟩
  · rw [if_neg q] at h1; cases h1
theorem tq_ask {ft fm fa fw fo fn : Nat → Int32} {v0 v1 : Int32} (h : canT (rTk ft) v0 v1) (hW : WHT ft fm fa fw) : ∀ k, k < 4 → bt v0 k = true → askd (rTT ft fm fa fw fo fn) v0 v1 k = true := fun k hk hb => askd_y hb rfl (tq_of h hW k hk hb).1
theorem can_TT {ft fm fa fw fo fn : Nat → Int32} {v0 v1 : Int32} (h : canT (rTk ft) v0 v1) : canT (rTT ft fm fa fw fo fn) v0 v1 := canT_cg rTk_T h
theorem cann_TT {ft fm fa fw fo fn : Nat → Int32} {v0 v1 : Int32} (h : ¬ canT (rTk ft) v0 v1) : ¬ canT (rTT ft fm fa fw fo fn) v0 v1 := fun q => h (canT_cg (fun k hk => (rTk_T k hk).symm) q)
theorem st_all {m : AM} {ev : Nat → EVl} {T : Nat → Option SVal} {gr sg x : Int32} {n : Nat} (h : ∀ i, i < 32 → bt x i = decide (i < n)) (e : m.1 = n) : BS x (stS m ev T gr sg 0) := fun i hi => by
  rw [h i hi, ← e]; rfl
theorem vall_bs {m : AM} {x : Int32} {n : Nat} (h : ∀ i, i < 32 → bt x i = decide (i < n)) (e : m.1 = n) : BS x (vAll m) := fun i hi => by
  rw [h i hi, ← e]; rfl
theorem st_in {m : AM} {ev : Nat → EVl} {T : Nat → Option SVal} {gr sg so : Int32} (h : BS so (stS m ev T gr sg 4)) {n : Nat} (e : m.1 = n) : ∀ i, i < 32 → bt so i = true → i < n := fun i hi hb => by
  rw [← e]; exact stS_lt 4 i (by rw [← h i hi]; exact hb)
theorem st_re {m : AM} (hw : WFm m) {ev : Nat → EVl} {T : Nat → Option SVal} {gr sg so : Int32} (h : BS so (stS m ev T gr sg 4)) (hr : m.2.1 < m.1) (h32 : m.1 ≤ 32) : bt so m.2.1 = true := by
  rw [h m.2.1 (by omega)]; exact stS_real hw hr 4
section GR
variable {m A A2 : AM} {ev : Nat → EVl} {T : Nat → Option SVal} {gr sg st al : Int32} {i : Nat}
theorem gr_cut (ha : A = goS m ev T gr sg i) (hr : A.2.1 < A.1) (h32 : A.1 ≤ 32) (hs : BS st (stS A ev T gr sg 4)) (hc : A2 = aCut A (bt st)) : A2 = goS m ev T gr sg (i + 1) := by
  show A2 = aCut (goS m ev T gr sg i) (stS (goS m ev T gr sg i) ev T gr sg 4)
  rw [hc, ← ha]
  exact aCut_cg hr (fun v hv => hs v (by omega))
theorem gr_rest (ha : A = goS m ev T gr sg i) (hs : BS st (stS A ev T gr sg 4)) (hl : BS al (vAll A)) (e : st = al) : restG m ev T gr sg i := by
  unfold restG
  rw [← ha]
  intro v hv
  rw [← hs v hv, ← hl v hv, e]
theorem gr_more (ha : A = goS m ev T gr sg i) (hs : BS st (stS A ev T gr sg 4)) (hl : BS al (vAll A)) (e : ¬ st = al) : ¬ restG m ev T gr sg i := by
  unfold restG
  rw [← ha]
  intro h
  exact e (b_ext (fun v hv => (hs v hv).trans ((h v hv).trans (hl v hv).symm)))
end GR
theorem kn_eq {A m : AM} {ev : Nat → EVl} {T : Nat → Option SVal} {gr sg wh : Int32} {i : Nat} (ha : A = goS m ev T gr sg i) (h : BS wh (knS A ev T gr sg 4)) : BS wh (knS (goS m ev T gr sg i) ev T gr sg 4) := by rw [← ha]; exact h
section FS2
variable {m : AM} {ev : Nat → EVl} {T : Nat → Option SVal} {gr sg : Int32} {g k : Nat} {f f' : Nat → Int32} {x : Int32}
theorem upd_same {v : Int32} (ex : f k = v) (e : upd f k v = f') : f' = f := by
  rw [← e]; funext i
  by_cases q : i = k
  · rw [q, pk_us, ex]
  · rw [pk_un q]
theorem fr_n (h : ∀ k', k' < 4 → f k' = if k' < k then fstS m ev T gr sg k' (g + 1) else fstS m ev T gr sg k' g) (hk : k < 4) (hkn : knS (goS m ev T gr sg g) ev T gr sg 4 k = false) (ex : f k = x) (e : upd f k x = f') : ∀ k', k' < 4 → f' k' = if k' < k + 1 then fstS m ev T gr sg k' (g + 1) else fstS m ev T gr sg k' g := by
  rw [upd_same ex e]; exact fs_n h hk hkn
theorem fr_o {y : Int32} (h : ∀ k', k' < 4 → f k' = if k' < k then fstS m ev T gr sg k' (g + 1) else fstS m ev T gr sg k' g) (hk : k < 4) (ey : f k = y) (h4 : ¬ y = -4) (ex : f k = x) (e : upd f k x = f') : ∀ k', k' < 4 → f' k' = if k' < k + 1 then fstS m ev T gr sg k' (g + 1) else fstS m ev T gr sg k' g := by
  rw [upd_same ex e]; exact fs_o h hk ey h4
theorem fr_0 {f0 : Nat → Int32} (h : ∀ k, k < 4 → f0 k = -4) : ∀ k', k' < 4 → f0 k' = fstS m ev T gr sg k' 0 := fun k' hk => h k' hk
theorem fr_b (h : ∀ k', k' < 4 → f k' = fstS m ev T gr sg k' g) : ∀ k', k' < 4 → f k' = if k' < 0 then fstS m ev T gr sg k' (g + 1) else fstS m ev T gr sg k' g := fun k' hk => by
  rw [if_neg (Nat.not_lt_zero k')]; exact h k' hk
theorem fr_e (h : ∀ k', k' < 4 → f k' = if k' < k then fstS m ev T gr sg k' (g + 1) else fstS m ev T gr sg k' g) (hk : k = 4) : ∀ k', k' < 4 → f k' = fstS m ev T gr sg k' (g + 1) := fun k' hk' => by
  have h1 := h k' hk'
  rw [if_pos (by omega)] at h1; exact h1
end FS2
theorem dX12_staying_0 : decode cX12_staying 0 = .ok (.aload_n 0, 1) := by decide +kernel
theorem dX12_staying_1 : decode cX12_staying 1 = .ok (.getfield 7, 3) := by decide +kernel
theorem dX12_staying_4 : decode cX12_staying 4 = .ok (.iload_n 1, 1) := by decide +kernel
theorem dX12_staying_5 : decode cX12_staying 5 = .ok (.iaload, 1) := by decide +kernel
theorem dX12_staying_6 : decode cX12_staying 6 = .ok (.invokestatic 230, 3) := by decide +kernel
theorem dX12_staying_9 : decode cX12_staying 9 = .ok (.istore_n 3, 1) := by decide +kernel
theorem dX12_staying_10 : decode cX12_staying 10 = .ok (.iconst 0, 1) := by decide +kernel
theorem dX12_staying_11 : decode cX12_staying 11 = .ok (.istore 4, 2) := by decide +kernel
theorem dX12_staying_13 : decode cX12_staying 13 = .ok (.iload 4, 2) := by decide +kernel
theorem dX12_staying_15 : decode cX12_staying 15 = .ok (.iconst 4, 1) := by decide +kernel
theorem dX12_staying_16 : decode cX12_staying 16 = .ok (.if_icmp .ge 61, 3) := by decide +kernel
theorem dX12_staying_77 : decode cX12_staying 77 = .ok (.iload_n 3, 1) := by decide +kernel
theorem dX12_staying_78 : decode cX12_staying 78 = .ok (.ireturn, 1) := by decide +kernel
theorem dX12_staying_19 : decode cX12_staying 19 = .ok (.iload_n 2, 1) := by decide +kernel
theorem dX12_staying_20 : decode cX12_staying 20 = .ok (.iload 4, 2) := by decide +kernel
theorem dX12_staying_22 : decode cX12_staying 22 = .ok (.ishr, 1) := by decide +kernel
theorem dX12_staying_23 : decode cX12_staying 23 = .ok (.iconst 1, 1) := by decide +kernel
theorem dX12_staying_24 : decode cX12_staying 24 = .ok (.iand, 1) := by decide +kernel
theorem dX12_staying_25 : decode cX12_staying 25 = .ok (.iconst 1, 1) := by decide +kernel
theorem dX12_staying_26 : decode cX12_staying 26 = .ok (.if_icmp .ne 45, 3) := by decide +kernel
theorem dX12_staying_71 : decode cX12_staying 71 = .ok (.iinc 4 1, 3) := by decide +kernel
theorem dX12_staying_74 : decode cX12_staying 74 = .ok (.goto (-61), 3) := by decide +kernel
theorem dX12_staying_29 : decode cX12_staying 29 = .ok (.iload_n 3, 1) := by decide +kernel
theorem dX12_staying_30 : decode cX12_staying 30 = .ok (.aload_n 0, 1) := by decide +kernel
theorem dX12_staying_31 : decode cX12_staying 31 = .ok (.getfield 84, 3) := by decide +kernel
theorem dX12_staying_34 : decode cX12_staying 34 = .ok (.iload 4, 2) := by decide +kernel
theorem dX12_staying_36 : decode cX12_staying 36 = .ok (.iaload, 1) := by decide +kernel
theorem dX12_staying_37 : decode cX12_staying 37 = .ok (.aload_n 0, 1) := by decide +kernel
theorem dX12_staying_38 : decode cX12_staying 38 = .ok (.getfield 13, 3) := by decide +kernel
theorem dX12_staying_41 : decode cX12_staying 41 = .ok (.iload_n 1, 1) := by decide +kernel
theorem dX12_staying_42 : decode cX12_staying 42 = .ok (.iaload, 1) := by decide +kernel
theorem dX12_staying_43 : decode cX12_staying 43 = .ok (.ishr, 1) := by decide +kernel
theorem dX12_staying_44 : decode cX12_staying 44 = .ok (.iconst 1, 1) := by decide +kernel
theorem dX12_staying_45 : decode cX12_staying 45 = .ok (.iand, 1) := by decide +kernel
theorem dX12_staying_46 : decode cX12_staying 46 = .ok (.iconst 1, 1) := by decide +kernel
theorem dX12_staying_47 : decode cX12_staying 47 = .ok (.if_icmp .ne 13, 3) := by decide +kernel
theorem dX12_staying_60 : decode cX12_staying 60 = .ok (.aload_n 0, 1) := by decide +kernel
theorem dX12_staying_61 : decode cX12_staying 61 = .ok (.getfield 84, 3) := by decide +kernel
theorem dX12_staying_64 : decode cX12_staying 64 = .ok (.iload 4, 2) := by decide +kernel
theorem dX12_staying_66 : decode cX12_staying 66 = .ok (.iaload, 1) := by decide +kernel
theorem dX12_staying_67 : decode cX12_staying 67 = .ok (.iconst (-1), 1) := by decide +kernel
theorem dX12_staying_68 : decode cX12_staying 68 = .ok (.ixor, 1) := by decide +kernel
theorem dX12_staying_69 : decode cX12_staying 69 = .ok (.iand, 1) := by decide +kernel
theorem dX12_staying_70 : decode cX12_staying 70 = .ok (.istore_n 3, 1) := by decide +kernel
theorem dX12_staying_50 : decode cX12_staying 50 = .ok (.aload_n 0, 1) := by decide +kernel
theorem dX12_staying_51 : decode cX12_staying 51 = .ok (.getfield 84, 3) := by decide +kernel
theorem dX12_staying_54 : decode cX12_staying 54 = .ok (.iload 4, 2) := by decide +kernel
theorem dX12_staying_56 : decode cX12_staying 56 = .ok (.iaload, 1) := by decide +kernel
theorem dX12_staying_57 : decode cX12_staying 57 = .ok (.goto 12, 3) := by decide +kernel
set_option maxRecDepth 100000 in
set_option maxHeartbeats 4000000 in
theorem r_staying (l : Launch) (E : EV) (ro : va_W) (hm : Nat) (pa : Nat) (gr : Int32) (m_manys : Nat) (m_reals : Nat) (m_factsOf : Nat) (m_possible : Nat) (q_undos : Nat) (q_models : Nat) (m_tape : Nat) (q_taped : Nat) (q_fault : Int32) (q_wrong : Int32) (q_wrongAt : Int32) (q_spot : Int32) (q_place : Int32) (q_token : Int32) (q_value : Int32) (m_ends : Nat) (m_letters : Nat) (m_actOf : Nat) (m_whom : Nat) (m_actMany : Nat) (m_tokens : Nat) (m_afters : Nat) (m_afterOf : Nat) (q_counted : Int32) (m_pile : Nat) (m_caseMany : Nat) (m_happen : Nat) (m_hasIf : Nat) (m_becomes : Nat) (m_goneOf : Nat) (m_heard : Nat) (m_pairs : Nat) (m_heaps : Nat) (q_rounds : Int32) (q_heapMany : Int32) (m_led : Nat) (m_newAt : Nat) (m_knowing : Nat) (m_firsts : Nat) (q_people : Nat) (m_secrets : Nat) (m_tried : Nat) (m_lanes : Nat) (m_lengths : Nat) (m_cells : Nat) (f_manys : Nat → Int32) (f_reals : Nat → Int32) (f_knowing : Nat → Int32) (Am : AM) (Ae : Nat → EVl) (Tq : Nat → Option SVal) (sg : Int32) (hb_manys : NB 18 24 f_manys) (hb_reals : NB 18 23 f_reals) (hpg : PG f_manys f_reals) (hpa : pa < 18) (hm1 : Am.1 = cN f_manys pa) (hm2 : Am.2.1 = cN f_reals pa) (hka : ∀ j, j < 4 → bt gr j = true → BS (f_knowing j) (aKn Am Ae Tq sg j)) (hak : ∀ j, j < 4 → bt gr j = true → askd Tq gr sg j = true) : CT l yX12_staying (Cond.code yX12_staying cX12_staying 5 (some .int) :: TB) ({ frames := 1, cells := 0, slots := 0, locals := 20 }) E ro [.ref hm, .int (nI pa), .int gr] [(hm, .inr (12, [.ref m_manys, .ref m_reals, .ref m_factsOf, .ref m_possible, .int (nI q_undos), .int (nI q_models), .ref m_tape, .int (nI q_taped), .int q_fault, .int q_wrong, .int q_wrongAt, .int q_spot, .int q_place, .int q_token, .int q_value, .ref m_ends, .ref m_letters, .ref m_actOf, .ref m_whom, .ref m_actMany, .ref m_tokens, .ref m_afters, .ref m_afterOf, .int q_counted, .ref m_pile, .ref m_caseMany, .ref m_happen, .ref m_hasIf, .ref m_becomes, .ref m_goneOf, .ref m_heard, .ref m_pairs, .ref m_heaps, .int q_rounds, .int q_heapMany, .ref m_led, .ref m_newAt, .ref m_knowing, .ref m_firsts, .int (nI q_people), .ref m_secrets, .ref m_tried, .ref m_lanes, .ref m_lengths, .ref m_cells])), (m_manys, .inl (E.2.1 1, 18, .inl f_manys)), (m_reals, .inl (E.2.1 1, 18, .inl f_reals)), (m_knowing, .inl (E.2.1 1, 4, .inl f_knowing))] (Qi E (fun (rz : Int32) uz => (uz = [(hm, .inr (12, [.ref m_manys, .ref m_reals, .ref m_factsOf, .ref m_possible, .int (nI q_undos), .int (nI q_models), .ref m_tape, .int (nI q_taped), .int q_fault, .int q_wrong, .int q_wrongAt, .int q_spot, .int q_place, .int q_token, .int q_value, .ref m_ends, .ref m_letters, .ref m_actOf, .ref m_whom, .ref m_actMany, .ref m_tokens, .ref m_afters, .ref m_afterOf, .int q_counted, .ref m_pile, .ref m_caseMany, .ref m_happen, .ref m_hasIf, .ref m_becomes, .ref m_goneOf, .ref m_heard, .ref m_pairs, .ref m_heaps, .int q_rounds, .int q_heapMany, .ref m_led, .ref m_newAt, .ref m_knowing, .ref m_firsts, .int (nI q_people), .ref m_secrets, .ref m_tried, .ref m_lanes, .ref m_lengths, .ref m_cells])), (m_manys, .inl (E.2.1 1, 18, .inl f_manys)), (m_reals, .inl (E.2.1 1, 18, .inl f_reals)), (m_knowing, .inl (E.2.1 1, 4, .inl f_knowing))] ∧ (BS rz (stS Am Ae Tq gr sg 4))))) 0 0 := by
  refine ct_of rfl rfl ?_
  intro X C hT hin hro
  show WW X 5 E 0 [(0, .ref hm), (1, .int (nI pa)), (2, .int gr)] [] [(hm, .inr (12, [.ref m_manys, .ref m_reals, .ref m_factsOf, .ref m_possible, .int (nI q_undos), .int (nI q_models), .ref m_tape, .int (nI q_taped), .int q_fault, .int q_wrong, .int q_wrongAt, .int q_spot, .int q_place, .int q_token, .int q_value, .ref m_ends, .ref m_letters, .ref m_actOf, .ref m_whom, .ref m_actMany, .ref m_tokens, .ref m_afters, .ref m_afterOf, .int q_counted, .ref m_pile, .ref m_caseMany, .ref m_happen, .ref m_hasIf, .ref m_becomes, .ref m_goneOf, .ref m_heard, .ref m_pairs, .ref m_heaps, .int q_rounds, .int q_heapMany, .ref m_led, .ref m_newAt, .ref m_knowing, .ref m_firsts, .int (nI q_people), .ref m_secrets, .ref m_tried, .ref m_lanes, .ref m_lengths, .ref m_cells])), (m_manys, .inl (E.2.1 1, 18, .inl f_manys)), (m_reals, .inl (E.2.1 1, 18, .inl f_reals)), (m_knowing, .inl (E.2.1 1, 4, .inl f_knowing))] 0 0
  have hmn0 := (hb_manys 0 (by omega)).2
  have hmnp := (hb_manys pa (by omega)).2
  have hrlp := (hb_reals pa (by omega)).2
  refine ww_aload_n C dX12_staying_0 0 rfl rfl ?_
  refine ww_get C fg_X12_7 0 rfl rfl dX12_staying_1 ?_
  refine ww_iload_n C dX12_staying_4 1 rfl rfl ?_
  have hbx_1 := (hb_manys pa (by omega)).2
  refine ww_iald (v := (nI (cN f_manys pa))) C 1 rfl (vp_in_nI (by omega) (by omega)) (ldn (by omega) (hb_manys pa (by omega)).1) dX12_staying_5 ?_
  refine ww_ci (wr := [(hm, .inr (12, [.ref m_manys, .ref m_reals, .ref m_factsOf, .ref m_possible, .int (nI q_undos), .int (nI q_models), .ref m_tape, .int (nI q_taped), .int q_fault, .int q_wrong, .int q_wrongAt, .int q_spot, .int q_place, .int q_token, .int q_value, .ref m_ends, .ref m_letters, .ref m_actOf, .ref m_whom, .ref m_actMany, .ref m_tokens, .ref m_afters, .ref m_afterOf, .int q_counted, .ref m_pile, .ref m_caseMany, .ref m_happen, .ref m_hasIf, .ref m_becomes, .ref m_goneOf, .ref m_heard, .ref m_pairs, .ref m_heaps, .int q_rounds, .int q_heapMany, .ref m_led, .ref m_newAt, .ref m_knowing, .ref m_firsts, .int (nI q_people), .ref m_secrets, .ref m_tried, .ref m_lanes, .ref m_lengths, .ref m_cells])), (m_manys, .inl (E.2.1 1, 18, .inl f_manys)), (m_reals, .inl (E.2.1 1, 18, .inl f_reals)), (m_knowing, .inl (E.2.1 1, 4, .inl f_knowing))]) (k' := 0) (n' := 0) C (run_S (As := [.int (nI (cN f_manys pa))]) (rest := []) C (r_all X.2.1 E ro (cN f_manys pa) (by omega)) ms_X12_all wl_X12_230 rfl rfl rfl rfl dX12_staying_6) (roK hro) [] [0, 1, 2, 3] rfl rfl rfl rfl (fun r_2 uz hw => ?_)
  refine an1 hw ?_
  clear hw
  intro he_4 hw
  have h_3 := hw
  clear hw
  subst he_4
  refine ww_eq (ws' := [(hm, .inr (12, [.ref m_manys, .ref m_reals, .ref m_factsOf, .ref m_possible, .int (nI q_undos), .int (nI q_models), .ref m_tape, .int (nI q_taped), .int q_fault, .int q_wrong, .int q_wrongAt, .int q_spot, .int q_place, .int q_token, .int q_value, .ref m_ends, .ref m_letters, .ref m_actOf, .ref m_whom, .ref m_actMany, .ref m_tokens, .ref m_afters, .ref m_afterOf, .int q_counted, .ref m_pile, .ref m_caseMany, .ref m_happen, .ref m_hasIf, .ref m_becomes, .ref m_goneOf, .ref m_heard, .ref m_pairs, .ref m_heaps, .int q_rounds, .int q_heapMany, .ref m_led, .ref m_newAt, .ref m_knowing, .ref m_firsts, .int (nI q_people), .ref m_secrets, .ref m_tried, .ref m_lanes, .ref m_lengths, .ref m_cells])), (m_manys, .inl (E.2.1 1, 18, .inl f_manys)), (m_reals, .inl (E.2.1 1, 18, .inl f_reals)), (m_knowing, .inl (E.2.1 1, 4, .inl f_knowing))]) ?_ rfl rfl rfl
  refine ww_istore_n (lv' := [(3, .int r_2), (0, .ref hm), (1, .int (nI pa)), (2, .int gr)]) C dX12_staying_9 rfl rfl rfl ?_
  refine ww_iconst (v := 0) C dX12_staying_10 rfl ?_
  refine ww_istore (lv' := [(4, .int 0), (3, .int r_2), (0, .ref hm), (1, .int (nI pa)), (2, .int gr)]) C dX12_staying_11 rfl rfl ?_
  have loop_13 : ∀ (fu : Nat) (k1 : Nat) (so : Int32), (k1 ≤ 4) → (BS so (stS Am Ae Tq gr sg k1)) → 4 - k1 < fu → WW X 5 E 13 [(4, .int (nI k1)), (3, .int so), (0, .ref hm), (1, .int (nI pa)), (2, .int gr)] [] [(hm, .inr (12, [.ref m_manys, .ref m_reals, .ref m_factsOf, .ref m_possible, .int (nI q_undos), .int (nI q_models), .ref m_tape, .int (nI q_taped), .int q_fault, .int q_wrong, .int q_wrongAt, .int q_spot, .int q_place, .int q_token, .int q_value, .ref m_ends, .ref m_letters, .ref m_actOf, .ref m_whom, .ref m_actMany, .ref m_tokens, .ref m_afters, .ref m_afterOf, .int q_counted, .ref m_pile, .ref m_caseMany, .ref m_happen, .ref m_hasIf, .ref m_becomes, .ref m_goneOf, .ref m_heard, .ref m_pairs, .ref m_heaps, .int q_rounds, .int q_heapMany, .ref m_led, .ref m_newAt, .ref m_knowing, .ref m_firsts, .int (nI q_people), .ref m_secrets, .ref m_tried, .ref m_lanes, .ref m_lengths, .ref m_cells])), (m_manys, .inl (E.2.1 1, 18, .inl f_manys)), (m_reals, .inl (E.2.1 1, 18, .inl f_reals)), (m_knowing, .inl (E.2.1 1, 4, .inl f_knowing))] 0 0 := by
    intro fu
    induction fu with
    | zero => intro k1 so hk1 hst hmeas; exact absurd hmeas (Nat.not_lt_zero _)
    | succ fu ih_13 =>
      intro k1 so hk1 hst hmeas
      refine ww_iload C dX12_staying_13 0 rfl ?_
      refine ww_iconst (v := 4) C dX12_staying_15 rfl ?_
      refine ww_icmp_ge (tgt := 77) C dX12_staying_16 (by decide) (fun c_5 => ?_) (fun c_5 => ?_)
      · have zc_5 : ((k1 : Nat) : Int) ≥ 4 := i_le rfl (nI_toInt (n := k1) (by omega)) c_5
        refine ww_iload_n C dX12_staying_77 1 rfl rfl ?_
        exact ww_iret (u := [(hm, .inr (12, [.ref m_manys, .ref m_reals, .ref m_factsOf, .ref m_possible, .int (nI q_undos), .int (nI q_models), .ref m_tape, .int (nI q_taped), .int q_fault, .int q_wrong, .int q_wrongAt, .int q_spot, .int q_place, .int q_token, .int q_value, .ref m_ends, .ref m_letters, .ref m_actOf, .ref m_whom, .ref m_actMany, .ref m_tokens, .ref m_afters, .ref m_afterOf, .int q_counted, .ref m_pile, .ref m_caseMany, .ref m_happen, .ref m_hasIf, .ref m_becomes, .ref m_goneOf, .ref m_heard, .ref m_pairs, .ref m_heaps, .int q_rounds, .int q_heapMany, .ref m_led, .ref m_newAt, .ref m_knowing, .ref m_firsts, .int (nI q_people), .ref m_secrets, .ref m_tried, .ref m_lanes, .ref m_lengths, .ref m_cells])), (m_manys, .inl (E.2.1 1, 18, .inl f_manys)), (m_reals, .inl (E.2.1 1, 18, .inl f_reals)), (m_knowing, .inl (E.2.1 1, 4, .inl f_knowing))]) C hT [0, 1, 2, 3] rfl rfl rfl rfl dX12_staying_78 (⟨rfl, (by have h9 : k1 = 4 := (by omega); rw [h9] at hst; exact hst)⟩)
      · have zc_5 : ((k1 : Nat) : Int) < 4 := i_nle rfl (nI_toInt (n := k1) (by omega)) c_5
        refine ww_iload_n C dX12_staying_19 4 rfl rfl ?_
        refine ww_iload C dX12_staying_20 0 rfl ?_
        obtain ⟨x_6, ex_6⟩ : ∃ z : Int32, gr >>> ((nI k1) &&& 31) = z := ⟨_, rfl⟩
        refine ww_ishr (v := x_6) C dX12_staying_22 ex_6 ?_
        refine ww_iconst (v := 1) C dX12_staying_23 rfl ?_
        obtain ⟨j_7, hj_7, ej_7⟩ := pk_andE x_6 (m := 1) 1 rfl
        refine ww_iand (v := (nI j_7)) C dX12_staying_24 ej_7 ?_
        refine ww_iconst (v := 1) C dX12_staying_25 rfl ?_
        refine ww_icmp_ne (tgt := 71) C dX12_staying_26 (by decide) (fun c_8 => ?_) (fun c_8 => ?_)
        · have zc_8 : ((j_7 : Nat) : Int) ≠ 1 := i_ne (nI_toInt (n := j_7) (by omega)) rfl c_8
          refine ww_iinc (j := 0) (v := (nI (k1 + 1))) (lv' := [(4, .int (nI (k1 + 1))), (3, .int so), (0, .ref hm), (1, .int (nI pa)), (2, .int gr)]) C dX12_staying_71 rfl (nI_add k1 1) rfl rfl ?_
          refine ww_goto (tgt := 13) C dX12_staying_74 (by decide) ?_
          exact ww_lv [0, 1, 2, 3, 4] rfl (ww_sub [0, 1, 2, 3] rfl rfl (ih_13 (k1 + 1) so (by omega) (stS_0 hst (askd_z (hasb_0 (b := gr) (p := k1) (by omega) (by assumption) (by assumption) (by omega)))) (by omega)))
        · have zc_8 : ((j_7 : Nat) : Int) = 1 := i_eq (nI_toInt (n := j_7) (by omega)) rfl c_8
          refine ww_iload_n C dX12_staying_29 1 rfl rfl ?_
          refine ww_aload_n C dX12_staying_30 2 rfl rfl ?_
          refine ww_get C fg_X12_84 0 rfl rfl dX12_staying_31 ?_
          refine ww_iload C dX12_staying_34 0 rfl ?_
          obtain ⟨x_9, ex_9⟩ : ∃ z : Int32, f_knowing k1 = z := ⟨_, rfl⟩
          refine ww_iald (v := x_9) C 3 rfl (vp_in_nI (by omega) (by omega)) (ldn (by omega) ex_9) dX12_staying_36 ?_
          refine ww_aload_n C dX12_staying_37 2 rfl rfl ?_
          refine ww_get C fg_X12_13 0 rfl rfl dX12_staying_38 ?_
          refine ww_iload_n C dX12_staying_41 3 rfl rfl ?_
          have hbx_10 := (hb_reals pa (by omega)).2
          refine ww_iald (v := (nI (cN f_reals pa))) C 2 rfl (vp_in_nI (by omega) (by omega)) (ldn (by omega) (hb_reals pa (by omega)).1) dX12_staying_42 ?_
          obtain ⟨x_11, ex_11⟩ : ∃ z : Int32, x_9 >>> ((nI (cN f_reals pa)) &&& 31) = z := ⟨_, rfl⟩
          refine ww_ishr (v := x_11) C dX12_staying_43 ex_11 ?_
          refine ww_iconst (v := 1) C dX12_staying_44 rfl ?_
          obtain ⟨j_12, hj_12, ej_12⟩ := pk_andE x_11 (m := 1) 1 rfl
          refine ww_iand (v := (nI j_12)) C dX12_staying_45 ej_12 ?_
          refine ww_iconst (v := 1) C dX12_staying_46 rfl ?_
          refine ww_icmp_ne (tgt := 60) C dX12_staying_47 (by decide) (fun c_13 => ?_) (fun c_13 => ?_)
          · have zc_13 : ((j_12 : Nat) : Int) ≠ 1 := i_ne (nI_toInt (n := j_12) (by omega)) rfl c_13
            refine ww_aload_n C dX12_staying_60 2 rfl rfl ?_
            refine ww_get C fg_X12_84 0 rfl rfl dX12_staying_61 ?_
            refine ww_iload C dX12_staying_64 0 rfl ?_
            refine ww_iald (v := x_9) C 3 rfl (vp_in_nI (by omega) (by omega)) (ldn (by omega) ex_9) dX12_staying_66 ?_
            refine ww_iconst (v := (-1)) C dX12_staying_67 rfl ?_
            obtain ⟨x_14, ex_14⟩ : ∃ z : Int32, x_9 ^^^ ((-1) : Int32) = z := ⟨_, rfl⟩
            refine ww_ixor (v := x_14) C dX12_staying_68 ex_14 ?_
            obtain ⟨x_15, ex_15⟩ : ∃ z : Int32, so &&& x_14 = z := ⟨_, rfl⟩
            refine ww_iand (v := x_15) C dX12_staying_69 ex_15 ?_
            refine ww_istore_n (lv' := [(3, .int x_15), (4, .int (nI k1)), (0, .ref hm), (1, .int (nI pa)), (2, .int gr)]) C dX12_staying_70 rfl rfl rfl ?_
            refine ww_iinc (j := 1) (v := (nI (k1 + 1))) (lv' := [(4, .int (nI (k1 + 1))), (3, .int x_15), (0, .ref hm), (1, .int (nI pa)), (2, .int gr)]) C dX12_staying_71 rfl (nI_add k1 1) rfl rfl ?_
            refine ww_goto (tgt := 13) C dX12_staying_74 (by decide) ?_
            exact ww_lv [0, 1, 2, 3, 4] rfl (ww_sub [0, 1, 2, 3] rfl rfl (ih_13 (k1 + 1) x_15 (by omega) (stS_n hst (hak k1 (by omega) (hasb_1 (b := gr) (p := k1) (by omega) (by assumption) (by assumption) (by omega))) (by rw [← ex_9]; exact hka k1 (by omega) (hasb_1 (b := gr) (p := k1) (by omega) (by assumption) (by assumption) (by omega))) (by rw [hm2]; omega) (by rw [hm2]; exact hasb_0 (b := x_9) (p := cN f_reals pa) (by omega) (by assumption) (by assumption) (by omega)) ex_14 ex_15) (by omega)))
          · have zc_13 : ((j_12 : Nat) : Int) = 1 := i_eq (nI_toInt (n := j_12) (by omega)) rfl c_13
            refine ww_aload_n C dX12_staying_50 2 rfl rfl ?_
            refine ww_get C fg_X12_84 0 rfl rfl dX12_staying_51 ?_
            refine ww_iload C dX12_staying_54 0 rfl ?_
            refine ww_iald (v := x_9) C 3 rfl (vp_in_nI (by omega) (by omega)) (ldn (by omega) ex_9) dX12_staying_56 ?_
            refine ww_goto (tgt := 69) C dX12_staying_57 (by decide) ?_
            obtain ⟨x_16, ex_16⟩ : ∃ z : Int32, so &&& x_9 = z := ⟨_, rfl⟩
            refine ww_iand (v := x_16) C dX12_staying_69 ex_16 ?_
            refine ww_istore_n (lv' := [(3, .int x_16), (4, .int (nI k1)), (0, .ref hm), (1, .int (nI pa)), (2, .int gr)]) C dX12_staying_70 rfl rfl rfl ?_
            refine ww_iinc (j := 1) (v := (nI (k1 + 1))) (lv' := [(4, .int (nI (k1 + 1))), (3, .int x_16), (0, .ref hm), (1, .int (nI pa)), (2, .int gr)]) C dX12_staying_71 rfl (nI_add k1 1) rfl rfl ?_
            refine ww_goto (tgt := 13) C dX12_staying_74 (by decide) ?_
            exact ww_lv [0, 1, 2, 3, 4] rfl (ww_sub [0, 1, 2, 3] rfl rfl (ih_13 (k1 + 1) x_16 (by omega) (stS_y hst (hak k1 (by omega) (hasb_1 (b := gr) (p := k1) (by omega) (by assumption) (by assumption) (by omega))) (by rw [← ex_9]; exact hka k1 (by omega) (hasb_1 (b := gr) (p := k1) (by omega) (by assumption) (by assumption) (by omega))) (by rw [hm2]; omega) (by rw [hm2]; exact hasb_1 (b := x_9) (p := cN f_reals pa) (by omega) (by assumption) (by assumption) (by omega)) ex_16) (by omega)))
  exact ww_lv [0, 1, 2, 3, 4] rfl (ww_sub [0, 1, 2, 3] rfl rfl (loop_13 _ 0 r_2 (by omega) (st_all h_3 hm1) (Nat.lt_succ_self _)))
