section
theorem dX11_world_0 : decode cX11_world 0 = .ok (.iload_n 1, 1) := dl_27 (by decide +kernel)
theorem dX11_world_1 : decode cX11_world 1 = .ok (.iconst 0, 1) := dl_3 (by decide +kernel)
theorem dX11_world_2 : decode cX11_world 2 = .ok (.bipush 15, 2) := dl_16 (by decide +kernel)
theorem dX11_world_4 : decode cX11_world 4 = .ok (.invokestatic 76, 3) := dl_184 (by decide +kernel)
theorem wl_X11_76 : Cond.methodLink RX11 76 yX11_within ∈ TB := tbm (tq2 (List.mem_of_getElem? (i := 146) (by decide +kernel))) (by decide +kernel)
theorem wc_X11_within : Cond.code yX11_within cX11_within 3 (some .boolean) ∈ TB := tbm (tq2 (List.mem_of_getElem? (i := 148) (rfl))) (by decide +kernel)
theorem wt_X11_within : Cond.static yX11_within ∈ TB := tbm (tq2 (List.mem_of_getElem? (i := 147) (by decide +kernel))) (by decide +kernel)
theorem ms_X11_within : MS yX11_within cX11_within 3 (some .boolean) 3 := ⟨wc_X11_within, wn_X11, ⟨by decide +kernel, by decide +kernel, by decide +kernel⟩, wt_X11_within⟩
theorem dX11_world_7 : decode cX11_world 7 = .ok (.ifCond .ne 5, 3) := dl_154 (by decide +kernel)
theorem dX11_world_12 : decode cX11_world 12 = .ok (.aload_n 0, 1) := dl_42 (by decide +kernel)
theorem dX11_world_13 : decode cX11_world 13 = .ok (.getfield 10, 3) := dl_180 (by decide +kernel)
theorem dX11_world_16 : decode cX11_world 16 = .ok (.getfield 125, 3) := dl_180 (by decide +kernel)
theorem wf_X11_125 : Cond.fieldLink RX11 125 RX4 "size" "I" ∈ TB := tbm (tq1 (List.mem_of_getElem? (i := 38) (by decide +kernel))) (by decide +kernel)
theorem fg_X11_125 : FG RX11 125 4 0 := ⟨RX4, TX4, 4, uw_X4, wf_X11_125, rfl, by decide, rfl⟩
theorem dX11_world_19 : decode cX11_world 19 = .ok (.bipush 24, 2) := dl_16 (by decide +kernel)
theorem dX11_world_21 : decode cX11_world 21 = .ok (.if_icmp .lt 6, 3) := dl_161 (by decide +kernel)
theorem dX11_world_27 : decode cX11_world 27 = .ok (.aload_n 0, 1) := dl_42 (by decide +kernel)
theorem dX11_world_28 : decode cX11_world 28 = .ok (.invokevirtual 128, 3) := dl_182 (by decide +kernel)
theorem wl_X11_128 : Cond.methodLink RX11 128 yX11_remember ∈ TB := tbm (tq2 (List.mem_of_getElem? (i := 149) (by decide +kernel))) (by decide +kernel)
theorem wc_X11_remember : Cond.code yX11_remember cX11_remember 1 none ∈ TB := tbm (tq2 (List.mem_of_getElem? (i := 152) (rfl))) (by decide +kernel)
theorem wi_X11_remember : Cond.instanceMethod yX11_remember ∈ TB := tbm (tq2 (List.mem_of_getElem? (i := 151) (by decide +kernel))) (by decide +kernel)
theorem ws_X11_remember : Cond.selects RX11 yX11_remember yX11_remember ∈ TB := tbm (tq0 (List.mem_of_getElem? (i := 0) (by decide +kernel))) (by decide +kernel)
theorem mi_X11_remember : MI yX11_remember cX11_remember 1 none 0 := ⟨wc_X11_remember, wn_X11, ⟨by decide +kernel, by decide +kernel, by decide +kernel⟩, wi_X11_remember, ws_X11_remember⟩
theorem dX11_world_31 : decode cX11_world 31 = .ok (.aload_n 0, 1) := dl_42 (by decide +kernel)
theorem dX11_world_32 : decode cX11_world 32 = .ok (.getfield 10, 3) := dl_180 (by decide +kernel)
theorem dX11_world_35 : decode cX11_world 35 = .ok (.iload_n 1, 1) := dl_27 (by decide +kernel)
theorem dX11_world_36 : decode cX11_world 36 = .ok (.invokevirtual 131, 3) := dl_182 (by decide +kernel)
theorem wl_X11_131 : Cond.methodLink RX11 131 yX4_add ∈ TB := tbm (tq2 (List.mem_of_getElem? (i := 163) (by decide +kernel))) (by decide +kernel)
theorem dX11_world_39 : decode cX11_world 39 = .ok (.ireturn, 1) := dl_172 (by decide +kernel)
theorem dX11_world_24 : decode cX11_world 24 = .ok (.bipush (-3), 2) := dl_16 (by decide +kernel)
theorem dX11_world_26 : decode cX11_world 26 = .ok (.ireturn, 1) := dl_172 (by decide +kernel)
theorem dX11_world_10 : decode cX11_world 10 = .ok (.iconst (-1), 1) := dl_2 (by decide +kernel)
theorem dX11_world_11 : decode cX11_world 11 = .ok (.ireturn, 1) := dl_172 (by decide +kernel)
set_option maxRecDepth 100000 in
set_option maxHeartbeats 4000000 in
theorem x_world (l : Launch) (E : EV) (ro : va_W) (hx : Nat) (v0 : Int32) (h : Nat) (qp : Nat) (ac : Nat) (np : Nat) (qs : Nat) (qj : Nat) (ly : Nat) (qh : Nat) (kk : Nat) (kc : Nat) (rd : Nat) (pg : Nat) (pe : Nat) (kn : Int32) (ss : Nat) (fqp : Nat → Option Nat) (p0 : Nat) (p1 : Nat) (p2 : Nat) (p3 : Nat) (p4 : Nat) (p5 : Nat) (p6 : Nat) (p7 : Nat) (p0n : Nat) (p0r : Nat) (p0a : Nat) (p0b : Nat) (p0f : Nat → Int32) (p0g : Nat → Int32) (p1n : Nat) (p1r : Nat) (p1a : Nat) (p1b : Nat) (p1f : Nat → Int32) (p1g : Nat → Int32) (p2n : Nat) (p2r : Nat) (p2a : Nat) (p2b : Nat) (p2f : Nat → Int32) (p2g : Nat → Int32) (p3n : Nat) (p3r : Nat) (p3a : Nat) (p3b : Nat) (p3f : Nat → Int32) (p3g : Nat → Int32) (p4n : Nat) (p4r : Nat) (p4a : Nat) (p4b : Nat) (p4f : Nat → Int32) (p4g : Nat → Int32) (p5n : Nat) (p5r : Nat) (p5a : Nat) (p5b : Nat) (p5f : Nat → Int32) (p5g : Nat → Int32) (p6n : Nat) (p6r : Nat) (p6a : Nat) (p6b : Nat) (p6f : Nat → Int32) (p6g : Nat → Int32) (p7n : Nat) (p7r : Nat) (p7a : Nat) (p7b : Nat) (p7f : Nat → Int32) (p7g : Nat → Int32) (n : Nat) (r : Nat) (a : Nat) (b : Nat) (f : Nat → Int32) (gg : Nat → Int32) (k_fqp_0 : fqp 0 = some p0) (k_fqp_1 : fqp 1 = some p1) (k_fqp_2 : fqp 2 = some p2) (k_fqp_3 : fqp 3 = some p3) (k_fqp_4 : fqp 4 = some p4) (k_fqp_5 : fqp 5 = some p5) (k_fqp_6 : fqp 6 = some p6) (k_fqp_7 : fqp 7 = some p7) (hac : ac ≤ 8) (hnp : np < 8) (hkc : kc ≤ 4) (hpe : pe ≤ 4) (hp0_n : p0n ≤ 24) (hp0_r : p0r < p0n ∨ p0r = 0) (hp0_w : WFm (am p0n p0r p0f p0g)) (hp1_n : p1n ≤ 24) (hp1_r : p1r < p1n ∨ p1r = 0) (hp1_w : WFm (am p1n p1r p1f p1g)) (hp2_n : p2n ≤ 24) (hp2_r : p2r < p2n ∨ p2r = 0) (hp2_w : WFm (am p2n p2r p2f p2g)) (hp3_n : p3n ≤ 24) (hp3_r : p3r < p3n ∨ p3r = 0) (hp3_w : WFm (am p3n p3r p3f p3g)) (hp4_n : p4n ≤ 24) (hp4_r : p4r < p4n ∨ p4r = 0) (hp4_w : WFm (am p4n p4r p4f p4g)) (hp5_n : p5n ≤ 24) (hp5_r : p5r < p5n ∨ p5r = 0) (hp5_w : WFm (am p5n p5r p5f p5g)) (hp6_n : p6n ≤ 24) (hp6_r : p6r < p6n ∨ p6r = 0) (hp6_w : WFm (am p6n p6r p6f p6g)) (hp7_n : p7n ≤ 24) (hp7_r : p7r < p7n ∨ p7r = 0) (hp7_w : WFm (am p7n p7r p7f p7g)) (hn : n ≤ 24) (hr : r < n ∨ r = 0) (hwfm : WFm (am n r f gg)) : CT l yX11_world (Cond.code yX11_world cX11_world 2 (some .int) :: TB) ({ frames := 3, cells := 0, slots := 0, locals := 105 }) E ro [.ref hx, .int v0] [(hx, .inr (11, [.ref h, .ref qp, .int (nI ac), .int (nI np), .ref qs, .ref qj, .ref ly, .ref qh, .ref kk, .int (nI kc), .ref rd, .ref pg, .int (nI pe), .int kn, .ref ss])), (qp, .inl (E.2.1 6, 8, .inr (.inr (.inr (.inr fqp))))), (p0, .inr (4, [.int (nI p0n), .int (nI p0r), .ref p0a, .ref p0b])), (p0a, .inl (E.2.1 1, 24, .inl p0f)), (p0b, .inl (E.2.1 1, 96, .inl p0g)), (p1, .inr (4, [.int (nI p1n), .int (nI p1r), .ref p1a, .ref p1b])), (p1a, .inl (E.2.1 1, 24, .inl p1f)), (p1b, .inl (E.2.1 1, 96, .inl p1g)), (p2, .inr (4, [.int (nI p2n), .int (nI p2r), .ref p2a, .ref p2b])), (p2a, .inl (E.2.1 1, 24, .inl p2f)), (p2b, .inl (E.2.1 1, 96, .inl p2g)), (p3, .inr (4, [.int (nI p3n), .int (nI p3r), .ref p3a, .ref p3b])), (p3a, .inl (E.2.1 1, 24, .inl p3f)), (p3b, .inl (E.2.1 1, 96, .inl p3g)), (p4, .inr (4, [.int (nI p4n), .int (nI p4r), .ref p4a, .ref p4b])), (p4a, .inl (E.2.1 1, 24, .inl p4f)), (p4b, .inl (E.2.1 1, 96, .inl p4g)), (p5, .inr (4, [.int (nI p5n), .int (nI p5r), .ref p5a, .ref p5b])), (p5a, .inl (E.2.1 1, 24, .inl p5f)), (p5b, .inl (E.2.1 1, 96, .inl p5g)), (p6, .inr (4, [.int (nI p6n), .int (nI p6r), .ref p6a, .ref p6b])), (p6a, .inl (E.2.1 1, 24, .inl p6f)), (p6b, .inl (E.2.1 1, 96, .inl p6g)), (p7, .inr (4, [.int (nI p7n), .int (nI p7r), .ref p7a, .ref p7b])), (p7a, .inl (E.2.1 1, 24, .inl p7f)), (p7b, .inl (E.2.1 1, 96, .inl p7g)), (h, .inr (4, [.int (nI n), .int (nI r), .ref a, .ref b])), (a, .inl (E.2.1 1, 24, .inl f)), (b, .inl (E.2.1 1, 96, .inl gg))] (Qi E (fun (rz : Int32) uz => (∃ (acz : Nat) (npz : Nat) (p0nz : Nat) (p0rz_ : Nat) (p0fz : Nat → Int32) (p0gz : Nat → Int32) (p1nz : Nat) (p1rz_ : Nat) (p1fz : Nat → Int32) (p1gz : Nat → Int32) (p2nz : Nat) (p2rz_ : Nat) (p2fz : Nat → Int32) (p2gz : Nat → Int32) (p3nz : Nat) (p3rz_ : Nat) (p3fz : Nat → Int32) (p3gz : Nat → Int32) (p4nz : Nat) (p4rz_ : Nat) (p4fz : Nat → Int32) (p4gz : Nat → Int32) (p5nz : Nat) (p5rz_ : Nat) (p5fz : Nat → Int32) (p5gz : Nat → Int32) (p6nz : Nat) (p6rz_ : Nat) (p6fz : Nat → Int32) (p6gz : Nat → Int32) (p7nz : Nat) (p7rz_ : Nat) (p7fz : Nat → Int32) (p7gz : Nat → Int32) (nz : Nat) (rz_ : Nat) (fz : Nat → Int32) (ggz : Nat → Int32), uz = [(hx, .inr (11, [.ref h, .ref qp, .int (nI acz), .int (nI npz), .ref qs, .ref qj, .ref ly, .ref qh, .ref kk, .int (nI kc), .ref rd, .ref pg, .int (nI pe), .int kn, .ref ss])), (qp, .inl (E.2.1 6, 8, .inr (.inr (.inr (.inr fqp))))), (p0, .inr (4, [.int (nI p0nz), .int (nI p0rz_), .ref p0a, .ref p0b])), (p0a, .inl (E.2.1 1, 24, .inl p0fz)), (p0b, .inl (E.2.1 1, 96, .inl p0gz)), (p1, .inr (4, [.int (nI p1nz), .int (nI p1rz_), .ref p1a, .ref p1b])), (p1a, .inl (E.2.1 1, 24, .inl p1fz)), (p1b, .inl (E.2.1 1, 96, .inl p1gz)), (p2, .inr (4, [.int (nI p2nz), .int (nI p2rz_), .ref p2a, .ref p2b])), (p2a, .inl (E.2.1 1, 24, .inl p2fz)), (p2b, .inl (E.2.1 1, 96, .inl p2gz)), (p3, .inr (4, [.int (nI p3nz), .int (nI p3rz_), .ref p3a, .ref p3b])), (p3a, .inl (E.2.1 1, 24, .inl p3fz)), (p3b, .inl (E.2.1 1, 96, .inl p3gz)), (p4, .inr (4, [.int (nI p4nz), .int (nI p4rz_), .ref p4a, .ref p4b])), (p4a, .inl (E.2.1 1, 24, .inl p4fz)), (p4b, .inl (E.2.1 1, 96, .inl p4gz)), (p5, .inr (4, [.int (nI p5nz), .int (nI p5rz_), .ref p5a, .ref p5b])), (p5a, .inl (E.2.1 1, 24, .inl p5fz)), (p5b, .inl (E.2.1 1, 96, .inl p5gz)), (p6, .inr (4, [.int (nI p6nz), .int (nI p6rz_), .ref p6a, .ref p6b])), (p6a, .inl (E.2.1 1, 24, .inl p6fz)), (p6b, .inl (E.2.1 1, 96, .inl p6gz)), (p7, .inr (4, [.int (nI p7nz), .int (nI p7rz_), .ref p7a, .ref p7b])), (p7a, .inl (E.2.1 1, 24, .inl p7fz)), (p7b, .inl (E.2.1 1, 96, .inl p7gz)), (h, .inr (4, [.int (nI nz), .int (nI rz_), .ref a, .ref b])), (a, .inl (E.2.1 1, 24, .inl fz)), (b, .inl (E.2.1 1, 96, .inl ggz))] ∧ (acz ≤ 8) ∧ (npz < 8) ∧ (p0nz ≤ 24) ∧ (p0rz_ < p0nz ∨ p0rz_ = 0) ∧ (WFm (am p0nz p0rz_ p0fz p0gz)) ∧ (p1nz ≤ 24) ∧ (p1rz_ < p1nz ∨ p1rz_ = 0) ∧ (WFm (am p1nz p1rz_ p1fz p1gz)) ∧ (p2nz ≤ 24) ∧ (p2rz_ < p2nz ∨ p2rz_ = 0) ∧ (WFm (am p2nz p2rz_ p2fz p2gz)) ∧ (p3nz ≤ 24) ∧ (p3rz_ < p3nz ∨ p3rz_ = 0) ∧ (WFm (am p3nz p3rz_ p3fz p3gz)) ∧ (p4nz ≤ 24) ∧ (p4rz_ < p4nz ∨ p4rz_ = 0) ∧ (WFm (am p4nz p4rz_ p4fz p4gz)) ∧ (p5nz ≤ 24) ∧ (p5rz_ < p5nz ∨ p5rz_ = 0) ∧ (WFm (am p5nz p5rz_ p5fz p5gz)) ∧ (p6nz ≤ 24) ∧ (p6rz_ < p6nz ∨ p6rz_ = 0) ∧ (WFm (am p6nz p6rz_ p6fz p6gz)) ∧ (p7nz ≤ 24) ∧ (p7rz_ < p7nz ∨ p7rz_ = 0) ∧ (WFm (am p7nz p7rz_ p7fz p7gz)) ∧ (nz ≤ 24) ∧ (rz_ < nz ∨ rz_ = 0) ∧ (WFm (am nz rz_ fz ggz)) ∧ (((asX (am nz rz_ fz ggz) acz npz (pick8 (am p0nz p0rz_ p0fz p0gz) (am p1nz p1rz_ p1fz p1gz) (am p2nz p2rz_ p2fz p2gz) (am p3nz p3rz_ p3fz p3gz) (am p4nz p4rz_ p4fz p4gz) (am p5nz p5rz_ p5fz p5gz) (am p6nz p6rz_ p6fz p6gz) (am p7nz p7rz_ p7fz p7gz))), rz) = opWorld (asX (am n r f gg) ac np (pick8 (am p0n p0r p0f p0g) (am p1n p1r p1f p1g) (am p2n p2r p2f p2g) (am p3n p3r p3f p3g) (am p4n p4r p4f p4g) (am p5n p5r p5f p5g) (am p6n p6r p6f p6g) (am p7n p7r p7f p7g))) v0)))) 0 0 := by
  refine ct_of rfl rfl ?_
  intro X C hT hin hro
  show WW X 2 E 0 [(0, .ref hx), (1, .int v0)] [] [(hx, .inr (11, [.ref h, .ref qp, .int (nI ac), .int (nI np), .ref qs, .ref qj, .ref ly, .ref qh, .ref kk, .int (nI kc), .ref rd, .ref pg, .int (nI pe), .int kn, .ref ss])), (qp, .inl (E.2.1 6, 8, .inr (.inr (.inr (.inr fqp))))), (p0, .inr (4, [.int (nI p0n), .int (nI p0r), .ref p0a, .ref p0b])), (p0a, .inl (E.2.1 1, 24, .inl p0f)), (p0b, .inl (E.2.1 1, 96, .inl p0g)), (p1, .inr (4, [.int (nI p1n), .int (nI p1r), .ref p1a, .ref p1b])), (p1a, .inl (E.2.1 1, 24, .inl p1f)), (p1b, .inl (E.2.1 1, 96, .inl p1g)), (p2, .inr (4, [.int (nI p2n), .int (nI p2r), .ref p2a, .ref p2b])), (p2a, .inl (E.2.1 1, 24, .inl p2f)), (p2b, .inl (E.2.1 1, 96, .inl p2g)), (p3, .inr (4, [.int (nI p3n), .int (nI p3r), .ref p3a, .ref p3b])), (p3a, .inl (E.2.1 1, 24, .inl p3f)), (p3b, .inl (E.2.1 1, 96, .inl p3g)), (p4, .inr (4, [.int (nI p4n), .int (nI p4r), .ref p4a, .ref p4b])), (p4a, .inl (E.2.1 1, 24, .inl p4f)), (p4b, .inl (E.2.1 1, 96, .inl p4g)), (p5, .inr (4, [.int (nI p5n), .int (nI p5r), .ref p5a, .ref p5b])), (p5a, .inl (E.2.1 1, 24, .inl p5f)), (p5b, .inl (E.2.1 1, 96, .inl p5g)), (p6, .inr (4, [.int (nI p6n), .int (nI p6r), .ref p6a, .ref p6b])), (p6a, .inl (E.2.1 1, 24, .inl p6f)), (p6b, .inl (E.2.1 1, 96, .inl p6g)), (p7, .inr (4, [.int (nI p7n), .int (nI p7r), .ref p7a, .ref p7b])), (p7a, .inl (E.2.1 1, 24, .inl p7f)), (p7b, .inl (E.2.1 1, 96, .inl p7g)), (h, .inr (4, [.int (nI n), .int (nI r), .ref a, .ref b])), (a, .inl (E.2.1 1, 24, .inl f)), (b, .inl (E.2.1 1, 96, .inl gg))] 0 0
  refine ww_iload_n C dX11_world_0 1 rfl rfl ?_
  refine ww_iconst (v := 0) C dX11_world_1 rfl ?_
  refine ww_bipush (v := 15) C dX11_world_2 rfl ?_
  refine ww_ci (wr := [(hx, .inr (11, [.ref h, .ref qp, .int (nI ac), .int (nI np), .ref qs, .ref qj, .ref ly, .ref qh, .ref kk, .int (nI kc), .ref rd, .ref pg, .int (nI pe), .int kn, .ref ss])), (qp, .inl (E.2.1 6, 8, .inr (.inr (.inr (.inr fqp))))), (p0, .inr (4, [.int (nI p0n), .int (nI p0r), .ref p0a, .ref p0b])), (p0a, .inl (E.2.1 1, 24, .inl p0f)), (p0b, .inl (E.2.1 1, 96, .inl p0g)), (p1, .inr (4, [.int (nI p1n), .int (nI p1r), .ref p1a, .ref p1b])), (p1a, .inl (E.2.1 1, 24, .inl p1f)), (p1b, .inl (E.2.1 1, 96, .inl p1g)), (p2, .inr (4, [.int (nI p2n), .int (nI p2r), .ref p2a, .ref p2b])), (p2a, .inl (E.2.1 1, 24, .inl p2f)), (p2b, .inl (E.2.1 1, 96, .inl p2g)), (p3, .inr (4, [.int (nI p3n), .int (nI p3r), .ref p3a, .ref p3b])), (p3a, .inl (E.2.1 1, 24, .inl p3f)), (p3b, .inl (E.2.1 1, 96, .inl p3g)), (p4, .inr (4, [.int (nI p4n), .int (nI p4r), .ref p4a, .ref p4b])), (p4a, .inl (E.2.1 1, 24, .inl p4f)), (p4b, .inl (E.2.1 1, 96, .inl p4g)), (p5, .inr (4, [.int (nI p5n), .int (nI p5r), .ref p5a, .ref p5b])), (p5a, .inl (E.2.1 1, 24, .inl p5f)), (p5b, .inl (E.2.1 1, 96, .inl p5g)), (p6, .inr (4, [.int (nI p6n), .int (nI p6r), .ref p6a, .ref p6b])), (p6a, .inl (E.2.1 1, 24, .inl p6f)), (p6b, .inl (E.2.1 1, 96, .inl p6g)), (p7, .inr (4, [.int (nI p7n), .int (nI p7r), .ref p7a, .ref p7b])), (p7a, .inl (E.2.1 1, 24, .inl p7f)), (p7b, .inl (E.2.1 1, 96, .inl p7g)), (h, .inr (4, [.int (nI n), .int (nI r), .ref a, .ref b])), (a, .inl (E.2.1 1, 24, .inl f)), (b, .inl (E.2.1 1, 96, .inl gg))]) (k' := 0) (n' := 0) C (run_S (As := [.int v0, .int 0, .int 15]) (rest := []) C (c_within X.2.1 E ro v0 0 15 v0.toInt 0 15 rfl rfl rfl) ms_X11_within wl_X11_76 rfl rfl rfl rfl dX11_world_4) (roK hro) [] [0, 1, 2, 3, 4, 5, 6, 7, 8, 9, 10, 11, 12, 13, 14, 15, 16, 17, 18, 19, 20, 21, 22, 23, 24, 25, 26, 27, 28] rfl (gqk (by eq_refl)) (plk (by decide +kernel)) rfl (fun r_1 uz hw => ?_)
  rcases hw with hw | hw
  · refine an3 hw ?_
    clear hw
    intro he_4 he_5 h_2 hw
    have h_3 := hw
    clear hw
    have he_4 := he_4.symm
    subst he_4
    subst he_5
    refine ww_eq (ws' := [(hx, .inr (11, [.ref h, .ref qp, .int (nI ac), .int (nI np), .ref qs, .ref qj, .ref ly, .ref qh, .ref kk, .int (nI kc), .ref rd, .ref pg, .int (nI pe), .int kn, .ref ss])), (qp, .inl (E.2.1 6, 8, .inr (.inr (.inr (.inr fqp))))), (p0, .inr (4, [.int (nI p0n), .int (nI p0r), .ref p0a, .ref p0b])), (p0a, .inl (E.2.1 1, 24, .inl p0f)), (p0b, .inl (E.2.1 1, 96, .inl p0g)), (p1, .inr (4, [.int (nI p1n), .int (nI p1r), .ref p1a, .ref p1b])), (p1a, .inl (E.2.1 1, 24, .inl p1f)), (p1b, .inl (E.2.1 1, 96, .inl p1g)), (p2, .inr (4, [.int (nI p2n), .int (nI p2r), .ref p2a, .ref p2b])), (p2a, .inl (E.2.1 1, 24, .inl p2f)), (p2b, .inl (E.2.1 1, 96, .inl p2g)), (p3, .inr (4, [.int (nI p3n), .int (nI p3r), .ref p3a, .ref p3b])), (p3a, .inl (E.2.1 1, 24, .inl p3f)), (p3b, .inl (E.2.1 1, 96, .inl p3g)), (p4, .inr (4, [.int (nI p4n), .int (nI p4r), .ref p4a, .ref p4b])), (p4a, .inl (E.2.1 1, 24, .inl p4f)), (p4b, .inl (E.2.1 1, 96, .inl p4g)), (p5, .inr (4, [.int (nI p5n), .int (nI p5r), .ref p5a, .ref p5b])), (p5a, .inl (E.2.1 1, 24, .inl p5f)), (p5b, .inl (E.2.1 1, 96, .inl p5g)), (p6, .inr (4, [.int (nI p6n), .int (nI p6r), .ref p6a, .ref p6b])), (p6a, .inl (E.2.1 1, 24, .inl p6f)), (p6b, .inl (E.2.1 1, 96, .inl p6g)), (p7, .inr (4, [.int (nI p7n), .int (nI p7r), .ref p7a, .ref p7b])), (p7a, .inl (E.2.1 1, 24, .inl p7f)), (p7b, .inl (E.2.1 1, 96, .inl p7g)), (h, .inr (4, [.int (nI n), .int (nI r), .ref a, .ref b])), (a, .inl (E.2.1 1, 24, .inl f)), (b, .inl (E.2.1 1, 96, .inl gg))]) ?_ rfl rfl rfl
    refine ww_if_ne_t (tgt := 12) C dX11_world_7 (by decide) (by decide) ?_
    refine ww_aload_n C dX11_world_12 0 rfl rfl ?_
    refine ww_get C fg_X11_10 0 rfl rfl dX11_world_13 ?_
    refine ww_get C fg_X11_125 26 rfl rfl dX11_world_16 ?_
    refine ww_bipush (v := 24) C dX11_world_19 rfl ?_
    refine ww_icmp_lt (tgt := 27) C dX11_world_21 (by decide) (fun c_9 => ?_) (fun c_9 => ?_)
    · have zc_9 : ((n : Nat) : Int) < 24 := i_lt (nI_toInt (n := n) (by omega)) rfl c_9
      refine ww_aload_n C dX11_world_27 0 rfl rfl ?_
      refine ww_cv (wr := []) (k' := 0) (n' := 0) C (run_V (As := []) (rest := []) C (x_remember X.2.1 E ro hx h qp ac np qs qj ly qh kk kc rd pg pe kn ss fqp p0 p1 p2 p3 p4 p5 p6 p7 p0n p0r p0a p0b p0f p0g p1n p1r p1a p1b p1f p1g p2n p2r p2a p2b p2f p2g p3n p3r p3a p3b p3f p3g p4n p4r p4a p4b p4f p4g p5n p5r p5a p5b p5f p5g p6n p6r p6a p6b p6f p6g p7n p7r p7a p7b p7f p7g n r a b f gg k_fqp_0 k_fqp_1 k_fqp_2 k_fqp_3 k_fqp_4 k_fqp_5 k_fqp_6 k_fqp_7 (by omega) (by omega) (by omega) (by omega) (by omega) (by omega) (by omega) (by omega) (by omega) (by omega) (by omega) (by omega) (by omega) (by omega) (by omega) (by omega) (by omega) (by omega) (by omega) (by omega) (by omega) (by omega) (by omega) (by omega) (by omega) (by omega) (by omega) (by omega) (by omega) (by omega) (by omega)) mi_X11_remember wl_X11_128 rfl 0 11 rfl rfl rfl rfl rfl dX11_world_28) (roK hro) [0, 1, 2, 3, 4, 5, 6, 7, 8, 9, 10, 11, 12, 13, 14, 15, 16, 17, 18, 19, 20, 21, 22, 23, 24, 25, 26, 27, 28] [] (gqk (by eq_refl)) rfl (plk (by decide +kernel)) rfl (fun uz hw => ?_)
      refine ex8 hw ?_
      clear hw
      intro acz_11 npz_12 p0nz_13 p0rz__14 p0fz_15 p0gz_16 p1nz_17 p1rz__18 hw
      refine ex8 hw ?_
      clear hw
      intro p1fz_19 p1gz_20 p2nz_21 p2rz__22 p2fz_23 p2gz_24 p3nz_25 p3rz__26 hw
      refine ex8 hw ?_
      clear hw
      intro p3fz_27 p3gz_28 p4nz_29 p4rz__30 p4fz_31 p4gz_32 p5nz_33 p5rz__34 hw
      refine ex8 hw ?_
      clear hw
      intro p5fz_35 p5gz_36 p6nz_37 p6rz__38 p6fz_39 p6gz_40 p7nz_41 p7rz__42 hw
      refine ex2 hw ?_
      clear hw
      intro p7fz_43 p7gz_44 hw
      refine an8 hw ?_
      clear hw
      intro he_74 h_45 h_46 h_47 h_48 h_49 h_50 h_51 hw
      refine an8 hw ?_
      clear hw
      intro h_52 h_53 h_54 h_55 h_56 h_57 h_58 h_59 hw
      refine an8 hw ?_
      clear hw
      intro h_60 h_61 h_62 h_63 h_64 h_65 h_66 h_67 hw
      refine an5 hw ?_
      clear hw
      intro h_68 h_69 h_70 h_71 h_72 hw
      have h_73 := hw
      clear hw
      subst he_74
      refine ww_eq (ws' := [(hx, .inr (11, [.ref h, .ref qp, .int (nI acz_11), .int (nI npz_12), .ref qs, .ref qj, .ref ly, .ref qh, .ref kk, .int (nI kc), .ref rd, .ref pg, .int (nI pe), .int kn, .ref ss])), (qp, .inl (E.2.1 6, 8, .inr (.inr (.inr (.inr fqp))))), (p0, .inr (4, [.int (nI p0nz_13), .int (nI p0rz__14), .ref p0a, .ref p0b])), (p0a, .inl (E.2.1 1, 24, .inl p0fz_15)), (p0b, .inl (E.2.1 1, 96, .inl p0gz_16)), (p1, .inr (4, [.int (nI p1nz_17), .int (nI p1rz__18), .ref p1a, .ref p1b])), (p1a, .inl (E.2.1 1, 24, .inl p1fz_19)), (p1b, .inl (E.2.1 1, 96, .inl p1gz_20)), (p2, .inr (4, [.int (nI p2nz_21), .int (nI p2rz__22), .ref p2a, .ref p2b])), (p2a, .inl (E.2.1 1, 24, .inl p2fz_23)), (p2b, .inl (E.2.1 1, 96, .inl p2gz_24)), (p3, .inr (4, [.int (nI p3nz_25), .int (nI p3rz__26), .ref p3a, .ref p3b])), (p3a, .inl (E.2.1 1, 24, .inl p3fz_27)), (p3b, .inl (E.2.1 1, 96, .inl p3gz_28)), (p4, .inr (4, [.int (nI p4nz_29), .int (nI p4rz__30), .ref p4a, .ref p4b])), (p4a, .inl (E.2.1 1, 24, .inl p4fz_31)), (p4b, .inl (E.2.1 1, 96, .inl p4gz_32)), (p5, .inr (4, [.int (nI p5nz_33), .int (nI p5rz__34), .ref p5a, .ref p5b])), (p5a, .inl (E.2.1 1, 24, .inl p5fz_35)), (p5b, .inl (E.2.1 1, 96, .inl p5gz_36)), (p6, .inr (4, [.int (nI p6nz_37), .int (nI p6rz__38), .ref p6a, .ref p6b])), (p6a, .inl (E.2.1 1, 24, .inl p6fz_39)), (p6b, .inl (E.2.1 1, 96, .inl p6gz_40)), (p7, .inr (4, [.int (nI p7nz_41), .int (nI p7rz__42), .ref p7a, .ref p7b])), (p7a, .inl (E.2.1 1, 24, .inl p7fz_43)), (p7b, .inl (E.2.1 1, 96, .inl p7gz_44)), (h, .inr (4, [.int (nI n), .int (nI r), .ref a, .ref b])), (a, .inl (E.2.1 1, 24, .inl f)), (b, .inl (E.2.1 1, 96, .inl gg))]) ?_ rfl rfl rfl
      refine ww_aload_n C dX11_world_31 0 rfl rfl ?_
      refine ww_get C fg_X11_10 0 rfl rfl dX11_world_32 ?_
      refine ww_iload_n C dX11_world_35 1 rfl rfl ?_
      refine ww_ci (wr := [(hx, .inr (11, [.ref h, .ref qp, .int (nI acz_11), .int (nI npz_12), .ref qs, .ref qj, .ref ly, .ref qh, .ref kk, .int (nI kc), .ref rd, .ref pg, .int (nI pe), .int kn, .ref ss])), (qp, .inl (E.2.1 6, 8, .inr (.inr (.inr (.inr fqp))))), (p0, .inr (4, [.int (nI p0nz_13), .int (nI p0rz__14), .ref p0a, .ref p0b])), (p0a, .inl (E.2.1 1, 24, .inl p0fz_15)), (p0b, .inl (E.2.1 1, 96, .inl p0gz_16)), (p1, .inr (4, [.int (nI p1nz_17), .int (nI p1rz__18), .ref p1a, .ref p1b])), (p1a, .inl (E.2.1 1, 24, .inl p1fz_19)), (p1b, .inl (E.2.1 1, 96, .inl p1gz_20)), (p2, .inr (4, [.int (nI p2nz_21), .int (nI p2rz__22), .ref p2a, .ref p2b])), (p2a, .inl (E.2.1 1, 24, .inl p2fz_23)), (p2b, .inl (E.2.1 1, 96, .inl p2gz_24)), (p3, .inr (4, [.int (nI p3nz_25), .int (nI p3rz__26), .ref p3a, .ref p3b])), (p3a, .inl (E.2.1 1, 24, .inl p3fz_27)), (p3b, .inl (E.2.1 1, 96, .inl p3gz_28)), (p4, .inr (4, [.int (nI p4nz_29), .int (nI p4rz__30), .ref p4a, .ref p4b])), (p4a, .inl (E.2.1 1, 24, .inl p4fz_31)), (p4b, .inl (E.2.1 1, 96, .inl p4gz_32)), (p5, .inr (4, [.int (nI p5nz_33), .int (nI p5rz__34), .ref p5a, .ref p5b])), (p5a, .inl (E.2.1 1, 24, .inl p5fz_35)), (p5b, .inl (E.2.1 1, 96, .inl p5gz_36)), (p6, .inr (4, [.int (nI p6nz_37), .int (nI p6rz__38), .ref p6a, .ref p6b])), (p6a, .inl (E.2.1 1, 24, .inl p6fz_39)), (p6b, .inl (E.2.1 1, 96, .inl p6gz_40)), (p7, .inr (4, [.int (nI p7nz_41), .int (nI p7rz__42), .ref p7a, .ref p7b])), (p7a, .inl (E.2.1 1, 24, .inl p7fz_43)), (p7b, .inl (E.2.1 1, 96, .inl p7gz_44))]) (k' := 0) (n' := 0) C (run_V (As := [.int v0]) (rest := []) C (m_add X.2.1 E ro h v0 n r a b f gg (by omega)) mi_X4_add wl_X11_131 rfl 0 4 rfl rfl rfl rfl rfl dX11_world_36) (roK hro) [26, 27, 28] [0, 1, 2, 3, 4, 5, 6, 7, 8, 9, 10, 11, 12, 13, 14, 15, 16, 17, 18, 19, 20, 21, 22, 23, 24, 25] rfl (gqk (by eq_refl)) (plk (by decide +kernel)) rfl (fun r_75 uz hw => ?_)
      refine ex2 hw ?_
      clear hw
      intro f2_76 g2_77 hw
      refine an3 hw ?_
      clear hw
      intro he_80 he_81 h_78 hw
      have h_79 := hw
      clear hw
      have he_80 := he_80.symm
      subst he_80
      subst he_81
      refine ww_eq (ws' := [(hx, .inr (11, [.ref h, .ref qp, .int (nI acz_11), .int (nI npz_12), .ref qs, .ref qj, .ref ly, .ref qh, .ref kk, .int (nI kc), .ref rd, .ref pg, .int (nI pe), .int kn, .ref ss])), (qp, .inl (E.2.1 6, 8, .inr (.inr (.inr (.inr fqp))))), (p0, .inr (4, [.int (nI p0nz_13), .int (nI p0rz__14), .ref p0a, .ref p0b])), (p0a, .inl (E.2.1 1, 24, .inl p0fz_15)), (p0b, .inl (E.2.1 1, 96, .inl p0gz_16)), (p1, .inr (4, [.int (nI p1nz_17), .int (nI p1rz__18), .ref p1a, .ref p1b])), (p1a, .inl (E.2.1 1, 24, .inl p1fz_19)), (p1b, .inl (E.2.1 1, 96, .inl p1gz_20)), (p2, .inr (4, [.int (nI p2nz_21), .int (nI p2rz__22), .ref p2a, .ref p2b])), (p2a, .inl (E.2.1 1, 24, .inl p2fz_23)), (p2b, .inl (E.2.1 1, 96, .inl p2gz_24)), (p3, .inr (4, [.int (nI p3nz_25), .int (nI p3rz__26), .ref p3a, .ref p3b])), (p3a, .inl (E.2.1 1, 24, .inl p3fz_27)), (p3b, .inl (E.2.1 1, 96, .inl p3gz_28)), (p4, .inr (4, [.int (nI p4nz_29), .int (nI p4rz__30), .ref p4a, .ref p4b])), (p4a, .inl (E.2.1 1, 24, .inl p4fz_31)), (p4b, .inl (E.2.1 1, 96, .inl p4gz_32)), (p5, .inr (4, [.int (nI p5nz_33), .int (nI p5rz__34), .ref p5a, .ref p5b])), (p5a, .inl (E.2.1 1, 24, .inl p5fz_35)), (p5b, .inl (E.2.1 1, 96, .inl p5gz_36)), (p6, .inr (4, [.int (nI p6nz_37), .int (nI p6rz__38), .ref p6a, .ref p6b])), (p6a, .inl (E.2.1 1, 24, .inl p6fz_39)), (p6b, .inl (E.2.1 1, 96, .inl p6gz_40)), (p7, .inr (4, [.int (nI p7nz_41), .int (nI p7rz__42), .ref p7a, .ref p7b])), (p7a, .inl (E.2.1 1, 24, .inl p7fz_43)), (p7b, .inl (E.2.1 1, 96, .inl p7gz_44)), (h, .inr (4, [.int (nI (n + 1)), .int (nI r), .ref a, .ref b])), (a, .inl (E.2.1 1, 24, .inl f2_76)), (b, .inl (E.2.1 1, 96, .inl g2_77))]) ?_ rfl rfl rfl
      have hwz_82 : WFm (am (n + 1) r f2_76 g2_77) := by rw [h_78]; exact aAdd_wf hwfm
      exact ww_iret (u := [(hx, .inr (11, [.ref h, .ref qp, .int (nI acz_11), .int (nI npz_12), .ref qs, .ref qj, .ref ly, .ref qh, .ref kk, .int (nI kc), .ref rd, .ref pg, .int (nI pe), .int kn, .ref ss])), (qp, .inl (E.2.1 6, 8, .inr (.inr (.inr (.inr fqp))))), (p0, .inr (4, [.int (nI p0nz_13), .int (nI p0rz__14), .ref p0a, .ref p0b])), (p0a, .inl (E.2.1 1, 24, .inl p0fz_15)), (p0b, .inl (E.2.1 1, 96, .inl p0gz_16)), (p1, .inr (4, [.int (nI p1nz_17), .int (nI p1rz__18), .ref p1a, .ref p1b])), (p1a, .inl (E.2.1 1, 24, .inl p1fz_19)), (p1b, .inl (E.2.1 1, 96, .inl p1gz_20)), (p2, .inr (4, [.int (nI p2nz_21), .int (nI p2rz__22), .ref p2a, .ref p2b])), (p2a, .inl (E.2.1 1, 24, .inl p2fz_23)), (p2b, .inl (E.2.1 1, 96, .inl p2gz_24)), (p3, .inr (4, [.int (nI p3nz_25), .int (nI p3rz__26), .ref p3a, .ref p3b])), (p3a, .inl (E.2.1 1, 24, .inl p3fz_27)), (p3b, .inl (E.2.1 1, 96, .inl p3gz_28)), (p4, .inr (4, [.int (nI p4nz_29), .int (nI p4rz__30), .ref p4a, .ref p4b])), (p4a, .inl (E.2.1 1, 24, .inl p4fz_31)), (p4b, .inl (E.2.1 1, 96, .inl p4gz_32)), (p5, .inr (4, [.int (nI p5nz_33), .int (nI p5rz__34), .ref p5a, .ref p5b])), (p5a, .inl (E.2.1 1, 24, .inl p5fz_35)), (p5b, .inl (E.2.1 1, 96, .inl p5gz_36)), (p6, .inr (4, [.int (nI p6nz_37), .int (nI p6rz__38), .ref p6a, .ref p6b])), (p6a, .inl (E.2.1 1, 24, .inl p6fz_39)), (p6b, .inl (E.2.1 1, 96, .inl p6gz_40)), (p7, .inr (4, [.int (nI p7nz_41), .int (nI p7rz__42), .ref p7a, .ref p7b])), (p7a, .inl (E.2.1 1, 24, .inl p7fz_43)), (p7b, .inl (E.2.1 1, 96, .inl p7gz_44)), (h, .inr (4, [.int (nI (n + 1)), .int (nI r), .ref a, .ref b])), (a, .inl (E.2.1 1, 24, .inl f2_76)), (b, .inl (E.2.1 1, 96, .inl g2_77))]) C hT [0, 1, 2, 3, 4, 5, 6, 7, 8, 9, 10, 11, 12, 13, 14, 15, 16, 17, 18, 19, 20, 21, 22, 23, 24, 25, 26, 27, 28] (gqk (by eq_refl)) (ndk (by decide +kernel)) rfl rfl dX11_world_39 (⟨acz_11, npz_12, p0nz_13, p0rz__14, p0fz_15, p0gz_16, p1nz_17, p1rz__18, p1fz_19, p1gz_20, p2nz_21, p2rz__22, p2fz_23, p2gz_24, p3nz_25, p3rz__26, p3fz_27, p3gz_28, p4nz_29, p4rz__30, p4fz_31, p4gz_32, p5nz_33, p5rz__34, p5fz_35, p5gz_36, p6nz_37, p6rz__38, p6fz_39, p6gz_40, p7nz_41, p7rz__42, p7fz_43, p7gz_44, (n + 1), r, f2_76, g2_77, rfl, (by first | assumption | omega | decide), (by first | assumption | omega | decide), (by first | assumption | omega | decide), (by first | assumption | omega | decide), (by assumption), (by first | assumption | omega | decide), (by first | assumption | omega | decide), (by assumption), (by first | assumption | omega | decide), (by first | assumption | omega | decide), (by assumption), (by first | assumption | omega | decide), (by first | assumption | omega | decide), (by assumption), (by first | assumption | omega | decide), (by first | assumption | omega | decide), (by assumption), (by first | assumption | omega | decide), (by first | assumption | omega | decide), (by assumption), (by first | assumption | omega | decide), (by first | assumption | omega | decide), (by assumption), (by first | assumption | omega | decide), (by first | assumption | omega | decide), (by assumption), (by first | assumption | omega | decide), (by first | assumption | omega | decide), hwz_82, (by show _ = if v0.toInt < 0 ∨ 15 < v0.toInt then ((asX (am n r f gg) ac np (pick8 (am p0n p0r p0f p0g) (am p1n p1r p1f p1g) (am p2n p2r p2f p2g) (am p3n p3r p3f p3g) (am p4n p4r p4f p4g) (am p5n p5r p5f p5g) (am p6n p6r p6f p6g) (am p7n p7r p7f p7g))), -1) else if 24 ≤ n then ((asX (am n r f gg) ac np (pick8 (am p0n p0r p0f p0g) (am p1n p1r p1f p1g) (am p2n p2r p2f p2g) (am p3n p3r p3f p3g) (am p4n p4r p4f p4g) (am p5n p5r p5f p5g) (am p6n p6r p6f p6g) (am p7n p7r p7f p7g))), -3) else (aRem (asX (am n r f gg) ac np (pick8 (am p0n p0r p0f p0g) (am p1n p1r p1f p1g) (am p2n p2r p2f p2g) (am p3n p3r p3f p3g) (am p4n p4r p4f p4g) (am p5n p5r p5f p5g) (am p6n p6r p6f p6g) (am p7n p7r p7f p7g))) (aAdd (am n r f gg) v0), nI n); rw [if_neg (show ¬ (v0.toInt < 0 ∨ 15 < v0.toInt) by omega), if_neg (show ¬ (24 ≤ n) by omega)]; exact Prod.ext ((asX_rem hac hnp h_71 h_72 h_73).trans (congrArg (aRem (asX (am n r f gg) ac np (pick8 (am p0n p0r p0f p0g) (am p1n p1r p1f p1g) (am p2n p2r p2f p2g) (am p3n p3r p3f p3g) (am p4n p4r p4f p4g) (am p5n p5r p5f p5g) (am p6n p6r p6f p6g) (am p7n p7r p7f p7g)))) h_78)) rfl)⟩)
    · have zc_9 : ((n : Nat) : Int) ≥ 24 := i_nlt (nI_toInt (n := n) (by omega)) rfl c_9
      refine ww_bipush (v := (-3)) C dX11_world_24 rfl ?_
      exact ww_iret (u := [(hx, .inr (11, [.ref h, .ref qp, .int (nI ac), .int (nI np), .ref qs, .ref qj, .ref ly, .ref qh, .ref kk, .int (nI kc), .ref rd, .ref pg, .int (nI pe), .int kn, .ref ss])), (qp, .inl (E.2.1 6, 8, .inr (.inr (.inr (.inr fqp))))), (p0, .inr (4, [.int (nI p0n), .int (nI p0r), .ref p0a, .ref p0b])), (p0a, .inl (E.2.1 1, 24, .inl p0f)), (p0b, .inl (E.2.1 1, 96, .inl p0g)), (p1, .inr (4, [.int (nI p1n), .int (nI p1r), .ref p1a, .ref p1b])), (p1a, .inl (E.2.1 1, 24, .inl p1f)), (p1b, .inl (E.2.1 1, 96, .inl p1g)), (p2, .inr (4, [.int (nI p2n), .int (nI p2r), .ref p2a, .ref p2b])), (p2a, .inl (E.2.1 1, 24, .inl p2f)), (p2b, .inl (E.2.1 1, 96, .inl p2g)), (p3, .inr (4, [.int (nI p3n), .int (nI p3r), .ref p3a, .ref p3b])), (p3a, .inl (E.2.1 1, 24, .inl p3f)), (p3b, .inl (E.2.1 1, 96, .inl p3g)), (p4, .inr (4, [.int (nI p4n), .int (nI p4r), .ref p4a, .ref p4b])), (p4a, .inl (E.2.1 1, 24, .inl p4f)), (p4b, .inl (E.2.1 1, 96, .inl p4g)), (p5, .inr (4, [.int (nI p5n), .int (nI p5r), .ref p5a, .ref p5b])), (p5a, .inl (E.2.1 1, 24, .inl p5f)), (p5b, .inl (E.2.1 1, 96, .inl p5g)), (p6, .inr (4, [.int (nI p6n), .int (nI p6r), .ref p6a, .ref p6b])), (p6a, .inl (E.2.1 1, 24, .inl p6f)), (p6b, .inl (E.2.1 1, 96, .inl p6g)), (p7, .inr (4, [.int (nI p7n), .int (nI p7r), .ref p7a, .ref p7b])), (p7a, .inl (E.2.1 1, 24, .inl p7f)), (p7b, .inl (E.2.1 1, 96, .inl p7g)), (h, .inr (4, [.int (nI n), .int (nI r), .ref a, .ref b])), (a, .inl (E.2.1 1, 24, .inl f)), (b, .inl (E.2.1 1, 96, .inl gg))]) C hT [0, 1, 2, 3, 4, 5, 6, 7, 8, 9, 10, 11, 12, 13, 14, 15, 16, 17, 18, 19, 20, 21, 22, 23, 24, 25, 26, 27, 28] (gqk (by eq_refl)) (ndk (by decide +kernel)) rfl rfl dX11_world_26 (⟨ac, np, p0n, p0r, p0f, p0g, p1n, p1r, p1f, p1g, p2n, p2r, p2f, p2g, p3n, p3r, p3f, p3g, p4n, p4r, p4f, p4g, p5n, p5r, p5f, p5g, p6n, p6r, p6f, p6g, p7n, p7r, p7f, p7g, n, r, f, gg, rfl, (by first | assumption | omega | decide), (by first | assumption | omega | decide), (by first | assumption | omega | decide), (by first | assumption | omega | decide), (by assumption), (by first | assumption | omega | decide), (by first | assumption | omega | decide), (by assumption), (by first | assumption | omega | decide), (by first | assumption | omega | decide), (by assumption), (by first | assumption | omega | decide), (by first | assumption | omega | decide), (by assumption), (by first | assumption | omega | decide), (by first | assumption | omega | decide), (by assumption), (by first | assumption | omega | decide), (by first | assumption | omega | decide), (by assumption), (by first | assumption | omega | decide), (by first | assumption | omega | decide), (by assumption), (by first | assumption | omega | decide), (by first | assumption | omega | decide), (by assumption), (by first | assumption | omega | decide), (by first | assumption | omega | decide), hwfm, (by show _ = if v0.toInt < 0 ∨ 15 < v0.toInt then ((asX (am n r f gg) ac np (pick8 (am p0n p0r p0f p0g) (am p1n p1r p1f p1g) (am p2n p2r p2f p2g) (am p3n p3r p3f p3g) (am p4n p4r p4f p4g) (am p5n p5r p5f p5g) (am p6n p6r p6f p6g) (am p7n p7r p7f p7g))), -1) else if 24 ≤ n then ((asX (am n r f gg) ac np (pick8 (am p0n p0r p0f p0g) (am p1n p1r p1f p1g) (am p2n p2r p2f p2g) (am p3n p3r p3f p3g) (am p4n p4r p4f p4g) (am p5n p5r p5f p5g) (am p6n p6r p6f p6g) (am p7n p7r p7f p7g))), -3) else (aRem (asX (am n r f gg) ac np (pick8 (am p0n p0r p0f p0g) (am p1n p1r p1f p1g) (am p2n p2r p2f p2g) (am p3n p3r p3f p3g) (am p4n p4r p4f p4g) (am p5n p5r p5f p5g) (am p6n p6r p6f p6g) (am p7n p7r p7f p7g))) (aAdd (am n r f gg) v0), nI n); rw [if_neg (show ¬ (v0.toInt < 0 ∨ 15 < v0.toInt) by omega), if_pos (show 24 ≤ n by omega)])⟩)
  · refine an2 hw ?_
    clear hw
    intro he_7 he_8 hw
    have h_6 := hw
    clear hw
    have he_7 := he_7.symm
    subst he_7
    subst he_8
    refine ww_eq (ws' := [(hx, .inr (11, [.ref h, .ref qp, .int (nI ac), .int (nI np), .ref qs, .ref qj, .ref ly, .ref qh, .ref kk, .int (nI kc), .ref rd, .ref pg, .int (nI pe), .int kn, .ref ss])), (qp, .inl (E.2.1 6, 8, .inr (.inr (.inr (.inr fqp))))), (p0, .inr (4, [.int (nI p0n), .int (nI p0r), .ref p0a, .ref p0b])), (p0a, .inl (E.2.1 1, 24, .inl p0f)), (p0b, .inl (E.2.1 1, 96, .inl p0g)), (p1, .inr (4, [.int (nI p1n), .int (nI p1r), .ref p1a, .ref p1b])), (p1a, .inl (E.2.1 1, 24, .inl p1f)), (p1b, .inl (E.2.1 1, 96, .inl p1g)), (p2, .inr (4, [.int (nI p2n), .int (nI p2r), .ref p2a, .ref p2b])), (p2a, .inl (E.2.1 1, 24, .inl p2f)), (p2b, .inl (E.2.1 1, 96, .inl p2g)), (p3, .inr (4, [.int (nI p3n), .int (nI p3r), .ref p3a, .ref p3b])), (p3a, .inl (E.2.1 1, 24, .inl p3f)), (p3b, .inl (E.2.1 1, 96, .inl p3g)), (p4, .inr (4, [.int (nI p4n), .int (nI p4r), .ref p4a, .ref p4b])), (p4a, .inl (E.2.1 1, 24, .inl p4f)), (p4b, .inl (E.2.1 1, 96, .inl p4g)), (p5, .inr (4, [.int (nI p5n), .int (nI p5r), .ref p5a, .ref p5b])), (p5a, .inl (E.2.1 1, 24, .inl p5f)), (p5b, .inl (E.2.1 1, 96, .inl p5g)), (p6, .inr (4, [.int (nI p6n), .int (nI p6r), .ref p6a, .ref p6b])), (p6a, .inl (E.2.1 1, 24, .inl p6f)), (p6b, .inl (E.2.1 1, 96, .inl p6g)), (p7, .inr (4, [.int (nI p7n), .int (nI p7r), .ref p7a, .ref p7b])), (p7a, .inl (E.2.1 1, 24, .inl p7f)), (p7b, .inl (E.2.1 1, 96, .inl p7g)), (h, .inr (4, [.int (nI n), .int (nI r), .ref a, .ref b])), (a, .inl (E.2.1 1, 24, .inl f)), (b, .inl (E.2.1 1, 96, .inl gg))]) ?_ rfl rfl rfl
    refine ww_if_ne_f (tgt := 12) C dX11_world_7 (by decide) (rfl) ?_
    refine ww_iconst (v := (-1)) C dX11_world_10 rfl ?_
    exact ww_iret (u := [(hx, .inr (11, [.ref h, .ref qp, .int (nI ac), .int (nI np), .ref qs, .ref qj, .ref ly, .ref qh, .ref kk, .int (nI kc), .ref rd, .ref pg, .int (nI pe), .int kn, .ref ss])), (qp, .inl (E.2.1 6, 8, .inr (.inr (.inr (.inr fqp))))), (p0, .inr (4, [.int (nI p0n), .int (nI p0r), .ref p0a, .ref p0b])), (p0a, .inl (E.2.1 1, 24, .inl p0f)), (p0b, .inl (E.2.1 1, 96, .inl p0g)), (p1, .inr (4, [.int (nI p1n), .int (nI p1r), .ref p1a, .ref p1b])), (p1a, .inl (E.2.1 1, 24, .inl p1f)), (p1b, .inl (E.2.1 1, 96, .inl p1g)), (p2, .inr (4, [.int (nI p2n), .int (nI p2r), .ref p2a, .ref p2b])), (p2a, .inl (E.2.1 1, 24, .inl p2f)), (p2b, .inl (E.2.1 1, 96, .inl p2g)), (p3, .inr (4, [.int (nI p3n), .int (nI p3r), .ref p3a, .ref p3b])), (p3a, .inl (E.2.1 1, 24, .inl p3f)), (p3b, .inl (E.2.1 1, 96, .inl p3g)), (p4, .inr (4, [.int (nI p4n), .int (nI p4r), .ref p4a, .ref p4b])), (p4a, .inl (E.2.1 1, 24, .inl p4f)), (p4b, .inl (E.2.1 1, 96, .inl p4g)), (p5, .inr (4, [.int (nI p5n), .int (nI p5r), .ref p5a, .ref p5b])), (p5a, .inl (E.2.1 1, 24, .inl p5f)), (p5b, .inl (E.2.1 1, 96, .inl p5g)), (p6, .inr (4, [.int (nI p6n), .int (nI p6r), .ref p6a, .ref p6b])), (p6a, .inl (E.2.1 1, 24, .inl p6f)), (p6b, .inl (E.2.1 1, 96, .inl p6g)), (p7, .inr (4, [.int (nI p7n), .int (nI p7r), .ref p7a, .ref p7b])), (p7a, .inl (E.2.1 1, 24, .inl p7f)), (p7b, .inl (E.2.1 1, 96, .inl p7g)), (h, .inr (4, [.int (nI n), .int (nI r), .ref a, .ref b])), (a, .inl (E.2.1 1, 24, .inl f)), (b, .inl (E.2.1 1, 96, .inl gg))]) C hT [0, 1, 2, 3, 4, 5, 6, 7, 8, 9, 10, 11, 12, 13, 14, 15, 16, 17, 18, 19, 20, 21, 22, 23, 24, 25, 26, 27, 28] (gqk (by eq_refl)) (ndk (by decide +kernel)) rfl rfl dX11_world_11 (⟨ac, np, p0n, p0r, p0f, p0g, p1n, p1r, p1f, p1g, p2n, p2r, p2f, p2g, p3n, p3r, p3f, p3g, p4n, p4r, p4f, p4g, p5n, p5r, p5f, p5g, p6n, p6r, p6f, p6g, p7n, p7r, p7f, p7g, n, r, f, gg, rfl, (by first | assumption | omega | decide), (by first | assumption | omega | decide), (by first | assumption | omega | decide), (by first | assumption | omega | decide), (by assumption), (by first | assumption | omega | decide), (by first | assumption | omega | decide), (by assumption), (by first | assumption | omega | decide), (by first | assumption | omega | decide), (by assumption), (by first | assumption | omega | decide), (by first | assumption | omega | decide), (by assumption), (by first | assumption | omega | decide), (by first | assumption | omega | decide), (by assumption), (by first | assumption | omega | decide), (by first | assumption | omega | decide), (by assumption), (by first | assumption | omega | decide), (by first | assumption | omega | decide), (by assumption), (by first | assumption | omega | decide), (by first | assumption | omega | decide), (by assumption), (by first | assumption | omega | decide), (by first | assumption | omega | decide), hwfm, (by show _ = if v0.toInt < 0 ∨ 15 < v0.toInt then ((asX (am n r f gg) ac np (pick8 (am p0n p0r p0f p0g) (am p1n p1r p1f p1g) (am p2n p2r p2f p2g) (am p3n p3r p3f p3g) (am p4n p4r p4f p4g) (am p5n p5r p5f p5g) (am p6n p6r p6f p6g) (am p7n p7r p7f p7g))), -1) else if 24 ≤ n then ((asX (am n r f gg) ac np (pick8 (am p0n p0r p0f p0g) (am p1n p1r p1f p1g) (am p2n p2r p2f p2g) (am p3n p3r p3f p3g) (am p4n p4r p4f p4g) (am p5n p5r p5f p5g) (am p6n p6r p6f p6g) (am p7n p7r p7f p7g))), -3) else (aRem (asX (am n r f gg) ac np (pick8 (am p0n p0r p0f p0g) (am p1n p1r p1f p1g) (am p2n p2r p2f p2g) (am p3n p3r p3f p3g) (am p4n p4r p4f p4g) (am p5n p5r p5f p5g) (am p6n p6r p6f p6g) (am p7n p7r p7f p7g))) (aAdd (am n r f gg) v0), nI n); rw [if_pos (show v0.toInt < 0 ∨ 15 < v0.toInt by omega)])⟩)
theorem dX11_sees_0 : decode cX11_sees 0 = .ok (.iload_n 1, 1) := dl_27 (by decide +kernel)
theorem dX11_sees_1 : decode cX11_sees 1 = .ok (.iconst 0, 1) := dl_3 (by decide +kernel)
theorem dX11_sees_2 : decode cX11_sees 2 = .ok (.iconst 3, 1) := dl_6 (by decide +kernel)
theorem dX11_sees_3 : decode cX11_sees 3 = .ok (.invokestatic 76, 3) := dl_184 (by decide +kernel)
theorem dX11_sees_6 : decode cX11_sees 6 = .ok (.ifCond .eq 25, 3) := dl_153 (by decide +kernel)
theorem dX11_sees_9 : decode cX11_sees 9 = .ok (.aload_n 0, 1) := dl_42 (by decide +kernel)
theorem dX11_sees_10 : decode cX11_sees 10 = .ok (.getfield 10, 3) := dl_180 (by decide +kernel)
theorem dX11_sees_13 : decode cX11_sees 13 = .ok (.iload_n 2, 1) := dl_28 (by decide +kernel)
theorem dX11_sees_14 : decode cX11_sees 14 = .ok (.invokevirtual 135, 3) := dl_182 (by decide +kernel)
theorem wl_X11_135 : Cond.methodLink RX11 135 yX4_contains ∈ TB := tbm (tq2 (List.mem_of_getElem? (i := 171) (by decide +kernel))) (by decide +kernel)
theorem wc_X4_contains : Cond.code yX4_contains cX4_contains 2 (some .boolean) ∈ TB := tbm (tq2 (List.mem_of_getElem? (i := 174) (rfl))) (by decide +kernel)
theorem wi_X4_contains : Cond.instanceMethod yX4_contains ∈ TB := tbm (tq2 (List.mem_of_getElem? (i := 172) (by decide +kernel))) (by decide +kernel)
theorem ws_X4_contains : Cond.selects RX4 yX4_contains yX4_contains ∈ TB := tbm (tq2 (List.mem_of_getElem? (i := 173) (by decide +kernel))) (by decide +kernel)
theorem mi_X4_contains : MI yX4_contains cX4_contains 2 (some .boolean) 1 := ⟨wc_X4_contains, wn_X4, ⟨by decide +kernel, by decide +kernel, by decide +kernel⟩, wi_X4_contains, ws_X4_contains⟩
theorem dX11_sees_17 : decode cX11_sees 17 = .ok (.ifCond .eq 14, 3) := dl_153 (by decide +kernel)
theorem dX11_sees_20 : decode cX11_sees 20 = .ok (.aload_n 0, 1) := dl_42 (by decide +kernel)
theorem dX11_sees_21 : decode cX11_sees 21 = .ok (.getfield 10, 3) := dl_180 (by decide +kernel)
theorem dX11_sees_24 : decode cX11_sees 24 = .ok (.iload_n 3, 1) := dl_29 (by decide +kernel)
theorem dX11_sees_25 : decode cX11_sees 25 = .ok (.invokevirtual 135, 3) := dl_182 (by decide +kernel)
theorem dX11_sees_28 : decode cX11_sees 28 = .ok (.ifCond .ne 5, 3) := dl_154 (by decide +kernel)
theorem dX11_sees_33 : decode cX11_sees 33 = .ok (.aload_n 0, 1) := dl_42 (by decide +kernel)
theorem dX11_sees_34 : decode cX11_sees 34 = .ok (.invokevirtual 128, 3) := dl_182 (by decide +kernel)
theorem dX11_sees_37 : decode cX11_sees 37 = .ok (.aload_n 0, 1) := dl_42 (by decide +kernel)
theorem dX11_sees_38 : decode cX11_sees 38 = .ok (.getfield 10, 3) := dl_180 (by decide +kernel)
theorem dX11_sees_41 : decode cX11_sees 41 = .ok (.iload_n 1, 1) := dl_27 (by decide +kernel)
theorem dX11_sees_42 : decode cX11_sees 42 = .ok (.iload_n 2, 1) := dl_28 (by decide +kernel)
theorem dX11_sees_43 : decode cX11_sees 43 = .ok (.invokevirtual 138, 3) := dl_182 (by decide +kernel)
theorem wl_X11_138 : Cond.methodLink RX11 138 yX4_held ∈ TB := tbm (tq2 (List.mem_of_getElem? (i := 175) (by decide +kernel))) (by decide +kernel)
theorem dX11_sees_46 : decode cX11_sees 46 = .ok (.iload_n 3, 1) := dl_29 (by decide +kernel)
theorem dX11_sees_47 : decode cX11_sees 47 = .ok (.ishr, 1) := dl_122 (by decide +kernel)
theorem dX11_sees_48 : decode cX11_sees 48 = .ok (.iconst 1, 1) := dl_4 (by decide +kernel)
theorem dX11_sees_49 : decode cX11_sees 49 = .ok (.iand, 1) := dl_126 (by decide +kernel)
theorem dX11_sees_50 : decode cX11_sees 50 = .ok (.istore 6, 2) := dl_54 (by decide +kernel)
theorem dX11_sees_52 : decode cX11_sees 52 = .ok (.aload_n 0, 1) := dl_42 (by decide +kernel)
theorem dX11_sees_53 : decode cX11_sees 53 = .ok (.getfield 10, 3) := dl_180 (by decide +kernel)
theorem dX11_sees_56 : decode cX11_sees 56 = .ok (.iload_n 1, 1) := dl_27 (by decide +kernel)
theorem dX11_sees_57 : decode cX11_sees 57 = .ok (.iload_n 2, 1) := dl_28 (by decide +kernel)
theorem dX11_sees_58 : decode cX11_sees 58 = .ok (.iload_n 3, 1) := dl_29 (by decide +kernel)
theorem dX11_sees_59 : decode cX11_sees 59 = .ok (.iload 4, 2) := dl_21 (by decide +kernel)
theorem dX11_sees_61 : decode cX11_sees 61 = .ok (.invokevirtual 141, 3) := dl_182 (by decide +kernel)
theorem wl_X11_141 : Cond.methodLink RX11 141 yX4_hold ∈ TB := tbm (tq2 (List.mem_of_getElem? (i := 179) (by decide +kernel))) (by decide +kernel)
theorem wc_X4_hold : Cond.code yX4_hold cX4_hold 6 none ∈ TB := tbm (tq2 (List.mem_of_getElem? (i := 182) (rfl))) (by decide +kernel)
theorem wi_X4_hold : Cond.instanceMethod yX4_hold ∈ TB := tbm (tq2 (List.mem_of_getElem? (i := 180) (by decide +kernel))) (by decide +kernel)
theorem ws_X4_hold : Cond.selects RX4 yX4_hold yX4_hold ∈ TB := tbm (tq2 (List.mem_of_getElem? (i := 181) (by decide +kernel))) (by decide +kernel)
theorem mi_X4_hold : MI yX4_hold cX4_hold 6 none 4 := ⟨wc_X4_hold, wn_X4, ⟨by decide +kernel, by decide +kernel, by decide +kernel⟩, wi_X4_hold, ws_X4_hold⟩
theorem dX11_sees_64 : decode cX11_sees 64 = .ok (.iload 5, 2) := dl_21 (by decide +kernel)
theorem dX11_sees_66 : decode cX11_sees 66 = .ok (.ifCond .eq 15, 3) := dl_153 (by decide +kernel)
theorem dX11_sees_81 : decode cX11_sees 81 = .ok (.iload 6, 2) := dl_21 (by decide +kernel)
theorem dX11_sees_83 : decode cX11_sees 83 = .ok (.ireturn, 1) := dl_172 (by decide +kernel)
theorem dX11_sees_69 : decode cX11_sees 69 = .ok (.aload_n 0, 1) := dl_42 (by decide +kernel)
theorem dX11_sees_70 : decode cX11_sees 70 = .ok (.getfield 10, 3) := dl_180 (by decide +kernel)
theorem dX11_sees_73 : decode cX11_sees 73 = .ok (.iload_n 1, 1) := dl_27 (by decide +kernel)
theorem dX11_sees_74 : decode cX11_sees 74 = .ok (.iload_n 3, 1) := dl_29 (by decide +kernel)
theorem dX11_sees_75 : decode cX11_sees 75 = .ok (.iload_n 2, 1) := dl_28 (by decide +kernel)
theorem dX11_sees_76 : decode cX11_sees 76 = .ok (.iload 4, 2) := dl_21 (by decide +kernel)
theorem dX11_sees_78 : decode cX11_sees 78 = .ok (.invokevirtual 141, 3) := dl_182 (by decide +kernel)
theorem dX11_sees_31 : decode cX11_sees 31 = .ok (.iconst (-1), 1) := dl_2 (by decide +kernel)
theorem dX11_sees_32 : decode cX11_sees 32 = .ok (.ireturn, 1) := dl_172 (by decide +kernel)
set_option maxRecDepth 100000 in
set_option maxHeartbeats 4000000 in
theorem x_sees (l : Launch) (E : EV) (ro : va_W) (hx : Nat) (v0 : Int32) (v1 : Int32) (v2 : Int32) (v3 : Int32) (v4 : Int32) (h : Nat) (qp : Nat) (ac : Nat) (np : Nat) (qs : Nat) (qj : Nat) (ly : Nat) (qh : Nat) (kk : Nat) (kc : Nat) (rd : Nat) (pg : Nat) (pe : Nat) (kn : Int32) (ss : Nat) (fqp : Nat → Option Nat) (p0 : Nat) (p1 : Nat) (p2 : Nat) (p3 : Nat) (p4 : Nat) (p5 : Nat) (p6 : Nat) (p7 : Nat) (p0n : Nat) (p0r : Nat) (p0a : Nat) (p0b : Nat) (p0f : Nat → Int32) (p0g : Nat → Int32) (p1n : Nat) (p1r : Nat) (p1a : Nat) (p1b : Nat) (p1f : Nat → Int32) (p1g : Nat → Int32) (p2n : Nat) (p2r : Nat) (p2a : Nat) (p2b : Nat) (p2f : Nat → Int32) (p2g : Nat → Int32) (p3n : Nat) (p3r : Nat) (p3a : Nat) (p3b : Nat) (p3f : Nat → Int32) (p3g : Nat → Int32) (p4n : Nat) (p4r : Nat) (p4a : Nat) (p4b : Nat) (p4f : Nat → Int32) (p4g : Nat → Int32) (p5n : Nat) (p5r : Nat) (p5a : Nat) (p5b : Nat) (p5f : Nat → Int32) (p5g : Nat → Int32) (p6n : Nat) (p6r : Nat) (p6a : Nat) (p6b : Nat) (p6f : Nat → Int32) (p6g : Nat → Int32) (p7n : Nat) (p7r : Nat) (p7a : Nat) (p7b : Nat) (p7f : Nat → Int32) (p7g : Nat → Int32) (n : Nat) (r : Nat) (a : Nat) (b : Nat) (f : Nat → Int32) (gg : Nat → Int32) (k_fqp_0 : fqp 0 = some p0) (k_fqp_1 : fqp 1 = some p1) (k_fqp_2 : fqp 2 = some p2) (k_fqp_3 : fqp 3 = some p3) (k_fqp_4 : fqp 4 = some p4) (k_fqp_5 : fqp 5 = some p5) (k_fqp_6 : fqp 6 = some p6) (k_fqp_7 : fqp 7 = some p7) (hac : ac ≤ 8) (hnp : np < 8) (hkc : kc ≤ 4) (hpe : pe ≤ 4) (hp0_n : p0n ≤ 24) (hp0_r : p0r < p0n ∨ p0r = 0) (hp0_w : WFm (am p0n p0r p0f p0g)) (hp1_n : p1n ≤ 24) (hp1_r : p1r < p1n ∨ p1r = 0) (hp1_w : WFm (am p1n p1r p1f p1g)) (hp2_n : p2n ≤ 24) (hp2_r : p2r < p2n ∨ p2r = 0) (hp2_w : WFm (am p2n p2r p2f p2g)) (hp3_n : p3n ≤ 24) (hp3_r : p3r < p3n ∨ p3r = 0) (hp3_w : WFm (am p3n p3r p3f p3g)) (hp4_n : p4n ≤ 24) (hp4_r : p4r < p4n ∨ p4r = 0) (hp4_w : WFm (am p4n p4r p4f p4g)) (hp5_n : p5n ≤ 24) (hp5_r : p5r < p5n ∨ p5r = 0) (hp5_w : WFm (am p5n p5r p5f p5g)) (hp6_n : p6n ≤ 24) (hp6_r : p6r < p6n ∨ p6r = 0) (hp6_w : WFm (am p6n p6r p6f p6g)) (hp7_n : p7n ≤ 24) (hp7_r : p7r < p7n ∨ p7r = 0) (hp7_w : WFm (am p7n p7r p7f p7g)) (hn : n ≤ 24) (hr : r < n ∨ r = 0) (hwfm : WFm (am n r f gg)) : CT l yX11_sees (Cond.code yX11_sees cX11_sees 7 (some .int) :: TB) ({ frames := 3, cells := 0, slots := 0, locals := 105 }) E ro [.ref hx, .int v0, .int v1, .int v2, .int v3, .int v4] [(hx, .inr (11, [.ref h, .ref qp, .int (nI ac), .int (nI np), .ref qs, .ref qj, .ref ly, .ref qh, .ref kk, .int (nI kc), .ref rd, .ref pg, .int (nI pe), .int kn, .ref ss])), (qp, .inl (E.2.1 6, 8, .inr (.inr (.inr (.inr fqp))))), (p0, .inr (4, [.int (nI p0n), .int (nI p0r), .ref p0a, .ref p0b])), (p0a, .inl (E.2.1 1, 24, .inl p0f)), (p0b, .inl (E.2.1 1, 96, .inl p0g)), (p1, .inr (4, [.int (nI p1n), .int (nI p1r), .ref p1a, .ref p1b])), (p1a, .inl (E.2.1 1, 24, .inl p1f)), (p1b, .inl (E.2.1 1, 96, .inl p1g)), (p2, .inr (4, [.int (nI p2n), .int (nI p2r), .ref p2a, .ref p2b])), (p2a, .inl (E.2.1 1, 24, .inl p2f)), (p2b, .inl (E.2.1 1, 96, .inl p2g)), (p3, .inr (4, [.int (nI p3n), .int (nI p3r), .ref p3a, .ref p3b])), (p3a, .inl (E.2.1 1, 24, .inl p3f)), (p3b, .inl (E.2.1 1, 96, .inl p3g)), (p4, .inr (4, [.int (nI p4n), .int (nI p4r), .ref p4a, .ref p4b])), (p4a, .inl (E.2.1 1, 24, .inl p4f)), (p4b, .inl (E.2.1 1, 96, .inl p4g)), (p5, .inr (4, [.int (nI p5n), .int (nI p5r), .ref p5a, .ref p5b])), (p5a, .inl (E.2.1 1, 24, .inl p5f)), (p5b, .inl (E.2.1 1, 96, .inl p5g)), (p6, .inr (4, [.int (nI p6n), .int (nI p6r), .ref p6a, .ref p6b])), (p6a, .inl (E.2.1 1, 24, .inl p6f)), (p6b, .inl (E.2.1 1, 96, .inl p6g)), (p7, .inr (4, [.int (nI p7n), .int (nI p7r), .ref p7a, .ref p7b])), (p7a, .inl (E.2.1 1, 24, .inl p7f)), (p7b, .inl (E.2.1 1, 96, .inl p7g)), (h, .inr (4, [.int (nI n), .int (nI r), .ref a, .ref b])), (a, .inl (E.2.1 1, 24, .inl f)), (b, .inl (E.2.1 1, 96, .inl gg))] (Qi E (fun (rz : Int32) uz => (∃ (acz : Nat) (npz : Nat) (p0nz : Nat) (p0rz_ : Nat) (p0fz : Nat → Int32) (p0gz : Nat → Int32) (p1nz : Nat) (p1rz_ : Nat) (p1fz : Nat → Int32) (p1gz : Nat → Int32) (p2nz : Nat) (p2rz_ : Nat) (p2fz : Nat → Int32) (p2gz : Nat → Int32) (p3nz : Nat) (p3rz_ : Nat) (p3fz : Nat → Int32) (p3gz : Nat → Int32) (p4nz : Nat) (p4rz_ : Nat) (p4fz : Nat → Int32) (p4gz : Nat → Int32) (p5nz : Nat) (p5rz_ : Nat) (p5fz : Nat → Int32) (p5gz : Nat → Int32) (p6nz : Nat) (p6rz_ : Nat) (p6fz : Nat → Int32) (p6gz : Nat → Int32) (p7nz : Nat) (p7rz_ : Nat) (p7fz : Nat → Int32) (p7gz : Nat → Int32) (nz : Nat) (rz_ : Nat) (fz : Nat → Int32) (ggz : Nat → Int32), uz = [(hx, .inr (11, [.ref h, .ref qp, .int (nI acz), .int (nI npz), .ref qs, .ref qj, .ref ly, .ref qh, .ref kk, .int (nI kc), .ref rd, .ref pg, .int (nI pe), .int kn, .ref ss])), (qp, .inl (E.2.1 6, 8, .inr (.inr (.inr (.inr fqp))))), (p0, .inr (4, [.int (nI p0nz), .int (nI p0rz_), .ref p0a, .ref p0b])), (p0a, .inl (E.2.1 1, 24, .inl p0fz)), (p0b, .inl (E.2.1 1, 96, .inl p0gz)), (p1, .inr (4, [.int (nI p1nz), .int (nI p1rz_), .ref p1a, .ref p1b])), (p1a, .inl (E.2.1 1, 24, .inl p1fz)), (p1b, .inl (E.2.1 1, 96, .inl p1gz)), (p2, .inr (4, [.int (nI p2nz), .int (nI p2rz_), .ref p2a, .ref p2b])), (p2a, .inl (E.2.1 1, 24, .inl p2fz)), (p2b, .inl (E.2.1 1, 96, .inl p2gz)), (p3, .inr (4, [.int (nI p3nz), .int (nI p3rz_), .ref p3a, .ref p3b])), (p3a, .inl (E.2.1 1, 24, .inl p3fz)), (p3b, .inl (E.2.1 1, 96, .inl p3gz)), (p4, .inr (4, [.int (nI p4nz), .int (nI p4rz_), .ref p4a, .ref p4b])), (p4a, .inl (E.2.1 1, 24, .inl p4fz)), (p4b, .inl (E.2.1 1, 96, .inl p4gz)), (p5, .inr (4, [.int (nI p5nz), .int (nI p5rz_), .ref p5a, .ref p5b])), (p5a, .inl (E.2.1 1, 24, .inl p5fz)), (p5b, .inl (E.2.1 1, 96, .inl p5gz)), (p6, .inr (4, [.int (nI p6nz), .int (nI p6rz_), .ref p6a, .ref p6b])), (p6a, .inl (E.2.1 1, 24, .inl p6fz)), (p6b, .inl (E.2.1 1, 96, .inl p6gz)), (p7, .inr (4, [.int (nI p7nz), .int (nI p7rz_), .ref p7a, .ref p7b])), (p7a, .inl (E.2.1 1, 24, .inl p7fz)), (p7b, .inl (E.2.1 1, 96, .inl p7gz)), (h, .inr (4, [.int (nI nz), .int (nI rz_), .ref a, .ref b])), (a, .inl (E.2.1 1, 24, .inl fz)), (b, .inl (E.2.1 1, 96, .inl ggz))] ∧ (acz ≤ 8) ∧ (npz < 8) ∧ (p0nz ≤ 24) ∧ (p0rz_ < p0nz ∨ p0rz_ = 0) ∧ (WFm (am p0nz p0rz_ p0fz p0gz)) ∧ (p1nz ≤ 24) ∧ (p1rz_ < p1nz ∨ p1rz_ = 0) ∧ (WFm (am p1nz p1rz_ p1fz p1gz)) ∧ (p2nz ≤ 24) ∧ (p2rz_ < p2nz ∨ p2rz_ = 0) ∧ (WFm (am p2nz p2rz_ p2fz p2gz)) ∧ (p3nz ≤ 24) ∧ (p3rz_ < p3nz ∨ p3rz_ = 0) ∧ (WFm (am p3nz p3rz_ p3fz p3gz)) ∧ (p4nz ≤ 24) ∧ (p4rz_ < p4nz ∨ p4rz_ = 0) ∧ (WFm (am p4nz p4rz_ p4fz p4gz)) ∧ (p5nz ≤ 24) ∧ (p5rz_ < p5nz ∨ p5rz_ = 0) ∧ (WFm (am p5nz p5rz_ p5fz p5gz)) ∧ (p6nz ≤ 24) ∧ (p6rz_ < p6nz ∨ p6rz_ = 0) ∧ (WFm (am p6nz p6rz_ p6fz p6gz)) ∧ (p7nz ≤ 24) ∧ (p7rz_ < p7nz ∨ p7rz_ = 0) ∧ (WFm (am p7nz p7rz_ p7fz p7gz)) ∧ (nz ≤ 24) ∧ (rz_ < nz ∨ rz_ = 0) ∧ (WFm (am nz rz_ fz ggz)) ∧ (((asX (am nz rz_ fz ggz) acz npz (pick8 (am p0nz p0rz_ p0fz p0gz) (am p1nz p1rz_ p1fz p1gz) (am p2nz p2rz_ p2fz p2gz) (am p3nz p3rz_ p3fz p3gz) (am p4nz p4rz_ p4fz p4gz) (am p5nz p5rz_ p5fz p5gz) (am p6nz p6rz_ p6fz p6gz) (am p7nz p7rz_ p7fz p7gz))), rz) = opSees (asX (am n r f gg) ac np (pick8 (am p0n p0r p0f p0g) (am p1n p1r p1f p1g) (am p2n p2r p2f p2g) (am p3n p3r p3f p3g) (am p4n p4r p4f p4g) (am p5n p5r p5f p5g) (am p6n p6r p6f p6g) (am p7n p7r p7f p7g))) v0 v1 v2 v3 v4)))) 0 0 := by
  refine ct_of rfl rfl ?_
  intro X C hT hin hro
  show WW X 7 E 0 [(0, .ref hx), (1, .int v0), (2, .int v1), (3, .int v2), (4, .int v3), (5, .int v4)] [] [(hx, .inr (11, [.ref h, .ref qp, .int (nI ac), .int (nI np), .ref qs, .ref qj, .ref ly, .ref qh, .ref kk, .int (nI kc), .ref rd, .ref pg, .int (nI pe), .int kn, .ref ss])), (qp, .inl (E.2.1 6, 8, .inr (.inr (.inr (.inr fqp))))), (p0, .inr (4, [.int (nI p0n), .int (nI p0r), .ref p0a, .ref p0b])), (p0a, .inl (E.2.1 1, 24, .inl p0f)), (p0b, .inl (E.2.1 1, 96, .inl p0g)), (p1, .inr (4, [.int (nI p1n), .int (nI p1r), .ref p1a, .ref p1b])), (p1a, .inl (E.2.1 1, 24, .inl p1f)), (p1b, .inl (E.2.1 1, 96, .inl p1g)), (p2, .inr (4, [.int (nI p2n), .int (nI p2r), .ref p2a, .ref p2b])), (p2a, .inl (E.2.1 1, 24, .inl p2f)), (p2b, .inl (E.2.1 1, 96, .inl p2g)), (p3, .inr (4, [.int (nI p3n), .int (nI p3r), .ref p3a, .ref p3b])), (p3a, .inl (E.2.1 1, 24, .inl p3f)), (p3b, .inl (E.2.1 1, 96, .inl p3g)), (p4, .inr (4, [.int (nI p4n), .int (nI p4r), .ref p4a, .ref p4b])), (p4a, .inl (E.2.1 1, 24, .inl p4f)), (p4b, .inl (E.2.1 1, 96, .inl p4g)), (p5, .inr (4, [.int (nI p5n), .int (nI p5r), .ref p5a, .ref p5b])), (p5a, .inl (E.2.1 1, 24, .inl p5f)), (p5b, .inl (E.2.1 1, 96, .inl p5g)), (p6, .inr (4, [.int (nI p6n), .int (nI p6r), .ref p6a, .ref p6b])), (p6a, .inl (E.2.1 1, 24, .inl p6f)), (p6b, .inl (E.2.1 1, 96, .inl p6g)), (p7, .inr (4, [.int (nI p7n), .int (nI p7r), .ref p7a, .ref p7b])), (p7a, .inl (E.2.1 1, 24, .inl p7f)), (p7b, .inl (E.2.1 1, 96, .inl p7g)), (h, .inr (4, [.int (nI n), .int (nI r), .ref a, .ref b])), (a, .inl (E.2.1 1, 24, .inl f)), (b, .inl (E.2.1 1, 96, .inl gg))] 0 0
  refine ww_iload_n C dX11_sees_0 1 rfl rfl ?_
  refine ww_iconst (v := 0) C dX11_sees_1 rfl ?_
  refine ww_iconst (v := 3) C dX11_sees_2 rfl ?_
  refine ww_ci (wr := [(hx, .inr (11, [.ref h, .ref qp, .int (nI ac), .int (nI np), .ref qs, .ref qj, .ref ly, .ref qh, .ref kk, .int (nI kc), .ref rd, .ref pg, .int (nI pe), .int kn, .ref ss])), (qp, .inl (E.2.1 6, 8, .inr (.inr (.inr (.inr fqp))))), (p0, .inr (4, [.int (nI p0n), .int (nI p0r), .ref p0a, .ref p0b])), (p0a, .inl (E.2.1 1, 24, .inl p0f)), (p0b, .inl (E.2.1 1, 96, .inl p0g)), (p1, .inr (4, [.int (nI p1n), .int (nI p1r), .ref p1a, .ref p1b])), (p1a, .inl (E.2.1 1, 24, .inl p1f)), (p1b, .inl (E.2.1 1, 96, .inl p1g)), (p2, .inr (4, [.int (nI p2n), .int (nI p2r), .ref p2a, .ref p2b])), (p2a, .inl (E.2.1 1, 24, .inl p2f)), (p2b, .inl (E.2.1 1, 96, .inl p2g)), (p3, .inr (4, [.int (nI p3n), .int (nI p3r), .ref p3a, .ref p3b])), (p3a, .inl (E.2.1 1, 24, .inl p3f)), (p3b, .inl (E.2.1 1, 96, .inl p3g)), (p4, .inr (4, [.int (nI p4n), .int (nI p4r), .ref p4a, .ref p4b])), (p4a, .inl (E.2.1 1, 24, .inl p4f)), (p4b, .inl (E.2.1 1, 96, .inl p4g)), (p5, .inr (4, [.int (nI p5n), .int (nI p5r), .ref p5a, .ref p5b])), (p5a, .inl (E.2.1 1, 24, .inl p5f)), (p5b, .inl (E.2.1 1, 96, .inl p5g)), (p6, .inr (4, [.int (nI p6n), .int (nI p6r), .ref p6a, .ref p6b])), (p6a, .inl (E.2.1 1, 24, .inl p6f)), (p6b, .inl (E.2.1 1, 96, .inl p6g)), (p7, .inr (4, [.int (nI p7n), .int (nI p7r), .ref p7a, .ref p7b])), (p7a, .inl (E.2.1 1, 24, .inl p7f)), (p7b, .inl (E.2.1 1, 96, .inl p7g)), (h, .inr (4, [.int (nI n), .int (nI r), .ref a, .ref b])), (a, .inl (E.2.1 1, 24, .inl f)), (b, .inl (E.2.1 1, 96, .inl gg))]) (k' := 0) (n' := 0) C (run_S (As := [.int v0, .int 0, .int 3]) (rest := []) C (c_within X.2.1 E ro v0 0 3 v0.toInt 0 3 rfl rfl rfl) ms_X11_within wl_X11_76 rfl rfl rfl rfl dX11_sees_3) (roK hro) [] [0, 1, 2, 3, 4, 5, 6, 7, 8, 9, 10, 11, 12, 13, 14, 15, 16, 17, 18, 19, 20, 21, 22, 23, 24, 25, 26, 27, 28] rfl (gqk (by eq_refl)) (plk (by decide +kernel)) rfl (fun r_1 uz hw => ?_)
  rcases hw with hw | hw
  · refine an3 hw ?_
    clear hw
    intro he_4 he_5 h_2 hw
    have h_3 := hw
    clear hw
    have he_4 := he_4.symm
    subst he_4
    subst he_5
    refine ww_eq (ws' := [(hx, .inr (11, [.ref h, .ref qp, .int (nI ac), .int (nI np), .ref qs, .ref qj, .ref ly, .ref qh, .ref kk, .int (nI kc), .ref rd, .ref pg, .int (nI pe), .int kn, .ref ss])), (qp, .inl (E.2.1 6, 8, .inr (.inr (.inr (.inr fqp))))), (p0, .inr (4, [.int (nI p0n), .int (nI p0r), .ref p0a, .ref p0b])), (p0a, .inl (E.2.1 1, 24, .inl p0f)), (p0b, .inl (E.2.1 1, 96, .inl p0g)), (p1, .inr (4, [.int (nI p1n), .int (nI p1r), .ref p1a, .ref p1b])), (p1a, .inl (E.2.1 1, 24, .inl p1f)), (p1b, .inl (E.2.1 1, 96, .inl p1g)), (p2, .inr (4, [.int (nI p2n), .int (nI p2r), .ref p2a, .ref p2b])), (p2a, .inl (E.2.1 1, 24, .inl p2f)), (p2b, .inl (E.2.1 1, 96, .inl p2g)), (p3, .inr (4, [.int (nI p3n), .int (nI p3r), .ref p3a, .ref p3b])), (p3a, .inl (E.2.1 1, 24, .inl p3f)), (p3b, .inl (E.2.1 1, 96, .inl p3g)), (p4, .inr (4, [.int (nI p4n), .int (nI p4r), .ref p4a, .ref p4b])), (p4a, .inl (E.2.1 1, 24, .inl p4f)), (p4b, .inl (E.2.1 1, 96, .inl p4g)), (p5, .inr (4, [.int (nI p5n), .int (nI p5r), .ref p5a, .ref p5b])), (p5a, .inl (E.2.1 1, 24, .inl p5f)), (p5b, .inl (E.2.1 1, 96, .inl p5g)), (p6, .inr (4, [.int (nI p6n), .int (nI p6r), .ref p6a, .ref p6b])), (p6a, .inl (E.2.1 1, 24, .inl p6f)), (p6b, .inl (E.2.1 1, 96, .inl p6g)), (p7, .inr (4, [.int (nI p7n), .int (nI p7r), .ref p7a, .ref p7b])), (p7a, .inl (E.2.1 1, 24, .inl p7f)), (p7b, .inl (E.2.1 1, 96, .inl p7g)), (h, .inr (4, [.int (nI n), .int (nI r), .ref a, .ref b])), (a, .inl (E.2.1 1, 24, .inl f)), (b, .inl (E.2.1 1, 96, .inl gg))]) ?_ rfl rfl rfl
    refine ww_if_eq_f (tgt := 31) C dX11_sees_6 (by decide) (by decide) ?_
    refine ww_aload_n C dX11_sees_9 0 rfl rfl ?_
    refine ww_get C fg_X11_10 0 rfl rfl dX11_sees_10 ?_
    refine ww_iload_n C dX11_sees_13 2 rfl rfl ?_
    refine ww_ci (wr := [(hx, .inr (11, [.ref h, .ref qp, .int (nI ac), .int (nI np), .ref qs, .ref qj, .ref ly, .ref qh, .ref kk, .int (nI kc), .ref rd, .ref pg, .int (nI pe), .int kn, .ref ss])), (qp, .inl (E.2.1 6, 8, .inr (.inr (.inr (.inr fqp))))), (p0, .inr (4, [.int (nI p0n), .int (nI p0r), .ref p0a, .ref p0b])), (p0a, .inl (E.2.1 1, 24, .inl p0f)), (p0b, .inl (E.2.1 1, 96, .inl p0g)), (p1, .inr (4, [.int (nI p1n), .int (nI p1r), .ref p1a, .ref p1b])), (p1a, .inl (E.2.1 1, 24, .inl p1f)), (p1b, .inl (E.2.1 1, 96, .inl p1g)), (p2, .inr (4, [.int (nI p2n), .int (nI p2r), .ref p2a, .ref p2b])), (p2a, .inl (E.2.1 1, 24, .inl p2f)), (p2b, .inl (E.2.1 1, 96, .inl p2g)), (p3, .inr (4, [.int (nI p3n), .int (nI p3r), .ref p3a, .ref p3b])), (p3a, .inl (E.2.1 1, 24, .inl p3f)), (p3b, .inl (E.2.1 1, 96, .inl p3g)), (p4, .inr (4, [.int (nI p4n), .int (nI p4r), .ref p4a, .ref p4b])), (p4a, .inl (E.2.1 1, 24, .inl p4f)), (p4b, .inl (E.2.1 1, 96, .inl p4g)), (p5, .inr (4, [.int (nI p5n), .int (nI p5r), .ref p5a, .ref p5b])), (p5a, .inl (E.2.1 1, 24, .inl p5f)), (p5b, .inl (E.2.1 1, 96, .inl p5g)), (p6, .inr (4, [.int (nI p6n), .int (nI p6r), .ref p6a, .ref p6b])), (p6a, .inl (E.2.1 1, 24, .inl p6f)), (p6b, .inl (E.2.1 1, 96, .inl p6g)), (p7, .inr (4, [.int (nI p7n), .int (nI p7r), .ref p7a, .ref p7b])), (p7a, .inl (E.2.1 1, 24, .inl p7f)), (p7b, .inl (E.2.1 1, 96, .inl p7g)), (a, .inl (E.2.1 1, 24, .inl f)), (b, .inl (E.2.1 1, 96, .inl gg))]) (k' := 0) (n' := 0) C (run_V (As := [.int v1]) (rest := []) C (m_contains X.2.1 E ro h v1 n r a b (by omega)) mi_X4_contains wl_X11_135 rfl 0 4 rfl rfl rfl rfl rfl dX11_sees_14) (roK hro) [26] [0, 1, 2, 3, 4, 5, 6, 7, 8, 9, 10, 11, 12, 13, 14, 15, 16, 17, 18, 19, 20, 21, 22, 23, 24, 25, 27, 28] rfl (gqk (by eq_refl)) (plk (by decide +kernel)) rfl (fun r_9 uz hw => ?_)
    rcases hw with hw | hw
    · refine an3 hw ?_
      clear hw
      intro he_12 he_13 h_10 hw
      have h_11 := hw
      clear hw
      have he_12 := he_12.symm
      subst he_12
      subst he_13
      refine ww_eq (ws' := [(hx, .inr (11, [.ref h, .ref qp, .int (nI ac), .int (nI np), .ref qs, .ref qj, .ref ly, .ref qh, .ref kk, .int (nI kc), .ref rd, .ref pg, .int (nI pe), .int kn, .ref ss])), (qp, .inl (E.2.1 6, 8, .inr (.inr (.inr (.inr fqp))))), (p0, .inr (4, [.int (nI p0n), .int (nI p0r), .ref p0a, .ref p0b])), (p0a, .inl (E.2.1 1, 24, .inl p0f)), (p0b, .inl (E.2.1 1, 96, .inl p0g)), (p1, .inr (4, [.int (nI p1n), .int (nI p1r), .ref p1a, .ref p1b])), (p1a, .inl (E.2.1 1, 24, .inl p1f)), (p1b, .inl (E.2.1 1, 96, .inl p1g)), (p2, .inr (4, [.int (nI p2n), .int (nI p2r), .ref p2a, .ref p2b])), (p2a, .inl (E.2.1 1, 24, .inl p2f)), (p2b, .inl (E.2.1 1, 96, .inl p2g)), (p3, .inr (4, [.int (nI p3n), .int (nI p3r), .ref p3a, .ref p3b])), (p3a, .inl (E.2.1 1, 24, .inl p3f)), (p3b, .inl (E.2.1 1, 96, .inl p3g)), (p4, .inr (4, [.int (nI p4n), .int (nI p4r), .ref p4a, .ref p4b])), (p4a, .inl (E.2.1 1, 24, .inl p4f)), (p4b, .inl (E.2.1 1, 96, .inl p4g)), (p5, .inr (4, [.int (nI p5n), .int (nI p5r), .ref p5a, .ref p5b])), (p5a, .inl (E.2.1 1, 24, .inl p5f)), (p5b, .inl (E.2.1 1, 96, .inl p5g)), (p6, .inr (4, [.int (nI p6n), .int (nI p6r), .ref p6a, .ref p6b])), (p6a, .inl (E.2.1 1, 24, .inl p6f)), (p6b, .inl (E.2.1 1, 96, .inl p6g)), (p7, .inr (4, [.int (nI p7n), .int (nI p7r), .ref p7a, .ref p7b])), (p7a, .inl (E.2.1 1, 24, .inl p7f)), (p7b, .inl (E.2.1 1, 96, .inl p7g)), (a, .inl (E.2.1 1, 24, .inl f)), (b, .inl (E.2.1 1, 96, .inl gg)), (h, .inr (4, [.int (nI n), .int (nI r), .ref a, .ref b]))]) ?_ rfl rfl rfl
      refine ww_if_eq_f (tgt := 31) C dX11_sees_17 (by decide) (by decide) ?_
      refine ww_aload_n C dX11_sees_20 0 rfl rfl ?_
      refine ww_get C fg_X11_10 0 rfl rfl dX11_sees_21 ?_
      refine ww_iload_n C dX11_sees_24 3 rfl rfl ?_
      refine ww_ci (wr := [(hx, .inr (11, [.ref h, .ref qp, .int (nI ac), .int (nI np), .ref qs, .ref qj, .ref ly, .ref qh, .ref kk, .int (nI kc), .ref rd, .ref pg, .int (nI pe), .int kn, .ref ss])), (qp, .inl (E.2.1 6, 8, .inr (.inr (.inr (.inr fqp))))), (p0, .inr (4, [.int (nI p0n), .int (nI p0r), .ref p0a, .ref p0b])), (p0a, .inl (E.2.1 1, 24, .inl p0f)), (p0b, .inl (E.2.1 1, 96, .inl p0g)), (p1, .inr (4, [.int (nI p1n), .int (nI p1r), .ref p1a, .ref p1b])), (p1a, .inl (E.2.1 1, 24, .inl p1f)), (p1b, .inl (E.2.1 1, 96, .inl p1g)), (p2, .inr (4, [.int (nI p2n), .int (nI p2r), .ref p2a, .ref p2b])), (p2a, .inl (E.2.1 1, 24, .inl p2f)), (p2b, .inl (E.2.1 1, 96, .inl p2g)), (p3, .inr (4, [.int (nI p3n), .int (nI p3r), .ref p3a, .ref p3b])), (p3a, .inl (E.2.1 1, 24, .inl p3f)), (p3b, .inl (E.2.1 1, 96, .inl p3g)), (p4, .inr (4, [.int (nI p4n), .int (nI p4r), .ref p4a, .ref p4b])), (p4a, .inl (E.2.1 1, 24, .inl p4f)), (p4b, .inl (E.2.1 1, 96, .inl p4g)), (p5, .inr (4, [.int (nI p5n), .int (nI p5r), .ref p5a, .ref p5b])), (p5a, .inl (E.2.1 1, 24, .inl p5f)), (p5b, .inl (E.2.1 1, 96, .inl p5g)), (p6, .inr (4, [.int (nI p6n), .int (nI p6r), .ref p6a, .ref p6b])), (p6a, .inl (E.2.1 1, 24, .inl p6f)), (p6b, .inl (E.2.1 1, 96, .inl p6g)), (p7, .inr (4, [.int (nI p7n), .int (nI p7r), .ref p7a, .ref p7b])), (p7a, .inl (E.2.1 1, 24, .inl p7f)), (p7b, .inl (E.2.1 1, 96, .inl p7g)), (a, .inl (E.2.1 1, 24, .inl f)), (b, .inl (E.2.1 1, 96, .inl gg))]) (k' := 0) (n' := 0) C (run_V (As := [.int v2]) (rest := []) C (m_contains X.2.1 E ro h v2 n r a b (by omega)) mi_X4_contains wl_X11_135 rfl 0 4 rfl rfl rfl rfl rfl dX11_sees_25) (roK hro) [28] [0, 1, 2, 3, 4, 5, 6, 7, 8, 9, 10, 11, 12, 13, 14, 15, 16, 17, 18, 19, 20, 21, 22, 23, 24, 25, 26, 27] rfl (gqk (by eq_refl)) (plk (by decide +kernel)) rfl (fun r_17 uz hw => ?_)
      rcases hw with hw | hw
      · refine an3 hw ?_
        clear hw
        intro he_20 he_21 h_18 hw
        have h_19 := hw
        clear hw
        have he_20 := he_20.symm
        subst he_20
        subst he_21
        refine ww_eq (ws' := [(hx, .inr (11, [.ref h, .ref qp, .int (nI ac), .int (nI np), .ref qs, .ref qj, .ref ly, .ref qh, .ref kk, .int (nI kc), .ref rd, .ref pg, .int (nI pe), .int kn, .ref ss])), (qp, .inl (E.2.1 6, 8, .inr (.inr (.inr (.inr fqp))))), (p0, .inr (4, [.int (nI p0n), .int (nI p0r), .ref p0a, .ref p0b])), (p0a, .inl (E.2.1 1, 24, .inl p0f)), (p0b, .inl (E.2.1 1, 96, .inl p0g)), (p1, .inr (4, [.int (nI p1n), .int (nI p1r), .ref p1a, .ref p1b])), (p1a, .inl (E.2.1 1, 24, .inl p1f)), (p1b, .inl (E.2.1 1, 96, .inl p1g)), (p2, .inr (4, [.int (nI p2n), .int (nI p2r), .ref p2a, .ref p2b])), (p2a, .inl (E.2.1 1, 24, .inl p2f)), (p2b, .inl (E.2.1 1, 96, .inl p2g)), (p3, .inr (4, [.int (nI p3n), .int (nI p3r), .ref p3a, .ref p3b])), (p3a, .inl (E.2.1 1, 24, .inl p3f)), (p3b, .inl (E.2.1 1, 96, .inl p3g)), (p4, .inr (4, [.int (nI p4n), .int (nI p4r), .ref p4a, .ref p4b])), (p4a, .inl (E.2.1 1, 24, .inl p4f)), (p4b, .inl (E.2.1 1, 96, .inl p4g)), (p5, .inr (4, [.int (nI p5n), .int (nI p5r), .ref p5a, .ref p5b])), (p5a, .inl (E.2.1 1, 24, .inl p5f)), (p5b, .inl (E.2.1 1, 96, .inl p5g)), (p6, .inr (4, [.int (nI p6n), .int (nI p6r), .ref p6a, .ref p6b])), (p6a, .inl (E.2.1 1, 24, .inl p6f)), (p6b, .inl (E.2.1 1, 96, .inl p6g)), (p7, .inr (4, [.int (nI p7n), .int (nI p7r), .ref p7a, .ref p7b])), (p7a, .inl (E.2.1 1, 24, .inl p7f)), (p7b, .inl (E.2.1 1, 96, .inl p7g)), (a, .inl (E.2.1 1, 24, .inl f)), (b, .inl (E.2.1 1, 96, .inl gg)), (h, .inr (4, [.int (nI n), .int (nI r), .ref a, .ref b]))]) ?_ rfl rfl rfl
        refine ww_if_ne_t (tgt := 33) C dX11_sees_28 (by decide) (by decide) ?_
        obtain ⟨j_25, hj_25, rfl⟩ := i_nat (x := v0) (N := 3) (by omega) (by omega)
        have hzj_25 := nI_toInt (n := j_25) (by omega)
        obtain ⟨j_26, hj_26, rfl⟩ := i_nat (x := v1) (N := 24) (by omega) (by omega)
        have hzj_26 := nI_toInt (n := j_26) (by omega)
        obtain ⟨j_27, hj_27, rfl⟩ := i_nat (x := v2) (N := 24) (by omega) (by omega)
        have hzj_27 := nI_toInt (n := j_27) (by omega)
        refine ww_aload_n C dX11_sees_33 0 rfl rfl ?_
        refine ww_cv (wr := []) (k' := 0) (n' := 0) C (run_V (As := []) (rest := []) C (x_remember X.2.1 E ro hx h qp ac np qs qj ly qh kk kc rd pg pe kn ss fqp p0 p1 p2 p3 p4 p5 p6 p7 p0n p0r p0a p0b p0f p0g p1n p1r p1a p1b p1f p1g p2n p2r p2a p2b p2f p2g p3n p3r p3a p3b p3f p3g p4n p4r p4a p4b p4f p4g p5n p5r p5a p5b p5f p5g p6n p6r p6a p6b p6f p6g p7n p7r p7a p7b p7f p7g n r a b f gg k_fqp_0 k_fqp_1 k_fqp_2 k_fqp_3 k_fqp_4 k_fqp_5 k_fqp_6 k_fqp_7 (by omega) (by omega) (by omega) (by omega) (by omega) (by omega) (by omega) (by omega) (by omega) (by omega) (by omega) (by omega) (by omega) (by omega) (by omega) (by omega) (by omega) (by omega) (by omega) (by omega) (by omega) (by omega) (by omega) (by omega) (by omega) (by omega) (by omega) (by omega) (by omega) (by omega) (by omega)) mi_X11_remember wl_X11_128 rfl 0 11 rfl rfl rfl rfl rfl dX11_sees_34) (roK hro) [0, 1, 2, 3, 4, 5, 6, 7, 8, 9, 10, 11, 12, 13, 14, 15, 16, 17, 18, 19, 20, 21, 22, 23, 24, 25, 28, 26, 27] [] (gqk (by eq_refl)) rfl (plk (by decide +kernel)) rfl (fun uz hw => ?_)
        refine ex8 hw ?_
        clear hw
        intro acz_29 npz_30 p0nz_31 p0rz__32 p0fz_33 p0gz_34 p1nz_35 p1rz__36 hw
        refine ex8 hw ?_
        clear hw
        intro p1fz_37 p1gz_38 p2nz_39 p2rz__40 p2fz_41 p2gz_42 p3nz_43 p3rz__44 hw
        refine ex8 hw ?_
        clear hw
        intro p3fz_45 p3gz_46 p4nz_47 p4rz__48 p4fz_49 p4gz_50 p5nz_51 p5rz__52 hw
        refine ex8 hw ?_
        clear hw
        intro p5fz_53 p5gz_54 p6nz_55 p6rz__56 p6fz_57 p6gz_58 p7nz_59 p7rz__60 hw
        refine ex2 hw ?_
        clear hw
        intro p7fz_61 p7gz_62 hw
        refine an8 hw ?_
        clear hw
        intro he_92 h_63 h_64 h_65 h_66 h_67 h_68 h_69 hw
        refine an8 hw ?_
        clear hw
        intro h_70 h_71 h_72 h_73 h_74 h_75 h_76 h_77 hw
        refine an8 hw ?_
        clear hw
        intro h_78 h_79 h_80 h_81 h_82 h_83 h_84 h_85 hw
        refine an5 hw ?_
        clear hw
        intro h_86 h_87 h_88 h_89 h_90 hw
        have h_91 := hw
        clear hw
        subst he_92
        refine ww_eq (ws' := [(hx, .inr (11, [.ref h, .ref qp, .int (nI acz_29), .int (nI npz_30), .ref qs, .ref qj, .ref ly, .ref qh, .ref kk, .int (nI kc), .ref rd, .ref pg, .int (nI pe), .int kn, .ref ss])), (qp, .inl (E.2.1 6, 8, .inr (.inr (.inr (.inr fqp))))), (p0, .inr (4, [.int (nI p0nz_31), .int (nI p0rz__32), .ref p0a, .ref p0b])), (p0a, .inl (E.2.1 1, 24, .inl p0fz_33)), (p0b, .inl (E.2.1 1, 96, .inl p0gz_34)), (p1, .inr (4, [.int (nI p1nz_35), .int (nI p1rz__36), .ref p1a, .ref p1b])), (p1a, .inl (E.2.1 1, 24, .inl p1fz_37)), (p1b, .inl (E.2.1 1, 96, .inl p1gz_38)), (p2, .inr (4, [.int (nI p2nz_39), .int (nI p2rz__40), .ref p2a, .ref p2b])), (p2a, .inl (E.2.1 1, 24, .inl p2fz_41)), (p2b, .inl (E.2.1 1, 96, .inl p2gz_42)), (p3, .inr (4, [.int (nI p3nz_43), .int (nI p3rz__44), .ref p3a, .ref p3b])), (p3a, .inl (E.2.1 1, 24, .inl p3fz_45)), (p3b, .inl (E.2.1 1, 96, .inl p3gz_46)), (p4, .inr (4, [.int (nI p4nz_47), .int (nI p4rz__48), .ref p4a, .ref p4b])), (p4a, .inl (E.2.1 1, 24, .inl p4fz_49)), (p4b, .inl (E.2.1 1, 96, .inl p4gz_50)), (p5, .inr (4, [.int (nI p5nz_51), .int (nI p5rz__52), .ref p5a, .ref p5b])), (p5a, .inl (E.2.1 1, 24, .inl p5fz_53)), (p5b, .inl (E.2.1 1, 96, .inl p5gz_54)), (p6, .inr (4, [.int (nI p6nz_55), .int (nI p6rz__56), .ref p6a, .ref p6b])), (p6a, .inl (E.2.1 1, 24, .inl p6fz_57)), (p6b, .inl (E.2.1 1, 96, .inl p6gz_58)), (p7, .inr (4, [.int (nI p7nz_59), .int (nI p7rz__60), .ref p7a, .ref p7b])), (p7a, .inl (E.2.1 1, 24, .inl p7fz_61)), (p7b, .inl (E.2.1 1, 96, .inl p7gz_62)), (h, .inr (4, [.int (nI n), .int (nI r), .ref a, .ref b])), (a, .inl (E.2.1 1, 24, .inl f)), (b, .inl (E.2.1 1, 96, .inl gg))]) ?_ rfl rfl rfl
        refine ww_aload_n C dX11_sees_37 0 rfl rfl ?_
        refine ww_get C fg_X11_10 0 rfl rfl dX11_sees_38 ?_
        refine ww_iload_n C dX11_sees_41 1 rfl rfl ?_
        refine ww_iload_n C dX11_sees_42 2 rfl rfl ?_
        refine ww_ci (wr := [(hx, .inr (11, [.ref h, .ref qp, .int (nI acz_29), .int (nI npz_30), .ref qs, .ref qj, .ref ly, .ref qh, .ref kk, .int (nI kc), .ref rd, .ref pg, .int (nI pe), .int kn, .ref ss])), (qp, .inl (E.2.1 6, 8, .inr (.inr (.inr (.inr fqp))))), (p0, .inr (4, [.int (nI p0nz_31), .int (nI p0rz__32), .ref p0a, .ref p0b])), (p0a, .inl (E.2.1 1, 24, .inl p0fz_33)), (p0b, .inl (E.2.1 1, 96, .inl p0gz_34)), (p1, .inr (4, [.int (nI p1nz_35), .int (nI p1rz__36), .ref p1a, .ref p1b])), (p1a, .inl (E.2.1 1, 24, .inl p1fz_37)), (p1b, .inl (E.2.1 1, 96, .inl p1gz_38)), (p2, .inr (4, [.int (nI p2nz_39), .int (nI p2rz__40), .ref p2a, .ref p2b])), (p2a, .inl (E.2.1 1, 24, .inl p2fz_41)), (p2b, .inl (E.2.1 1, 96, .inl p2gz_42)), (p3, .inr (4, [.int (nI p3nz_43), .int (nI p3rz__44), .ref p3a, .ref p3b])), (p3a, .inl (E.2.1 1, 24, .inl p3fz_45)), (p3b, .inl (E.2.1 1, 96, .inl p3gz_46)), (p4, .inr (4, [.int (nI p4nz_47), .int (nI p4rz__48), .ref p4a, .ref p4b])), (p4a, .inl (E.2.1 1, 24, .inl p4fz_49)), (p4b, .inl (E.2.1 1, 96, .inl p4gz_50)), (p5, .inr (4, [.int (nI p5nz_51), .int (nI p5rz__52), .ref p5a, .ref p5b])), (p5a, .inl (E.2.1 1, 24, .inl p5fz_53)), (p5b, .inl (E.2.1 1, 96, .inl p5gz_54)), (p6, .inr (4, [.int (nI p6nz_55), .int (nI p6rz__56), .ref p6a, .ref p6b])), (p6a, .inl (E.2.1 1, 24, .inl p6fz_57)), (p6b, .inl (E.2.1 1, 96, .inl p6gz_58)), (p7, .inr (4, [.int (nI p7nz_59), .int (nI p7rz__60), .ref p7a, .ref p7b])), (p7a, .inl (E.2.1 1, 24, .inl p7fz_61)), (p7b, .inl (E.2.1 1, 96, .inl p7gz_62))]) (k' := 0) (n' := 0) C (run_V (As := [.int (nI j_25), .int (nI j_26)]) (rest := []) C (m_held X.2.1 E ro h j_25 j_26 n r a b f gg (by omega) (by omega)) mi_X4_held wl_X11_138 rfl 0 4 rfl rfl rfl rfl rfl dX11_sees_43) (roK hro) [26, 27, 28] [0, 1, 2, 3, 4, 5, 6, 7, 8, 9, 10, 11, 12, 13, 14, 15, 16, 17, 18, 19, 20, 21, 22, 23, 24, 25] rfl (gqk (by eq_refl)) (plk (by decide +kernel)) rfl (fun r_93 uz hw => ?_)
        refine an1 hw ?_
        clear hw
        intro he_94 hw
        have he_95 := hw
        clear hw
        have he_94 := he_94.symm
        subst he_94
        subst he_95
        refine ww_eq (ws' := [(hx, .inr (11, [.ref h, .ref qp, .int (nI acz_29), .int (nI npz_30), .ref qs, .ref qj, .ref ly, .ref qh, .ref kk, .int (nI kc), .ref rd, .ref pg, .int (nI pe), .int kn, .ref ss])), (qp, .inl (E.2.1 6, 8, .inr (.inr (.inr (.inr fqp))))), (p0, .inr (4, [.int (nI p0nz_31), .int (nI p0rz__32), .ref p0a, .ref p0b])), (p0a, .inl (E.2.1 1, 24, .inl p0fz_33)), (p0b, .inl (E.2.1 1, 96, .inl p0gz_34)), (p1, .inr (4, [.int (nI p1nz_35), .int (nI p1rz__36), .ref p1a, .ref p1b])), (p1a, .inl (E.2.1 1, 24, .inl p1fz_37)), (p1b, .inl (E.2.1 1, 96, .inl p1gz_38)), (p2, .inr (4, [.int (nI p2nz_39), .int (nI p2rz__40), .ref p2a, .ref p2b])), (p2a, .inl (E.2.1 1, 24, .inl p2fz_41)), (p2b, .inl (E.2.1 1, 96, .inl p2gz_42)), (p3, .inr (4, [.int (nI p3nz_43), .int (nI p3rz__44), .ref p3a, .ref p3b])), (p3a, .inl (E.2.1 1, 24, .inl p3fz_45)), (p3b, .inl (E.2.1 1, 96, .inl p3gz_46)), (p4, .inr (4, [.int (nI p4nz_47), .int (nI p4rz__48), .ref p4a, .ref p4b])), (p4a, .inl (E.2.1 1, 24, .inl p4fz_49)), (p4b, .inl (E.2.1 1, 96, .inl p4gz_50)), (p5, .inr (4, [.int (nI p5nz_51), .int (nI p5rz__52), .ref p5a, .ref p5b])), (p5a, .inl (E.2.1 1, 24, .inl p5fz_53)), (p5b, .inl (E.2.1 1, 96, .inl p5gz_54)), (p6, .inr (4, [.int (nI p6nz_55), .int (nI p6rz__56), .ref p6a, .ref p6b])), (p6a, .inl (E.2.1 1, 24, .inl p6fz_57)), (p6b, .inl (E.2.1 1, 96, .inl p6gz_58)), (p7, .inr (4, [.int (nI p7nz_59), .int (nI p7rz__60), .ref p7a, .ref p7b])), (p7a, .inl (E.2.1 1, 24, .inl p7fz_61)), (p7b, .inl (E.2.1 1, 96, .inl p7gz_62)), (h, .inr (4, [.int (nI n), .int (nI r), .ref a, .ref b])), (a, .inl (E.2.1 1, 24, .inl f)), (b, .inl (E.2.1 1, 96, .inl gg))]) ?_ rfl rfl rfl
        refine ww_iload_n C dX11_sees_46 3 rfl rfl ?_
        obtain ⟨x_96, ex_96⟩ : ∃ z : Int32, (gg (j_25 * 24 + j_26)) >>> ((nI j_27) &&& 31) = z := ⟨_, rfl⟩
        refine ww_ishr (v := x_96) C dX11_sees_47 ex_96 ?_
        refine ww_iconst (v := 1) C dX11_sees_48 rfl ?_
        obtain ⟨j_97, hj_97, ej_97⟩ := pk_andE x_96 (m := 1) 1 rfl
        refine ww_iand (v := (nI j_97)) C dX11_sees_49 ej_97 ?_
        refine ww_istore (lv' := [(6, .int (nI j_97)), (0, .ref hx), (1, .int (nI j_25)), (2, .int (nI j_26)), (3, .int (nI j_27)), (4, .int v3), (5, .int v4)]) C dX11_sees_50 rfl rfl ?_
        refine ww_aload_n C dX11_sees_52 1 rfl rfl ?_
        refine ww_get C fg_X11_10 0 rfl rfl dX11_sees_53 ?_
        refine ww_iload_n C dX11_sees_56 2 rfl rfl ?_
        refine ww_iload_n C dX11_sees_57 3 rfl rfl ?_
        refine ww_iload_n C dX11_sees_58 4 rfl rfl ?_
        refine ww_iload C dX11_sees_59 5 rfl ?_
        refine ww_cv (wr := [(hx, .inr (11, [.ref h, .ref qp, .int (nI acz_29), .int (nI npz_30), .ref qs, .ref qj, .ref ly, .ref qh, .ref kk, .int (nI kc), .ref rd, .ref pg, .int (nI pe), .int kn, .ref ss])), (qp, .inl (E.2.1 6, 8, .inr (.inr (.inr (.inr fqp))))), (p0, .inr (4, [.int (nI p0nz_31), .int (nI p0rz__32), .ref p0a, .ref p0b])), (p0a, .inl (E.2.1 1, 24, .inl p0fz_33)), (p0b, .inl (E.2.1 1, 96, .inl p0gz_34)), (p1, .inr (4, [.int (nI p1nz_35), .int (nI p1rz__36), .ref p1a, .ref p1b])), (p1a, .inl (E.2.1 1, 24, .inl p1fz_37)), (p1b, .inl (E.2.1 1, 96, .inl p1gz_38)), (p2, .inr (4, [.int (nI p2nz_39), .int (nI p2rz__40), .ref p2a, .ref p2b])), (p2a, .inl (E.2.1 1, 24, .inl p2fz_41)), (p2b, .inl (E.2.1 1, 96, .inl p2gz_42)), (p3, .inr (4, [.int (nI p3nz_43), .int (nI p3rz__44), .ref p3a, .ref p3b])), (p3a, .inl (E.2.1 1, 24, .inl p3fz_45)), (p3b, .inl (E.2.1 1, 96, .inl p3gz_46)), (p4, .inr (4, [.int (nI p4nz_47), .int (nI p4rz__48), .ref p4a, .ref p4b])), (p4a, .inl (E.2.1 1, 24, .inl p4fz_49)), (p4b, .inl (E.2.1 1, 96, .inl p4gz_50)), (p5, .inr (4, [.int (nI p5nz_51), .int (nI p5rz__52), .ref p5a, .ref p5b])), (p5a, .inl (E.2.1 1, 24, .inl p5fz_53)), (p5b, .inl (E.2.1 1, 96, .inl p5gz_54)), (p6, .inr (4, [.int (nI p6nz_55), .int (nI p6rz__56), .ref p6a, .ref p6b])), (p6a, .inl (E.2.1 1, 24, .inl p6fz_57)), (p6b, .inl (E.2.1 1, 96, .inl p6gz_58)), (p7, .inr (4, [.int (nI p7nz_59), .int (nI p7rz__60), .ref p7a, .ref p7b])), (p7a, .inl (E.2.1 1, 24, .inl p7fz_61)), (p7b, .inl (E.2.1 1, 96, .inl p7gz_62))]) (k' := 0) (n' := 0) C (run_V (As := [.int (nI j_25), .int (nI j_26), .int (nI j_27), .int v3]) (rest := []) C (m_hold X.2.1 E ro h j_25 j_26 (nI j_27) v3 n r a b f gg (by omega) (by omega)) mi_X4_hold wl_X11_141 rfl 0 4 rfl rfl rfl rfl rfl dX11_sees_61) (roK hro) [26, 27, 28] [0, 1, 2, 3, 4, 5, 6, 7, 8, 9, 10, 11, 12, 13, 14, 15, 16, 17, 18, 19, 20, 21, 22, 23, 24, 25] rfl (gqk (by eq_refl)) (plk (by decide +kernel)) rfl (fun uz hw => ?_)
        refine ex1 hw ?_
        clear hw
        intro g2_99 hw
        refine an1 hw ?_
        clear hw
        intro he_101 hw
        have h_100 := hw
        clear hw
        subst he_101
        refine ww_eq (ws' := [(hx, .inr (11, [.ref h, .ref qp, .int (nI acz_29), .int (nI npz_30), .ref qs, .ref qj, .ref ly, .ref qh, .ref kk, .int (nI kc), .ref rd, .ref pg, .int (nI pe), .int kn, .ref ss])), (qp, .inl (E.2.1 6, 8, .inr (.inr (.inr (.inr fqp))))), (p0, .inr (4, [.int (nI p0nz_31), .int (nI p0rz__32), .ref p0a, .ref p0b])), (p0a, .inl (E.2.1 1, 24, .inl p0fz_33)), (p0b, .inl (E.2.1 1, 96, .inl p0gz_34)), (p1, .inr (4, [.int (nI p1nz_35), .int (nI p1rz__36), .ref p1a, .ref p1b])), (p1a, .inl (E.2.1 1, 24, .inl p1fz_37)), (p1b, .inl (E.2.1 1, 96, .inl p1gz_38)), (p2, .inr (4, [.int (nI p2nz_39), .int (nI p2rz__40), .ref p2a, .ref p2b])), (p2a, .inl (E.2.1 1, 24, .inl p2fz_41)), (p2b, .inl (E.2.1 1, 96, .inl p2gz_42)), (p3, .inr (4, [.int (nI p3nz_43), .int (nI p3rz__44), .ref p3a, .ref p3b])), (p3a, .inl (E.2.1 1, 24, .inl p3fz_45)), (p3b, .inl (E.2.1 1, 96, .inl p3gz_46)), (p4, .inr (4, [.int (nI p4nz_47), .int (nI p4rz__48), .ref p4a, .ref p4b])), (p4a, .inl (E.2.1 1, 24, .inl p4fz_49)), (p4b, .inl (E.2.1 1, 96, .inl p4gz_50)), (p5, .inr (4, [.int (nI p5nz_51), .int (nI p5rz__52), .ref p5a, .ref p5b])), (p5a, .inl (E.2.1 1, 24, .inl p5fz_53)), (p5b, .inl (E.2.1 1, 96, .inl p5gz_54)), (p6, .inr (4, [.int (nI p6nz_55), .int (nI p6rz__56), .ref p6a, .ref p6b])), (p6a, .inl (E.2.1 1, 24, .inl p6fz_57)), (p6b, .inl (E.2.1 1, 96, .inl p6gz_58)), (p7, .inr (4, [.int (nI p7nz_59), .int (nI p7rz__60), .ref p7a, .ref p7b])), (p7a, .inl (E.2.1 1, 24, .inl p7fz_61)), (p7b, .inl (E.2.1 1, 96, .inl p7gz_62)), (h, .inr (4, [.int (nI n), .int (nI r), .ref a, .ref b])), (a, .inl (E.2.1 1, 24, .inl f)), (b, .inl (E.2.1 1, 96, .inl g2_99))]) ?_ rfl rfl rfl
        refine ww_iload C dX11_sees_64 6 rfl ?_
        refine ww_if_eq (tgt := 81) C dX11_sees_66 (by decide) (fun c_102 => ?_) (fun c_102 => ?_)
        · have zc_102 : v4.toInt = 0 := i_eq rfl rfl c_102
          refine ww_iload C dX11_sees_81 0 rfl ?_
          have hwz_103 : WFm (am n r f g2_99) := by rw [(am_see hn (by omega) (by omega) (by omega) h_100)]; exact aSee_wf hwfm (by show j_27 < n; omega)
          exact ww_iret (u := [(hx, .inr (11, [.ref h, .ref qp, .int (nI acz_29), .int (nI npz_30), .ref qs, .ref qj, .ref ly, .ref qh, .ref kk, .int (nI kc), .ref rd, .ref pg, .int (nI pe), .int kn, .ref ss])), (qp, .inl (E.2.1 6, 8, .inr (.inr (.inr (.inr fqp))))), (p0, .inr (4, [.int (nI p0nz_31), .int (nI p0rz__32), .ref p0a, .ref p0b])), (p0a, .inl (E.2.1 1, 24, .inl p0fz_33)), (p0b, .inl (E.2.1 1, 96, .inl p0gz_34)), (p1, .inr (4, [.int (nI p1nz_35), .int (nI p1rz__36), .ref p1a, .ref p1b])), (p1a, .inl (E.2.1 1, 24, .inl p1fz_37)), (p1b, .inl (E.2.1 1, 96, .inl p1gz_38)), (p2, .inr (4, [.int (nI p2nz_39), .int (nI p2rz__40), .ref p2a, .ref p2b])), (p2a, .inl (E.2.1 1, 24, .inl p2fz_41)), (p2b, .inl (E.2.1 1, 96, .inl p2gz_42)), (p3, .inr (4, [.int (nI p3nz_43), .int (nI p3rz__44), .ref p3a, .ref p3b])), (p3a, .inl (E.2.1 1, 24, .inl p3fz_45)), (p3b, .inl (E.2.1 1, 96, .inl p3gz_46)), (p4, .inr (4, [.int (nI p4nz_47), .int (nI p4rz__48), .ref p4a, .ref p4b])), (p4a, .inl (E.2.1 1, 24, .inl p4fz_49)), (p4b, .inl (E.2.1 1, 96, .inl p4gz_50)), (p5, .inr (4, [.int (nI p5nz_51), .int (nI p5rz__52), .ref p5a, .ref p5b])), (p5a, .inl (E.2.1 1, 24, .inl p5fz_53)), (p5b, .inl (E.2.1 1, 96, .inl p5gz_54)), (p6, .inr (4, [.int (nI p6nz_55), .int (nI p6rz__56), .ref p6a, .ref p6b])), (p6a, .inl (E.2.1 1, 24, .inl p6fz_57)), (p6b, .inl (E.2.1 1, 96, .inl p6gz_58)), (p7, .inr (4, [.int (nI p7nz_59), .int (nI p7rz__60), .ref p7a, .ref p7b])), (p7a, .inl (E.2.1 1, 24, .inl p7fz_61)), (p7b, .inl (E.2.1 1, 96, .inl p7gz_62)), (h, .inr (4, [.int (nI n), .int (nI r), .ref a, .ref b])), (a, .inl (E.2.1 1, 24, .inl f)), (b, .inl (E.2.1 1, 96, .inl g2_99))]) C hT [0, 1, 2, 3, 4, 5, 6, 7, 8, 9, 10, 11, 12, 13, 14, 15, 16, 17, 18, 19, 20, 21, 22, 23, 24, 25, 26, 27, 28] (gqk (by eq_refl)) (ndk (by decide +kernel)) rfl rfl dX11_sees_83 (⟨acz_29, npz_30, p0nz_31, p0rz__32, p0fz_33, p0gz_34, p1nz_35, p1rz__36, p1fz_37, p1gz_38, p2nz_39, p2rz__40, p2fz_41, p2gz_42, p3nz_43, p3rz__44, p3fz_45, p3gz_46, p4nz_47, p4rz__48, p4fz_49, p4gz_50, p5nz_51, p5rz__52, p5fz_53, p5gz_54, p6nz_55, p6rz__56, p6fz_57, p6gz_58, p7nz_59, p7rz__60, p7fz_61, p7gz_62, n, r, f, g2_99, rfl, (by first | assumption | omega | decide), (by first | assumption | omega | decide), (by first | assumption | omega | decide), (by first | assumption | omega | decide), (by assumption), (by first | assumption | omega | decide), (by first | assumption | omega | decide), (by assumption), (by first | assumption | omega | decide), (by first | assumption | omega | decide), (by assumption), (by first | assumption | omega | decide), (by first | assumption | omega | decide), (by assumption), (by first | assumption | omega | decide), (by first | assumption | omega | decide), (by assumption), (by first | assumption | omega | decide), (by first | assumption | omega | decide), (by assumption), (by first | assumption | omega | decide), (by first | assumption | omega | decide), (by assumption), (by first | assumption | omega | decide), (by first | assumption | omega | decide), (by assumption), (by first | assumption | omega | decide), (by first | assumption | omega | decide), hwz_103, (by show _ = if (nI j_25).toInt < 0 ∨ 3 < (nI j_25).toInt ∨ (nI j_26).toInt < 0 ∨ (n : Int) ≤ (nI j_26).toInt ∨ (nI j_27).toInt < 0 ∨ (n : Int) ≤ (nI j_27).toInt then ((asX (am n r f gg) ac np (pick8 (am p0n p0r p0f p0g) (am p1n p1r p1f p1g) (am p2n p2r p2f p2g) (am p3n p3r p3f p3g) (am p4n p4r p4f p4g) (am p5n p5r p5f p5g) (am p6n p6r p6f p6g) (am p7n p7r p7f p7g))), -1) else (aRem (asX (am n r f gg) ac np (pick8 (am p0n p0r p0f p0g) (am p1n p1r p1f p1g) (am p2n p2r p2f p2g) (am p3n p3r p3f p3g) (am p4n p4r p4f p4g) (am p5n p5r p5f p5g) (am p6n p6r p6f p6g) (am p7n p7r p7f p7g))) (if v4.toInt ≠ 0 then aSee (aSee (am n r f gg) (tN (nI j_25)) (tN (nI j_26)) (tN (nI j_27)) (decide (v3.toInt ≠ 0))) (tN (nI j_25)) (tN (nI j_27)) (tN (nI j_26)) (decide (v3.toInt ≠ 0)) else aSee (am n r f gg) (tN (nI j_25)) (tN (nI j_26)) (tN (nI j_27)) (decide (v3.toInt ≠ 0))), if (am n r f gg).2.2.2 (tN (nI j_25)) (tN (nI j_26)) (tN (nI j_27)) = true then 1 else 0); rw [if_neg (show ¬ ((nI j_25).toInt < 0 ∨ 3 < (nI j_25).toInt ∨ (nI j_26).toInt < 0 ∨ (n : Int) ≤ (nI j_26).toInt ∨ (nI j_27).toInt < 0 ∨ (n : Int) ≤ (nI j_27).toInt) by omega)]; exact Prod.ext ((asX_rem hac hnp h_89 h_90 h_91).trans (congrArg (aRem (asX (am n r f gg) ac np (pick8 (am p0n p0r p0f p0g) (am p1n p1r p1f p1g) (am p2n p2r p2f p2g) (am p3n p3r p3f p3g) (am p4n p4r p4f p4g) (am p5n p5r p5f p5g) (am p6n p6r p6f p6g) (am p7n p7r p7f p7g)))) (by rw [if_neg (show ¬ v4.toInt ≠ 0 by omega), tN_n (n := j_25) (by omega), tN_n (n := j_26) (by omega), tN_n (n := j_27) (by omega)]; exact (am_see hn (by omega) (by omega) (by omega) h_100)))) ((bit1 (by omega) ex_96 ej_97 (by omega)).trans (by rw [tN_n (n := j_25) (by omega), tN_n (n := j_26) (by omega), tN_n (n := j_27) (by omega), am_S (by omega) (by omega)])))⟩)
        · have zc_102 : v4.toInt ≠ 0 := i_ne rfl rfl c_102
          refine ww_aload_n C dX11_sees_69 1 rfl rfl ?_
          refine ww_get C fg_X11_10 0 rfl rfl dX11_sees_70 ?_
          refine ww_iload_n C dX11_sees_73 2 rfl rfl ?_
          refine ww_iload_n C dX11_sees_74 4 rfl rfl ?_
          refine ww_iload_n C dX11_sees_75 3 rfl rfl ?_
          refine ww_iload C dX11_sees_76 5 rfl ?_
          refine ww_cv (wr := [(hx, .inr (11, [.ref h, .ref qp, .int (nI acz_29), .int (nI npz_30), .ref qs, .ref qj, .ref ly, .ref qh, .ref kk, .int (nI kc), .ref rd, .ref pg, .int (nI pe), .int kn, .ref ss])), (qp, .inl (E.2.1 6, 8, .inr (.inr (.inr (.inr fqp))))), (p0, .inr (4, [.int (nI p0nz_31), .int (nI p0rz__32), .ref p0a, .ref p0b])), (p0a, .inl (E.2.1 1, 24, .inl p0fz_33)), (p0b, .inl (E.2.1 1, 96, .inl p0gz_34)), (p1, .inr (4, [.int (nI p1nz_35), .int (nI p1rz__36), .ref p1a, .ref p1b])), (p1a, .inl (E.2.1 1, 24, .inl p1fz_37)), (p1b, .inl (E.2.1 1, 96, .inl p1gz_38)), (p2, .inr (4, [.int (nI p2nz_39), .int (nI p2rz__40), .ref p2a, .ref p2b])), (p2a, .inl (E.2.1 1, 24, .inl p2fz_41)), (p2b, .inl (E.2.1 1, 96, .inl p2gz_42)), (p3, .inr (4, [.int (nI p3nz_43), .int (nI p3rz__44), .ref p3a, .ref p3b])), (p3a, .inl (E.2.1 1, 24, .inl p3fz_45)), (p3b, .inl (E.2.1 1, 96, .inl p3gz_46)), (p4, .inr (4, [.int (nI p4nz_47), .int (nI p4rz__48), .ref p4a, .ref p4b])), (p4a, .inl (E.2.1 1, 24, .inl p4fz_49)), (p4b, .inl (E.2.1 1, 96, .inl p4gz_50)), (p5, .inr (4, [.int (nI p5nz_51), .int (nI p5rz__52), .ref p5a, .ref p5b])), (p5a, .inl (E.2.1 1, 24, .inl p5fz_53)), (p5b, .inl (E.2.1 1, 96, .inl p5gz_54)), (p6, .inr (4, [.int (nI p6nz_55), .int (nI p6rz__56), .ref p6a, .ref p6b])), (p6a, .inl (E.2.1 1, 24, .inl p6fz_57)), (p6b, .inl (E.2.1 1, 96, .inl p6gz_58)), (p7, .inr (4, [.int (nI p7nz_59), .int (nI p7rz__60), .ref p7a, .ref p7b])), (p7a, .inl (E.2.1 1, 24, .inl p7fz_61)), (p7b, .inl (E.2.1 1, 96, .inl p7gz_62))]) (k' := 0) (n' := 0) C (run_V (As := [.int (nI j_25), .int (nI j_27), .int (nI j_26), .int v3]) (rest := []) C (m_hold X.2.1 E ro h j_25 j_27 (nI j_26) v3 n r a b f g2_99 (by omega) (by omega)) mi_X4_hold wl_X11_141 rfl 0 4 rfl rfl rfl rfl rfl dX11_sees_78) (roK hro) [26, 27, 28] [0, 1, 2, 3, 4, 5, 6, 7, 8, 9, 10, 11, 12, 13, 14, 15, 16, 17, 18, 19, 20, 21, 22, 23, 24, 25] rfl (gqk (by eq_refl)) (plk (by decide +kernel)) rfl (fun uz hw => ?_)
          refine ex1 hw ?_
          clear hw
          intro g2_105 hw
          refine an1 hw ?_
          clear hw
          intro he_107 hw
          have h_106 := hw
          clear hw
          subst he_107
          refine ww_eq (ws' := [(hx, .inr (11, [.ref h, .ref qp, .int (nI acz_29), .int (nI npz_30), .ref qs, .ref qj, .ref ly, .ref qh, .ref kk, .int (nI kc), .ref rd, .ref pg, .int (nI pe), .int kn, .ref ss])), (qp, .inl (E.2.1 6, 8, .inr (.inr (.inr (.inr fqp))))), (p0, .inr (4, [.int (nI p0nz_31), .int (nI p0rz__32), .ref p0a, .ref p0b])), (p0a, .inl (E.2.1 1, 24, .inl p0fz_33)), (p0b, .inl (E.2.1 1, 96, .inl p0gz_34)), (p1, .inr (4, [.int (nI p1nz_35), .int (nI p1rz__36), .ref p1a, .ref p1b])), (p1a, .inl (E.2.1 1, 24, .inl p1fz_37)), (p1b, .inl (E.2.1 1, 96, .inl p1gz_38)), (p2, .inr (4, [.int (nI p2nz_39), .int (nI p2rz__40), .ref p2a, .ref p2b])), (p2a, .inl (E.2.1 1, 24, .inl p2fz_41)), (p2b, .inl (E.2.1 1, 96, .inl p2gz_42)), (p3, .inr (4, [.int (nI p3nz_43), .int (nI p3rz__44), .ref p3a, .ref p3b])), (p3a, .inl (E.2.1 1, 24, .inl p3fz_45)), (p3b, .inl (E.2.1 1, 96, .inl p3gz_46)), (p4, .inr (4, [.int (nI p4nz_47), .int (nI p4rz__48), .ref p4a, .ref p4b])), (p4a, .inl (E.2.1 1, 24, .inl p4fz_49)), (p4b, .inl (E.2.1 1, 96, .inl p4gz_50)), (p5, .inr (4, [.int (nI p5nz_51), .int (nI p5rz__52), .ref p5a, .ref p5b])), (p5a, .inl (E.2.1 1, 24, .inl p5fz_53)), (p5b, .inl (E.2.1 1, 96, .inl p5gz_54)), (p6, .inr (4, [.int (nI p6nz_55), .int (nI p6rz__56), .ref p6a, .ref p6b])), (p6a, .inl (E.2.1 1, 24, .inl p6fz_57)), (p6b, .inl (E.2.1 1, 96, .inl p6gz_58)), (p7, .inr (4, [.int (nI p7nz_59), .int (nI p7rz__60), .ref p7a, .ref p7b])), (p7a, .inl (E.2.1 1, 24, .inl p7fz_61)), (p7b, .inl (E.2.1 1, 96, .inl p7gz_62)), (h, .inr (4, [.int (nI n), .int (nI r), .ref a, .ref b])), (a, .inl (E.2.1 1, 24, .inl f)), (b, .inl (E.2.1 1, 96, .inl g2_105))]) ?_ rfl rfl rfl
          refine ww_iload C dX11_sees_81 0 rfl ?_
          have hwz_108 : WFm (am n r f g2_105) := by rw [((am_see hn (by omega) (by omega) (by omega) h_106).trans (congrArg (fun z => aSee z j_25 j_27 j_26 (decide (v3.toInt ≠ 0))) (am_see hn (by omega) (by omega) (by omega) h_100)))]; exact aSee_wf (aSee_wf hwfm (by show j_27 < n; omega)) (by show j_26 < n; omega)
          exact ww_iret (u := [(hx, .inr (11, [.ref h, .ref qp, .int (nI acz_29), .int (nI npz_30), .ref qs, .ref qj, .ref ly, .ref qh, .ref kk, .int (nI kc), .ref rd, .ref pg, .int (nI pe), .int kn, .ref ss])), (qp, .inl (E.2.1 6, 8, .inr (.inr (.inr (.inr fqp))))), (p0, .inr (4, [.int (nI p0nz_31), .int (nI p0rz__32), .ref p0a, .ref p0b])), (p0a, .inl (E.2.1 1, 24, .inl p0fz_33)), (p0b, .inl (E.2.1 1, 96, .inl p0gz_34)), (p1, .inr (4, [.int (nI p1nz_35), .int (nI p1rz__36), .ref p1a, .ref p1b])), (p1a, .inl (E.2.1 1, 24, .inl p1fz_37)), (p1b, .inl (E.2.1 1, 96, .inl p1gz_38)), (p2, .inr (4, [.int (nI p2nz_39), .int (nI p2rz__40), .ref p2a, .ref p2b])), (p2a, .inl (E.2.1 1, 24, .inl p2fz_41)), (p2b, .inl (E.2.1 1, 96, .inl p2gz_42)), (p3, .inr (4, [.int (nI p3nz_43), .int (nI p3rz__44), .ref p3a, .ref p3b])), (p3a, .inl (E.2.1 1, 24, .inl p3fz_45)), (p3b, .inl (E.2.1 1, 96, .inl p3gz_46)), (p4, .inr (4, [.int (nI p4nz_47), .int (nI p4rz__48), .ref p4a, .ref p4b])), (p4a, .inl (E.2.1 1, 24, .inl p4fz_49)), (p4b, .inl (E.2.1 1, 96, .inl p4gz_50)), (p5, .inr (4, [.int (nI p5nz_51), .int (nI p5rz__52), .ref p5a, .ref p5b])), (p5a, .inl (E.2.1 1, 24, .inl p5fz_53)), (p5b, .inl (E.2.1 1, 96, .inl p5gz_54)), (p6, .inr (4, [.int (nI p6nz_55), .int (nI p6rz__56), .ref p6a, .ref p6b])), (p6a, .inl (E.2.1 1, 24, .inl p6fz_57)), (p6b, .inl (E.2.1 1, 96, .inl p6gz_58)), (p7, .inr (4, [.int (nI p7nz_59), .int (nI p7rz__60), .ref p7a, .ref p7b])), (p7a, .inl (E.2.1 1, 24, .inl p7fz_61)), (p7b, .inl (E.2.1 1, 96, .inl p7gz_62)), (h, .inr (4, [.int (nI n), .int (nI r), .ref a, .ref b])), (a, .inl (E.2.1 1, 24, .inl f)), (b, .inl (E.2.1 1, 96, .inl g2_105))]) C hT [0, 1, 2, 3, 4, 5, 6, 7, 8, 9, 10, 11, 12, 13, 14, 15, 16, 17, 18, 19, 20, 21, 22, 23, 24, 25, 26, 27, 28] (gqk (by eq_refl)) (ndk (by decide +kernel)) rfl rfl dX11_sees_83 (⟨acz_29, npz_30, p0nz_31, p0rz__32, p0fz_33, p0gz_34, p1nz_35, p1rz__36, p1fz_37, p1gz_38, p2nz_39, p2rz__40, p2fz_41, p2gz_42, p3nz_43, p3rz__44, p3fz_45, p3gz_46, p4nz_47, p4rz__48, p4fz_49, p4gz_50, p5nz_51, p5rz__52, p5fz_53, p5gz_54, p6nz_55, p6rz__56, p6fz_57, p6gz_58, p7nz_59, p7rz__60, p7fz_61, p7gz_62, n, r, f, g2_105, rfl, (by first | assumption | omega | decide), (by first | assumption | omega | decide), (by first | assumption | omega | decide), (by first | assumption | omega | decide), (by assumption), (by first | assumption | omega | decide), (by first | assumption | omega | decide), (by assumption), (by first | assumption | omega | decide), (by first | assumption | omega | decide), (by assumption), (by first | assumption | omega | decide), (by first | assumption | omega | decide), (by assumption), (by first | assumption | omega | decide), (by first | assumption | omega | decide), (by assumption), (by first | assumption | omega | decide), (by first | assumption | omega | decide), (by assumption), (by first | assumption | omega | decide), (by first | assumption | omega | decide), (by assumption), (by first | assumption | omega | decide), (by first | assumption | omega | decide), (by assumption), (by first | assumption | omega | decide), (by first | assumption | omega | decide), hwz_108, (by show _ = if (nI j_25).toInt < 0 ∨ 3 < (nI j_25).toInt ∨ (nI j_26).toInt < 0 ∨ (n : Int) ≤ (nI j_26).toInt ∨ (nI j_27).toInt < 0 ∨ (n : Int) ≤ (nI j_27).toInt then ((asX (am n r f gg) ac np (pick8 (am p0n p0r p0f p0g) (am p1n p1r p1f p1g) (am p2n p2r p2f p2g) (am p3n p3r p3f p3g) (am p4n p4r p4f p4g) (am p5n p5r p5f p5g) (am p6n p6r p6f p6g) (am p7n p7r p7f p7g))), -1) else (aRem (asX (am n r f gg) ac np (pick8 (am p0n p0r p0f p0g) (am p1n p1r p1f p1g) (am p2n p2r p2f p2g) (am p3n p3r p3f p3g) (am p4n p4r p4f p4g) (am p5n p5r p5f p5g) (am p6n p6r p6f p6g) (am p7n p7r p7f p7g))) (if v4.toInt ≠ 0 then aSee (aSee (am n r f gg) (tN (nI j_25)) (tN (nI j_26)) (tN (nI j_27)) (decide (v3.toInt ≠ 0))) (tN (nI j_25)) (tN (nI j_27)) (tN (nI j_26)) (decide (v3.toInt ≠ 0)) else aSee (am n r f gg) (tN (nI j_25)) (tN (nI j_26)) (tN (nI j_27)) (decide (v3.toInt ≠ 0))), if (am n r f gg).2.2.2 (tN (nI j_25)) (tN (nI j_26)) (tN (nI j_27)) = true then 1 else 0); rw [if_neg (show ¬ ((nI j_25).toInt < 0 ∨ 3 < (nI j_25).toInt ∨ (nI j_26).toInt < 0 ∨ (n : Int) ≤ (nI j_26).toInt ∨ (nI j_27).toInt < 0 ∨ (n : Int) ≤ (nI j_27).toInt) by omega)]; exact Prod.ext ((asX_rem hac hnp h_89 h_90 h_91).trans (congrArg (aRem (asX (am n r f gg) ac np (pick8 (am p0n p0r p0f p0g) (am p1n p1r p1f p1g) (am p2n p2r p2f p2g) (am p3n p3r p3f p3g) (am p4n p4r p4f p4g) (am p5n p5r p5f p5g) (am p6n p6r p6f p6g) (am p7n p7r p7f p7g)))) (by rw [if_pos (show v4.toInt ≠ 0 by omega), tN_n (n := j_25) (by omega), tN_n (n := j_26) (by omega), tN_n (n := j_27) (by omega)]; exact ((am_see hn (by omega) (by omega) (by omega) h_106).trans (congrArg (fun z => aSee z j_25 j_27 j_26 (decide (v3.toInt ≠ 0))) (am_see hn (by omega) (by omega) (by omega) h_100)))))) ((bit1 (by omega) ex_96 ej_97 (by omega)).trans (by rw [tN_n (n := j_25) (by omega), tN_n (n := j_26) (by omega), tN_n (n := j_27) (by omega), am_S (by omega) (by omega)])))⟩)
      · refine an2 hw ?_
        clear hw
        intro he_23 he_24 hw
        have h_22 := hw
        clear hw
        have he_23 := he_23.symm
        subst he_23
        subst he_24
        refine ww_eq (ws' := [(hx, .inr (11, [.ref h, .ref qp, .int (nI ac), .int (nI np), .ref qs, .ref qj, .ref ly, .ref qh, .ref kk, .int (nI kc), .ref rd, .ref pg, .int (nI pe), .int kn, .ref ss])), (qp, .inl (E.2.1 6, 8, .inr (.inr (.inr (.inr fqp))))), (p0, .inr (4, [.int (nI p0n), .int (nI p0r), .ref p0a, .ref p0b])), (p0a, .inl (E.2.1 1, 24, .inl p0f)), (p0b, .inl (E.2.1 1, 96, .inl p0g)), (p1, .inr (4, [.int (nI p1n), .int (nI p1r), .ref p1a, .ref p1b])), (p1a, .inl (E.2.1 1, 24, .inl p1f)), (p1b, .inl (E.2.1 1, 96, .inl p1g)), (p2, .inr (4, [.int (nI p2n), .int (nI p2r), .ref p2a, .ref p2b])), (p2a, .inl (E.2.1 1, 24, .inl p2f)), (p2b, .inl (E.2.1 1, 96, .inl p2g)), (p3, .inr (4, [.int (nI p3n), .int (nI p3r), .ref p3a, .ref p3b])), (p3a, .inl (E.2.1 1, 24, .inl p3f)), (p3b, .inl (E.2.1 1, 96, .inl p3g)), (p4, .inr (4, [.int (nI p4n), .int (nI p4r), .ref p4a, .ref p4b])), (p4a, .inl (E.2.1 1, 24, .inl p4f)), (p4b, .inl (E.2.1 1, 96, .inl p4g)), (p5, .inr (4, [.int (nI p5n), .int (nI p5r), .ref p5a, .ref p5b])), (p5a, .inl (E.2.1 1, 24, .inl p5f)), (p5b, .inl (E.2.1 1, 96, .inl p5g)), (p6, .inr (4, [.int (nI p6n), .int (nI p6r), .ref p6a, .ref p6b])), (p6a, .inl (E.2.1 1, 24, .inl p6f)), (p6b, .inl (E.2.1 1, 96, .inl p6g)), (p7, .inr (4, [.int (nI p7n), .int (nI p7r), .ref p7a, .ref p7b])), (p7a, .inl (E.2.1 1, 24, .inl p7f)), (p7b, .inl (E.2.1 1, 96, .inl p7g)), (a, .inl (E.2.1 1, 24, .inl f)), (b, .inl (E.2.1 1, 96, .inl gg)), (h, .inr (4, [.int (nI n), .int (nI r), .ref a, .ref b]))]) ?_ rfl rfl rfl
        refine ww_if_ne_f (tgt := 33) C dX11_sees_28 (by decide) (rfl) ?_
        refine ww_iconst (v := (-1)) C dX11_sees_31 rfl ?_
        exact ww_iret (u := [(hx, .inr (11, [.ref h, .ref qp, .int (nI ac), .int (nI np), .ref qs, .ref qj, .ref ly, .ref qh, .ref kk, .int (nI kc), .ref rd, .ref pg, .int (nI pe), .int kn, .ref ss])), (qp, .inl (E.2.1 6, 8, .inr (.inr (.inr (.inr fqp))))), (p0, .inr (4, [.int (nI p0n), .int (nI p0r), .ref p0a, .ref p0b])), (p0a, .inl (E.2.1 1, 24, .inl p0f)), (p0b, .inl (E.2.1 1, 96, .inl p0g)), (p1, .inr (4, [.int (nI p1n), .int (nI p1r), .ref p1a, .ref p1b])), (p1a, .inl (E.2.1 1, 24, .inl p1f)), (p1b, .inl (E.2.1 1, 96, .inl p1g)), (p2, .inr (4, [.int (nI p2n), .int (nI p2r), .ref p2a, .ref p2b])), (p2a, .inl (E.2.1 1, 24, .inl p2f)), (p2b, .inl (E.2.1 1, 96, .inl p2g)), (p3, .inr (4, [.int (nI p3n), .int (nI p3r), .ref p3a, .ref p3b])), (p3a, .inl (E.2.1 1, 24, .inl p3f)), (p3b, .inl (E.2.1 1, 96, .inl p3g)), (p4, .inr (4, [.int (nI p4n), .int (nI p4r), .ref p4a, .ref p4b])), (p4a, .inl (E.2.1 1, 24, .inl p4f)), (p4b, .inl (E.2.1 1, 96, .inl p4g)), (p5, .inr (4, [.int (nI p5n), .int (nI p5r), .ref p5a, .ref p5b])), (p5a, .inl (E.2.1 1, 24, .inl p5f)), (p5b, .inl (E.2.1 1, 96, .inl p5g)), (p6, .inr (4, [.int (nI p6n), .int (nI p6r), .ref p6a, .ref p6b])), (p6a, .inl (E.2.1 1, 24, .inl p6f)), (p6b, .inl (E.2.1 1, 96, .inl p6g)), (p7, .inr (4, [.int (nI p7n), .int (nI p7r), .ref p7a, .ref p7b])), (p7a, .inl (E.2.1 1, 24, .inl p7f)), (p7b, .inl (E.2.1 1, 96, .inl p7g)), (h, .inr (4, [.int (nI n), .int (nI r), .ref a, .ref b])), (a, .inl (E.2.1 1, 24, .inl f)), (b, .inl (E.2.1 1, 96, .inl gg))]) C hT [0, 1, 2, 3, 4, 5, 6, 7, 8, 9, 10, 11, 12, 13, 14, 15, 16, 17, 18, 19, 20, 21, 22, 23, 24, 25, 28, 26, 27] (gqk (by eq_refl)) (ndk (by decide +kernel)) rfl rfl dX11_sees_32 (⟨ac, np, p0n, p0r, p0f, p0g, p1n, p1r, p1f, p1g, p2n, p2r, p2f, p2g, p3n, p3r, p3f, p3g, p4n, p4r, p4f, p4g, p5n, p5r, p5f, p5g, p6n, p6r, p6f, p6g, p7n, p7r, p7f, p7g, n, r, f, gg, rfl, (by first | assumption | omega | decide), (by first | assumption | omega | decide), (by first | assumption | omega | decide), (by first | assumption | omega | decide), (by assumption), (by first | assumption | omega | decide), (by first | assumption | omega | decide), (by assumption), (by first | assumption | omega | decide), (by first | assumption | omega | decide), (by assumption), (by first | assumption | omega | decide), (by first | assumption | omega | decide), (by assumption), (by first | assumption | omega | decide), (by first | assumption | omega | decide), (by assumption), (by first | assumption | omega | decide), (by first | assumption | omega | decide), (by assumption), (by first | assumption | omega | decide), (by first | assumption | omega | decide), (by assumption), (by first | assumption | omega | decide), (by first | assumption | omega | decide), (by assumption), (by first | assumption | omega | decide), (by first | assumption | omega | decide), hwfm, (by show _ = if v0.toInt < 0 ∨ 3 < v0.toInt ∨ v1.toInt < 0 ∨ (n : Int) ≤ v1.toInt ∨ v2.toInt < 0 ∨ (n : Int) ≤ v2.toInt then ((asX (am n r f gg) ac np (pick8 (am p0n p0r p0f p0g) (am p1n p1r p1f p1g) (am p2n p2r p2f p2g) (am p3n p3r p3f p3g) (am p4n p4r p4f p4g) (am p5n p5r p5f p5g) (am p6n p6r p6f p6g) (am p7n p7r p7f p7g))), -1) else (aRem (asX (am n r f gg) ac np (pick8 (am p0n p0r p0f p0g) (am p1n p1r p1f p1g) (am p2n p2r p2f p2g) (am p3n p3r p3f p3g) (am p4n p4r p4f p4g) (am p5n p5r p5f p5g) (am p6n p6r p6f p6g) (am p7n p7r p7f p7g))) (if v4.toInt ≠ 0 then aSee (aSee (am n r f gg) (tN v0) (tN v1) (tN v2) (decide (v3.toInt ≠ 0))) (tN v0) (tN v2) (tN v1) (decide (v3.toInt ≠ 0)) else aSee (am n r f gg) (tN v0) (tN v1) (tN v2) (decide (v3.toInt ≠ 0))), if (am n r f gg).2.2.2 (tN v0) (tN v1) (tN v2) = true then 1 else 0); rw [if_pos (show v0.toInt < 0 ∨ 3 < v0.toInt ∨ v1.toInt < 0 ∨ (n : Int) ≤ v1.toInt ∨ v2.toInt < 0 ∨ (n : Int) ≤ v2.toInt by omega)])⟩)
    · refine an2 hw ?_
      clear hw
      intro he_15 he_16 hw
      have h_14 := hw
      clear hw
      have he_15 := he_15.symm
      subst he_15
      subst he_16
      refine ww_eq (ws' := [(hx, .inr (11, [.ref h, .ref qp, .int (nI ac), .int (nI np), .ref qs, .ref qj, .ref ly, .ref qh, .ref kk, .int (nI kc), .ref rd, .ref pg, .int (nI pe), .int kn, .ref ss])), (qp, .inl (E.2.1 6, 8, .inr (.inr (.inr (.inr fqp))))), (p0, .inr (4, [.int (nI p0n), .int (nI p0r), .ref p0a, .ref p0b])), (p0a, .inl (E.2.1 1, 24, .inl p0f)), (p0b, .inl (E.2.1 1, 96, .inl p0g)), (p1, .inr (4, [.int (nI p1n), .int (nI p1r), .ref p1a, .ref p1b])), (p1a, .inl (E.2.1 1, 24, .inl p1f)), (p1b, .inl (E.2.1 1, 96, .inl p1g)), (p2, .inr (4, [.int (nI p2n), .int (nI p2r), .ref p2a, .ref p2b])), (p2a, .inl (E.2.1 1, 24, .inl p2f)), (p2b, .inl (E.2.1 1, 96, .inl p2g)), (p3, .inr (4, [.int (nI p3n), .int (nI p3r), .ref p3a, .ref p3b])), (p3a, .inl (E.2.1 1, 24, .inl p3f)), (p3b, .inl (E.2.1 1, 96, .inl p3g)), (p4, .inr (4, [.int (nI p4n), .int (nI p4r), .ref p4a, .ref p4b])), (p4a, .inl (E.2.1 1, 24, .inl p4f)), (p4b, .inl (E.2.1 1, 96, .inl p4g)), (p5, .inr (4, [.int (nI p5n), .int (nI p5r), .ref p5a, .ref p5b])), (p5a, .inl (E.2.1 1, 24, .inl p5f)), (p5b, .inl (E.2.1 1, 96, .inl p5g)), (p6, .inr (4, [.int (nI p6n), .int (nI p6r), .ref p6a, .ref p6b])), (p6a, .inl (E.2.1 1, 24, .inl p6f)), (p6b, .inl (E.2.1 1, 96, .inl p6g)), (p7, .inr (4, [.int (nI p7n), .int (nI p7r), .ref p7a, .ref p7b])), (p7a, .inl (E.2.1 1, 24, .inl p7f)), (p7b, .inl (E.2.1 1, 96, .inl p7g)), (a, .inl (E.2.1 1, 24, .inl f)), (b, .inl (E.2.1 1, 96, .inl gg)), (h, .inr (4, [.int (nI n), .int (nI r), .ref a, .ref b]))]) ?_ rfl rfl rfl
      refine ww_if_eq_t (tgt := 31) C dX11_sees_17 (by decide) (rfl) ?_
      refine ww_iconst (v := (-1)) C dX11_sees_31 rfl ?_
      exact ww_iret (u := [(hx, .inr (11, [.ref h, .ref qp, .int (nI ac), .int (nI np), .ref qs, .ref qj, .ref ly, .ref qh, .ref kk, .int (nI kc), .ref rd, .ref pg, .int (nI pe), .int kn, .ref ss])), (qp, .inl (E.2.1 6, 8, .inr (.inr (.inr (.inr fqp))))), (p0, .inr (4, [.int (nI p0n), .int (nI p0r), .ref p0a, .ref p0b])), (p0a, .inl (E.2.1 1, 24, .inl p0f)), (p0b, .inl (E.2.1 1, 96, .inl p0g)), (p1, .inr (4, [.int (nI p1n), .int (nI p1r), .ref p1a, .ref p1b])), (p1a, .inl (E.2.1 1, 24, .inl p1f)), (p1b, .inl (E.2.1 1, 96, .inl p1g)), (p2, .inr (4, [.int (nI p2n), .int (nI p2r), .ref p2a, .ref p2b])), (p2a, .inl (E.2.1 1, 24, .inl p2f)), (p2b, .inl (E.2.1 1, 96, .inl p2g)), (p3, .inr (4, [.int (nI p3n), .int (nI p3r), .ref p3a, .ref p3b])), (p3a, .inl (E.2.1 1, 24, .inl p3f)), (p3b, .inl (E.2.1 1, 96, .inl p3g)), (p4, .inr (4, [.int (nI p4n), .int (nI p4r), .ref p4a, .ref p4b])), (p4a, .inl (E.2.1 1, 24, .inl p4f)), (p4b, .inl (E.2.1 1, 96, .inl p4g)), (p5, .inr (4, [.int (nI p5n), .int (nI p5r), .ref p5a, .ref p5b])), (p5a, .inl (E.2.1 1, 24, .inl p5f)), (p5b, .inl (E.2.1 1, 96, .inl p5g)), (p6, .inr (4, [.int (nI p6n), .int (nI p6r), .ref p6a, .ref p6b])), (p6a, .inl (E.2.1 1, 24, .inl p6f)), (p6b, .inl (E.2.1 1, 96, .inl p6g)), (p7, .inr (4, [.int (nI p7n), .int (nI p7r), .ref p7a, .ref p7b])), (p7a, .inl (E.2.1 1, 24, .inl p7f)), (p7b, .inl (E.2.1 1, 96, .inl p7g)), (h, .inr (4, [.int (nI n), .int (nI r), .ref a, .ref b])), (a, .inl (E.2.1 1, 24, .inl f)), (b, .inl (E.2.1 1, 96, .inl gg))]) C hT [0, 1, 2, 3, 4, 5, 6, 7, 8, 9, 10, 11, 12, 13, 14, 15, 16, 17, 18, 19, 20, 21, 22, 23, 24, 25, 28, 26, 27] (gqk (by eq_refl)) (ndk (by decide +kernel)) rfl rfl dX11_sees_32 (⟨ac, np, p0n, p0r, p0f, p0g, p1n, p1r, p1f, p1g, p2n, p2r, p2f, p2g, p3n, p3r, p3f, p3g, p4n, p4r, p4f, p4g, p5n, p5r, p5f, p5g, p6n, p6r, p6f, p6g, p7n, p7r, p7f, p7g, n, r, f, gg, rfl, (by first | assumption | omega | decide), (by first | assumption | omega | decide), (by first | assumption | omega | decide), (by first | assumption | omega | decide), (by assumption), (by first | assumption | omega | decide), (by first | assumption | omega | decide), (by assumption), (by first | assumption | omega | decide), (by first | assumption | omega | decide), (by assumption), (by first | assumption | omega | decide), (by first | assumption | omega | decide), (by assumption), (by first | assumption | omega | decide), (by first | assumption | omega | decide), (by assumption), (by first | assumption | omega | decide), (by first | assumption | omega | decide), (by assumption), (by first | assumption | omega | decide), (by first | assumption | omega | decide), (by assumption), (by first | assumption | omega | decide), (by first | assumption | omega | decide), (by assumption), (by first | assumption | omega | decide), (by first | assumption | omega | decide), hwfm, (by show _ = if v0.toInt < 0 ∨ 3 < v0.toInt ∨ v1.toInt < 0 ∨ (n : Int) ≤ v1.toInt ∨ v2.toInt < 0 ∨ (n : Int) ≤ v2.toInt then ((asX (am n r f gg) ac np (pick8 (am p0n p0r p0f p0g) (am p1n p1r p1f p1g) (am p2n p2r p2f p2g) (am p3n p3r p3f p3g) (am p4n p4r p4f p4g) (am p5n p5r p5f p5g) (am p6n p6r p6f p6g) (am p7n p7r p7f p7g))), -1) else (aRem (asX (am n r f gg) ac np (pick8 (am p0n p0r p0f p0g) (am p1n p1r p1f p1g) (am p2n p2r p2f p2g) (am p3n p3r p3f p3g) (am p4n p4r p4f p4g) (am p5n p5r p5f p5g) (am p6n p6r p6f p6g) (am p7n p7r p7f p7g))) (if v4.toInt ≠ 0 then aSee (aSee (am n r f gg) (tN v0) (tN v1) (tN v2) (decide (v3.toInt ≠ 0))) (tN v0) (tN v2) (tN v1) (decide (v3.toInt ≠ 0)) else aSee (am n r f gg) (tN v0) (tN v1) (tN v2) (decide (v3.toInt ≠ 0))), if (am n r f gg).2.2.2 (tN v0) (tN v1) (tN v2) = true then 1 else 0); rw [if_pos (show v0.toInt < 0 ∨ 3 < v0.toInt ∨ v1.toInt < 0 ∨ (n : Int) ≤ v1.toInt ∨ v2.toInt < 0 ∨ (n : Int) ≤ v2.toInt by omega)])⟩)
  · refine an2 hw ?_
    clear hw
    intro he_7 he_8 hw
    have h_6 := hw
    clear hw
    have he_7 := he_7.symm
    subst he_7
    subst he_8
    refine ww_eq (ws' := [(hx, .inr (11, [.ref h, .ref qp, .int (nI ac), .int (nI np), .ref qs, .ref qj, .ref ly, .ref qh, .ref kk, .int (nI kc), .ref rd, .ref pg, .int (nI pe), .int kn, .ref ss])), (qp, .inl (E.2.1 6, 8, .inr (.inr (.inr (.inr fqp))))), (p0, .inr (4, [.int (nI p0n), .int (nI p0r), .ref p0a, .ref p0b])), (p0a, .inl (E.2.1 1, 24, .inl p0f)), (p0b, .inl (E.2.1 1, 96, .inl p0g)), (p1, .inr (4, [.int (nI p1n), .int (nI p1r), .ref p1a, .ref p1b])), (p1a, .inl (E.2.1 1, 24, .inl p1f)), (p1b, .inl (E.2.1 1, 96, .inl p1g)), (p2, .inr (4, [.int (nI p2n), .int (nI p2r), .ref p2a, .ref p2b])), (p2a, .inl (E.2.1 1, 24, .inl p2f)), (p2b, .inl (E.2.1 1, 96, .inl p2g)), (p3, .inr (4, [.int (nI p3n), .int (nI p3r), .ref p3a, .ref p3b])), (p3a, .inl (E.2.1 1, 24, .inl p3f)), (p3b, .inl (E.2.1 1, 96, .inl p3g)), (p4, .inr (4, [.int (nI p4n), .int (nI p4r), .ref p4a, .ref p4b])), (p4a, .inl (E.2.1 1, 24, .inl p4f)), (p4b, .inl (E.2.1 1, 96, .inl p4g)), (p5, .inr (4, [.int (nI p5n), .int (nI p5r), .ref p5a, .ref p5b])), (p5a, .inl (E.2.1 1, 24, .inl p5f)), (p5b, .inl (E.2.1 1, 96, .inl p5g)), (p6, .inr (4, [.int (nI p6n), .int (nI p6r), .ref p6a, .ref p6b])), (p6a, .inl (E.2.1 1, 24, .inl p6f)), (p6b, .inl (E.2.1 1, 96, .inl p6g)), (p7, .inr (4, [.int (nI p7n), .int (nI p7r), .ref p7a, .ref p7b])), (p7a, .inl (E.2.1 1, 24, .inl p7f)), (p7b, .inl (E.2.1 1, 96, .inl p7g)), (h, .inr (4, [.int (nI n), .int (nI r), .ref a, .ref b])), (a, .inl (E.2.1 1, 24, .inl f)), (b, .inl (E.2.1 1, 96, .inl gg))]) ?_ rfl rfl rfl
    refine ww_if_eq_t (tgt := 31) C dX11_sees_6 (by decide) (rfl) ?_
    refine ww_iconst (v := (-1)) C dX11_sees_31 rfl ?_
    exact ww_iret (u := [(hx, .inr (11, [.ref h, .ref qp, .int (nI ac), .int (nI np), .ref qs, .ref qj, .ref ly, .ref qh, .ref kk, .int (nI kc), .ref rd, .ref pg, .int (nI pe), .int kn, .ref ss])), (qp, .inl (E.2.1 6, 8, .inr (.inr (.inr (.inr fqp))))), (p0, .inr (4, [.int (nI p0n), .int (nI p0r), .ref p0a, .ref p0b])), (p0a, .inl (E.2.1 1, 24, .inl p0f)), (p0b, .inl (E.2.1 1, 96, .inl p0g)), (p1, .inr (4, [.int (nI p1n), .int (nI p1r), .ref p1a, .ref p1b])), (p1a, .inl (E.2.1 1, 24, .inl p1f)), (p1b, .inl (E.2.1 1, 96, .inl p1g)), (p2, .inr (4, [.int (nI p2n), .int (nI p2r), .ref p2a, .ref p2b])), (p2a, .inl (E.2.1 1, 24, .inl p2f)), (p2b, .inl (E.2.1 1, 96, .inl p2g)), (p3, .inr (4, [.int (nI p3n), .int (nI p3r), .ref p3a, .ref p3b])), (p3a, .inl (E.2.1 1, 24, .inl p3f)), (p3b, .inl (E.2.1 1, 96, .inl p3g)), (p4, .inr (4, [.int (nI p4n), .int (nI p4r), .ref p4a, .ref p4b])), (p4a, .inl (E.2.1 1, 24, .inl p4f)), (p4b, .inl (E.2.1 1, 96, .inl p4g)), (p5, .inr (4, [.int (nI p5n), .int (nI p5r), .ref p5a, .ref p5b])), (p5a, .inl (E.2.1 1, 24, .inl p5f)), (p5b, .inl (E.2.1 1, 96, .inl p5g)), (p6, .inr (4, [.int (nI p6n), .int (nI p6r), .ref p6a, .ref p6b])), (p6a, .inl (E.2.1 1, 24, .inl p6f)), (p6b, .inl (E.2.1 1, 96, .inl p6g)), (p7, .inr (4, [.int (nI p7n), .int (nI p7r), .ref p7a, .ref p7b])), (p7a, .inl (E.2.1 1, 24, .inl p7f)), (p7b, .inl (E.2.1 1, 96, .inl p7g)), (h, .inr (4, [.int (nI n), .int (nI r), .ref a, .ref b])), (a, .inl (E.2.1 1, 24, .inl f)), (b, .inl (E.2.1 1, 96, .inl gg))]) C hT [0, 1, 2, 3, 4, 5, 6, 7, 8, 9, 10, 11, 12, 13, 14, 15, 16, 17, 18, 19, 20, 21, 22, 23, 24, 25, 26, 27, 28] (gqk (by eq_refl)) (ndk (by decide +kernel)) rfl rfl dX11_sees_32 (⟨ac, np, p0n, p0r, p0f, p0g, p1n, p1r, p1f, p1g, p2n, p2r, p2f, p2g, p3n, p3r, p3f, p3g, p4n, p4r, p4f, p4g, p5n, p5r, p5f, p5g, p6n, p6r, p6f, p6g, p7n, p7r, p7f, p7g, n, r, f, gg, rfl, (by first | assumption | omega | decide), (by first | assumption | omega | decide), (by first | assumption | omega | decide), (by first | assumption | omega | decide), (by assumption), (by first | assumption | omega | decide), (by first | assumption | omega | decide), (by assumption), (by first | assumption | omega | decide), (by first | assumption | omega | decide), (by assumption), (by first | assumption | omega | decide), (by first | assumption | omega | decide), (by assumption), (by first | assumption | omega | decide), (by first | assumption | omega | decide), (by assumption), (by first | assumption | omega | decide), (by first | assumption | omega | decide), (by assumption), (by first | assumption | omega | decide), (by first | assumption | omega | decide), (by assumption), (by first | assumption | omega | decide), (by first | assumption | omega | decide), (by assumption), (by first | assumption | omega | decide), (by first | assumption | omega | decide), hwfm, (by show _ = if v0.toInt < 0 ∨ 3 < v0.toInt ∨ v1.toInt < 0 ∨ (n : Int) ≤ v1.toInt ∨ v2.toInt < 0 ∨ (n : Int) ≤ v2.toInt then ((asX (am n r f gg) ac np (pick8 (am p0n p0r p0f p0g) (am p1n p1r p1f p1g) (am p2n p2r p2f p2g) (am p3n p3r p3f p3g) (am p4n p4r p4f p4g) (am p5n p5r p5f p5g) (am p6n p6r p6f p6g) (am p7n p7r p7f p7g))), -1) else (aRem (asX (am n r f gg) ac np (pick8 (am p0n p0r p0f p0g) (am p1n p1r p1f p1g) (am p2n p2r p2f p2g) (am p3n p3r p3f p3g) (am p4n p4r p4f p4g) (am p5n p5r p5f p5g) (am p6n p6r p6f p6g) (am p7n p7r p7f p7g))) (if v4.toInt ≠ 0 then aSee (aSee (am n r f gg) (tN v0) (tN v1) (tN v2) (decide (v3.toInt ≠ 0))) (tN v0) (tN v2) (tN v1) (decide (v3.toInt ≠ 0)) else aSee (am n r f gg) (tN v0) (tN v1) (tN v2) (decide (v3.toInt ≠ 0))), if (am n r f gg).2.2.2 (tN v0) (tN v1) (tN v2) = true then 1 else 0); rw [if_pos (show v0.toInt < 0 ∨ 3 < v0.toInt ∨ v1.toInt < 0 ∨ (n : Int) ≤ v1.toInt ∨ v2.toInt < 0 ∨ (n : Int) ≤ v2.toInt by omega)])⟩)
theorem dX11_blind_0 : decode cX11_blind 0 = .ok (.iload_n 1, 1) := dl_27 (by decide +kernel)
theorem dX11_blind_1 : decode cX11_blind 1 = .ok (.iconst 0, 1) := dl_3 (by decide +kernel)
theorem dX11_blind_2 : decode cX11_blind 2 = .ok (.ldc 145, 2) := dl_18 (by decide +kernel)
theorem wv_X11_145 : Cond.constant RX11 145 65535 ∈ TB := tbm (tq2 (List.mem_of_getElem? (i := 188) (by decide +kernel))) (by decide +kernel)
theorem dX11_blind_4 : decode cX11_blind 4 = .ok (.invokestatic 76, 3) := dl_184 (by decide +kernel)
theorem dX11_blind_7 : decode cX11_blind 7 = .ok (.ifCond .ne 5, 3) := dl_154 (by decide +kernel)
theorem dX11_blind_12 : decode cX11_blind 12 = .ok (.aload_n 0, 1) := dl_42 (by decide +kernel)
theorem dX11_blind_13 : decode cX11_blind 13 = .ok (.invokevirtual 128, 3) := dl_182 (by decide +kernel)
theorem dX11_blind_16 : decode cX11_blind 16 = .ok (.aload_n 0, 1) := dl_42 (by decide +kernel)
theorem dX11_blind_17 : decode cX11_blind 17 = .ok (.getfield 10, 3) := dl_180 (by decide +kernel)
theorem dX11_blind_20 : decode cX11_blind 20 = .ok (.iload_n 1, 1) := dl_27 (by decide +kernel)
theorem dX11_blind_21 : decode cX11_blind 21 = .ok (.invokevirtual 146, 3) := dl_182 (by decide +kernel)
theorem wl_X11_146 : Cond.methodLink RX11 146 yX4_blindfold ∈ TB := tbm (tq2 (List.mem_of_getElem? (i := 189) (by decide +kernel))) (by decide +kernel)
theorem wc_X4_blindfold : Cond.code yX4_blindfold cX4_blindfold 7 (some .int) ∈ TB := tbm (tq2 (List.mem_of_getElem? (i := 192) (rfl))) (by decide +kernel)
theorem wi_X4_blindfold : Cond.instanceMethod yX4_blindfold ∈ TB := tbm (tq2 (List.mem_of_getElem? (i := 190) (by decide +kernel))) (by decide +kernel)
theorem ws_X4_blindfold : Cond.selects RX4 yX4_blindfold yX4_blindfold ∈ TB := tbm (tq2 (List.mem_of_getElem? (i := 191) (by decide +kernel))) (by decide +kernel)
theorem mi_X4_blindfold : MI yX4_blindfold cX4_blindfold 7 (some .int) 1 := ⟨wc_X4_blindfold, wn_X4, ⟨by decide +kernel, by decide +kernel, by decide +kernel⟩, wi_X4_blindfold, ws_X4_blindfold⟩
theorem dX11_blind_24 : decode cX11_blind 24 = .ok (.ireturn, 1) := dl_172 (by decide +kernel)
theorem dX11_blind_10 : decode cX11_blind 10 = .ok (.iconst (-1), 1) := dl_2 (by decide +kernel)
theorem dX11_blind_11 : decode cX11_blind 11 = .ok (.ireturn, 1) := dl_172 (by decide +kernel)
set_option maxRecDepth 100000 in
set_option maxHeartbeats 4000000 in
theorem x_blind (l : Launch) (E : EV) (ro : va_W) (hx : Nat) (v0 : Int32) (h : Nat) (qp : Nat) (ac : Nat) (np : Nat) (qs : Nat) (qj : Nat) (ly : Nat) (qh : Nat) (kk : Nat) (kc : Nat) (rd : Nat) (pg : Nat) (pe : Nat) (kn : Int32) (ss : Nat) (fqp : Nat → Option Nat) (p0 : Nat) (p1 : Nat) (p2 : Nat) (p3 : Nat) (p4 : Nat) (p5 : Nat) (p6 : Nat) (p7 : Nat) (p0n : Nat) (p0r : Nat) (p0a : Nat) (p0b : Nat) (p0f : Nat → Int32) (p0g : Nat → Int32) (p1n : Nat) (p1r : Nat) (p1a : Nat) (p1b : Nat) (p1f : Nat → Int32) (p1g : Nat → Int32) (p2n : Nat) (p2r : Nat) (p2a : Nat) (p2b : Nat) (p2f : Nat → Int32) (p2g : Nat → Int32) (p3n : Nat) (p3r : Nat) (p3a : Nat) (p3b : Nat) (p3f : Nat → Int32) (p3g : Nat → Int32) (p4n : Nat) (p4r : Nat) (p4a : Nat) (p4b : Nat) (p4f : Nat → Int32) (p4g : Nat → Int32) (p5n : Nat) (p5r : Nat) (p5a : Nat) (p5b : Nat) (p5f : Nat → Int32) (p5g : Nat → Int32) (p6n : Nat) (p6r : Nat) (p6a : Nat) (p6b : Nat) (p6f : Nat → Int32) (p6g : Nat → Int32) (p7n : Nat) (p7r : Nat) (p7a : Nat) (p7b : Nat) (p7f : Nat → Int32) (p7g : Nat → Int32) (n : Nat) (r : Nat) (a : Nat) (b : Nat) (f : Nat → Int32) (gg : Nat → Int32) (k_fqp_0 : fqp 0 = some p0) (k_fqp_1 : fqp 1 = some p1) (k_fqp_2 : fqp 2 = some p2) (k_fqp_3 : fqp 3 = some p3) (k_fqp_4 : fqp 4 = some p4) (k_fqp_5 : fqp 5 = some p5) (k_fqp_6 : fqp 6 = some p6) (k_fqp_7 : fqp 7 = some p7) (hac : ac ≤ 8) (hnp : np < 8) (hkc : kc ≤ 4) (hpe : pe ≤ 4) (hp0_n : p0n ≤ 24) (hp0_r : p0r < p0n ∨ p0r = 0) (hp0_w : WFm (am p0n p0r p0f p0g)) (hp1_n : p1n ≤ 24) (hp1_r : p1r < p1n ∨ p1r = 0) (hp1_w : WFm (am p1n p1r p1f p1g)) (hp2_n : p2n ≤ 24) (hp2_r : p2r < p2n ∨ p2r = 0) (hp2_w : WFm (am p2n p2r p2f p2g)) (hp3_n : p3n ≤ 24) (hp3_r : p3r < p3n ∨ p3r = 0) (hp3_w : WFm (am p3n p3r p3f p3g)) (hp4_n : p4n ≤ 24) (hp4_r : p4r < p4n ∨ p4r = 0) (hp4_w : WFm (am p4n p4r p4f p4g)) (hp5_n : p5n ≤ 24) (hp5_r : p5r < p5n ∨ p5r = 0) (hp5_w : WFm (am p5n p5r p5f p5g)) (hp6_n : p6n ≤ 24) (hp6_r : p6r < p6n ∨ p6r = 0) (hp6_w : WFm (am p6n p6r p6f p6g)) (hp7_n : p7n ≤ 24) (hp7_r : p7r < p7n ∨ p7r = 0) (hp7_w : WFm (am p7n p7r p7f p7g)) (hn : n ≤ 24) (hr : r < n ∨ r = 0) (hwfm : WFm (am n r f gg)) : CT l yX11_blind (Cond.code yX11_blind cX11_blind 2 (some .int) :: TB) ({ frames := 3, cells := 0, slots := 0, locals := 105 }) E ro [.ref hx, .int v0] [(hx, .inr (11, [.ref h, .ref qp, .int (nI ac), .int (nI np), .ref qs, .ref qj, .ref ly, .ref qh, .ref kk, .int (nI kc), .ref rd, .ref pg, .int (nI pe), .int kn, .ref ss])), (qp, .inl (E.2.1 6, 8, .inr (.inr (.inr (.inr fqp))))), (p0, .inr (4, [.int (nI p0n), .int (nI p0r), .ref p0a, .ref p0b])), (p0a, .inl (E.2.1 1, 24, .inl p0f)), (p0b, .inl (E.2.1 1, 96, .inl p0g)), (p1, .inr (4, [.int (nI p1n), .int (nI p1r), .ref p1a, .ref p1b])), (p1a, .inl (E.2.1 1, 24, .inl p1f)), (p1b, .inl (E.2.1 1, 96, .inl p1g)), (p2, .inr (4, [.int (nI p2n), .int (nI p2r), .ref p2a, .ref p2b])), (p2a, .inl (E.2.1 1, 24, .inl p2f)), (p2b, .inl (E.2.1 1, 96, .inl p2g)), (p3, .inr (4, [.int (nI p3n), .int (nI p3r), .ref p3a, .ref p3b])), (p3a, .inl (E.2.1 1, 24, .inl p3f)), (p3b, .inl (E.2.1 1, 96, .inl p3g)), (p4, .inr (4, [.int (nI p4n), .int (nI p4r), .ref p4a, .ref p4b])), (p4a, .inl (E.2.1 1, 24, .inl p4f)), (p4b, .inl (E.2.1 1, 96, .inl p4g)), (p5, .inr (4, [.int (nI p5n), .int (nI p5r), .ref p5a, .ref p5b])), (p5a, .inl (E.2.1 1, 24, .inl p5f)), (p5b, .inl (E.2.1 1, 96, .inl p5g)), (p6, .inr (4, [.int (nI p6n), .int (nI p6r), .ref p6a, .ref p6b])), (p6a, .inl (E.2.1 1, 24, .inl p6f)), (p6b, .inl (E.2.1 1, 96, .inl p6g)), (p7, .inr (4, [.int (nI p7n), .int (nI p7r), .ref p7a, .ref p7b])), (p7a, .inl (E.2.1 1, 24, .inl p7f)), (p7b, .inl (E.2.1 1, 96, .inl p7g)), (h, .inr (4, [.int (nI n), .int (nI r), .ref a, .ref b])), (a, .inl (E.2.1 1, 24, .inl f)), (b, .inl (E.2.1 1, 96, .inl gg))] (Qi E (fun (rz : Int32) uz => (∃ (acz : Nat) (npz : Nat) (p0nz : Nat) (p0rz_ : Nat) (p0fz : Nat → Int32) (p0gz : Nat → Int32) (p1nz : Nat) (p1rz_ : Nat) (p1fz : Nat → Int32) (p1gz : Nat → Int32) (p2nz : Nat) (p2rz_ : Nat) (p2fz : Nat → Int32) (p2gz : Nat → Int32) (p3nz : Nat) (p3rz_ : Nat) (p3fz : Nat → Int32) (p3gz : Nat → Int32) (p4nz : Nat) (p4rz_ : Nat) (p4fz : Nat → Int32) (p4gz : Nat → Int32) (p5nz : Nat) (p5rz_ : Nat) (p5fz : Nat → Int32) (p5gz : Nat → Int32) (p6nz : Nat) (p6rz_ : Nat) (p6fz : Nat → Int32) (p6gz : Nat → Int32) (p7nz : Nat) (p7rz_ : Nat) (p7fz : Nat → Int32) (p7gz : Nat → Int32) (nz : Nat) (rz_ : Nat) (fz : Nat → Int32) (ggz : Nat → Int32), uz = [(hx, .inr (11, [.ref h, .ref qp, .int (nI acz), .int (nI npz), .ref qs, .ref qj, .ref ly, .ref qh, .ref kk, .int (nI kc), .ref rd, .ref pg, .int (nI pe), .int kn, .ref ss])), (qp, .inl (E.2.1 6, 8, .inr (.inr (.inr (.inr fqp))))), (p0, .inr (4, [.int (nI p0nz), .int (nI p0rz_), .ref p0a, .ref p0b])), (p0a, .inl (E.2.1 1, 24, .inl p0fz)), (p0b, .inl (E.2.1 1, 96, .inl p0gz)), (p1, .inr (4, [.int (nI p1nz), .int (nI p1rz_), .ref p1a, .ref p1b])), (p1a, .inl (E.2.1 1, 24, .inl p1fz)), (p1b, .inl (E.2.1 1, 96, .inl p1gz)), (p2, .inr (4, [.int (nI p2nz), .int (nI p2rz_), .ref p2a, .ref p2b])), (p2a, .inl (E.2.1 1, 24, .inl p2fz)), (p2b, .inl (E.2.1 1, 96, .inl p2gz)), (p3, .inr (4, [.int (nI p3nz), .int (nI p3rz_), .ref p3a, .ref p3b])), (p3a, .inl (E.2.1 1, 24, .inl p3fz)), (p3b, .inl (E.2.1 1, 96, .inl p3gz)), (p4, .inr (4, [.int (nI p4nz), .int (nI p4rz_), .ref p4a, .ref p4b])), (p4a, .inl (E.2.1 1, 24, .inl p4fz)), (p4b, .inl (E.2.1 1, 96, .inl p4gz)), (p5, .inr (4, [.int (nI p5nz), .int (nI p5rz_), .ref p5a, .ref p5b])), (p5a, .inl (E.2.1 1, 24, .inl p5fz)), (p5b, .inl (E.2.1 1, 96, .inl p5gz)), (p6, .inr (4, [.int (nI p6nz), .int (nI p6rz_), .ref p6a, .ref p6b])), (p6a, .inl (E.2.1 1, 24, .inl p6fz)), (p6b, .inl (E.2.1 1, 96, .inl p6gz)), (p7, .inr (4, [.int (nI p7nz), .int (nI p7rz_), .ref p7a, .ref p7b])), (p7a, .inl (E.2.1 1, 24, .inl p7fz)), (p7b, .inl (E.2.1 1, 96, .inl p7gz)), (h, .inr (4, [.int (nI nz), .int (nI rz_), .ref a, .ref b])), (a, .inl (E.2.1 1, 24, .inl fz)), (b, .inl (E.2.1 1, 96, .inl ggz))] ∧ (acz ≤ 8) ∧ (npz < 8) ∧ (p0nz ≤ 24) ∧ (p0rz_ < p0nz ∨ p0rz_ = 0) ∧ (WFm (am p0nz p0rz_ p0fz p0gz)) ∧ (p1nz ≤ 24) ∧ (p1rz_ < p1nz ∨ p1rz_ = 0) ∧ (WFm (am p1nz p1rz_ p1fz p1gz)) ∧ (p2nz ≤ 24) ∧ (p2rz_ < p2nz ∨ p2rz_ = 0) ∧ (WFm (am p2nz p2rz_ p2fz p2gz)) ∧ (p3nz ≤ 24) ∧ (p3rz_ < p3nz ∨ p3rz_ = 0) ∧ (WFm (am p3nz p3rz_ p3fz p3gz)) ∧ (p4nz ≤ 24) ∧ (p4rz_ < p4nz ∨ p4rz_ = 0) ∧ (WFm (am p4nz p4rz_ p4fz p4gz)) ∧ (p5nz ≤ 24) ∧ (p5rz_ < p5nz ∨ p5rz_ = 0) ∧ (WFm (am p5nz p5rz_ p5fz p5gz)) ∧ (p6nz ≤ 24) ∧ (p6rz_ < p6nz ∨ p6rz_ = 0) ∧ (WFm (am p6nz p6rz_ p6fz p6gz)) ∧ (p7nz ≤ 24) ∧ (p7rz_ < p7nz ∨ p7rz_ = 0) ∧ (WFm (am p7nz p7rz_ p7fz p7gz)) ∧ (nz ≤ 24) ∧ (rz_ < nz ∨ rz_ = 0) ∧ (WFm (am nz rz_ fz ggz)) ∧ (((asX (am nz rz_ fz ggz) acz npz (pick8 (am p0nz p0rz_ p0fz p0gz) (am p1nz p1rz_ p1fz p1gz) (am p2nz p2rz_ p2fz p2gz) (am p3nz p3rz_ p3fz p3gz) (am p4nz p4rz_ p4fz p4gz) (am p5nz p5rz_ p5fz p5gz) (am p6nz p6rz_ p6fz p6gz) (am p7nz p7rz_ p7fz p7gz))), rz) = opBlind (asX (am n r f gg) ac np (pick8 (am p0n p0r p0f p0g) (am p1n p1r p1f p1g) (am p2n p2r p2f p2g) (am p3n p3r p3f p3g) (am p4n p4r p4f p4g) (am p5n p5r p5f p5g) (am p6n p6r p6f p6g) (am p7n p7r p7f p7g))) v0)))) 0 0 := by
  refine ct_of rfl rfl ?_
  intro X C hT hin hro
  show WW X 2 E 0 [(0, .ref hx), (1, .int v0)] [] [(hx, .inr (11, [.ref h, .ref qp, .int (nI ac), .int (nI np), .ref qs, .ref qj, .ref ly, .ref qh, .ref kk, .int (nI kc), .ref rd, .ref pg, .int (nI pe), .int kn, .ref ss])), (qp, .inl (E.2.1 6, 8, .inr (.inr (.inr (.inr fqp))))), (p0, .inr (4, [.int (nI p0n), .int (nI p0r), .ref p0a, .ref p0b])), (p0a, .inl (E.2.1 1, 24, .inl p0f)), (p0b, .inl (E.2.1 1, 96, .inl p0g)), (p1, .inr (4, [.int (nI p1n), .int (nI p1r), .ref p1a, .ref p1b])), (p1a, .inl (E.2.1 1, 24, .inl p1f)), (p1b, .inl (E.2.1 1, 96, .inl p1g)), (p2, .inr (4, [.int (nI p2n), .int (nI p2r), .ref p2a, .ref p2b])), (p2a, .inl (E.2.1 1, 24, .inl p2f)), (p2b, .inl (E.2.1 1, 96, .inl p2g)), (p3, .inr (4, [.int (nI p3n), .int (nI p3r), .ref p3a, .ref p3b])), (p3a, .inl (E.2.1 1, 24, .inl p3f)), (p3b, .inl (E.2.1 1, 96, .inl p3g)), (p4, .inr (4, [.int (nI p4n), .int (nI p4r), .ref p4a, .ref p4b])), (p4a, .inl (E.2.1 1, 24, .inl p4f)), (p4b, .inl (E.2.1 1, 96, .inl p4g)), (p5, .inr (4, [.int (nI p5n), .int (nI p5r), .ref p5a, .ref p5b])), (p5a, .inl (E.2.1 1, 24, .inl p5f)), (p5b, .inl (E.2.1 1, 96, .inl p5g)), (p6, .inr (4, [.int (nI p6n), .int (nI p6r), .ref p6a, .ref p6b])), (p6a, .inl (E.2.1 1, 24, .inl p6f)), (p6b, .inl (E.2.1 1, 96, .inl p6g)), (p7, .inr (4, [.int (nI p7n), .int (nI p7r), .ref p7a, .ref p7b])), (p7a, .inl (E.2.1 1, 24, .inl p7f)), (p7b, .inl (E.2.1 1, 96, .inl p7g)), (h, .inr (4, [.int (nI n), .int (nI r), .ref a, .ref b])), (a, .inl (E.2.1 1, 24, .inl f)), (b, .inl (E.2.1 1, 96, .inl gg))] 0 0
  refine ww_iload_n C dX11_blind_0 1 rfl rfl ?_
  refine ww_iconst (v := 0) C dX11_blind_1 rfl ?_
  refine ww_ldc C wv_X11_145 dX11_blind_2 ?_
  refine ww_ci (wr := [(hx, .inr (11, [.ref h, .ref qp, .int (nI ac), .int (nI np), .ref qs, .ref qj, .ref ly, .ref qh, .ref kk, .int (nI kc), .ref rd, .ref pg, .int (nI pe), .int kn, .ref ss])), (qp, .inl (E.2.1 6, 8, .inr (.inr (.inr (.inr fqp))))), (p0, .inr (4, [.int (nI p0n), .int (nI p0r), .ref p0a, .ref p0b])), (p0a, .inl (E.2.1 1, 24, .inl p0f)), (p0b, .inl (E.2.1 1, 96, .inl p0g)), (p1, .inr (4, [.int (nI p1n), .int (nI p1r), .ref p1a, .ref p1b])), (p1a, .inl (E.2.1 1, 24, .inl p1f)), (p1b, .inl (E.2.1 1, 96, .inl p1g)), (p2, .inr (4, [.int (nI p2n), .int (nI p2r), .ref p2a, .ref p2b])), (p2a, .inl (E.2.1 1, 24, .inl p2f)), (p2b, .inl (E.2.1 1, 96, .inl p2g)), (p3, .inr (4, [.int (nI p3n), .int (nI p3r), .ref p3a, .ref p3b])), (p3a, .inl (E.2.1 1, 24, .inl p3f)), (p3b, .inl (E.2.1 1, 96, .inl p3g)), (p4, .inr (4, [.int (nI p4n), .int (nI p4r), .ref p4a, .ref p4b])), (p4a, .inl (E.2.1 1, 24, .inl p4f)), (p4b, .inl (E.2.1 1, 96, .inl p4g)), (p5, .inr (4, [.int (nI p5n), .int (nI p5r), .ref p5a, .ref p5b])), (p5a, .inl (E.2.1 1, 24, .inl p5f)), (p5b, .inl (E.2.1 1, 96, .inl p5g)), (p6, .inr (4, [.int (nI p6n), .int (nI p6r), .ref p6a, .ref p6b])), (p6a, .inl (E.2.1 1, 24, .inl p6f)), (p6b, .inl (E.2.1 1, 96, .inl p6g)), (p7, .inr (4, [.int (nI p7n), .int (nI p7r), .ref p7a, .ref p7b])), (p7a, .inl (E.2.1 1, 24, .inl p7f)), (p7b, .inl (E.2.1 1, 96, .inl p7g)), (h, .inr (4, [.int (nI n), .int (nI r), .ref a, .ref b])), (a, .inl (E.2.1 1, 24, .inl f)), (b, .inl (E.2.1 1, 96, .inl gg))]) (k' := 0) (n' := 0) C (run_S (As := [.int v0, .int 0, .int 65535]) (rest := []) C (c_within X.2.1 E ro v0 0 65535 v0.toInt 0 65535 rfl rfl rfl) ms_X11_within wl_X11_76 rfl rfl rfl rfl dX11_blind_4) (roK hro) [] [0, 1, 2, 3, 4, 5, 6, 7, 8, 9, 10, 11, 12, 13, 14, 15, 16, 17, 18, 19, 20, 21, 22, 23, 24, 25, 26, 27, 28] rfl (gqk (by eq_refl)) (plk (by decide +kernel)) rfl (fun r_1 uz hw => ?_)
  rcases hw with hw | hw
  · refine an3 hw ?_
    clear hw
    intro he_4 he_5 h_2 hw
    have h_3 := hw
    clear hw
    have he_4 := he_4.symm
    subst he_4
    subst he_5
    refine ww_eq (ws' := [(hx, .inr (11, [.ref h, .ref qp, .int (nI ac), .int (nI np), .ref qs, .ref qj, .ref ly, .ref qh, .ref kk, .int (nI kc), .ref rd, .ref pg, .int (nI pe), .int kn, .ref ss])), (qp, .inl (E.2.1 6, 8, .inr (.inr (.inr (.inr fqp))))), (p0, .inr (4, [.int (nI p0n), .int (nI p0r), .ref p0a, .ref p0b])), (p0a, .inl (E.2.1 1, 24, .inl p0f)), (p0b, .inl (E.2.1 1, 96, .inl p0g)), (p1, .inr (4, [.int (nI p1n), .int (nI p1r), .ref p1a, .ref p1b])), (p1a, .inl (E.2.1 1, 24, .inl p1f)), (p1b, .inl (E.2.1 1, 96, .inl p1g)), (p2, .inr (4, [.int (nI p2n), .int (nI p2r), .ref p2a, .ref p2b])), (p2a, .inl (E.2.1 1, 24, .inl p2f)), (p2b, .inl (E.2.1 1, 96, .inl p2g)), (p3, .inr (4, [.int (nI p3n), .int (nI p3r), .ref p3a, .ref p3b])), (p3a, .inl (E.2.1 1, 24, .inl p3f)), (p3b, .inl (E.2.1 1, 96, .inl p3g)), (p4, .inr (4, [.int (nI p4n), .int (nI p4r), .ref p4a, .ref p4b])), (p4a, .inl (E.2.1 1, 24, .inl p4f)), (p4b, .inl (E.2.1 1, 96, .inl p4g)), (p5, .inr (4, [.int (nI p5n), .int (nI p5r), .ref p5a, .ref p5b])), (p5a, .inl (E.2.1 1, 24, .inl p5f)), (p5b, .inl (E.2.1 1, 96, .inl p5g)), (p6, .inr (4, [.int (nI p6n), .int (nI p6r), .ref p6a, .ref p6b])), (p6a, .inl (E.2.1 1, 24, .inl p6f)), (p6b, .inl (E.2.1 1, 96, .inl p6g)), (p7, .inr (4, [.int (nI p7n), .int (nI p7r), .ref p7a, .ref p7b])), (p7a, .inl (E.2.1 1, 24, .inl p7f)), (p7b, .inl (E.2.1 1, 96, .inl p7g)), (h, .inr (4, [.int (nI n), .int (nI r), .ref a, .ref b])), (a, .inl (E.2.1 1, 24, .inl f)), (b, .inl (E.2.1 1, 96, .inl gg))]) ?_ rfl rfl rfl
    refine ww_if_ne_t (tgt := 12) C dX11_blind_7 (by decide) (by decide) ?_
    refine ww_aload_n C dX11_blind_12 0 rfl rfl ?_
    refine ww_cv (wr := []) (k' := 0) (n' := 0) C (run_V (As := []) (rest := []) C (x_remember X.2.1 E ro hx h qp ac np qs qj ly qh kk kc rd pg pe kn ss fqp p0 p1 p2 p3 p4 p5 p6 p7 p0n p0r p0a p0b p0f p0g p1n p1r p1a p1b p1f p1g p2n p2r p2a p2b p2f p2g p3n p3r p3a p3b p3f p3g p4n p4r p4a p4b p4f p4g p5n p5r p5a p5b p5f p5g p6n p6r p6a p6b p6f p6g p7n p7r p7a p7b p7f p7g n r a b f gg k_fqp_0 k_fqp_1 k_fqp_2 k_fqp_3 k_fqp_4 k_fqp_5 k_fqp_6 k_fqp_7 (by omega) (by omega) (by omega) (by omega) (by omega) (by omega) (by omega) (by omega) (by omega) (by omega) (by omega) (by omega) (by omega) (by omega) (by omega) (by omega) (by omega) (by omega) (by omega) (by omega) (by omega) (by omega) (by omega) (by omega) (by omega) (by omega) (by omega) (by omega) (by omega) (by omega) (by omega)) mi_X11_remember wl_X11_128 rfl 0 11 rfl rfl rfl rfl rfl dX11_blind_13) (roK hro) [0, 1, 2, 3, 4, 5, 6, 7, 8, 9, 10, 11, 12, 13, 14, 15, 16, 17, 18, 19, 20, 21, 22, 23, 24, 25, 26, 27, 28] [] (gqk (by eq_refl)) rfl (plk (by decide +kernel)) rfl (fun uz hw => ?_)
    refine ex8 hw ?_
    clear hw
    intro acz_10 npz_11 p0nz_12 p0rz__13 p0fz_14 p0gz_15 p1nz_16 p1rz__17 hw
    refine ex8 hw ?_
    clear hw
    intro p1fz_18 p1gz_19 p2nz_20 p2rz__21 p2fz_22 p2gz_23 p3nz_24 p3rz__25 hw
    refine ex8 hw ?_
    clear hw
    intro p3fz_26 p3gz_27 p4nz_28 p4rz__29 p4fz_30 p4gz_31 p5nz_32 p5rz__33 hw
    refine ex8 hw ?_
    clear hw
    intro p5fz_34 p5gz_35 p6nz_36 p6rz__37 p6fz_38 p6gz_39 p7nz_40 p7rz__41 hw
    refine ex2 hw ?_
    clear hw
    intro p7fz_42 p7gz_43 hw
    refine an8 hw ?_
    clear hw
    intro he_73 h_44 h_45 h_46 h_47 h_48 h_49 h_50 hw
    refine an8 hw ?_
    clear hw
    intro h_51 h_52 h_53 h_54 h_55 h_56 h_57 h_58 hw
    refine an8 hw ?_
    clear hw
    intro h_59 h_60 h_61 h_62 h_63 h_64 h_65 h_66 hw
    refine an5 hw ?_
    clear hw
    intro h_67 h_68 h_69 h_70 h_71 hw
    have h_72 := hw
    clear hw
    subst he_73
    refine ww_eq (ws' := [(hx, .inr (11, [.ref h, .ref qp, .int (nI acz_10), .int (nI npz_11), .ref qs, .ref qj, .ref ly, .ref qh, .ref kk, .int (nI kc), .ref rd, .ref pg, .int (nI pe), .int kn, .ref ss])), (qp, .inl (E.2.1 6, 8, .inr (.inr (.inr (.inr fqp))))), (p0, .inr (4, [.int (nI p0nz_12), .int (nI p0rz__13), .ref p0a, .ref p0b])), (p0a, .inl (E.2.1 1, 24, .inl p0fz_14)), (p0b, .inl (E.2.1 1, 96, .inl p0gz_15)), (p1, .inr (4, [.int (nI p1nz_16), .int (nI p1rz__17), .ref p1a, .ref p1b])), (p1a, .inl (E.2.1 1, 24, .inl p1fz_18)), (p1b, .inl (E.2.1 1, 96, .inl p1gz_19)), (p2, .inr (4, [.int (nI p2nz_20), .int (nI p2rz__21), .ref p2a, .ref p2b])), (p2a, .inl (E.2.1 1, 24, .inl p2fz_22)), (p2b, .inl (E.2.1 1, 96, .inl p2gz_23)), (p3, .inr (4, [.int (nI p3nz_24), .int (nI p3rz__25), .ref p3a, .ref p3b])), (p3a, .inl (E.2.1 1, 24, .inl p3fz_26)), (p3b, .inl (E.2.1 1, 96, .inl p3gz_27)), (p4, .inr (4, [.int (nI p4nz_28), .int (nI p4rz__29), .ref p4a, .ref p4b])), (p4a, .inl (E.2.1 1, 24, .inl p4fz_30)), (p4b, .inl (E.2.1 1, 96, .inl p4gz_31)), (p5, .inr (4, [.int (nI p5nz_32), .int (nI p5rz__33), .ref p5a, .ref p5b])), (p5a, .inl (E.2.1 1, 24, .inl p5fz_34)), (p5b, .inl (E.2.1 1, 96, .inl p5gz_35)), (p6, .inr (4, [.int (nI p6nz_36), .int (nI p6rz__37), .ref p6a, .ref p6b])), (p6a, .inl (E.2.1 1, 24, .inl p6fz_38)), (p6b, .inl (E.2.1 1, 96, .inl p6gz_39)), (p7, .inr (4, [.int (nI p7nz_40), .int (nI p7rz__41), .ref p7a, .ref p7b])), (p7a, .inl (E.2.1 1, 24, .inl p7fz_42)), (p7b, .inl (E.2.1 1, 96, .inl p7gz_43)), (h, .inr (4, [.int (nI n), .int (nI r), .ref a, .ref b])), (a, .inl (E.2.1 1, 24, .inl f)), (b, .inl (E.2.1 1, 96, .inl gg))]) ?_ rfl rfl rfl
    refine ww_aload_n C dX11_blind_16 0 rfl rfl ?_
    refine ww_get C fg_X11_10 0 rfl rfl dX11_blind_17 ?_
    refine ww_iload_n C dX11_blind_20 1 rfl rfl ?_
    refine ww_ci (wr := [(hx, .inr (11, [.ref h, .ref qp, .int (nI acz_10), .int (nI npz_11), .ref qs, .ref qj, .ref ly, .ref qh, .ref kk, .int (nI kc), .ref rd, .ref pg, .int (nI pe), .int kn, .ref ss])), (qp, .inl (E.2.1 6, 8, .inr (.inr (.inr (.inr fqp))))), (p0, .inr (4, [.int (nI p0nz_12), .int (nI p0rz__13), .ref p0a, .ref p0b])), (p0a, .inl (E.2.1 1, 24, .inl p0fz_14)), (p0b, .inl (E.2.1 1, 96, .inl p0gz_15)), (p1, .inr (4, [.int (nI p1nz_16), .int (nI p1rz__17), .ref p1a, .ref p1b])), (p1a, .inl (E.2.1 1, 24, .inl p1fz_18)), (p1b, .inl (E.2.1 1, 96, .inl p1gz_19)), (p2, .inr (4, [.int (nI p2nz_20), .int (nI p2rz__21), .ref p2a, .ref p2b])), (p2a, .inl (E.2.1 1, 24, .inl p2fz_22)), (p2b, .inl (E.2.1 1, 96, .inl p2gz_23)), (p3, .inr (4, [.int (nI p3nz_24), .int (nI p3rz__25), .ref p3a, .ref p3b])), (p3a, .inl (E.2.1 1, 24, .inl p3fz_26)), (p3b, .inl (E.2.1 1, 96, .inl p3gz_27)), (p4, .inr (4, [.int (nI p4nz_28), .int (nI p4rz__29), .ref p4a, .ref p4b])), (p4a, .inl (E.2.1 1, 24, .inl p4fz_30)), (p4b, .inl (E.2.1 1, 96, .inl p4gz_31)), (p5, .inr (4, [.int (nI p5nz_32), .int (nI p5rz__33), .ref p5a, .ref p5b])), (p5a, .inl (E.2.1 1, 24, .inl p5fz_34)), (p5b, .inl (E.2.1 1, 96, .inl p5gz_35)), (p6, .inr (4, [.int (nI p6nz_36), .int (nI p6rz__37), .ref p6a, .ref p6b])), (p6a, .inl (E.2.1 1, 24, .inl p6fz_38)), (p6b, .inl (E.2.1 1, 96, .inl p6gz_39)), (p7, .inr (4, [.int (nI p7nz_40), .int (nI p7rz__41), .ref p7a, .ref p7b])), (p7a, .inl (E.2.1 1, 24, .inl p7fz_42)), (p7b, .inl (E.2.1 1, 96, .inl p7gz_43))]) (k' := 0) (n' := 0) C (run_V (As := [.int v0]) (rest := []) C (m_blindfold X.2.1 E ro h v0 n r a b f gg (by omega) (by omega)) mi_X4_blindfold wl_X11_146 rfl 0 4 rfl rfl rfl rfl rfl dX11_blind_21) (roK hro) [26, 27, 28] [0, 1, 2, 3, 4, 5, 6, 7, 8, 9, 10, 11, 12, 13, 14, 15, 16, 17, 18, 19, 20, 21, 22, 23, 24, 25] rfl (gqk (by eq_refl)) (plk (by decide +kernel)) rfl (fun r_74 uz hw => ?_)
    refine ex1 hw ?_
    clear hw
    intro g2_75 hw
    refine an2 hw ?_
    clear hw
    intro he_77 he_78 hw
    have h_76 := hw
    clear hw
    have he_77 := he_77.symm
    subst he_77
    subst he_78
    refine ww_eq (ws' := [(hx, .inr (11, [.ref h, .ref qp, .int (nI acz_10), .int (nI npz_11), .ref qs, .ref qj, .ref ly, .ref qh, .ref kk, .int (nI kc), .ref rd, .ref pg, .int (nI pe), .int kn, .ref ss])), (qp, .inl (E.2.1 6, 8, .inr (.inr (.inr (.inr fqp))))), (p0, .inr (4, [.int (nI p0nz_12), .int (nI p0rz__13), .ref p0a, .ref p0b])), (p0a, .inl (E.2.1 1, 24, .inl p0fz_14)), (p0b, .inl (E.2.1 1, 96, .inl p0gz_15)), (p1, .inr (4, [.int (nI p1nz_16), .int (nI p1rz__17), .ref p1a, .ref p1b])), (p1a, .inl (E.2.1 1, 24, .inl p1fz_18)), (p1b, .inl (E.2.1 1, 96, .inl p1gz_19)), (p2, .inr (4, [.int (nI p2nz_20), .int (nI p2rz__21), .ref p2a, .ref p2b])), (p2a, .inl (E.2.1 1, 24, .inl p2fz_22)), (p2b, .inl (E.2.1 1, 96, .inl p2gz_23)), (p3, .inr (4, [.int (nI p3nz_24), .int (nI p3rz__25), .ref p3a, .ref p3b])), (p3a, .inl (E.2.1 1, 24, .inl p3fz_26)), (p3b, .inl (E.2.1 1, 96, .inl p3gz_27)), (p4, .inr (4, [.int (nI p4nz_28), .int (nI p4rz__29), .ref p4a, .ref p4b])), (p4a, .inl (E.2.1 1, 24, .inl p4fz_30)), (p4b, .inl (E.2.1 1, 96, .inl p4gz_31)), (p5, .inr (4, [.int (nI p5nz_32), .int (nI p5rz__33), .ref p5a, .ref p5b])), (p5a, .inl (E.2.1 1, 24, .inl p5fz_34)), (p5b, .inl (E.2.1 1, 96, .inl p5gz_35)), (p6, .inr (4, [.int (nI p6nz_36), .int (nI p6rz__37), .ref p6a, .ref p6b])), (p6a, .inl (E.2.1 1, 24, .inl p6fz_38)), (p6b, .inl (E.2.1 1, 96, .inl p6gz_39)), (p7, .inr (4, [.int (nI p7nz_40), .int (nI p7rz__41), .ref p7a, .ref p7b])), (p7a, .inl (E.2.1 1, 24, .inl p7fz_42)), (p7b, .inl (E.2.1 1, 96, .inl p7gz_43)), (h, .inr (4, [.int (nI n), .int (nI r), .ref a, .ref b])), (a, .inl (E.2.1 1, 24, .inl f)), (b, .inl (E.2.1 1, 96, .inl g2_75))]) ?_ rfl rfl rfl
    have hwz_79 : WFm (am n r f g2_75) := by rw [h_76]; exact nmz_wf
    exact ww_iret (u := [(hx, .inr (11, [.ref h, .ref qp, .int (nI acz_10), .int (nI npz_11), .ref qs, .ref qj, .ref ly, .ref qh, .ref kk, .int (nI kc), .ref rd, .ref pg, .int (nI pe), .int kn, .ref ss])), (qp, .inl (E.2.1 6, 8, .inr (.inr (.inr (.inr fqp))))), (p0, .inr (4, [.int (nI p0nz_12), .int (nI p0rz__13), .ref p0a, .ref p0b])), (p0a, .inl (E.2.1 1, 24, .inl p0fz_14)), (p0b, .inl (E.2.1 1, 96, .inl p0gz_15)), (p1, .inr (4, [.int (nI p1nz_16), .int (nI p1rz__17), .ref p1a, .ref p1b])), (p1a, .inl (E.2.1 1, 24, .inl p1fz_18)), (p1b, .inl (E.2.1 1, 96, .inl p1gz_19)), (p2, .inr (4, [.int (nI p2nz_20), .int (nI p2rz__21), .ref p2a, .ref p2b])), (p2a, .inl (E.2.1 1, 24, .inl p2fz_22)), (p2b, .inl (E.2.1 1, 96, .inl p2gz_23)), (p3, .inr (4, [.int (nI p3nz_24), .int (nI p3rz__25), .ref p3a, .ref p3b])), (p3a, .inl (E.2.1 1, 24, .inl p3fz_26)), (p3b, .inl (E.2.1 1, 96, .inl p3gz_27)), (p4, .inr (4, [.int (nI p4nz_28), .int (nI p4rz__29), .ref p4a, .ref p4b])), (p4a, .inl (E.2.1 1, 24, .inl p4fz_30)), (p4b, .inl (E.2.1 1, 96, .inl p4gz_31)), (p5, .inr (4, [.int (nI p5nz_32), .int (nI p5rz__33), .ref p5a, .ref p5b])), (p5a, .inl (E.2.1 1, 24, .inl p5fz_34)), (p5b, .inl (E.2.1 1, 96, .inl p5gz_35)), (p6, .inr (4, [.int (nI p6nz_36), .int (nI p6rz__37), .ref p6a, .ref p6b])), (p6a, .inl (E.2.1 1, 24, .inl p6fz_38)), (p6b, .inl (E.2.1 1, 96, .inl p6gz_39)), (p7, .inr (4, [.int (nI p7nz_40), .int (nI p7rz__41), .ref p7a, .ref p7b])), (p7a, .inl (E.2.1 1, 24, .inl p7fz_42)), (p7b, .inl (E.2.1 1, 96, .inl p7gz_43)), (h, .inr (4, [.int (nI n), .int (nI r), .ref a, .ref b])), (a, .inl (E.2.1 1, 24, .inl f)), (b, .inl (E.2.1 1, 96, .inl g2_75))]) C hT [0, 1, 2, 3, 4, 5, 6, 7, 8, 9, 10, 11, 12, 13, 14, 15, 16, 17, 18, 19, 20, 21, 22, 23, 24, 25, 26, 27, 28] (gqk (by eq_refl)) (ndk (by decide +kernel)) rfl rfl dX11_blind_24 (⟨acz_10, npz_11, p0nz_12, p0rz__13, p0fz_14, p0gz_15, p1nz_16, p1rz__17, p1fz_18, p1gz_19, p2nz_20, p2rz__21, p2fz_22, p2gz_23, p3nz_24, p3rz__25, p3fz_26, p3gz_27, p4nz_28, p4rz__29, p4fz_30, p4gz_31, p5nz_32, p5rz__33, p5fz_34, p5gz_35, p6nz_36, p6rz__37, p6fz_38, p6gz_39, p7nz_40, p7rz__41, p7fz_42, p7gz_43, n, r, f, g2_75, rfl, (by first | assumption | omega | decide), (by first | assumption | omega | decide), (by first | assumption | omega | decide), (by first | assumption | omega | decide), (by assumption), (by first | assumption | omega | decide), (by first | assumption | omega | decide), (by assumption), (by first | assumption | omega | decide), (by first | assumption | omega | decide), (by assumption), (by first | assumption | omega | decide), (by first | assumption | omega | decide), (by assumption), (by first | assumption | omega | decide), (by first | assumption | omega | decide), (by assumption), (by first | assumption | omega | decide), (by first | assumption | omega | decide), (by assumption), (by first | assumption | omega | decide), (by first | assumption | omega | decide), (by assumption), (by first | assumption | omega | decide), (by first | assumption | omega | decide), (by assumption), (by first | assumption | omega | decide), (by first | assumption | omega | decide), hwz_79, (by show _ = if v0.toInt < 0 ∨ 65535 < v0.toInt then ((asX (am n r f gg) ac np (pick8 (am p0n p0r p0f p0g) (am p1n p1r p1f p1g) (am p2n p2r p2f p2g) (am p3n p3r p3f p3g) (am p4n p4r p4f p4g) (am p5n p5r p5f p5g) (am p6n p6r p6f p6g) (am p7n p7r p7f p7g))), -1) else (aRem (asX (am n r f gg) ac np (pick8 (am p0n p0r p0f p0g) (am p1n p1r p1f p1g) (am p2n p2r p2f p2g) (am p3n p3r p3f p3g) (am p4n p4r p4f p4g) (am p5n p5r p5f p5g) (am p6n p6r p6f p6g) (am p7n p7r p7f p7g))) (aBlind (am n r f gg) v0), nI (cBl n (am n r f gg).2.2.1 v0)); rw [if_neg (show ¬ (v0.toInt < 0 ∨ 65535 < v0.toInt) by omega)]; exact Prod.ext ((asX_rem hac hnp h_70 h_71 h_72).trans (congrArg (aRem (asX (am n r f gg) ac np (pick8 (am p0n p0r p0f p0g) (am p1n p1r p1f p1g) (am p2n p2r p2f p2g) (am p3n p3r p3f p3g) (am p4n p4r p4f p4g) (am p5n p5r p5f p5g) (am p6n p6r p6f p6g) (am p7n p7r p7f p7g)))) h_76)) (by rw [cBl_cg (n := n) (f := f) (f' := (am n r f gg).2.2.1) (fun w hw => (am_F hw).symm)]))⟩)
  · refine an2 hw ?_
    clear hw
    intro he_7 he_8 hw
    have h_6 := hw
    clear hw
    have he_7 := he_7.symm
    subst he_7
    subst he_8
    refine ww_eq (ws' := [(hx, .inr (11, [.ref h, .ref qp, .int (nI ac), .int (nI np), .ref qs, .ref qj, .ref ly, .ref qh, .ref kk, .int (nI kc), .ref rd, .ref pg, .int (nI pe), .int kn, .ref ss])), (qp, .inl (E.2.1 6, 8, .inr (.inr (.inr (.inr fqp))))), (p0, .inr (4, [.int (nI p0n), .int (nI p0r), .ref p0a, .ref p0b])), (p0a, .inl (E.2.1 1, 24, .inl p0f)), (p0b, .inl (E.2.1 1, 96, .inl p0g)), (p1, .inr (4, [.int (nI p1n), .int (nI p1r), .ref p1a, .ref p1b])), (p1a, .inl (E.2.1 1, 24, .inl p1f)), (p1b, .inl (E.2.1 1, 96, .inl p1g)), (p2, .inr (4, [.int (nI p2n), .int (nI p2r), .ref p2a, .ref p2b])), (p2a, .inl (E.2.1 1, 24, .inl p2f)), (p2b, .inl (E.2.1 1, 96, .inl p2g)), (p3, .inr (4, [.int (nI p3n), .int (nI p3r), .ref p3a, .ref p3b])), (p3a, .inl (E.2.1 1, 24, .inl p3f)), (p3b, .inl (E.2.1 1, 96, .inl p3g)), (p4, .inr (4, [.int (nI p4n), .int (nI p4r), .ref p4a, .ref p4b])), (p4a, .inl (E.2.1 1, 24, .inl p4f)), (p4b, .inl (E.2.1 1, 96, .inl p4g)), (p5, .inr (4, [.int (nI p5n), .int (nI p5r), .ref p5a, .ref p5b])), (p5a, .inl (E.2.1 1, 24, .inl p5f)), (p5b, .inl (E.2.1 1, 96, .inl p5g)), (p6, .inr (4, [.int (nI p6n), .int (nI p6r), .ref p6a, .ref p6b])), (p6a, .inl (E.2.1 1, 24, .inl p6f)), (p6b, .inl (E.2.1 1, 96, .inl p6g)), (p7, .inr (4, [.int (nI p7n), .int (nI p7r), .ref p7a, .ref p7b])), (p7a, .inl (E.2.1 1, 24, .inl p7f)), (p7b, .inl (E.2.1 1, 96, .inl p7g)), (h, .inr (4, [.int (nI n), .int (nI r), .ref a, .ref b])), (a, .inl (E.2.1 1, 24, .inl f)), (b, .inl (E.2.1 1, 96, .inl gg))]) ?_ rfl rfl rfl
    refine ww_if_ne_f (tgt := 12) C dX11_blind_7 (by decide) (rfl) ?_
    refine ww_iconst (v := (-1)) C dX11_blind_10 rfl ?_
    exact ww_iret (u := [(hx, .inr (11, [.ref h, .ref qp, .int (nI ac), .int (nI np), .ref qs, .ref qj, .ref ly, .ref qh, .ref kk, .int (nI kc), .ref rd, .ref pg, .int (nI pe), .int kn, .ref ss])), (qp, .inl (E.2.1 6, 8, .inr (.inr (.inr (.inr fqp))))), (p0, .inr (4, [.int (nI p0n), .int (nI p0r), .ref p0a, .ref p0b])), (p0a, .inl (E.2.1 1, 24, .inl p0f)), (p0b, .inl (E.2.1 1, 96, .inl p0g)), (p1, .inr (4, [.int (nI p1n), .int (nI p1r), .ref p1a, .ref p1b])), (p1a, .inl (E.2.1 1, 24, .inl p1f)), (p1b, .inl (E.2.1 1, 96, .inl p1g)), (p2, .inr (4, [.int (nI p2n), .int (nI p2r), .ref p2a, .ref p2b])), (p2a, .inl (E.2.1 1, 24, .inl p2f)), (p2b, .inl (E.2.1 1, 96, .inl p2g)), (p3, .inr (4, [.int (nI p3n), .int (nI p3r), .ref p3a, .ref p3b])), (p3a, .inl (E.2.1 1, 24, .inl p3f)), (p3b, .inl (E.2.1 1, 96, .inl p3g)), (p4, .inr (4, [.int (nI p4n), .int (nI p4r), .ref p4a, .ref p4b])), (p4a, .inl (E.2.1 1, 24, .inl p4f)), (p4b, .inl (E.2.1 1, 96, .inl p4g)), (p5, .inr (4, [.int (nI p5n), .int (nI p5r), .ref p5a, .ref p5b])), (p5a, .inl (E.2.1 1, 24, .inl p5f)), (p5b, .inl (E.2.1 1, 96, .inl p5g)), (p6, .inr (4, [.int (nI p6n), .int (nI p6r), .ref p6a, .ref p6b])), (p6a, .inl (E.2.1 1, 24, .inl p6f)), (p6b, .inl (E.2.1 1, 96, .inl p6g)), (p7, .inr (4, [.int (nI p7n), .int (nI p7r), .ref p7a, .ref p7b])), (p7a, .inl (E.2.1 1, 24, .inl p7f)), (p7b, .inl (E.2.1 1, 96, .inl p7g)), (h, .inr (4, [.int (nI n), .int (nI r), .ref a, .ref b])), (a, .inl (E.2.1 1, 24, .inl f)), (b, .inl (E.2.1 1, 96, .inl gg))]) C hT [0, 1, 2, 3, 4, 5, 6, 7, 8, 9, 10, 11, 12, 13, 14, 15, 16, 17, 18, 19, 20, 21, 22, 23, 24, 25, 26, 27, 28] (gqk (by eq_refl)) (ndk (by decide +kernel)) rfl rfl dX11_blind_11 (⟨ac, np, p0n, p0r, p0f, p0g, p1n, p1r, p1f, p1g, p2n, p2r, p2f, p2g, p3n, p3r, p3f, p3g, p4n, p4r, p4f, p4g, p5n, p5r, p5f, p5g, p6n, p6r, p6f, p6g, p7n, p7r, p7f, p7g, n, r, f, gg, rfl, (by first | assumption | omega | decide), (by first | assumption | omega | decide), (by first | assumption | omega | decide), (by first | assumption | omega | decide), (by assumption), (by first | assumption | omega | decide), (by first | assumption | omega | decide), (by assumption), (by first | assumption | omega | decide), (by first | assumption | omega | decide), (by assumption), (by first | assumption | omega | decide), (by first | assumption | omega | decide), (by assumption), (by first | assumption | omega | decide), (by first | assumption | omega | decide), (by assumption), (by first | assumption | omega | decide), (by first | assumption | omega | decide), (by assumption), (by first | assumption | omega | decide), (by first | assumption | omega | decide), (by assumption), (by first | assumption | omega | decide), (by first | assumption | omega | decide), (by assumption), (by first | assumption | omega | decide), (by first | assumption | omega | decide), hwfm, (by show _ = if v0.toInt < 0 ∨ 65535 < v0.toInt then ((asX (am n r f gg) ac np (pick8 (am p0n p0r p0f p0g) (am p1n p1r p1f p1g) (am p2n p2r p2f p2g) (am p3n p3r p3f p3g) (am p4n p4r p4f p4g) (am p5n p5r p5f p5g) (am p6n p6r p6f p6g) (am p7n p7r p7f p7g))), -1) else (aRem (asX (am n r f gg) ac np (pick8 (am p0n p0r p0f p0g) (am p1n p1r p1f p1g) (am p2n p2r p2f p2g) (am p3n p3r p3f p3g) (am p4n p4r p4f p4g) (am p5n p5r p5f p5g) (am p6n p6r p6f p6g) (am p7n p7r p7f p7g))) (aBlind (am n r f gg) v0), nI (cBl n (am n r f gg).2.2.1 v0)); rw [if_pos (show v0.toInt < 0 ∨ 65535 < v0.toInt by omega)])⟩)
theorem dX11_real_0 : decode cX11_real 0 = .ok (.aload_n 0, 1) := dl_42 (by decide +kernel)
theorem dX11_real_1 : decode cX11_real 1 = .ok (.getfield 10, 3) := dl_180 (by decide +kernel)
theorem dX11_real_4 : decode cX11_real 4 = .ok (.iload_n 1, 1) := dl_27 (by decide +kernel)
theorem dX11_real_5 : decode cX11_real 5 = .ok (.invokevirtual 135, 3) := dl_182 (by decide +kernel)
theorem dX11_real_8 : decode cX11_real 8 = .ok (.ifCond .ne 5, 3) := dl_154 (by decide +kernel)
theorem dX11_real_13 : decode cX11_real 13 = .ok (.aload_n 0, 1) := dl_42 (by decide +kernel)
theorem dX11_real_14 : decode cX11_real 14 = .ok (.invokevirtual 128, 3) := dl_182 (by decide +kernel)
theorem dX11_real_17 : decode cX11_real 17 = .ok (.aload_n 0, 1) := dl_42 (by decide +kernel)
theorem dX11_real_18 : decode cX11_real 18 = .ok (.getfield 10, 3) := dl_180 (by decide +kernel)
theorem dX11_real_21 : decode cX11_real 21 = .ok (.getfield 149, 3) := dl_180 (by decide +kernel)
theorem wf_X11_149 : Cond.fieldLink RX11 149 RX4 "realOne" "I" ∈ TB := tbm (tq1 (List.mem_of_getElem? (i := 44) (by decide +kernel))) (by decide +kernel)
theorem fg_X11_149 : FG RX11 149 4 1 := ⟨RX4, TX4, 4, uw_X4, wf_X11_149, rfl, by decide, rfl⟩
theorem dX11_real_24 : decode cX11_real 24 = .ok (.istore_n 2, 1) := dl_61 (by decide +kernel)
theorem dX11_real_25 : decode cX11_real 25 = .ok (.aload_n 0, 1) := dl_42 (by decide +kernel)
theorem dX11_real_26 : decode cX11_real 26 = .ok (.getfield 10, 3) := dl_180 (by decide +kernel)
theorem dX11_real_29 : decode cX11_real 29 = .ok (.iload_n 1, 1) := dl_27 (by decide +kernel)
theorem dX11_real_30 : decode cX11_real 30 = .ok (.putfield 149, 3) := dl_181 (by decide +kernel)
theorem fp_X11_149 : FP RX11 149 4 1 .int false := ⟨RX4, TX4, 4, tyX4, uw_X4, wf_X11_149, rfl, by decide, rfl, tyX4_ok, nmX4, rfl, by decide +kernel⟩
theorem dX11_real_33 : decode cX11_real 33 = .ok (.iload_n 2, 1) := dl_28 (by decide +kernel)
theorem dX11_real_34 : decode cX11_real 34 = .ok (.ireturn, 1) := dl_172 (by decide +kernel)
theorem dX11_real_11 : decode cX11_real 11 = .ok (.iconst (-1), 1) := dl_2 (by decide +kernel)
theorem dX11_real_12 : decode cX11_real 12 = .ok (.ireturn, 1) := dl_172 (by decide +kernel)
set_option maxRecDepth 100000 in
set_option maxHeartbeats 4000000 in
theorem x_real (l : Launch) (E : EV) (ro : va_W) (hx : Nat) (v0 : Int32) (h : Nat) (qp : Nat) (ac : Nat) (np : Nat) (qs : Nat) (qj : Nat) (ly : Nat) (qh : Nat) (kk : Nat) (kc : Nat) (rd : Nat) (pg : Nat) (pe : Nat) (kn : Int32) (ss : Nat) (fqp : Nat → Option Nat) (p0 : Nat) (p1 : Nat) (p2 : Nat) (p3 : Nat) (p4 : Nat) (p5 : Nat) (p6 : Nat) (p7 : Nat) (p0n : Nat) (p0r : Nat) (p0a : Nat) (p0b : Nat) (p0f : Nat → Int32) (p0g : Nat → Int32) (p1n : Nat) (p1r : Nat) (p1a : Nat) (p1b : Nat) (p1f : Nat → Int32) (p1g : Nat → Int32) (p2n : Nat) (p2r : Nat) (p2a : Nat) (p2b : Nat) (p2f : Nat → Int32) (p2g : Nat → Int32) (p3n : Nat) (p3r : Nat) (p3a : Nat) (p3b : Nat) (p3f : Nat → Int32) (p3g : Nat → Int32) (p4n : Nat) (p4r : Nat) (p4a : Nat) (p4b : Nat) (p4f : Nat → Int32) (p4g : Nat → Int32) (p5n : Nat) (p5r : Nat) (p5a : Nat) (p5b : Nat) (p5f : Nat → Int32) (p5g : Nat → Int32) (p6n : Nat) (p6r : Nat) (p6a : Nat) (p6b : Nat) (p6f : Nat → Int32) (p6g : Nat → Int32) (p7n : Nat) (p7r : Nat) (p7a : Nat) (p7b : Nat) (p7f : Nat → Int32) (p7g : Nat → Int32) (n : Nat) (r : Nat) (a : Nat) (b : Nat) (f : Nat → Int32) (gg : Nat → Int32) (k_fqp_0 : fqp 0 = some p0) (k_fqp_1 : fqp 1 = some p1) (k_fqp_2 : fqp 2 = some p2) (k_fqp_3 : fqp 3 = some p3) (k_fqp_4 : fqp 4 = some p4) (k_fqp_5 : fqp 5 = some p5) (k_fqp_6 : fqp 6 = some p6) (k_fqp_7 : fqp 7 = some p7) (hac : ac ≤ 8) (hnp : np < 8) (hkc : kc ≤ 4) (hpe : pe ≤ 4) (hp0_n : p0n ≤ 24) (hp0_r : p0r < p0n ∨ p0r = 0) (hp0_w : WFm (am p0n p0r p0f p0g)) (hp1_n : p1n ≤ 24) (hp1_r : p1r < p1n ∨ p1r = 0) (hp1_w : WFm (am p1n p1r p1f p1g)) (hp2_n : p2n ≤ 24) (hp2_r : p2r < p2n ∨ p2r = 0) (hp2_w : WFm (am p2n p2r p2f p2g)) (hp3_n : p3n ≤ 24) (hp3_r : p3r < p3n ∨ p3r = 0) (hp3_w : WFm (am p3n p3r p3f p3g)) (hp4_n : p4n ≤ 24) (hp4_r : p4r < p4n ∨ p4r = 0) (hp4_w : WFm (am p4n p4r p4f p4g)) (hp5_n : p5n ≤ 24) (hp5_r : p5r < p5n ∨ p5r = 0) (hp5_w : WFm (am p5n p5r p5f p5g)) (hp6_n : p6n ≤ 24) (hp6_r : p6r < p6n ∨ p6r = 0) (hp6_w : WFm (am p6n p6r p6f p6g)) (hp7_n : p7n ≤ 24) (hp7_r : p7r < p7n ∨ p7r = 0) (hp7_w : WFm (am p7n p7r p7f p7g)) (hn : n ≤ 24) (hr : r < n ∨ r = 0) (hwfm : WFm (am n r f gg)) : CT l yX11_real (Cond.code yX11_real cX11_real 3 (some .int) :: TB) ({ frames := 3, cells := 0, slots := 0, locals := 105 }) E ro [.ref hx, .int v0] [(hx, .inr (11, [.ref h, .ref qp, .int (nI ac), .int (nI np), .ref qs, .ref qj, .ref ly, .ref qh, .ref kk, .int (nI kc), .ref rd, .ref pg, .int (nI pe), .int kn, .ref ss])), (qp, .inl (E.2.1 6, 8, .inr (.inr (.inr (.inr fqp))))), (p0, .inr (4, [.int (nI p0n), .int (nI p0r), .ref p0a, .ref p0b])), (p0a, .inl (E.2.1 1, 24, .inl p0f)), (p0b, .inl (E.2.1 1, 96, .inl p0g)), (p1, .inr (4, [.int (nI p1n), .int (nI p1r), .ref p1a, .ref p1b])), (p1a, .inl (E.2.1 1, 24, .inl p1f)), (p1b, .inl (E.2.1 1, 96, .inl p1g)), (p2, .inr (4, [.int (nI p2n), .int (nI p2r), .ref p2a, .ref p2b])), (p2a, .inl (E.2.1 1, 24, .inl p2f)), (p2b, .inl (E.2.1 1, 96, .inl p2g)), (p3, .inr (4, [.int (nI p3n), .int (nI p3r), .ref p3a, .ref p3b])), (p3a, .inl (E.2.1 1, 24, .inl p3f)), (p3b, .inl (E.2.1 1, 96, .inl p3g)), (p4, .inr (4, [.int (nI p4n), .int (nI p4r), .ref p4a, .ref p4b])), (p4a, .inl (E.2.1 1, 24, .inl p4f)), (p4b, .inl (E.2.1 1, 96, .inl p4g)), (p5, .inr (4, [.int (nI p5n), .int (nI p5r), .ref p5a, .ref p5b])), (p5a, .inl (E.2.1 1, 24, .inl p5f)), (p5b, .inl (E.2.1 1, 96, .inl p5g)), (p6, .inr (4, [.int (nI p6n), .int (nI p6r), .ref p6a, .ref p6b])), (p6a, .inl (E.2.1 1, 24, .inl p6f)), (p6b, .inl (E.2.1 1, 96, .inl p6g)), (p7, .inr (4, [.int (nI p7n), .int (nI p7r), .ref p7a, .ref p7b])), (p7a, .inl (E.2.1 1, 24, .inl p7f)), (p7b, .inl (E.2.1 1, 96, .inl p7g)), (h, .inr (4, [.int (nI n), .int (nI r), .ref a, .ref b])), (a, .inl (E.2.1 1, 24, .inl f)), (b, .inl (E.2.1 1, 96, .inl gg))] (Qi E (fun (rz : Int32) uz => (∃ (acz : Nat) (npz : Nat) (p0nz : Nat) (p0rz_ : Nat) (p0fz : Nat → Int32) (p0gz : Nat → Int32) (p1nz : Nat) (p1rz_ : Nat) (p1fz : Nat → Int32) (p1gz : Nat → Int32) (p2nz : Nat) (p2rz_ : Nat) (p2fz : Nat → Int32) (p2gz : Nat → Int32) (p3nz : Nat) (p3rz_ : Nat) (p3fz : Nat → Int32) (p3gz : Nat → Int32) (p4nz : Nat) (p4rz_ : Nat) (p4fz : Nat → Int32) (p4gz : Nat → Int32) (p5nz : Nat) (p5rz_ : Nat) (p5fz : Nat → Int32) (p5gz : Nat → Int32) (p6nz : Nat) (p6rz_ : Nat) (p6fz : Nat → Int32) (p6gz : Nat → Int32) (p7nz : Nat) (p7rz_ : Nat) (p7fz : Nat → Int32) (p7gz : Nat → Int32) (nz : Nat) (rz_ : Nat) (fz : Nat → Int32) (ggz : Nat → Int32), uz = [(hx, .inr (11, [.ref h, .ref qp, .int (nI acz), .int (nI npz), .ref qs, .ref qj, .ref ly, .ref qh, .ref kk, .int (nI kc), .ref rd, .ref pg, .int (nI pe), .int kn, .ref ss])), (qp, .inl (E.2.1 6, 8, .inr (.inr (.inr (.inr fqp))))), (p0, .inr (4, [.int (nI p0nz), .int (nI p0rz_), .ref p0a, .ref p0b])), (p0a, .inl (E.2.1 1, 24, .inl p0fz)), (p0b, .inl (E.2.1 1, 96, .inl p0gz)), (p1, .inr (4, [.int (nI p1nz), .int (nI p1rz_), .ref p1a, .ref p1b])), (p1a, .inl (E.2.1 1, 24, .inl p1fz)), (p1b, .inl (E.2.1 1, 96, .inl p1gz)), (p2, .inr (4, [.int (nI p2nz), .int (nI p2rz_), .ref p2a, .ref p2b])), (p2a, .inl (E.2.1 1, 24, .inl p2fz)), (p2b, .inl (E.2.1 1, 96, .inl p2gz)), (p3, .inr (4, [.int (nI p3nz), .int (nI p3rz_), .ref p3a, .ref p3b])), (p3a, .inl (E.2.1 1, 24, .inl p3fz)), (p3b, .inl (E.2.1 1, 96, .inl p3gz)), (p4, .inr (4, [.int (nI p4nz), .int (nI p4rz_), .ref p4a, .ref p4b])), (p4a, .inl (E.2.1 1, 24, .inl p4fz)), (p4b, .inl (E.2.1 1, 96, .inl p4gz)), (p5, .inr (4, [.int (nI p5nz), .int (nI p5rz_), .ref p5a, .ref p5b])), (p5a, .inl (E.2.1 1, 24, .inl p5fz)), (p5b, .inl (E.2.1 1, 96, .inl p5gz)), (p6, .inr (4, [.int (nI p6nz), .int (nI p6rz_), .ref p6a, .ref p6b])), (p6a, .inl (E.2.1 1, 24, .inl p6fz)), (p6b, .inl (E.2.1 1, 96, .inl p6gz)), (p7, .inr (4, [.int (nI p7nz), .int (nI p7rz_), .ref p7a, .ref p7b])), (p7a, .inl (E.2.1 1, 24, .inl p7fz)), (p7b, .inl (E.2.1 1, 96, .inl p7gz)), (h, .inr (4, [.int (nI nz), .int (nI rz_), .ref a, .ref b])), (a, .inl (E.2.1 1, 24, .inl fz)), (b, .inl (E.2.1 1, 96, .inl ggz))] ∧ (acz ≤ 8) ∧ (npz < 8) ∧ (p0nz ≤ 24) ∧ (p0rz_ < p0nz ∨ p0rz_ = 0) ∧ (WFm (am p0nz p0rz_ p0fz p0gz)) ∧ (p1nz ≤ 24) ∧ (p1rz_ < p1nz ∨ p1rz_ = 0) ∧ (WFm (am p1nz p1rz_ p1fz p1gz)) ∧ (p2nz ≤ 24) ∧ (p2rz_ < p2nz ∨ p2rz_ = 0) ∧ (WFm (am p2nz p2rz_ p2fz p2gz)) ∧ (p3nz ≤ 24) ∧ (p3rz_ < p3nz ∨ p3rz_ = 0) ∧ (WFm (am p3nz p3rz_ p3fz p3gz)) ∧ (p4nz ≤ 24) ∧ (p4rz_ < p4nz ∨ p4rz_ = 0) ∧ (WFm (am p4nz p4rz_ p4fz p4gz)) ∧ (p5nz ≤ 24) ∧ (p5rz_ < p5nz ∨ p5rz_ = 0) ∧ (WFm (am p5nz p5rz_ p5fz p5gz)) ∧ (p6nz ≤ 24) ∧ (p6rz_ < p6nz ∨ p6rz_ = 0) ∧ (WFm (am p6nz p6rz_ p6fz p6gz)) ∧ (p7nz ≤ 24) ∧ (p7rz_ < p7nz ∨ p7rz_ = 0) ∧ (WFm (am p7nz p7rz_ p7fz p7gz)) ∧ (nz ≤ 24) ∧ (rz_ < nz ∨ rz_ = 0) ∧ (WFm (am nz rz_ fz ggz)) ∧ (((asX (am nz rz_ fz ggz) acz npz (pick8 (am p0nz p0rz_ p0fz p0gz) (am p1nz p1rz_ p1fz p1gz) (am p2nz p2rz_ p2fz p2gz) (am p3nz p3rz_ p3fz p3gz) (am p4nz p4rz_ p4fz p4gz) (am p5nz p5rz_ p5fz p5gz) (am p6nz p6rz_ p6fz p6gz) (am p7nz p7rz_ p7fz p7gz))), rz) = opReal (asX (am n r f gg) ac np (pick8 (am p0n p0r p0f p0g) (am p1n p1r p1f p1g) (am p2n p2r p2f p2g) (am p3n p3r p3f p3g) (am p4n p4r p4f p4g) (am p5n p5r p5f p5g) (am p6n p6r p6f p6g) (am p7n p7r p7f p7g))) v0)))) 0 0 := by
  refine ct_of rfl rfl ?_
  intro X C hT hin hro
  show WW X 3 E 0 [(0, .ref hx), (1, .int v0)] [] [(hx, .inr (11, [.ref h, .ref qp, .int (nI ac), .int (nI np), .ref qs, .ref qj, .ref ly, .ref qh, .ref kk, .int (nI kc), .ref rd, .ref pg, .int (nI pe), .int kn, .ref ss])), (qp, .inl (E.2.1 6, 8, .inr (.inr (.inr (.inr fqp))))), (p0, .inr (4, [.int (nI p0n), .int (nI p0r), .ref p0a, .ref p0b])), (p0a, .inl (E.2.1 1, 24, .inl p0f)), (p0b, .inl (E.2.1 1, 96, .inl p0g)), (p1, .inr (4, [.int (nI p1n), .int (nI p1r), .ref p1a, .ref p1b])), (p1a, .inl (E.2.1 1, 24, .inl p1f)), (p1b, .inl (E.2.1 1, 96, .inl p1g)), (p2, .inr (4, [.int (nI p2n), .int (nI p2r), .ref p2a, .ref p2b])), (p2a, .inl (E.2.1 1, 24, .inl p2f)), (p2b, .inl (E.2.1 1, 96, .inl p2g)), (p3, .inr (4, [.int (nI p3n), .int (nI p3r), .ref p3a, .ref p3b])), (p3a, .inl (E.2.1 1, 24, .inl p3f)), (p3b, .inl (E.2.1 1, 96, .inl p3g)), (p4, .inr (4, [.int (nI p4n), .int (nI p4r), .ref p4a, .ref p4b])), (p4a, .inl (E.2.1 1, 24, .inl p4f)), (p4b, .inl (E.2.1 1, 96, .inl p4g)), (p5, .inr (4, [.int (nI p5n), .int (nI p5r), .ref p5a, .ref p5b])), (p5a, .inl (E.2.1 1, 24, .inl p5f)), (p5b, .inl (E.2.1 1, 96, .inl p5g)), (p6, .inr (4, [.int (nI p6n), .int (nI p6r), .ref p6a, .ref p6b])), (p6a, .inl (E.2.1 1, 24, .inl p6f)), (p6b, .inl (E.2.1 1, 96, .inl p6g)), (p7, .inr (4, [.int (nI p7n), .int (nI p7r), .ref p7a, .ref p7b])), (p7a, .inl (E.2.1 1, 24, .inl p7f)), (p7b, .inl (E.2.1 1, 96, .inl p7g)), (h, .inr (4, [.int (nI n), .int (nI r), .ref a, .ref b])), (a, .inl (E.2.1 1, 24, .inl f)), (b, .inl (E.2.1 1, 96, .inl gg))] 0 0
  refine ww_aload_n C dX11_real_0 0 rfl rfl ?_
  refine ww_get C fg_X11_10 0 rfl rfl dX11_real_1 ?_
  refine ww_iload_n C dX11_real_4 1 rfl rfl ?_
  refine ww_ci (wr := [(hx, .inr (11, [.ref h, .ref qp, .int (nI ac), .int (nI np), .ref qs, .ref qj, .ref ly, .ref qh, .ref kk, .int (nI kc), .ref rd, .ref pg, .int (nI pe), .int kn, .ref ss])), (qp, .inl (E.2.1 6, 8, .inr (.inr (.inr (.inr fqp))))), (p0, .inr (4, [.int (nI p0n), .int (nI p0r), .ref p0a, .ref p0b])), (p0a, .inl (E.2.1 1, 24, .inl p0f)), (p0b, .inl (E.2.1 1, 96, .inl p0g)), (p1, .inr (4, [.int (nI p1n), .int (nI p1r), .ref p1a, .ref p1b])), (p1a, .inl (E.2.1 1, 24, .inl p1f)), (p1b, .inl (E.2.1 1, 96, .inl p1g)), (p2, .inr (4, [.int (nI p2n), .int (nI p2r), .ref p2a, .ref p2b])), (p2a, .inl (E.2.1 1, 24, .inl p2f)), (p2b, .inl (E.2.1 1, 96, .inl p2g)), (p3, .inr (4, [.int (nI p3n), .int (nI p3r), .ref p3a, .ref p3b])), (p3a, .inl (E.2.1 1, 24, .inl p3f)), (p3b, .inl (E.2.1 1, 96, .inl p3g)), (p4, .inr (4, [.int (nI p4n), .int (nI p4r), .ref p4a, .ref p4b])), (p4a, .inl (E.2.1 1, 24, .inl p4f)), (p4b, .inl (E.2.1 1, 96, .inl p4g)), (p5, .inr (4, [.int (nI p5n), .int (nI p5r), .ref p5a, .ref p5b])), (p5a, .inl (E.2.1 1, 24, .inl p5f)), (p5b, .inl (E.2.1 1, 96, .inl p5g)), (p6, .inr (4, [.int (nI p6n), .int (nI p6r), .ref p6a, .ref p6b])), (p6a, .inl (E.2.1 1, 24, .inl p6f)), (p6b, .inl (E.2.1 1, 96, .inl p6g)), (p7, .inr (4, [.int (nI p7n), .int (nI p7r), .ref p7a, .ref p7b])), (p7a, .inl (E.2.1 1, 24, .inl p7f)), (p7b, .inl (E.2.1 1, 96, .inl p7g)), (a, .inl (E.2.1 1, 24, .inl f)), (b, .inl (E.2.1 1, 96, .inl gg))]) (k' := 0) (n' := 0) C (run_V (As := [.int v0]) (rest := []) C (m_contains X.2.1 E ro h v0 n r a b (by omega)) mi_X4_contains wl_X11_135 rfl 0 4 rfl rfl rfl rfl rfl dX11_real_5) (roK hro) [26] [0, 1, 2, 3, 4, 5, 6, 7, 8, 9, 10, 11, 12, 13, 14, 15, 16, 17, 18, 19, 20, 21, 22, 23, 24, 25, 27, 28] rfl (gqk (by eq_refl)) (plk (by decide +kernel)) rfl (fun r_1 uz hw => ?_)
  rcases hw with hw | hw
  · refine an3 hw ?_
    clear hw
    intro he_4 he_5 h_2 hw
    have h_3 := hw
    clear hw
    have he_4 := he_4.symm
    subst he_4
    subst he_5
    refine ww_eq (ws' := [(hx, .inr (11, [.ref h, .ref qp, .int (nI ac), .int (nI np), .ref qs, .ref qj, .ref ly, .ref qh, .ref kk, .int (nI kc), .ref rd, .ref pg, .int (nI pe), .int kn, .ref ss])), (qp, .inl (E.2.1 6, 8, .inr (.inr (.inr (.inr fqp))))), (p0, .inr (4, [.int (nI p0n), .int (nI p0r), .ref p0a, .ref p0b])), (p0a, .inl (E.2.1 1, 24, .inl p0f)), (p0b, .inl (E.2.1 1, 96, .inl p0g)), (p1, .inr (4, [.int (nI p1n), .int (nI p1r), .ref p1a, .ref p1b])), (p1a, .inl (E.2.1 1, 24, .inl p1f)), (p1b, .inl (E.2.1 1, 96, .inl p1g)), (p2, .inr (4, [.int (nI p2n), .int (nI p2r), .ref p2a, .ref p2b])), (p2a, .inl (E.2.1 1, 24, .inl p2f)), (p2b, .inl (E.2.1 1, 96, .inl p2g)), (p3, .inr (4, [.int (nI p3n), .int (nI p3r), .ref p3a, .ref p3b])), (p3a, .inl (E.2.1 1, 24, .inl p3f)), (p3b, .inl (E.2.1 1, 96, .inl p3g)), (p4, .inr (4, [.int (nI p4n), .int (nI p4r), .ref p4a, .ref p4b])), (p4a, .inl (E.2.1 1, 24, .inl p4f)), (p4b, .inl (E.2.1 1, 96, .inl p4g)), (p5, .inr (4, [.int (nI p5n), .int (nI p5r), .ref p5a, .ref p5b])), (p5a, .inl (E.2.1 1, 24, .inl p5f)), (p5b, .inl (E.2.1 1, 96, .inl p5g)), (p6, .inr (4, [.int (nI p6n), .int (nI p6r), .ref p6a, .ref p6b])), (p6a, .inl (E.2.1 1, 24, .inl p6f)), (p6b, .inl (E.2.1 1, 96, .inl p6g)), (p7, .inr (4, [.int (nI p7n), .int (nI p7r), .ref p7a, .ref p7b])), (p7a, .inl (E.2.1 1, 24, .inl p7f)), (p7b, .inl (E.2.1 1, 96, .inl p7g)), (a, .inl (E.2.1 1, 24, .inl f)), (b, .inl (E.2.1 1, 96, .inl gg)), (h, .inr (4, [.int (nI n), .int (nI r), .ref a, .ref b]))]) ?_ rfl rfl rfl
    refine ww_if_ne_t (tgt := 13) C dX11_real_8 (by decide) (by decide) ?_
    obtain ⟨j_9, hj_9, rfl⟩ := i_nat (x := v0) (N := 24) (by omega) (by omega)
    have hzj_9 := nI_toInt (n := j_9) (by omega)
    refine ww_aload_n C dX11_real_13 0 rfl rfl ?_
    refine ww_cv (wr := []) (k' := 0) (n' := 0) C (run_V (As := []) (rest := []) C (x_remember X.2.1 E ro hx h qp ac np qs qj ly qh kk kc rd pg pe kn ss fqp p0 p1 p2 p3 p4 p5 p6 p7 p0n p0r p0a p0b p0f p0g p1n p1r p1a p1b p1f p1g p2n p2r p2a p2b p2f p2g p3n p3r p3a p3b p3f p3g p4n p4r p4a p4b p4f p4g p5n p5r p5a p5b p5f p5g p6n p6r p6a p6b p6f p6g p7n p7r p7a p7b p7f p7g n r a b f gg k_fqp_0 k_fqp_1 k_fqp_2 k_fqp_3 k_fqp_4 k_fqp_5 k_fqp_6 k_fqp_7 (by omega) (by omega) (by omega) (by omega) (by omega) (by omega) (by omega) (by omega) (by omega) (by omega) (by omega) (by omega) (by omega) (by omega) (by omega) (by omega) (by omega) (by omega) (by omega) (by omega) (by omega) (by omega) (by omega) (by omega) (by omega) (by omega) (by omega) (by omega) (by omega) (by omega) (by omega)) mi_X11_remember wl_X11_128 rfl 0 11 rfl rfl rfl rfl rfl dX11_real_14) (roK hro) [0, 1, 2, 3, 4, 5, 6, 7, 8, 9, 10, 11, 12, 13, 14, 15, 16, 17, 18, 19, 20, 21, 22, 23, 24, 25, 28, 26, 27] [] (gqk (by eq_refl)) rfl (plk (by decide +kernel)) rfl (fun uz hw => ?_)
    refine ex8 hw ?_
    clear hw
    intro acz_11 npz_12 p0nz_13 p0rz__14 p0fz_15 p0gz_16 p1nz_17 p1rz__18 hw
    refine ex8 hw ?_
    clear hw
    intro p1fz_19 p1gz_20 p2nz_21 p2rz__22 p2fz_23 p2gz_24 p3nz_25 p3rz__26 hw
    refine ex8 hw ?_
    clear hw
    intro p3fz_27 p3gz_28 p4nz_29 p4rz__30 p4fz_31 p4gz_32 p5nz_33 p5rz__34 hw
    refine ex8 hw ?_
    clear hw
    intro p5fz_35 p5gz_36 p6nz_37 p6rz__38 p6fz_39 p6gz_40 p7nz_41 p7rz__42 hw
    refine ex2 hw ?_
    clear hw
    intro p7fz_43 p7gz_44 hw
    refine an8 hw ?_
    clear hw
    intro he_74 h_45 h_46 h_47 h_48 h_49 h_50 h_51 hw
    refine an8 hw ?_
    clear hw
    intro h_52 h_53 h_54 h_55 h_56 h_57 h_58 h_59 hw
    refine an8 hw ?_
    clear hw
    intro h_60 h_61 h_62 h_63 h_64 h_65 h_66 h_67 hw
    refine an5 hw ?_
    clear hw
    intro h_68 h_69 h_70 h_71 h_72 hw
    have h_73 := hw
    clear hw
    subst he_74
    refine ww_eq (ws' := [(hx, .inr (11, [.ref h, .ref qp, .int (nI acz_11), .int (nI npz_12), .ref qs, .ref qj, .ref ly, .ref qh, .ref kk, .int (nI kc), .ref rd, .ref pg, .int (nI pe), .int kn, .ref ss])), (qp, .inl (E.2.1 6, 8, .inr (.inr (.inr (.inr fqp))))), (p0, .inr (4, [.int (nI p0nz_13), .int (nI p0rz__14), .ref p0a, .ref p0b])), (p0a, .inl (E.2.1 1, 24, .inl p0fz_15)), (p0b, .inl (E.2.1 1, 96, .inl p0gz_16)), (p1, .inr (4, [.int (nI p1nz_17), .int (nI p1rz__18), .ref p1a, .ref p1b])), (p1a, .inl (E.2.1 1, 24, .inl p1fz_19)), (p1b, .inl (E.2.1 1, 96, .inl p1gz_20)), (p2, .inr (4, [.int (nI p2nz_21), .int (nI p2rz__22), .ref p2a, .ref p2b])), (p2a, .inl (E.2.1 1, 24, .inl p2fz_23)), (p2b, .inl (E.2.1 1, 96, .inl p2gz_24)), (p3, .inr (4, [.int (nI p3nz_25), .int (nI p3rz__26), .ref p3a, .ref p3b])), (p3a, .inl (E.2.1 1, 24, .inl p3fz_27)), (p3b, .inl (E.2.1 1, 96, .inl p3gz_28)), (p4, .inr (4, [.int (nI p4nz_29), .int (nI p4rz__30), .ref p4a, .ref p4b])), (p4a, .inl (E.2.1 1, 24, .inl p4fz_31)), (p4b, .inl (E.2.1 1, 96, .inl p4gz_32)), (p5, .inr (4, [.int (nI p5nz_33), .int (nI p5rz__34), .ref p5a, .ref p5b])), (p5a, .inl (E.2.1 1, 24, .inl p5fz_35)), (p5b, .inl (E.2.1 1, 96, .inl p5gz_36)), (p6, .inr (4, [.int (nI p6nz_37), .int (nI p6rz__38), .ref p6a, .ref p6b])), (p6a, .inl (E.2.1 1, 24, .inl p6fz_39)), (p6b, .inl (E.2.1 1, 96, .inl p6gz_40)), (p7, .inr (4, [.int (nI p7nz_41), .int (nI p7rz__42), .ref p7a, .ref p7b])), (p7a, .inl (E.2.1 1, 24, .inl p7fz_43)), (p7b, .inl (E.2.1 1, 96, .inl p7gz_44)), (h, .inr (4, [.int (nI n), .int (nI r), .ref a, .ref b])), (a, .inl (E.2.1 1, 24, .inl f)), (b, .inl (E.2.1 1, 96, .inl gg))]) ?_ rfl rfl rfl
    refine ww_aload_n C dX11_real_17 0 rfl rfl ?_
    refine ww_get C fg_X11_10 0 rfl rfl dX11_real_18 ?_
    refine ww_get C fg_X11_149 26 rfl rfl dX11_real_21 ?_
    refine ww_istore_n (lv' := [(2, .int (nI r)), (0, .ref hx), (1, .int (nI j_9))]) C dX11_real_24 rfl rfl rfl ?_
    refine ww_aload_n C dX11_real_25 1 rfl rfl ?_
    refine ww_get C fg_X11_10 0 rfl rfl dX11_real_26 ?_
    refine ww_iload_n C dX11_real_29 2 rfl rfl ?_
    refine ww_put (ws' := [(hx, .inr (11, [.ref h, .ref qp, .int (nI acz_11), .int (nI npz_12), .ref qs, .ref qj, .ref ly, .ref qh, .ref kk, .int (nI kc), .ref rd, .ref pg, .int (nI pe), .int kn, .ref ss])), (qp, .inl (E.2.1 6, 8, .inr (.inr (.inr (.inr fqp))))), (p0, .inr (4, [.int (nI p0nz_13), .int (nI p0rz__14), .ref p0a, .ref p0b])), (p0a, .inl (E.2.1 1, 24, .inl p0fz_15)), (p0b, .inl (E.2.1 1, 96, .inl p0gz_16)), (p1, .inr (4, [.int (nI p1nz_17), .int (nI p1rz__18), .ref p1a, .ref p1b])), (p1a, .inl (E.2.1 1, 24, .inl p1fz_19)), (p1b, .inl (E.2.1 1, 96, .inl p1gz_20)), (p2, .inr (4, [.int (nI p2nz_21), .int (nI p2rz__22), .ref p2a, .ref p2b])), (p2a, .inl (E.2.1 1, 24, .inl p2fz_23)), (p2b, .inl (E.2.1 1, 96, .inl p2gz_24)), (p3, .inr (4, [.int (nI p3nz_25), .int (nI p3rz__26), .ref p3a, .ref p3b])), (p3a, .inl (E.2.1 1, 24, .inl p3fz_27)), (p3b, .inl (E.2.1 1, 96, .inl p3gz_28)), (p4, .inr (4, [.int (nI p4nz_29), .int (nI p4rz__30), .ref p4a, .ref p4b])), (p4a, .inl (E.2.1 1, 24, .inl p4fz_31)), (p4b, .inl (E.2.1 1, 96, .inl p4gz_32)), (p5, .inr (4, [.int (nI p5nz_33), .int (nI p5rz__34), .ref p5a, .ref p5b])), (p5a, .inl (E.2.1 1, 24, .inl p5fz_35)), (p5b, .inl (E.2.1 1, 96, .inl p5gz_36)), (p6, .inr (4, [.int (nI p6nz_37), .int (nI p6rz__38), .ref p6a, .ref p6b])), (p6a, .inl (E.2.1 1, 24, .inl p6fz_39)), (p6b, .inl (E.2.1 1, 96, .inl p6gz_40)), (p7, .inr (4, [.int (nI p7nz_41), .int (nI p7rz__42), .ref p7a, .ref p7b])), (p7a, .inl (E.2.1 1, 24, .inl p7fz_43)), (p7b, .inl (E.2.1 1, 96, .inl p7gz_44)), (h, .inr (4, [.int (nI n), .int (nI j_9), .ref a, .ref b])), (a, .inl (E.2.1 1, 24, .inl f)), (b, .inl (E.2.1 1, 96, .inl gg))]) C fp_X11_149 26 rfl rfl rfl rfl rfl dX11_real_30 ?_
    have hwz_75 : WFm (am n j_9 f gg) := by rw [show am n j_9 f gg = aReal (am n r f gg) j_9 from rfl]; exact (fun k w v h => hwfm k w v h)
    refine ww_iload_n C dX11_real_33 0 rfl rfl ?_
    exact ww_iret (u := [(hx, .inr (11, [.ref h, .ref qp, .int (nI acz_11), .int (nI npz_12), .ref qs, .ref qj, .ref ly, .ref qh, .ref kk, .int (nI kc), .ref rd, .ref pg, .int (nI pe), .int kn, .ref ss])), (qp, .inl (E.2.1 6, 8, .inr (.inr (.inr (.inr fqp))))), (p0, .inr (4, [.int (nI p0nz_13), .int (nI p0rz__14), .ref p0a, .ref p0b])), (p0a, .inl (E.2.1 1, 24, .inl p0fz_15)), (p0b, .inl (E.2.1 1, 96, .inl p0gz_16)), (p1, .inr (4, [.int (nI p1nz_17), .int (nI p1rz__18), .ref p1a, .ref p1b])), (p1a, .inl (E.2.1 1, 24, .inl p1fz_19)), (p1b, .inl (E.2.1 1, 96, .inl p1gz_20)), (p2, .inr (4, [.int (nI p2nz_21), .int (nI p2rz__22), .ref p2a, .ref p2b])), (p2a, .inl (E.2.1 1, 24, .inl p2fz_23)), (p2b, .inl (E.2.1 1, 96, .inl p2gz_24)), (p3, .inr (4, [.int (nI p3nz_25), .int (nI p3rz__26), .ref p3a, .ref p3b])), (p3a, .inl (E.2.1 1, 24, .inl p3fz_27)), (p3b, .inl (E.2.1 1, 96, .inl p3gz_28)), (p4, .inr (4, [.int (nI p4nz_29), .int (nI p4rz__30), .ref p4a, .ref p4b])), (p4a, .inl (E.2.1 1, 24, .inl p4fz_31)), (p4b, .inl (E.2.1 1, 96, .inl p4gz_32)), (p5, .inr (4, [.int (nI p5nz_33), .int (nI p5rz__34), .ref p5a, .ref p5b])), (p5a, .inl (E.2.1 1, 24, .inl p5fz_35)), (p5b, .inl (E.2.1 1, 96, .inl p5gz_36)), (p6, .inr (4, [.int (nI p6nz_37), .int (nI p6rz__38), .ref p6a, .ref p6b])), (p6a, .inl (E.2.1 1, 24, .inl p6fz_39)), (p6b, .inl (E.2.1 1, 96, .inl p6gz_40)), (p7, .inr (4, [.int (nI p7nz_41), .int (nI p7rz__42), .ref p7a, .ref p7b])), (p7a, .inl (E.2.1 1, 24, .inl p7fz_43)), (p7b, .inl (E.2.1 1, 96, .inl p7gz_44)), (h, .inr (4, [.int (nI n), .int (nI j_9), .ref a, .ref b])), (a, .inl (E.2.1 1, 24, .inl f)), (b, .inl (E.2.1 1, 96, .inl gg))]) C hT [0, 1, 2, 3, 4, 5, 6, 7, 8, 9, 10, 11, 12, 13, 14, 15, 16, 17, 18, 19, 20, 21, 22, 23, 24, 25, 26, 27, 28] (gqk (by eq_refl)) (ndk (by decide +kernel)) rfl rfl dX11_real_34 (⟨acz_11, npz_12, p0nz_13, p0rz__14, p0fz_15, p0gz_16, p1nz_17, p1rz__18, p1fz_19, p1gz_20, p2nz_21, p2rz__22, p2fz_23, p2gz_24, p3nz_25, p3rz__26, p3fz_27, p3gz_28, p4nz_29, p4rz__30, p4fz_31, p4gz_32, p5nz_33, p5rz__34, p5fz_35, p5gz_36, p6nz_37, p6rz__38, p6fz_39, p6gz_40, p7nz_41, p7rz__42, p7fz_43, p7gz_44, n, j_9, f, gg, rfl, (by first | assumption | omega | decide), (by first | assumption | omega | decide), (by first | assumption | omega | decide), (by first | assumption | omega | decide), (by assumption), (by first | assumption | omega | decide), (by first | assumption | omega | decide), (by assumption), (by first | assumption | omega | decide), (by first | assumption | omega | decide), (by assumption), (by first | assumption | omega | decide), (by first | assumption | omega | decide), (by assumption), (by first | assumption | omega | decide), (by first | assumption | omega | decide), (by assumption), (by first | assumption | omega | decide), (by first | assumption | omega | decide), (by assumption), (by first | assumption | omega | decide), (by first | assumption | omega | decide), (by assumption), (by first | assumption | omega | decide), (by first | assumption | omega | decide), (by assumption), (by first | assumption | omega | decide), (by first | assumption | omega | decide), hwz_75, (by show _ = if (nI j_9).toInt < 0 ∨ (n : Int) ≤ (nI j_9).toInt then ((asX (am n r f gg) ac np (pick8 (am p0n p0r p0f p0g) (am p1n p1r p1f p1g) (am p2n p2r p2f p2g) (am p3n p3r p3f p3g) (am p4n p4r p4f p4g) (am p5n p5r p5f p5g) (am p6n p6r p6f p6g) (am p7n p7r p7f p7g))), -1) else (aRem (asX (am n r f gg) ac np (pick8 (am p0n p0r p0f p0g) (am p1n p1r p1f p1g) (am p2n p2r p2f p2g) (am p3n p3r p3f p3g) (am p4n p4r p4f p4g) (am p5n p5r p5f p5g) (am p6n p6r p6f p6g) (am p7n p7r p7f p7g))) (aReal (am n r f gg) (tN (nI j_9))), nI r); rw [if_neg (show ¬ ((nI j_9).toInt < 0 ∨ (n : Int) ≤ (nI j_9).toInt) by omega)]; exact Prod.ext ((asX_rem hac hnp h_71 h_72 h_73).trans (congrArg (aRem (asX (am n r f gg) ac np (pick8 (am p0n p0r p0f p0g) (am p1n p1r p1f p1g) (am p2n p2r p2f p2g) (am p3n p3r p3f p3g) (am p4n p4r p4f p4g) (am p5n p5r p5f p5g) (am p6n p6r p6f p6g) (am p7n p7r p7f p7g)))) (show am n j_9 f gg = aReal (am n r f gg) (tN (nI j_9)) by rw [tN_n (by omega)]; rfl))) rfl)⟩)
  · refine an2 hw ?_
    clear hw
    intro he_7 he_8 hw
    have h_6 := hw
    clear hw
    have he_7 := he_7.symm
    subst he_7
    subst he_8
    refine ww_eq (ws' := [(hx, .inr (11, [.ref h, .ref qp, .int (nI ac), .int (nI np), .ref qs, .ref qj, .ref ly, .ref qh, .ref kk, .int (nI kc), .ref rd, .ref pg, .int (nI pe), .int kn, .ref ss])), (qp, .inl (E.2.1 6, 8, .inr (.inr (.inr (.inr fqp))))), (p0, .inr (4, [.int (nI p0n), .int (nI p0r), .ref p0a, .ref p0b])), (p0a, .inl (E.2.1 1, 24, .inl p0f)), (p0b, .inl (E.2.1 1, 96, .inl p0g)), (p1, .inr (4, [.int (nI p1n), .int (nI p1r), .ref p1a, .ref p1b])), (p1a, .inl (E.2.1 1, 24, .inl p1f)), (p1b, .inl (E.2.1 1, 96, .inl p1g)), (p2, .inr (4, [.int (nI p2n), .int (nI p2r), .ref p2a, .ref p2b])), (p2a, .inl (E.2.1 1, 24, .inl p2f)), (p2b, .inl (E.2.1 1, 96, .inl p2g)), (p3, .inr (4, [.int (nI p3n), .int (nI p3r), .ref p3a, .ref p3b])), (p3a, .inl (E.2.1 1, 24, .inl p3f)), (p3b, .inl (E.2.1 1, 96, .inl p3g)), (p4, .inr (4, [.int (nI p4n), .int (nI p4r), .ref p4a, .ref p4b])), (p4a, .inl (E.2.1 1, 24, .inl p4f)), (p4b, .inl (E.2.1 1, 96, .inl p4g)), (p5, .inr (4, [.int (nI p5n), .int (nI p5r), .ref p5a, .ref p5b])), (p5a, .inl (E.2.1 1, 24, .inl p5f)), (p5b, .inl (E.2.1 1, 96, .inl p5g)), (p6, .inr (4, [.int (nI p6n), .int (nI p6r), .ref p6a, .ref p6b])), (p6a, .inl (E.2.1 1, 24, .inl p6f)), (p6b, .inl (E.2.1 1, 96, .inl p6g)), (p7, .inr (4, [.int (nI p7n), .int (nI p7r), .ref p7a, .ref p7b])), (p7a, .inl (E.2.1 1, 24, .inl p7f)), (p7b, .inl (E.2.1 1, 96, .inl p7g)), (a, .inl (E.2.1 1, 24, .inl f)), (b, .inl (E.2.1 1, 96, .inl gg)), (h, .inr (4, [.int (nI n), .int (nI r), .ref a, .ref b]))]) ?_ rfl rfl rfl
    refine ww_if_ne_f (tgt := 13) C dX11_real_8 (by decide) (rfl) ?_
    refine ww_iconst (v := (-1)) C dX11_real_11 rfl ?_
    exact ww_iret (u := [(hx, .inr (11, [.ref h, .ref qp, .int (nI ac), .int (nI np), .ref qs, .ref qj, .ref ly, .ref qh, .ref kk, .int (nI kc), .ref rd, .ref pg, .int (nI pe), .int kn, .ref ss])), (qp, .inl (E.2.1 6, 8, .inr (.inr (.inr (.inr fqp))))), (p0, .inr (4, [.int (nI p0n), .int (nI p0r), .ref p0a, .ref p0b])), (p0a, .inl (E.2.1 1, 24, .inl p0f)), (p0b, .inl (E.2.1 1, 96, .inl p0g)), (p1, .inr (4, [.int (nI p1n), .int (nI p1r), .ref p1a, .ref p1b])), (p1a, .inl (E.2.1 1, 24, .inl p1f)), (p1b, .inl (E.2.1 1, 96, .inl p1g)), (p2, .inr (4, [.int (nI p2n), .int (nI p2r), .ref p2a, .ref p2b])), (p2a, .inl (E.2.1 1, 24, .inl p2f)), (p2b, .inl (E.2.1 1, 96, .inl p2g)), (p3, .inr (4, [.int (nI p3n), .int (nI p3r), .ref p3a, .ref p3b])), (p3a, .inl (E.2.1 1, 24, .inl p3f)), (p3b, .inl (E.2.1 1, 96, .inl p3g)), (p4, .inr (4, [.int (nI p4n), .int (nI p4r), .ref p4a, .ref p4b])), (p4a, .inl (E.2.1 1, 24, .inl p4f)), (p4b, .inl (E.2.1 1, 96, .inl p4g)), (p5, .inr (4, [.int (nI p5n), .int (nI p5r), .ref p5a, .ref p5b])), (p5a, .inl (E.2.1 1, 24, .inl p5f)), (p5b, .inl (E.2.1 1, 96, .inl p5g)), (p6, .inr (4, [.int (nI p6n), .int (nI p6r), .ref p6a, .ref p6b])), (p6a, .inl (E.2.1 1, 24, .inl p6f)), (p6b, .inl (E.2.1 1, 96, .inl p6g)), (p7, .inr (4, [.int (nI p7n), .int (nI p7r), .ref p7a, .ref p7b])), (p7a, .inl (E.2.1 1, 24, .inl p7f)), (p7b, .inl (E.2.1 1, 96, .inl p7g)), (h, .inr (4, [.int (nI n), .int (nI r), .ref a, .ref b])), (a, .inl (E.2.1 1, 24, .inl f)), (b, .inl (E.2.1 1, 96, .inl gg))]) C hT [0, 1, 2, 3, 4, 5, 6, 7, 8, 9, 10, 11, 12, 13, 14, 15, 16, 17, 18, 19, 20, 21, 22, 23, 24, 25, 28, 26, 27] (gqk (by eq_refl)) (ndk (by decide +kernel)) rfl rfl dX11_real_12 (⟨ac, np, p0n, p0r, p0f, p0g, p1n, p1r, p1f, p1g, p2n, p2r, p2f, p2g, p3n, p3r, p3f, p3g, p4n, p4r, p4f, p4g, p5n, p5r, p5f, p5g, p6n, p6r, p6f, p6g, p7n, p7r, p7f, p7g, n, r, f, gg, rfl, (by first | assumption | omega | decide), (by first | assumption | omega | decide), (by first | assumption | omega | decide), (by first | assumption | omega | decide), (by assumption), (by first | assumption | omega | decide), (by first | assumption | omega | decide), (by assumption), (by first | assumption | omega | decide), (by first | assumption | omega | decide), (by assumption), (by first | assumption | omega | decide), (by first | assumption | omega | decide), (by assumption), (by first | assumption | omega | decide), (by first | assumption | omega | decide), (by assumption), (by first | assumption | omega | decide), (by first | assumption | omega | decide), (by assumption), (by first | assumption | omega | decide), (by first | assumption | omega | decide), (by assumption), (by first | assumption | omega | decide), (by first | assumption | omega | decide), (by assumption), (by first | assumption | omega | decide), (by first | assumption | omega | decide), hwfm, (by show _ = if v0.toInt < 0 ∨ (n : Int) ≤ v0.toInt then ((asX (am n r f gg) ac np (pick8 (am p0n p0r p0f p0g) (am p1n p1r p1f p1g) (am p2n p2r p2f p2g) (am p3n p3r p3f p3g) (am p4n p4r p4f p4g) (am p5n p5r p5f p5g) (am p6n p6r p6f p6g) (am p7n p7r p7f p7g))), -1) else (aRem (asX (am n r f gg) ac np (pick8 (am p0n p0r p0f p0g) (am p1n p1r p1f p1g) (am p2n p2r p2f p2g) (am p3n p3r p3f p3g) (am p4n p4r p4f p4g) (am p5n p5r p5f p5g) (am p6n p6r p6f p6g) (am p7n p7r p7f p7g))) (aReal (am n r f gg) (tN v0)), nI r); rw [if_pos (show v0.toInt < 0 ∨ (n : Int) ≤ v0.toInt by omega)])⟩)
theorem of_6 {n r w k : Nat} {f g : Nat → Int32} (hw : w < n) : (decide (k < 4) && decide (g (k * 24 + w) = 0)) = (decide (k < 4) && !anyN ((am n r f g).2.2.2 k w) 32) := by
  by_cases hk : k < 4
  · rw [decide_eq_true hk, Bool.true_and, Bool.true_and, row_z]
    congr 1
    exact anyN_cg (fun i _ => (am_S hk hw).symm)
  · rw [decide_eq_false hk, Bool.false_and, Bool.false_and]
theorem dX11_of_0 : decode cX11_of 0 = .ok (.aload_n 0, 1) := dl_42 (by decide +kernel)
theorem dX11_of_1 : decode cX11_of 1 = .ok (.getfield 10, 3) := dl_180 (by decide +kernel)
theorem dX11_of_4 : decode cX11_of 4 = .ok (.iload_n 1, 1) := dl_27 (by decide +kernel)
theorem dX11_of_5 : decode cX11_of 5 = .ok (.invokevirtual 135, 3) := dl_182 (by decide +kernel)
theorem dX11_of_8 : decode cX11_of 8 = .ok (.ifCond .eq 13, 3) := dl_153 (by decide +kernel)
theorem dX11_of_11 : decode cX11_of 11 = .ok (.iload_n 2, 1) := dl_28 (by decide +kernel)
theorem dX11_of_12 : decode cX11_of 12 = .ok (.iconst 0, 1) := dl_3 (by decide +kernel)
theorem dX11_of_13 : decode cX11_of 13 = .ok (.bipush 6, 2) := dl_16 (by decide +kernel)
theorem dX11_of_15 : decode cX11_of 15 = .ok (.invokestatic 76, 3) := dl_184 (by decide +kernel)
theorem dX11_of_18 : decode cX11_of 18 = .ok (.ifCond .ne 5, 3) := dl_154 (by decide +kernel)
theorem dX11_of_23 : decode cX11_of 23 = .ok (.iload_n 2, 1) := dl_28 (by decide +kernel)
theorem dX11_of_24 : decode cX11_of 24 = .ok (.ifCond .ne 13, 3) := dl_154 (by decide +kernel)
theorem dX11_of_37 : decode cX11_of 37 = .ok (.iload_n 2, 1) := dl_28 (by decide +kernel)
theorem dX11_of_38 : decode cX11_of 38 = .ok (.iconst 5, 1) := dl_8 (by decide +kernel)
theorem dX11_of_39 : decode cX11_of 39 = .ok (.if_icmp .ne 20, 3) := dl_160 (by decide +kernel)
theorem dX11_of_59 : decode cX11_of 59 = .ok (.iload_n 2, 1) := dl_28 (by decide +kernel)
theorem dX11_of_60 : decode cX11_of 60 = .ok (.bipush 6, 2) := dl_16 (by decide +kernel)
theorem dX11_of_62 : decode cX11_of 62 = .ok (.if_icmp .ne 14, 3) := dl_160 (by decide +kernel)
theorem dX11_of_76 : decode cX11_of 76 = .ok (.aload_n 0, 1) := dl_42 (by decide +kernel)
theorem dX11_of_77 : decode cX11_of 77 = .ok (.getfield 10, 3) := dl_180 (by decide +kernel)
theorem dX11_of_80 : decode cX11_of 80 = .ok (.iload_n 2, 1) := dl_28 (by decide +kernel)
theorem dX11_of_81 : decode cX11_of 81 = .ok (.iconst 1, 1) := dl_4 (by decide +kernel)
theorem dX11_of_82 : decode cX11_of 82 = .ok (.isub, 1) := dl_100 (by decide +kernel)
theorem dX11_of_83 : decode cX11_of 83 = .ok (.iload_n 1, 1) := dl_27 (by decide +kernel)
theorem dX11_of_84 : decode cX11_of 84 = .ok (.invokevirtual 138, 3) := dl_182 (by decide +kernel)
theorem dX11_of_87 : decode cX11_of 87 = .ok (.ireturn, 1) := dl_172 (by decide +kernel)
theorem dX11_of_65 : decode cX11_of 65 = .ok (.aload_n 0, 1) := dl_42 (by decide +kernel)
theorem dX11_of_66 : decode cX11_of 66 = .ok (.getfield 10, 3) := dl_180 (by decide +kernel)
theorem dX11_of_69 : decode cX11_of 69 = .ok (.iload_n 1, 1) := dl_27 (by decide +kernel)
theorem dX11_of_70 : decode cX11_of 70 = .ok (.invokevirtual 156, 3) := dl_182 (by decide +kernel)
theorem wl_X11_156 : Cond.methodLink RX11 156 yX4_lost ∈ TB := tbm (tq2 (List.mem_of_getElem? (i := 211) (by decide +kernel))) (by decide +kernel)
theorem wc_X4_lost : Cond.code yX4_lost cX4_lost 4 (some .int) ∈ TB := tbm (tq2 (List.mem_of_getElem? (i := 214) (rfl))) (by decide +kernel)
theorem wi_X4_lost : Cond.instanceMethod yX4_lost ∈ TB := tbm (tq2 (List.mem_of_getElem? (i := 212) (by decide +kernel))) (by decide +kernel)
theorem ws_X4_lost : Cond.selects RX4 yX4_lost yX4_lost ∈ TB := tbm (tq2 (List.mem_of_getElem? (i := 213) (by decide +kernel))) (by decide +kernel)
theorem mi_X4_lost : MI yX4_lost cX4_lost 4 (some .int) 1 := ⟨wc_X4_lost, wn_X4, ⟨by decide +kernel, by decide +kernel, by decide +kernel⟩, wi_X4_lost, ws_X4_lost⟩
theorem dX11_of_73 : decode cX11_of 73 = .ok (.goto 14, 3) := dl_167 (by decide +kernel)
theorem dX11_of_42 : decode cX11_of 42 = .ok (.iload_n 1, 1) := dl_27 (by decide +kernel)
theorem dX11_of_43 : decode cX11_of 43 = .ok (.aload_n 0, 1) := dl_42 (by decide +kernel)
theorem dX11_of_44 : decode cX11_of 44 = .ok (.getfield 10, 3) := dl_180 (by decide +kernel)
theorem dX11_of_47 : decode cX11_of 47 = .ok (.getfield 149, 3) := dl_180 (by decide +kernel)
theorem dX11_of_50 : decode cX11_of 50 = .ok (.if_icmp .ne 7, 3) := dl_160 (by decide +kernel)
theorem dX11_of_57 : decode cX11_of 57 = .ok (.iconst 0, 1) := dl_3 (by decide +kernel)
theorem dX11_of_58 : decode cX11_of 58 = .ok (.ireturn, 1) := dl_172 (by decide +kernel)
theorem dX11_of_53 : decode cX11_of 53 = .ok (.iconst 1, 1) := dl_4 (by decide +kernel)
theorem dX11_of_54 : decode cX11_of 54 = .ok (.goto 4, 3) := dl_167 (by decide +kernel)
theorem dX11_of_27 : decode cX11_of 27 = .ok (.aload_n 0, 1) := dl_42 (by decide +kernel)
theorem dX11_of_28 : decode cX11_of 28 = .ok (.getfield 10, 3) := dl_180 (by decide +kernel)
theorem dX11_of_31 : decode cX11_of 31 = .ok (.getfield 152, 3) := dl_180 (by decide +kernel)
theorem wf_X11_152 : Cond.fieldLink RX11 152 RX4 "facts" "[I" ∈ TB := tbm (tq1 (List.mem_of_getElem? (i := 48) (by decide +kernel))) (by decide +kernel)
theorem fg_X11_152 : FG RX11 152 4 2 := ⟨RX4, TX4, 4, uw_X4, wf_X11_152, rfl, by decide, rfl⟩
theorem dX11_of_34 : decode cX11_of 34 = .ok (.iload_n 1, 1) := dl_27 (by decide +kernel)
theorem dX11_of_35 : decode cX11_of 35 = .ok (.iaload, 1) := dl_46 (by decide +kernel)
theorem dX11_of_36 : decode cX11_of 36 = .ok (.ireturn, 1) := dl_172 (by decide +kernel)
theorem dX11_of_21 : decode cX11_of 21 = .ok (.iconst (-1), 1) := dl_2 (by decide +kernel)
theorem dX11_of_22 : decode cX11_of 22 = .ok (.ireturn, 1) := dl_172 (by decide +kernel)
set_option maxRecDepth 100000 in
set_option maxHeartbeats 4000000 in
theorem x_of (l : Launch) (E : EV) (ro : va_W) (hx : Nat) (v0 : Int32) (v1 : Int32) (h : Nat) (qp : Nat) (ac : Nat) (np : Nat) (qs : Nat) (qj : Nat) (ly : Nat) (qh : Nat) (kk : Nat) (kc : Nat) (rd : Nat) (pg : Nat) (pe : Nat) (kn : Int32) (ss : Nat) (n : Nat) (r : Nat) (a : Nat) (b : Nat) (f : Nat → Int32) (gg : Nat → Int32) (hac : ac ≤ 8) (hnp : np < 8) (hkc : kc ≤ 4) (hpe : pe ≤ 4) (hn : n ≤ 24) (hr : r < n ∨ r = 0) (hwfm : WFm (am n r f gg)) : CT l yX11_of (Cond.code yX11_of cX11_of 3 (some .int) :: TB) ({ frames := 2, cells := 0, slots := 0, locals := 45 }) E ro [.ref hx, .int v0, .int v1] [(hx, .inr (11, [.ref h, .ref qp, .int (nI ac), .int (nI np), .ref qs, .ref qj, .ref ly, .ref qh, .ref kk, .int (nI kc), .ref rd, .ref pg, .int (nI pe), .int kn, .ref ss])), (h, .inr (4, [.int (nI n), .int (nI r), .ref a, .ref b])), (a, .inl (E.2.1 1, 24, .inl f)), (b, .inl (E.2.1 1, 96, .inl gg))] (Qi E (fun (rz : Int32) uz => (uz = [(hx, .inr (11, [.ref h, .ref qp, .int (nI ac), .int (nI np), .ref qs, .ref qj, .ref ly, .ref qh, .ref kk, .int (nI kc), .ref rd, .ref pg, .int (nI pe), .int kn, .ref ss])), (h, .inr (4, [.int (nI n), .int (nI r), .ref a, .ref b])), (a, .inl (E.2.1 1, 24, .inl f)), (b, .inl (E.2.1 1, 96, .inl gg))] ∧ (rz = ansOf (am n r f gg) v0 v1)))) 0 0 := by
  refine ct_of rfl rfl ?_
  intro X C hT hin hro
  show WW X 3 E 0 [(0, .ref hx), (1, .int v0), (2, .int v1)] [] [(hx, .inr (11, [.ref h, .ref qp, .int (nI ac), .int (nI np), .ref qs, .ref qj, .ref ly, .ref qh, .ref kk, .int (nI kc), .ref rd, .ref pg, .int (nI pe), .int kn, .ref ss])), (h, .inr (4, [.int (nI n), .int (nI r), .ref a, .ref b])), (a, .inl (E.2.1 1, 24, .inl f)), (b, .inl (E.2.1 1, 96, .inl gg))] 0 0
  refine ww_aload_n C dX11_of_0 0 rfl rfl ?_
  refine ww_get C fg_X11_10 0 rfl rfl dX11_of_1 ?_
  refine ww_iload_n C dX11_of_4 1 rfl rfl ?_
  refine ww_ci (wr := [(hx, .inr (11, [.ref h, .ref qp, .int (nI ac), .int (nI np), .ref qs, .ref qj, .ref ly, .ref qh, .ref kk, .int (nI kc), .ref rd, .ref pg, .int (nI pe), .int kn, .ref ss])), (a, .inl (E.2.1 1, 24, .inl f)), (b, .inl (E.2.1 1, 96, .inl gg))]) (k' := 0) (n' := 0) C (run_V (As := [.int v0]) (rest := []) C (m_contains X.2.1 E ro h v0 n r a b (by omega)) mi_X4_contains wl_X11_135 rfl 0 4 rfl rfl rfl rfl rfl dX11_of_5) (roK hro) [1] [0, 2, 3] rfl rfl rfl rfl (fun r_1 uz hw => ?_)
  rcases hw with hw | hw
  · refine an3 hw ?_
    clear hw
    intro he_4 he_5 h_2 hw
    have h_3 := hw
    clear hw
    have he_4 := he_4.symm
    subst he_4
    subst he_5
    refine ww_eq (ws' := [(hx, .inr (11, [.ref h, .ref qp, .int (nI ac), .int (nI np), .ref qs, .ref qj, .ref ly, .ref qh, .ref kk, .int (nI kc), .ref rd, .ref pg, .int (nI pe), .int kn, .ref ss])), (a, .inl (E.2.1 1, 24, .inl f)), (b, .inl (E.2.1 1, 96, .inl gg)), (h, .inr (4, [.int (nI n), .int (nI r), .ref a, .ref b]))]) ?_ rfl rfl rfl
    refine ww_if_eq_f (tgt := 21) C dX11_of_8 (by decide) (by decide) ?_
    refine ww_iload_n C dX11_of_11 2 rfl rfl ?_
    refine ww_iconst (v := 0) C dX11_of_12 rfl ?_
    refine ww_bipush (v := 6) C dX11_of_13 rfl ?_
    refine ww_ci (wr := [(hx, .inr (11, [.ref h, .ref qp, .int (nI ac), .int (nI np), .ref qs, .ref qj, .ref ly, .ref qh, .ref kk, .int (nI kc), .ref rd, .ref pg, .int (nI pe), .int kn, .ref ss])), (a, .inl (E.2.1 1, 24, .inl f)), (b, .inl (E.2.1 1, 96, .inl gg)), (h, .inr (4, [.int (nI n), .int (nI r), .ref a, .ref b]))]) (k' := 0) (n' := 0) C (run_S (As := [.int v1, .int 0, .int 6]) (rest := []) C (c_within X.2.1 E ro v1 0 6 v1.toInt 0 6 rfl rfl rfl) ms_X11_within wl_X11_76 rfl rfl rfl rfl dX11_of_15) (roK hro) [] [0, 1, 2, 3] rfl rfl rfl rfl (fun r_9 uz hw => ?_)
    rcases hw with hw | hw
    · refine an3 hw ?_
      clear hw
      intro he_12 he_13 h_10 hw
      have h_11 := hw
      clear hw
      have he_12 := he_12.symm
      subst he_12
      subst he_13
      refine ww_eq (ws' := [(hx, .inr (11, [.ref h, .ref qp, .int (nI ac), .int (nI np), .ref qs, .ref qj, .ref ly, .ref qh, .ref kk, .int (nI kc), .ref rd, .ref pg, .int (nI pe), .int kn, .ref ss])), (a, .inl (E.2.1 1, 24, .inl f)), (b, .inl (E.2.1 1, 96, .inl gg)), (h, .inr (4, [.int (nI n), .int (nI r), .ref a, .ref b]))]) ?_ rfl rfl rfl
      refine ww_if_ne_t (tgt := 23) C dX11_of_18 (by decide) (by decide) ?_
      obtain ⟨j_17, hj_17, rfl⟩ := i_nat (x := v0) (N := 24) (by omega) (by omega)
      have hzj_17 := nI_toInt (n := j_17) (by omega)
      obtain ⟨j_18, hj_18, rfl⟩ := i_nat (x := v1) (N := 6) (by omega) (by omega)
      have hzj_18 := nI_toInt (n := j_18) (by omega)
      refine ww_iload_n C dX11_of_23 2 rfl rfl ?_
      refine ww_if_ne (tgt := 37) C dX11_of_24 (by decide) (fun c_19 => ?_) (fun c_19 => ?_)
      · have zc_19 : ((j_18 : Nat) : Int) ≠ 0 := i_ne (nI_toInt (n := j_18) (by omega)) rfl c_19
        refine ww_iload_n C dX11_of_37 2 rfl rfl ?_
        refine ww_iconst (v := 5) C dX11_of_38 rfl ?_
        refine ww_icmp_ne (tgt := 59) C dX11_of_39 (by decide) (fun c_20 => ?_) (fun c_20 => ?_)
        · have zc_20 : ((j_18 : Nat) : Int) ≠ 5 := i_ne (nI_toInt (n := j_18) (by omega)) rfl c_20
          refine ww_iload_n C dX11_of_59 2 rfl rfl ?_
          refine ww_bipush (v := 6) C dX11_of_60 rfl ?_
          refine ww_icmp_ne (tgt := 76) C dX11_of_62 (by decide) (fun c_21 => ?_) (fun c_21 => ?_)
          · have zc_21 : ((j_18 : Nat) : Int) ≠ 6 := i_ne (nI_toInt (n := j_18) (by omega)) rfl c_21
            refine ww_aload_n C dX11_of_76 0 rfl rfl ?_
            refine ww_get C fg_X11_10 0 rfl rfl dX11_of_77 ?_
            refine ww_iload_n C dX11_of_80 2 rfl rfl ?_
            refine ww_iconst (v := 1) C dX11_of_81 rfl ?_
            refine ww_isub (v := (nI (j_18 - 1))) C dX11_of_82 (pk_sub (a := j_18) (b := 1) (by omega)) ?_
            refine ww_iload_n C dX11_of_83 1 rfl rfl ?_
            refine ww_ci (wr := [(hx, .inr (11, [.ref h, .ref qp, .int (nI ac), .int (nI np), .ref qs, .ref qj, .ref ly, .ref qh, .ref kk, .int (nI kc), .ref rd, .ref pg, .int (nI pe), .int kn, .ref ss]))]) (k' := 0) (n' := 0) C (run_V (As := [.int (nI (j_18 - 1)), .int (nI j_17)]) (rest := []) C (m_held X.2.1 E ro h (j_18 - 1) j_17 n r a b f gg (by omega) (by omega)) mi_X4_held wl_X11_138 rfl 0 4 rfl rfl rfl rfl rfl dX11_of_84) (roK hro) [3, 1, 2] [0] rfl rfl rfl rfl (fun r_22 uz hw => ?_)
            refine an1 hw ?_
            clear hw
            intro he_23 hw
            have he_24 := hw
            clear hw
            have he_23 := he_23.symm
            subst he_23
            subst he_24
            refine ww_eq (ws' := [(hx, .inr (11, [.ref h, .ref qp, .int (nI ac), .int (nI np), .ref qs, .ref qj, .ref ly, .ref qh, .ref kk, .int (nI kc), .ref rd, .ref pg, .int (nI pe), .int kn, .ref ss])), (h, .inr (4, [.int (nI n), .int (nI r), .ref a, .ref b])), (a, .inl (E.2.1 1, 24, .inl f)), (b, .inl (E.2.1 1, 96, .inl gg))]) ?_ rfl rfl rfl
            exact ww_iret (u := [(hx, .inr (11, [.ref h, .ref qp, .int (nI ac), .int (nI np), .ref qs, .ref qj, .ref ly, .ref qh, .ref kk, .int (nI kc), .ref rd, .ref pg, .int (nI pe), .int kn, .ref ss])), (h, .inr (4, [.int (nI n), .int (nI r), .ref a, .ref b])), (a, .inl (E.2.1 1, 24, .inl f)), (b, .inl (E.2.1 1, 96, .inl gg))]) C hT [0, 1, 2, 3] rfl rfl rfl rfl dX11_of_87 (⟨rfl, (by show _ = if (nI j_17).toInt < 0 ∨ (n : Int) ≤ (nI j_17).toInt ∨ (nI j_18).toInt < 0 ∨ 6 < (nI j_18).toInt then -1 else if (nI j_18).toInt = 0 then (am n r f gg).2.2.1 (tN (nI j_17)) else if (nI j_18).toInt = 5 then if tN (nI j_17) = r then 1 else 0 else if (nI j_18).toInt = 6 then ofB (fun k => decide (k < 4) && !anyN ((am n r f gg).2.2.2 k (tN (nI j_17))) 32) else ofB ((am n r f gg).2.2.2 (tN (nI j_18) - 1) (tN (nI j_17))); rw [if_neg (show ¬ ((nI j_17).toInt < 0 ∨ (n : Int) ≤ (nI j_17).toInt ∨ (nI j_18).toInt < 0 ∨ 6 < (nI j_18).toInt) by omega), if_neg (show ¬ ((nI j_18).toInt = 0) by omega), if_neg (show ¬ ((nI j_18).toInt = 5) by omega), if_neg (show ¬ ((nI j_18).toInt = 6) by omega)]; exact (by rw [tN_n (n := j_17) (by omega), tN_n (n := j_18) (by omega)]; exact BS.of (fun i hi => (am_S (by omega) (by omega)).symm)))⟩)
          · have zc_21 : ((j_18 : Nat) : Int) = 6 := i_eq (nI_toInt (n := j_18) (by omega)) rfl c_21
            refine ww_aload_n C dX11_of_65 0 rfl rfl ?_
            refine ww_get C fg_X11_10 0 rfl rfl dX11_of_66 ?_
            refine ww_iload_n C dX11_of_69 1 rfl rfl ?_
            refine ww_ci (wr := [(hx, .inr (11, [.ref h, .ref qp, .int (nI ac), .int (nI np), .ref qs, .ref qj, .ref ly, .ref qh, .ref kk, .int (nI kc), .ref rd, .ref pg, .int (nI pe), .int kn, .ref ss]))]) (k' := 0) (n' := 0) C (run_V (As := [.int (nI j_17)]) (rest := []) C (m_lost X.2.1 E ro h j_17 n r a b f gg (by omega)) mi_X4_lost wl_X11_156 rfl 0 4 rfl rfl rfl rfl rfl dX11_of_70) (roK hro) [3, 1, 2] [0] rfl rfl rfl rfl (fun r_25 uz hw => ?_)
            refine an1 hw ?_
            clear hw
            intro he_27 hw
            have h_26 := hw
            clear hw
            subst he_27
            refine ww_eq (ws' := [(hx, .inr (11, [.ref h, .ref qp, .int (nI ac), .int (nI np), .ref qs, .ref qj, .ref ly, .ref qh, .ref kk, .int (nI kc), .ref rd, .ref pg, .int (nI pe), .int kn, .ref ss])), (h, .inr (4, [.int (nI n), .int (nI r), .ref a, .ref b])), (a, .inl (E.2.1 1, 24, .inl f)), (b, .inl (E.2.1 1, 96, .inl gg))]) ?_ rfl rfl rfl
            refine ww_goto (tgt := 87) C dX11_of_73 (by decide) ?_
            exact ww_iret (u := [(hx, .inr (11, [.ref h, .ref qp, .int (nI ac), .int (nI np), .ref qs, .ref qj, .ref ly, .ref qh, .ref kk, .int (nI kc), .ref rd, .ref pg, .int (nI pe), .int kn, .ref ss])), (h, .inr (4, [.int (nI n), .int (nI r), .ref a, .ref b])), (a, .inl (E.2.1 1, 24, .inl f)), (b, .inl (E.2.1 1, 96, .inl gg))]) C hT [0, 1, 2, 3] rfl rfl rfl rfl dX11_of_87 (⟨rfl, (by show _ = if (nI j_17).toInt < 0 ∨ (n : Int) ≤ (nI j_17).toInt ∨ (nI j_18).toInt < 0 ∨ 6 < (nI j_18).toInt then -1 else if (nI j_18).toInt = 0 then (am n r f gg).2.2.1 (tN (nI j_17)) else if (nI j_18).toInt = 5 then if tN (nI j_17) = r then 1 else 0 else if (nI j_18).toInt = 6 then ofB (fun k => decide (k < 4) && !anyN ((am n r f gg).2.2.2 k (tN (nI j_17))) 32) else ofB ((am n r f gg).2.2.2 (tN (nI j_18) - 1) (tN (nI j_17))); rw [if_neg (show ¬ ((nI j_17).toInt < 0 ∨ (n : Int) ≤ (nI j_17).toInt ∨ (nI j_18).toInt < 0 ∨ 6 < (nI j_18).toInt) by omega), if_neg (show ¬ ((nI j_18).toInt = 0) by omega), if_neg (show ¬ ((nI j_18).toInt = 5) by omega), if_pos (show (nI j_18).toInt = 6 by omega)]; exact (by rw [tN_n (n := j_17) (by omega)]; exact BS.of (h_26.cg (fun k hk => of_6 (by omega)))))⟩)
        · have zc_20 : ((j_18 : Nat) : Int) = 5 := i_eq (nI_toInt (n := j_18) (by omega)) rfl c_20
          refine ww_iload_n C dX11_of_42 1 rfl rfl ?_
          refine ww_aload_n C dX11_of_43 0 rfl rfl ?_
          refine ww_get C fg_X11_10 0 rfl rfl dX11_of_44 ?_
          refine ww_get C fg_X11_149 3 rfl rfl dX11_of_47 ?_
          refine ww_icmp_ne (tgt := 57) C dX11_of_50 (by decide) (fun c_28 => ?_) (fun c_28 => ?_)
          · have zc_28 : ((j_17 : Nat) : Int) ≠ ((r : Nat) : Int) := i_ne (nI_toInt (n := j_17) (by omega)) (nI_toInt (n := r) (by omega)) c_28
            refine ww_iconst (v := 0) C dX11_of_57 rfl ?_
            exact ww_iret (u := [(hx, .inr (11, [.ref h, .ref qp, .int (nI ac), .int (nI np), .ref qs, .ref qj, .ref ly, .ref qh, .ref kk, .int (nI kc), .ref rd, .ref pg, .int (nI pe), .int kn, .ref ss])), (h, .inr (4, [.int (nI n), .int (nI r), .ref a, .ref b])), (a, .inl (E.2.1 1, 24, .inl f)), (b, .inl (E.2.1 1, 96, .inl gg))]) C hT [0, 3, 1, 2] rfl rfl rfl rfl dX11_of_58 (⟨rfl, (by show _ = if (nI j_17).toInt < 0 ∨ (n : Int) ≤ (nI j_17).toInt ∨ (nI j_18).toInt < 0 ∨ 6 < (nI j_18).toInt then -1 else if (nI j_18).toInt = 0 then (am n r f gg).2.2.1 (tN (nI j_17)) else if (nI j_18).toInt = 5 then if tN (nI j_17) = r then 1 else 0 else if (nI j_18).toInt = 6 then ofB (fun k => decide (k < 4) && !anyN ((am n r f gg).2.2.2 k (tN (nI j_17))) 32) else ofB ((am n r f gg).2.2.2 (tN (nI j_18) - 1) (tN (nI j_17))); rw [if_neg (show ¬ ((nI j_17).toInt < 0 ∨ (n : Int) ≤ (nI j_17).toInt ∨ (nI j_18).toInt < 0 ∨ 6 < (nI j_18).toInt) by omega), if_neg (show ¬ ((nI j_18).toInt = 0) by omega), if_pos (show (nI j_18).toInt = 5 by omega)]; exact (by rw [tN_n (n := j_17) (by omega), if_neg (by omega)]))⟩)
          · have zc_28 : ((j_17 : Nat) : Int) = ((r : Nat) : Int) := i_eq (nI_toInt (n := j_17) (by omega)) (nI_toInt (n := r) (by omega)) c_28
            refine ww_iconst (v := 1) C dX11_of_53 rfl ?_
            refine ww_goto (tgt := 58) C dX11_of_54 (by decide) ?_
            exact ww_iret (u := [(hx, .inr (11, [.ref h, .ref qp, .int (nI ac), .int (nI np), .ref qs, .ref qj, .ref ly, .ref qh, .ref kk, .int (nI kc), .ref rd, .ref pg, .int (nI pe), .int kn, .ref ss])), (h, .inr (4, [.int (nI n), .int (nI r), .ref a, .ref b])), (a, .inl (E.2.1 1, 24, .inl f)), (b, .inl (E.2.1 1, 96, .inl gg))]) C hT [0, 3, 1, 2] rfl rfl rfl rfl dX11_of_58 (⟨rfl, (by show _ = if (nI j_17).toInt < 0 ∨ (n : Int) ≤ (nI j_17).toInt ∨ (nI j_18).toInt < 0 ∨ 6 < (nI j_18).toInt then -1 else if (nI j_18).toInt = 0 then (am n r f gg).2.2.1 (tN (nI j_17)) else if (nI j_18).toInt = 5 then if tN (nI j_17) = r then 1 else 0 else if (nI j_18).toInt = 6 then ofB (fun k => decide (k < 4) && !anyN ((am n r f gg).2.2.2 k (tN (nI j_17))) 32) else ofB ((am n r f gg).2.2.2 (tN (nI j_18) - 1) (tN (nI j_17))); rw [if_neg (show ¬ ((nI j_17).toInt < 0 ∨ (n : Int) ≤ (nI j_17).toInt ∨ (nI j_18).toInt < 0 ∨ 6 < (nI j_18).toInt) by omega), if_neg (show ¬ ((nI j_18).toInt = 0) by omega), if_pos (show (nI j_18).toInt = 5 by omega)]; exact (by rw [tN_n (n := j_17) (by omega), if_pos (by omega)]))⟩)
      · have zc_19 : ((j_18 : Nat) : Int) = 0 := i_eq (nI_toInt (n := j_18) (by omega)) rfl c_19
        refine ww_aload_n C dX11_of_27 0 rfl rfl ?_
        refine ww_get C fg_X11_10 0 rfl rfl dX11_of_28 ?_
        refine ww_get C fg_X11_152 3 rfl rfl dX11_of_31 ?_
        refine ww_iload_n C dX11_of_34 1 rfl rfl ?_
        obtain ⟨x_29, ex_29⟩ : ∃ z : Int32, f j_17 = z := ⟨_, rfl⟩
        refine ww_iald (v := x_29) C 1 rfl (vp_in_nI (by omega) (by omega)) (ldn (by omega) ex_29) dX11_of_35 ?_
        exact ww_iret (u := [(hx, .inr (11, [.ref h, .ref qp, .int (nI ac), .int (nI np), .ref qs, .ref qj, .ref ly, .ref qh, .ref kk, .int (nI kc), .ref rd, .ref pg, .int (nI pe), .int kn, .ref ss])), (h, .inr (4, [.int (nI n), .int (nI r), .ref a, .ref b])), (a, .inl (E.2.1 1, 24, .inl f)), (b, .inl (E.2.1 1, 96, .inl gg))]) C hT [0, 3, 1, 2] rfl rfl rfl rfl dX11_of_36 (⟨rfl, (by show _ = if (nI j_17).toInt < 0 ∨ (n : Int) ≤ (nI j_17).toInt ∨ (nI j_18).toInt < 0 ∨ 6 < (nI j_18).toInt then -1 else if (nI j_18).toInt = 0 then (am n r f gg).2.2.1 (tN (nI j_17)) else if (nI j_18).toInt = 5 then if tN (nI j_17) = r then 1 else 0 else if (nI j_18).toInt = 6 then ofB (fun k => decide (k < 4) && !anyN ((am n r f gg).2.2.2 k (tN (nI j_17))) 32) else ofB ((am n r f gg).2.2.2 (tN (nI j_18) - 1) (tN (nI j_17))); rw [if_neg (show ¬ ((nI j_17).toInt < 0 ∨ (n : Int) ≤ (nI j_17).toInt ∨ (nI j_18).toInt < 0 ∨ 6 < (nI j_18).toInt) by omega), if_pos (show (nI j_18).toInt = 0 by omega)]; exact (by rw [tN_n (n := j_17) (by omega), am_F (by omega)]; exact (ex_29).symm))⟩)
    · refine an2 hw ?_
      clear hw
      intro he_15 he_16 hw
      have h_14 := hw
      clear hw
      have he_15 := he_15.symm
      subst he_15
      subst he_16
      refine ww_eq (ws' := [(hx, .inr (11, [.ref h, .ref qp, .int (nI ac), .int (nI np), .ref qs, .ref qj, .ref ly, .ref qh, .ref kk, .int (nI kc), .ref rd, .ref pg, .int (nI pe), .int kn, .ref ss])), (a, .inl (E.2.1 1, 24, .inl f)), (b, .inl (E.2.1 1, 96, .inl gg)), (h, .inr (4, [.int (nI n), .int (nI r), .ref a, .ref b]))]) ?_ rfl rfl rfl
      refine ww_if_ne_f (tgt := 23) C dX11_of_18 (by decide) (rfl) ?_
      refine ww_iconst (v := (-1)) C dX11_of_21 rfl ?_
      exact ww_iret (u := [(hx, .inr (11, [.ref h, .ref qp, .int (nI ac), .int (nI np), .ref qs, .ref qj, .ref ly, .ref qh, .ref kk, .int (nI kc), .ref rd, .ref pg, .int (nI pe), .int kn, .ref ss])), (h, .inr (4, [.int (nI n), .int (nI r), .ref a, .ref b])), (a, .inl (E.2.1 1, 24, .inl f)), (b, .inl (E.2.1 1, 96, .inl gg))]) C hT [0, 3, 1, 2] rfl rfl rfl rfl dX11_of_22 (⟨rfl, (by show _ = if v0.toInt < 0 ∨ (n : Int) ≤ v0.toInt ∨ v1.toInt < 0 ∨ 6 < v1.toInt then -1 else if v1.toInt = 0 then (am n r f gg).2.2.1 (tN v0) else if v1.toInt = 5 then if tN v0 = r then 1 else 0 else if v1.toInt = 6 then ofB (fun k => decide (k < 4) && !anyN ((am n r f gg).2.2.2 k (tN v0)) 32) else ofB ((am n r f gg).2.2.2 (tN v1 - 1) (tN v0)); rw [if_pos (show v0.toInt < 0 ∨ (n : Int) ≤ v0.toInt ∨ v1.toInt < 0 ∨ 6 < v1.toInt by omega)])⟩)
  · refine an2 hw ?_
    clear hw
    intro he_7 he_8 hw
    have h_6 := hw
    clear hw
    have he_7 := he_7.symm
    subst he_7
    subst he_8
    refine ww_eq (ws' := [(hx, .inr (11, [.ref h, .ref qp, .int (nI ac), .int (nI np), .ref qs, .ref qj, .ref ly, .ref qh, .ref kk, .int (nI kc), .ref rd, .ref pg, .int (nI pe), .int kn, .ref ss])), (a, .inl (E.2.1 1, 24, .inl f)), (b, .inl (E.2.1 1, 96, .inl gg)), (h, .inr (4, [.int (nI n), .int (nI r), .ref a, .ref b]))]) ?_ rfl rfl rfl
    refine ww_if_eq_t (tgt := 21) C dX11_of_8 (by decide) (rfl) ?_
    refine ww_iconst (v := (-1)) C dX11_of_21 rfl ?_
    exact ww_iret (u := [(hx, .inr (11, [.ref h, .ref qp, .int (nI ac), .int (nI np), .ref qs, .ref qj, .ref ly, .ref qh, .ref kk, .int (nI kc), .ref rd, .ref pg, .int (nI pe), .int kn, .ref ss])), (h, .inr (4, [.int (nI n), .int (nI r), .ref a, .ref b])), (a, .inl (E.2.1 1, 24, .inl f)), (b, .inl (E.2.1 1, 96, .inl gg))]) C hT [0, 3, 1, 2] rfl rfl rfl rfl dX11_of_22 (⟨rfl, (by show _ = if v0.toInt < 0 ∨ (n : Int) ≤ v0.toInt ∨ v1.toInt < 0 ∨ 6 < v1.toInt then -1 else if v1.toInt = 0 then (am n r f gg).2.2.1 (tN v0) else if v1.toInt = 5 then if tN v0 = r then 1 else 0 else if v1.toInt = 6 then ofB (fun k => decide (k < 4) && !anyN ((am n r f gg).2.2.2 k (tN v0)) 32) else ofB ((am n r f gg).2.2.2 (tN v1 - 1) (tN v0)); rw [if_pos (show v0.toInt < 0 ∨ (n : Int) ≤ v0.toInt ∨ v1.toInt < 0 ∨ 6 < v1.toInt by omega)])⟩)
theorem dX11_reach_0 : decode cX11_reach 0 = .ok (.iload_n 1, 1) := dl_27 (by decide +kernel)
theorem dX11_reach_1 : decode cX11_reach 1 = .ok (.iconst 0, 1) := dl_3 (by decide +kernel)
theorem dX11_reach_2 : decode cX11_reach 2 = .ok (.bipush 15, 2) := dl_16 (by decide +kernel)
theorem dX11_reach_4 : decode cX11_reach 4 = .ok (.invokestatic 76, 3) := dl_184 (by decide +kernel)
theorem dX11_reach_7 : decode cX11_reach 7 = .ok (.ifCond .eq 14, 3) := dl_153 (by decide +kernel)
theorem dX11_reach_10 : decode cX11_reach 10 = .ok (.aload_n 0, 1) := dl_42 (by decide +kernel)
theorem dX11_reach_11 : decode cX11_reach 11 = .ok (.getfield 10, 3) := dl_180 (by decide +kernel)
theorem dX11_reach_14 : decode cX11_reach 14 = .ok (.iload_n 2, 1) := dl_28 (by decide +kernel)
theorem dX11_reach_15 : decode cX11_reach 15 = .ok (.invokevirtual 135, 3) := dl_182 (by decide +kernel)
theorem dX11_reach_18 : decode cX11_reach 18 = .ok (.ifCond .ne 5, 3) := dl_154 (by decide +kernel)
theorem dX11_reach_23 : decode cX11_reach 23 = .ok (.aload_n 0, 1) := dl_42 (by decide +kernel)
theorem dX11_reach_24 : decode cX11_reach 24 = .ok (.getfield 10, 3) := dl_180 (by decide +kernel)
theorem dX11_reach_27 : decode cX11_reach 27 = .ok (.iload_n 1, 1) := dl_27 (by decide +kernel)
theorem dX11_reach_28 : decode cX11_reach 28 = .ok (.iload_n 2, 1) := dl_28 (by decide +kernel)
theorem dX11_reach_29 : decode cX11_reach 29 = .ok (.invokevirtual 159, 3) := dl_182 (by decide +kernel)
theorem wl_X11_159 : Cond.methodLink RX11 159 yX4_reached ∈ TB := tbm (tq2 (List.mem_of_getElem? (i := 219) (by decide +kernel))) (by decide +kernel)
theorem wc_X4_reached : Cond.code yX4_reached cX4_reached 7 (some .int) ∈ TB := tbm (tq2 (List.mem_of_getElem? (i := 222) (rfl))) (by decide +kernel)
theorem wi_X4_reached : Cond.instanceMethod yX4_reached ∈ TB := tbm (tq2 (List.mem_of_getElem? (i := 220) (by decide +kernel))) (by decide +kernel)
theorem ws_X4_reached : Cond.selects RX4 yX4_reached yX4_reached ∈ TB := tbm (tq2 (List.mem_of_getElem? (i := 221) (by decide +kernel))) (by decide +kernel)
theorem mi_X4_reached : MI yX4_reached cX4_reached 7 (some .int) 2 := ⟨wc_X4_reached, wn_X4, ⟨by decide +kernel, by decide +kernel, by decide +kernel⟩, wi_X4_reached, ws_X4_reached⟩
theorem dX11_reach_32 : decode cX11_reach 32 = .ok (.ireturn, 1) := dl_172 (by decide +kernel)
theorem dX11_reach_21 : decode cX11_reach 21 = .ok (.iconst (-1), 1) := dl_2 (by decide +kernel)
theorem dX11_reach_22 : decode cX11_reach 22 = .ok (.ireturn, 1) := dl_172 (by decide +kernel)
set_option maxRecDepth 100000 in
set_option maxHeartbeats 4000000 in
theorem x_reach (l : Launch) (E : EV) (ro : va_W) (hx : Nat) (v0 : Int32) (v1 : Int32) (h : Nat) (qp : Nat) (ac : Nat) (np : Nat) (qs : Nat) (qj : Nat) (ly : Nat) (qh : Nat) (kk : Nat) (kc : Nat) (rd : Nat) (pg : Nat) (pe : Nat) (kn : Int32) (ss : Nat) (n : Nat) (r : Nat) (a : Nat) (b : Nat) (f : Nat → Int32) (gg : Nat → Int32) (hac : ac ≤ 8) (hnp : np < 8) (hkc : kc ≤ 4) (hpe : pe ≤ 4) (hn : n ≤ 24) (hr : r < n ∨ r = 0) (hwfm : WFm (am n r f gg)) : CT l yX11_reach (Cond.code yX11_reach cX11_reach 3 (some .int) :: TB) ({ frames := 2, cells := 0, slots := 0, locals := 50 }) E ro [.ref hx, .int v0, .int v1] [(hx, .inr (11, [.ref h, .ref qp, .int (nI ac), .int (nI np), .ref qs, .ref qj, .ref ly, .ref qh, .ref kk, .int (nI kc), .ref rd, .ref pg, .int (nI pe), .int kn, .ref ss])), (h, .inr (4, [.int (nI n), .int (nI r), .ref a, .ref b])), (a, .inl (E.2.1 1, 24, .inl f)), (b, .inl (E.2.1 1, 96, .inl gg))] (Qi E (fun (rz : Int32) uz => (uz = [(hx, .inr (11, [.ref h, .ref qp, .int (nI ac), .int (nI np), .ref qs, .ref qj, .ref ly, .ref qh, .ref kk, .int (nI kc), .ref rd, .ref pg, .int (nI pe), .int kn, .ref ss])), (h, .inr (4, [.int (nI n), .int (nI r), .ref a, .ref b])), (a, .inl (E.2.1 1, 24, .inl f)), (b, .inl (E.2.1 1, 96, .inl gg))] ∧ (rz = ansReach (am n r f gg) v0 v1)))) 0 0 := by
  refine ct_of rfl rfl ?_
  intro X C hT hin hro
  show WW X 3 E 0 [(0, .ref hx), (1, .int v0), (2, .int v1)] [] [(hx, .inr (11, [.ref h, .ref qp, .int (nI ac), .int (nI np), .ref qs, .ref qj, .ref ly, .ref qh, .ref kk, .int (nI kc), .ref rd, .ref pg, .int (nI pe), .int kn, .ref ss])), (h, .inr (4, [.int (nI n), .int (nI r), .ref a, .ref b])), (a, .inl (E.2.1 1, 24, .inl f)), (b, .inl (E.2.1 1, 96, .inl gg))] 0 0
  refine ww_iload_n C dX11_reach_0 1 rfl rfl ?_
  refine ww_iconst (v := 0) C dX11_reach_1 rfl ?_
  refine ww_bipush (v := 15) C dX11_reach_2 rfl ?_
  refine ww_ci (wr := [(hx, .inr (11, [.ref h, .ref qp, .int (nI ac), .int (nI np), .ref qs, .ref qj, .ref ly, .ref qh, .ref kk, .int (nI kc), .ref rd, .ref pg, .int (nI pe), .int kn, .ref ss])), (h, .inr (4, [.int (nI n), .int (nI r), .ref a, .ref b])), (a, .inl (E.2.1 1, 24, .inl f)), (b, .inl (E.2.1 1, 96, .inl gg))]) (k' := 0) (n' := 0) C (run_S (As := [.int v0, .int 0, .int 15]) (rest := []) C (c_within X.2.1 E ro v0 0 15 v0.toInt 0 15 rfl rfl rfl) ms_X11_within wl_X11_76 rfl rfl rfl rfl dX11_reach_4) (roK hro) [] [0, 1, 2, 3] rfl rfl rfl rfl (fun r_1 uz hw => ?_)
  rcases hw with hw | hw
  · refine an3 hw ?_
    clear hw
    intro he_4 he_5 h_2 hw
    have h_3 := hw
    clear hw
    have he_4 := he_4.symm
    subst he_4
    subst he_5
    refine ww_eq (ws' := [(hx, .inr (11, [.ref h, .ref qp, .int (nI ac), .int (nI np), .ref qs, .ref qj, .ref ly, .ref qh, .ref kk, .int (nI kc), .ref rd, .ref pg, .int (nI pe), .int kn, .ref ss])), (h, .inr (4, [.int (nI n), .int (nI r), .ref a, .ref b])), (a, .inl (E.2.1 1, 24, .inl f)), (b, .inl (E.2.1 1, 96, .inl gg))]) ?_ rfl rfl rfl
    refine ww_if_eq_f (tgt := 21) C dX11_reach_7 (by decide) (by decide) ?_
    refine ww_aload_n C dX11_reach_10 0 rfl rfl ?_
    refine ww_get C fg_X11_10 0 rfl rfl dX11_reach_11 ?_
    refine ww_iload_n C dX11_reach_14 2 rfl rfl ?_
    refine ww_ci (wr := [(hx, .inr (11, [.ref h, .ref qp, .int (nI ac), .int (nI np), .ref qs, .ref qj, .ref ly, .ref qh, .ref kk, .int (nI kc), .ref rd, .ref pg, .int (nI pe), .int kn, .ref ss])), (a, .inl (E.2.1 1, 24, .inl f)), (b, .inl (E.2.1 1, 96, .inl gg))]) (k' := 0) (n' := 0) C (run_V (As := [.int v1]) (rest := []) C (m_contains X.2.1 E ro h v1 n r a b (by omega)) mi_X4_contains wl_X11_135 rfl 0 4 rfl rfl rfl rfl rfl dX11_reach_15) (roK hro) [1] [0, 2, 3] rfl rfl rfl rfl (fun r_9 uz hw => ?_)
    rcases hw with hw | hw
    · refine an3 hw ?_
      clear hw
      intro he_12 he_13 h_10 hw
      have h_11 := hw
      clear hw
      have he_12 := he_12.symm
      subst he_12
      subst he_13
      refine ww_eq (ws' := [(hx, .inr (11, [.ref h, .ref qp, .int (nI ac), .int (nI np), .ref qs, .ref qj, .ref ly, .ref qh, .ref kk, .int (nI kc), .ref rd, .ref pg, .int (nI pe), .int kn, .ref ss])), (a, .inl (E.2.1 1, 24, .inl f)), (b, .inl (E.2.1 1, 96, .inl gg)), (h, .inr (4, [.int (nI n), .int (nI r), .ref a, .ref b]))]) ?_ rfl rfl rfl
      refine ww_if_ne_t (tgt := 23) C dX11_reach_18 (by decide) (by decide) ?_
      obtain ⟨j_17, hj_17, rfl⟩ := i_nat (x := v1) (N := 24) (by omega) (by omega)
      have hzj_17 := nI_toInt (n := j_17) (by omega)
      refine ww_aload_n C dX11_reach_23 0 rfl rfl ?_
      refine ww_get C fg_X11_10 0 rfl rfl dX11_reach_24 ?_
      refine ww_iload_n C dX11_reach_27 1 rfl rfl ?_
      refine ww_iload_n C dX11_reach_28 2 rfl rfl ?_
      refine ww_ci (wr := [(hx, .inr (11, [.ref h, .ref qp, .int (nI ac), .int (nI np), .ref qs, .ref qj, .ref ly, .ref qh, .ref kk, .int (nI kc), .ref rd, .ref pg, .int (nI pe), .int kn, .ref ss]))]) (k' := 0) (n' := 0) C (run_V (As := [.int v0, .int (nI j_17)]) (rest := []) C (m_reached X.2.1 E ro h v0 j_17 n r a b f gg (by omega) (by omega) (by omega)) mi_X4_reached wl_X11_159 rfl 0 4 rfl rfl rfl rfl rfl dX11_reach_29) (roK hro) [3, 1, 2] [0] rfl rfl rfl rfl (fun r_18 uz hw => ?_)
      refine an1 hw ?_
      clear hw
      intro he_20 hw
      have h_19 := hw
      clear hw
      subst he_20
      refine ww_eq (ws' := [(hx, .inr (11, [.ref h, .ref qp, .int (nI ac), .int (nI np), .ref qs, .ref qj, .ref ly, .ref qh, .ref kk, .int (nI kc), .ref rd, .ref pg, .int (nI pe), .int kn, .ref ss])), (h, .inr (4, [.int (nI n), .int (nI r), .ref a, .ref b])), (a, .inl (E.2.1 1, 24, .inl f)), (b, .inl (E.2.1 1, 96, .inl gg))]) ?_ rfl rfl rfl
      exact ww_iret (u := [(hx, .inr (11, [.ref h, .ref qp, .int (nI ac), .int (nI np), .ref qs, .ref qj, .ref ly, .ref qh, .ref kk, .int (nI kc), .ref rd, .ref pg, .int (nI pe), .int kn, .ref ss])), (h, .inr (4, [.int (nI n), .int (nI r), .ref a, .ref b])), (a, .inl (E.2.1 1, 24, .inl f)), (b, .inl (E.2.1 1, 96, .inl gg))]) C hT [0, 1, 2, 3] rfl rfl rfl rfl dX11_reach_32 (⟨rfl, (by show _ = if v0.toInt < 0 ∨ 15 < v0.toInt ∨ (nI j_17).toInt < 0 ∨ (n : Int) ≤ (nI j_17).toInt then -1 else ofB (fw (am n r f gg) v0 (tN (nI j_17)) n); rw [if_neg (show ¬ (v0.toInt < 0 ∨ 15 < v0.toInt ∨ (nI j_17).toInt < 0 ∨ (n : Int) ≤ (nI j_17).toInt) by omega)]; exact (by rw [tN_n (n := j_17) (by omega)]; exact BS.of h_19))⟩)
    · refine an2 hw ?_
      clear hw
      intro he_15 he_16 hw
      have h_14 := hw
      clear hw
      have he_15 := he_15.symm
      subst he_15
      subst he_16
      refine ww_eq (ws' := [(hx, .inr (11, [.ref h, .ref qp, .int (nI ac), .int (nI np), .ref qs, .ref qj, .ref ly, .ref qh, .ref kk, .int (nI kc), .ref rd, .ref pg, .int (nI pe), .int kn, .ref ss])), (a, .inl (E.2.1 1, 24, .inl f)), (b, .inl (E.2.1 1, 96, .inl gg)), (h, .inr (4, [.int (nI n), .int (nI r), .ref a, .ref b]))]) ?_ rfl rfl rfl
      refine ww_if_ne_f (tgt := 23) C dX11_reach_18 (by decide) (rfl) ?_
      refine ww_iconst (v := (-1)) C dX11_reach_21 rfl ?_
      exact ww_iret (u := [(hx, .inr (11, [.ref h, .ref qp, .int (nI ac), .int (nI np), .ref qs, .ref qj, .ref ly, .ref qh, .ref kk, .int (nI kc), .ref rd, .ref pg, .int (nI pe), .int kn, .ref ss])), (h, .inr (4, [.int (nI n), .int (nI r), .ref a, .ref b])), (a, .inl (E.2.1 1, 24, .inl f)), (b, .inl (E.2.1 1, 96, .inl gg))]) C hT [0, 3, 1, 2] rfl rfl rfl rfl dX11_reach_22 (⟨rfl, (by show _ = if v0.toInt < 0 ∨ 15 < v0.toInt ∨ v1.toInt < 0 ∨ (n : Int) ≤ v1.toInt then -1 else ofB (fw (am n r f gg) v0 (tN v1) n); rw [if_pos (show v0.toInt < 0 ∨ 15 < v0.toInt ∨ v1.toInt < 0 ∨ (n : Int) ≤ v1.toInt by omega)])⟩)
  · refine an2 hw ?_
    clear hw
    intro he_7 he_8 hw
    have h_6 := hw
    clear hw
    have he_7 := he_7.symm
    subst he_7
    subst he_8
    refine ww_eq (ws' := [(hx, .inr (11, [.ref h, .ref qp, .int (nI ac), .int (nI np), .ref qs, .ref qj, .ref ly, .ref qh, .ref kk, .int (nI kc), .ref rd, .ref pg, .int (nI pe), .int kn, .ref ss])), (h, .inr (4, [.int (nI n), .int (nI r), .ref a, .ref b])), (a, .inl (E.2.1 1, 24, .inl f)), (b, .inl (E.2.1 1, 96, .inl gg))]) ?_ rfl rfl rfl
    refine ww_if_eq_t (tgt := 21) C dX11_reach_7 (by decide) (rfl) ?_
    refine ww_iconst (v := (-1)) C dX11_reach_21 rfl ?_
    exact ww_iret (u := [(hx, .inr (11, [.ref h, .ref qp, .int (nI ac), .int (nI np), .ref qs, .ref qj, .ref ly, .ref qh, .ref kk, .int (nI kc), .ref rd, .ref pg, .int (nI pe), .int kn, .ref ss])), (h, .inr (4, [.int (nI n), .int (nI r), .ref a, .ref b])), (a, .inl (E.2.1 1, 24, .inl f)), (b, .inl (E.2.1 1, 96, .inl gg))]) C hT [0, 1, 2, 3] rfl rfl rfl rfl dX11_reach_22 (⟨rfl, (by show _ = if v0.toInt < 0 ∨ 15 < v0.toInt ∨ v1.toInt < 0 ∨ (n : Int) ≤ v1.toInt then -1 else ofB (fw (am n r f gg) v0 (tN v1) n); rw [if_pos (show v0.toInt < 0 ∨ 15 < v0.toInt ∨ v1.toInt < 0 ∨ (n : Int) ≤ v1.toInt by omega)])⟩)
end
section
theorem dX11_feed_0 : decode cX11_feed 0 = .ok (.aload_n 0, 1) := dl_42 (by decide +kernel)
theorem dX11_feed_1 : decode cX11_feed 1 = .ok (.getfield 27, 3) := dl_180 (by decide +kernel)
theorem wf_X11_27 : Cond.fieldLink RX11 27 RX11 "parser" "LWhoKnows$Parser;" ∈ TB := tbm (tq2 (List.mem_of_getElem? (i := 100) (by decide +kernel))) (by decide +kernel)
theorem fg_X11_27 : FG RX11 27 11 4 := ⟨RX11, TX11, 15, uw_X11, wf_X11_27, rfl, by decide, rfl⟩
theorem dX11_feed_4 : decode cX11_feed 4 = .ok (.getfield 162, 3) := dl_180 (by decide +kernel)
theorem wf_X11_162 : Cond.fieldLink RX11 162 RX5 "tape" "LWhoKnows$Tape;" ∈ TB := tbm (tq1 (List.mem_of_getElem? (i := 99) (by decide +kernel))) (by decide +kernel)
theorem fg_X11_162 : FG RX11 162 5 0 := ⟨RX5, TX5, 10, uw_X5, wf_X11_162, rfl, by decide, rfl⟩
theorem dX11_feed_7 : decode cX11_feed 7 = .ok (.lload_n 1, 1) := dl_31 (by decide +kernel)
theorem dX11_feed_8 : decode cX11_feed 8 = .ok (.invokevirtual 166, 3) := dl_182 (by decide +kernel)
theorem wl_X11_166 : Cond.methodLink RX11 166 yX10_add ∈ TB := tbm (tq2 (List.mem_of_getElem? (i := 234) (by decide +kernel))) (by decide +kernel)
theorem wc_X10_add : Cond.code yX10_add cX10_add 4 (some .boolean) ∈ TB := tbm (tq2 (List.mem_of_getElem? (i := 237) (rfl))) (by decide +kernel)
theorem wi_X10_add : Cond.instanceMethod yX10_add ∈ TB := tbm (tq2 (List.mem_of_getElem? (i := 235) (by decide +kernel))) (by decide +kernel)
theorem ws_X10_add : Cond.selects RX10 yX10_add yX10_add ∈ TB := tbm (tq2 (List.mem_of_getElem? (i := 236) (by decide +kernel))) (by decide +kernel)
theorem mi_X10_add : MI yX10_add cX10_add 4 (some .boolean) 1 := ⟨wc_X10_add, wn_X10, ⟨by decide +kernel, by decide +kernel, by decide +kernel⟩, wi_X10_add, ws_X10_add⟩
theorem dX11_feed_11 : decode cX11_feed 11 = .ok (.ifCond .eq 16, 3) := dl_153 (by decide +kernel)
theorem dX11_feed_14 : decode cX11_feed 14 = .ok (.aload_n 0, 1) := dl_42 (by decide +kernel)
theorem dX11_feed_15 : decode cX11_feed 15 = .ok (.getfield 27, 3) := dl_180 (by decide +kernel)
theorem dX11_feed_18 : decode cX11_feed 18 = .ok (.getfield 162, 3) := dl_180 (by decide +kernel)
theorem dX11_feed_21 : decode cX11_feed 21 = .ok (.getfield 171, 3) := dl_180 (by decide +kernel)
theorem wf_X11_171 : Cond.fieldLink RX11 171 RX10 "length" "I" ∈ TB := tbm (tq1 (List.mem_of_getElem? (i := 80) (by decide +kernel))) (by decide +kernel)
theorem fg_X11_171 : FG RX11 171 10 1 := ⟨RX10, TX10, 5, uw_X10, wf_X11_171, rfl, by decide, rfl⟩
theorem dX11_feed_24 : decode cX11_feed 24 = .ok (.goto 5, 3) := dl_167 (by decide +kernel)
theorem dX11_feed_29 : decode cX11_feed 29 = .ok (.ireturn, 1) := dl_172 (by decide +kernel)
theorem dX11_feed_27 : decode cX11_feed 27 = .ok (.bipush (-3), 2) := dl_16 (by decide +kernel)
set_option maxRecDepth 100000 in
set_option maxHeartbeats 4000000 in
theorem x_feed (l : Launch) (E : EV) (ro : va_W) (hx : Nat) (v0 : Int64) (h : Nat) (qp : Nat) (ac : Nat) (np : Nat) (qs : Nat) (qj : Nat) (ly : Nat) (qh : Nat) (kk : Nat) (kc : Nat) (rd : Nat) (pg : Nat) (pe : Nat) (kn : Int32) (ss : Nat) (qt : Nat) (po : Nat) (pa : Nat) (pf : Nat) (pd : Nat) (nd : Int32) (tn : Int32) (an : Int32) (wr : Int32) (pl : Int32) (tb : Nat) (tl : Nat) (ta : Int32) (tk : Int32) (ts : Int32) (fb : Nat → Int32) (hac : ac ≤ 8) (hnp : np < 8) (hkc : kc ≤ 4) (hpe : pe ≤ 4) (htl : tl ≤ 160) : CT l yX11_feed (Cond.code yX11_feed cX11_feed 3 (some .int) :: TB) ({ frames := 1, cells := 0, slots := 0, locals := 23 }) E ro [.ref hx, .long v0] [(hx, .inr (11, [.ref h, .ref qp, .int (nI ac), .int (nI np), .ref qs, .ref qj, .ref ly, .ref qh, .ref kk, .int (nI kc), .ref rd, .ref pg, .int (nI pe), .int kn, .ref ss])), (qs, .inr (5, [.ref qt, .ref po, .ref pa, .ref pf, .ref pd, .int nd, .int tn, .int an, .int wr, .int pl])), (qt, .inr (10, [.ref tb, .int (nI tl), .int ta, .int tk, .int ts])), (tb, .inl (E.2.1 0, 160, .inl fb))] (Qi E (fun (rz : Int32) uz => (∃ (fb2 : Nat → Int32), rz = (nI (tl + 8)) ∧ uz = [(hx, .inr (11, [.ref h, .ref qp, .int (nI ac), .int (nI np), .ref qs, .ref qj, .ref ly, .ref qh, .ref kk, .int (nI kc), .ref rd, .ref pg, .int (nI pe), .int kn, .ref ss])), (qs, .inr (5, [.ref qt, .ref po, .ref pa, .ref pf, .ref pd, .int nd, .int tn, .int an, .int wr, .int pl])), (qt, .inr (10, [.ref tb, .int (nI (tl + 8)), .int ta, .int tk, .int ts])), (tb, .inl (E.2.1 0, 160, .inl fb2))] ∧ (tl + 8 ≤ 160) ∧ (BYW fb fb2 tl 8 v0)) ∨ (rz = (-3) ∧ uz = [(hx, .inr (11, [.ref h, .ref qp, .int (nI ac), .int (nI np), .ref qs, .ref qj, .ref ly, .ref qh, .ref kk, .int (nI kc), .ref rd, .ref pg, .int (nI pe), .int kn, .ref ss])), (qs, .inr (5, [.ref qt, .ref po, .ref pa, .ref pf, .ref pd, .int nd, .int tn, .int an, .int wr, .int pl])), (qt, .inr (10, [.ref tb, .int (nI tl), .int ta, .int tk, .int ts])), (tb, .inl (E.2.1 0, 160, .inl fb))] ∧ (160 < tl + 8)))) 0 0 := by
  refine ct_of rfl rfl ?_
  intro X C hT hin hro
  show WW X 3 E 0 [(0, .ref hx), (1, .long v0)] [] [(hx, .inr (11, [.ref h, .ref qp, .int (nI ac), .int (nI np), .ref qs, .ref qj, .ref ly, .ref qh, .ref kk, .int (nI kc), .ref rd, .ref pg, .int (nI pe), .int kn, .ref ss])), (qs, .inr (5, [.ref qt, .ref po, .ref pa, .ref pf, .ref pd, .int nd, .int tn, .int an, .int wr, .int pl])), (qt, .inr (10, [.ref tb, .int (nI tl), .int ta, .int tk, .int ts])), (tb, .inl (E.2.1 0, 160, .inl fb))] 0 0
  refine ww_aload_n C dX11_feed_0 0 rfl rfl ?_
  refine ww_get C fg_X11_27 0 rfl rfl dX11_feed_1 ?_
  refine ww_get C fg_X11_162 1 rfl rfl dX11_feed_4 ?_
  refine ww_lload_n C dX11_feed_7 1 rfl rfl ?_
  refine ww_ci (wr := [(hx, .inr (11, [.ref h, .ref qp, .int (nI ac), .int (nI np), .ref qs, .ref qj, .ref ly, .ref qh, .ref kk, .int (nI kc), .ref rd, .ref pg, .int (nI pe), .int kn, .ref ss])), (qs, .inr (5, [.ref qt, .ref po, .ref pa, .ref pf, .ref pd, .int nd, .int tn, .int an, .int wr, .int pl]))]) (k' := 0) (n' := 0) C (run_V (As := [.long v0]) (rest := []) C (t_add X.2.1 E ro qt v0 tb tl ta tk ts fb (by omega)) mi_X10_add wl_X11_166 rfl 0 10 rfl rfl rfl rfl rfl dX11_feed_8) (roK hro) [2, 3] [0, 1] rfl rfl rfl rfl (fun r_1 uz hw => ?_)
  rcases hw with hw | hw
  · refine ex1 hw ?_
    clear hw
    intro fb2_2 hw
    refine an3 hw ?_
    clear hw
    intro he_5 he_6 h_3 hw
    have h_4 := hw
    clear hw
    have he_5 := he_5.symm
    subst he_5
    subst he_6
    refine ww_eq (ws' := [(hx, .inr (11, [.ref h, .ref qp, .int (nI ac), .int (nI np), .ref qs, .ref qj, .ref ly, .ref qh, .ref kk, .int (nI kc), .ref rd, .ref pg, .int (nI pe), .int kn, .ref ss])), (qs, .inr (5, [.ref qt, .ref po, .ref pa, .ref pf, .ref pd, .int nd, .int tn, .int an, .int wr, .int pl])), (qt, .inr (10, [.ref tb, .int (nI (tl + 8)), .int ta, .int tk, .int ts])), (tb, .inl (E.2.1 0, 160, .inl fb2_2))]) ?_ rfl rfl rfl
    refine ww_if_eq_f (tgt := 27) C dX11_feed_11 (by decide) (by decide) ?_
    refine ww_aload_n C dX11_feed_14 0 rfl rfl ?_
    refine ww_get C fg_X11_27 0 rfl rfl dX11_feed_15 ?_
    refine ww_get C fg_X11_162 1 rfl rfl dX11_feed_18 ?_
    refine ww_get C fg_X11_171 2 rfl rfl dX11_feed_21 ?_
    refine ww_goto (tgt := 29) C dX11_feed_24 (by decide) ?_
    exact ww_iret (u := [(hx, .inr (11, [.ref h, .ref qp, .int (nI ac), .int (nI np), .ref qs, .ref qj, .ref ly, .ref qh, .ref kk, .int (nI kc), .ref rd, .ref pg, .int (nI pe), .int kn, .ref ss])), (qs, .inr (5, [.ref qt, .ref po, .ref pa, .ref pf, .ref pd, .int nd, .int tn, .int an, .int wr, .int pl])), (qt, .inr (10, [.ref tb, .int (nI (tl + 8)), .int ta, .int tk, .int ts])), (tb, .inl (E.2.1 0, 160, .inl fb2_2))]) C hT [0, 1, 2, 3] rfl rfl rfl rfl dX11_feed_29 (Or.inl ⟨fb2_2, rfl, rfl, (by first | assumption | omega | decide), (by assumption)⟩)
  · refine an2 hw ?_
    clear hw
    intro he_8 he_9 hw
    have h_7 := hw
    clear hw
    have he_8 := he_8.symm
    subst he_8
    subst he_9
    refine ww_eq (ws' := [(hx, .inr (11, [.ref h, .ref qp, .int (nI ac), .int (nI np), .ref qs, .ref qj, .ref ly, .ref qh, .ref kk, .int (nI kc), .ref rd, .ref pg, .int (nI pe), .int kn, .ref ss])), (qs, .inr (5, [.ref qt, .ref po, .ref pa, .ref pf, .ref pd, .int nd, .int tn, .int an, .int wr, .int pl])), (qt, .inr (10, [.ref tb, .int (nI tl), .int ta, .int tk, .int ts])), (tb, .inl (E.2.1 0, 160, .inl fb))]) ?_ rfl rfl rfl
    refine ww_if_eq_t (tgt := 27) C dX11_feed_11 (by decide) (rfl) ?_
    refine ww_bipush (v := (-3)) C dX11_feed_27 rfl ?_
    exact ww_iret (u := [(hx, .inr (11, [.ref h, .ref qp, .int (nI ac), .int (nI np), .ref qs, .ref qj, .ref ly, .ref qh, .ref kk, .int (nI kc), .ref rd, .ref pg, .int (nI pe), .int kn, .ref ss])), (qs, .inr (5, [.ref qt, .ref po, .ref pa, .ref pf, .ref pd, .int nd, .int tn, .int an, .int wr, .int pl])), (qt, .inr (10, [.ref tb, .int (nI tl), .int ta, .int tk, .int ts])), (tb, .inl (E.2.1 0, 160, .inl fb))]) C hT [0, 1, 2, 3] rfl rfl rfl rfl dX11_feed_29 (Or.inr ⟨rfl, rfl, (by first | assumption | omega | decide)⟩)
theorem dX11_end_0 : decode cX11_end 0 = .ok (.iload_n 1, 1) := dl_27 (by decide +kernel)
theorem dX11_end_1 : decode cX11_end 1 = .ok (.iconst 0, 1) := dl_3 (by decide +kernel)
theorem dX11_end_2 : decode cX11_end 2 = .ok (.aload_n 0, 1) := dl_42 (by decide +kernel)
theorem dX11_end_3 : decode cX11_end 3 = .ok (.getfield 27, 3) := dl_180 (by decide +kernel)
theorem dX11_end_6 : decode cX11_end 6 = .ok (.getfield 162, 3) := dl_180 (by decide +kernel)
theorem dX11_end_9 : decode cX11_end 9 = .ok (.getfield 171, 3) := dl_180 (by decide +kernel)
theorem dX11_end_12 : decode cX11_end 12 = .ok (.invokestatic 76, 3) := dl_184 (by decide +kernel)
theorem dX11_end_15 : decode cX11_end 15 = .ok (.ifCond .ne 5, 3) := dl_154 (by decide +kernel)
theorem dX11_end_20 : decode cX11_end 20 = .ok (.aload_n 0, 1) := dl_42 (by decide +kernel)
theorem dX11_end_21 : decode cX11_end 21 = .ok (.getfield 27, 3) := dl_180 (by decide +kernel)
theorem dX11_end_24 : decode cX11_end 24 = .ok (.getfield 162, 3) := dl_180 (by decide +kernel)
theorem dX11_end_27 : decode cX11_end 27 = .ok (.getfield 171, 3) := dl_180 (by decide +kernel)
theorem dX11_end_30 : decode cX11_end 30 = .ok (.istore_n 2, 1) := dl_61 (by decide +kernel)
theorem dX11_end_31 : decode cX11_end 31 = .ok (.aload_n 0, 1) := dl_42 (by decide +kernel)
theorem dX11_end_32 : decode cX11_end 32 = .ok (.getfield 27, 3) := dl_180 (by decide +kernel)
theorem dX11_end_35 : decode cX11_end 35 = .ok (.getfield 162, 3) := dl_180 (by decide +kernel)
theorem dX11_end_38 : decode cX11_end 38 = .ok (.iload_n 1, 1) := dl_27 (by decide +kernel)
theorem dX11_end_39 : decode cX11_end 39 = .ok (.putfield 171, 3) := dl_181 (by decide +kernel)
theorem fp_X11_171 : FP RX11 171 10 1 .int false := ⟨RX10, TX10, 5, tyX10, uw_X10, wf_X11_171, rfl, by decide, rfl, tyX10_ok, nmX10, rfl, by decide +kernel⟩
theorem dX11_end_42 : decode cX11_end 42 = .ok (.iload_n 2, 1) := dl_28 (by decide +kernel)
theorem dX11_end_43 : decode cX11_end 43 = .ok (.ireturn, 1) := dl_172 (by decide +kernel)
theorem dX11_end_18 : decode cX11_end 18 = .ok (.iconst (-1), 1) := dl_2 (by decide +kernel)
theorem dX11_end_19 : decode cX11_end 19 = .ok (.ireturn, 1) := dl_172 (by decide +kernel)
set_option maxRecDepth 100000 in
set_option maxHeartbeats 4000000 in
theorem x_end (l : Launch) (E : EV) (ro : va_W) (hx : Nat) (v0 : Int32) (h : Nat) (qp : Nat) (ac : Nat) (np : Nat) (qs : Nat) (qj : Nat) (ly : Nat) (qh : Nat) (kk : Nat) (kc : Nat) (rd : Nat) (pg : Nat) (pe : Nat) (kn : Int32) (ss : Nat) (qt : Nat) (po : Nat) (pa : Nat) (pf : Nat) (pd : Nat) (nd : Int32) (tn : Int32) (an : Int32) (wr : Int32) (pl : Int32) (tb : Nat) (tl : Nat) (ta : Int32) (tk : Int32) (ts : Int32) (fb : Nat → Int32) (hac : ac ≤ 8) (hnp : np < 8) (hkc : kc ≤ 4) (hpe : pe ≤ 4) (htl : tl ≤ 160) : CT l yX11_end (Cond.code yX11_end cX11_end 3 (some .int) :: TB) ({ frames := 1, cells := 0, slots := 0, locals := 22 }) E ro [.ref hx, .int v0] [(hx, .inr (11, [.ref h, .ref qp, .int (nI ac), .int (nI np), .ref qs, .ref qj, .ref ly, .ref qh, .ref kk, .int (nI kc), .ref rd, .ref pg, .int (nI pe), .int kn, .ref ss])), (qs, .inr (5, [.ref qt, .ref po, .ref pa, .ref pf, .ref pd, .int nd, .int tn, .int an, .int wr, .int pl])), (qt, .inr (10, [.ref tb, .int (nI tl), .int ta, .int tk, .int ts])), (tb, .inl (E.2.1 0, 160, .inl fb))] (Qi E (fun (rz : Int32) uz => (rz = (-1) ∧ uz = [(hx, .inr (11, [.ref h, .ref qp, .int (nI ac), .int (nI np), .ref qs, .ref qj, .ref ly, .ref qh, .ref kk, .int (nI kc), .ref rd, .ref pg, .int (nI pe), .int kn, .ref ss])), (qs, .inr (5, [.ref qt, .ref po, .ref pa, .ref pf, .ref pd, .int nd, .int tn, .int an, .int wr, .int pl])), (qt, .inr (10, [.ref tb, .int (nI tl), .int ta, .int tk, .int ts])), (tb, .inl (E.2.1 0, 160, .inl fb))] ∧ (v0.toInt < 0 ∨ (tl : Int) < v0.toInt)) ∨ (∃ (tlz : Nat), rz = (nI tl) ∧ uz = [(hx, .inr (11, [.ref h, .ref qp, .int (nI ac), .int (nI np), .ref qs, .ref qj, .ref ly, .ref qh, .ref kk, .int (nI kc), .ref rd, .ref pg, .int (nI pe), .int kn, .ref ss])), (qs, .inr (5, [.ref qt, .ref po, .ref pa, .ref pf, .ref pd, .int nd, .int tn, .int an, .int wr, .int pl])), (qt, .inr (10, [.ref tb, .int (nI tlz), .int ta, .int tk, .int ts])), (tb, .inl (E.2.1 0, 160, .inl fb))] ∧ (v0 = nI tlz) ∧ (tlz ≤ tl)))) 0 0 := by
  refine ct_of rfl rfl ?_
  intro X C hT hin hro
  show WW X 3 E 0 [(0, .ref hx), (1, .int v0)] [] [(hx, .inr (11, [.ref h, .ref qp, .int (nI ac), .int (nI np), .ref qs, .ref qj, .ref ly, .ref qh, .ref kk, .int (nI kc), .ref rd, .ref pg, .int (nI pe), .int kn, .ref ss])), (qs, .inr (5, [.ref qt, .ref po, .ref pa, .ref pf, .ref pd, .int nd, .int tn, .int an, .int wr, .int pl])), (qt, .inr (10, [.ref tb, .int (nI tl), .int ta, .int tk, .int ts])), (tb, .inl (E.2.1 0, 160, .inl fb))] 0 0
  refine ww_iload_n C dX11_end_0 1 rfl rfl ?_
  refine ww_iconst (v := 0) C dX11_end_1 rfl ?_
  refine ww_aload_n C dX11_end_2 0 rfl rfl ?_
  refine ww_get C fg_X11_27 0 rfl rfl dX11_end_3 ?_
  refine ww_get C fg_X11_162 1 rfl rfl dX11_end_6 ?_
  refine ww_get C fg_X11_171 2 rfl rfl dX11_end_9 ?_
  refine ww_ci (wr := [(hx, .inr (11, [.ref h, .ref qp, .int (nI ac), .int (nI np), .ref qs, .ref qj, .ref ly, .ref qh, .ref kk, .int (nI kc), .ref rd, .ref pg, .int (nI pe), .int kn, .ref ss])), (qs, .inr (5, [.ref qt, .ref po, .ref pa, .ref pf, .ref pd, .int nd, .int tn, .int an, .int wr, .int pl])), (qt, .inr (10, [.ref tb, .int (nI tl), .int ta, .int tk, .int ts])), (tb, .inl (E.2.1 0, 160, .inl fb))]) (k' := 0) (n' := 0) C (run_S (As := [.int v0, .int 0, .int (nI tl)]) (rest := []) C (c_within X.2.1 E ro v0 0 (nI tl) v0.toInt 0 ((tl : Nat) : Int) rfl rfl (nI_toInt (n := tl) (by omega))) ms_X11_within wl_X11_76 rfl rfl rfl rfl dX11_end_12) (roK hro) [] [0, 1, 2, 3] rfl rfl rfl rfl (fun r_1 uz hw => ?_)
  rcases hw with hw | hw
  · refine an3 hw ?_
    clear hw
    intro he_4 he_5 h_2 hw
    have h_3 := hw
    clear hw
    have he_4 := he_4.symm
    subst he_4
    subst he_5
    refine ww_eq (ws' := [(hx, .inr (11, [.ref h, .ref qp, .int (nI ac), .int (nI np), .ref qs, .ref qj, .ref ly, .ref qh, .ref kk, .int (nI kc), .ref rd, .ref pg, .int (nI pe), .int kn, .ref ss])), (qs, .inr (5, [.ref qt, .ref po, .ref pa, .ref pf, .ref pd, .int nd, .int tn, .int an, .int wr, .int pl])), (qt, .inr (10, [.ref tb, .int (nI tl), .int ta, .int tk, .int ts])), (tb, .inl (E.2.1 0, 160, .inl fb))]) ?_ rfl rfl rfl
    refine ww_if_ne_t (tgt := 20) C dX11_end_15 (by decide) (by decide) ?_
    obtain ⟨j_9, hj_9, rfl⟩ := i_nat (x := v0) (N := 160) (by omega) (by omega)
    have hzj_9 := nI_toInt (n := j_9) (by omega)
    refine ww_aload_n C dX11_end_20 0 rfl rfl ?_
    refine ww_get C fg_X11_27 0 rfl rfl dX11_end_21 ?_
    refine ww_get C fg_X11_162 1 rfl rfl dX11_end_24 ?_
    refine ww_get C fg_X11_171 2 rfl rfl dX11_end_27 ?_
    refine ww_istore_n (lv' := [(2, .int (nI tl)), (0, .ref hx), (1, .int (nI j_9))]) C dX11_end_30 rfl rfl rfl ?_
    refine ww_aload_n C dX11_end_31 1 rfl rfl ?_
    refine ww_get C fg_X11_27 0 rfl rfl dX11_end_32 ?_
    refine ww_get C fg_X11_162 1 rfl rfl dX11_end_35 ?_
    refine ww_iload_n C dX11_end_38 2 rfl rfl ?_
    refine ww_put (ws' := [(hx, .inr (11, [.ref h, .ref qp, .int (nI ac), .int (nI np), .ref qs, .ref qj, .ref ly, .ref qh, .ref kk, .int (nI kc), .ref rd, .ref pg, .int (nI pe), .int kn, .ref ss])), (qs, .inr (5, [.ref qt, .ref po, .ref pa, .ref pf, .ref pd, .int nd, .int tn, .int an, .int wr, .int pl])), (qt, .inr (10, [.ref tb, .int (nI j_9), .int ta, .int tk, .int ts])), (tb, .inl (E.2.1 0, 160, .inl fb))]) C fp_X11_171 2 rfl rfl rfl rfl rfl dX11_end_39 ?_
    refine ww_iload_n C dX11_end_42 0 rfl rfl ?_
    exact ww_iret (u := [(hx, .inr (11, [.ref h, .ref qp, .int (nI ac), .int (nI np), .ref qs, .ref qj, .ref ly, .ref qh, .ref kk, .int (nI kc), .ref rd, .ref pg, .int (nI pe), .int kn, .ref ss])), (qs, .inr (5, [.ref qt, .ref po, .ref pa, .ref pf, .ref pd, .int nd, .int tn, .int an, .int wr, .int pl])), (qt, .inr (10, [.ref tb, .int (nI j_9), .int ta, .int tk, .int ts])), (tb, .inl (E.2.1 0, 160, .inl fb))]) C hT [0, 1, 2, 3] rfl rfl rfl rfl dX11_end_43 (Or.inr ⟨j_9, rfl, rfl, rfl, (by first | assumption | omega | decide)⟩)
  · refine an2 hw ?_
    clear hw
    intro he_7 he_8 hw
    have h_6 := hw
    clear hw
    have he_7 := he_7.symm
    subst he_7
    subst he_8
    refine ww_eq (ws' := [(hx, .inr (11, [.ref h, .ref qp, .int (nI ac), .int (nI np), .ref qs, .ref qj, .ref ly, .ref qh, .ref kk, .int (nI kc), .ref rd, .ref pg, .int (nI pe), .int kn, .ref ss])), (qs, .inr (5, [.ref qt, .ref po, .ref pa, .ref pf, .ref pd, .int nd, .int tn, .int an, .int wr, .int pl])), (qt, .inr (10, [.ref tb, .int (nI tl), .int ta, .int tk, .int ts])), (tb, .inl (E.2.1 0, 160, .inl fb))]) ?_ rfl rfl rfl
    refine ww_if_ne_f (tgt := 20) C dX11_end_15 (by decide) (rfl) ?_
    refine ww_iconst (v := (-1)) C dX11_end_18 rfl ?_
    exact ww_iret (u := [(hx, .inr (11, [.ref h, .ref qp, .int (nI ac), .int (nI np), .ref qs, .ref qj, .ref ly, .ref qh, .ref kk, .int (nI kc), .ref rd, .ref pg, .int (nI pe), .int kn, .ref ss])), (qs, .inr (5, [.ref qt, .ref po, .ref pa, .ref pf, .ref pd, .int nd, .int tn, .int an, .int wr, .int pl])), (qt, .inr (10, [.ref tb, .int (nI tl), .int ta, .int tk, .int ts])), (tb, .inl (E.2.1 0, 160, .inl fb))]) C hT [0, 1, 2, 3] rfl rfl rfl rfl dX11_end_19 (Or.inl ⟨rfl, rfl, (by first | assumption | omega | decide)⟩)
theorem dX11_isTold_0 : decode cX11_isTold 0 = .ok (.iload_n 1, 1) := dl_27 (by decide +kernel)
theorem dX11_isTold_1 : decode cX11_isTold 1 = .ok (.iconst 0, 1) := dl_3 (by decide +kernel)
theorem dX11_isTold_2 : decode cX11_isTold 2 = .ok (.bipush 7, 2) := dl_16 (by decide +kernel)
theorem dX11_isTold_4 : decode cX11_isTold 4 = .ok (.invokestatic 76, 3) := dl_184 (by decide +kernel)
theorem dX11_isTold_7 : decode cX11_isTold 7 = .ok (.ifCond .eq 19, 3) := dl_153 (by decide +kernel)
theorem dX11_isTold_10 : decode cX11_isTold 10 = .ok (.aload_n 0, 1) := dl_42 (by decide +kernel)
theorem dX11_isTold_11 : decode cX11_isTold 11 = .ok (.getfield 34, 3) := dl_180 (by decide +kernel)
theorem wf_X11_34 : Cond.fieldLink RX11 34 RX11 "judge" "LWhoKnows$Judge;" ∈ TB := tbm (tq2 (List.mem_of_getElem? (i := 101) (by decide +kernel))) (by decide +kernel)
theorem fg_X11_34 : FG RX11 34 11 5 := ⟨RX11, TX11, 15, uw_X11, wf_X11_34, rfl, by decide, rfl⟩
theorem dX11_isTold_14 : decode cX11_isTold 14 = .ok (.getfield 80, 3) := dl_180 (by decide +kernel)
theorem wf_X11_80 : Cond.fieldLink RX11 80 RX2 "told" "[LWhoKnows$Saying;" ∈ TB := tbm (tq1 (List.mem_of_getElem? (i := 214) (by decide +kernel))) (by decide +kernel)
theorem fg_X11_80 : FG RX11 80 2 0 := ⟨RX2, TX2, 4, uw_X2, wf_X11_80, rfl, by decide, rfl⟩
theorem dX11_isTold_17 : decode cX11_isTold 17 = .ok (.iload_n 1, 1) := dl_27 (by decide +kernel)
theorem dX11_isTold_18 : decode cX11_isTold 18 = .ok (.aaload, 1) := dl_50 (by decide +kernel)
theorem dX11_isTold_19 : decode cX11_isTold 19 = .ok (.ifnull 7, 3) := dl_198 (by decide +kernel)
theorem dX11_isTold_26 : decode cX11_isTold 26 = .ok (.iconst 0, 1) := dl_3 (by decide +kernel)
theorem dX11_isTold_27 : decode cX11_isTold 27 = .ok (.ireturn, 1) := dl_172 (by decide +kernel)
theorem dX11_isTold_22 : decode cX11_isTold 22 = .ok (.iconst 1, 1) := dl_4 (by decide +kernel)
theorem dX11_isTold_23 : decode cX11_isTold 23 = .ok (.goto 4, 3) := dl_167 (by decide +kernel)
set_option maxRecDepth 100000 in
set_option maxHeartbeats 4000000 in
theorem x_isTold (l : Launch) (E : EV) (ro : va_W) (hx : Nat) (k : Int32) (h : Nat) (qp : Nat) (ac : Nat) (np : Nat) (qs : Nat) (qj : Nat) (ly : Nat) (qh : Nat) (kk : Nat) (kc : Nat) (rd : Nat) (pg : Nat) (pe : Nat) (kn : Int32) (ss : Nat) (jt : Nat) (je : Nat) (ju : Nat) (ja : Nat) (fto : Nat → Option Nat) (tT : Nat → Option SVal) (hac : ac ≤ 8) (hnp : np < 8) (hkc : kc ≤ 4) (hpe : pe ≤ 4) (hto : SYT E ro 8 fto tT) : CT l yX11_isTold (Cond.code yX11_isTold cX11_isTold 2 (some .boolean) :: TB) ({ frames := 1, cells := 0, slots := 0, locals := 22 }) E ro [.ref hx, .int k] [(hx, .inr (11, [.ref h, .ref qp, .int (nI ac), .int (nI np), .ref qs, .ref qj, .ref ly, .ref qh, .ref kk, .int (nI kc), .ref rd, .ref pg, .int (nI pe), .int kn, .ref ss])), (qj, .inr (2, [.ref jt, .ref je, .ref ju, .ref ja])), (jt, .inl (E.2.1 7, 8, .inr (.inr (.inr (.inr fto)))))] (Qi E (fun (rz : Int32) uz => (∃ (aa : Nat), rz = 1 ∧ uz = [(hx, .inr (11, [.ref h, .ref qp, .int (nI ac), .int (nI np), .ref qs, .ref qj, .ref ly, .ref qh, .ref kk, .int (nI kc), .ref rd, .ref pg, .int (nI pe), .int kn, .ref ss])), (qj, .inr (2, [.ref jt, .ref je, .ref ju, .ref ja])), (jt, .inl (E.2.1 7, 8, .inr (.inr (.inr (.inr fto)))))] ∧ (0 ≤ k.toInt) ∧ (k.toInt ≤ 7) ∧ (fto k.toNatClampNeg = some aa)) ∨ (rz = 0 ∧ uz = [(hx, .inr (11, [.ref h, .ref qp, .int (nI ac), .int (nI np), .ref qs, .ref qj, .ref ly, .ref qh, .ref kk, .int (nI kc), .ref rd, .ref pg, .int (nI pe), .int kn, .ref ss])), (qj, .inr (2, [.ref jt, .ref je, .ref ju, .ref ja])), (jt, .inl (E.2.1 7, 8, .inr (.inr (.inr (.inr fto)))))] ∧ (k.toInt < 0 ∨ 7 < k.toInt ∨ fto k.toNatClampNeg = none)))) 0 0 := by
  refine ct_of rfl rfl ?_
  intro X C hT hin hro
  show WW X 2 E 0 [(0, .ref hx), (1, .int k)] [] [(hx, .inr (11, [.ref h, .ref qp, .int (nI ac), .int (nI np), .ref qs, .ref qj, .ref ly, .ref qh, .ref kk, .int (nI kc), .ref rd, .ref pg, .int (nI pe), .int kn, .ref ss])), (qj, .inr (2, [.ref jt, .ref je, .ref ju, .ref ja])), (jt, .inl (E.2.1 7, 8, .inr (.inr (.inr (.inr fto)))))] 0 0
  refine ww_iload_n C dX11_isTold_0 1 rfl rfl ?_
  refine ww_iconst (v := 0) C dX11_isTold_1 rfl ?_
  refine ww_bipush (v := 7) C dX11_isTold_2 rfl ?_
  refine ww_ci (wr := [(hx, .inr (11, [.ref h, .ref qp, .int (nI ac), .int (nI np), .ref qs, .ref qj, .ref ly, .ref qh, .ref kk, .int (nI kc), .ref rd, .ref pg, .int (nI pe), .int kn, .ref ss])), (qj, .inr (2, [.ref jt, .ref je, .ref ju, .ref ja])), (jt, .inl (E.2.1 7, 8, .inr (.inr (.inr (.inr fto)))))]) (k' := 0) (n' := 0) C (run_S (As := [.int k, .int 0, .int 7]) (rest := []) C (c_within X.2.1 E ro k 0 7 k.toInt 0 7 rfl rfl rfl) ms_X11_within wl_X11_76 rfl rfl rfl rfl dX11_isTold_4) (roK hro) [] [0, 1, 2] rfl rfl rfl rfl (fun r_1 uz hw => ?_)
  rcases hw with hw | hw
  · refine an3 hw ?_
    clear hw
    intro he_4 he_5 h_2 hw
    have h_3 := hw
    clear hw
    have he_4 := he_4.symm
    subst he_4
    subst he_5
    refine ww_eq (ws' := [(hx, .inr (11, [.ref h, .ref qp, .int (nI ac), .int (nI np), .ref qs, .ref qj, .ref ly, .ref qh, .ref kk, .int (nI kc), .ref rd, .ref pg, .int (nI pe), .int kn, .ref ss])), (qj, .inr (2, [.ref jt, .ref je, .ref ju, .ref ja])), (jt, .inl (E.2.1 7, 8, .inr (.inr (.inr (.inr fto)))))]) ?_ rfl rfl rfl
    refine ww_if_eq_f (tgt := 26) C dX11_isTold_7 (by decide) (by decide) ?_
    obtain ⟨j_9, hj_9, rfl⟩ := i_nat (x := k) (N := 7) (by omega) (by omega)
    have hzj_9 := nI_toInt (n := j_9) (by omega)
    refine ww_aload_n C dX11_isTold_10 0 rfl rfl ?_
    refine ww_get C fg_X11_34 0 rfl rfl dX11_isTold_11 ?_
    refine ww_get C fg_X11_80 1 rfl rfl dX11_isTold_14 ?_
    refine ww_iload_n C dX11_isTold_17 1 rfl rfl ?_
    rcases hq_10 : fto j_9 with _ | a_11
    · refine ww_ald (v := none) (t0 := 7) C 2 rfl rfl (vp_in_nI (by omega) (by omega)) (ldn (by omega) hq_10) dX11_isTold_18 ?_
      refine ww_eq (st' := [.null]) ?_ rfl rfl rfl
      refine ww_ifnullN (tgt := 26) C dX11_isTold_19 (by decide) ?_
      refine ww_iconst (v := 0) C dX11_isTold_26 rfl ?_
      exact ww_zret (u := [(hx, .inr (11, [.ref h, .ref qp, .int (nI ac), .int (nI np), .ref qs, .ref qj, .ref ly, .ref qh, .ref kk, .int (nI kc), .ref rd, .ref pg, .int (nI pe), .int kn, .ref ss])), (qj, .inr (2, [.ref jt, .ref je, .ref ju, .ref ja])), (jt, .inl (E.2.1 7, 8, .inr (.inr (.inr (.inr fto)))))]) C hT [0, 1, 2] rfl rfl rfl rfl rfl dX11_isTold_27 (Or.inr ⟨rfl, rfl, (Or.inr (Or.inr (ldn (by omega) hq_10)))⟩)
    · refine ww_ald (v := (some a_11)) (t0 := 7) C 2 rfl rfl (vp_in_nI (by omega) (by omega)) (ldn (by omega) hq_10) dX11_isTold_18 ?_
      refine ww_eq (st' := [.ref a_11]) ?_ rfl rfl rfl
      refine ww_ifnull C dX11_isTold_19 ?_
      refine ww_iconst (v := 1) C dX11_isTold_22 rfl ?_
      refine ww_goto (tgt := 27) C dX11_isTold_23 (by decide) ?_
      exact ww_zret (u := [(hx, .inr (11, [.ref h, .ref qp, .int (nI ac), .int (nI np), .ref qs, .ref qj, .ref ly, .ref qh, .ref kk, .int (nI kc), .ref rd, .ref pg, .int (nI pe), .int kn, .ref ss])), (qj, .inr (2, [.ref jt, .ref je, .ref ju, .ref ja])), (jt, .inl (E.2.1 7, 8, .inr (.inr (.inr (.inr fto)))))]) C hT [0, 1, 2] rfl rfl rfl rfl rfl dX11_isTold_27 (Or.inl ⟨_, rfl, rfl, (by first | assumption | omega | decide), (by first | assumption | omega | decide), (ldn (by omega) (by assumption))⟩)
  · refine an2 hw ?_
    clear hw
    intro he_7 he_8 hw
    have h_6 := hw
    clear hw
    have he_7 := he_7.symm
    subst he_7
    subst he_8
    refine ww_eq (ws' := [(hx, .inr (11, [.ref h, .ref qp, .int (nI ac), .int (nI np), .ref qs, .ref qj, .ref ly, .ref qh, .ref kk, .int (nI kc), .ref rd, .ref pg, .int (nI pe), .int kn, .ref ss])), (qj, .inr (2, [.ref jt, .ref je, .ref ju, .ref ja])), (jt, .inl (E.2.1 7, 8, .inr (.inr (.inr (.inr fto)))))]) ?_ rfl rfl rfl
    refine ww_if_eq_t (tgt := 26) C dX11_isTold_7 (by decide) (rfl) ?_
    refine ww_iconst (v := 0) C dX11_isTold_26 rfl ?_
    exact ww_zret (u := [(hx, .inr (11, [.ref h, .ref qp, .int (nI ac), .int (nI np), .ref qs, .ref qj, .ref ly, .ref qh, .ref kk, .int (nI kc), .ref rd, .ref pg, .int (nI pe), .int kn, .ref ss])), (qj, .inr (2, [.ref jt, .ref je, .ref ju, .ref ja])), (jt, .inl (E.2.1 7, 8, .inr (.inr (.inr (.inr fto)))))]) C hT [0, 1, 2] rfl rfl rfl rfl rfl dX11_isTold_27 (Or.inr ⟨rfl, rfl, (by omega)⟩)
end
section
theorem dX11_canBeIf_0 : decode cX11_canBeIf 0 = .ok (.aload_n 0, 1) := dl_42 (by decide +kernel)
theorem dX11_canBeIf_1 : decode cX11_canBeIf 1 = .ok (.iload_n 1, 1) := dl_27 (by decide +kernel)
theorem dX11_canBeIf_2 : decode cX11_canBeIf 2 = .ok (.invokevirtual 98, 3) := dl_182 (by decide +kernel)
theorem wl_X11_98 : Cond.methodLink RX11 98 yX11_isTold ∈ TB := tbm (tq3 (List.mem_of_getElem? (i := 203) (by decide +kernel))) (by decide +kernel)
theorem wc_X11_isTold : Cond.code yX11_isTold cX11_isTold 2 (some .boolean) ∈ TB := tbm (tq3 (List.mem_of_getElem? (i := 206) (rfl))) (by decide +kernel)
theorem wi_X11_isTold : Cond.instanceMethod yX11_isTold ∈ TB := tbm (tq3 (List.mem_of_getElem? (i := 205) (by decide +kernel))) (by decide +kernel)
theorem ws_X11_isTold : Cond.selects RX11 yX11_isTold yX11_isTold ∈ TB := tbm (tq0 (List.mem_of_getElem? (i := 16) (by decide +kernel))) (by decide +kernel)
theorem mi_X11_isTold : MI yX11_isTold cX11_isTold 2 (some .boolean) 1 := ⟨wc_X11_isTold, wn_X11, ⟨by decide +kernel, by decide +kernel, by decide +kernel⟩, wi_X11_isTold, ws_X11_isTold⟩
theorem dX11_canBeIf_5 : decode cX11_canBeIf 5 = .ok (.ifCond .eq 22, 3) := dl_153 (by decide +kernel)
theorem dX11_canBeIf_8 : decode cX11_canBeIf 8 = .ok (.aload_n 0, 1) := dl_42 (by decide +kernel)
theorem dX11_canBeIf_9 : decode cX11_canBeIf 9 = .ok (.getfield 34, 3) := dl_180 (by decide +kernel)
theorem dX11_canBeIf_12 : decode cX11_canBeIf 12 = .ok (.getfield 80, 3) := dl_180 (by decide +kernel)
theorem dX11_canBeIf_15 : decode cX11_canBeIf 15 = .ok (.iload_n 1, 1) := dl_27 (by decide +kernel)
theorem dX11_canBeIf_16 : decode cX11_canBeIf 16 = .ok (.aaload, 1) := dl_50 (by decide +kernel)
theorem dX11_canBeIf_17 : decode cX11_canBeIf 17 = .ok (.getfield 101, 3) := dl_180 (by decide +kernel)
theorem wf_X11_101 : Cond.fieldLink RX11 101 RX8 "afters" "I" ∈ TB := tbm (tq3 (List.mem_of_getElem? (i := 164) (by decide +kernel))) (by decide +kernel)
theorem fg_X11_101 : FG RX11 101 8 3 := ⟨RX8, TX8, 7, uw_X8, wf_X11_101, rfl, by decide, rfl⟩
theorem dX11_canBeIf_20 : decode cX11_canBeIf 20 = .ok (.ifCond .ne 7, 3) := dl_154 (by decide +kernel)
theorem dX11_canBeIf_27 : decode cX11_canBeIf 27 = .ok (.iconst 0, 1) := dl_3 (by decide +kernel)
theorem dX11_canBeIf_28 : decode cX11_canBeIf 28 = .ok (.ireturn, 1) := dl_172 (by decide +kernel)
theorem dX11_canBeIf_23 : decode cX11_canBeIf 23 = .ok (.iconst 1, 1) := dl_4 (by decide +kernel)
theorem dX11_canBeIf_24 : decode cX11_canBeIf 24 = .ok (.goto 4, 3) := dl_167 (by decide +kernel)
set_option maxRecDepth 100000 in
set_option maxHeartbeats 4000000 in
theorem x_canBeIf (l : Launch) (E : EV) (ro : va_W) (hx : Nat) (k : Int32) (h : Nat) (qp : Nat) (ac : Nat) (np : Nat) (qs : Nat) (qj : Nat) (ly : Nat) (qh : Nat) (kk : Nat) (kc : Nat) (rd : Nat) (pg : Nat) (pe : Nat) (kn : Int32) (ss : Nat) (jt : Nat) (je : Nat) (ju : Nat) (ja : Nat) (fto : Nat → Option Nat) (tT : Nat → Option SVal) (hac : ac ≤ 8) (hnp : np < 8) (hkc : kc ≤ 4) (hpe : pe ≤ 4) (hto : SYT E ro 8 fto tT) : CT l yX11_canBeIf (Cond.code yX11_canBeIf cX11_canBeIf 2 (some .boolean) :: TB) ({ frames := 2, cells := 0, slots := 0, locals := 43 }) E ro [.ref hx, .int k] [(hx, .inr (11, [.ref h, .ref qp, .int (nI ac), .int (nI np), .ref qs, .ref qj, .ref ly, .ref qh, .ref kk, .int (nI kc), .ref rd, .ref pg, .int (nI pe), .int kn, .ref ss])), (qj, .inr (2, [.ref jt, .ref je, .ref ju, .ref ja])), (jt, .inl (E.2.1 7, 8, .inr (.inr (.inr (.inr fto)))))] (Qi E (fun (rz : Int32) uz => (∃ (aa : Nat), rz = 1 ∧ uz = [(hx, .inr (11, [.ref h, .ref qp, .int (nI ac), .int (nI np), .ref qs, .ref qj, .ref ly, .ref qh, .ref kk, .int (nI kc), .ref rd, .ref pg, .int (nI pe), .int kn, .ref ss])), (qj, .inr (2, [.ref jt, .ref je, .ref ju, .ref ja])), (jt, .inl (E.2.1 7, 8, .inr (.inr (.inr (.inr fto)))))] ∧ (0 ≤ k.toInt) ∧ (k.toInt ≤ 7) ∧ (fto k.toNatClampNeg = some aa) ∧ (PLN (sNs tT) k)) ∨ (rz = 0 ∧ uz = [(hx, .inr (11, [.ref h, .ref qp, .int (nI ac), .int (nI np), .ref qs, .ref qj, .ref ly, .ref qh, .ref kk, .int (nI kc), .ref rd, .ref pg, .int (nI pe), .int kn, .ref ss])), (qj, .inr (2, [.ref jt, .ref je, .ref ju, .ref ja])), (jt, .inl (E.2.1 7, 8, .inr (.inr (.inr (.inr fto)))))] ∧ (¬ PLN (sNs tT) k)))) 0 0 := by
  refine ct_of rfl rfl ?_
  intro X C hT hin hro
  show WW X 2 E 0 [(0, .ref hx), (1, .int k)] [] [(hx, .inr (11, [.ref h, .ref qp, .int (nI ac), .int (nI np), .ref qs, .ref qj, .ref ly, .ref qh, .ref kk, .int (nI kc), .ref rd, .ref pg, .int (nI pe), .int kn, .ref ss])), (qj, .inr (2, [.ref jt, .ref je, .ref ju, .ref ja])), (jt, .inl (E.2.1 7, 8, .inr (.inr (.inr (.inr fto)))))] 0 0
  refine ww_aload_n C dX11_canBeIf_0 0 rfl rfl ?_
  refine ww_iload_n C dX11_canBeIf_1 1 rfl rfl ?_
  refine ww_ci (wr := []) (k' := 0) (n' := 0) C (run_V (As := [.int k]) (rest := []) C (x_isTold X.2.1 E ro hx k h qp ac np qs qj ly qh kk kc rd pg pe kn ss jt je ju ja fto tT (by omega) (by omega) (by omega) (by omega) hto) mi_X11_isTold wl_X11_98 rfl 0 11 rfl rfl rfl rfl rfl dX11_canBeIf_2) (roK hro) [0, 1, 2] [] rfl rfl rfl rfl (fun r_1 uz hw => ?_)
  rcases hw with hw | hw
  · refine ex1 hw ?_
    clear hw
    intro aa_2 hw
    refine an4 hw ?_
    clear hw
    intro he_6 he_7 h_3 h_4 hw
    have h_5 := hw
    clear hw
    have he_6 := he_6.symm
    subst he_6
    subst he_7
    refine ww_eq (ws' := [(hx, .inr (11, [.ref h, .ref qp, .int (nI ac), .int (nI np), .ref qs, .ref qj, .ref ly, .ref qh, .ref kk, .int (nI kc), .ref rd, .ref pg, .int (nI pe), .int kn, .ref ss])), (qj, .inr (2, [.ref jt, .ref je, .ref ju, .ref ja])), (jt, .inl (E.2.1 7, 8, .inr (.inr (.inr (.inr fto)))))]) ?_ rfl rfl rfl
    refine ww_if_eq_f (tgt := 27) C dX11_canBeIf_5 (by decide) (by decide) ?_
    obtain ⟨j_11, hj_11, rfl⟩ := i_nat (x := k) (N := 7) (by omega) (by omega)
    have hzj_11 := nI_toInt (n := j_11) (by omega)
    obtain ⟨Su_12, hTu_12, hVu_12⟩ := SYT.at hto (c := j_11) (by omega) (tn_at (by omega) h_5)
    obtain ⟨i0u_12, i1u_12, i2u_12, i3u_12, sxu_12, syu_12, szu_12, h0u_12, h1u_12, h2u_12, h3u_12, hwfu_12, hnau_12, hafu_12⟩ := id hVu_12
    refine ww_aload_n C dX11_canBeIf_8 0 rfl rfl ?_
    refine ww_get C fg_X11_34 0 rfl rfl dX11_canBeIf_9 ?_
    refine ww_get C fg_X11_80 1 rfl rfl dX11_canBeIf_12 ?_
    refine ww_iload_n C dX11_canBeIf_15 1 rfl rfl ?_
    refine ww_ald (v := (some aa_2)) (t0 := 7) C 2 rfl rfl (vp_in_nI (by omega) (by omega)) (ldn (by omega) (tn_at (by omega) h_5)) dX11_canBeIf_16 ?_
    refine ww_eq (st' := [.ref aa_2]) ?_ rfl rfl rfl
    refine ww_getR C hro fg_X11_101 i0u_12 h0u_12 rfl dX11_canBeIf_17 ?_
    refine ww_if_ne (tgt := 27) C dX11_canBeIf_20 (by decide) (fun c_13 => ?_) (fun c_13 => ?_)
    · have zc_13 : ((Su_12.2.2.2.2.2.2.2 : Nat) : Int) ≠ 0 := i_ne (nI_toInt (n := Su_12.2.2.2.2.2.2.2) (by omega)) rfl c_13
      refine ww_iconst (v := 0) C dX11_canBeIf_27 rfl ?_
      exact ww_zret (u := [(hx, .inr (11, [.ref h, .ref qp, .int (nI ac), .int (nI np), .ref qs, .ref qj, .ref ly, .ref qh, .ref kk, .int (nI kc), .ref rd, .ref pg, .int (nI pe), .int kn, .ref ss])), (qj, .inr (2, [.ref jt, .ref je, .ref ju, .ref ja])), (jt, .inl (E.2.1 7, 8, .inr (.inr (.inr (.inr fto)))))]) C hT [0, 1, 2] rfl rfl rfl rfl rfl dX11_canBeIf_28 (Or.inr ⟨rfl, rfl, (PLN.no3 (by omega) hTu_12 (by omega))⟩)
    · have zc_13 : ((Su_12.2.2.2.2.2.2.2 : Nat) : Int) = 0 := i_eq (nI_toInt (n := Su_12.2.2.2.2.2.2.2) (by omega)) rfl c_13
      refine ww_iconst (v := 1) C dX11_canBeIf_23 rfl ?_
      refine ww_goto (tgt := 28) C dX11_canBeIf_24 (by decide) ?_
      exact ww_zret (u := [(hx, .inr (11, [.ref h, .ref qp, .int (nI ac), .int (nI np), .ref qs, .ref qj, .ref ly, .ref qh, .ref kk, .int (nI kc), .ref rd, .ref pg, .int (nI pe), .int kn, .ref ss])), (qj, .inr (2, [.ref jt, .ref je, .ref ju, .ref ja])), (jt, .inl (E.2.1 7, 8, .inr (.inr (.inr (.inr fto)))))]) C hT [0, 1, 2] rfl rfl rfl rfl rfl dX11_canBeIf_28 (Or.inl ⟨_, rfl, rfl, (by first | assumption | omega | decide), (by first | assumption | omega | decide), h_5, (PLN.mk (by omega) hTu_12 (by omega))⟩)
  · refine an2 hw ?_
    clear hw
    intro he_9 he_10 hw
    have h_8 := hw
    clear hw
    have he_9 := he_9.symm
    subst he_9
    subst he_10
    refine ww_eq (ws' := [(hx, .inr (11, [.ref h, .ref qp, .int (nI ac), .int (nI np), .ref qs, .ref qj, .ref ly, .ref qh, .ref kk, .int (nI kc), .ref rd, .ref pg, .int (nI pe), .int kn, .ref ss])), (qj, .inr (2, [.ref jt, .ref je, .ref ju, .ref ja])), (jt, .inl (E.2.1 7, 8, .inr (.inr (.inr (.inr fto)))))]) ?_ rfl rfl rfl
    refine ww_if_eq_t (tgt := 27) C dX11_canBeIf_5 (by decide) (rfl) ?_
    refine ww_iconst (v := 0) C dX11_canBeIf_27 rfl ?_
    exact ww_zret (u := [(hx, .inr (11, [.ref h, .ref qp, .int (nI ac), .int (nI np), .ref qs, .ref qj, .ref ly, .ref qh, .ref kk, .int (nI kc), .ref rd, .ref pg, .int (nI pe), .int kn, .ref ss])), (qj, .inr (2, [.ref jt, .ref je, .ref ju, .ref ja])), (jt, .inl (E.2.1 7, 8, .inr (.inr (.inr (.inr fto)))))]) C hT [0, 1, 2] rfl rfl rfl rfl rfl dX11_canBeIf_28 (Or.inr ⟨rfl, rfl, (PLN.tno hto h_8)⟩)
/-- what is asked of a saying -/
def ansSy (T : Nat → Option (Int32 × Int32 × Int32 × Int32)) (v0 v1 : Int32) : Int32 := if v0.toInt < 0 ∨ 7 < v0.toInt then -1 else match T (tN v0) with
  | none => -1
  | some q => if v1.toInt = 0 then q.1 else if v1.toInt = 1 then q.2.1 else if v1.toInt = 2 then q.2.2.1 else if v1.toInt = 3 then q.2.2.2 else -1
def sy4 (S : SVal) : Int32 × Int32 × Int32 × Int32 := (nI S.2.2.2.2.1, nI S.2.2.2.2.2.2.2, S.2.2.2.2.2.1, S.2.2.2.2.2.2.1)
def sy4T (T : Nat → Option SVal) : Nat → Option (Int32 × Int32 × Int32 × Int32) := fun k => (T k).map sy4
section SY4
variable {T T' : Nat → Option (Int32 × Int32 × Int32 × Int32)} {v0 v1 : Int32} {j : Nat} {q : Int32 × Int32 × Int32 × Int32}
theorem sy_bad (h : v0.toInt < 0 ∨ 7 < v0.toInt) : (-1 : Int32) = ansSy T v0 v1 := by unfold ansSy; rw [if_pos h]
theorem sy_none (hj : j ≤ 7) (h : T j = none) : (-1 : Int32) = ansSy T (nI j) v1 := by
  unfold ansSy; rw [if_neg (by rw [nI_toInt (by omega)]; omega), tN_n (by omega), h]
theorem sy_0 (hj : j ≤ 7) (h : T j = some q) (hv : v1.toInt = 0) : q.1 = ansSy T (nI j) v1 := by
  unfold ansSy; rw [if_neg (by rw [nI_toInt (by omega)]; omega), tN_n (by omega), h]; show _ = if _ then _ else _; rw [if_pos hv]
theorem sy_1 (hj : j ≤ 7) (h : T j = some q) (hv : v1.toInt = 1) : q.2.1 = ansSy T (nI j) v1 := by
  unfold ansSy; rw [if_neg (by rw [nI_toInt (by omega)]; omega), tN_n (by omega), h]; show _ = if _ then _ else _; rw [if_neg (by omega), if_pos hv]
theorem sy_2 (hj : j ≤ 7) (h : T j = some q) (hv : v1.toInt = 2) : q.2.2.1 = ansSy T (nI j) v1 := by
  unfold ansSy; rw [if_neg (by rw [nI_toInt (by omega)]; omega), tN_n (by omega), h]; show _ = if _ then _ else _; rw [if_neg (by omega), if_neg (by omega), if_pos hv]
theorem sy_3 (hj : j ≤ 7) (h : T j = some q) (hv : v1.toInt = 3) : q.2.2.2 = ansSy T (nI j) v1 := by
  unfold ansSy; rw [if_neg (by rw [nI_toInt (by omega)]; omega), tN_n (by omega), h]; show _ = if _ then _ else _; rw [if_neg (by omega), if_neg (by omega), if_neg (by omega), if_pos hv]
theorem sy_o (h : v1.toInt < 0 ∨ 3 < v1.toInt) : (-1 : Int32) = ansSy T v0 v1 := by
  unfold ansSy
  by_cases h0 : v0.toInt < 0 ∨ 7 < v0.toInt
  · rw [if_pos h0]
  · rw [if_neg h0]
    cases T (tN v0) with
    | none => rfl
    | some q => show _ = if _ then _ else _; rw [if_neg (by omega), if_neg (by omega), if_neg (by omega), if_neg (by omega)]
theorem sy_cg (h : ∀ k, k < 8 → T k = T' k) : ansSy T v0 v1 = ansSy T' v0 v1 := by
  unfold ansSy
  by_cases h0 : v0.toInt < 0 ∨ 7 < v0.toInt
  · rw [if_pos h0, if_pos h0]
  · rw [if_neg h0, if_neg h0, h (tN v0) (by show v0.toInt.toNat < 8; omega)]
theorem sy_cno {E : EV} {ro : va_W} {f : Nat → Option Nat} {T : Nat → Option SVal} {k : Int32} (h : SYT E ro 8 f T) (h9 : k.toInt < 0 ∨ 7 < k.toInt ∨ f k.toNatClampNeg = none) : (-1 : Int32) = ansSy (sy4T T) k v1 := by
  by_cases h0 : k.toInt < 0 ∨ 7 < k.toInt
  · exact sy_bad h0
  · obtain ⟨j, e1, e2⟩ := nI_ex (x := k) (n := 7) (by omega) (by omega)
    have z : f k.toNatClampNeg = none := by
      rcases h9 with z | z | z
      · omega
      · omega
      · exact z
    rw [e1, nI_clamp (by omega)] at z
    rw [e1]
    exact sy_none (by omega) (by unfold sy4T; rw [SYT.no h (by omega) z]; rfl)
theorem sy4_at {T : Nat → Option SVal} {S : SVal} (h : T j = some S) : sy4T T j = some (sy4 S) := by unfold sy4T; rw [h]; rfl
end SY4
theorem dX11_saying_0 : decode cX11_saying 0 = .ok (.aload_n 0, 1) := dl_42 (by decide +kernel)
theorem dX11_saying_1 : decode cX11_saying 1 = .ok (.iload_n 1, 1) := dl_27 (by decide +kernel)
theorem dX11_saying_2 : decode cX11_saying 2 = .ok (.invokevirtual 98, 3) := dl_182 (by decide +kernel)
theorem dX11_saying_5 : decode cX11_saying 5 = .ok (.ifCond .ne 5, 3) := dl_154 (by decide +kernel)
theorem dX11_saying_10 : decode cX11_saying 10 = .ok (.iload_n 2, 1) := dl_28 (by decide +kernel)
theorem dX11_saying_11 : decode cX11_saying 11 = .ok (.tableswitch 81 0 3 #[29, 42, 55, 68], 29) := by decide +kernel
theorem dX11_saying_40 : decode cX11_saying 40 = .ok (.aload_n 0, 1) := dl_42 (by decide +kernel)
theorem dX11_saying_41 : decode cX11_saying 41 = .ok (.getfield 34, 3) := dl_180 (by decide +kernel)
theorem dX11_saying_44 : decode cX11_saying 44 = .ok (.getfield 80, 3) := dl_180 (by decide +kernel)
theorem dX11_saying_47 : decode cX11_saying 47 = .ok (.iload_n 1, 1) := dl_27 (by decide +kernel)
theorem dX11_saying_48 : decode cX11_saying 48 = .ok (.aaload, 1) := dl_50 (by decide +kernel)
theorem dX11_saying_49 : decode cX11_saying 49 = .ok (.getfield 181, 3) := dl_180 (by decide +kernel)
theorem wf_X11_181 : Cond.fieldLink RX11 181 RX8 "tokens" "I" ∈ TB := tbm (tq3 (List.mem_of_getElem? (i := 161) (by decide +kernel))) (by decide +kernel)
theorem fg_X11_181 : FG RX11 181 8 2 := ⟨RX8, TX8, 7, uw_X8, wf_X11_181, rfl, by decide, rfl⟩
theorem dX11_saying_52 : decode cX11_saying 52 = .ok (.ireturn, 1) := dl_172 (by decide +kernel)
theorem dX11_saying_53 : decode cX11_saying 53 = .ok (.aload_n 0, 1) := dl_42 (by decide +kernel)
theorem dX11_saying_54 : decode cX11_saying 54 = .ok (.getfield 34, 3) := dl_180 (by decide +kernel)
theorem dX11_saying_57 : decode cX11_saying 57 = .ok (.getfield 80, 3) := dl_180 (by decide +kernel)
theorem dX11_saying_60 : decode cX11_saying 60 = .ok (.iload_n 1, 1) := dl_27 (by decide +kernel)
theorem dX11_saying_61 : decode cX11_saying 61 = .ok (.aaload, 1) := dl_50 (by decide +kernel)
theorem dX11_saying_62 : decode cX11_saying 62 = .ok (.getfield 101, 3) := dl_180 (by decide +kernel)
theorem dX11_saying_65 : decode cX11_saying 65 = .ok (.ireturn, 1) := dl_172 (by decide +kernel)
theorem dX11_saying_66 : decode cX11_saying 66 = .ok (.aload_n 0, 1) := dl_42 (by decide +kernel)
theorem dX11_saying_67 : decode cX11_saying 67 = .ok (.getfield 34, 3) := dl_180 (by decide +kernel)
theorem dX11_saying_70 : decode cX11_saying 70 = .ok (.getfield 80, 3) := dl_180 (by decide +kernel)
theorem dX11_saying_73 : decode cX11_saying 73 = .ok (.iload_n 1, 1) := dl_27 (by decide +kernel)
theorem dX11_saying_74 : decode cX11_saying 74 = .ok (.aaload, 1) := dl_50 (by decide +kernel)
theorem dX11_saying_75 : decode cX11_saying 75 = .ok (.getfield 187, 3) := dl_180 (by decide +kernel)
theorem wf_X11_187 : Cond.fieldLink RX11 187 RX8 "deep" "I" ∈ TB := tbm (tq3 (List.mem_of_getElem? (i := 169) (by decide +kernel))) (by decide +kernel)
theorem fg_X11_187 : FG RX11 187 8 5 := ⟨RX8, TX8, 7, uw_X8, wf_X11_187, rfl, by decide, rfl⟩
theorem dX11_saying_78 : decode cX11_saying 78 = .ok (.ireturn, 1) := dl_172 (by decide +kernel)
theorem dX11_saying_79 : decode cX11_saying 79 = .ok (.aload_n 0, 1) := dl_42 (by decide +kernel)
theorem dX11_saying_80 : decode cX11_saying 80 = .ok (.getfield 34, 3) := dl_180 (by decide +kernel)
theorem dX11_saying_83 : decode cX11_saying 83 = .ok (.getfield 80, 3) := dl_180 (by decide +kernel)
theorem dX11_saying_86 : decode cX11_saying 86 = .ok (.iload_n 1, 1) := dl_27 (by decide +kernel)
theorem dX11_saying_87 : decode cX11_saying 87 = .ok (.aaload, 1) := dl_50 (by decide +kernel)
theorem dX11_saying_88 : decode cX11_saying 88 = .ok (.getfield 190, 3) := dl_180 (by decide +kernel)
theorem wf_X11_190 : Cond.fieldLink RX11 190 RX8 "names" "I" ∈ TB := tbm (tq3 (List.mem_of_getElem? (i := 171) (by decide +kernel))) (by decide +kernel)
theorem fg_X11_190 : FG RX11 190 8 6 := ⟨RX8, TX8, 7, uw_X8, wf_X11_190, rfl, by decide, rfl⟩
theorem dX11_saying_91 : decode cX11_saying 91 = .ok (.ireturn, 1) := dl_172 (by decide +kernel)
theorem dX11_saying_92 : decode cX11_saying 92 = .ok (.iconst (-1), 1) := dl_2 (by decide +kernel)
theorem dX11_saying_93 : decode cX11_saying 93 = .ok (.ireturn, 1) := dl_172 (by decide +kernel)
theorem dX11_saying_8 : decode cX11_saying 8 = .ok (.iconst (-1), 1) := dl_2 (by decide +kernel)
theorem dX11_saying_9 : decode cX11_saying 9 = .ok (.ireturn, 1) := dl_172 (by decide +kernel)
set_option maxRecDepth 100000 in
set_option maxHeartbeats 4000000 in
theorem x_saying (l : Launch) (E : EV) (ro : va_W) (hx : Nat) (v0 : Int32) (v1 : Int32) (h : Nat) (qp : Nat) (ac : Nat) (np : Nat) (qs : Nat) (qj : Nat) (ly : Nat) (qh : Nat) (kk : Nat) (kc : Nat) (rd : Nat) (pg : Nat) (pe : Nat) (kn : Int32) (ss : Nat) (jt : Nat) (je : Nat) (ju : Nat) (ja : Nat) (fto : Nat → Option Nat) (tT : Nat → Option SVal) (hac : ac ≤ 8) (hnp : np < 8) (hkc : kc ≤ 4) (hpe : pe ≤ 4) (hto : SYT E ro 8 fto tT) : CT l yX11_saying (Cond.code yX11_saying cX11_saying 3 (some .int) :: TB) ({ frames := 2, cells := 0, slots := 0, locals := 43 }) E ro [.ref hx, .int v0, .int v1] [(hx, .inr (11, [.ref h, .ref qp, .int (nI ac), .int (nI np), .ref qs, .ref qj, .ref ly, .ref qh, .ref kk, .int (nI kc), .ref rd, .ref pg, .int (nI pe), .int kn, .ref ss])), (qj, .inr (2, [.ref jt, .ref je, .ref ju, .ref ja])), (jt, .inl (E.2.1 7, 8, .inr (.inr (.inr (.inr fto)))))] (Qi E (fun (rz : Int32) uz => (uz = [(hx, .inr (11, [.ref h, .ref qp, .int (nI ac), .int (nI np), .ref qs, .ref qj, .ref ly, .ref qh, .ref kk, .int (nI kc), .ref rd, .ref pg, .int (nI pe), .int kn, .ref ss])), (qj, .inr (2, [.ref jt, .ref je, .ref ju, .ref ja])), (jt, .inl (E.2.1 7, 8, .inr (.inr (.inr (.inr fto)))))] ∧ (rz = ansSy (sy4T tT) v0 v1)))) 0 0 := by
  refine ct_of rfl rfl ?_
  intro X C hT hin hro
  show WW X 3 E 0 [(0, .ref hx), (1, .int v0), (2, .int v1)] [] [(hx, .inr (11, [.ref h, .ref qp, .int (nI ac), .int (nI np), .ref qs, .ref qj, .ref ly, .ref qh, .ref kk, .int (nI kc), .ref rd, .ref pg, .int (nI pe), .int kn, .ref ss])), (qj, .inr (2, [.ref jt, .ref je, .ref ju, .ref ja])), (jt, .inl (E.2.1 7, 8, .inr (.inr (.inr (.inr fto)))))] 0 0
  refine ww_aload_n C dX11_saying_0 0 rfl rfl ?_
  refine ww_iload_n C dX11_saying_1 1 rfl rfl ?_
  refine ww_ci (wr := []) (k' := 0) (n' := 0) C (run_V (As := [.int v0]) (rest := []) C (x_isTold X.2.1 E ro hx v0 h qp ac np qs qj ly qh kk kc rd pg pe kn ss jt je ju ja fto tT (by omega) (by omega) (by omega) (by omega) hto) mi_X11_isTold wl_X11_98 rfl 0 11 rfl rfl rfl rfl rfl dX11_saying_2) (roK hro) [0, 1, 2] [] rfl rfl rfl rfl (fun r_1 uz hw => ?_)
  rcases hw with hw | hw
  · refine ex1 hw ?_
    clear hw
    intro aa_2 hw
    refine an4 hw ?_
    clear hw
    intro he_6 he_7 h_3 h_4 hw
    have h_5 := hw
    clear hw
    have he_6 := he_6.symm
    subst he_6
    subst he_7
    refine ww_eq (ws' := [(hx, .inr (11, [.ref h, .ref qp, .int (nI ac), .int (nI np), .ref qs, .ref qj, .ref ly, .ref qh, .ref kk, .int (nI kc), .ref rd, .ref pg, .int (nI pe), .int kn, .ref ss])), (qj, .inr (2, [.ref jt, .ref je, .ref ju, .ref ja])), (jt, .inl (E.2.1 7, 8, .inr (.inr (.inr (.inr fto)))))]) ?_ rfl rfl rfl
    refine ww_if_ne_t (tgt := 10) C dX11_saying_5 (by decide) (by decide) ?_
    obtain ⟨j_11, hj_11, rfl⟩ := i_nat (x := v0) (N := 7) (by omega) (by omega)
    have hzj_11 := nI_toInt (n := j_11) (by omega)
    obtain ⟨Su_12, hTu_12, hVu_12⟩ := SYT.at hto (c := j_11) (by omega) (tn_at (by omega) h_5)
    obtain ⟨i0u_12, i1u_12, i2u_12, i3u_12, sxu_12, syu_12, szu_12, h0u_12, h1u_12, h2u_12, h3u_12, hwfu_12, hnau_12, hafu_12⟩ := id hVu_12
    refine ww_iload_n C dX11_saying_10 2 rfl rfl ?_
    by_cases c_13 : (0 : Int) ≤ v1.toInt ∧ v1.toInt ≤ 3
    · rcases sp_0_3 (x := v1) (by omega) (by omega) with rfl | rfl | rfl | rfl
      · refine ww_tableIn (tgt := 40) C dX11_saying_11 (by decide) (by decide) rfl (by decide) ?_
        refine ww_aload_n C dX11_saying_40 0 rfl rfl ?_
        refine ww_get C fg_X11_34 0 rfl rfl dX11_saying_41 ?_
        refine ww_get C fg_X11_80 1 rfl rfl dX11_saying_44 ?_
        refine ww_iload_n C dX11_saying_47 1 rfl rfl ?_
        refine ww_ald (v := (some aa_2)) (t0 := 7) C 2 rfl rfl (vp_in_nI (by omega) (by omega)) (ldn (by omega) (tn_at (by omega) h_5)) dX11_saying_48 ?_
        refine ww_eq (st' := [.ref aa_2]) ?_ rfl rfl rfl
        refine ww_getR C hro fg_X11_181 i0u_12 h0u_12 rfl dX11_saying_49 ?_
        exact ww_iret (u := [(hx, .inr (11, [.ref h, .ref qp, .int (nI ac), .int (nI np), .ref qs, .ref qj, .ref ly, .ref qh, .ref kk, .int (nI kc), .ref rd, .ref pg, .int (nI pe), .int kn, .ref ss])), (qj, .inr (2, [.ref jt, .ref je, .ref ju, .ref ja])), (jt, .inl (E.2.1 7, 8, .inr (.inr (.inr (.inr fto)))))]) C hT [0, 1, 2] rfl rfl rfl rfl dX11_saying_52 (⟨rfl, (sy_0 (q := sy4 Su_12) (by omega) (sy4_at hTu_12) (by decide))⟩)
      · refine ww_tableIn (tgt := 53) C dX11_saying_11 (by decide) (by decide) rfl (by decide) ?_
        refine ww_aload_n C dX11_saying_53 0 rfl rfl ?_
        refine ww_get C fg_X11_34 0 rfl rfl dX11_saying_54 ?_
        refine ww_get C fg_X11_80 1 rfl rfl dX11_saying_57 ?_
        refine ww_iload_n C dX11_saying_60 1 rfl rfl ?_
        refine ww_ald (v := (some aa_2)) (t0 := 7) C 2 rfl rfl (vp_in_nI (by omega) (by omega)) (ldn (by omega) (tn_at (by omega) h_5)) dX11_saying_61 ?_
        refine ww_eq (st' := [.ref aa_2]) ?_ rfl rfl rfl
        refine ww_getR C hro fg_X11_101 i0u_12 h0u_12 rfl dX11_saying_62 ?_
        exact ww_iret (u := [(hx, .inr (11, [.ref h, .ref qp, .int (nI ac), .int (nI np), .ref qs, .ref qj, .ref ly, .ref qh, .ref kk, .int (nI kc), .ref rd, .ref pg, .int (nI pe), .int kn, .ref ss])), (qj, .inr (2, [.ref jt, .ref je, .ref ju, .ref ja])), (jt, .inl (E.2.1 7, 8, .inr (.inr (.inr (.inr fto)))))]) C hT [0, 1, 2] rfl rfl rfl rfl dX11_saying_65 (⟨rfl, (sy_1 (q := sy4 Su_12) (by omega) (sy4_at hTu_12) (by decide))⟩)
      · refine ww_tableIn (tgt := 66) C dX11_saying_11 (by decide) (by decide) rfl (by decide) ?_
        refine ww_aload_n C dX11_saying_66 0 rfl rfl ?_
        refine ww_get C fg_X11_34 0 rfl rfl dX11_saying_67 ?_
        refine ww_get C fg_X11_80 1 rfl rfl dX11_saying_70 ?_
        refine ww_iload_n C dX11_saying_73 1 rfl rfl ?_
        refine ww_ald (v := (some aa_2)) (t0 := 7) C 2 rfl rfl (vp_in_nI (by omega) (by omega)) (ldn (by omega) (tn_at (by omega) h_5)) dX11_saying_74 ?_
        refine ww_eq (st' := [.ref aa_2]) ?_ rfl rfl rfl
        refine ww_getR C hro fg_X11_187 i0u_12 h0u_12 rfl dX11_saying_75 ?_
        exact ww_iret (u := [(hx, .inr (11, [.ref h, .ref qp, .int (nI ac), .int (nI np), .ref qs, .ref qj, .ref ly, .ref qh, .ref kk, .int (nI kc), .ref rd, .ref pg, .int (nI pe), .int kn, .ref ss])), (qj, .inr (2, [.ref jt, .ref je, .ref ju, .ref ja])), (jt, .inl (E.2.1 7, 8, .inr (.inr (.inr (.inr fto)))))]) C hT [0, 1, 2] rfl rfl rfl rfl dX11_saying_78 (⟨rfl, (sy_2 (q := sy4 Su_12) (by omega) (sy4_at hTu_12) (by decide))⟩)
      · refine ww_tableIn (tgt := 79) C dX11_saying_11 (by decide) (by decide) rfl (by decide) ?_
        refine ww_aload_n C dX11_saying_79 0 rfl rfl ?_
        refine ww_get C fg_X11_34 0 rfl rfl dX11_saying_80 ?_
        refine ww_get C fg_X11_80 1 rfl rfl dX11_saying_83 ?_
        refine ww_iload_n C dX11_saying_86 1 rfl rfl ?_
        refine ww_ald (v := (some aa_2)) (t0 := 7) C 2 rfl rfl (vp_in_nI (by omega) (by omega)) (ldn (by omega) (tn_at (by omega) h_5)) dX11_saying_87 ?_
        refine ww_eq (st' := [.ref aa_2]) ?_ rfl rfl rfl
        refine ww_getR C hro fg_X11_190 i0u_12 h0u_12 rfl dX11_saying_88 ?_
        exact ww_iret (u := [(hx, .inr (11, [.ref h, .ref qp, .int (nI ac), .int (nI np), .ref qs, .ref qj, .ref ly, .ref qh, .ref kk, .int (nI kc), .ref rd, .ref pg, .int (nI pe), .int kn, .ref ss])), (qj, .inr (2, [.ref jt, .ref je, .ref ju, .ref ja])), (jt, .inl (E.2.1 7, 8, .inr (.inr (.inr (.inr fto)))))]) C hT [0, 1, 2] rfl rfl rfl rfl dX11_saying_91 (⟨rfl, (sy_3 (q := sy4 Su_12) (by omega) (sy4_at hTu_12) (by decide))⟩)
    · refine ww_tableOut (tgt := 92) C dX11_saying_11 (by omega) (by decide) ?_
      refine ww_iconst (v := (-1)) C dX11_saying_92 rfl ?_
      exact ww_iret (u := [(hx, .inr (11, [.ref h, .ref qp, .int (nI ac), .int (nI np), .ref qs, .ref qj, .ref ly, .ref qh, .ref kk, .int (nI kc), .ref rd, .ref pg, .int (nI pe), .int kn, .ref ss])), (qj, .inr (2, [.ref jt, .ref je, .ref ju, .ref ja])), (jt, .inl (E.2.1 7, 8, .inr (.inr (.inr (.inr fto)))))]) C hT [0, 1, 2] rfl rfl rfl rfl dX11_saying_93 (⟨rfl, (sy_o (by omega))⟩)
  · refine an2 hw ?_
    clear hw
    intro he_9 he_10 hw
    have h_8 := hw
    clear hw
    have he_9 := he_9.symm
    subst he_9
    subst he_10
    refine ww_eq (ws' := [(hx, .inr (11, [.ref h, .ref qp, .int (nI ac), .int (nI np), .ref qs, .ref qj, .ref ly, .ref qh, .ref kk, .int (nI kc), .ref rd, .ref pg, .int (nI pe), .int kn, .ref ss])), (qj, .inr (2, [.ref jt, .ref je, .ref ju, .ref ja])), (jt, .inl (E.2.1 7, 8, .inr (.inr (.inr (.inr fto)))))]) ?_ rfl rfl rfl
    refine ww_if_ne_f (tgt := 10) C dX11_saying_5 (by decide) (rfl) ?_
    refine ww_iconst (v := (-1)) C dX11_saying_8 rfl ?_
    exact ww_iret (u := [(hx, .inr (11, [.ref h, .ref qp, .int (nI ac), .int (nI np), .ref qs, .ref qj, .ref ly, .ref qh, .ref kk, .int (nI kc), .ref rd, .ref pg, .int (nI pe), .int kn, .ref ss])), (qj, .inr (2, [.ref jt, .ref je, .ref ju, .ref ja])), (jt, .inl (E.2.1 7, 8, .inr (.inr (.inr (.inr fto)))))]) C hT [0, 1, 2] rfl rfl rfl rfl dX11_saying_9 (⟨rfl, (sy_cno hto h_8)⟩)
end
