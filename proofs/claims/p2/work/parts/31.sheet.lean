/-! sheets: what is put into a cell, what is read -/
def putv (l : Nat) (v : Int32) : Int32 := if l = 0 then v.toInt8.toInt32 else if l = 1 then v.toInt16.toInt32 else v
def ckR (cl : Nat → Int32) (sz : Nat) (f : Int) : Nat → Nat → Int32
  | 0, _ => 0
  | m + 1, i => if f < 0 ∨ (sz : Int) ≤ f + i then -12 else if (cl (f.toNat + i)).toInt < 0 ∨ 15 < (cl (f.toNat + i)).toInt then (-20 : Int32) - nI i else ckR cl sz f m (i + 1)
section CK
variable {cl : Nat → Int32} {sz n i : Nat} {f : Int} {x : Int32}
theorem ck_12 (hi : i < n) (h : f < 0 ∨ (sz : Int) ≤ f + i) : ckR cl sz f (n - i) i = -12 := by
  rw [show n - i = n - (i + 1) + 1 by omega]
  show (if f < 0 ∨ (sz : Int) ≤ f + i then (-12 : Int32) else _) = _
  rw [if_pos h]
theorem ck_20 (hi : i < n) (h : 0 ≤ f ∧ f + i < sz) (hx : cl (f.toNat + i) = x) (h2 : x.toInt < 0 ∨ 15 < x.toInt) : ckR cl sz f (n - i) i = (-20 : Int32) - nI i := by
  rw [show n - i = n - (i + 1) + 1 by omega]
  show (if f < 0 ∨ (sz : Int) ≤ f + i then (-12 : Int32) else if (cl (f.toNat + i)).toInt < 0 ∨ 15 < (cl (f.toNat + i)).toInt then (-20 : Int32) - nI i else _) = _
  rw [if_neg (by omega), hx, if_pos h2]
theorem ck_go (hi : i < n) (h : 0 ≤ f ∧ f + i < sz) (hx : cl (f.toNat + i) = x) (h2 : 0 ≤ x.toInt ∧ x.toInt ≤ 15) : ckR cl sz f (n - i) i = ckR cl sz f (n - (i + 1)) (i + 1) := by
  rw [show n - i = n - (i + 1) + 1 by omega]
  show (if f < 0 ∨ (sz : Int) ≤ f + i then (-12 : Int32) else if (cl (f.toNat + i)).toInt < 0 ∨ 15 < (cl (f.toNat + i)).toInt then (-20 : Int32) - nI i else ckR cl sz f (n - (i + 1)) (i + 1)) = _
  rw [if_neg (by omega), hx, if_neg (by omega)]
theorem ck_end (h : n ≤ i) : ckR cl sz f (n - i) i = 0 := by rw [show n - i = 0 by omega]; rfl
end CK
theorem ck_congr {cl dl : Nat → Int32} {sz : Nat} {f : Int} (h : ∀ j, j < sz → cl j = dl j) : ∀ (m i : Nat), ckR cl sz f m i = ckR dl sz f m i
  | 0, _ => rfl
  | m + 1, i => by
    show (if f < 0 ∨ (sz : Int) ≤ f + i then (-12 : Int32) else if (cl (f.toNat + i)).toInt < 0 ∨ 15 < (cl (f.toNat + i)).toInt then (-20 : Int32) - nI i else ckR cl sz f m (i + 1)) = (if f < 0 ∨ (sz : Int) ≤ f + i then (-12 : Int32) else if (dl (f.toNat + i)).toInt < 0 ∨ 15 < (dl (f.toNat + i)).toInt then (-20 : Int32) - nI i else ckR dl sz f m (i + 1))
    by_cases q : f < 0 ∨ (sz : Int) ≤ f + i
    · rw [if_pos q, if_pos q]
    · rw [if_neg q, if_neg q, h (f.toNat + i) (by omega), ck_congr h m (i + 1)]
def chkA (t la sz : Nat) (cl : Nat → Int32) (as f : Int) (n : Nat) : Int32 := if t = 0 then -11 else if (la : Int) ≠ as then -13 else ckR cl sz f n 0
theorem chk_0 {t la sz n : Nat} {cl : Nat → Int32} {as f : Int} (h : t = 0) : (-11 : Int32) = chkA t la sz cl as f n := by unfold chkA; rw [if_pos h]
theorem chk_1 {t la sz n : Nat} {cl : Nat → Int32} {as f : Int} (h : t ≠ 0) (h1 : (la : Int) ≠ as) : (-13 : Int32) = chkA t la sz cl as f n := by unfold chkA; rw [if_neg h, if_pos h1]
theorem chk_2 {t la sz n : Nat} {cl : Nat → Int32} {as f : Int} (h : t ≠ 0) (h1 : (la : Int) = as) : chkA t la sz cl as f n = ckR cl sz f n 0 := by unfold chkA; rw [if_neg h, if_neg (fun q => q h1)]
def rdA (t la sz : Nat) (cl : Nat → Int32) (l : Nat) (f : Int32) (n : Nat) : Int32 := if chkA t la sz cl l f.toInt n = 0 then nI n else chkA t la sz cl l f.toInt n
theorem rdA_neg {t la sz l n : Nat} {cl : Nat → Int32} {f r : Int32} (h : r = chkA t la sz cl l f.toInt n) (hr : r.toInt < 0) : r = rdA t la sz cl l f n := by
  unfold rdA
  rw [← h, if_neg]
  intro q
  rw [q] at hr
  exact absurd hr (by decide)
theorem rdA_ok {t la sz l n : Nat} {cl : Nat → Int32} {f : Int32} (h : (0 : Int32) = chkA t la sz cl l f.toInt n) : nI n = rdA t la sz cl l f n := by
  unfold rdA
  rw [← h, if_pos rfl]
def Z0x (i : Nat) (f : Nat → Int32) : Prop := ∀ j, j < i → f j = 0
theorem Z0x.nil {f : Nat → Int32} : Z0x 0 f := fun j h => absurd h (by omega)
theorem Z0x.ext {i : Nat} {f g : Nat → Int32} (h : Z0x i f) (e : upd f i 0 = g) : Z0x (i + 1) g := by
  intro j hj
  by_cases q : j = i
  · rw [q, ← e, pk_us]
  · rw [← e, pk_un q]; exact h j (by omega)
theorem dX9_begin_0 : decode cX9_begin 0 = .ok (.aload_n 0, 1) := by decide +kernel
theorem dX9_begin_1 : decode cX9_begin 1 = .ok (.iconst 1, 1) := by decide +kernel
theorem dX9_begin_2 : decode cX9_begin 2 = .ok (.putfield 15, 3) := by decide +kernel
theorem uw_X9 : ∀ w ∈ u_ws RX9 TX9 4, w ∈ TB := uw_of [327, 329, 331, 333] (by decide +kernel) (by decide +kernel)
theorem wf_X9_15 : Cond.fieldLink RX9 15 RX9 "isThere" "Z" ∈ TB := tbm (tq2 (List.mem_of_getElem? (i := 80) (by decide +kernel))) (by decide +kernel)
theorem fp_X9_15 : FP RX9 15 9 0 .boolean false := ⟨RX9, TX9, 4, tyX9, uw_X9, wf_X9_15, rfl, by decide, rfl, tyX9_ok, nmX9, rfl, by decide +kernel⟩
theorem dX9_begin_5 : decode cX9_begin 5 = .ok (.aload_n 0, 1) := by decide +kernel
theorem dX9_begin_6 : decode cX9_begin 6 = .ok (.iload_n 1, 1) := by decide +kernel
theorem dX9_begin_7 : decode cX9_begin 7 = .ok (.putfield 19, 3) := by decide +kernel
theorem wf_X9_19 : Cond.fieldLink RX9 19 RX9 "lane" "I" ∈ TB := tbm (tq2 (List.mem_of_getElem? (i := 84) (by decide +kernel))) (by decide +kernel)
theorem fp_X9_19 : FP RX9 19 9 2 .int false := ⟨RX9, TX9, 4, tyX9, uw_X9, wf_X9_19, rfl, by decide, rfl, tyX9_ok, nmX9, rfl, by decide +kernel⟩
theorem dX9_begin_10 : decode cX9_begin 10 = .ok (.aload_n 0, 1) := by decide +kernel
theorem dX9_begin_11 : decode cX9_begin 11 = .ok (.iload_n 2, 1) := by decide +kernel
theorem dX9_begin_12 : decode cX9_begin 12 = .ok (.putfield 23, 3) := by decide +kernel
theorem wf_X9_23 : Cond.fieldLink RX9 23 RX9 "size" "I" ∈ TB := tbm (tq2 (List.mem_of_getElem? (i := 82) (by decide +kernel))) (by decide +kernel)
theorem fp_X9_23 : FP RX9 23 9 1 .int false := ⟨RX9, TX9, 4, tyX9, uw_X9, wf_X9_23, rfl, by decide, rfl, tyX9_ok, nmX9, rfl, by decide +kernel⟩
theorem dX9_begin_15 : decode cX9_begin 15 = .ok (.iconst 0, 1) := by decide +kernel
theorem dX9_begin_16 : decode cX9_begin 16 = .ok (.istore_n 3, 1) := by decide +kernel
theorem dX9_begin_17 : decode cX9_begin 17 = .ok (.iload_n 3, 1) := by decide +kernel
theorem dX9_begin_18 : decode cX9_begin 18 = .ok (.iload_n 2, 1) := by decide +kernel
theorem dX9_begin_19 : decode cX9_begin 19 = .ok (.if_icmp .ge 16, 3) := by decide +kernel
theorem dX9_begin_35 : decode cX9_begin 35 = .ok (.return_, 1) := by decide +kernel
theorem dX9_begin_22 : decode cX9_begin 22 = .ok (.aload_n 0, 1) := by decide +kernel
theorem dX9_begin_23 : decode cX9_begin 23 = .ok (.getfield 9, 3) := by decide +kernel
theorem wf_X9_9 : Cond.fieldLink RX9 9 RX9 "cells" "[I" ∈ TB := tbm (tq2 (List.mem_of_getElem? (i := 85) (by decide +kernel))) (by decide +kernel)
theorem fg_X9_9 : FG RX9 9 9 3 := ⟨RX9, TX9, 4, uw_X9, wf_X9_9, rfl, by decide, rfl⟩
theorem dX9_begin_26 : decode cX9_begin 26 = .ok (.iload_n 3, 1) := by decide +kernel
theorem dX9_begin_27 : decode cX9_begin 27 = .ok (.iconst 0, 1) := by decide +kernel
theorem dX9_begin_28 : decode cX9_begin 28 = .ok (.iastore, 1) := by decide +kernel
theorem dX9_begin_29 : decode cX9_begin 29 = .ok (.iinc 3 1, 3) := by decide +kernel
theorem dX9_begin_32 : decode cX9_begin 32 = .ok (.goto (-15), 3) := by decide +kernel
set_option maxRecDepth 100000 in
set_option maxHeartbeats 4000000 in
theorem s_begin (l : Launch) (E : EV) (ro : va_W) (h : Nat) (nl : Int32) (n : Nat) (th : Int32) (sz : Int32) (la : Int32) (a : Nat) (f : Nat → Int32) (hn : n ≤ 48) : CT l yX9_begin (Cond.code yX9_begin cX9_begin 4 none :: TB) ({ frames := 0, cells := 0, slots := 0, locals := 0 }) E ro [.ref h, .int nl, .int (nI n)] [(h, .inr (9, [.int th, .int sz, .int la, .ref a])), (a, .inl (E.2.1 1, 48, .inl f))] (Qv E (fun uz => (∃ (f2 : Nat → Int32), uz = [(h, .inr (9, [.int 1, .int (nI n), .int nl, .ref a])), (a, .inl (E.2.1 1, 48, .inl f2))] ∧ (Z0x n f2)))) 0 0 := by
  refine ct_of rfl rfl ?_
  intro X C hT hin hro
  show WW X 4 E 0 [(0, .ref h), (1, .int nl), (2, .int (nI n))] [] [(h, .inr (9, [.int th, .int sz, .int la, .ref a])), (a, .inl (E.2.1 1, 48, .inl f))] 0 0
  refine ww_aload_n C dX9_begin_0 0 rfl rfl ?_
  refine ww_iconst (v := 1) C dX9_begin_1 rfl ?_
  refine ww_put (ws' := [(h, .inr (9, [.int 1, .int sz, .int la, .ref a])), (a, .inl (E.2.1 1, 48, .inl f))]) C fp_X9_15 0 rfl rfl rfl rfl rfl dX9_begin_2 ?_
  refine ww_aload_n C dX9_begin_5 0 rfl rfl ?_
  refine ww_iload_n C dX9_begin_6 1 rfl rfl ?_
  refine ww_put (ws' := [(h, .inr (9, [.int 1, .int sz, .int nl, .ref a])), (a, .inl (E.2.1 1, 48, .inl f))]) C fp_X9_19 0 rfl rfl rfl rfl rfl dX9_begin_7 ?_
  refine ww_aload_n C dX9_begin_10 0 rfl rfl ?_
  refine ww_iload_n C dX9_begin_11 2 rfl rfl ?_
  refine ww_put (ws' := [(h, .inr (9, [.int 1, .int (nI n), .int nl, .ref a])), (a, .inl (E.2.1 1, 48, .inl f))]) C fp_X9_23 0 rfl rfl rfl rfl rfl dX9_begin_12 ?_
  refine ww_iconst (v := 0) C dX9_begin_15 rfl ?_
  refine ww_istore_n (lv' := [(3, .int 0), (0, .ref h), (1, .int nl), (2, .int (nI n))]) C dX9_begin_16 rfl rfl rfl ?_
  have loop_17 : ∀ (fu : Nat) (i1 : Nat) (f1 : Nat → Int32), (i1 ≤ n) → (Z0x i1 f1) → n - i1 < fu → WW X 4 E 17 [(3, .int (nI i1)), (0, .ref h), (1, .int nl), (2, .int (nI n))] [] [(h, .inr (9, [.int 1, .int (nI n), .int nl, .ref a])), (a, .inl (E.2.1 1, 48, .inl f1))] 0 0 := by
    intro fu
    induction fu with
    | zero => intro i1 f1 hi1 hz0 hmeas; exact absurd hmeas (Nat.not_lt_zero _)
    | succ fu ih_17 =>
      intro i1 f1 hi1 hz0 hmeas
      refine ww_iload_n C dX9_begin_17 0 rfl rfl ?_
      refine ww_iload_n C dX9_begin_18 3 rfl rfl ?_
      refine ww_icmp_ge (tgt := 35) C dX9_begin_19 (by decide) (fun c_1 => ?_) (fun c_1 => ?_)
      · have zc_1 : ((i1 : Nat) : Int) ≥ ((n : Nat) : Int) := i_le (nI_toInt (n := n) (by omega)) (nI_toInt (n := i1) (by omega)) c_1
        exact ww_vret (u := [(h, .inr (9, [.int 1, .int (nI n), .int nl, .ref a])), (a, .inl (E.2.1 1, 48, .inl f1))]) C hT [0, 1] rfl rfl rfl rfl dX9_begin_35 (⟨f1, rfl, (by rw [show n = i1 by omega]; exact hz0)⟩)
      · have zc_1 : ((i1 : Nat) : Int) < ((n : Nat) : Int) := i_nle (nI_toInt (n := n) (by omega)) (nI_toInt (n := i1) (by omega)) c_1
        refine ww_aload_n C dX9_begin_22 1 rfl rfl ?_
        refine ww_get C fg_X9_9 0 rfl rfl dX9_begin_23 ?_
        refine ww_iload_n C dX9_begin_26 0 rfl rfl ?_
        refine ww_iconst (v := 0) C dX9_begin_27 rfl ?_
        obtain ⟨f_2, ef_2⟩ : ∃ z : Nat → Int32, upd f1 i1 0 = z := ⟨_, rfl⟩
        refine ww_iast (ws' := [(h, .inr (9, [.int 1, .int (nI n), .int nl, .ref a])), (a, .inl (E.2.1 1, 48, .inl f_2))]) C 1 rfl (vp_in_nI (by omega) (by omega)) (ldn2 (by omega) ef_2) rfl dX9_begin_28 ?_
        refine ww_iinc (j := 0) (v := (nI (i1 + 1))) (lv' := [(3, .int (nI (i1 + 1))), (0, .ref h), (1, .int nl), (2, .int (nI n))]) C dX9_begin_29 rfl (nI_add i1 1) rfl rfl ?_
        refine ww_goto (tgt := 17) C dX9_begin_32 (by decide) ?_
        exact ww_lv [0, 1, 2, 3] rfl (ww_sub [0, 1] rfl rfl (ih_17 (i1 + 1) f_2 (by omega) (Z0x.ext hz0 ef_2) (by omega)))
  exact ww_lv [0, 1, 2, 3] rfl (ww_sub [0, 1] rfl rfl (loop_17 _ 0 f (by omega) Z0x.nil (Nat.lt_succ_self _)))
theorem dX9_put_0 : decode cX9_put 0 = .ok (.aload_n 0, 1) := by decide +kernel
theorem dX9_put_1 : decode cX9_put 1 = .ok (.getfield 19, 3) := by decide +kernel
theorem fg_X9_19 : FG RX9 19 9 2 := ⟨RX9, TX9, 4, uw_X9, wf_X9_19, rfl, by decide, rfl⟩
theorem dX9_put_4 : decode cX9_put 4 = .ok (.ifCond .ne 14, 3) := by decide +kernel
theorem dX9_put_18 : decode cX9_put 18 = .ok (.aload_n 0, 1) := by decide +kernel
theorem dX9_put_19 : decode cX9_put 19 = .ok (.getfield 9, 3) := by decide +kernel
theorem dX9_put_22 : decode cX9_put 22 = .ok (.iload_n 1, 1) := by decide +kernel
theorem dX9_put_23 : decode cX9_put 23 = .ok (.aload_n 0, 1) := by decide +kernel
theorem dX9_put_24 : decode cX9_put 24 = .ok (.getfield 19, 3) := by decide +kernel
theorem dX9_put_27 : decode cX9_put 27 = .ok (.iconst 1, 1) := by decide +kernel
theorem dX9_put_28 : decode cX9_put 28 = .ok (.if_icmp .ne 8, 3) := by decide +kernel
theorem dX9_put_36 : decode cX9_put 36 = .ok (.iload_n 2, 1) := by decide +kernel
theorem dX9_put_37 : decode cX9_put 37 = .ok (.iastore, 1) := by decide +kernel
theorem dX9_put_38 : decode cX9_put 38 = .ok (.return_, 1) := by decide +kernel
theorem dX9_put_31 : decode cX9_put 31 = .ok (.iload_n 2, 1) := by decide +kernel
theorem dX9_put_32 : decode cX9_put 32 = .ok (.i2s, 1) := by decide +kernel
theorem dX9_put_33 : decode cX9_put 33 = .ok (.goto 4, 3) := by decide +kernel
theorem dX9_put_7 : decode cX9_put 7 = .ok (.aload_n 0, 1) := by decide +kernel
theorem dX9_put_8 : decode cX9_put 8 = .ok (.getfield 9, 3) := by decide +kernel
theorem dX9_put_11 : decode cX9_put 11 = .ok (.iload_n 1, 1) := by decide +kernel
theorem dX9_put_12 : decode cX9_put 12 = .ok (.iload_n 2, 1) := by decide +kernel
theorem dX9_put_13 : decode cX9_put 13 = .ok (.i2b, 1) := by decide +kernel
theorem dX9_put_14 : decode cX9_put 14 = .ok (.iastore, 1) := by decide +kernel
theorem dX9_put_15 : decode cX9_put 15 = .ok (.goto 23, 3) := by decide +kernel
set_option maxRecDepth 100000 in
set_option maxHeartbeats 4000000 in
theorem s_put (l : Launch) (E : EV) (ro : va_W) (h : Nat) (i : Nat) (v : Int32) (sz : Nat) (la : Nat) (a : Nat) (f : Nat → Int32) (hi : i < 48) (hla : la ≤ 2) : CT l yX9_put (Cond.code yX9_put cX9_put 3 none :: TB) ({ frames := 0, cells := 0, slots := 0, locals := 0 }) E ro [.ref h, .int (nI i), .int v] [(h, .inr (9, [.int 1, .int (nI sz), .int (nI la), .ref a])), (a, .inl (E.2.1 1, 48, .inl f))] (Qv E (fun uz => (∃ (f2 : Nat → Int32), uz = [(h, .inr (9, [.int 1, .int (nI sz), .int (nI la), .ref a])), (a, .inl (E.2.1 1, 48, .inl f2))] ∧ (upd f i (putv la v) = f2)))) 0 0 := by
  refine ct_of rfl rfl ?_
  intro X C hT hin hro
  show WW X 3 E 0 [(0, .ref h), (1, .int (nI i)), (2, .int v)] [] [(h, .inr (9, [.int 1, .int (nI sz), .int (nI la), .ref a])), (a, .inl (E.2.1 1, 48, .inl f))] 0 0
  refine ww_aload_n C dX9_put_0 0 rfl rfl ?_
  refine ww_get C fg_X9_19 0 rfl rfl dX9_put_1 ?_
  refine ww_if_ne (tgt := 18) C dX9_put_4 (by decide) (fun c_1 => ?_) (fun c_1 => ?_)
  · have zc_1 : ((la : Nat) : Int) ≠ 0 := i_ne (nI_toInt (n := la) (by omega)) rfl c_1
    refine ww_aload_n C dX9_put_18 0 rfl rfl ?_
    refine ww_get C fg_X9_9 0 rfl rfl dX9_put_19 ?_
    refine ww_iload_n C dX9_put_22 1 rfl rfl ?_
    refine ww_aload_n C dX9_put_23 0 rfl rfl ?_
    refine ww_get C fg_X9_19 0 rfl rfl dX9_put_24 ?_
    refine ww_iconst (v := 1) C dX9_put_27 rfl ?_
    refine ww_icmp_ne (tgt := 36) C dX9_put_28 (by decide) (fun c_2 => ?_) (fun c_2 => ?_)
    · have zc_2 : ((la : Nat) : Int) ≠ 1 := i_ne (nI_toInt (n := la) (by omega)) rfl c_2
      refine ww_iload_n C dX9_put_36 2 rfl rfl ?_
      obtain ⟨f_3, ef_3⟩ : ∃ z : Nat → Int32, upd f i v = z := ⟨_, rfl⟩
      refine ww_iast (ws' := [(h, .inr (9, [.int 1, .int (nI sz), .int (nI la), .ref a])), (a, .inl (E.2.1 1, 48, .inl f_3))]) C 1 rfl (vp_in_nI (by omega) (by omega)) (ldn2 (by omega) ef_3) rfl dX9_put_37 ?_
      exact ww_vret (u := [(h, .inr (9, [.int 1, .int (nI sz), .int (nI la), .ref a])), (a, .inl (E.2.1 1, 48, .inl f_3))]) C hT [0, 1] rfl rfl rfl rfl dX9_put_38 (⟨f_3, rfl, (by unfold putv; rw [if_neg (by omega), if_neg (by omega)]; exact ef_3)⟩)
    · have zc_2 : ((la : Nat) : Int) = 1 := i_eq (nI_toInt (n := la) (by omega)) rfl c_2
      refine ww_iload_n C dX9_put_31 2 rfl rfl ?_
      obtain ⟨x_4, ex_4⟩ : ∃ z : Int32, v.toInt16.toInt32 = z := ⟨_, rfl⟩
      refine ww_i2s (v := x_4) C dX9_put_32 ex_4 ?_
      refine ww_goto (tgt := 37) C dX9_put_33 (by decide) ?_
      obtain ⟨f_5, ef_5⟩ : ∃ z : Nat → Int32, upd f i x_4 = z := ⟨_, rfl⟩
      refine ww_iast (ws' := [(h, .inr (9, [.int 1, .int (nI sz), .int (nI la), .ref a])), (a, .inl (E.2.1 1, 48, .inl f_5))]) C 1 rfl (vp_in_nI (by omega) (by omega)) (ldn2 (by omega) ef_5) rfl dX9_put_37 ?_
      exact ww_vret (u := [(h, .inr (9, [.int 1, .int (nI sz), .int (nI la), .ref a])), (a, .inl (E.2.1 1, 48, .inl f_5))]) C hT [0, 1] rfl rfl rfl rfl dX9_put_38 (⟨f_5, rfl, (by unfold putv; rw [if_neg (by omega), if_pos (by omega), ex_4]; exact ef_5)⟩)
  · have zc_1 : ((la : Nat) : Int) = 0 := i_eq (nI_toInt (n := la) (by omega)) rfl c_1
    refine ww_aload_n C dX9_put_7 0 rfl rfl ?_
    refine ww_get C fg_X9_9 0 rfl rfl dX9_put_8 ?_
    refine ww_iload_n C dX9_put_11 1 rfl rfl ?_
    refine ww_iload_n C dX9_put_12 2 rfl rfl ?_
    obtain ⟨x_6, ex_6⟩ : ∃ z : Int32, v.toInt8.toInt32 = z := ⟨_, rfl⟩
    refine ww_i2b (v := x_6) C dX9_put_13 ex_6 ?_
    obtain ⟨f_7, ef_7⟩ : ∃ z : Nat → Int32, upd f i x_6 = z := ⟨_, rfl⟩
    refine ww_iast (ws' := [(h, .inr (9, [.int 1, .int (nI sz), .int (nI la), .ref a])), (a, .inl (E.2.1 1, 48, .inl f_7))]) C 1 rfl (vp_in_nI (by omega) (by omega)) (ldn2 (by omega) ef_7) rfl dX9_put_14 ?_
    refine ww_goto (tgt := 38) C dX9_put_15 (by decide) ?_
    exact ww_vret (u := [(h, .inr (9, [.int 1, .int (nI sz), .int (nI la), .ref a])), (a, .inl (E.2.1 1, 48, .inl f_7))]) C hT [0, 1] rfl rfl rfl rfl dX9_put_38 (⟨f_7, rfl, (by unfold putv; rw [if_pos (by omega), ex_6]; exact ef_7)⟩)
