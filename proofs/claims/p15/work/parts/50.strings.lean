/-! strings, tape, parser: what is asked of them -/
theorem sl_le (i : Nat) : sLen.getD i 0 ≤ 8 := by
  by_cases h : i < 14
  · have key : ∀ i, i < 14 → sLen.getD i 0 ≤ 8 := by decide +kernel
    exact key i h
  · have e : sLen.getD i 0 = 0 := by rw [List.getD_eq_getElem?_getD, List.getElem?_eq_none (show sLen.length ≤ i by show 14 ≤ i; omega)]; rfl
    rw [e]; omega
theorem nI_nn {n : Nat} (h : n < 2 ^ 31) : ¬ nI n < 0 := by
  rw [Int32.lt_iff_toInt_lt, nI_toInt h]
  have e : (0 : Int32).toInt = 0 := rfl
  omega
theorem ble4 {n : Nat} (h : n ≤ 1000) : Nat.ble (n * componentBytes .int) 536870912 = true := Nat.ble_eq_true_of_le (by show n * 4 ≤ 536870912; omega)
theorem cnN_le {rm : Room} {k n s s' k' n' : Nat} (h : s' ≤ s) (hk : cnN rm k n s k' n' = true) : cnN rm k n s' k' n' = true := by
  simp only [cnN, Bool.and_eq_true] at *
  have h1 := Nat.le_of_ble_eq_true hk.2.1
  exact ⟨hk.1, Nat.ble_eq_true_of_le (by omega), hk.2.2⟩
theorem shr_0 (x : Int32) : x >>> ((0 : Int32) &&& 31) = x := by
  have e : ((0 : Int32) &&& 31) = 0 := by decide
  rw [e]; simp
theorem sb_c {i j : Nat} (hi : i < sLen.length) (hj : j < sLen.getD i 0) {x y : Int32} (ex : (sByt.getD i []).getD j 0 &&& 255 = x) (ey : (x.toUInt32 % 65536).toInt32 = y) : y = (sByt.getD i []).getD j 0 := by
  have key : ∀ i, i < 14 → ∀ j, j < 8 → (((sByt.getD i []).getD j 0 &&& 255).toUInt32 % 65536).toInt32 = (sByt.getD i []).getD j 0 := by decide +kernel
  subst ey; subst ex
  exact key i hi j (Nat.lt_of_lt_of_le hj (sl_le i))
theorem sb_n {i j : Nat} (hi : i < sLen.length) (hj : j < sLen.getD i 0) : narrow .char (.int ((sByt.getD i []).getD j 0)) = .int ((sByt.getD i []).getD j 0) := by
  have key : ∀ i, i < 14 → ∀ j, j < 8 → narrow .char (.int ((sByt.getD i []).getD j 0)) = .int ((sByt.getD i []).getD j 0) := by decide +kernel
  exact key i hi j (Nat.lt_of_lt_of_le hj (sl_le i))
/-- bytes from fr on up to j lie between lo and hi -/
def RGX (fb : Nat → Int32) (fr j : Nat) (lo hi : Int) : Prop := ∀ i, fr ≤ i → i < j → lo ≤ (fb i).toInt ∧ (fb i).toInt ≤ hi
theorem RGX.nil {fb : Nat → Int32} {fr : Nat} {lo hi : Int} : RGX fb fr fr lo hi := fun i h1 h2 => absurd h1 (by omega)
theorem RGX.ext {fb : Nat → Int32} {fr j : Nat} {lo hi : Int} {x : Int32} (h : RGX fb fr j lo hi) (e : fb j = x) (h1 : lo ≤ x.toInt) (h2 : x.toInt ≤ hi) : RGX fb fr (j + 1) lo hi := by
  intro i a b
  by_cases q : i = j
  · rw [q, e]; exact ⟨h1, h2⟩
  · exact h i a (by omega)
theorem RGX.at {fb : Nat → Int32} {fr j i : Nat} {lo hi : Int} (h : RGX fb fr j lo hi) (h1 : fr ≤ i) (h2 : i < j) : lo ≤ (fb i).toInt ∧ (fb i).toInt ≤ hi := h i h1 h2
/-- where the token is a number, its byte is a figure -/
def FG2 (tk : Nat) (fb : Nat → Int32) (ts : Nat) : Prop := tk = 2 → 48 ≤ (fb ts).toInt ∧ (fb ts).toInt ≤ 57
def fgv (tk : Nat) (fb : Nat → Int32) (ts : Nat) : Int32 := if tk = 2 then fb ts - 48 else 0
theorem fgv_1 {tk ts : Nat} {fb : Nat → Int32} {x v : Int32} (h : tk = 2) (e1 : fb ts = x) (e2 : x - 48 = v) : v = fgv tk fb ts := by
  subst e2; subst e1; unfold fgv; rw [if_pos h]
theorem fgv_0 {tk ts : Nat} {fb : Nat → Int32} (h : tk ≠ 2) : (0 : Int32) = fgv tk fb ts := by unfold fgv; rw [if_neg h]
theorem fgv_r {tk ts : Nat} {fb : Nat → Int32} (h : FG2 tk fb ts) : 0 ≤ (fgv tk fb ts).toInt ∧ (fgv tk fb ts).toInt ≤ 9 := by
  unfold fgv
  by_cases q : tk = 2
  · rw [if_pos q]
    have h1 := h q
    have e := i_sub (x := fb ts) (y := 48) rfl rfl (by have e48 : (48 : Int32).toInt = 48 := rfl; omega) (by have e48 : (48 : Int32).toInt = 48 := rfl; omega)
    have e48 : (48 : Int32).toInt = 48 := rfl
    rw [e]; omega
  · rw [if_neg q]; decide
/-- the events of a saying's afters -/
def AFI (n : Nat) (af : Nat → Int32) : Prop := ∀ k, k < n → ∃ j : Nat, j < 4 ∧ af k = nI j
theorem AFI.nil {af : Nat → Int32} : AFI 0 af := fun k h => absurd h (by omega)
theorem AFI.ext {n : Nat} {af g : Nat → Int32} {x : Int32} (h : AFI n af) (e : upd af n x = g) (h0 : 0 ≤ x.toInt) (h1 : x.toInt < 4) : AFI (n + 1) g := by
  intro k hk
  rw [← e]
  by_cases q : k = n
  · rw [q, pk_us]
    obtain ⟨j, e1, e2⟩ := nI_ex (x := x) (n := 3) h0 (by omega)
    exact ⟨j, by omega, e1⟩
  · rw [pk_un q]; exact h k (by omega)
theorem AFI.cpy {n : Nat} {af g h : Nat → Int32} (hA : AFI n af) (e : va_cpy af g 0 0 n = h) : AFI n h := by
  intro k hk
  rw [← e]
  have e2 : va_cpy af g 0 0 n k = af k := by unfold va_cpy; rw [if_pos (by omega)]; congr 1; omega
  rw [e2]; exact hA k hk
/-- nodes read so far -/
def OPV (n : Nat) (o : Nat → Int32) : Prop := (∀ i, i < n → 0 ≤ (o i).toInt ∧ (o i).toInt ≤ 8) ∧ ∀ i, i < n → 1 ≤ opn o i
theorem OPV.nil {o : Nat → Int32} : OPV 0 o := ⟨fun i h => absurd h (by omega), fun i h => absurd h (by omega)⟩
theorem opn_congr {o p : Nat → Int32} : ∀ n : Nat, (∀ i, i < n → p i = o i) → opn p n = opn o n
  | 0, _ => rfl
  | n + 1, h => by rw [opn_s, opn_s, opn_congr n (fun i hi => h i (by omega)), h n (by omega)]
theorem OPV.ext {n : Nat} {o p : Nat → Int32} {x : Int32} (h : OPV n o) (e : upd o n x = p) (h0 : 0 ≤ x.toInt) (h8 : x.toInt ≤ 8) (ho : 1 ≤ opn o n) : OPV (n + 1) p ∧ opn p (n + 1) = opn o n + uN x - 1 := by
  have hp : ∀ i, i < n → p i = o i := fun i hi => by rw [← e]; exact pk_un (by omega)
  have hn : p n = x := by rw [← e]; exact pk_us
  have hc : ∀ i, i ≤ n → opn p i = opn o i := fun i hi => opn_congr i (fun j hj => hp j (by omega))
  refine ⟨⟨fun i hi => ?_, fun i hi => ?_⟩, ?_⟩
  · by_cases q : i = n
    · rw [q, hn]; exact ⟨h0, h8⟩
    · rw [hp i (by omega)]; exact h.1 i (by omega)
  · rw [hc i (by omega)]
    by_cases q : i = n
    · rw [q]; exact ho
    · exact h.2 i (by omega)
  · rw [opn_s, hc n (by omega), hn]
theorem OPV.wf {n : Nat} {o : Nat → Int32} (h : OPV n o) (h1 : 1 ≤ n) (h2 : n ≤ 32) (h3 : opn o n = 0) : WFs n o := ⟨h1, h2, h.1, h.2, h3⟩
theorem WFs.cpy {n : Nat} {o g h : Nat → Int32} (w : WFs n o) (e : va_cpy o g 0 0 n = h) : WFs n h := by
  have hp : ∀ i, i < n → h i = o i := fun i hi => by
    rw [← e]; unfold va_cpy; rw [if_pos (by omega)]; congr 1; omega
  have hc : ∀ i, i ≤ n → opn h i = opn o i := fun i hi => opn_congr i (fun j hj => hp j (by omega))
  refine ⟨w.1, w.2.1, fun i hi => ?_, fun i hi => ?_, ?_⟩
  · rw [hp i hi]; exact w.2.2.1 i hi
  · rw [hc i (by omega)]; exact w.2.2.2.1 i hi
  · rw [hc n (by omega)]; exact w.2.2.2.2
theorem uN_a0 {x : Int32} (h : x.toInt = 0 ∨ x.toInt = 1) : uN x = 0 := by unfold uN; rw [if_pos h]
theorem uN_a2 {x : Int32} (h : x.toInt = 3 ∨ x.toInt = 4) : uN x = 2 := by unfold uN; rw [if_neg (by omega), if_pos h]
theorem uN_a1 {x : Int32} (h : x.toInt ≠ 0 ∧ x.toInt ≠ 1 ∧ x.toInt ≠ 3 ∧ x.toInt ≠ 4) : uN x = 1 := by unfold uN; rw [if_neg (by omega), if_neg (by omega)]
theorem dJ0_coder_7d493_0 : decode cJ0_coder_7d493 0 = .ok (.getstatic 38, 3) := by decide +kernel
theorem wf_J0_38 : Cond.fieldLink RJ0 38 RJ0 "COMPACT_STRINGS" "Z" ∈ TB := tbm (tq3 (List.mem_of_getElem? (i := 50) (by decide +kernel))) (by decide +kernel)
theorem dJ0_coder_7d493_3 : decode cJ0_coder_7d493 3 = .ok (.ifCond .eq 10, 3) := by decide +kernel
theorem dJ0_coder_7d493_6 : decode cJ0_coder_7d493 6 = .ok (.aload_n 0, 1) := by decide +kernel
theorem dJ0_coder_7d493_7 : decode cJ0_coder_7d493 7 = .ok (.getfield 15, 3) := by decide +kernel
theorem wf_J0_15 : Cond.fieldLink RJ0 15 RJ0 "coder" "B" ∈ TB := tbm (tq7 (List.mem_of_getElem? (i := 99) (by decide +kernel))) (by decide +kernel)
theorem dJ0_coder_7d493_10 : decode cJ0_coder_7d493 10 = .ok (.goto 4, 3) := by decide +kernel
theorem dJ0_coder_7d493_14 : decode cJ0_coder_7d493 14 = .ok (.ireturn, 1) := by decide +kernel
set_option maxRecDepth 100000 in
set_option maxHeartbeats 4000000 in
theorem j_coder (l : Launch) (E : EV) (ro : va_W) (i : Nat) (hsi : i < sLen.length) : CT l yJ0_coder_7d493 (Cond.code yJ0_coder_7d493 cJ0_coder_7d493 1 (some .byte) :: TB) ({ frames := 0, cells := 0, slots := 0, locals := 0 }) E ro [.ref (E.2.2 (sIdx.getD i 0))] [] (Qi E (fun (rz : Int32) uz => (rz = 0 ∧ uz = []))) 0 0 := by
  refine ct_of rfl rfl ?_
  intro X C hT hin hro
  show WW X 1 E 0 [(0, .ref (E.2.2 (sIdx.getD i 0)))] [] [] 0 0
  refine ww_getCS C wf_J0_38 dJ0_coder_7d493_0 ?_
  refine ww_if_eq_f (tgt := 13) C dJ0_coder_7d493_3 (by decide) (by decide) ?_
  refine ww_aload_n C dJ0_coder_7d493_6 0 rfl rfl ?_
  refine ww_getCd (i := i) C hsi wf_J0_15 dJ0_coder_7d493_7 ?_
  refine ww_goto (tgt := 14) C dJ0_coder_7d493_10 (by decide) ?_
  exact ww_bret (u := []) C hT [] rfl rfl rfl rfl rfl dJ0_coder_7d493_14 (⟨rfl, rfl⟩)
theorem dJ0_length_8abf5_0 : decode cJ0_length_8abf5 0 = .ok (.aload_n 0, 1) := by decide +kernel
theorem dJ0_length_8abf5_1 : decode cJ0_length_8abf5 1 = .ok (.getfield 9, 3) := by decide +kernel
theorem wf_J0_9 : Cond.fieldLink RJ0 9 RJ0 "value" "[B" ∈ TB := tbm (tq7 (List.mem_of_getElem? (i := 98) (by decide +kernel))) (by decide +kernel)
theorem dJ0_length_8abf5_4 : decode cJ0_length_8abf5 4 = .ok (.arraylength, 1) := by decide +kernel
theorem dJ0_length_8abf5_5 : decode cJ0_length_8abf5 5 = .ok (.aload_n 0, 1) := by decide +kernel
theorem dJ0_length_8abf5_6 : decode cJ0_length_8abf5 6 = .ok (.invokevirtual 335, 3) := by decide +kernel
theorem wl_J0_335 : Cond.methodLink RJ0 335 yJ0_coder_7d493 ∈ TB := tbm (tq3 (List.mem_of_getElem? (i := 46) (by decide +kernel))) (by decide +kernel)
theorem wc_J0_coder_7d493 : Cond.code yJ0_coder_7d493 cJ0_coder_7d493 1 (some .byte) ∈ TB := tbm (tq3 (List.mem_of_getElem? (i := 49) (rfl))) (by decide +kernel)
theorem wn_J0 : Cond.initialized RJ0 ∈ TB := tbm (tq1 (List.mem_of_getElem? (i := 16) (by decide +kernel))) (by decide +kernel)
theorem wi_J0_coder_7d493 : Cond.instanceMethod yJ0_coder_7d493 ∈ TB := tbm (tq3 (List.mem_of_getElem? (i := 47) (by decide +kernel))) (by decide +kernel)
theorem ws_J0_coder_7d493 : Cond.selects RJ0 yJ0_coder_7d493 yJ0_coder_7d493 ∈ TB := tbm (tq3 (List.mem_of_getElem? (i := 48) (by decide +kernel))) (by decide +kernel)
theorem mi_J0_coder_7d493 : MI yJ0_coder_7d493 cJ0_coder_7d493 1 (some .byte) 0 := ⟨wc_J0_coder_7d493, wn_J0, ⟨by decide +kernel, by decide +kernel, by decide +kernel⟩, wi_J0_coder_7d493, ws_J0_coder_7d493⟩
theorem dJ0_length_8abf5_9 : decode cJ0_length_8abf5 9 = .ok (.ishr, 1) := by decide +kernel
theorem dJ0_length_8abf5_10 : decode cJ0_length_8abf5 10 = .ok (.ireturn, 1) := by decide +kernel
set_option maxRecDepth 100000 in
set_option maxHeartbeats 4000000 in
theorem j_length (l : Launch) (E : EV) (ro : va_W) (i : Nat) (hsi : i < sLen.length) : CT l yJ0_length_8abf5 (Cond.code yJ0_length_8abf5 cJ0_length_8abf5 1 (some .int) :: TB) ({ frames := 1, cells := 0, slots := 0, locals := 20 }) E ro [.ref (E.2.2 (sIdx.getD i 0))] [] (Qi E (fun (rz : Int32) uz => (rz = (nI (sLen.getD i 0)) ∧ uz = []))) 0 0 := by
  refine ct_of rfl rfl ?_
  intro X C hT hin hro
  show WW X 1 E 0 [(0, .ref (E.2.2 (sIdx.getD i 0)))] [] [] 0 0
  refine ww_aload_n C dJ0_length_8abf5_0 0 rfl rfl ?_
  refine ww_getVl (i := i) C hsi wf_J0_9 dJ0_length_8abf5_1 ?_
  refine ww_lenS (i := i) (v := (nI (sLen.getD i 0))) C hsi rfl dJ0_length_8abf5_4 ?_
  refine ww_aload_n C dJ0_length_8abf5_5 0 rfl rfl ?_
  refine ww_ci (wr := []) (k' := 0) (n' := 0) C (run_VS (As := []) (rest := [.int (nI (sLen.getD i 0))]) C i hsi (j_coder X.2.1 E ro i hsi) mi_J0_coder_7d493 wl_J0_335 rfl rfl rfl rfl rfl dJ0_length_8abf5_6) (roK hro) [] [] rfl rfl rfl rfl (fun r_1 uz hw => ?_)
  refine an1 hw ?_
  clear hw
  intro he_2 hw
  have he_3 := hw
  clear hw
  have he_2 := he_2.symm
  subst he_2
  subst he_3
  refine ww_eq (ws' := []) ?_ rfl rfl rfl
  refine ww_ishr (v := (nI (sLen.getD i 0))) C dJ0_length_8abf5_9 (shr_0 _) ?_
  exact ww_iret (u := []) C hT [] rfl rfl rfl rfl dJ0_length_8abf5_10 (⟨rfl, rfl⟩)
theorem dJ0_isLatin1_aae02_0 : decode cJ0_isLatin1_aae02 0 = .ok (.getstatic 38, 3) := by decide +kernel
theorem dJ0_isLatin1_aae02_3 : decode cJ0_isLatin1_aae02 3 = .ok (.ifCond .eq 14, 3) := by decide +kernel
theorem dJ0_isLatin1_aae02_6 : decode cJ0_isLatin1_aae02 6 = .ok (.aload_n 0, 1) := by decide +kernel
theorem dJ0_isLatin1_aae02_7 : decode cJ0_isLatin1_aae02 7 = .ok (.getfield 15, 3) := by decide +kernel
theorem dJ0_isLatin1_aae02_10 : decode cJ0_isLatin1_aae02 10 = .ok (.ifCond .ne 7, 3) := by decide +kernel
theorem dJ0_isLatin1_aae02_13 : decode cJ0_isLatin1_aae02 13 = .ok (.iconst 1, 1) := by decide +kernel
theorem dJ0_isLatin1_aae02_14 : decode cJ0_isLatin1_aae02 14 = .ok (.goto 4, 3) := by decide +kernel
theorem dJ0_isLatin1_aae02_18 : decode cJ0_isLatin1_aae02 18 = .ok (.ireturn, 1) := by decide +kernel
set_option maxRecDepth 100000 in
set_option maxHeartbeats 4000000 in
theorem j_isLatin1 (l : Launch) (E : EV) (ro : va_W) (i : Nat) (hsi : i < sLen.length) : CT l yJ0_isLatin1_aae02 (Cond.code yJ0_isLatin1_aae02 cJ0_isLatin1_aae02 1 (some .boolean) :: TB) ({ frames := 0, cells := 0, slots := 0, locals := 0 }) E ro [.ref (E.2.2 (sIdx.getD i 0))] [] (Qi E (fun (rz : Int32) uz => (rz = 1 ∧ uz = []))) 0 0 := by
  refine ct_of rfl rfl ?_
  intro X C hT hin hro
  show WW X 1 E 0 [(0, .ref (E.2.2 (sIdx.getD i 0)))] [] [] 0 0
  refine ww_getCS C wf_J0_38 dJ0_isLatin1_aae02_0 ?_
  refine ww_if_eq_f (tgt := 17) C dJ0_isLatin1_aae02_3 (by decide) (by decide) ?_
  refine ww_aload_n C dJ0_isLatin1_aae02_6 0 rfl rfl ?_
  refine ww_getCd (i := i) C hsi wf_J0_15 dJ0_isLatin1_aae02_7 ?_
  refine ww_if_ne_f (tgt := 17) C dJ0_isLatin1_aae02_10 (by decide) (rfl) ?_
  refine ww_iconst (v := 1) C dJ0_isLatin1_aae02_13 rfl ?_
  refine ww_goto (tgt := 18) C dJ0_isLatin1_aae02_14 (by decide) ?_
  exact ww_zret (u := []) C hT [] rfl rfl rfl rfl rfl dJ0_isLatin1_aae02_18 (⟨rfl, rfl⟩)
theorem dJ3_checkIndex_8e157_0 : decode cJ3_checkIndex_8e157 0 = .ok (.iload_n 0, 1) := by decide +kernel
theorem dJ3_checkIndex_8e157_1 : decode cJ3_checkIndex_8e157 1 = .ok (.ifCond .lt 8, 3) := by decide +kernel
theorem dJ3_checkIndex_8e157_4 : decode cJ3_checkIndex_8e157 4 = .ok (.iload_n 0, 1) := by decide +kernel
theorem dJ3_checkIndex_8e157_5 : decode cJ3_checkIndex_8e157 5 = .ok (.iload_n 1, 1) := by decide +kernel
theorem dJ3_checkIndex_8e157_6 : decode cJ3_checkIndex_8e157 6 = .ok (.if_icmp .lt 10, 3) := by decide +kernel
theorem dJ3_checkIndex_8e157_16 : decode cJ3_checkIndex_8e157 16 = .ok (.iload_n 0, 1) := by decide +kernel
theorem dJ3_checkIndex_8e157_17 : decode cJ3_checkIndex_8e157 17 = .ok (.ireturn, 1) := by decide +kernel
set_option maxRecDepth 100000 in
set_option maxHeartbeats 4000000 in
theorem j_chk3N (l : Launch) (E : EV) (ro : va_W) (j : Nat) (m : Nat) (hj : j < m) (hm : m ≤ 1000) : CT l yJ3_checkIndex_8e157 (Cond.code yJ3_checkIndex_8e157 cJ3_checkIndex_8e157 3 (some .int) :: TB) ({ frames := 0, cells := 0, slots := 0, locals := 0 }) E ro [.int (nI j), .int (nI m), .null] [] (Qi E (fun (rz : Int32) uz => (rz = (nI j) ∧ uz = []))) 0 0 := by
  refine ct_of rfl rfl ?_
  intro X C hT hin hro
  show WW X 3 E 0 [(0, .int (nI j)), (1, .int (nI m)), (2, .null)] [] [] 0 0
  refine ww_iload_n C dJ3_checkIndex_8e157_0 0 rfl rfl ?_
  refine ww_if_lt (tgt := 9) C dJ3_checkIndex_8e157_1 (by decide) (fun c_1 => ?_) (fun c_1 => ?_)
  · have zc_1 : ((j : Nat) : Int) < 0 := i_lt (nI_toInt (n := j) (by omega)) rfl c_1
    omega
  · have zc_1 : ((j : Nat) : Int) ≥ 0 := i_nlt (nI_toInt (n := j) (by omega)) rfl c_1
    refine ww_iload_n C dJ3_checkIndex_8e157_4 0 rfl rfl ?_
    refine ww_iload_n C dJ3_checkIndex_8e157_5 1 rfl rfl ?_
    refine ww_icmp_lt (tgt := 16) C dJ3_checkIndex_8e157_6 (by decide) (fun c_2 => ?_) (fun c_2 => ?_)
    · have zc_2 : ((j : Nat) : Int) < ((m : Nat) : Int) := i_lt (nI_toInt (n := j) (by omega)) (nI_toInt (n := m) (by omega)) c_2
      refine ww_iload_n C dJ3_checkIndex_8e157_16 0 rfl rfl ?_
      exact ww_iret (u := []) C hT [] rfl rfl rfl rfl dJ3_checkIndex_8e157_17 (⟨rfl, rfl⟩)
    · have zc_2 : ((j : Nat) : Int) ≥ ((m : Nat) : Int) := i_nlt (nI_toInt (n := j) (by omega)) (nI_toInt (n := m) (by omega)) c_2
      omega
set_option maxRecDepth 100000 in
set_option maxHeartbeats 4000000 in
theorem j_chk3R (l : Launch) (E : EV) (ro : va_W) (j : Nat) (m : Nat) (fm : Nat) (hj : j < m) (hm : m ≤ 1000) : CT l yJ3_checkIndex_8e157 (Cond.code yJ3_checkIndex_8e157 cJ3_checkIndex_8e157 3 (some .int) :: TB) ({ frames := 0, cells := 0, slots := 0, locals := 0 }) E ro [.int (nI j), .int (nI m), .ref fm] [] (Qi E (fun (rz : Int32) uz => (rz = (nI j) ∧ uz = []))) 0 0 := by
  refine ct_of rfl rfl ?_
  intro X C hT hin hro
  show WW X 3 E 0 [(0, .int (nI j)), (1, .int (nI m)), (2, .ref fm)] [] [] 0 0
  refine ww_iload_n C dJ3_checkIndex_8e157_0 0 rfl rfl ?_
  refine ww_if_lt (tgt := 9) C dJ3_checkIndex_8e157_1 (by decide) (fun c_1 => ?_) (fun c_1 => ?_)
  · have zc_1 : ((j : Nat) : Int) < 0 := i_lt (nI_toInt (n := j) (by omega)) rfl c_1
    omega
  · have zc_1 : ((j : Nat) : Int) ≥ 0 := i_nlt (nI_toInt (n := j) (by omega)) rfl c_1
    refine ww_iload_n C dJ3_checkIndex_8e157_4 0 rfl rfl ?_
    refine ww_iload_n C dJ3_checkIndex_8e157_5 1 rfl rfl ?_
    refine ww_icmp_lt (tgt := 16) C dJ3_checkIndex_8e157_6 (by decide) (fun c_2 => ?_) (fun c_2 => ?_)
    · have zc_2 : ((j : Nat) : Int) < ((m : Nat) : Int) := i_lt (nI_toInt (n := j) (by omega)) (nI_toInt (n := m) (by omega)) c_2
      refine ww_iload_n C dJ3_checkIndex_8e157_16 0 rfl rfl ?_
      exact ww_iret (u := []) C hT [] rfl rfl rfl rfl dJ3_checkIndex_8e157_17 (⟨rfl, rfl⟩)
    · have zc_2 : ((j : Nat) : Int) ≥ ((m : Nat) : Int) := i_nlt (nI_toInt (n := j) (by omega)) (nI_toInt (n := m) (by omega)) c_2
      omega
theorem dJ0_checkIndex_df160_0 : decode cJ0_checkIndex_df160 0 = .ok (.iload_n 0, 1) := by decide +kernel
theorem dJ0_checkIndex_df160_1 : decode cJ0_checkIndex_df160 1 = .ok (.iload_n 1, 1) := by decide +kernel
theorem dJ0_checkIndex_df160_2 : decode cJ0_checkIndex_df160 2 = .ok (.getstatic 1053, 3) := by decide +kernel
theorem wf_J0_1053 : Cond.fieldLink RJ0 1053 RJ3 "SIOOBE_FORMATTER" "Ljava/util/function/BiFunction;" ∈ TB := tbm (tq3 (List.mem_of_getElem? (i := 66) (by decide +kernel))) (by decide +kernel)
theorem dJ0_checkIndex_df160_5 : decode cJ0_checkIndex_df160 5 = .ok (.invokestatic 1059, 3) := by decide +kernel
theorem wl_J0_1059 : Cond.methodLink RJ0 1059 yJ3_checkIndex_8e157 ∈ TB := tbm (tq3 (List.mem_of_getElem? (i := 68) (by decide +kernel))) (by decide +kernel)
theorem wc_J3_checkIndex_8e157 : Cond.code yJ3_checkIndex_8e157 cJ3_checkIndex_8e157 3 (some .int) ∈ TB := tbm (tq3 (List.mem_of_getElem? (i := 70) (rfl))) (by decide +kernel)
theorem wn_J3 : Cond.initialized RJ3 ∈ TB := tbm (tq1 (List.mem_of_getElem? (i := 18) (by decide +kernel))) (by decide +kernel)
theorem wt_J3_checkIndex_8e157 : Cond.static yJ3_checkIndex_8e157 ∈ TB := tbm (tq3 (List.mem_of_getElem? (i := 69) (by decide +kernel))) (by decide +kernel)
theorem ms_J3_checkIndex_8e157 : MS yJ3_checkIndex_8e157 cJ3_checkIndex_8e157 3 (some .int) 3 := ⟨wc_J3_checkIndex_8e157, wn_J3, ⟨by decide +kernel, by decide +kernel, by decide +kernel⟩, wt_J3_checkIndex_8e157⟩
theorem dJ0_checkIndex_df160_8 : decode cJ0_checkIndex_df160 8 = .ok (.pop, 1) := by decide +kernel
theorem dJ0_checkIndex_df160_9 : decode cJ0_checkIndex_df160 9 = .ok (.return_, 1) := by decide +kernel
set_option maxRecDepth 100000 in
set_option maxHeartbeats 4000000 in
theorem j_chk (l : Launch) (E : EV) (ro : va_W) (j : Nat) (m : Nat) (hj : j < m) (hm : m ≤ 1000) : CT l yJ0_checkIndex_df160 (Cond.code yJ0_checkIndex_df160 cJ0_checkIndex_df160 2 none :: TB) ({ frames := 1, cells := 0, slots := 0, locals := 22 }) E ro [.int (nI j), .int (nI m)] [] (Qv E (fun uz => (uz = []))) 0 0 := by
  refine ct_of rfl rfl ?_
  intro X C hT hin hro
  show WW X 2 E 0 [(0, .int (nI j)), (1, .int (nI m))] [] [] 0 0
  refine ww_iload_n C dJ0_checkIndex_df160_0 0 rfl rfl ?_
  refine ww_iload_n C dJ0_checkIndex_df160_1 1 rfl rfl ?_
  refine ww_getSF C wf_J0_1053 dJ0_checkIndex_df160_2 ?_ (fun t_1 => ?_)
  · refine ww_ci (wr := []) (k' := 0) (n' := 0) C (run_S (As := [.int (nI j), .int (nI m), .null]) (rest := []) C (j_chk3N X.2.1 E ro j m (by omega) (by omega)) ms_J3_checkIndex_8e157 wl_J0_1059 rfl rfl rfl rfl dJ0_checkIndex_df160_5) (roK hro) [] [] rfl rfl rfl rfl (fun r_2 uz hw => ?_)
    refine an1 hw ?_
    clear hw
    intro he_3 hw
    have he_4 := hw
    clear hw
    have he_3 := he_3.symm
    subst he_3
    subst he_4
    refine ww_eq (ws' := []) ?_ rfl rfl rfl
    refine ww_pop C dJ0_checkIndex_df160_8 rfl ?_
    exact ww_vret (u := []) C hT [] rfl rfl rfl rfl dJ0_checkIndex_df160_9 (rfl)
  · refine ww_ci (wr := []) (k' := 0) (n' := 0) C (run_S (As := [.int (nI j), .int (nI m), .ref t_1]) (rest := []) C (j_chk3R X.2.1 E ro j m t_1 (by omega) (by omega)) ms_J3_checkIndex_8e157 wl_J0_1059 rfl rfl rfl rfl dJ0_checkIndex_df160_5) (roK hro) [] [] rfl rfl rfl rfl (fun r_5 uz hw => ?_)
    refine an1 hw ?_
    clear hw
    intro he_6 hw
    have he_7 := hw
    clear hw
    have he_6 := he_6.symm
    subst he_6
    subst he_7
    refine ww_eq (ws' := []) ?_ rfl rfl rfl
    refine ww_pop C dJ0_checkIndex_df160_8 rfl ?_
    exact ww_vret (u := []) C hT [] rfl rfl rfl rfl dJ0_checkIndex_df160_9 (rfl)
theorem dJ1_charAt_3b067_0 : decode cJ1_charAt_3b067 0 = .ok (.iload_n 1, 1) := by decide +kernel
theorem dJ1_charAt_3b067_1 : decode cJ1_charAt_3b067 1 = .ok (.aload_n 0, 1) := by decide +kernel
theorem dJ1_charAt_3b067_2 : decode cJ1_charAt_3b067 2 = .ok (.arraylength, 1) := by decide +kernel
theorem dJ1_charAt_3b067_3 : decode cJ1_charAt_3b067 3 = .ok (.invokestatic 9, 3) := by decide +kernel
theorem wl_J1_9 : Cond.methodLink RJ1 9 yJ0_checkIndex_df160 ∈ TB := tbm (tq3 (List.mem_of_getElem? (i := 63) (by decide +kernel))) (by decide +kernel)
theorem wc_J0_checkIndex_df160 : Cond.code yJ0_checkIndex_df160 cJ0_checkIndex_df160 2 none ∈ TB := tbm (tq3 (List.mem_of_getElem? (i := 65) (rfl))) (by decide +kernel)
theorem wt_J0_checkIndex_df160 : Cond.static yJ0_checkIndex_df160 ∈ TB := tbm (tq3 (List.mem_of_getElem? (i := 64) (by decide +kernel))) (by decide +kernel)
theorem ms_J0_checkIndex_df160 : MS yJ0_checkIndex_df160 cJ0_checkIndex_df160 2 none 2 := ⟨wc_J0_checkIndex_df160, wn_J0, ⟨by decide +kernel, by decide +kernel, by decide +kernel⟩, wt_J0_checkIndex_df160⟩
theorem dJ1_charAt_3b067_6 : decode cJ1_charAt_3b067 6 = .ok (.aload_n 0, 1) := by decide +kernel
theorem dJ1_charAt_3b067_7 : decode cJ1_charAt_3b067 7 = .ok (.iload_n 1, 1) := by decide +kernel
theorem dJ1_charAt_3b067_8 : decode cJ1_charAt_3b067 8 = .ok (.baload, 1) := by decide +kernel
theorem dJ1_charAt_3b067_9 : decode cJ1_charAt_3b067 9 = .ok (.sipush 255, 3) := by decide +kernel
theorem dJ1_charAt_3b067_12 : decode cJ1_charAt_3b067 12 = .ok (.iand, 1) := by decide +kernel
theorem dJ1_charAt_3b067_13 : decode cJ1_charAt_3b067 13 = .ok (.i2c, 1) := by decide +kernel
theorem dJ1_charAt_3b067_14 : decode cJ1_charAt_3b067 14 = .ok (.ireturn, 1) := by decide +kernel
set_option maxRecDepth 100000 in
set_option maxHeartbeats 4000000 in
theorem j_chr1 (l : Launch) (E : EV) (ro : va_W) (j : Nat) (i : Nat) (hsi : i < sLen.length) (hj : j < sLen.getD i 0) : CT l yJ1_charAt_3b067 (Cond.code yJ1_charAt_3b067 cJ1_charAt_3b067 2 (some .char) :: TB) ({ frames := 2, cells := 0, slots := 0, locals := 43 }) E ro [.ref (E.2.2 (1000 + i)), .int (nI j)] [] (Qi E (fun (rz : Int32) uz => (rz = ((sByt.getD i []).getD j 0) ∧ uz = []))) 0 0 := by
  refine ct_of rfl rfl ?_
  intro X C hT hin hro
  show WW X 2 E 0 [(0, .ref (E.2.2 (1000 + i))), (1, .int (nI j))] [] [] 0 0
  have hsl := sl_le i
  refine ww_iload_n C dJ1_charAt_3b067_0 1 rfl rfl ?_
  refine ww_aload_n C dJ1_charAt_3b067_1 0 rfl rfl ?_
  refine ww_lenS (i := i) (v := (nI (sLen.getD i 0))) C hsi rfl dJ1_charAt_3b067_2 ?_
  refine ww_cv (wr := []) (k' := 0) (n' := 0) C (run_S (As := [.int (nI j), .int (nI (sLen.getD i 0))]) (rest := []) C (j_chk X.2.1 E ro j (sLen.getD i 0) (by omega) (by omega)) ms_J0_checkIndex_df160 wl_J1_9 rfl rfl rfl rfl dJ1_charAt_3b067_3) (roK hro) [] [] rfl rfl rfl rfl (fun uz hw => ?_)
  have he_2 := hw
  clear hw
  subst he_2
  refine ww_eq (ws' := []) ?_ rfl rfl rfl
  refine ww_aload_n C dJ1_charAt_3b067_6 0 rfl rfl ?_
  refine ww_iload_n C dJ1_charAt_3b067_7 1 rfl rfl ?_
  refine ww_baldS (i := i) (v := ((sByt.getD i []).getD j 0)) C hsi (vp_in_nI (by omega) (by omega)) (ldn (f := fun q => (sByt.getD i []).getD q 0) (by omega) rfl) dJ1_charAt_3b067_8 ?_
  refine ww_sipush (v := 255) C dJ1_charAt_3b067_9 rfl ?_
  obtain ⟨x_3, ex_3⟩ : ∃ z : Int32, ((sByt.getD i []).getD j 0) &&& 255 = z := ⟨_, rfl⟩
  refine ww_iand (v := x_3) C dJ1_charAt_3b067_12 ex_3 ?_
  obtain ⟨x_4, ex_4⟩ : ∃ z : Int32, (x_3.toUInt32 % 65536).toInt32 = z := ⟨_, rfl⟩
  refine ww_i2c (v := x_4) C dJ1_charAt_3b067_13 ex_4 ?_
  refine ww_eq (st' := [.int ((sByt.getD i []).getD j 0)]) ?_ rfl (by rw [sb_c (y := x_4) hsi hj (by assumption) (by assumption)]) rfl
  exact ww_cret (u := []) C hT [] rfl rfl rfl rfl (sb_n hsi hj) dJ1_charAt_3b067_14 (⟨rfl, rfl⟩)
theorem dJ0_charAt_5068e_0 : decode cJ0_charAt_5068e 0 = .ok (.aload_n 0, 1) := by decide +kernel
theorem dJ0_charAt_5068e_1 : decode cJ0_charAt_5068e 1 = .ok (.invokevirtual 492, 3) := by decide +kernel
theorem wl_J0_492 : Cond.methodLink RJ0 492 yJ0_isLatin1_aae02 ∈ TB := tbm (tq3 (List.mem_of_getElem? (i := 56) (by decide +kernel))) (by decide +kernel)
theorem wc_J0_isLatin1_aae02 : Cond.code yJ0_isLatin1_aae02 cJ0_isLatin1_aae02 1 (some .boolean) ∈ TB := tbm (tq3 (List.mem_of_getElem? (i := 59) (rfl))) (by decide +kernel)
theorem wi_J0_isLatin1_aae02 : Cond.instanceMethod yJ0_isLatin1_aae02 ∈ TB := tbm (tq3 (List.mem_of_getElem? (i := 57) (by decide +kernel))) (by decide +kernel)
theorem ws_J0_isLatin1_aae02 : Cond.selects RJ0 yJ0_isLatin1_aae02 yJ0_isLatin1_aae02 ∈ TB := tbm (tq3 (List.mem_of_getElem? (i := 58) (by decide +kernel))) (by decide +kernel)
theorem mi_J0_isLatin1_aae02 : MI yJ0_isLatin1_aae02 cJ0_isLatin1_aae02 1 (some .boolean) 0 := ⟨wc_J0_isLatin1_aae02, wn_J0, ⟨by decide +kernel, by decide +kernel, by decide +kernel⟩, wi_J0_isLatin1_aae02, ws_J0_isLatin1_aae02⟩
theorem dJ0_charAt_5068e_4 : decode cJ0_charAt_5068e 4 = .ok (.ifCond .eq 12, 3) := by decide +kernel
theorem dJ0_charAt_5068e_7 : decode cJ0_charAt_5068e 7 = .ok (.aload_n 0, 1) := by decide +kernel
theorem dJ0_charAt_5068e_8 : decode cJ0_charAt_5068e 8 = .ok (.getfield 9, 3) := by decide +kernel
theorem dJ0_charAt_5068e_11 : decode cJ0_charAt_5068e 11 = .ok (.iload_n 1, 1) := by decide +kernel
theorem dJ0_charAt_5068e_12 : decode cJ0_charAt_5068e 12 = .ok (.invokestatic 495, 3) := by decide +kernel
theorem wl_J0_495 : Cond.methodLink RJ0 495 yJ1_charAt_3b067 ∈ TB := tbm (tq3 (List.mem_of_getElem? (i := 60) (by decide +kernel))) (by decide +kernel)
theorem wc_J1_charAt_3b067 : Cond.code yJ1_charAt_3b067 cJ1_charAt_3b067 2 (some .char) ∈ TB := tbm (tq3 (List.mem_of_getElem? (i := 62) (rfl))) (by decide +kernel)
theorem wn_J1 : Cond.initialized RJ1 ∈ TB := tbm (tq1 (List.mem_of_getElem? (i := 17) (by decide +kernel))) (by decide +kernel)
theorem wt_J1_charAt_3b067 : Cond.static yJ1_charAt_3b067 ∈ TB := tbm (tq3 (List.mem_of_getElem? (i := 61) (by decide +kernel))) (by decide +kernel)
theorem ms_J1_charAt_3b067 : MS yJ1_charAt_3b067 cJ1_charAt_3b067 2 (some .char) 2 := ⟨wc_J1_charAt_3b067, wn_J1, ⟨by decide +kernel, by decide +kernel, by decide +kernel⟩, wt_J1_charAt_3b067⟩
theorem dJ0_charAt_5068e_15 : decode cJ0_charAt_5068e 15 = .ok (.ireturn, 1) := by decide +kernel
set_option maxRecDepth 100000 in
set_option maxHeartbeats 4000000 in
theorem j_chr0 (l : Launch) (E : EV) (ro : va_W) (j : Nat) (i : Nat) (hsi : i < sLen.length) (hj : j < sLen.getD i 0) : CT l yJ0_charAt_5068e (Cond.code yJ0_charAt_5068e cJ0_charAt_5068e 2 (some .char) :: TB) ({ frames := 3, cells := 0, slots := 0, locals := 64 }) E ro [.ref (E.2.2 (sIdx.getD i 0)), .int (nI j)] [] (Qi E (fun (rz : Int32) uz => (rz = ((sByt.getD i []).getD j 0) ∧ uz = []))) 0 0 := by
  refine ct_of rfl rfl ?_
  intro X C hT hin hro
  show WW X 2 E 0 [(0, .ref (E.2.2 (sIdx.getD i 0))), (1, .int (nI j))] [] [] 0 0
  have hsl := sl_le i
  refine ww_aload_n C dJ0_charAt_5068e_0 0 rfl rfl ?_
  refine ww_ci (wr := []) (k' := 0) (n' := 0) C (run_VS (As := []) (rest := []) C i hsi (j_isLatin1 X.2.1 E ro i hsi) mi_J0_isLatin1_aae02 wl_J0_492 rfl rfl rfl rfl rfl dJ0_charAt_5068e_1) (roK hro) [] [] rfl rfl rfl rfl (fun r_1 uz hw => ?_)
  refine an1 hw ?_
  clear hw
  intro he_2 hw
  have he_3 := hw
  clear hw
  have he_2 := he_2.symm
  subst he_2
  subst he_3
  refine ww_eq (ws' := []) ?_ rfl rfl rfl
  refine ww_if_eq_f (tgt := 16) C dJ0_charAt_5068e_4 (by decide) (by decide) ?_
  refine ww_aload_n C dJ0_charAt_5068e_7 0 rfl rfl ?_
  refine ww_getVl (i := i) C hsi wf_J0_9 dJ0_charAt_5068e_8 ?_
  refine ww_iload_n C dJ0_charAt_5068e_11 1 rfl rfl ?_
  refine ww_ci (wr := []) (k' := 0) (n' := 0) C (run_S (As := [.ref (E.2.2 (1000 + i)), .int (nI j)]) (rest := []) C (j_chr1 X.2.1 E ro j i hsi (by omega)) ms_J1_charAt_3b067 wl_J0_495 rfl rfl rfl rfl dJ0_charAt_5068e_12) (roK hro) [] [] rfl rfl rfl rfl (fun r_4 uz hw => ?_)
  refine an1 hw ?_
  clear hw
  intro he_5 hw
  have he_6 := hw
  clear hw
  have he_5 := he_5.symm
  subst he_5
  subst he_6
  refine ww_eq (ws' := []) ?_ rfl rfl rfl
  exact ww_cret (u := []) C hT [] rfl rfl rfl rfl (sb_n hsi hj) dJ0_charAt_5068e_15 (⟨rfl, rfl⟩)
