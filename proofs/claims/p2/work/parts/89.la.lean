/-! THE CLAIM OUT OF ONE WALK OF THE LAW'S BODY. Your part is whole_start (and what it stands on); all else here is the same for every law, but numbers. -/
def R_law : String := "WhoKnowsLaw"
def lw_P (b : Addr) (xs : List Int32) (args : Array Value) (s : State) : Prop := args = #[.ref b] ∧ s.IntsAt b xs ∧ xs.length ≤ 3072 ∧ (Jvm.Cond.and given_1 narrow_1).before args s = true
def lw_Q (_ : Array Value) (s : State) (o : Outcome) (t : State) : Prop := o = .returned (some (.int 1)) ∧ Framed s o t [] 600000 7302250
def lw_Z (below : List Frame) (a : Array Value) (s : State) : State → Prop := fun t => ∃ o, t.status = .running ∧ Ended t below o ∧ lw_Q a s o t
/-- the law's own end, with 1 on the stack, nothing written that was there before, its room as the claim has it -/
theorem lw_ret {p : Program} {l : Launch} {e : Env} {s : State} {m : MethodId} {below : List Frame} {meth : Method} {c : Code} {b : Nat} (hx : p.tables.exec = Jvm.exec) (hb : c.code = code) (hr : meth.sig.returnType = ret) (hlocks : meth.locks = false) {pc : Nat} {H : Heap} {ls : Array Slot} (hdg : decode code pc = .ok (.ireturn, 1)) : W p l e room_1 s m #[Value.ref b] below meth c H [] 600000 7302250 (lw_Z below #[Value.ref b] s) (F0 m pc ls [.int 1]) := by
  intro T hT X
  obtain ⟨fs, hret, hrun, hended, hW, hframe⟩ := X.leave (v := some (.int 1)) (hlocks := hlocks) (fun h => by rw [hr] at h; cases h)
  have hmeth' : T.vm.method? m = some meth := X.method'
  refine ⟨T.setFrames fs, ?_, .returned (some (.int 1)), hrun, hended, rfl, ⟨_, rfl⟩, hW, hframe⟩
  jvm_step X.here [X.here.top, hx, hb, hdg, hmeth', hr, ret, narrow_b1]
  (try refine ⟨rfl, ?_⟩); (try refine ⟨rfl, ?_⟩)
  first | (intro acts; rw [hret _ acts rfl rfl rfl]) | rw [hret _ _ rfl rfl rfl]
  exact Steps.refl _
/-- what holds at the law's entry: the machine, the code, the tables' words (any of lw_tbl by 'hts w (by decide +kernel)'), the script of L ints xs at the cell b, what the Statement gives of the start (any of its parts by flat_of_before) -/
def lw_At (p : Program) (s : State) (m : MethodId) (meth : Method) (c : Code) (b L : Nat) (xs : Nat → Int32) : Prop :=
  p.tables.exec = Jvm.exec ∧ c.code = code ∧ meth.sig.returnType = ret ∧ c.maxLocals = 4 ∧ s.vm.findClass R_law = some m.cls ∧ (∀ w ∈ lw_tbl, w.before #[Value.ref b] s = true) ∧ va_X b L xs s s.heap ∧ b < s.heap.size ∧ meth.locks = false ∧ (Jvm.Cond.and given_1 narrow_1).before #[Value.ref b] s = true
theorem wq_X11 : Cond.instantiable RX11 15 ∈ TB := tbm (tq1 (List.mem_of_getElem? (i := 22) (by decide +kernel))) (by decide +kernel)
theorem wq_X12 : Cond.instantiable RX12 45 ∈ TB := tbm (tq5 (List.mem_of_getElem? (i := 73) (by decide +kernel))) (by decide +kernel)
/-- a fact that is not looked into -/
def HD (P : Prop) : Prop := P
theorem hd_mk {P : Prop} (h : P) : HD P := h
theorem in_of {ws : List Cond} (ps : List Nat) (h : ws = ps.filterMap (fun i => tables_1[i]?)) : ∀ w ∈ ws, w ∈ lw_tbl := by
  intro w hw
  rw [h] at hw
  obtain ⟨i, -, hi⟩ := List.mem_filterMap.mp hw
  exact List.mem_append_right _ (List.mem_of_getElem? hi)
theorem kkN_in : ∀ w ∈ kkN, w ∈ lw_tbl := in_of [31, 68, 74, 145, 181, 186, 230, 233, 260, 265, 294, 316, 467, 619, 621, 708, 735, 821, 858, 917, 950, 1014] (by decide +kernel)
theorem kkN_ok : ∀ w ∈ kkN, w.onTables = true := by decide +kernel
theorem kkA_in : ∀ w ∈ kkA.map (fun C => Cond.arrayOver (.object C)), w ∈ lw_tbl := in_of [141, 143, 65, 139, 314] (by decide +kernel)
theorem kkS_in : ∀ w ∈ kkS.map (fun q => Cond.stringRef RX5 q.1 q.2), w ∈ lw_tbl := in_of [517, 590, 591, 592, 593, 594, 595, 596, 597, 602, 603, 604, 605, 606] (by decide +kernel)
theorem arrP {s : State} {args : Array Value} {ty : FieldType} (hp : ty = .int ∨ ty = .byte ∨ ty = .long ∨ ty = .boolean) (h : (Cond.arrayClass ty).before args s = true) : ∃ cA, ArrOfT s cA ty ∧ va_RA s cA ty := by
  obtain ⟨cA, kA, comp, h1, h2, h3⟩ := Cond.arrayClass_spec h
  refine ⟨cA, fun n z => ⟨fun k h => (by cases h), kA, h2, comp, h3⟩, ?_⟩
  rcases hp with rfl | rfl | rfl | rfl <;> exact h1
theorem arrQ {s : State} {args : Array Value} {Cn : String} (h : (Cond.arrayOver (.object Cn)).before args s = true) : ∃ cA, ArrOfT s cA (.object Cn) ∧ va_RA s cA (.object Cn) := by
  obtain ⟨comp, cA, kA, h1, h2, h3, h4, h5⟩ := Cond.arrayOver_spec h
  exact ⟨cA, fun n z => ⟨fun k h => (by cases h), kA, h3, comp, h4⟩, kA, comp, h3, h4, h1, h5⟩
theorem jz_in : ∀ w ∈ [Cond.laysStatic "java/lang/String" "COMPACT_STRINGS" "Z", Cond.initialized "java/lang/String", Cond.laysStatic "jdk/internal/util/Preconditions" "SIOOBE_FORMATTER" "Ljava/util/function/BiFunction;", Cond.initialized "jdk/internal/util/Preconditions"], w ∈ lw_tbl := in_of [531, 16, 547, 18] (by decide +kernel)
abbrev tmS (i : Nat) : Term := .string RX5 (sIdx.getD i 0)
abbrev fnw : List Cond := flatC (Jvm.Cond.and given_1 narrow_1)
theorem sx_ex : ∀ i, i < 14 → Cond.exactly (tmS i) "java/lang/String" ∈ fnw := by decide +kernel
theorem sx_co : ∀ i, i < 14 → Cond.eq (.field (tmS i) "java/lang/String" "coder" "B") (.int 0) ∈ fnw := by decide +kernel
theorem sx_ar : ∀ i, i < 14 → Cond.arrayOf (.field (tmS i) "java/lang/String" "value" "[B") .byte ∈ fnw := by decide +kernel
theorem sx_le : ∀ i, i < 14 → Cond.eq (.length (.field (tmS i) "java/lang/String" "value" "[B")) (.int (Int32.ofNat (sLen.getD i 0))) ∈ fnw := by decide +kernel
theorem sx_el : ∀ i, i < 14 → ∀ j, j < sLen.getD i 0 → Cond.eq (.elem (.field (tmS i) "java/lang/String" "value" "[B") (.int (Int32.ofNat j))) (.int ((sByt.getD i []).getD j 0)) ∈ fnw := by decide +kernel
def sNe : List Nat := [1, 2, 18, 3, 19, 35, 4, 20, 36, 52, 5, 21, 37, 53, 69, 6, 22, 38, 54, 70, 86, 7, 23, 39, 55, 71, 87, 103, 8, 24, 40, 56, 72, 88, 104, 120, 9, 25, 41, 57, 73, 89, 105, 121, 137, 10, 26, 42, 58, 74, 90, 106, 122, 138, 154, 11, 27, 43, 59, 75, 91, 107, 123, 139, 155, 171, 12, 28, 44, 60, 76, 92, 108, 124, 140, 156, 172, 188, 13, 29, 45, 61, 77, 93, 109, 125, 141, 157, 173, 189, 205]
theorem sx_neL : sNe.map (fun q => Cond.not (Cond.eq (tmS (q / 16)) (tmS (q % 16)))) = ([23, 29, 30, 36, 37, 38, 44, 45, 46, 47, 55, 56, 57, 58, 59, 67, 68, 69, 70, 71, 72, 80, 81, 82, 83, 84, 85, 86, 93, 94, 95, 96, 97, 98, 99, 100, 109, 110, 111, 112, 113, 114, 115, 116, 117, 127, 128, 129, 130, 131, 132, 133, 134, 135, 136, 148, 149, 150, 151, 152, 153, 154, 155, 156, 157, 158, 169, 170, 171, 172, 173, 174, 175, 176, 177, 178, 179, 180, 193, 194, 195, 196, 197, 198, 199, 200, 201, 202, 203, 204, 205] : List Nat).filterMap (fun i => fnw[i]?) := by decide +kernel
theorem sx_neP : ∀ i, i < 14 → ∀ j, j < 14 → i ≠ j → 16 * i + j ∈ sNe ∨ 16 * j + i ∈ sNe := by decide +kernel
theorem sx_neM {i j : Nat} (hj : j < 14) (h : 16 * i + j ∈ sNe) : Cond.not (Cond.eq (tmS i) (tmS j)) ∈ fnw := by
  have h1 : Cond.not (Cond.eq (tmS i) (tmS j)) ∈ sNe.map (fun q => Cond.not (Cond.eq (tmS (q / 16)) (tmS (q % 16)))) := List.mem_map.mpr ⟨16 * i + j, h, by rw [show (16 * i + j) / 16 = i by omega, show (16 * i + j) % 16 = j by omega]⟩
  rw [sx_neL] at h1
  obtain ⟨p, -, hp⟩ := List.mem_filterMap.mp h1
  exact List.mem_of_getElem? hp
theorem sx_ne (i : Nat) (hi : i < 14) (j : Nat) (hj : j < 14) (hn : i ≠ j) : Cond.not (Cond.eq (tmS i) (tmS j)) ∈ fnw ∨ Cond.not (Cond.eq (tmS j) (tmS i)) ∈ fnw := (sx_neP i hi j hj hn).imp (fun h => sx_neM hj h) (fun h => sx_neM hi h)
theorem sx_z : Cond.eq (.static "java/lang/String" "COMPACT_STRINGS" "Z") (.int 1) ∈ fnw := by decide +kernel
theorem sx_q : Cond.isRef (.static "jdk/internal/util/Preconditions" "SIOOBE_FORMATTER" "Ljava/util/function/BiFunction;") ∈ fnw := by decide +kernel
def sIx (k : Nat) : Nat := sIdx.idxOf k
theorem sIx_ok : ∀ i, i < 14 → sIx (sIdx.getD i 0) = i ∧ sIdx.getD i 0 < 1000 := by decide +kernel
theorem kkS_ok : kkS.map Prod.fst = sIdx := by decide +kernel
theorem law_KK {s : State} {args : Array Value} (hts : ∀ w ∈ lw_tbl, w.before args s = true) (hgv : (Jvm.Cond.and given_1 narrow_1).before args s = true) : ∃ E : EV, KK E s ∧ JF E (fun q => s.heap.size ≤ q) s s.heap := by
  have hs := flat_of_before _ hgv
  obtain ⟨c0, i0, k0⟩ := u_known (C := RX0) (T := TX0) (N := 6) (n := 6) hts (fun w h => tb_in (uw_X0 w h)) (hts _ (tb_in wq_X0))
  obtain ⟨c1, i1, k1⟩ := u_known (C := RX1) (T := TX1) (N := 6) (n := 6) hts (fun w h => tb_in (uw_X1 w h)) (hts _ (tb_in wq_X1))
  obtain ⟨c2, i2, k2⟩ := u_known (C := RX2) (T := TX2) (N := 4) (n := 4) hts (fun w h => tb_in (uw_X2 w h)) (hts _ (tb_in wq_X2))
  obtain ⟨c3, i3, k3⟩ := u_known (C := RX3) (T := TX3) (N := 6) (n := 6) hts (fun w h => tb_in (uw_X3 w h)) (hts _ (tb_in wq_X3))
  obtain ⟨c4, i4, k4⟩ := u_known (C := RX4) (T := TX4) (N := 4) (n := 4) hts (fun w h => tb_in (uw_X4 w h)) (hts _ (tb_in wq_X4))
  obtain ⟨c5, i5, k5⟩ := u_known (C := RX5) (T := TX5) (N := 10) (n := 10) hts (fun w h => tb_in (uw_X5 w h)) (hts _ (tb_in wq_X5))
  obtain ⟨c6, i6, k6⟩ := u_known (C := RX6) (T := TX6) (N := 5) (n := 5) hts (fun w h => tb_in (uw_X6 w h)) (hts _ (tb_in wq_X6))
  obtain ⟨c7, i7, k7⟩ := u_known (C := RX7) (T := TX7) (N := 5) (n := 5) hts (fun w h => tb_in (uw_X7 w h)) (hts _ (tb_in wq_X7))
  obtain ⟨c8, i8, k8⟩ := u_known (C := RX8) (T := TX8) (N := 7) (n := 7) hts (fun w h => tb_in (uw_X8 w h)) (hts _ (tb_in wq_X8))
  obtain ⟨c9, i9, k9⟩ := u_known (C := RX9) (T := TX9) (N := 4) (n := 4) hts (fun w h => tb_in (uw_X9 w h)) (hts _ (tb_in wq_X9))
  obtain ⟨c10, i10, k10⟩ := u_known (C := RX10) (T := TX10) (N := 5) (n := 5) hts (fun w h => tb_in (uw_X10 w h)) (hts _ (tb_in wq_X10))
  obtain ⟨c11, i11, k11⟩ := u_known (C := RX11) (T := TX11) (N := 15) (n := 15) hts (fun w h => tb_in (uw_X11 w h)) (hts _ (tb_in wq_X11))
  obtain ⟨c12, i12, k12⟩ := u_known (C := RX12) (T := TX12) (N := 45) (n := 45) hts (fun w h => tb_in (uw_X12 w h)) (hts _ (tb_in wq_X12))
  obtain ⟨dC, dI, hKc⟩ : ∃ (dC : Nat → ClassId) (dI : Nat → Nat → Nat), ∀ (k : Nat) (q : vw_C), vwCl[k]? = some q → u_Kn s q.1 q.2.1 q.2.2 (dC k) (dI k) := by
    refine ⟨fun k => ([c0, c1, c2, c3, c4, c5, c6, c7, c8, c9, c10, c11, c12] : List ClassId).getD k c0, fun k => ([i0, i1, i2, i3, i4, i5, i6, i7, i8, i9, i10, i11, i12] : List (Nat → Nat)).getD k i0, ?_⟩
    intro k q hq
    match k, hq with
      | 0, hq => cases hq; exact k0
      | 1, hq => cases hq; exact k1
      | 2, hq => cases hq; exact k2
      | 3, hq => cases hq; exact k3
      | 4, hq => cases hq; exact k4
      | 5, hq => cases hq; exact k5
      | 6, hq => cases hq; exact k6
      | 7, hq => cases hq; exact k7
      | 8, hq => cases hq; exact k8
      | 9, hq => cases hq; exact k9
      | 10, hq => cases hq; exact k10
      | 11, hq => cases hq; exact k11
      | 12, hq => cases hq; exact k12
      | k + 13, hq => exact absurd hq (by simp [vwCl])
  have hO : ∀ C ∈ kkA, (Cond.arrayOver (.object C)).before args s = true := fun C h => hts _ (kkA_in _ (List.mem_map.mpr ⟨C, h, rfl⟩))
  obtain ⟨y0, a0, b0⟩ := arrP (ty := .byte) (by simp) (hts _ (tb_in wa_byte))
  obtain ⟨y1, a1, b1⟩ := arrP (ty := .int) (by simp) (hts _ (tb_in wa_int))
  obtain ⟨y2, a2, b2⟩ := arrP (ty := .long) (by simp) (hts _ (tb_in wa_long))
  obtain ⟨y3, a3, b3⟩ := arrP (ty := .boolean) (by simp) (hts _ (tb_in wa_boolean))
  obtain ⟨y4, a4, b4⟩ := arrQ (hO "WhoKnows$Event" (by decide))
  obtain ⟨y5, a5, b5⟩ := arrQ (hO "WhoKnows$Layer" (by decide))
  obtain ⟨y6, a6, b6⟩ := arrQ (hO "WhoKnows$Model" (by decide))
  obtain ⟨y7, a7, b7⟩ := arrQ (hO "WhoKnows$Saying" (by decide))
  obtain ⟨y8, a8, b8⟩ := arrQ (hO "WhoKnows$Sheet" (by decide))
  have hA : ∀ a : Nat, a < s.heap.size → ¬ s.heap.size ≤ a := fun a h => Nat.not_le.mpr h
  obtain ⟨adK, adV, hvS, hev⟩ := vk_Sof (args := args) (s := s) (N := 14) (tm := tmS) (len := sLen) (byt := sByt) (A := fun q => s.heap.size ≤ q) (by decide +kernel) (fun i hi => hs _ (sx_ex i hi)) (fun i hi => hs _ (sx_co i hi)) (fun i hi => hs _ (sx_ar i hi)) (fun i hi => hs _ (sx_le i hi)) (fun i hi j hj => hs _ (sx_el i hi j hj)) (fun i j hi hj hn => (sx_ne i hi j hj hn).imp (fun h => hs _ h) (fun h => hs _ h)) hA
  obtain ⟨sa, hsa⟩ : ∃ sa : Nat → Nat, (∀ i, i < 14 → sa (sIdx.getD i 0) = adK i) ∧ ∀ i, sa (1000 + i) = adV i := by
    refine ⟨fun k => if 1000 ≤ k then adV (k - 1000) else adK (sIx k), fun i hi => ?_, fun i => ?_⟩
    · have h9 := sIx_ok i hi
      show (if 1000 ≤ sIdx.getD i 0 then _ else _) = _
      rw [if_neg (by omega), h9.1]
    · show (if 1000 ≤ 1000 + i then _ else _) = _
      rw [if_pos (by omega), Nat.add_sub_cancel_left]
  have hsR : ∀ q ∈ kkS, (Term.string RX5 q.1).eval args s none [] s = some (.ref (sa q.1)) := by
    intro q hq
    have h1 : q.1 ∈ sIdx := by rw [← kkS_ok]; exact List.mem_map.mpr ⟨q, hq, rfl⟩
    obtain ⟨i, hi⟩ := List.mem_iff_getElem?.mp h1
    have hl : i < 14 := (List.getElem?_eq_some_iff.mp hi).1
    have e1 : sIdx.getD i 0 = q.1 := by rw [List.getD_eq_getElem?_getD, hi]; rfl
    have h2 := hev i hl
    have h3 := hsa.1 i hl
    rw [e1] at h3
    rw [h3]
    have h4 : tmS i = .string RX5 q.1 := by show Term.string RX5 (sIdx.getD i 0) = _; rw [e1]
    rw [← h4]; exact h2
  refine ⟨((dC, dI), (fun k => ([y0, y1, y2, y3, y4, y5, y6, y7, y8] : List ClassId).getD k y0), sa), ⟨⟨hKc, ?_⟩, fun w hw => va_Nw.of (kkN_ok w hw) (hts w (kkN_in w hw)), fun C hC => va_AO.of (hO C hC), fun q hq => vk_R.of (hts _ (kkS_in _ (List.mem_map.mpr ⟨q, hq, rfl⟩))) (hsR q hq)⟩, ⟨?_, ?_⟩, ?_, ?_⟩
  · intro k q hq
    match k, hq with
    | 0, hq => cases hq; exact ⟨a0, b0⟩
    | 1, hq => cases hq; exact ⟨a1, b1⟩
    | 2, hq => cases hq; exact ⟨a2, b2⟩
    | 3, hq => cases hq; exact ⟨a3, b3⟩
    | 4, hq => cases hq; exact ⟨a4, b4⟩
    | 5, hq => cases hq; exact ⟨a5, b5⟩
    | 6, hq => cases hq; exact ⟨a6, b6⟩
    | 7, hq => cases hq; exact ⟨a7, b7⟩
    | 8, hq => cases hq; exact ⟨a8, b8⟩
    | k + 9, hq => exact absurd hq (by simp [cyT])
  · intro i hi
    have e1 := hsa.1 i hi
    have e2 := hsa.2 i
    dsimp only
    rw [e1, e2]
    exact hvS.1 i hi
  · intro i j hi hj e
    dsimp only at e
    rw [hsa.1 i hi, hsa.1 j hj] at e
    exact hvS.2 i j hi hj e
  · exact va_Zof (hts _ (jz_in _ (by simp))) (hts _ (jz_in _ (by simp))) (va_eqi (hs _ sx_z)) hA
  · exact va_Zqof (hts _ (jz_in _ (by simp))) (hts _ (jz_in _ (by simp))) (hs _ sx_q) hA
/-- the script of L ints -/
def SX (X : XT) (b L : Nat) (xs : Nat → Int32) : Prop := va_X b L xs X.2.2.2.2.1 X.2.2.2.2.1.heap ∧ b < X.2.2.2.2.1.heap.size ∧ ¬ X.2.2.2.2.2.2.2.2.2.2.1 b
section SCR
variable {X : XT} {rm : Room} {cc : ByteArray} {nL : Nat} {own : String} {ret9 : Option FieldType} {E : EV} {pc : Nat} {lv : List (Nat × Value)} {st : List Value} {ws : va_W} {k n : Nat}
theorem ww_sld {b L : Nat} {xs : Nat → Int32} {i v : Int32} (C : CX X rm cc nL own ret9 E) (hs : SX X b L xs) (hi : vp_in i L) (hv : xs i.toNatClampNeg = v) (hd : decode cc pc = .ok (.iaload, 1)) (kk : WW X nL E (pc + 1) lv (.int v :: st) ws k n) : WW X nL E pc lv (.int i :: .ref b :: st) ws k n := by
  subst hv
  exact fun H locs ls hP hD hS hl => va_sld C.1 C.2.1 hs.1 hs.2.1 hs.2.2 hS hi hd (kk H locs ls hP hD hS hl)
theorem ww_slen {b L : Nat} {xs : Nat → Int32} {v : Int32} (C : CX X rm cc nL own ret9 E) (hs : SX X b L xs) (hv : Int32.ofNat L = v) (hd : decode cc pc = .ok (.arraylength, 1)) (kk : WW X nL E (pc + 1) lv (.int v :: st) ws k n) : WW X nL E pc lv (.ref b :: st) ws k n := by
  subst hv
  exact fun H locs ls hP hD hS hl => va_slen C.1 C.2.1 hs.1 hs.2.1 hs.2.2 hS hd (kk H locs ls hP hD hS hl)
theorem ww_lawret {b : Nat} (C : CX X room_1 code nL own ret E) (hq : X.2.2.2.2.2.2.2.2.2.2.2 = lw_Z X.2.2.2.2.2.2.2.1 X.2.2.2.2.2.2.1 X.2.2.2.2.1 ∧ X.2.2.2.2.2.2.1 = #[Value.ref b] ∧ X.2.2.2.2.2.2.2.2.2.2.1 = fun q => X.2.2.2.2.1.heap.size ≤ q) (hk : Nat.ble k 600000 = true) (hn : Nat.ble n 7302250 = true) (hd : decode code pc = .ok (.ireturn, 1)) : WW X nL E pc lv [.int 1] ws k n := by
  intro H locs ls hP hD hS hl
  obtain ⟨p, l, e, R, s, m, args, below, meth, c, A, Q⟩ := X
  obtain ⟨hx, hb, hml, hown, hts, hK, hA, hr, hlk, hrm, hJF⟩ := C
  obtain ⟨q1, q2, q3⟩ := hq
  dsimp only at *
  subst hrm
  subst q3
  subst q1
  subst q2
  refine va_forget (fun q hq => hS.2.2 q hq) ?_
  refine W.widen (Nat.le_of_ble_eq_true hk) (Nat.le_of_ble_eq_true hn) ?_
  exact lw_ret hx hb hr hlk hd
end SCR

