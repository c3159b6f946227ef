/-! my own layer over the kit's rows: a state of a walk is (pc, locals, stack, world, cells, slots); H, locs and the slots' array are hidden -/
abbrev EV : Type := va_G × (Nat → ClassId) × (Nat → Nat)
abbrev cyT (E : EV) : List (ClassId × FieldType) := [(E.2.1 0, .byte), (E.2.1 1, .int), (E.2.1 2, .long), (E.2.1 3, .boolean), (E.2.1 4, .object "WhoKnows$Event"), (E.2.1 5, .object "WhoKnows$Layer"), (E.2.1 6, .object "WhoKnows$Model"), (E.2.1 7, .object "WhoKnows$Saying"), (E.2.1 8, .object "WhoKnows$Sheet")]
def kkN : List Cond := [.methodLinkNest RX11 9 yX4_init RX11, .methodLinkNest RX11 26 yX5_init RX11, .methodLinkNest RX5 11 yX10_init RX11, .methodLinkNest RX2 33 yX0_init RX11, .methodLinkNest RX2 34 yX3_init RX11, .methodLinkNest RX3 11 yX4_init RX11, .methodLinkNest RX11 40 yX3_init RX11, .methodLinkNest RX11 47 yX1_init RX11, .methodLinkNest RX11 57 yX7_init RX11, .methodLinkNest RX7 11 yX4_init RX11, .methodLinkNest RX6 17 yX3_init RX11, .methodLinkNest RX11 75 yX9_init RX11, .methodLinkNest RX4 51 yX11_has RX11, .methodLinkNest RX10 45 yX11_has RX11, .methodLinkNest RX5 104 yX11_under RX11, .methodLinkNest RX2 80 yX11_under RX11, .methodLinkNest RX3 63 yX11_has RX11, .methodLinkNest RX0 42 yX11_has RX11, .methodLinkNest RX1 51 yX11_has RX11, .methodLinkNest RX7 39 yX11_has RX11, .methodLinkNest RX6 47 yX11_has RX11, .methodLinkNest RX9 26 yX11_within RX11]
def kkA : List String := ["WhoKnows$Event", "WhoKnows$Layer", "WhoKnows$Model", "WhoKnows$Saying", "WhoKnows$Sheet"]
def kkS : List (Nat × String) := [(77, "after"), (116, String.singleton 'p'), (118, String.singleton 'q'), (120, String.singleton 'r'), (122, String.singleton 's'), (124, "yes"), (126, "not"), (128, "and"), (130, "or"), (95, "know"), (135, "every"), (137, "whether"), (139, "common"), (141, "together")]
def kkNW (U : State) : Prop := ∀ w ∈ kkN, va_Nw w U
def TB : List Cond := lw_tbl.filter goodWord
theorem tbm {w : Cond} (h : w ∈ lw_tbl) (g : goodWord w = true) : w ∈ TB := List.mem_filter.mpr ⟨h, g⟩
theorem tb_in {w : Cond} (h : w ∈ TB) : w ∈ lw_tbl := (List.mem_filter.mp h).1
theorem tbG {big ws : List Cond} (hb : ∀ w ∈ TB, w ∈ big) (h : ∀ w ∈ ws, w ∈ TB) : GoodIn big ws := fun w hw => ⟨hb w (h w hw), good_of_word (List.mem_filter.mp (h w hw)).2⟩
theorem tq1 {w : Cond} (h : w ∈ tables_1_1) : w ∈ lw_tbl := List.mem_append_right _ (List.mem_append_left _ h)
theorem tq2 {w : Cond} (h : w ∈ tables_1_2) : w ∈ lw_tbl := List.mem_append_right _ (List.mem_append_right _ (List.mem_append_left _ h))
theorem tq3 {w : Cond} (h : w ∈ tables_1_3) : w ∈ lw_tbl := List.mem_append_right _ (List.mem_append_right _ (List.mem_append_right _ (List.mem_append_left _ h)))
theorem tq4 {w : Cond} (h : w ∈ tables_1_4) : w ∈ lw_tbl := List.mem_append_right _ (List.mem_append_right _ (List.mem_append_right _ (List.mem_append_right _ (List.mem_append_left _ h))))
theorem tq5 {w : Cond} (h : w ∈ tables_1_5) : w ∈ lw_tbl := List.mem_append_right _ (List.mem_append_right _ (List.mem_append_right _ (List.mem_append_right _ (List.mem_append_right _ (List.mem_append_left _ h)))))
theorem tq6 {w : Cond} (h : w ∈ tables_1_6) : w ∈ lw_tbl := List.mem_append_right _ (List.mem_append_right _ (List.mem_append_right _ (List.mem_append_right _ (List.mem_append_right _ (List.mem_append_right _ (List.mem_append_left _ h))))))
theorem tq7 {w : Cond} (h : w ∈ tables_1_7) : w ∈ lw_tbl := List.mem_append_right _ (List.mem_append_right _ (List.mem_append_right _ (List.mem_append_right _ (List.mem_append_right _ (List.mem_append_right _ (List.mem_append_right _ h))))))
theorem tq0 {w : Cond} (h : w ∈ k2_sels lw_privs) : w ∈ lw_tbl := List.mem_append_left _ h
def sIdx : List Nat := [77, 116, 118, 120, 122, 124, 126, 128, 130, 95, 135, 137, 139, 141]
def sLen : List Nat := [5, 1, 1, 1, 1, 3, 3, 3, 2, 4, 5, 7, 6, 8]
def sByt : List (List Int32) := [[97, 102, 116, 101, 114], [112], [113], [114], [115], [121, 101, 115], [110, 111, 116], [97, 110, 100], [111, 114], [107, 110, 111, 119], [101, 118, 101, 114, 121], [119, 104, 101, 116, 104, 101, 114], [99, 111, 109, 109, 111, 110], [116, 111, 103, 101, 116, 104, 101, 114]]
/-- what is read of the JDK's objects: the String constants, a static -/
def JF (E : EV) (A : Nat → Prop) (U : State) (H : Heap) : Prop := vk_S sLen.length sLen sByt (fun i => E.2.2 (sIdx.getD i 0)) (fun i => E.2.2 (1000 + i)) A U H ∧ va_Z "java/lang/String" "COMPACT_STRINGS" "Z" (.int 1) A U H ∧ va_Zq "jdk/internal/util/Preconditions" "SIOOBE_FORMATTER" "Ljava/util/function/BiFunction;" A U H
theorem JF.moved {E : EV} {A : Nat → Prop} {u U : State} {H : Heap} (hvm : u.vm.Alike U.vm) (h : JF E A u H) : JF E A U H := ⟨vk_S.moved hvm h.1, va_Z.moved hvm h.2.1, va_Zq.moved hvm h.2.2⟩
theorem JF.kept {E : EV} {A : Nat → Prop} {U : State} {H H1 : Heap} (h : JF E A U H) (hq : ∀ a : Nat, a < H.size → ¬ A a → H1[a]? = H[a]?) : JF E A U H1 := ⟨vk_S.kept h.1 hq, va_Z.kept h.2.1 hq, va_Zq.kept h.2.2 hq⟩
theorem JF.narrow {E : EV} {A B : Nat → Prop} {U : State} {H : Heap} (h : JF E A U H) (hAB : ∀ q, B q → A q) : JF E B U H := ⟨vk_S.narrow h.1 hAB, va_Z.narrow h.2.1 hAB, va_Zq.narrow h.2.2 hAB⟩
def KK (E : EV) (U : State) : Prop := va_K E.1 vwCl (cyT E) U ∧ kkNW U ∧ (∀ C ∈ kkA, va_AO C U) ∧ ∀ q ∈ kkS, vk_R RX5 q.1 q.2 (E.2.2 q.1) U
theorem kkNW.warm {s U : State} (hW : s.WarmedH U.vm) (h : kkNW s) : kkNW U := by
  intro w hw
  have h1 := h w hw
  have key : ∀ w ∈ kkN, (∃ a i x h, w = Cond.methodLinkNest a i x h) ∨ ∃ a i b n d h, w = Cond.fieldLinkNest a i b n d h := by
    unfold kkN
    simp only [List.forall_mem_cons, List.not_mem_nil, false_implies, implies_true, and_true]
    repeat' constructor
    all_goals first | exact Or.inl ⟨_, _, _, _, rfl⟩ | exact Or.inr ⟨_, _, _, _, _, _, rfl⟩
  rcases key w hw with ⟨a, i, x, h', rfl⟩ | ⟨a, i, b, n, d, h', rfl⟩
  · exact va_Nw.warmM hW h1
  · exact va_Nw.warmF hW h1
theorem kkNW.same {s U : State} (hv : s.vm = U.vm) (h : kkNW s) : kkNW U := by
  intro w hw
  have h1 := h w hw
  have key : ∀ w ∈ kkN, w.onTables = true := by decide +kernel
  exact va_Nw.same (key w hw) hv h1
theorem KK.warm {E : EV} {s U : State} (hW : s.WarmedH U.vm) (h : KK E s) : KK E U :=
  ⟨va_K.moved hW.alike h.1, h.2.1.warm hW, fun C hC => va_AO.moved hW.alike (h.2.2.1 C hC), fun q hq => vk_R.warm hW (h.2.2.2 q hq)⟩
theorem KK.same {E : EV} {s U : State} (hv : s.vm = U.vm) (h : KK E s) : KK E U :=
  ⟨va_K.moved (hv ▸ Vm.Alike.refl s.vm) h.1, h.2.1.same hv, fun C hC => va_AO.moved (hv ▸ Vm.Alike.refl s.vm) (h.2.2.1 C hC), fun q hq => vk_R.same hv.symm (h.2.2.2 q hq)⟩
/-- the fixed things of a walk: program, launch, environment, room, start, method, arguments, what is below, method's row, code, own cells, aim -/
abbrev XT : Type := Program × Launch × Env × Room × State × MethodId × Array Value × List Frame × Method × Code × (Nat → Prop) × (State → Prop)
def WW (X : XT) (nL : Nat) (E : EV) (pc : Nat) (lv : List (Nat × Value)) (st : List Value) (ws : va_W) (k n : Nat) : Prop :=
  ∀ (H : Heap) (locs : List Loc) (ls : Array Slot), va_P E.1 vwCl ws H → va_D X.2.2.2.2.2.2.2.2.2.2.1 ws → va_S X.2.2.2.2.2.2.2.2.2.2.1 X.2.2.2.2.1.heap H locs → lv_has ls nL lv →
    W X.1 X.2.1 X.2.2.1 X.2.2.2.1 X.2.2.2.2.1 X.2.2.2.2.2.1 X.2.2.2.2.2.2.1 X.2.2.2.2.2.2.2.1 X.2.2.2.2.2.2.2.2.1 X.2.2.2.2.2.2.2.2.2.1 H locs k n X.2.2.2.2.2.2.2.2.2.2.2 (F0 X.2.2.2.2.2.1 pc ls st)
/-- what is known of them -/
def CX (X : XT) (rm : Room) (cc : ByteArray) (nL : Nat) (own : String) (ret : Option FieldType) (E : EV) : Prop :=
  X.1.tables.exec = Jvm.exec ∧ X.2.2.2.2.2.2.2.2.2.1.code = cc ∧ X.2.2.2.2.2.2.2.2.2.1.maxLocals = nL ∧ X.2.2.2.2.1.vm.findClass own = some X.2.2.2.2.2.1.cls ∧ (∀ w ∈ TB, w.before X.2.2.2.2.2.2.1 X.2.2.2.2.1 = true) ∧
  KK E X.2.2.2.2.1 ∧ (∀ q : Nat, X.2.2.2.2.1.heap.size ≤ q → X.2.2.2.2.2.2.2.2.2.2.1 q) ∧ X.2.2.2.2.2.2.2.2.1.sig.returnType = ret ∧ X.2.2.2.2.2.2.2.2.1.locks = false ∧ X.2.2.2.1 = rm ∧ JF E X.2.2.2.2.2.2.2.2.2.2.1 X.2.2.2.2.1 X.2.2.2.2.1.heap
/-- the aim of a method's walk: its contract's end -/
def RT (X : XT) (Qf : (Nat → Prop) → Array Value → State → Outcome → State → Prop) (mc ms : Nat) : Prop :=
  X.2.2.2.2.2.2.2.2.2.2.2 = MQ X.2.2.2.2.2.2.2.1 (Qf X.2.2.2.2.2.2.2.2.2.2.1) X.2.2.2.2.2.2.1 X.2.2.2.2.1 mc ms X.2.2.2.2.2.2.2.2.2.2.1
def at0 (E : EV) (A : Nat → Prop) (u : va_W) (t : State) : Prop := va_P E.1 vwCl u t.heap ∧ va_D A u
abbrev Qi (E : EV) (post : Int32 → va_W → Prop) (A : Nat → Prop) : Array Value → State → Outcome → State → Prop := va_Qi post (at0 E A) A
abbrev Ql (E : EV) (post : Int64 → va_W → Prop) (A : Nat → Prop) : Array Value → State → Outcome → State → Prop := va_Ql post (at0 E A) A
abbrev Qv (E : EV) (post : va_W → Prop) (A : Nat → Prop) : Array Value → State → Outcome → State → Prop := va_Qv post (at0 E A) A
abbrev Qq (E : EV) (post : Option Nat → va_W → Prop) (A : Nat → Prop) : Array Value → State → Outcome → State → Prop := va_Qq post (at0 E A) A
/-- the cells ro are read only: none of them is one of w0 -/
def RD (w0 ro : va_W) : Prop := ∀ (k : Nat) (q : Nat × va_E), ro[k]? = some q → ∀ (j : Nat) (e : Nat × va_E), w0[j]? = some e → e.1 ≠ q.1
def RO (X : XT) (E : EV) (ro : va_W) : Prop := va_P E.1 vwCl ro X.2.2.2.2.1.heap ∧ ∀ (k : Nat) (q : Nat × va_E), ro[k]? = some q → ¬ X.2.2.2.2.2.2.2.2.2.2.1 q.1
theorem RO.at {X : XT} {E : EV} {ro : va_W} (h : RO X E ro) {H : Heap} {locs : List Loc} (hS : va_S X.2.2.2.2.2.2.2.2.2.2.1 X.2.2.2.2.1.heap H locs) : va_P E.1 vwCl ro H :=
  h.1.kept (fun k q hq => hS.2.1 q.1 ((h.1 k q hq).lt) (h.2 k q hq))
/-- a contract: from the arguments av and the world w0, with the cells ro to read -/
def CT (l : Launch) (y : MethodName) (ws : List Cond) (rm : Room) (E : EV) (ro : va_W) (av : List Value) (w0 : va_W) (Qf : (Nat → Prop) → Array Value → State → Outcome → State → Prop) (mc ms : Nat) : Prop :=
  ∀ sz : Nat, Met l y ws rm (va_Pc av (fun U => U.heap.size = sz ∧ va_P E.1 vwCl w0 U.heap ∧ KK E U ∧ va_D (fun _ => True) w0 ∧ va_P E.1 vwCl ro U.heap ∧ RD w0 ro ∧ JF E (va_A w0 sz) U U.heap)) (Qf (va_A w0 sz)) mc ms (va_A w0 sz)
theorem ct_of {l : Launch} {y : MethodName} {rm : Room} {E : EV} {ro : va_W} {av : List Value} {w0 : va_W} {Qf : (Nat → Prop) → Array Value → State → Outcome → State → Prop} {mc ms : Nat} {cc : ByteArray} {maxL : Nat} {ret : Option FieldType}
    (hy : plainName y.cls = true) (hlen : Nat.ble (lg_sl av).length maxL = true)
    (body : ∀ X : XT, CX X rm cc maxL y.cls ret E → RT X Qf mc ms → X.2.2.2.2.2.2.2.2.1.name = y.name → RO X E ro → WW X maxL E 0 (lv_args 0 av) [] w0 0 0) : CT l y (Cond.code y cc maxL ret :: TB) rm E ro av w0 Qf mc ms := by
  intro sz
  refine Met.ofW (cc := cc) (maxL := maxL) (ret := ret) hy rfl ?_
  intro p e s m args below meth c s₁ B hml hv
  obtain ⟨rfl, hsz, hP, hK, hD0, hPr, hRD, hJF⟩ := hv
  subst hsz
  have hD := hD0.self (sz := s.heap.size)
  have hl := lv_entry av (n := maxL) (Nat.le_of_ble_eq_true hlen)
  rw [lg_entry_eq]
  exact body (p, l, e, (headSpec (Cond.code y cc maxL ret :: TB) rm).room, s, m, av.toArray, below, meth, c, va_A w0 s.heap.size, MQ below (Qf (va_A w0 s.heap.size)) av.toArray s mc ms (va_A w0 s.heap.size))
    ⟨B.exec, B.bytes, hml, findClass_of_methodNamed B.named, fun w hw => atoms_spec (ws := Cond.code y cc maxL ret :: TB) B.pre w (List.mem_cons_of_mem _ hw), hK, fun q h => Or.inr h, B.returns, B.notSynchronized, rfl, hJF⟩ rfl (name_of_methodNamed B.named B.method).1
    ⟨hPr, fun k q hq ha => ha.elim (fun ⟨j, e, hj⟩ => hRD k q hq j _ hj rfl) (fun h => Nat.lt_irrefl _ (Nat.lt_of_lt_of_le (hPr k q hq).lt h))⟩
    s.heap [] _ hP hD va_S.rf hl

-- ROWS
theorem fm_of {ws wc : va_W} {is : List Nat} (h : is.map (fun i => ws[i]?) = wc.map some) : is.filterMap (fun i => ws[i]?) = wc := by
  have h1 : (is.map (fun i => ws[i]?)).filterMap id = is.filterMap (fun i => ws[i]?) := by
    rw [List.filterMap_map]; rfl
  rw [← h1, h, List.filterMap_map]
  simp
def NoMH (y : MethodName) (n : Nat) : Prop := y.cls ≠ "java/lang/invoke/MethodHandle" ∧ y.cls ≠ "java/lang/invoke/VarHandle" ∧ (parseMethodDescriptor y.desc).map (fun d => d.parameters.length) = some n
def MI (y : MethodName) (bytes : ByteArray) (maxL : Nat) (rt : Option FieldType) (n : Nat) : Prop := Cond.code y bytes maxL rt ∈ TB ∧ Cond.initialized y.cls ∈ TB ∧ NoMH y n ∧ Cond.instanceMethod y ∈ TB ∧ Cond.selects y.cls y y ∈ TB
def MS (y : MethodName) (bytes : ByteArray) (maxL : Nat) (rt : Option FieldType) (n : Nat) : Prop := Cond.code y bytes maxL rt ∈ TB ∧ Cond.initialized y.cls ∈ TB ∧ NoMH y n ∧ Cond.static y ∈ TB
def MN (y : MethodName) (bytes : ByteArray) (maxL : Nat) (n : Nat) : Prop := Cond.code y bytes maxL none ∈ TB ∧ Cond.initialized y.cls ∈ TB ∧ NoMH y n ∧ Cond.instanceMethod y ∈ TB ∧ y.name = "<init>"
def RunOf (X : XT) (nL : Nat) (E : EV) (ro : va_W) (pc : Nat) (st rest : List Value) (wc : va_W) (Qf : (Nat → Prop) → Array Value → State → Outcome → State → Prop) (av : List Value) (mc ms : Nat) : Prop :=
  ∀ (H : Heap) (locs : List Loc) (ls : Array Slot) (k n : Nat), va_P E.1 vwCl wc H → va_D (fun _ => True) wc → va_P E.1 vwCl ro H → RD wc ro → JF E (va_A wc H.size) X.2.2.2.2.1 H → ls.size = nL → k + mc ≤ X.2.2.2.1.cells → n + ms ≤ X.2.2.2.1.slots →
    va_Run X.1 X.2.1 X.2.2.1 X.2.2.2.1 X.2.2.2.2.1 X.2.2.2.2.2.1 X.2.2.2.2.2.2.1 X.2.2.2.2.2.2.2.1 X.2.2.2.2.2.2.2.2.1 X.2.2.2.2.2.2.2.2.2.1 H locs k n mc ms (F0 X.2.2.2.2.2.1 pc ls st) rest (Qf (va_A wc H.size) av.toArray) (va_A wc H.size)
/-- the rooms of a call fit -/
def RmOk (rm rm2 : Room) (maxL mc ms : Nat) : Bool := Nat.ble (rm2.frames + 1) rm.frames && (Nat.ble (8 + (maxL + 11) + rm2.locals) rm.locals && (Nat.beq rm2.cells mc && Nat.beq rm2.slots ms))
theorem RmOk.use {rm rm2 : Room} {maxL mc ms : Nat} (h : RmOk rm rm2 maxL mc ms = true) : rm2.frames + 1 ≤ rm.frames ∧ 8 + (maxL + 11) + rm2.locals ≤ rm.locals ∧ rm2.cells = mc ∧ rm2.slots = ms := by
  simp only [RmOk, Bool.and_eq_true] at h
  exact ⟨Nat.le_of_ble_eq_true h.1, Nat.le_of_ble_eq_true h.2.1, Nat.eq_of_beq_eq_true h.2.2.1, Nat.eq_of_beq_eq_true h.2.2.2⟩
theorem blind0 {E : EV} {ro : va_W} {av : List Value} {w0 : va_W} {sz : Nat} : FrameBlind (va_Pc av (fun U => U.heap.size = sz ∧ va_P E.1 vwCl w0 U.heap ∧ KK E U ∧ va_D (fun _ => True) w0 ∧ va_P E.1 vwCl ro U.heap ∧ RD w0 ro ∧ JF E (va_A w0 sz) U U.heap)) := by
  intro a U g mk q
  obtain ⟨q0, q1, qP, qK, qD, qR, qE, qJ⟩ := q
  exact ⟨q0, q1, qP, KK.same (s := U) (U := U.calling g mk a) rfl qK, qD, qR, qE, JF.moved (u := U) (U := U.calling g mk a) (Vm.Alike.refl U.vm) qJ⟩
section RUN
variable {X : XT} {rm : Room} {cc : ByteArray} {nL : Nat} {own : String} {ret : Option FieldType} {E : EV} {pc : Nat} {lv : List (Nat × Value)} {st rest : List Value} {ws : va_W} {k n : Nat}
variable {y : MethodName} {bytes : ByteArray} {maxL mc ms na idx : Nat} {rt : Option FieldType} {rm2 : Room} {As : List Value} {b : Nat} {wc ro : va_W} {Qf : (Nat → Prop) → Array Value → State → Outcome → State → Prop}
theorem run_V (C : CX X rm cc nL own ret E) (hM : CT X.2.1 y (Cond.code y bytes maxL rt :: TB) rm2 E ro (.ref b :: As) wc Qf mc ms) (hI : MI y bytes maxL rt na) (hl : Cond.methodLink own idx y ∈ TB) (hR : RmOk rm rm2 maxL mc ms = true)
    (q0 ci : Nat) {fs : List Value} {T : u_T} {Nf : Nat} (hq : wc[q0]? = some (b, .inr (ci, fs))) (hc : vwCl[ci]? = some (y.cls, T, Nf)) (hn : As.length = na) (hst : st = As.reverse ++ .ref b :: rest) (hW : Nat.ble (rest.map fun v => v.category).sum 8 = true) (hd : decode cc pc = .ok (.invokevirtual idx, 3)) :
    RunOf X nL E ro pc st rest wc Qf (.ref b :: As) mc ms := by
  intro H locs ls k n hP hD hR1 hR2 hJ hsz hk hs
  obtain ⟨p, l, e, R, s, m, args, below, meth, c, A, Q⟩ := X
  obtain ⟨hx, hb, hml, hown, hts, hK, hA, hr, hlk, hrm, hJF⟩ := C
  dsimp only at *
  subst hrm
  obtain ⟨r1, r2, r3, r4⟩ := RmOk.use hR
  obtain ⟨i1, i2, i3, i4, i5⟩ := hI
  have hG : GoodIn TB (Cond.code y bytes maxL rt :: TB) := tbG (fun _ h => h) (fun w h => (List.mem_cons.mp h).elim (fun e => e ▸ i1) id)
  have cw : CallW R s args own y.cls idx y bytes maxL rt (Cond.code y bytes maxL rt :: TB) rm2 mc ms na := ⟨callB_of na hts hG rfl r3 r4 (hts _ i2) (hts _ hl) i3 ⟨r1, r2⟩, hts _ i4, hts _ i5⟩
  exact va_runV (Ts := TB) ⟨hx, hb, hml, hown, hts⟩ (hM H.size) cw ⟨blind0, va_recv hK.1 hP hc hq, fun U hU hW' => ⟨rfl, by rw [hU], by rw [hU]; exact hP, KK.warm hW' hK, hD, by rw [hU]; exact hR1, hR2, by rw [hU]; exact hJ.moved hW'.alike⟩⟩ rfl hn hsz hst (lv_room (Nat.le_of_ble_eq_true hW)) hd ⟨hk, hs⟩
theorem run_VR (C : CX X rm cc nL own ret E) (hM : CT X.2.1 y (Cond.code y bytes maxL rt :: TB) rm2 E ro (.ref b :: As) wc Qf mc ms) (hI : MI y bytes maxL rt na) (hl : Cond.methodLink own idx y ∈ TB) (hR : RmOk rm rm2 maxL mc ms = true)
    (q0 ci : Nat) {fs : List Value} {T : u_T} {Nf : Nat} (hq : ro[q0]? = some (b, .inr (ci, fs))) (hc : vwCl[ci]? = some (y.cls, T, Nf)) (hn : As.length = na) (hst : st = As.reverse ++ .ref b :: rest) (hW : Nat.ble (rest.map fun v => v.category).sum 8 = true) (hd : decode cc pc = .ok (.invokevirtual idx, 3)) :
    RunOf X nL E ro pc st rest wc Qf (.ref b :: As) mc ms := by
  intro H locs ls k n hP hD hR1 hR2 hJ hsz hk hs
  obtain ⟨p, l, e, R, s, m, args, below, meth, c, A, Q⟩ := X
  obtain ⟨hx, hb, hml, hown, hts, hK, hA, hr, hlk, hrm, hJF⟩ := C
  dsimp only at *
  subst hrm
  obtain ⟨r1, r2, r3, r4⟩ := RmOk.use hR
  obtain ⟨i1, i2, i3, i4, i5⟩ := hI
  have hG : GoodIn TB (Cond.code y bytes maxL rt :: TB) := tbG (fun _ h => h) (fun w h => (List.mem_cons.mp h).elim (fun e => e ▸ i1) id)
  have cw : CallW R s args own y.cls idx y bytes maxL rt (Cond.code y bytes maxL rt :: TB) rm2 mc ms na := ⟨callB_of na hts hG rfl r3 r4 (hts _ i2) (hts _ hl) i3 ⟨r1, r2⟩, hts _ i4, hts _ i5⟩
  exact va_runV (Ts := TB) ⟨hx, hb, hml, hown, hts⟩ (hM H.size) cw ⟨blind0, va_recv hK.1 hR1 hc hq, fun U hU hW' => ⟨rfl, by rw [hU], by rw [hU]; exact hP, KK.warm hW' hK, hD, by rw [hU]; exact hR1, hR2, by rw [hU]; exact hJ.moved hW'.alike⟩⟩ rfl hn hsz hst (lv_room (Nat.le_of_ble_eq_true hW)) hd ⟨hk, hs⟩
theorem run_S (C : CX X rm cc nL own ret E) (hM : CT X.2.1 y (Cond.code y bytes maxL rt :: TB) rm2 E ro As wc Qf mc ms) (hI : MS y bytes maxL rt na) (hl : Cond.methodLink own idx y ∈ TB) (hR : RmOk rm rm2 maxL mc ms = true)
    (hn : As.length = na) (hst : st = As.reverse ++ rest) (hW : Nat.ble (rest.map fun v => v.category).sum 8 = true) (hd : decode cc pc = .ok (.invokestatic idx, 3)) :
    RunOf X nL E ro pc st rest wc Qf As mc ms := by
  intro H locs ls k n hP hD hR1 hR2 hJ hsz hk hs
  obtain ⟨p, l, e, R, s, m, args, below, meth, c, A, Q⟩ := X
  obtain ⟨hx, hb, hml, hown, hts, hK, hA, hr, hlk, hrm, hJF⟩ := C
  dsimp only at *
  subst hrm
  obtain ⟨r1, r2, r3, r4⟩ := RmOk.use hR
  obtain ⟨i1, i2, i3, i4⟩ := hI
  have hG : GoodIn TB (Cond.code y bytes maxL rt :: TB) := tbG (fun _ h => h) (fun w h => (List.mem_cons.mp h).elim (fun e => e ▸ i1) id)
  have cw : CallB R s args own idx y bytes maxL rt (Cond.code y bytes maxL rt :: TB) rm2 mc ms na ∧ (Cond.static y).before args s = true := ⟨callB_of na hts hG rfl r3 r4 (hts _ i2) (hts _ hl) i3 ⟨r1, r2⟩, hts _ i4⟩
  exact va_runS (Ts := TB) ⟨hx, hb, hml, hown, hts⟩ (hM H.size) cw ⟨blind0, fun U hU hW' => ⟨rfl, by rw [hU], by rw [hU]; exact hP, KK.warm hW' hK, hD, by rw [hU]; exact hR1, hR2, by rw [hU]; exact hJ.moved hW'.alike⟩⟩ rfl hn hsz hst (lv_room (Nat.le_of_ble_eq_true hW)) hd ⟨hk, hs⟩
theorem run_I (C : CX X rm cc nL own ret E) (hM : CT X.2.1 y (Cond.code y bytes maxL none :: TB) rm2 E ro (.ref b :: As) wc Qf mc ms) (hI : MN y bytes maxL na) (hl : Cond.methodLink own idx y ∈ TB) (hR : RmOk rm rm2 maxL mc ms = true)
    (hn : As.length = na) (hst : st = As.reverse ++ .ref b :: rest) (hW : Nat.ble (rest.map fun v => v.category).sum 8 = true) (hd : decode cc pc = .ok (.invokespecial idx, 3)) :
    RunOf X nL E ro pc st rest wc Qf (.ref b :: As) mc ms := by
  intro H locs ls k n hP hD hR1 hR2 hJ hsz hk hs
  obtain ⟨p, l, e, R, s, m, args, below, meth, c, A, Q⟩ := X
  obtain ⟨hx, hb, hml, hown, hts, hK, hA, hr, hlk, hrm, hJF⟩ := C
  dsimp only at *
  subst hrm
  obtain ⟨r1, r2, r3, r4⟩ := RmOk.use hR
  obtain ⟨i1, i2, i3, i4, i5⟩ := hI
  have hG : GoodIn TB (Cond.code y bytes maxL none :: TB) := tbG (fun _ h => h) (fun w h => (List.mem_cons.mp h).elim (fun e => e ▸ i1) id)
  exact va_runI (Ts := TB) ⟨hx, hb, hml, hown, hts⟩ (hM H.size) ⟨callB_of na hts hG rfl r3 r4 (hts _ i2) (hts _ hl) i3 ⟨r1, r2⟩, i5, hts _ i4⟩ ⟨blind0, fun U hU hW' => ⟨rfl, by rw [hU], by rw [hU]; exact hP, KK.warm hW' hK, hD, by rw [hU]; exact hR1, hR2, by rw [hU]; exact hJ.moved hW'.alike⟩⟩ rfl hn hsz hst (lv_room (Nat.le_of_ble_eq_true hW)) hd ⟨hk, hs⟩
theorem run_IN {host : String} (C : CX X rm cc nL own ret E) (hM : CT X.2.1 y (Cond.code y bytes maxL none :: TB) rm2 E ro (.ref b :: As) wc Qf mc ms) (hI : MN y bytes maxL na) (hl : Cond.methodLinkNest own idx y host ∈ kkN) (hR : RmOk rm rm2 maxL mc ms = true)
    (hn : As.length = na) (hst : st = As.reverse ++ .ref b :: rest) (hW : Nat.ble (rest.map fun v => v.category).sum 8 = true) (hd : decode cc pc = .ok (.invokespecial idx, 3)) :
    RunOf X nL E ro pc st rest wc Qf (.ref b :: As) mc ms := by
  intro H locs ls k n hP hD hR1 hR2 hJ hsz hk hs
  obtain ⟨p, l, e, R, s, m, args, below, meth, c, A, Q⟩ := X
  obtain ⟨hx, hb, hml, hown, hts, hK, hA, hr, hlk, hrm, hJF⟩ := C
  dsimp only at *
  subst hrm
  obtain ⟨r1, r2, r3, r4⟩ := RmOk.use hR
  obtain ⟨i1, i2, i3, i4, i5⟩ := hI
  have hG : GoodIn TB (Cond.code y bytes maxL none :: TB) := tbG (fun _ h => h) (fun w h => (List.mem_cons.mp h).elim (fun e => e ▸ i1) id)
  exact va_runIN (Ts := TB) ⟨hx, hb, hml, hown, hts⟩ (hM H.size) ⟨va_cnB na hts hG rfl r3 r4 (hK.2.1 _ hl) (hts _ i2) i3 ⟨r1, r2⟩, i5, hts _ i4⟩ ⟨blind0, fun U hU hW' => ⟨rfl, by rw [hU], by rw [hU]; exact hP, KK.warm hW' hK, hD, by rw [hU]; exact hR1, hR2, by rw [hU]; exact hJ.moved hW'.alike⟩⟩ rfl hn hsz hst (lv_room (Nat.le_of_ble_eq_true hW)) hd ⟨hk, hs⟩
theorem run_SN {host : String} (C : CX X rm cc nL own ret E) (hM : CT X.2.1 y (Cond.code y bytes maxL rt :: TB) rm2 E ro As wc Qf mc ms) (hI : MS y bytes maxL rt na) (hl : Cond.methodLinkNest own idx y host ∈ kkN) (hR : RmOk rm rm2 maxL mc ms = true)
    (hn : As.length = na) (hst : st = As.reverse ++ rest) (hW : Nat.ble (rest.map fun v => v.category).sum 8 = true) (hd : decode cc pc = .ok (.invokestatic idx, 3)) :
    RunOf X nL E ro pc st rest wc Qf As mc ms := by
  intro H locs ls k n hP hD hR1 hR2 hJ hsz hk hs
  obtain ⟨p, l, e, R, s, m, args, below, meth, c, A, Q⟩ := X
  obtain ⟨hx, hb, hml, hown, hts, hK, hA, hr, hlk, hrm, hJF⟩ := C
  dsimp only at *
  subst hrm
  obtain ⟨r1, r2, r3, r4⟩ := RmOk.use hR
  obtain ⟨i1, i2, i3, i4⟩ := hI
  have hG : GoodIn TB (Cond.code y bytes maxL rt :: TB) := tbG (fun _ h => h) (fun w h => (List.mem_cons.mp h).elim (fun e => e ▸ i1) id)
  exact va_runSN (Ts := TB) ⟨hx, hb, hml, hown, hts⟩ (hM H.size) ⟨va_cnB na hts hG rfl r3 r4 (hK.2.1 _ hl) (hts _ i2) i3 ⟨r1, r2⟩, hts _ i4, trivial⟩ ⟨blind0, fun U hU hW' => ⟨rfl, by rw [hU], by rw [hU]; exact hP, KK.warm hW' hK, hD, by rw [hU]; exact hR1, hR2, by rw [hU]; exact hJ.moved hW'.alike⟩⟩ rfl hn hsz hst (lv_room (Nat.le_of_ble_eq_true hW)) hd ⟨hk, hs⟩
/-- places: apart, and the two lists have none in common -/
def plOk (isC isR : List Nat) : Bool := va_nd isC && (va_nd isR && isR.all (fun i => isC.all (fun j => !(Nat.beq i j))))
theorem plOk.use {isC isR : List Nat} (h : plOk isC isR = true) : va_nd isC = true ∧ va_nd isR = true ∧ ∀ i ∈ isR, i ∉ isC := by
  simp only [plOk, Bool.and_eq_true] at h
  refine ⟨h.1, h.2.1, fun i hi hj => ?_⟩
  have h1 := List.all_eq_true.mp (List.all_eq_true.mp h.2.2 i hi) i hj
  simp at h1
/-- cells and slots behind a call -/
def cnOk (rm : Room) (k n mc ms k' n' : Nat) : Bool := Nat.ble (k + mc) k' && (Nat.ble (n + ms) n' && (Nat.ble k' rm.cells && Nat.ble n' rm.slots))
theorem cnOk.use {rm : Room} {k n mc ms k' n' : Nat} (h : cnOk rm k n mc ms k' n' = true) : k + mc ≤ k' ∧ n + ms ≤ n' ∧ k' ≤ rm.cells ∧ n' ≤ rm.slots := by
  simp only [cnOk, Bool.and_eq_true] at h
  exact ⟨Nat.le_of_ble_eq_true h.1, Nat.le_of_ble_eq_true h.2.1, Nat.le_of_ble_eq_true h.2.2.1, Nat.le_of_ble_eq_true h.2.2.2⟩
/-- where a call's cells to read come from -/
def ROf (X : XT) (E : EV) (ws wc ro : va_W) : Prop := ∀ (H : Heap) (locs : List Loc), va_P E.1 vwCl ws H → va_D X.2.2.2.2.2.2.2.2.2.2.1 ws → va_S X.2.2.2.2.2.2.2.2.2.2.1 X.2.2.2.2.1.heap H locs → (∀ (j : Nat) (e : Nat × va_E), wc[j]? = some e → X.2.2.2.2.2.2.2.2.2.2.1 e.1) → va_P E.1 vwCl ro H ∧ RD wc ro
theorem roK (h : RO X E ro) : ROf X E ws wc ro := fun H locs hP hD hS hA => ⟨h.at hS, fun k q hq j e he e1 => h.2 k q hq (e1 ▸ hA j e he)⟩
theorem roE {evs : va_W} (h : RO X E ro) (isC isE : List Nat) (hC : isC.map (fun i => ws[i]?) = wc.map some) (hE : isE.map (fun i => ws[i]?) = evs.map some) (hnd : plOk isC isE = true) : ROf X E ws wc (evs ++ ro) := by
  intro H locs hP hD hS hA
  obtain ⟨n1, n2, n3⟩ := plOk.use hnd
  have hPe := hP.sub isE (fm_of hE)
  have hPr := h.at hS
  refine ⟨fun k q hk => ?_, fun k q hk j e he e1 => ?_⟩
  · rcases Nat.lt_or_ge k evs.length with c | c
    · rw [List.getElem?_append_left c] at hk; exact hPe k q hk
    · rw [List.getElem?_append_right c] at hk; exact hPr _ q hk
  · rcases Nat.lt_or_ge k evs.length with c | c
    · rw [List.getElem?_append_left c] at hk
      obtain ⟨x, hx, hx2⟩ := va_in_of isE hE hk
      obtain ⟨y, hy, hy2⟩ := va_in_of isC hC he
      have hxy := hD.1 y x e q hy2 hx2 e1
      subst hxy
      exact n3 y (List.mem_of_getElem? hx) (List.mem_of_getElem? hy)
    · rw [List.getElem?_append_right c] at hk
      exact h.2 _ q hk (e1 ▸ hA j e he)
variable {wr : va_W} {av : List Value} {k' n' : Nat}
theorem ww_ci {post : Int32 → va_W → Prop} (C : CX X rm cc nL own ret E) (hr : RunOf X nL E ro pc st rest wc (Qi E post) av mc ms) (hro : ROf X E ws wc ro) (isC isR : List Nat) (hC : isC.map (fun i => ws[i]?) = wc.map some) (hR : isR.map (fun i => ws[i]?) = wr.map some) (hnd : plOk isC isR = true) (hk : cnOk rm k n mc ms k' n' = true)
    (kk : ∀ (r : Int32) (u : va_W), post r u → WW X nL E (pc + 3) lv (.int r :: rest) (wr ++ u) k' n') : WW X nL E pc lv st ws k n := by
  intro H locs ls hP hD hS hl
  obtain ⟨p, l, e, R, s, m, args, below, meth, c, A, Q⟩ := X
  obtain ⟨hx, hb, hml, hown, hts, hK, hA, hr', hlk, hrm, hJF⟩ := C
  dsimp only at *
  subst hrm
  obtain ⟨n1, n2, n3⟩ := plOk.use hnd
  obtain ⟨k1, k2, k3, k4⟩ := cnOk.use hk
  have hPc := hP.sub isC (fm_of hC)
  have hDc := (hD.sub isC n1 hC).weaken (B := fun _ => True) (fun _ _ _ _ => trivial)
  have hFc := va_free hD hS hA isC hC
  refine va_calli (hr H locs ls k n hPc hDc (hro H locs hP hD hS (fun j e he => (hD.sub isC n1 hC).2 j e he)).1 (hro H locs hP hD hS (fun j e he => (hD.sub isC n1 hC).2 j e he)).2 ((hJF.kept hS.2.1).narrow hFc) hl.1 (Nat.le_trans k1 k3) (Nat.le_trans k2 k4)) hS (fun q _ h => hFc q h) hFc (fun r u t H1 locs1 ht hvm hw hB hz1 hk1 hS1 => ?_)
  obtain ⟨hP1, hD1⟩ := hB
  rw [ht] at hP1
  obtain ⟨hP2, hD2⟩ := va_join hP hD isC isR hC hR n2 n3 hk1 hFc hP1 hD1
  exact W.widen k1 k2 (kk r u hw H1 locs1 ls hP2 hD2 hS1 hl)
theorem ww_cl {post : Int64 → va_W → Prop} (C : CX X rm cc nL own ret E) (hr : RunOf X nL E ro pc st rest wc (Ql E post) av mc ms) (hro : ROf X E ws wc ro) (isC isR : List Nat) (hC : isC.map (fun i => ws[i]?) = wc.map some) (hR : isR.map (fun i => ws[i]?) = wr.map some) (hnd : plOk isC isR = true) (hk : cnOk rm k n mc ms k' n' = true)
    (kk : ∀ (r : Int64) (u : va_W), post r u → WW X nL E (pc + 3) lv (.long r :: rest) (wr ++ u) k' n') : WW X nL E pc lv st ws k n := by
  intro H locs ls hP hD hS hl
  obtain ⟨p, l, e, R, s, m, args, below, meth, c, A, Q⟩ := X
  obtain ⟨hx, hb, hml, hown, hts, hK, hA, hr', hlk, hrm, hJF⟩ := C
  dsimp only at *
  subst hrm
  obtain ⟨n1, n2, n3⟩ := plOk.use hnd
  obtain ⟨k1, k2, k3, k4⟩ := cnOk.use hk
  have hPc := hP.sub isC (fm_of hC)
  have hDc := (hD.sub isC n1 hC).weaken (B := fun _ => True) (fun _ _ _ _ => trivial)
  have hFc := va_free hD hS hA isC hC
  refine va_calll (hr H locs ls k n hPc hDc (hro H locs hP hD hS (fun j e he => (hD.sub isC n1 hC).2 j e he)).1 (hro H locs hP hD hS (fun j e he => (hD.sub isC n1 hC).2 j e he)).2 ((hJF.kept hS.2.1).narrow hFc) hl.1 (Nat.le_trans k1 k3) (Nat.le_trans k2 k4)) hS (fun q _ h => hFc q h) hFc (fun r u t H1 locs1 ht hvm hw hB hz1 hk1 hS1 => ?_)
  obtain ⟨hP1, hD1⟩ := hB
  rw [ht] at hP1
  obtain ⟨hP2, hD2⟩ := va_join hP hD isC isR hC hR n2 n3 hk1 hFc hP1 hD1
  exact W.widen k1 k2 (kk r u hw H1 locs1 ls hP2 hD2 hS1 hl)
theorem ww_cv {post : va_W → Prop} (C : CX X rm cc nL own ret E) (hr : RunOf X nL E ro pc st rest wc (Qv E post) av mc ms) (hro : ROf X E ws wc ro) (isC isR : List Nat) (hC : isC.map (fun i => ws[i]?) = wc.map some) (hR : isR.map (fun i => ws[i]?) = wr.map some) (hnd : plOk isC isR = true) (hk : cnOk rm k n mc ms k' n' = true)
    (kk : ∀ (u : va_W), post u → WW X nL E (pc + 3) lv rest (wr ++ u) k' n') : WW X nL E pc lv st ws k n := by
  intro H locs ls hP hD hS hl
  obtain ⟨p, l, e, R, s, m, args, below, meth, c, A, Q⟩ := X
  obtain ⟨hx, hb, hml, hown, hts, hK, hA, hr', hlk, hrm, hJF⟩ := C
  dsimp only at *
  subst hrm
  obtain ⟨n1, n2, n3⟩ := plOk.use hnd
  obtain ⟨k1, k2, k3, k4⟩ := cnOk.use hk
  have hPc := hP.sub isC (fm_of hC)
  have hDc := (hD.sub isC n1 hC).weaken (B := fun _ => True) (fun _ _ _ _ => trivial)
  have hFc := va_free hD hS hA isC hC
  refine va_callv (hr H locs ls k n hPc hDc (hro H locs hP hD hS (fun j e he => (hD.sub isC n1 hC).2 j e he)).1 (hro H locs hP hD hS (fun j e he => (hD.sub isC n1 hC).2 j e he)).2 ((hJF.kept hS.2.1).narrow hFc) hl.1 (Nat.le_trans k1 k3) (Nat.le_trans k2 k4)) hS (fun q _ h => hFc q h) hFc (fun u t H1 locs1 ht hvm hw hB hz1 hk1 hS1 => ?_)
  obtain ⟨hP1, hD1⟩ := hB
  rw [ht] at hP1
  obtain ⟨hP2, hD2⟩ := va_join hP hD isC isR hC hR n2 n3 hk1 hFc hP1 hD1
  exact W.widen k1 k2 (kk u hw H1 locs1 ls hP2 hD2 hS1 hl)
theorem ww_cq {post : Option Nat → va_W → Prop} (C : CX X rm cc nL own ret E) (hr : RunOf X nL E ro pc st rest wc (Qq E post) av mc ms) (hro : ROf X E ws wc ro) (isC isR : List Nat) (hC : isC.map (fun i => ws[i]?) = wc.map some) (hR : isR.map (fun i => ws[i]?) = wr.map some) (hnd : plOk isC isR = true) (hk : cnOk rm k n mc ms k' n' = true)
    (kk : ∀ (r : Option Nat) (u : va_W), post r u → WW X nL E (pc + 3) lv (va_rf r :: rest) (wr ++ u) k' n') : WW X nL E pc lv st ws k n := by
  intro H locs ls hP hD hS hl
  obtain ⟨p, l, e, R, s, m, args, below, meth, c, A, Q⟩ := X
  obtain ⟨hx, hb, hml, hown, hts, hK, hA, hr', hlk, hrm, hJF⟩ := C
  dsimp only at *
  subst hrm
  obtain ⟨n1, n2, n3⟩ := plOk.use hnd
  obtain ⟨k1, k2, k3, k4⟩ := cnOk.use hk
  have hPc := hP.sub isC (fm_of hC)
  have hDc := (hD.sub isC n1 hC).weaken (B := fun _ => True) (fun _ _ _ _ => trivial)
  have hFc := va_free hD hS hA isC hC
  refine va_callq (hr H locs ls k n hPc hDc (hro H locs hP hD hS (fun j e he => (hD.sub isC n1 hC).2 j e he)).1 (hro H locs hP hD hS (fun j e he => (hD.sub isC n1 hC).2 j e he)).2 ((hJF.kept hS.2.1).narrow hFc) hl.1 (Nat.le_trans k1 k3) (Nat.le_trans k2 k4)) hS (fun q _ h => hFc q h) hFc (fun r u t H1 locs1 ht hvm hw hB hz1 hk1 hS1 => ?_)
  obtain ⟨hP1, hD1⟩ := hB
  rw [ht] at hP1
  obtain ⟨hP2, hD2⟩ := va_join hP hD isC isR hC hR n2 n3 hk1 hFc hP1 hD1
  exact W.widen k1 k2 (kk r u hw H1 locs1 ls hP2 hD2 hS1 hl)
end RUN
