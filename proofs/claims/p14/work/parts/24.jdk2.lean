section JDK2
variable {X : XT} {rm : Room} {cc : ByteArray} {nL : Nat} {own : String} {ret : Option FieldType} {E : EV} {pc : Nat} {lv : List (Nat × Value)} {st rest : List Value} {ws : va_W} {k n : Nat}
variable {y : MethodName} {bytes : ByteArray} {maxL mc ms na idx : Nat} {rt : Option FieldType} {rm2 : Room} {As : List Value} {wc ro : va_W} {Qf : (Nat → Prop) → Array Value → State → Outcome → State → Prop}
/-- a call on the String number i -/
theorem run_VS (C : CX X rm cc nL own ret E) (i : Nat) (hi : i < sLen.length) (hM : CT X.2.1 y (Cond.code y bytes maxL rt :: TB) rm2 E ro (.ref (E.2.2 (sIdx.getD i 0)) :: As) wc Qf mc ms) (hI : MI y bytes maxL rt na) (hl : Cond.methodLink own idx y ∈ TB) (hR : RmOk rm rm2 maxL mc ms = true)
    (hy : y.cls = "java/lang/String") (hn : As.length = na) (hst : st = As.reverse ++ .ref (E.2.2 (sIdx.getD i 0)) :: rest) (hW : Nat.ble (rest.map fun v => v.category).sum 8 = true) (hd : decode cc pc = .ok (.invokevirtual idx, 3)) :
    RunOf X nL E ro pc st rest wc Qf (.ref (E.2.2 (sIdx.getD i 0)) :: As) mc ms := by
  intro H locs ls k n hP hD hR1 hR2 hJ hsz hk hs
  obtain ⟨p, l, e, R, s, m, args, below, meth, c, A, Q⟩ := X
  obtain ⟨hx, hb, hml, hown, hts, hK, hA, hr, hlk, hrm, hJF⟩ := C
  dsimp only at *
  subst hrm
  obtain ⟨r1, r2, r3, r4⟩ := RmOk.use hR
  obtain ⟨i1, i2, i3, i4, i5⟩ := hI
  have hG : GoodIn TB (Cond.code y bytes maxL rt :: TB) := tbG (fun _ h => h) (fun w h => (List.mem_cons.mp h).elim (fun e => e ▸ i1) id)
  have cw : CallW R s args own y.cls idx y bytes maxL rt (Cond.code y bytes maxL rt :: TB) rm2 mc ms na := ⟨callB_of na hts hG rfl r3 r4 (hts _ i2) (hts _ hl) i3 ⟨r1, r2⟩, hts _ i4, hts _ i5⟩
  have hrc : ∃ cell : Cell, H[E.2.2 (sIdx.getD i 0)]? = some cell ∧ cell.vm.isStatics = false ∧ s.vm.findClass y.cls = some cell.cls := by
    obtain ⟨cell, h1, h2, h3, -⟩ := (hJ.1.1 i hi).1
    exact ⟨cell, h1, h2, by rw [hy]; exact h3⟩
  exact va_runV (Ts := TB) ⟨hx, hb, hml, hown, hts⟩ (hM H.size) cw ⟨blind0, hrc, fun U hU hW' => ⟨rfl, by rw [hU], by rw [hU]; exact hP, KK.warm hW' hK, hD, by rw [hU]; exact hR1, hR2, by rw [hU]; exact hJ.moved hW'.alike⟩⟩ rfl hn hsz hst (lv_room (Nat.le_of_ble_eq_true hW)) hd ⟨hk, hs⟩
theorem ww_bret {v : Int32} {post : Int32 → va_W → Prop} {u : va_W} (C : CX X rm cc nL own (some .byte) E) (hT : RT X (Qi E post) mc ms) (isU : List Nat) (hU : isU.map (fun i => ws[i]?) = u.map some) (hnd : va_nd isU = true) (hk : Nat.ble k mc = true) (hn : Nat.ble n ms = true) (hz : narrow .byte (.int v) = .int v) (hd : decode cc pc = .ok (.ireturn, 1)) (hp : post v u) : WW X nL E pc lv [.int v] ws k n := by
  intro H locs ls hP hD hS hl
  obtain ⟨p, l, e, R, s, m, args, below, meth, c, A, Q⟩ := X
  obtain ⟨hx, hb, hml, hown, hts, hK, hA, hr, hlk, hrm, hJF⟩ := C
  dsimp only [RT] at *
  subst hT
  refine W.widen (Nat.le_of_ble_eq_true hk) (Nat.le_of_ble_eq_true hn) ?_
  exact W.zret hx hb hr hz (fun t ht hW => ⟨⟨v, u, rfl, hp, by rw [ht]; exact hP.sub isU (fm_of hU), hD.sub isU hnd hU⟩, hS.F ht⟩) hS.2.2 hd hlk
theorem ww_cret {v : Int32} {post : Int32 → va_W → Prop} {u : va_W} (C : CX X rm cc nL own (some .char) E) (hT : RT X (Qi E post) mc ms) (isU : List Nat) (hU : isU.map (fun i => ws[i]?) = u.map some) (hnd : va_nd isU = true) (hk : Nat.ble k mc = true) (hn : Nat.ble n ms = true) (hz : narrow .char (.int v) = .int v) (hd : decode cc pc = .ok (.ireturn, 1)) (hp : post v u) : WW X nL E pc lv [.int v] ws k n := by
  intro H locs ls hP hD hS hl
  obtain ⟨p, l, e, R, s, m, args, below, meth, c, A, Q⟩ := X
  obtain ⟨hx, hb, hml, hown, hts, hK, hA, hr, hlk, hrm, hJF⟩ := C
  dsimp only [RT] at *
  subst hT
  refine W.widen (Nat.le_of_ble_eq_true hk) (Nat.le_of_ble_eq_true hn) ?_
  exact W.zret hx hb hr hz (fun t ht hW => ⟨⟨v, u, rfl, hp, by rw [ht]; exact hP.sub isU (fm_of hU), hD.sub isU hnd hU⟩, hS.F ht⟩) hS.2.2 hd hlk
end JDK2
