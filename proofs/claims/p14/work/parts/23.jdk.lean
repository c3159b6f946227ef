section JDK
variable {X : XT} {rm : Room} {cc : ByteArray} {nL : Nat} {own : String} {ret : Option FieldType} {E : EV} {pc : Nat} {lv : List (Nat × Value)} {st rest : List Value} {ws : va_W} {k n : Nat}
/-- the static COMPACT_STRINGS is 1 -/
theorem ww_getCS (C : CX X rm cc nL own ret E) {idx : Nat} (hl : Cond.fieldLink own idx "java/lang/String" "COMPACT_STRINGS" "Z" ∈ TB) (hd : decode cc pc = .ok (.getstatic idx, 3)) (kk : WW X nL E (pc + 3) lv (.int 1 :: st) ws k n) : WW X nL E pc lv st ws k n :=
  fun H locs ls hP hD hS hl0 => va_gets C.1 C.2.1 C.2.2.2.2.2.2.2.2.2.2.2.1 hS C.2.2.2.1 (C.2.2.2.2.1 _ hl) (fun _ h => h) hd (kk H locs ls hP hD hS hl0)
/-- a String's coder is 0 -/
theorem ww_getCd (C : CX X rm cc nL own ret E) {idx i : Nat} (hi : i < sLen.length) (hl : Cond.fieldLink own idx "java/lang/String" "coder" "B" ∈ TB) (hd : decode cc pc = .ok (.getfield idx, 3)) (kk : WW X nL E (pc + 3) lv (.int 0 :: st) ws k n) : WW X nL E pc lv (.ref (E.2.2 (sIdx.getD i 0)) :: st) ws k n :=
  fun H locs ls hP hD hS hl0 => vk_getf C.1 C.2.1 (C.2.2.2.2.2.2.2.2.2.2.1.1 i hi).2.1 hS C.2.2.2.1 (C.2.2.2.2.1 _ hl) (fun _ h => h) hd (kk H locs ls hP hD hS hl0)
/-- a String's bytes -/
theorem ww_getVl (C : CX X rm cc nL own ret E) {idx i : Nat} (hi : i < sLen.length) (hl : Cond.fieldLink own idx "java/lang/String" "value" "[B" ∈ TB) (hd : decode cc pc = .ok (.getfield idx, 3)) (kk : WW X nL E (pc + 3) lv (.ref (E.2.2 (1000 + i)) :: st) ws k n) : WW X nL E pc lv (.ref (E.2.2 (sIdx.getD i 0)) :: st) ws k n :=
  fun H locs ls hP hD hS hl0 => vk_getf C.1 C.2.1 (C.2.2.2.2.2.2.2.2.2.2.1.1 i hi).2.2.1 hS C.2.2.2.1 (C.2.2.2.2.1 _ hl) (fun _ h => h) hd (kk H locs ls hP hD hS hl0)
theorem ww_lenS (C : CX X rm cc nL own ret E) {i : Nat} {v : Int32} (hi : i < sLen.length) (hv : Int32.ofNat (sLen.getD i 0) = v) (hd : decode cc pc = .ok (.arraylength, 1)) (kk : WW X nL E (pc + 1) lv (.int v :: st) ws k n) : WW X nL E pc lv (.ref (E.2.2 (1000 + i)) :: st) ws k n :=
  fun H locs ls hP hD hS hl0 => va_tlen C.1 C.2.1 (C.2.2.2.2.2.2.2.2.2.2.1.1 i hi).2.2.2 hS hv hd (kk H locs ls hP hD hS hl0)
theorem ww_baldS (C : CX X rm cc nL own ret E) {i : Nat} {j v : Int32} (hi : i < sLen.length) (hj : vp_in j (sLen.getD i 0)) (hv : (sByt.getD i []).getD j.toNatClampNeg 0 = v) (hd : decode cc pc = .ok (.baload, 1)) (kk : WW X nL E (pc + 1) lv (.int v :: st) ws k n) : WW X nL E pc lv (.int j :: .ref (E.2.2 (1000 + i)) :: st) ws k n :=
  fun H locs ls hP hD hS hl0 => va_tb C.1 C.2.1 (C.2.2.2.2.2.2.2.2.2.2.1.1 i hi).2.2.2 hS hj (congrArg Value.int hv) hd (kk H locs ls hP hD hS hl0)
/-- the static that is only carried: a reference or null -/
theorem ww_getSF (C : CX X rm cc nL own ret E) {idx : Nat} (hl : Cond.fieldLink own idx "jdk/internal/util/Preconditions" "SIOOBE_FORMATTER" "Ljava/util/function/BiFunction;" ∈ TB) (hd : decode cc pc = .ok (.getstatic idx, 3)) (kN : WW X nL E (pc + 3) lv (.null :: st) ws k n) (kR : ∀ t : Nat, WW X nL E (pc + 3) lv (.ref t :: st) ws k n) : WW X nL E pc lv st ws k n := by
  intro H locs ls hP hD hS hl0
  rcases C.2.2.2.2.2.2.2.2.2.2.2.2 with h | ⟨t, h⟩
  · exact va_gets C.1 C.2.1 h hS C.2.2.2.1 (C.2.2.2.2.1 _ hl) (fun _ h => h) hd (kN H locs ls hP hD hS hl0)
  · exact va_gets C.1 C.2.1 h hS C.2.2.2.1 (C.2.2.2.2.1 _ hl) (fun _ h => h) hd (kR t H locs ls hP hD hS hl0)
end JDK
