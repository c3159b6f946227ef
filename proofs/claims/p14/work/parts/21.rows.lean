section ROW
variable {X : XT} {rm : Room} {cc : ByteArray} {nL : Nat} {own : String} {ret : Option FieldType} {E : EV} {pc : Nat} {lv : List (Nat × Value)} {st : List Value} {ws : va_W} {k n : Nat}
theorem ww_iconst (C : CX X rm cc nL own ret E) {z : Int} {v : Int32} (hd : decode cc pc = .ok (.iconst z, 1)) (hv : Int32.ofInt z = v) (kk : WW X nL E (pc + 1) lv (.int v :: st) ws k n) : WW X nL E pc lv st ws k n :=
  fun H locs ls hP hD hS hl => lv_iconst C.1 C.2.1 hd hv (kk H locs ls hP hD hS hl)
theorem ww_bipush (C : CX X rm cc nL own ret E) {z : Int} {v : Int32} (hd : decode cc pc = .ok (.bipush z, 2)) (hv : (Int8.ofInt z).toInt32 = v) (kk : WW X nL E (pc + 2) lv (.int v :: st) ws k n) : WW X nL E pc lv st ws k n :=
  fun H locs ls hP hD hS hl => lv_bipush C.1 C.2.1 hd hv (kk H locs ls hP hD hS hl)
theorem ww_sipush (C : CX X rm cc nL own ret E) {z : Int} {v : Int32} (hd : decode cc pc = .ok (.sipush z, 3)) (hv : (Int16.ofInt z).toInt32 = v) (kk : WW X nL E (pc + 3) lv (.int v :: st) ws k n) : WW X nL E pc lv st ws k n :=
  fun H locs ls hP hD hS hl => lv_sipush C.1 C.2.1 hd hv (kk H locs ls hP hD hS hl)
theorem ww_lconst (C : CX X rm cc nL own ret E) {z : Fin 2} {v : Int64} (hd : decode cc pc = .ok (.lconst z, 1)) (hv : Int64.ofNat (z : Nat) = v) (kk : WW X nL E (pc + 1) lv (.long v :: st) ws k n) : WW X nL E pc lv st ws k n :=
  fun H locs ls hP hD hS hl => lv_lconst C.1 C.2.1 hd hv (kk H locs ls hP hD hS hl)
theorem ww_null (C : CX X rm cc nL own ret E) (hd : decode cc pc = .ok (.aconst_null, 1)) (kk : WW X nL E (pc + 1) lv (.null :: st) ws k n) : WW X nL E pc lv st ws k n :=
  fun H locs ls hP hD hS hl => lv_null C.1 C.2.1 hd (kk H locs ls hP hD hS hl)
theorem ww_iload_n (C : CX X rm cc nL own ret E) {f : Fin 4} {i : Nat} {x : Int32} (hd : decode cc pc = .ok (.iload_n f, 1)) (j : Nat) (hi : (f : Nat) = i) (hj : lv[j]? = some (i, .int x)) (kk : WW X nL E (pc + 1) lv (.int x :: st) ws k n) : WW X nL E pc lv st ws k n :=
  fun H locs ls hP hD hS hl => lv_iload_n C.1 C.2.1 hd hi (lv_at hl j hj) (kk H locs ls hP hD hS hl)
theorem ww_iload (C : CX X rm cc nL own ret E) {i : Nat} {x : Int32} (hd : decode cc pc = .ok (.iload i, 2)) (j : Nat) (hj : lv[j]? = some (i, .int x)) (kk : WW X nL E (pc + 2) lv (.int x :: st) ws k n) : WW X nL E pc lv st ws k n :=
  fun H locs ls hP hD hS hl => lv_iload C.1 C.2.1 hd (lv_at hl j hj) (kk H locs ls hP hD hS hl)
theorem ww_lload_n (C : CX X rm cc nL own ret E) {f : Fin 4} {i : Nat} {x : Int64} (hd : decode cc pc = .ok (.lload_n f, 1)) (j : Nat) (hi : (f : Nat) = i) (hj : lv[j]? = some (i, .long x)) (kk : WW X nL E (pc + 1) lv (.long x :: st) ws k n) : WW X nL E pc lv st ws k n :=
  fun H locs ls hP hD hS hl => lv_lload_n C.1 C.2.1 hd hi (lv_at hl j hj) (kk H locs ls hP hD hS hl)
theorem ww_lload (C : CX X rm cc nL own ret E) {i : Nat} {x : Int64} (hd : decode cc pc = .ok (.lload i, 2)) (j : Nat) (hj : lv[j]? = some (i, .long x)) (kk : WW X nL E (pc + 2) lv (.long x :: st) ws k n) : WW X nL E pc lv st ws k n :=
  fun H locs ls hP hD hS hl => lv_lload C.1 C.2.1 hd (lv_at hl j hj) (kk H locs ls hP hD hS hl)
theorem ww_aload_n (C : CX X rm cc nL own ret E) {f : Fin 4} {i : Nat} {x : Nat} (hd : decode cc pc = .ok (.aload_n f, 1)) (j : Nat) (hi : (f : Nat) = i) (hj : lv[j]? = some (i, .ref x)) (kk : WW X nL E (pc + 1) lv (.ref x :: st) ws k n) : WW X nL E pc lv st ws k n :=
  fun H locs ls hP hD hS hl => lv_aload_n C.1 C.2.1 hd hi (lv_at hl j hj) (kk H locs ls hP hD hS hl)
theorem ww_aload (C : CX X rm cc nL own ret E) {i : Nat} {x : Nat} (hd : decode cc pc = .ok (.aload i, 2)) (j : Nat) (hj : lv[j]? = some (i, .ref x)) (kk : WW X nL E (pc + 2) lv (.ref x :: st) ws k n) : WW X nL E pc lv st ws k n :=
  fun H locs ls hP hD hS hl => lv_aload C.1 C.2.1 hd (lv_at hl j hj) (kk H locs ls hP hD hS hl)
theorem ww_aload_nN (C : CX X rm cc nL own ret E) {f : Fin 4} {i : Nat} (hd : decode cc pc = .ok (.aload_n f, 1)) (j : Nat) (hi : (f : Nat) = i) (hj : lv[j]? = some (i, .null)) (kk : WW X nL E (pc + 1) lv (.null :: st) ws k n) : WW X nL E pc lv st ws k n :=
  fun H locs ls hP hD hS hl => lv_aload_nN C.1 C.2.1 hd hi (lv_at hl j hj) (kk H locs ls hP hD hS hl)
theorem ww_aloadN (C : CX X rm cc nL own ret E) {i : Nat} (hd : decode cc pc = .ok (.aload i, 2)) (j : Nat) (hj : lv[j]? = some (i, .null)) (kk : WW X nL E (pc + 2) lv (.null :: st) ws k n) : WW X nL E pc lv st ws k n :=
  fun H locs ls hP hD hS hl => lv_aloadN C.1 C.2.1 hd (lv_at hl j hj) (kk H locs ls hP hD hS hl)
theorem ww_istore_n (C : CX X rm cc nL own ret E) {f : Fin 4} {i : Nat} {x : Int32} {lv' : List (Nat × Value)} (hd : decode cc pc = .ok (.istore_n f, 1)) (hi : (f : Nat) = i) (hn : Nat.blt i nL = true) (hv : (i, Value.int x) :: lv.filter (fun q => !(q.1 == i) && !(q.1 + 1 == i && q.2.category == 2)) = lv') (kk : WW X nL E (pc + 1) lv' st ws k n) : WW X nL E pc lv (.int x :: st) ws k n :=
  fun H locs ls hP hD hS hl => lv_istore_n C.1 C.2.1 hd hi hl (Nat.le_of_ble_eq_true hn) hv (fun ls hl => kk H locs ls hP hD hS hl)
theorem ww_istore (C : CX X rm cc nL own ret E) {i : Nat} {x : Int32} {lv' : List (Nat × Value)} (hd : decode cc pc = .ok (.istore i, 2)) (hn : Nat.blt i nL = true) (hv : (i, Value.int x) :: lv.filter (fun q => !(q.1 == i) && !(q.1 + 1 == i && q.2.category == 2)) = lv') (kk : WW X nL E (pc + 2) lv' st ws k n) : WW X nL E pc lv (.int x :: st) ws k n :=
  fun H locs ls hP hD hS hl => lv_istore C.1 C.2.1 hd hl (Nat.le_of_ble_eq_true hn) hv (fun ls hl => kk H locs ls hP hD hS hl)
theorem ww_lstore_n (C : CX X rm cc nL own ret E) {f : Fin 4} {i : Nat} {x : Int64} {lv' : List (Nat × Value)} (hd : decode cc pc = .ok (.lstore_n f, 1)) (hi : (f : Nat) = i) (hn : Nat.blt (i + 1) nL = true) (hv : (i, Value.long x) :: lv.filter (fun q => !(q.1 == i) && (!(q.1 == i + 1) && !(q.1 + 1 == i && q.2.category == 2))) = lv') (kk : WW X nL E (pc + 1) lv' st ws k n) : WW X nL E pc lv (.long x :: st) ws k n :=
  fun H locs ls hP hD hS hl => lv_lstore_n C.1 C.2.1 hd hi hl (Nat.le_of_ble_eq_true hn) hv (fun ls hl => kk H locs ls hP hD hS hl)
theorem ww_lstore (C : CX X rm cc nL own ret E) {i : Nat} {x : Int64} {lv' : List (Nat × Value)} (hd : decode cc pc = .ok (.lstore i, 2)) (hn : Nat.blt (i + 1) nL = true) (hv : (i, Value.long x) :: lv.filter (fun q => !(q.1 == i) && (!(q.1 == i + 1) && !(q.1 + 1 == i && q.2.category == 2))) = lv') (kk : WW X nL E (pc + 2) lv' st ws k n) : WW X nL E pc lv (.long x :: st) ws k n :=
  fun H locs ls hP hD hS hl => lv_lstore C.1 C.2.1 hd hl (Nat.le_of_ble_eq_true hn) hv (fun ls hl => kk H locs ls hP hD hS hl)
theorem ww_astore_n (C : CX X rm cc nL own ret E) {f : Fin 4} {i : Nat} {x : Nat} {lv' : List (Nat × Value)} (hd : decode cc pc = .ok (.astore_n f, 1)) (hi : (f : Nat) = i) (hn : Nat.blt i nL = true) (hv : (i, Value.ref x) :: lv.filter (fun q => !(q.1 == i) && !(q.1 + 1 == i && q.2.category == 2)) = lv') (kk : WW X nL E (pc + 1) lv' st ws k n) : WW X nL E pc lv (.ref x :: st) ws k n :=
  fun H locs ls hP hD hS hl => lv_astore_n C.1 C.2.1 hd hi hl (Nat.le_of_ble_eq_true hn) hv (fun ls hl => kk H locs ls hP hD hS hl)
theorem ww_astore (C : CX X rm cc nL own ret E) {i : Nat} {x : Nat} {lv' : List (Nat × Value)} (hd : decode cc pc = .ok (.astore i, 2)) (hn : Nat.blt i nL = true) (hv : (i, Value.ref x) :: lv.filter (fun q => !(q.1 == i) && !(q.1 + 1 == i && q.2.category == 2)) = lv') (kk : WW X nL E (pc + 2) lv' st ws k n) : WW X nL E pc lv (.ref x :: st) ws k n :=
  fun H locs ls hP hD hS hl => lv_astore C.1 C.2.1 hd hl (Nat.le_of_ble_eq_true hn) hv (fun ls hl => kk H locs ls hP hD hS hl)
theorem ww_astore_nN (C : CX X rm cc nL own ret E) {f : Fin 4} {i : Nat} {lv' : List (Nat × Value)} (hd : decode cc pc = .ok (.astore_n f, 1)) (hi : (f : Nat) = i) (hn : Nat.blt i nL = true) (hv : (i, Value.null) :: lv.filter (fun q => !(q.1 == i) && !(q.1 + 1 == i && q.2.category == 2)) = lv') (kk : WW X nL E (pc + 1) lv' st ws k n) : WW X nL E pc lv (.null :: st) ws k n :=
  fun H locs ls hP hD hS hl => lv_astore_nN C.1 C.2.1 hd hi hl (Nat.le_of_ble_eq_true hn) hv (fun ls hl => kk H locs ls hP hD hS hl)
theorem ww_astoreN (C : CX X rm cc nL own ret E) {i : Nat} {lv' : List (Nat × Value)} (hd : decode cc pc = .ok (.astore i, 2)) (hn : Nat.blt i nL = true) (hv : (i, Value.null) :: lv.filter (fun q => !(q.1 == i) && !(q.1 + 1 == i && q.2.category == 2)) = lv') (kk : WW X nL E (pc + 2) lv' st ws k n) : WW X nL E pc lv (.null :: st) ws k n :=
  fun H locs ls hP hD hS hl => lv_astoreN C.1 C.2.1 hd hl (Nat.le_of_ble_eq_true hn) hv (fun ls hl => kk H locs ls hP hD hS hl)
theorem ww_iinc (C : CX X rm cc nL own ret E) {i j : Nat} {z : Int} {x v : Int32} {lv' : List (Nat × Value)} (hd : decode cc pc = .ok (.iinc i z, 3)) (hj : lv[j]? = some (i, .int x)) (hx : x + Int32.ofInt z = v) (hn : Nat.blt i nL = true) (hv : (i, Value.int v) :: lv.filter (fun q => !(q.1 == i) && !(q.1 + 1 == i && q.2.category == 2)) = lv') (kk : WW X nL E (pc + 3) lv' st ws k n) : WW X nL E pc lv st ws k n :=
  fun H locs ls hP hD hS hl => lv_iinc C.1 C.2.1 hd hl hj hx (Nat.le_of_ble_eq_true hn) hv (fun ls hl => kk H locs ls hP hD hS hl)
theorem ww_iadd (C : CX X rm cc nL own ret E) {x y : Int32} {v : Int32} (hd : decode cc pc = .ok (.iadd, 1)) (hv : x + y = v) (kk : WW X nL E (pc + 1) lv (.int v :: st) ws k n) : WW X nL E pc lv (.int y :: .int x :: st) ws k n :=
  by
  subst hv
  exact fun H locs ls hP hD hS hl => lv_iadd C.1 C.2.1 hd (kk H locs ls hP hD hS hl)
theorem ww_isub (C : CX X rm cc nL own ret E) {x y : Int32} {v : Int32} (hd : decode cc pc = .ok (.isub, 1)) (hv : x - y = v) (kk : WW X nL E (pc + 1) lv (.int v :: st) ws k n) : WW X nL E pc lv (.int y :: .int x :: st) ws k n :=
  by
  subst hv
  exact fun H locs ls hP hD hS hl => lv_isub C.1 C.2.1 hd (kk H locs ls hP hD hS hl)
theorem ww_imul (C : CX X rm cc nL own ret E) {x y : Int32} {v : Int32} (hd : decode cc pc = .ok (.imul, 1)) (hv : x * y = v) (kk : WW X nL E (pc + 1) lv (.int v :: st) ws k n) : WW X nL E pc lv (.int y :: .int x :: st) ws k n :=
  by
  subst hv
  exact fun H locs ls hP hD hS hl => lv_imul C.1 C.2.1 hd (kk H locs ls hP hD hS hl)
theorem ww_iand (C : CX X rm cc nL own ret E) {x y : Int32} {v : Int32} (hd : decode cc pc = .ok (.iand, 1)) (hv : x &&& y = v) (kk : WW X nL E (pc + 1) lv (.int v :: st) ws k n) : WW X nL E pc lv (.int y :: .int x :: st) ws k n :=
  by
  subst hv
  exact fun H locs ls hP hD hS hl => lv_iand C.1 C.2.1 hd (kk H locs ls hP hD hS hl)
theorem ww_ior (C : CX X rm cc nL own ret E) {x y : Int32} {v : Int32} (hd : decode cc pc = .ok (.ior, 1)) (hv : x ||| y = v) (kk : WW X nL E (pc + 1) lv (.int v :: st) ws k n) : WW X nL E pc lv (.int y :: .int x :: st) ws k n :=
  by
  subst hv
  exact fun H locs ls hP hD hS hl => lv_ior C.1 C.2.1 hd (kk H locs ls hP hD hS hl)
theorem ww_ixor (C : CX X rm cc nL own ret E) {x y : Int32} {v : Int32} (hd : decode cc pc = .ok (.ixor, 1)) (hv : x ^^^ y = v) (kk : WW X nL E (pc + 1) lv (.int v :: st) ws k n) : WW X nL E pc lv (.int y :: .int x :: st) ws k n :=
  by
  subst hv
  exact fun H locs ls hP hD hS hl => lv_ixor C.1 C.2.1 hd (kk H locs ls hP hD hS hl)
theorem ww_ineg (C : CX X rm cc nL own ret E) {x : Int32} {v : Int32} (hd : decode cc pc = .ok (.ineg, 1)) (hv : -x = v) (kk : WW X nL E (pc + 1) lv (.int v :: st) ws k n) : WW X nL E pc lv (.int x :: st) ws k n :=
  by
  subst hv
  exact fun H locs ls hP hD hS hl => lv_ineg C.1 C.2.1 hd (kk H locs ls hP hD hS hl)
theorem ww_idiv (C : CX X rm cc nL own ret E) {x y : Int32} {v : Int32} (hd : decode cc pc = .ok (.idiv, 1)) (hz : ¬ y = 0) (hv : x / y = v) (kk : WW X nL E (pc + 1) lv (.int v :: st) ws k n) : WW X nL E pc lv (.int y :: .int x :: st) ws k n :=
  by
  subst hv
  exact fun H locs ls hP hD hS hl => lv_idiv C.1 C.2.1 hd hz (kk H locs ls hP hD hS hl)
theorem ww_irem (C : CX X rm cc nL own ret E) {x y : Int32} {v : Int32} (hd : decode cc pc = .ok (.irem, 1)) (hz : ¬ y = 0) (hv : x - x / y * y = v) (kk : WW X nL E (pc + 1) lv (.int v :: st) ws k n) : WW X nL E pc lv (.int y :: .int x :: st) ws k n :=
  by
  subst hv
  exact fun H locs ls hP hD hS hl => lv_irem C.1 C.2.1 hd hz (kk H locs ls hP hD hS hl)
theorem ww_ishl (C : CX X rm cc nL own ret E) {x y : Int32} {v : Int32} (hd : decode cc pc = .ok (.ishl, 1)) (hv : x <<< (y &&& 31) = v) (kk : WW X nL E (pc + 1) lv (.int v :: st) ws k n) : WW X nL E pc lv (.int y :: .int x :: st) ws k n :=
  by
  subst hv
  exact fun H locs ls hP hD hS hl => lv_ishl C.1 C.2.1 hd (kk H locs ls hP hD hS hl)
theorem ww_ishr (C : CX X rm cc nL own ret E) {x y : Int32} {v : Int32} (hd : decode cc pc = .ok (.ishr, 1)) (hv : x >>> (y &&& 31) = v) (kk : WW X nL E (pc + 1) lv (.int v :: st) ws k n) : WW X nL E pc lv (.int y :: .int x :: st) ws k n :=
  by
  subst hv
  exact fun H locs ls hP hD hS hl => lv_ishr C.1 C.2.1 hd (kk H locs ls hP hD hS hl)
theorem ww_iushr (C : CX X rm cc nL own ret E) {x y : Int32} {v : Int32} (hd : decode cc pc = .ok (.iushr, 1)) (hv : (x.toUInt32 >>> (y.toUInt32 &&& Int32.toUInt32 31)).toInt32 = v) (kk : WW X nL E (pc + 1) lv (.int v :: st) ws k n) : WW X nL E pc lv (.int y :: .int x :: st) ws k n :=
  fun H locs ls hP hD hS hl => lv_iushr C.1 C.2.1 hd hv (kk H locs ls hP hD hS hl)
theorem ww_ladd (C : CX X rm cc nL own ret E) {x y : Int64} {v : Int64} (hd : decode cc pc = .ok (.ladd, 1)) (hv : x + y = v) (kk : WW X nL E (pc + 1) lv (.long v :: st) ws k n) : WW X nL E pc lv (.long y :: .long x :: st) ws k n :=
  by
  subst hv
  exact fun H locs ls hP hD hS hl => lv_ladd C.1 C.2.1 hd (kk H locs ls hP hD hS hl)
theorem ww_lsub (C : CX X rm cc nL own ret E) {x y : Int64} {v : Int64} (hd : decode cc pc = .ok (.lsub, 1)) (hv : x - y = v) (kk : WW X nL E (pc + 1) lv (.long v :: st) ws k n) : WW X nL E pc lv (.long y :: .long x :: st) ws k n :=
  by
  subst hv
  exact fun H locs ls hP hD hS hl => lv_lsub C.1 C.2.1 hd (kk H locs ls hP hD hS hl)
theorem ww_lor (C : CX X rm cc nL own ret E) {x y : Int64} {v : Int64} (hd : decode cc pc = .ok (.lor, 1)) (hv : x ||| y = v) (kk : WW X nL E (pc + 1) lv (.long v :: st) ws k n) : WW X nL E pc lv (.long y :: .long x :: st) ws k n :=
  by
  subst hv
  exact fun H locs ls hP hD hS hl => lv_lor C.1 C.2.1 hd (kk H locs ls hP hD hS hl)
theorem ww_land (C : CX X rm cc nL own ret E) {x y : Int64} {v : Int64} (hd : decode cc pc = .ok (.land, 1)) (hv : x &&& y = v) (kk : WW X nL E (pc + 1) lv (.long v :: st) ws k n) : WW X nL E pc lv (.long y :: .long x :: st) ws k n :=
  by
  subst hv
  exact fun H locs ls hP hD hS hl => lv_land C.1 C.2.1 hd (kk H locs ls hP hD hS hl)
theorem ww_lushr (C : CX X rm cc nL own ret E) {x : Int64} {y : Int32} {v : Int64} (hd : decode cc pc = .ok (.lushr, 1)) (hv : (x.toUInt64 >>> (y.toInt64.toUInt64 &&& Int64.toUInt64 63)).toInt64 = v) (kk : WW X nL E (pc + 1) lv (.long v :: st) ws k n) : WW X nL E pc lv (.int y :: .long x :: st) ws k n :=
  fun H locs ls hP hD hS hl => lv_lushr C.1 C.2.1 hd hv (kk H locs ls hP hD hS hl)
theorem ww_lshl (C : CX X rm cc nL own ret E) {x : Int64} {y : Int32} {v : Int64} (hd : decode cc pc = .ok (.lshl, 1)) (hv : x <<< (y.toInt64 &&& 63) = v) (kk : WW X nL E (pc + 1) lv (.long v :: st) ws k n) : WW X nL E pc lv (.int y :: .long x :: st) ws k n :=
  fun H locs ls hP hD hS hl => lv_lshl C.1 C.2.1 hd hv (kk H locs ls hP hD hS hl)
theorem ww_lshr (C : CX X rm cc nL own ret E) {x : Int64} {y : Int32} {v : Int64} (hd : decode cc pc = .ok (.lshr, 1)) (hv : x >>> (y.toInt64 &&& 63) = v) (kk : WW X nL E (pc + 1) lv (.long v :: st) ws k n) : WW X nL E pc lv (.int y :: .long x :: st) ws k n :=
  fun H locs ls hP hD hS hl => lv_lshr C.1 C.2.1 hd hv (kk H locs ls hP hD hS hl)
theorem ww_i2l (C : CX X rm cc nL own ret E) {x : Int32} {v : Int64} (hd : decode cc pc = .ok (.i2l, 1)) (hv : x.toInt64 = v) (kk : WW X nL E (pc + 1) lv (.long v :: st) ws k n) : WW X nL E pc lv (.int x :: st) ws k n :=
  fun H locs ls hP hD hS hl => lv_i2l C.1 C.2.1 hd hv (kk H locs ls hP hD hS hl)
theorem ww_l2i (C : CX X rm cc nL own ret E) {x : Int64} {v : Int32} (hd : decode cc pc = .ok (.l2i, 1)) (hv : x.toInt32 = v) (kk : WW X nL E (pc + 1) lv (.int v :: st) ws k n) : WW X nL E pc lv (.long x :: st) ws k n :=
  fun H locs ls hP hD hS hl => lv_l2i C.1 C.2.1 hd hv (kk H locs ls hP hD hS hl)
theorem ww_i2b (C : CX X rm cc nL own ret E) {x : Int32} {v : Int32} (hd : decode cc pc = .ok (.i2b, 1)) (hv : x.toInt8.toInt32 = v) (kk : WW X nL E (pc + 1) lv (.int v :: st) ws k n) : WW X nL E pc lv (.int x :: st) ws k n :=
  fun H locs ls hP hD hS hl => lv_i2b C.1 C.2.1 hd hv (kk H locs ls hP hD hS hl)
theorem ww_i2s (C : CX X rm cc nL own ret E) {x : Int32} {v : Int32} (hd : decode cc pc = .ok (.i2s, 1)) (hv : x.toInt16.toInt32 = v) (kk : WW X nL E (pc + 1) lv (.int v :: st) ws k n) : WW X nL E pc lv (.int x :: st) ws k n :=
  fun H locs ls hP hD hS hl => lv_i2s C.1 C.2.1 hd hv (kk H locs ls hP hD hS hl)
theorem ww_i2c (C : CX X rm cc nL own ret E) {x : Int32} {v : Int32} (hd : decode cc pc = .ok (.i2c, 1)) (hv : (x.toUInt32 % 65536).toInt32 = v) (kk : WW X nL E (pc + 1) lv (.int v :: st) ws k n) : WW X nL E pc lv (.int x :: st) ws k n :=
  fun H locs ls hP hD hS hl => lv_i2c C.1 C.2.1 hd hv (kk H locs ls hP hD hS hl)
theorem ww_lcmp (C : CX X rm cc nL own ret E) {x y : Int64} {v : Int32} (hd : decode cc pc = .ok (.lcmp, 1)) (hv : lg_cmp x y = v) (kk : WW X nL E (pc + 1) lv (.int v :: st) ws k n) : WW X nL E pc lv (.long y :: .long x :: st) ws k n :=
  by
  subst hv
  exact fun H locs ls hP hD hS hl => W.lcmp C.1 C.2.1 hd (kk H locs ls hP hD hS hl)
theorem ww_dup (C : CX X rm cc nL own ret E) {a : Value} (hd : decode cc pc = .ok (.dup, 1)) (ha : a.category = 1) (kk : WW X nL E (pc + 1) lv (a :: a :: st) ws k n) : WW X nL E pc lv (a :: st) ws k n :=
  fun H locs ls hP hD hS hl => lv_dup C.1 C.2.1 hd ha (kk H locs ls hP hD hS hl)
theorem ww_pop (C : CX X rm cc nL own ret E) {a : Value} (hd : decode cc pc = .ok (.pop, 1)) (ha : a.category = 1) (kk : WW X nL E (pc + 1) lv st ws k n) : WW X nL E pc lv (a :: st) ws k n :=
  fun H locs ls hP hD hS hl => lv_pop C.1 C.2.1 hd ha (kk H locs ls hP hD hS hl)
theorem ww_dup_x1 (C : CX X rm cc nL own ret E) {a b : Value} (hd : decode cc pc = .ok (.dup_x1, 1)) (ha : a.category = 1) (hb : b.category = 1) (kk : WW X nL E (pc + 1) lv (a :: b :: a :: st) ws k n) : WW X nL E pc lv (a :: b :: st) ws k n :=
  fun H locs ls hP hD hS hl => lv_dup_x1 C.1 C.2.1 hd ha hb (kk H locs ls hP hD hS hl)
theorem ww_dup2 (C : CX X rm cc nL own ret E) {a b : Value} (hd : decode cc pc = .ok (.dup2, 1)) (ha : a.category = 1) (hb : b.category = 1) (kk : WW X nL E (pc + 1) lv (a :: b :: a :: b :: st) ws k n) : WW X nL E pc lv (a :: b :: st) ws k n :=
  fun H locs ls hP hD hS hl => lv_dup2_11 C.1 C.2.1 hd ha hb (kk H locs ls hP hD hS hl)
theorem ww_if_eq (C : CX X rm cc nL own ret E) {x : Int32} {off : Int} {tgt : Nat} (hd : decode cc pc = .ok (.ifCond .eq off, 3)) (ht : (pc : Int) + off = (tgt : Int)) (kt : x = 0 → WW X nL E tgt lv st ws k n) (kf : ¬ (x = 0) → WW X nL E (pc + 3) lv st ws k n) : WW X nL E pc lv (.int x :: st) ws k n :=
  fun H locs ls hP hD hS hl => lv_if_eq C.1 C.2.1 hd ht (fun h => kt (h) H locs ls hP hD hS hl) (fun h => kf (h) H locs ls hP hD hS hl)
theorem ww_if_eq_t (C : CX X rm cc nL own ret E) {x : Int32} {off : Int} {tgt : Nat} (hd : decode cc pc = .ok (.ifCond .eq off, 3)) (ht : (pc : Int) + off = (tgt : Int)) (h : x = 0) (kk : WW X nL E tgt lv st ws k n) : WW X nL E pc lv (.int x :: st) ws k n :=
  ww_if_eq C hd ht (fun _ => kk) (fun h2 => absurd h h2)
theorem ww_if_eq_f (C : CX X rm cc nL own ret E) {x : Int32} {off : Int} {tgt : Nat} (hd : decode cc pc = .ok (.ifCond .eq off, 3)) (ht : (pc : Int) + off = (tgt : Int)) (h : ¬ (x = 0)) (kk : WW X nL E (pc + 3) lv st ws k n) : WW X nL E pc lv (.int x :: st) ws k n :=
  ww_if_eq C hd ht (fun h2 => absurd h2 h) (fun _ => kk)
theorem ww_icmp_eq (C : CX X rm cc nL own ret E) {x y : Int32} {off : Int} {tgt : Nat} (hd : decode cc pc = .ok (.if_icmp .eq off, 3)) (ht : (pc : Int) + off = (tgt : Int)) (kt : x = y → WW X nL E tgt lv st ws k n) (kf : ¬ (x = y) → WW X nL E (pc + 3) lv st ws k n) : WW X nL E pc lv (.int y :: .int x :: st) ws k n :=
  fun H locs ls hP hD hS hl => lv_icmp_eq C.1 C.2.1 hd ht (fun h => kt (h) H locs ls hP hD hS hl) (fun h => kf (h) H locs ls hP hD hS hl)
theorem ww_icmp_eq_t (C : CX X rm cc nL own ret E) {x y : Int32} {off : Int} {tgt : Nat} (hd : decode cc pc = .ok (.if_icmp .eq off, 3)) (ht : (pc : Int) + off = (tgt : Int)) (h : x = y) (kk : WW X nL E tgt lv st ws k n) : WW X nL E pc lv (.int y :: .int x :: st) ws k n :=
  ww_icmp_eq C hd ht (fun _ => kk) (fun h2 => absurd h h2)
theorem ww_icmp_eq_f (C : CX X rm cc nL own ret E) {x y : Int32} {off : Int} {tgt : Nat} (hd : decode cc pc = .ok (.if_icmp .eq off, 3)) (ht : (pc : Int) + off = (tgt : Int)) (h : ¬ (x = y)) (kk : WW X nL E (pc + 3) lv st ws k n) : WW X nL E pc lv (.int y :: .int x :: st) ws k n :=
  ww_icmp_eq C hd ht (fun h2 => absurd h2 h) (fun _ => kk)
theorem ww_if_ne (C : CX X rm cc nL own ret E) {x : Int32} {off : Int} {tgt : Nat} (hd : decode cc pc = .ok (.ifCond .ne off, 3)) (ht : (pc : Int) + off = (tgt : Int)) (kt : ¬ x = 0 → WW X nL E tgt lv st ws k n) (kf : x = 0 → WW X nL E (pc + 3) lv st ws k n) : WW X nL E pc lv (.int x :: st) ws k n :=
  fun H locs ls hP hD hS hl => lv_if_ne C.1 C.2.1 hd ht (fun h => kt (h) H locs ls hP hD hS hl) (fun h => kf (h) H locs ls hP hD hS hl)
theorem ww_if_ne_t (C : CX X rm cc nL own ret E) {x : Int32} {off : Int} {tgt : Nat} (hd : decode cc pc = .ok (.ifCond .ne off, 3)) (ht : (pc : Int) + off = (tgt : Int)) (h : ¬ x = 0) (kk : WW X nL E tgt lv st ws k n) : WW X nL E pc lv (.int x :: st) ws k n :=
  ww_if_ne C hd ht (fun _ => kk) (fun h2 => absurd h2 h)
theorem ww_if_ne_f (C : CX X rm cc nL own ret E) {x : Int32} {off : Int} {tgt : Nat} (hd : decode cc pc = .ok (.ifCond .ne off, 3)) (ht : (pc : Int) + off = (tgt : Int)) (h : x = 0) (kk : WW X nL E (pc + 3) lv st ws k n) : WW X nL E pc lv (.int x :: st) ws k n :=
  ww_if_ne C hd ht (fun h2 => absurd h h2) (fun _ => kk)
theorem ww_icmp_ne (C : CX X rm cc nL own ret E) {x y : Int32} {off : Int} {tgt : Nat} (hd : decode cc pc = .ok (.if_icmp .ne off, 3)) (ht : (pc : Int) + off = (tgt : Int)) (kt : ¬ x = y → WW X nL E tgt lv st ws k n) (kf : x = y → WW X nL E (pc + 3) lv st ws k n) : WW X nL E pc lv (.int y :: .int x :: st) ws k n :=
  fun H locs ls hP hD hS hl => lv_icmp_ne C.1 C.2.1 hd ht (fun h => kt (h) H locs ls hP hD hS hl) (fun h => kf (h) H locs ls hP hD hS hl)
theorem ww_icmp_ne_t (C : CX X rm cc nL own ret E) {x y : Int32} {off : Int} {tgt : Nat} (hd : decode cc pc = .ok (.if_icmp .ne off, 3)) (ht : (pc : Int) + off = (tgt : Int)) (h : ¬ x = y) (kk : WW X nL E tgt lv st ws k n) : WW X nL E pc lv (.int y :: .int x :: st) ws k n :=
  ww_icmp_ne C hd ht (fun _ => kk) (fun h2 => absurd h2 h)
theorem ww_icmp_ne_f (C : CX X rm cc nL own ret E) {x y : Int32} {off : Int} {tgt : Nat} (hd : decode cc pc = .ok (.if_icmp .ne off, 3)) (ht : (pc : Int) + off = (tgt : Int)) (h : x = y) (kk : WW X nL E (pc + 3) lv st ws k n) : WW X nL E pc lv (.int y :: .int x :: st) ws k n :=
  ww_icmp_ne C hd ht (fun h2 => absurd h h2) (fun _ => kk)
theorem ww_if_lt (C : CX X rm cc nL own ret E) {x : Int32} {off : Int} {tgt : Nat} (hd : decode cc pc = .ok (.ifCond .lt off, 3)) (ht : (pc : Int) + off = (tgt : Int)) (kt : x < 0 → WW X nL E tgt lv st ws k n) (kf : ¬ (x < 0) → WW X nL E (pc + 3) lv st ws k n) : WW X nL E pc lv (.int x :: st) ws k n :=
  fun H locs ls hP hD hS hl => lv_if_lt C.1 C.2.1 hd ht (fun h => kt (h) H locs ls hP hD hS hl) (fun h => kf (h) H locs ls hP hD hS hl)
theorem ww_if_lt_t (C : CX X rm cc nL own ret E) {x : Int32} {off : Int} {tgt : Nat} (hd : decode cc pc = .ok (.ifCond .lt off, 3)) (ht : (pc : Int) + off = (tgt : Int)) (h : x < 0) (kk : WW X nL E tgt lv st ws k n) : WW X nL E pc lv (.int x :: st) ws k n :=
  ww_if_lt C hd ht (fun _ => kk) (fun h2 => absurd h h2)
theorem ww_if_lt_f (C : CX X rm cc nL own ret E) {x : Int32} {off : Int} {tgt : Nat} (hd : decode cc pc = .ok (.ifCond .lt off, 3)) (ht : (pc : Int) + off = (tgt : Int)) (h : ¬ (x < 0)) (kk : WW X nL E (pc + 3) lv st ws k n) : WW X nL E pc lv (.int x :: st) ws k n :=
  ww_if_lt C hd ht (fun h2 => absurd h2 h) (fun _ => kk)
theorem ww_icmp_lt (C : CX X rm cc nL own ret E) {x y : Int32} {off : Int} {tgt : Nat} (hd : decode cc pc = .ok (.if_icmp .lt off, 3)) (ht : (pc : Int) + off = (tgt : Int)) (kt : x < y → WW X nL E tgt lv st ws k n) (kf : ¬ (x < y) → WW X nL E (pc + 3) lv st ws k n) : WW X nL E pc lv (.int y :: .int x :: st) ws k n :=
  fun H locs ls hP hD hS hl => lv_icmp_lt C.1 C.2.1 hd ht (fun h => kt (h) H locs ls hP hD hS hl) (fun h => kf (h) H locs ls hP hD hS hl)
theorem ww_icmp_lt_t (C : CX X rm cc nL own ret E) {x y : Int32} {off : Int} {tgt : Nat} (hd : decode cc pc = .ok (.if_icmp .lt off, 3)) (ht : (pc : Int) + off = (tgt : Int)) (h : x < y) (kk : WW X nL E tgt lv st ws k n) : WW X nL E pc lv (.int y :: .int x :: st) ws k n :=
  ww_icmp_lt C hd ht (fun _ => kk) (fun h2 => absurd h h2)
theorem ww_icmp_lt_f (C : CX X rm cc nL own ret E) {x y : Int32} {off : Int} {tgt : Nat} (hd : decode cc pc = .ok (.if_icmp .lt off, 3)) (ht : (pc : Int) + off = (tgt : Int)) (h : ¬ (x < y)) (kk : WW X nL E (pc + 3) lv st ws k n) : WW X nL E pc lv (.int y :: .int x :: st) ws k n :=
  ww_icmp_lt C hd ht (fun h2 => absurd h2 h) (fun _ => kk)
theorem ww_if_ge (C : CX X rm cc nL own ret E) {x : Int32} {off : Int} {tgt : Nat} (hd : decode cc pc = .ok (.ifCond .ge off, 3)) (ht : (pc : Int) + off = (tgt : Int)) (kt : 0 ≤ x → WW X nL E tgt lv st ws k n) (kf : ¬ (0 ≤ x) → WW X nL E (pc + 3) lv st ws k n) : WW X nL E pc lv (.int x :: st) ws k n :=
  fun H locs ls hP hD hS hl => lv_if_ge C.1 C.2.1 hd ht (fun h => kt (h) H locs ls hP hD hS hl) (fun h => kf (h) H locs ls hP hD hS hl)
theorem ww_if_ge_t (C : CX X rm cc nL own ret E) {x : Int32} {off : Int} {tgt : Nat} (hd : decode cc pc = .ok (.ifCond .ge off, 3)) (ht : (pc : Int) + off = (tgt : Int)) (h : 0 ≤ x) (kk : WW X nL E tgt lv st ws k n) : WW X nL E pc lv (.int x :: st) ws k n :=
  ww_if_ge C hd ht (fun _ => kk) (fun h2 => absurd h h2)
theorem ww_if_ge_f (C : CX X rm cc nL own ret E) {x : Int32} {off : Int} {tgt : Nat} (hd : decode cc pc = .ok (.ifCond .ge off, 3)) (ht : (pc : Int) + off = (tgt : Int)) (h : ¬ (0 ≤ x)) (kk : WW X nL E (pc + 3) lv st ws k n) : WW X nL E pc lv (.int x :: st) ws k n :=
  ww_if_ge C hd ht (fun h2 => absurd h2 h) (fun _ => kk)
theorem ww_icmp_ge (C : CX X rm cc nL own ret E) {x y : Int32} {off : Int} {tgt : Nat} (hd : decode cc pc = .ok (.if_icmp .ge off, 3)) (ht : (pc : Int) + off = (tgt : Int)) (kt : y ≤ x → WW X nL E tgt lv st ws k n) (kf : ¬ (y ≤ x) → WW X nL E (pc + 3) lv st ws k n) : WW X nL E pc lv (.int y :: .int x :: st) ws k n :=
  fun H locs ls hP hD hS hl => lv_icmp_ge C.1 C.2.1 hd ht (fun h => kt (h) H locs ls hP hD hS hl) (fun h => kf (h) H locs ls hP hD hS hl)
theorem ww_icmp_ge_t (C : CX X rm cc nL own ret E) {x y : Int32} {off : Int} {tgt : Nat} (hd : decode cc pc = .ok (.if_icmp .ge off, 3)) (ht : (pc : Int) + off = (tgt : Int)) (h : y ≤ x) (kk : WW X nL E tgt lv st ws k n) : WW X nL E pc lv (.int y :: .int x :: st) ws k n :=
  ww_icmp_ge C hd ht (fun _ => kk) (fun h2 => absurd h h2)
theorem ww_icmp_ge_f (C : CX X rm cc nL own ret E) {x y : Int32} {off : Int} {tgt : Nat} (hd : decode cc pc = .ok (.if_icmp .ge off, 3)) (ht : (pc : Int) + off = (tgt : Int)) (h : ¬ (y ≤ x)) (kk : WW X nL E (pc + 3) lv st ws k n) : WW X nL E pc lv (.int y :: .int x :: st) ws k n :=
  ww_icmp_ge C hd ht (fun h2 => absurd h2 h) (fun _ => kk)
theorem ww_if_gt (C : CX X rm cc nL own ret E) {x : Int32} {off : Int} {tgt : Nat} (hd : decode cc pc = .ok (.ifCond .gt off, 3)) (ht : (pc : Int) + off = (tgt : Int)) (kt : 0 < x → WW X nL E tgt lv st ws k n) (kf : ¬ (0 < x) → WW X nL E (pc + 3) lv st ws k n) : WW X nL E pc lv (.int x :: st) ws k n :=
  fun H locs ls hP hD hS hl => lv_if_gt C.1 C.2.1 hd ht (fun h => kt (h) H locs ls hP hD hS hl) (fun h => kf (h) H locs ls hP hD hS hl)
theorem ww_if_gt_t (C : CX X rm cc nL own ret E) {x : Int32} {off : Int} {tgt : Nat} (hd : decode cc pc = .ok (.ifCond .gt off, 3)) (ht : (pc : Int) + off = (tgt : Int)) (h : 0 < x) (kk : WW X nL E tgt lv st ws k n) : WW X nL E pc lv (.int x :: st) ws k n :=
  ww_if_gt C hd ht (fun _ => kk) (fun h2 => absurd h h2)
theorem ww_if_gt_f (C : CX X rm cc nL own ret E) {x : Int32} {off : Int} {tgt : Nat} (hd : decode cc pc = .ok (.ifCond .gt off, 3)) (ht : (pc : Int) + off = (tgt : Int)) (h : ¬ (0 < x)) (kk : WW X nL E (pc + 3) lv st ws k n) : WW X nL E pc lv (.int x :: st) ws k n :=
  ww_if_gt C hd ht (fun h2 => absurd h2 h) (fun _ => kk)
theorem ww_icmp_gt (C : CX X rm cc nL own ret E) {x y : Int32} {off : Int} {tgt : Nat} (hd : decode cc pc = .ok (.if_icmp .gt off, 3)) (ht : (pc : Int) + off = (tgt : Int)) (kt : y < x → WW X nL E tgt lv st ws k n) (kf : ¬ (y < x) → WW X nL E (pc + 3) lv st ws k n) : WW X nL E pc lv (.int y :: .int x :: st) ws k n :=
  fun H locs ls hP hD hS hl => lv_icmp_gt C.1 C.2.1 hd ht (fun h => kt (h) H locs ls hP hD hS hl) (fun h => kf (h) H locs ls hP hD hS hl)
theorem ww_icmp_gt_t (C : CX X rm cc nL own ret E) {x y : Int32} {off : Int} {tgt : Nat} (hd : decode cc pc = .ok (.if_icmp .gt off, 3)) (ht : (pc : Int) + off = (tgt : Int)) (h : y < x) (kk : WW X nL E tgt lv st ws k n) : WW X nL E pc lv (.int y :: .int x :: st) ws k n :=
  ww_icmp_gt C hd ht (fun _ => kk) (fun h2 => absurd h h2)
theorem ww_icmp_gt_f (C : CX X rm cc nL own ret E) {x y : Int32} {off : Int} {tgt : Nat} (hd : decode cc pc = .ok (.if_icmp .gt off, 3)) (ht : (pc : Int) + off = (tgt : Int)) (h : ¬ (y < x)) (kk : WW X nL E (pc + 3) lv st ws k n) : WW X nL E pc lv (.int y :: .int x :: st) ws k n :=
  ww_icmp_gt C hd ht (fun h2 => absurd h2 h) (fun _ => kk)
theorem ww_if_le (C : CX X rm cc nL own ret E) {x : Int32} {off : Int} {tgt : Nat} (hd : decode cc pc = .ok (.ifCond .le off, 3)) (ht : (pc : Int) + off = (tgt : Int)) (kt : x ≤ 0 → WW X nL E tgt lv st ws k n) (kf : ¬ (x ≤ 0) → WW X nL E (pc + 3) lv st ws k n) : WW X nL E pc lv (.int x :: st) ws k n :=
  fun H locs ls hP hD hS hl => lv_if_le C.1 C.2.1 hd ht (fun h => kt (h) H locs ls hP hD hS hl) (fun h => kf (h) H locs ls hP hD hS hl)
theorem ww_if_le_t (C : CX X rm cc nL own ret E) {x : Int32} {off : Int} {tgt : Nat} (hd : decode cc pc = .ok (.ifCond .le off, 3)) (ht : (pc : Int) + off = (tgt : Int)) (h : x ≤ 0) (kk : WW X nL E tgt lv st ws k n) : WW X nL E pc lv (.int x :: st) ws k n :=
  ww_if_le C hd ht (fun _ => kk) (fun h2 => absurd h h2)
theorem ww_if_le_f (C : CX X rm cc nL own ret E) {x : Int32} {off : Int} {tgt : Nat} (hd : decode cc pc = .ok (.ifCond .le off, 3)) (ht : (pc : Int) + off = (tgt : Int)) (h : ¬ (x ≤ 0)) (kk : WW X nL E (pc + 3) lv st ws k n) : WW X nL E pc lv (.int x :: st) ws k n :=
  ww_if_le C hd ht (fun h2 => absurd h2 h) (fun _ => kk)
theorem ww_icmp_le (C : CX X rm cc nL own ret E) {x y : Int32} {off : Int} {tgt : Nat} (hd : decode cc pc = .ok (.if_icmp .le off, 3)) (ht : (pc : Int) + off = (tgt : Int)) (kt : x ≤ y → WW X nL E tgt lv st ws k n) (kf : ¬ (x ≤ y) → WW X nL E (pc + 3) lv st ws k n) : WW X nL E pc lv (.int y :: .int x :: st) ws k n :=
  fun H locs ls hP hD hS hl => lv_icmp_le C.1 C.2.1 hd ht (fun h => kt (h) H locs ls hP hD hS hl) (fun h => kf (h) H locs ls hP hD hS hl)
theorem ww_icmp_le_t (C : CX X rm cc nL own ret E) {x y : Int32} {off : Int} {tgt : Nat} (hd : decode cc pc = .ok (.if_icmp .le off, 3)) (ht : (pc : Int) + off = (tgt : Int)) (h : x ≤ y) (kk : WW X nL E tgt lv st ws k n) : WW X nL E pc lv (.int y :: .int x :: st) ws k n :=
  ww_icmp_le C hd ht (fun _ => kk) (fun h2 => absurd h h2)
theorem ww_icmp_le_f (C : CX X rm cc nL own ret E) {x y : Int32} {off : Int} {tgt : Nat} (hd : decode cc pc = .ok (.if_icmp .le off, 3)) (ht : (pc : Int) + off = (tgt : Int)) (h : ¬ (x ≤ y)) (kk : WW X nL E (pc + 3) lv st ws k n) : WW X nL E pc lv (.int y :: .int x :: st) ws k n :=
  ww_icmp_le C hd ht (fun h2 => absurd h2 h) (fun _ => kk)
theorem ww_goto (C : CX X rm cc nL own ret E) {off : Int} {tgt : Nat} (hd : decode cc pc = .ok (.goto off, 3)) (ht : (pc : Int) + off = (tgt : Int)) (kk : WW X nL E tgt lv st ws k n) : WW X nL E pc lv st ws k n :=
  fun H locs ls hP hD hS hl => lv_goto C.1 C.2.1 hd ht (kk H locs ls hP hD hS hl)
theorem ww_ifnonnull (C : CX X rm cc nL own ret E) {a : Nat} {off : Int} {tgt : Nat} (hd : decode cc pc = .ok (.ifnonnull off, 3)) (ht : (pc : Int) + off = (tgt : Int)) (kk : WW X nL E tgt lv st ws k n) : WW X nL E pc lv (.ref a :: st) ws k n :=
  fun H locs ls hP hD hS hl => lv_ifnonnull C.1 C.2.1 hd ht (kk H locs ls hP hD hS hl)
theorem ww_ifnonnullN (C : CX X rm cc nL own ret E) {off : Int} (hd : decode cc pc = .ok (.ifnonnull off, 3)) (kk : WW X nL E (pc + 3) lv st ws k n) : WW X nL E pc lv (.null :: st) ws k n :=
  fun H locs ls hP hD hS hl => lv_ifnonnullN C.1 C.2.1 hd (kk H locs ls hP hD hS hl)
theorem ww_ifnull (C : CX X rm cc nL own ret E) {a : Nat} {off : Int} (hd : decode cc pc = .ok (.ifnull off, 3)) (kk : WW X nL E (pc + 3) lv st ws k n) : WW X nL E pc lv (.ref a :: st) ws k n :=
  fun H locs ls hP hD hS hl => lv_ifnull C.1 C.2.1 hd (kk H locs ls hP hD hS hl)
theorem ww_ifnullN (C : CX X rm cc nL own ret E) {off : Int} {tgt : Nat} (hd : decode cc pc = .ok (.ifnull off, 3)) (ht : (pc : Int) + off = (tgt : Int)) (kk : WW X nL E tgt lv st ws k n) : WW X nL E pc lv (.null :: st) ws k n :=
  fun H locs ls hP hD hS hl => lv_ifnullN C.1 C.2.1 hd ht (kk H locs ls hP hD hS hl)
theorem ww_tableIn (C : CX X rm cc nL own ret E) {dflt lo hi : Int} {offs : Array Int} {len : Nat} {x : Int32} {off : Int} {tgt : Nat} (hd : decode cc pc = .ok (.tableswitch dflt lo hi offs, len)) (h1 : ¬ x.toInt < lo) (h2 : ¬ hi < x.toInt) (ho : offs[(x.toInt - lo).toNat]? = some off) (ht : (pc : Int) + off = (tgt : Int)) (kk : WW X nL E tgt lv st ws k n) : WW X nL E pc lv (.int x :: st) ws k n :=
  fun H locs ls hP hD hS hl => lv_tableIn C.1 C.2.1 hd h1 h2 ho ht (kk H locs ls hP hD hS hl)
theorem ww_tableOut (C : CX X rm cc nL own ret E) {dflt lo hi : Int} {offs : Array Int} {len : Nat} {x : Int32} {tgt : Nat} (hd : decode cc pc = .ok (.tableswitch dflt lo hi offs, len)) (h : x.toInt < lo ∨ hi < x.toInt) (ht : (pc : Int) + dflt = (tgt : Int)) (kk : WW X nL E tgt lv st ws k n) : WW X nL E pc lv (.int x :: st) ws k n :=
  fun H locs ls hP hD hS hl => lv_tableOut C.1 C.2.1 hd h ht (kk H locs ls hP hD hS hl)
theorem ww_ldc (C : CX X rm cc nL own ret E) {idx : Nat} {v : Int32} (hc : Cond.constant own idx v ∈ TB) (hd : decode cc pc = .ok (.ldc idx, 2)) (kk : WW X nL E (pc + 2) lv (.int v :: st) ws k n) : WW X nL E pc lv st ws k n :=
  fun H locs ls hP hD hS hl => lv_ldc C.1 C.2.1 C.2.2.2.1 (C.2.2.2.2.1 _ hc) hd (kk H locs ls hP hD hS hl)
theorem ww_ldcw (C : CX X rm cc nL own ret E) {idx : Nat} {v : Int32} (hc : Cond.constant own idx v ∈ TB) (hd : decode cc pc = .ok (.ldc_w idx, 3)) (kk : WW X nL E (pc + 3) lv (.int v :: st) ws k n) : WW X nL E pc lv st ws k n :=
  fun H locs ls hP hD hS hl => lv_ldcw C.1 C.2.1 C.2.2.2.1 (C.2.2.2.2.1 _ hc) hd (kk H locs ls hP hD hS hl)
theorem ww_ldc2 (C : CX X rm cc nL own ret E) {idx : Nat} {v : Int64} (hc : Cond.constantLong own idx v ∈ TB) (hd : decode cc pc = .ok (.ldc2_w idx, 3)) (kk : WW X nL E (pc + 3) lv (.long v :: st) ws k n) : WW X nL E pc lv st ws k n :=
  fun H locs ls hP hD hS hl => lv_ldc2 C.1 C.2.1 C.2.2.2.1 (C.2.2.2.2.1 _ hc) hd (kk H locs ls hP hD hS hl)
theorem ww_ldcS (C : CX X rm cc nL own ret E) {idx : Nat} {tx : String} (hs : (idx, tx) ∈ kkS) (ho : own = RX5) (hd : decode cc pc = .ok (.ldc idx, 2)) (kk : WW X nL E (pc + 2) lv (.ref (E.2.2 idx) :: st) ws k n) : WW X nL E pc lv st ws k n :=
  by
  subst ho
  exact fun H locs ls hP hD hS hl => va_ldcS C.1 C.2.1 C.2.2.2.1 (C.2.2.2.2.2.1.2.2.2 _ hs) hd (kk H locs ls hP hD hS hl)
/-- a field: by the pool's entry idx of class own, the field k of class number ci -/
def FG (own : String) (idx ci f : Nat) : Prop := ∃ (Cn : String) (T : u_T) (Nf : Nat), (∀ w ∈ u_ws Cn T Nf, w ∈ TB) ∧ Cond.fieldLink own idx Cn (T f).2.1 (T f).2.2.1 ∈ TB ∧ vwCl[ci]? = some (Cn, T, Nf) ∧ f < Nf ∧ (T f).1 = Cn
def FP (own : String) (idx ci f : Nat) (ty : FieldType) (fin : Bool) : Prop := ∃ (Cn : String) (T : u_T) (Nf : Nat) (ty0 : Nat → FieldType), (∀ w ∈ u_ws Cn T Nf, w ∈ TB) ∧ Cond.fieldLink own idx Cn (T f).2.1 (T f).2.2.1 ∈ TB ∧ vwCl[ci]? = some (Cn, T, Nf) ∧ f < Nf ∧ (T f).1 = Cn ∧ (∀ k, k < Nf → parseFieldDescriptor (T k).2.2.1 = some (ty0 k)) ∧ (∀ a, a < Nf → ∀ b, b < Nf → a ≠ b → (T a).2.1 ≠ (T b).2.1) ∧ (T f).2.2.2 = fin ∧ parseFieldDescriptor (T f).2.2.1 = some ty
theorem ww_get (C : CX X rm cc nL own ret E) {idx ci f a : Nat} {fs : List Value} {v : Value} (hg : FG own idx ci f) (q0 : Nat) (he : ws[q0]? = some (a, .inr (ci, fs))) (hv : fs[f]? = some v) (hd : decode cc pc = .ok (.getfield idx, 3)) (kk : WW X nL E (pc + 3) lv (v :: st) ws k n) : WW X nL E pc lv (.ref a :: st) ws k n :=
  by
  obtain ⟨Cn, T, Nf, g1, g2, g3, g4, g5⟩ := hg
  exact fun H locs ls hP hD hS hl => va_get C.1 C.2.1 C.2.2.2.2.1 g1 C.2.2.2.1 C.2.2.2.2.2.1.1 hP q0 he g3 f g4 (C.2.2.2.2.1 _ g2) (fun _ h9 => by rw [← g5]; exact h9) hv hd (kk H locs ls hP hD hS hl)
theorem ww_put (C : CX X rm cc nL own ret E) {idx ci f a : Nat} {ty : FieldType} {fs : List Value} {v : Value} {ws' : va_W} (hg : FP own idx ci f ty false) (q0 : Nat) (he : ws[q0]? = some (a, .inr (ci, fs))) (hn : narrow ty v = v) (hf : fits ty v = true) (hl9 : Nat.blt f fs.length = true) (hw : ws.set q0 (a, .inr (ci, fs.set f v)) = ws') (hd : decode cc pc = .ok (.putfield idx, 3)) (kk : WW X nL E (pc + 3) lv st ws' k n) : WW X nL E pc lv (v :: .ref a :: st) ws k n :=
  by
  obtain ⟨Cn, T, Nf, ty0, g1, g2, g3, g4, g5, g6, g7, g8, g9⟩ := hg
  subst hw
  exact fun H locs ls hP hD hS hl => va_put C.1 C.2.1 C.2.2.2.2.1 g1 ty0 g6 g7 C.2.2.2.1 C.2.2.2.2.2.1.1 hP hD hS q0 he g3 f g4 (C.2.2.2.2.1 _ g2) (fun _ h9 => by rw [← g5]; exact h9) g8 g9 hn hf (Nat.le_of_ble_eq_true hl9) hd (fun H1 locs1 hP hD hS => kk H1 locs1 ls hP hD hS hl)
theorem ww_putF (C : CX X rm cc nL own ret E) {idx ci f a : Nat} {ty : FieldType} {fs : List Value} {v : Value} {ws' : va_W} (hg : FP own idx ci f ty true) (hin : X.2.2.2.2.2.2.2.2.1.name = "<init>") (ho : ∃ T Nf, vwCl[ci]? = some (own, T, Nf)) (q0 : Nat) (he : ws[q0]? = some (a, .inr (ci, fs))) (hn : narrow ty v = v) (hf : fits ty v = true) (hl9 : Nat.blt f fs.length = true) (hw : ws.set q0 (a, .inr (ci, fs.set f v)) = ws') (hd : decode cc pc = .ok (.putfield idx, 3)) (kk : WW X nL E (pc + 3) lv st ws' k n) : WW X nL E pc lv (v :: .ref a :: st) ws k n :=
  by
  obtain ⟨Cn, T, Nf, ty0, g1, g2, g3, g4, g5, g6, g7, g8, g9⟩ := hg
  subst hw
  obtain ⟨T2, N2, ho⟩ := ho
  have eo : Cn = own := by rw [g3] at ho; exact (Prod.mk.inj (Option.some.inj ho)).1
  exact fun H locs ls hP hD hS hl => va_putF C.1 C.2.1 C.2.2.2.2.1 g1 ty0 g6 g7 C.2.2.2.1 C.2.2.2.2.2.1.1 hP hD hS q0 he g3 f g4 (C.2.2.2.2.1 _ g2) (fun _ h9 => by rw [← g5]; exact h9) g8 hin (g5.trans eo) g9 hn hf (Nat.le_of_ble_eq_true hl9) hd (fun H1 locs1 hP hD hS => kk H1 locs1 ls hP hD hS hl)
theorem ww_getR (C : CX X rm cc nL own ret E) {ro : va_W} {idx ci f a : Nat} {fs : List Value} {v : Value} (hro : RO X E ro) (hg : FG own idx ci f) (q0 : Nat) (he : ro[q0]? = some (a, .inr (ci, fs))) (hv : fs[f]? = some v) (hd : decode cc pc = .ok (.getfield idx, 3)) (kk : WW X nL E (pc + 3) lv (v :: st) ws k n) : WW X nL E pc lv (.ref a :: st) ws k n :=
  by
  obtain ⟨Cn, T, Nf, g1, g2, g3, g4, g5⟩ := hg
  exact fun H locs ls hP hD hS hl => va_get C.1 C.2.1 C.2.2.2.2.1 g1 C.2.2.2.1 C.2.2.2.2.2.1.1 (hro.at hS) q0 he g3 f g4 (C.2.2.2.2.1 _ g2) (fun _ h9 => by rw [← g5]; exact h9) hv hd (kk H locs ls hP hD hS hl)
theorem ww_ialdR (C : CX X rm cc nL own ret E) {ro : va_W} {a N : Nat} {f : Nat → Int32} {i v : Int32} (hro : RO X E ro) (q0 : Nat) (he : ro[q0]? = some (a, .inl (E.2.1 1, N, .inl f))) (hi : vp_in i N) (hv : f i.toNatClampNeg = v) (hd : decode cc pc = .ok (.iaload, 1)) (kk : WW X nL E (pc + 1) lv (.int v :: st) ws k n) : WW X nL E pc lv (.int i :: .ref a :: st) ws k n :=
  by
  subst hv
  exact fun H locs ls hP hD hS hl => va_iald C.1 C.2.1 C.2.2.2.2.2.1.1 (hro.at hS) q0 1 he rfl hi hd (kk H locs ls hP hD hS hl)
theorem ww_alenR (C : CX X rm cc nL own ret E) {ro : va_W} {a t0 : Nat} {cA : ClassId} {x : vp_A} {ty : FieldType} {v : Int32} (hro : RO X E ro) (q0 : Nat) (he : ro[q0]? = some (a, .inl (cA, x))) (ht : (cyT E)[t0]? = some (cA, ty)) (hv : Int32.ofNat x.1 = v) (hd : decode cc pc = .ok (.arraylength, 1)) (kk : WW X nL E (pc + 1) lv (.int v :: st) ws k n) : WW X nL E pc lv (.ref a :: st) ws k n :=
  fun H locs ls hP hD hS hl => va_alen C.1 C.2.1 C.2.2.2.2.2.1.1 (hro.at hS) q0 t0 he ht hv hd (kk H locs ls hP hD hS hl)
theorem ww_iald (C : CX X rm cc nL own ret E) {a N : Nat} {f : Nat → Int32} {i v : Int32} (q0 : Nat) (he : ws[q0]? = some (a, .inl (E.2.1 1, N, .inl f))) (hi : vp_in i N) (hv : f i.toNatClampNeg = v) (hd : decode cc pc = .ok (.iaload, 1)) (kk : WW X nL E (pc + 1) lv (.int v :: st) ws k n) : WW X nL E pc lv (.int i :: .ref a :: st) ws k n :=
  by
  subst hv
  exact fun H locs ls hP hD hS hl => va_iald C.1 C.2.1 C.2.2.2.2.2.1.1 hP q0 1 he rfl hi hd (kk H locs ls hP hD hS hl)
theorem ww_bald (C : CX X rm cc nL own ret E) {a N : Nat} {f : Nat → Int32} {i v : Int32} (q0 : Nat) (he : ws[q0]? = some (a, .inl (E.2.1 0, N, .inl f))) (hi : vp_in i N) (hv : f i.toNatClampNeg = v) (hd : decode cc pc = .ok (.baload, 1)) (kk : WW X nL E (pc + 1) lv (.int v :: st) ws k n) : WW X nL E pc lv (.int i :: .ref a :: st) ws k n :=
  by
  subst hv
  exact fun H locs ls hP hD hS hl => va_bald C.1 C.2.1 C.2.2.2.2.2.1.1 hP q0 0 he rfl hi hd (kk H locs ls hP hD hS hl)
theorem ww_zald (C : CX X rm cc nL own ret E) {a N : Nat} {f : Nat → Int32} {i v : Int32} (q0 : Nat) (he : ws[q0]? = some (a, .inl (E.2.1 3, N, .inl f))) (hi : vp_in i N) (hv : f i.toNatClampNeg = v) (hd : decode cc pc = .ok (.baload, 1)) (kk : WW X nL E (pc + 1) lv (.int v :: st) ws k n) : WW X nL E pc lv (.int i :: .ref a :: st) ws k n :=
  by
  subst hv
  exact fun H locs ls hP hD hS hl => va_zald C.1 C.2.1 C.2.2.2.2.2.1.1 hP q0 3 he rfl hi hd (kk H locs ls hP hD hS hl)
theorem ww_lald (C : CX X rm cc nL own ret E) {a N : Nat} {f : Nat → Int64} {i : Int32} {v : Int64} (q0 : Nat) (he : ws[q0]? = some (a, .inl (E.2.1 2, N, .inr (.inl f)))) (hi : vp_in i N) (hv : f i.toNatClampNeg = v) (hd : decode cc pc = .ok (.laload, 1)) (kk : WW X nL E (pc + 1) lv (.long v :: st) ws k n) : WW X nL E pc lv (.int i :: .ref a :: st) ws k n :=
  by
  subst hv
  exact fun H locs ls hP hD hS hl => va_lald C.1 C.2.1 C.2.2.2.2.2.1.1 hP q0 2 he rfl hi hd (kk H locs ls hP hD hS hl)
theorem ww_ald (C : CX X rm cc nL own ret E) {a N t0 : Nat} {Cn : String} {cA : ClassId} {f : Nat → Option Nat} {i : Int32} {v : Option Nat} (q0 : Nat) (he : ws[q0]? = some (a, .inl (cA, N, .inr (.inr (.inr (.inr f)))))) (ht : (cyT E)[t0]? = some (cA, .object Cn)) (hi : vp_in i N) (hv : f i.toNatClampNeg = v) (hd : decode cc pc = .ok (.aaload, 1)) (kk : WW X nL E (pc + 1) lv (va_rf v :: st) ws k n) : WW X nL E pc lv (.int i :: .ref a :: st) ws k n :=
  by
  subst hv
  exact fun H locs ls hP hD hS hl => va_aldq C.1 C.2.1 C.2.2.2.2.2.1.1 hP q0 t0 he ht hi hd (kk H locs ls hP hD hS hl)
theorem ww_aldR (C : CX X rm cc nL own ret E) {ro : va_W} {a N t0 : Nat} {Cn : String} {cA : ClassId} {f : Nat → Option Nat} {i : Int32} {v : Option Nat} (hro : RO X E ro) (q0 : Nat) (he : ro[q0]? = some (a, .inl (cA, N, .inr (.inr (.inr (.inr f)))))) (ht : (cyT E)[t0]? = some (cA, .object Cn)) (hi : vp_in i N) (hv : f i.toNatClampNeg = v) (hd : decode cc pc = .ok (.aaload, 1)) (kk : WW X nL E (pc + 1) lv (va_rf v :: st) ws k n) : WW X nL E pc lv (.int i :: .ref a :: st) ws k n :=
  by
  subst hv
  exact fun H locs ls hP hD hS hl => va_aldq C.1 C.2.1 C.2.2.2.2.2.1.1 (hro.at hS) q0 t0 he ht hi hd (kk H locs ls hP hD hS hl)
theorem ww_iast (C : CX X rm cc nL own ret E) {a N : Nat} {f f' : Nat → Int32} {i x : Int32} {ws' : va_W} (q0 : Nat) (he : ws[q0]? = some (a, .inl (E.2.1 1, N, .inl f))) (hi : vp_in i N) (hv : upd f i.toNatClampNeg x = f') (hw : ws.set q0 (a, .inl (E.2.1 1, N, .inl f')) = ws') (hd : decode cc pc = .ok (.iastore, 1)) (kk : WW X nL E (pc + 1) lv st ws' k n) : WW X nL E pc lv (.int x :: .int i :: .ref a :: st) ws k n :=
  by
  subst hv
  subst hw
  exact fun H locs ls hP hD hS hl => va_iast C.1 C.2.1 C.2.2.2.2.2.1.1 hP hD hS q0 1 he rfl hi hd (fun H1 locs1 hP hD hS => kk H1 locs1 ls hP hD hS hl)
theorem ww_bast (C : CX X rm cc nL own ret E) {a N : Nat} {f f' : Nat → Int32} {i x : Int32} {ws' : va_W} (q0 : Nat) (he : ws[q0]? = some (a, .inl (E.2.1 0, N, .inl f))) (hi : vp_in i N) (hv : upd f i.toNatClampNeg (vp_nar .byte x) = f') (hw : ws.set q0 (a, .inl (E.2.1 0, N, .inl f')) = ws') (hd : decode cc pc = .ok (.bastore, 1)) (kk : WW X nL E (pc + 1) lv st ws' k n) : WW X nL E pc lv (.int x :: .int i :: .ref a :: st) ws k n :=
  by
  subst hv
  subst hw
  exact fun H locs ls hP hD hS hl => va_bast C.1 C.2.1 C.2.2.2.2.2.1.1 hP hD hS q0 0 he rfl hi hd (fun H1 locs1 hP hD hS => kk H1 locs1 ls hP hD hS hl)
theorem ww_zast (C : CX X rm cc nL own ret E) {a N : Nat} {f f' : Nat → Int32} {i x : Int32} {ws' : va_W} (q0 : Nat) (he : ws[q0]? = some (a, .inl (E.2.1 3, N, .inl f))) (hi : vp_in i N) (hv : upd f i.toNatClampNeg (vp_nar .boolean x) = f') (hw : ws.set q0 (a, .inl (E.2.1 3, N, .inl f')) = ws') (hd : decode cc pc = .ok (.bastore, 1)) (kk : WW X nL E (pc + 1) lv st ws' k n) : WW X nL E pc lv (.int x :: .int i :: .ref a :: st) ws k n :=
  by
  subst hv
  subst hw
  exact fun H locs ls hP hD hS hl => va_zast C.1 C.2.1 C.2.2.2.2.2.1.1 hP hD hS q0 3 he rfl hi hd (fun H1 locs1 hP hD hS => kk H1 locs1 ls hP hD hS hl)
theorem ww_last (C : CX X rm cc nL own ret E) {a N : Nat} {f f' : Nat → Int64} {i : Int32} {x : Int64} {ws' : va_W} (q0 : Nat) (he : ws[q0]? = some (a, .inl (E.2.1 2, N, .inr (.inl f)))) (hi : vp_in i N) (hv : vp_updL f i.toNatClampNeg x = f') (hw : ws.set q0 (a, .inl (E.2.1 2, N, .inr (.inl f'))) = ws') (hd : decode cc pc = .ok (.lastore, 1)) (kk : WW X nL E (pc + 1) lv st ws' k n) : WW X nL E pc lv (.long x :: .int i :: .ref a :: st) ws k n :=
  by
  subst hv
  subst hw
  exact fun H locs ls hP hD hS hl => va_last C.1 C.2.1 C.2.2.2.2.2.1.1 hP hD hS q0 2 he rfl hi hd (fun H1 locs1 hP hD hS => kk H1 locs1 ls hP hD hS hl)
theorem ww_ast (C : CX X rm cc nL own ret E) {a N t0 ci v : Nat} {Cn : String} {T : u_T} {Nf : Nat} {cA : ClassId} {vs : List Value} {f f' : Nat → Option Nat} {i : Int32} {ws' : va_W} (q0 qk : Nat) (he : ws[q0]? = some (a, .inl (cA, N, .inr (.inr (.inr (.inr f)))))) (ht : (cyT E)[t0]? = some (cA, .object Cn)) (hk : ws[qk]? = some (v, .inr (ci, vs))) (hc : vwCl[ci]? = some (Cn, T, Nf)) (hi : vp_in i N) (hv : va_up f i.toNatClampNeg (some v) = f') (hw : ws.set q0 (a, .inl (cA, N, .inr (.inr (.inr (.inr f'))))) = ws') (hd : decode cc pc = .ok (.aastore, 1)) (kk : WW X nL E (pc + 1) lv st ws' k n) : WW X nL E pc lv (.ref v :: .int i :: .ref a :: st) ws k n :=
  by
  subst hv
  subst hw
  exact fun H locs ls hP hD hS hl => va_astq C.1 C.2.1 C.2.2.2.2.2.1.1 hP hD hS q0 t0 qk ci he ht hk hc hi hd (fun H1 locs1 hP hD hS => kk H1 locs1 ls hP hD hS hl)
/-- a saying among the cells to read: its object -/
def SYo (ro : va_W) (a : Nat) : Prop := ∃ (i : Nat) (fs : List Value), ro[i]? = some (a, .inr (8, fs))
theorem ww_astS (C : CX X rm cc nL own ret E) {ro : va_W} {a N t0 v : Nat} {cA : ClassId} {f f' : Nat → Option Nat} {i : Int32} {ws' : va_W} (hro : RO X E ro) (q0 : Nat) (he : ws[q0]? = some (a, .inl (cA, N, .inr (.inr (.inr (.inr f)))))) (ht : (cyT E)[t0]? = some (cA, .object "WhoKnows$Saying")) (hsy : SYo ro v) (hi : vp_in i N) (hv : va_up f i.toNatClampNeg (some v) = f') (hw : ws.set q0 (a, .inl (cA, N, .inr (.inr (.inr (.inr f'))))) = ws') (hd : decode cc pc = .ok (.aastore, 1)) (kk : WW X nL E (pc + 1) lv st ws' k n) : WW X nL E pc lv (.ref v :: .int i :: .ref a :: st) ws k n :=
  by
  subst hv
  subst hw
  obtain ⟨j, fs, hj⟩ := hsy
  exact fun H locs ls hP hD hS hl => va_astqM C.1 C.2.1 C.2.2.2.2.2.1.1 hP hD hS q0 t0 he ht (va_rAny (r := (RX8, TX8, 7)) C.2.2.2.2.2.1.1 (hro.at hS) hj rfl (fun comp c0 h1 h2 => by have e : comp = c0 := Option.some.inj (h1.symm.trans h2); rw [e]; exact va_asg _ _)) hi hd (fun H1 locs1 hP hD hS => kk H1 locs1 ls hP hD hS hl)
theorem ww_astN (C : CX X rm cc nL own ret E) {a N t0 : Nat} {Cn : String} {cA : ClassId} {f f' : Nat → Option Nat} {i : Int32} {ws' : va_W} (q0 : Nat) (he : ws[q0]? = some (a, .inl (cA, N, .inr (.inr (.inr (.inr f)))))) (ht : (cyT E)[t0]? = some (cA, .object Cn)) (hi : vp_in i N) (hv : va_up f i.toNatClampNeg none = f') (hw : ws.set q0 (a, .inl (cA, N, .inr (.inr (.inr (.inr f'))))) = ws') (hd : decode cc pc = .ok (.aastore, 1)) (kk : WW X nL E (pc + 1) lv st ws' k n) : WW X nL E pc lv (.null :: .int i :: .ref a :: st) ws k n :=
  by
  subst hv
  subst hw
  exact fun H locs ls hP hD hS hl => va_astqN C.1 C.2.1 C.2.2.2.2.2.1.1 hP hD hS q0 t0 he ht hi hd (fun H1 locs1 hP hD hS => kk H1 locs1 ls hP hD hS hl)
theorem ww_alen (C : CX X rm cc nL own ret E) {a t0 : Nat} {cA : ClassId} {x : vp_A} {ty : FieldType} {v : Int32} (q0 : Nat) (he : ws[q0]? = some (a, .inl (cA, x))) (ht : (cyT E)[t0]? = some (cA, ty)) (hv : Int32.ofNat x.1 = v) (hd : decode cc pc = .ok (.arraylength, 1)) (kk : WW X nL E (pc + 1) lv (.int v :: st) ws k n) : WW X nL E pc lv (.ref a :: st) ws k n :=
  fun H locs ls hP hD hS hl => va_alen C.1 C.2.1 C.2.2.2.2.2.1.1 hP q0 t0 he ht hv hd (kk H locs ls hP hD hS hl)
def CN (own : String) (idx ci Nf : Nat) (fs : List Value) : Prop := ∃ (Cn : String) (T : u_T) (ty0 : Nat → FieldType), (∀ w ∈ u_ws Cn T Nf, w ∈ TB) ∧ Cond.classLink own idx Cn ∈ TB ∧ Cond.instantiable Cn Nf ∈ TB ∧ Cond.initialized Cn ∈ TB ∧ vwCl[ci]? = some (Cn, T, Nf) ∧ (∀ k, k < Nf → parseFieldDescriptor (T k).2.2.1 = some (ty0 k)) ∧ (∀ j, j < Nf → defaultValue (ty0 j) = vp_V fs j)
theorem new_ty (C : CX X rm cc nL own ret E) (t0 : Nat) {cA cB : ClassId} {ty : FieldType} (hp : ty = .int ∨ ty = .byte ∨ ty = .long ∨ ty = .boolean) (ht : (cyT E)[t0]? = some (cB, ty)) {tl : List (ClassId × FieldType)} (h : va_K E.1 vwCl (tl ++ [(cA, ty)]) X.2.2.2.2.1) : cA = cB := by
  have h1 := (C.2.2.2.2.2.1.1.2 t0 _ ht).2
  have h2 := (h.2 tl.length (cA, ty) (by simp)).2
  rcases hp with rfl | rfl | rfl | rfl
  · exact Option.some.inj ((va_nm_int h2).symm.trans (va_nm_int h1))
  · exact Option.some.inj ((va_nm_byte h2).symm.trans (va_nm_byte h1))
  · exact Option.some.inj ((va_nm_long h2).symm.trans (va_nm_long h1))
  · exact Option.some.inj ((va_nm_boolean h2).symm.trans (va_nm_boolean h1))
theorem new_tq (C : CX X rm cc nL own ret E) (t0 : Nat) {cA cB : ClassId} {Cn : String} (ht : (cyT E)[t0]? = some (cB, .object Cn)) {tl : List (ClassId × FieldType)} (h : va_K E.1 vwCl (tl ++ [(cA, .object Cn)]) X.2.2.2.2.1) : cA = cB := by
  have h1 := (C.2.2.2.2.2.1.1.2 t0 _ ht).2
  have h2 := (h.2 tl.length (cA, .object Cn) (by simp)).2
  obtain ⟨_, _, _, _, _, h3⟩ := h1
  obtain ⟨_, _, _, _, _, h4⟩ := h2
  exact Option.some.inj (h4.symm.trans h3)
def cnN (rm : Room) (k n s k' n' : Nat) : Bool := Nat.ble (k + 1) k' && (Nat.ble (n + s) n' && (Nat.ble k' rm.cells && Nat.ble n' rm.slots))
theorem cnN.use {rm : Room} {k n s k' n' : Nat} (h : cnN rm k n s k' n' = true) : k + 1 ≤ k' ∧ n + s ≤ n' ∧ k + 1 ≤ rm.cells ∧ n + s ≤ rm.slots := by
  simp only [cnN, Bool.and_eq_true] at h
  have h1 := Nat.le_of_ble_eq_true h.1
  have h2 := Nat.le_of_ble_eq_true h.2.1
  exact ⟨h1, h2, Nat.le_trans h1 (Nat.le_of_ble_eq_true h.2.2.1), Nat.le_trans h2 (Nat.le_of_ble_eq_true h.2.2.2)⟩
theorem ww_new (C : CX X rm cc nL own ret E) {idx ci Nf k' n' : Nat} {fs : List Value} (hc : CN own idx ci Nf fs) (hk : cnN rm k n Nf k' n' = true) (hd : decode cc pc = .ok (.new idx, 3)) (kk : ∀ q : Nat, WW X nL E (pc + 3) lv (.ref q :: st) (ws ++ [(q, .inr (ci, fs))]) k' n') : WW X nL E pc lv st ws k n :=
  by
  obtain ⟨Cn, T, ty0, g1, g2, g3, g4, g5, g6, g7⟩ := hc
  obtain ⟨k1, k2, k3, k4⟩ := cnN.use hk
  have hrm := C.2.2.2.2.2.2.2.2.2.1
  exact fun H locs ls hP hD hS hl => va_new C.1 C.2.1 C.2.2.2.2.1 g1 ty0 g6 C.2.2.2.1 (C.2.2.2.2.1 _ g2) (C.2.2.2.2.1 _ g3) (C.2.2.2.2.1 _ g4) C.2.2.2.2.2.1.1 hP hD hS C.2.2.2.2.2.2.1 g5 g7 (by rw [hrm]; exact k3) (by rw [hrm]; exact k4) hd (fun q H1 hP hD hS => W.widen k1 k2 (kk q H1 locs ls hP hD hS hl))
theorem ww_newi (C : CX X rm cc nL own ret E) {N k' n' : Nat} {x : Int32} (ha : Cond.arrayClass .int ∈ TB) (hn : ¬ x < 0) (hN : x.toNatClampNeg = N) (hb : Nat.ble (N * componentBytes .int) 536870912 = true) (hk : cnN rm k n N k' n' = true) (hd : decode cc pc = .ok (.newarray .int, 2)) (kk : ∀ q : Nat, WW X nL E (pc + 2) lv (.ref q :: st) (ws ++ [(q, .inl (E.2.1 1, (N, .inl (fun _ => 0))))]) k' n') : WW X nL E pc lv (.int x :: st) ws k n :=
  by
  obtain ⟨k1, k2, k3, k4⟩ := cnN.use hk
  have hrm := C.2.2.2.2.2.2.2.2.2.1
  refine fun H locs ls hP hD hS hl => va_newa (atype := .int) (a0 := (N, .inl (fun _ => 0))) C.1 C.2.1 (C.2.2.2.2.1 _ ha) rfl C.2.2.2.2.2.1.1 hP hD hS C.2.2.2.2.2.2.1 (fun cA => rfl) hn hN (Nat.le_of_ble_eq_true hb) (by rw [hrm]; exact k3) (by rw [hrm]; exact k4) hd (fun q cA H1 hK hP hD hS => ?_)
  have e := new_ty C 1 (cB := E.2.1 1) (by simp) rfl hK
  subst e
  exact W.widen k1 k2 (kk q H1 locs ls hP hD hS hl)
theorem ww_newb (C : CX X rm cc nL own ret E) {N k' n' : Nat} {x : Int32} (ha : Cond.arrayClass .byte ∈ TB) (hn : ¬ x < 0) (hN : x.toNatClampNeg = N) (hb : Nat.ble (N * componentBytes .byte) 536870912 = true) (hk : cnN rm k n N k' n' = true) (hd : decode cc pc = .ok (.newarray .byte, 2)) (kk : ∀ q : Nat, WW X nL E (pc + 2) lv (.ref q :: st) (ws ++ [(q, .inl (E.2.1 0, (N, .inl (fun _ => 0))))]) k' n') : WW X nL E pc lv (.int x :: st) ws k n :=
  by
  obtain ⟨k1, k2, k3, k4⟩ := cnN.use hk
  have hrm := C.2.2.2.2.2.2.2.2.2.1
  refine fun H locs ls hP hD hS hl => va_newa (atype := .byte) (a0 := (N, .inl (fun _ => 0))) C.1 C.2.1 (C.2.2.2.2.1 _ ha) rfl C.2.2.2.2.2.1.1 hP hD hS C.2.2.2.2.2.2.1 (fun cA => rfl) hn hN (Nat.le_of_ble_eq_true hb) (by rw [hrm]; exact k3) (by rw [hrm]; exact k4) hd (fun q cA H1 hK hP hD hS => ?_)
  have e := new_ty C 0 (cB := E.2.1 0) (by simp) rfl hK
  subst e
  exact W.widen k1 k2 (kk q H1 locs ls hP hD hS hl)
theorem ww_newz (C : CX X rm cc nL own ret E) {N k' n' : Nat} {x : Int32} (ha : Cond.arrayClass .boolean ∈ TB) (hn : ¬ x < 0) (hN : x.toNatClampNeg = N) (hb : Nat.ble (N * componentBytes .boolean) 536870912 = true) (hk : cnN rm k n N k' n' = true) (hd : decode cc pc = .ok (.newarray .boolean, 2)) (kk : ∀ q : Nat, WW X nL E (pc + 2) lv (.ref q :: st) (ws ++ [(q, .inl (E.2.1 3, (N, .inl (fun _ => 0))))]) k' n') : WW X nL E pc lv (.int x :: st) ws k n :=
  by
  obtain ⟨k1, k2, k3, k4⟩ := cnN.use hk
  have hrm := C.2.2.2.2.2.2.2.2.2.1
  refine fun H locs ls hP hD hS hl => va_newa (atype := .boolean) (a0 := (N, .inl (fun _ => 0))) C.1 C.2.1 (C.2.2.2.2.1 _ ha) rfl C.2.2.2.2.2.1.1 hP hD hS C.2.2.2.2.2.2.1 (fun cA => rfl) hn hN (Nat.le_of_ble_eq_true hb) (by rw [hrm]; exact k3) (by rw [hrm]; exact k4) hd (fun q cA H1 hK hP hD hS => ?_)
  have e := new_ty C 3 (cB := E.2.1 3) (by simp) rfl hK
  subst e
  exact W.widen k1 k2 (kk q H1 locs ls hP hD hS hl)
theorem ww_newl (C : CX X rm cc nL own ret E) {N k' n' : Nat} {x : Int32} (ha : Cond.arrayClass .long ∈ TB) (hn : ¬ x < 0) (hN : x.toNatClampNeg = N) (hb : Nat.ble (N * componentBytes .long) 536870912 = true) (hk : cnN rm k n N k' n' = true) (hd : decode cc pc = .ok (.newarray .long, 2)) (kk : ∀ q : Nat, WW X nL E (pc + 2) lv (.ref q :: st) (ws ++ [(q, .inl (E.2.1 2, (N, .inr (.inl (fun _ => 0)))))]) k' n') : WW X nL E pc lv (.int x :: st) ws k n :=
  by
  obtain ⟨k1, k2, k3, k4⟩ := cnN.use hk
  have hrm := C.2.2.2.2.2.2.2.2.2.1
  refine fun H locs ls hP hD hS hl => va_newa (atype := .long) (a0 := (N, .inr (.inl (fun _ => 0)))) C.1 C.2.1 (C.2.2.2.2.1 _ ha) rfl C.2.2.2.2.2.1.1 hP hD hS C.2.2.2.2.2.2.1 (fun cA => rfl) hn hN (Nat.le_of_ble_eq_true hb) (by rw [hrm]; exact k3) (by rw [hrm]; exact k4) hd (fun q cA H1 hK hP hD hS => ?_)
  have e := new_ty C 2 (cB := E.2.1 2) (by simp) rfl hK
  subst e
  exact W.widen k1 k2 (kk q H1 locs ls hP hD hS hl)
theorem ww_newq (C : CX X rm cc nL own ret E) {N k' n' t0 idx : Nat} {x : Int32} {Cn : String} {cB : ClassId} (hl0 : Cond.classLink own idx Cn ∈ TB) (ho : Cn ∈ kkA) (ht : (cyT E)[t0]? = some (cB, .object Cn)) (hn : ¬ x < 0) (hN : x.toNatClampNeg = N) (hb : Nat.ble (N * 4) 536870912 = true) (hk : cnN rm k n N k' n' = true) (hd : decode cc pc = .ok (.anewarray idx, 3)) (kk : ∀ q : Nat, WW X nL E (pc + 3) lv (.ref q :: st) (ws ++ [(q, .inl (cB, N, .inr (.inr (.inr (.inr (fun _ => none))))))]) k' n') : WW X nL E pc lv (.int x :: st) ws k n :=
  by
  obtain ⟨k1, k2, k3, k4⟩ := cnN.use hk
  have hrm := C.2.2.2.2.2.2.2.2.2.1
  refine fun H locs ls hP hD hS hl => va_newq C.1 C.2.1 C.2.2.2.1 (C.2.2.2.2.1 _ hl0) (C.2.2.2.2.2.1.2.2.1 _ ho) C.2.2.2.2.2.1.1 hP hD hS C.2.2.2.2.2.2.1 hn hN (Nat.le_of_ble_eq_true hb) (by rw [hrm]; exact k3) (by rw [hrm]; exact k4) hd (fun q cA H1 hK hP hD hS => ?_)
  have e := new_tq C t0 ht hK
  subst e
  exact W.widen k1 k2 (kk q H1 locs ls hP hD hS hl)
theorem ww_objInit (C : CX X rm cc nL own ret E) {a idx : Nat} (h1 : Cond.methodLink own idx objectInit ∈ TB) (h2 : Cond.instanceMethod objectInit ∈ TB) (h3 : Cond.code objectInit ⟨#[0xb1]⟩ 1 none ∈ TB) (hr : (Nat.ble 1 rm.frames && Nat.ble ((st.map fun v => v.category).sum + 12) rm.locals) = true) (hd : decode cc pc = .ok (.invokespecial idx, 3)) (kk : WW X nL E (pc + 3) lv st ws k n) : WW X nL E pc lv (.ref a :: st) ws k n :=
  by
  have hrm := C.2.2.2.2.2.2.2.2.2.1
  simp only [Bool.and_eq_true] at hr
  exact fun H locs ls hP hD hS hl => W.objInit C.1 C.2.1 C.2.2.2.1 (C.2.2.2.2.1 _ h1) (C.2.2.2.2.1 _ h2) (C.2.2.2.2.1 _ h3) rfl (by rw [C.2.2.1]; exact hl.1) rfl hd (by rw [hrm]; exact Nat.le_of_ble_eq_true hr.1) (by rw [hrm]; have := Nat.le_of_ble_eq_true hr.2; show 2 * 0 + _ + 12 ≤ _; omega) (kk H locs ls hP hD hS hl)
theorem ww_copyi (C : CX X rm cc nL own ret E) {a a0 N0 N1 idx : Nat} {f g h : Nat → Int32} {sp dp x : Int32} {ws' : va_W} (h1 : Cond.methodLink own idx arraycopyName ∈ TB) (h2 : Cond.native arraycopyName ∈ TB) (h3 : Cond.static arraycopyName ∈ TB) (h4 : Cond.initialized "java/lang/System" ∈ TB) (q0 q1 : Nat) (he0 : ws[q0]? = some (a0, .inl (E.2.1 1, N0, .inl f))) (he1 : ws[q1]? = some (a, .inl (E.2.1 1, N1, .inl g))) (s1 : ¬ sp < 0) (s2 : ¬ dp < 0) (s3 : ¬ x < 0) (s4 : sp.toNatClampNeg + x.toNatClampNeg ≤ N0) (s5 : dp.toNatClampNeg + x.toNatClampNeg ≤ N1) (hr : (Nat.ble 1 rm.frames && Nat.ble ((st.map fun v => v.category).sum + (nativeFrameWords "java/lang/System" "arraycopy" 5 + 11)) rm.locals) = true) (hv : va_cpy f g sp.toNatClampNeg dp.toNatClampNeg x.toNatClampNeg = h) (hw : ws.set q1 (a, .inl (E.2.1 1, N1, .inl h)) = ws') (hd : decode cc pc = .ok (.invokestatic idx, 3)) (kk : WW X nL E (pc + 3) lv st ws' k n) : WW X nL E pc lv (.int x :: .int dp :: .ref a :: .int sp :: .ref a0 :: st) ws k n :=
  by
  have hrm := C.2.2.2.2.2.2.2.2.2.1
  simp only [Bool.and_eq_true] at hr
  subst hv
  subst hw
  exact fun H locs ls hP hD hS hl => va_copyi C.1 C.2.1 (C.2.2.1.trans hl.1.symm) C.2.2.2.1 (C.2.2.2.2.1 _ h1) (C.2.2.2.2.1 _ h2) (C.2.2.2.2.1 _ h3) (C.2.2.2.2.1 _ h4) C.2.2.2.2.2.1.1 hP hD hS q0 q1 1 1 he0 he1 rfl rfl rfl s1 s2 s3 s4 s5 (fun _ _ => rfl) (by rw [hrm]; exact Nat.le_of_ble_eq_true hr.1) (by rw [hrm]; exact Nat.le_of_ble_eq_true hr.2) hd (fun H1 locs1 hP hD hS => kk H1 locs1 ls hP hD hS hl)
theorem ww_mmin (C : CX X rm cc nL own ret E) {idx : Nat} {x y v : Int32} (h1 : Cond.methodLink own idx Lib.Math.min.name ∈ TB) (h2 : Cond.static Lib.Math.min.name ∈ TB) (h3 : Cond.initialized "java/lang/Math" ∈ TB) (h4 : Cond.code Lib.Math.min.name Lib.Math.min.code 2 (some .int) ∈ TB) (hr : (Nat.ble 1 rm.frames && (Nat.ble ((st.map fun v => v.category).sum + 13) rm.locals && (Nat.ble k rm.cells && Nat.ble n rm.slots))) = true) (hv : (if y < x then y else x) = v) (hd : decode cc pc = .ok (.invokestatic idx, 3)) (kk : WW X nL E (pc + 3) lv (.int v :: st) ws k n) : WW X nL E pc lv (.int y :: .int x :: st) ws k n :=
  by
  have hrm := C.2.2.2.2.2.2.2.2.2.1
  simp only [Bool.and_eq_true] at hr
  subst hv
  exact fun H locs ls hP hD hS hl => va_mmin C.1 C.2.1 (C.2.2.1.trans hl.1.symm) C.2.2.2.1 (C.2.2.2.2.1 _ h1) (C.2.2.2.2.1 _ h2) (C.2.2.2.2.1 _ h3) (C.2.2.2.2.1 _ h4) (by rw [hrm]; exact Nat.le_of_ble_eq_true hr.1) (by rw [hrm]; exact Nat.le_of_ble_eq_true hr.2.1) (by rw [hrm]; exact Nat.le_of_ble_eq_true hr.2.2.1) (by rw [hrm]; exact Nat.le_of_ble_eq_true hr.2.2.2) hd (kk H locs ls hP hD hS hl)
theorem ww_mmax (C : CX X rm cc nL own ret E) {idx : Nat} {x y v : Int32} (h1 : Cond.methodLink own idx Lib.Math.max.name ∈ TB) (h2 : Cond.static Lib.Math.max.name ∈ TB) (h3 : Cond.initialized "java/lang/Math" ∈ TB) (h4 : Cond.code Lib.Math.max.name Lib.Math.max.code 2 (some .int) ∈ TB) (hr : (Nat.ble 1 rm.frames && (Nat.ble ((st.map fun v => v.category).sum + 13) rm.locals && (Nat.ble k rm.cells && Nat.ble n rm.slots))) = true) (hv : (if x < y then y else x) = v) (hd : decode cc pc = .ok (.invokestatic idx, 3)) (kk : WW X nL E (pc + 3) lv (.int v :: st) ws k n) : WW X nL E pc lv (.int y :: .int x :: st) ws k n :=
  by
  have hrm := C.2.2.2.2.2.2.2.2.2.1
  simp only [Bool.and_eq_true] at hr
  subst hv
  exact fun H locs ls hP hD hS hl => va_mmax C.1 C.2.1 (C.2.2.1.trans hl.1.symm) C.2.2.2.1 (C.2.2.2.2.1 _ h1) (C.2.2.2.2.1 _ h2) (C.2.2.2.2.1 _ h3) (C.2.2.2.2.1 _ h4) (by rw [hrm]; exact Nat.le_of_ble_eq_true hr.1) (by rw [hrm]; exact Nat.le_of_ble_eq_true hr.2.1) (by rw [hrm]; exact Nat.le_of_ble_eq_true hr.2.2.1) (by rw [hrm]; exact Nat.le_of_ble_eq_true hr.2.2.2) hd (kk H locs ls hP hD hS hl)
theorem ww_iret {v : Int32} {post : Int32 → va_W → Prop} {u : va_W} {mc ms : Nat} (C : CX X rm cc nL own (some .int) E) (hT : RT X (Qi E post) mc ms) (isU : List Nat) (hU : isU.map (fun i => ws[i]?) = u.map some) (hnd : va_nd isU = true) (hk : Nat.ble k mc = true) (hn : Nat.ble n ms = true) (hd : decode cc pc = .ok (.ireturn, 1)) (hp : post v u) : WW X nL E pc lv [.int v] ws k n := by
  intro H locs ls hP hD hS hl
  obtain ⟨p, l, e, R, s, m, args, below, meth, c, A, Q⟩ := X
  obtain ⟨hx, hb, hml, hown, hts, hK, hA, hr, hlk, hrm, hJF⟩ := C
  dsimp only [RT] at *
  subst hT
  refine W.widen (Nat.le_of_ble_eq_true hk) (Nat.le_of_ble_eq_true hn) ?_
  exact W.iret hx hb hr (fun t ht hW => ⟨⟨v, u, rfl, hp, by rw [ht]; exact hP.sub isU (fm_of hU), hD.sub isU hnd hU⟩, hS.F ht⟩) hS.2.2 hd hlk
theorem ww_zret {v : Int32} {post : Int32 → va_W → Prop} {u : va_W} {mc ms : Nat} (C : CX X rm cc nL own (some .boolean) E) (hT : RT X (Qi E post) mc ms) (isU : List Nat) (hU : isU.map (fun i => ws[i]?) = u.map some) (hnd : va_nd isU = true) (hk : Nat.ble k mc = true) (hn : Nat.ble n ms = true) (hz : narrow .boolean (.int v) = .int v) (hd : decode cc pc = .ok (.ireturn, 1)) (hp : post v u) : WW X nL E pc lv [.int v] ws k n := by
  intro H locs ls hP hD hS hl
  obtain ⟨p, l, e, R, s, m, args, below, meth, c, A, Q⟩ := X
  obtain ⟨hx, hb, hml, hown, hts, hK, hA, hr, hlk, hrm, hJF⟩ := C
  dsimp only [RT] at *
  subst hT
  refine W.widen (Nat.le_of_ble_eq_true hk) (Nat.le_of_ble_eq_true hn) ?_
  exact W.zret hx hb hr hz (fun t ht hW => ⟨⟨v, u, rfl, hp, by rw [ht]; exact hP.sub isU (fm_of hU), hD.sub isU hnd hU⟩, hS.F ht⟩) hS.2.2 hd hlk
theorem ww_lret {v : Int64} {post : Int64 → va_W → Prop} {u : va_W} {mc ms : Nat} (C : CX X rm cc nL own (some .long) E) (hT : RT X (Ql E post) mc ms) (isU : List Nat) (hU : isU.map (fun i => ws[i]?) = u.map some) (hnd : va_nd isU = true) (hk : Nat.ble k mc = true) (hn : Nat.ble n ms = true) (hd : decode cc pc = .ok (.lreturn, 1)) (hp : post v u) : WW X nL E pc lv [.long v] ws k n := by
  intro H locs ls hP hD hS hl
  obtain ⟨p, l, e, R, s, m, args, below, meth, c, A, Q⟩ := X
  obtain ⟨hx, hb, hml, hown, hts, hK, hA, hr, hlk, hrm, hJF⟩ := C
  dsimp only [RT] at *
  subst hT
  refine W.widen (Nat.le_of_ble_eq_true hk) (Nat.le_of_ble_eq_true hn) ?_
  exact W.lret hx hb hr (fun t ht hW => ⟨⟨v, u, rfl, hp, by rw [ht]; exact hP.sub isU (fm_of hU), hD.sub isU hnd hU⟩, hS.F ht⟩) hS.2.2 hd hlk
theorem ww_vret  {post : va_W → Prop} {u : va_W} {mc ms : Nat} (C : CX X rm cc nL own none E) (hT : RT X (Qv E post) mc ms) (isU : List Nat) (hU : isU.map (fun i => ws[i]?) = u.map some) (hnd : va_nd isU = true) (hk : Nat.ble k mc = true) (hn : Nat.ble n ms = true) (hd : decode cc pc = .ok (.return_, 1)) (hp : post u) : WW X nL E pc lv [] ws k n := by
  intro H locs ls hP hD hS hl
  obtain ⟨p, l, e, R, s, m, args, below, meth, c, A, Q⟩ := X
  obtain ⟨hx, hb, hml, hown, hts, hK, hA, hr, hlk, hrm, hJF⟩ := C
  dsimp only [RT] at *
  subst hT
  refine W.widen (Nat.le_of_ble_eq_true hk) (Nat.le_of_ble_eq_true hn) ?_
  exact W.vret hx hb hr (fun t ht hW => ⟨⟨u, rfl, hp, by rw [ht]; exact hP.sub isU (fm_of hU), hD.sub isU hnd hU⟩, hS.F ht⟩) hS.2.2 hd hlk
theorem ww_qret {v : Option Nat} {rt : FieldType} {post : Option Nat → va_W → Prop} {u : va_W} {mc ms : Nat} (C : CX X rm cc nL own (some rt) E) (hT : RT X (Qq E post) mc ms) (hrt : (∃ n, rt = .object n) ∨ ∃ t, rt = .array t) (isU : List Nat) (hU : isU.map (fun i => ws[i]?) = u.map some) (hnd : va_nd isU = true) (hk : Nat.ble k mc = true) (hn : Nat.ble n ms = true) (hd : decode cc pc = .ok (.areturn, 1)) (hp : post v u) : WW X nL E pc lv [va_rf v] ws k n := by
  intro H locs ls hP hD hS hl
  obtain ⟨p, l, e, R, s, m, args, below, meth, c, A, Q⟩ := X
  obtain ⟨hx, hb, hml, hown, hts, hK, hA, hr, hlk, hrm, hJF⟩ := C
  dsimp only [RT] at *
  subst hT
  refine W.widen (Nat.le_of_ble_eq_true hk) (Nat.le_of_ble_eq_true hn) ?_
  exact W.aret hx hb hr hrt (va_rf_or v) (fun t ht hW => ⟨⟨v, u, rfl, hp, by rw [ht]; exact hP.sub isU (fm_of hU), hD.sub isU hnd hU⟩, hS.F ht⟩) hS.2.2 hd hlk
/-- the same state, told otherwise -/
theorem ww_eq {st' : List Value} {ws' : va_W} {lv' : List (Nat × Value)} (kk : WW X nL E pc lv' st' ws' k n) (h1 : lv = lv') (h2 : st = st') (h3 : ws = ws') : WW X nL E pc lv st ws k n := by
  subst h1; subst h2; subst h3; exact kk
/-- fewer locals -/
theorem ww_lv {lv' : List (Nat × Value)} (ks : List Nat) (h : lv_pick lv ks = lv') (kk : WW X nL E pc lv' st ws k n) : WW X nL E pc lv st ws k n :=
  fun H locs ls hP hD hS hl => kk H locs ls hP hD hS (lv_sub hl ks h)
/-- fewer cells, or in another order -/
theorem ww_sub {ws' : va_W} (is : List Nat) (hnd : va_nd is = true) (h : is.map (fun i => ws[i]?) = ws'.map some) (kk : WW X nL E pc lv st ws' k n) : WW X nL E pc lv st ws k n :=
  fun H locs ls hP hD hS hl => kk H locs ls (hP.sub is (fm_of h)) (hD.sub is hnd h) hS hl
theorem ww_widen {k' n' : Nat} (hk : Nat.ble k k' = true) (hn : Nat.ble n n' = true) (kk : WW X nL E pc lv st ws k' n') : WW X nL E pc lv st ws k n :=
  fun H locs ls hP hD hS hl => W.widen (Nat.le_of_ble_eq_true hk) (Nat.le_of_ble_eq_true hn) (kk H locs ls hP hD hS hl)
end ROW
theorem vin {i : Int32} {N : Nat} (h : (decide (0 ≤ i.toInt) && decide (i.toInt < (N : Int))) = true) : vp_in i N := by
  simp only [Bool.and_eq_true, decide_eq_true_eq] at h
  exact vp_in_iff.mpr h
theorem i_lt {x y : Int32} {a b : Int} (hx : x.toInt = a) (hy : y.toInt = b) (h : x < y) : a < b := by subst hx; subst hy; exact Int32.lt_iff_toInt_lt.mp h
theorem i_nlt {x y : Int32} {a b : Int} (hx : x.toInt = a) (hy : y.toInt = b) (h : ¬ x < y) : b ≤ a := by subst hx; subst hy; have := mt Int32.lt_iff_toInt_lt.mpr h; omega
theorem i_le {x y : Int32} {a b : Int} (hx : x.toInt = a) (hy : y.toInt = b) (h : x ≤ y) : a ≤ b := by subst hx; subst hy; exact Int32.le_iff_toInt_le.mp h
theorem i_nle {x y : Int32} {a b : Int} (hx : x.toInt = a) (hy : y.toInt = b) (h : ¬ x ≤ y) : b < a := by subst hx; subst hy; have := mt Int32.le_iff_toInt_le.mpr h; omega
theorem i_eq {x y : Int32} {a b : Int} (hx : x.toInt = a) (hy : y.toInt = b) (h : x = y) : a = b := by subst hx; subst hy; rw [h]
theorem i_ne {x y : Int32} {a b : Int} (hx : x.toInt = a) (hy : y.toInt = b) (h : ¬ x = y) : a ≠ b := by subst hx; subst hy; exact fun e => h (Int32.toInt_inj.mp e)
theorem i_nne {x y : Int32} {a b : Int} (hx : x.toInt = a) (hy : y.toInt = b) (h : ¬ ¬ x = y) : a = b := i_eq hx hy (Classical.not_not.mp h)
/-- an int between bounds, as a natural number -/
theorem i_nat {x : Int32} {N : Nat} (h0 : 0 ≤ x.toInt) (h1 : x.toInt ≤ (N : Int)) : ∃ j : Nat, j ≤ N ∧ x = nI j := by
  refine ⟨x.toInt.toNat, by omega, ?_⟩
  apply Int32.toInt_inj.mp
  have hb := Int32.toInt_lt x
  rw [nI_toInt (by omega)]
  omega
