/-- the byte that stands at a place of the code -/
def dby (c : ByteArray) (p : Nat) : Option Nat := if h : p < c.size then some c[p].toNat else none
theorem u1_at {c : ByteArray} {p b : Nat} (h : dby c p = some b) : (Reader.u1 : Decoder Nat) c p = .ok (b, p + 1) := by
  unfold dby at h
  split at h
  · rename_i hp
    cases h
    show (if _h : p < c.size then (do set (p + 1); pure c[p].toNat : Decoder Nat) else throw (HasTruncated.truncated p)) c p = _
    rw [dif_pos hp]
    rfl
  · cases h
theorem dec_of {c : ByteArray} {pc n : Nat} {I : Instr} (hi : Decoder.instr pc c pc = .ok (I, pc + n)) : decode c pc = .ok (I, n) := by
  show (Decoder.instr pc c pc).bind (fun r => Except.ok (r.1, r.2 - pc)) = _
  rw [hi]
  show Except.ok (I, pc + n - pc) = _
  rw [Nat.add_sub_cancel_left]
theorem dby_d {c : ByteArray} {p : Nat} {a : UInt8} {t : List UInt8} (h : c.data.toList.drop p = a :: t) : dby c p = some a.toNat ∧ c.data.toList.drop (p + 1) = t := by
  have hp : p < c.data.toList.length := by
    rcases Nat.lt_or_ge p c.data.toList.length with q | q
    · exact q
    · rw [List.drop_eq_nil_of_le q] at h; cases h
  rw [List.drop_eq_getElem_cons hp] at h
  injection h with h1 h2
  refine ⟨?_, h2⟩
  unfold dby
  rw [dif_pos (show p < c.size from hp)]
  exact congrArg (fun x : UInt8 => some x.toNat) h1
theorem u2_at {c : ByteArray} {p b d : Nat} (h : dby c p = some b) (h2 : dby c (p + 1) = some d) : (Reader.u2 : Decoder Nat) c p = .ok (b * 256 + d, p + 2) := by
  unfold Reader.u2
  show ((Reader.u1 : Decoder Nat) c p).bind _ = _
  rw [u1_at h]
  show ((Reader.u1 : Decoder Nat) c (p + 1)).bind _ = _
  rw [u1_at h2]
  rfl
theorem s1_at {c : ByteArray} {p b : Nat} (h : dby c p = some b) : (Reader.s1 : Decoder Int) c p = .ok (Reader.signed 8 b, p + 1) := by
  unfold Reader.s1
  show ((Reader.u1 : Decoder Nat) c p).bind _ = _
  rw [u1_at h]
  rfl
theorem s2_at {c : ByteArray} {p b d : Nat} (h : dby c p = some b) (h2 : dby c (p + 1) = some d) : (Reader.s2 : Decoder Int) c p = .ok (Reader.signed 16 (b * 256 + d), p + 2) := by
  unfold Reader.s2
  show ((Reader.u2 : Decoder Nat) c p).bind _ = _
  rw [u2_at h h2]
  rfl
def k0 (c : ByteArray) (p o : Nat) : Bool := match c.data.toList.drop p with
  | a :: _ => Nat.beq a.toNat o
  | [] => false
def k1 (c : ByteArray) (p o : Nat) (f : Nat → Bool) : Bool := match c.data.toList.drop p with
  | a :: b :: _ => Nat.beq a.toNat o && f b.toNat
  | _ => false
def k2 (c : ByteArray) (p o : Nat) (f : Nat → Nat → Bool) : Bool := match c.data.toList.drop p with
  | a :: b :: d :: _ => Nat.beq a.toNat o && f b.toNat d.toNat
  | _ => false
theorem k0_ {c : ByteArray} {p o : Nat} (h : k0 c p o = true) : dby c p = some o := by
  unfold k0 at h
  split at h
  · rename_i a t e
    rw [(dby_d e).1, Nat.eq_of_beq_eq_true h]
  · cases h
theorem k1_ {c : ByteArray} {p o : Nat} {f : Nat → Bool} (h : k1 c p o f = true) : dby c p = some o ∧ ∃ b, dby c (p + 1) = some b ∧ f b = true := by
  unfold k1 at h
  split at h
  · rename_i a b t e
    rw [Bool.and_eq_true] at h
    have h1 := dby_d e
    have h2 := dby_d h1.2
    exact ⟨by rw [h1.1, Nat.eq_of_beq_eq_true h.1], _, h2.1, h.2⟩
  · cases h
theorem k2_ {c : ByteArray} {p o : Nat} {f : Nat → Nat → Bool} (h : k2 c p o f = true) : dby c p = some o ∧ ∃ b d, dby c (p + 1) = some b ∧ dby c (p + 1 + 1) = some d ∧ f b d = true := by
  unfold k2 at h
  split at h
  · rename_i a b d t e
    rw [Bool.and_eq_true] at h
    have h1 := dby_d e
    have h2 := dby_d h1.2
    have h3 := dby_d h2.2
    exact ⟨by rw [h1.1, Nat.eq_of_beq_eq_true h.1], _, _, h2.1, h3.1, h.2⟩
  · cases h
theorem dl_1 {c : ByteArray} {pc : Nat} (h : k0 c pc 1 = true) : decode c pc = .ok (.aconst_null, 1) := by
  apply dec_of
  unfold Decoder.instr
  show ((Reader.u1 : Decoder Nat) c pc).bind _ = _
  rw [u1_at (k0_ h)]
  rfl
theorem dl_2 {c : ByteArray} {pc : Nat} (h : k0 c pc 2 = true) : decode c pc = .ok (.iconst (-1), 1) := by
  apply dec_of
  unfold Decoder.instr
  show ((Reader.u1 : Decoder Nat) c pc).bind _ = _
  rw [u1_at (k0_ h)]
  rfl
theorem dl_3 {c : ByteArray} {pc : Nat} (h : k0 c pc 3 = true) : decode c pc = .ok (.iconst 0, 1) := by
  apply dec_of
  unfold Decoder.instr
  show ((Reader.u1 : Decoder Nat) c pc).bind _ = _
  rw [u1_at (k0_ h)]
  rfl
theorem dl_4 {c : ByteArray} {pc : Nat} (h : k0 c pc 4 = true) : decode c pc = .ok (.iconst 1, 1) := by
  apply dec_of
  unfold Decoder.instr
  show ((Reader.u1 : Decoder Nat) c pc).bind _ = _
  rw [u1_at (k0_ h)]
  rfl
theorem dl_5 {c : ByteArray} {pc : Nat} (h : k0 c pc 5 = true) : decode c pc = .ok (.iconst 2, 1) := by
  apply dec_of
  unfold Decoder.instr
  show ((Reader.u1 : Decoder Nat) c pc).bind _ = _
  rw [u1_at (k0_ h)]
  rfl
theorem dl_6 {c : ByteArray} {pc : Nat} (h : k0 c pc 6 = true) : decode c pc = .ok (.iconst 3, 1) := by
  apply dec_of
  unfold Decoder.instr
  show ((Reader.u1 : Decoder Nat) c pc).bind _ = _
  rw [u1_at (k0_ h)]
  rfl
theorem dl_7 {c : ByteArray} {pc : Nat} (h : k0 c pc 7 = true) : decode c pc = .ok (.iconst 4, 1) := by
  apply dec_of
  unfold Decoder.instr
  show ((Reader.u1 : Decoder Nat) c pc).bind _ = _
  rw [u1_at (k0_ h)]
  rfl
theorem dl_8 {c : ByteArray} {pc : Nat} (h : k0 c pc 8 = true) : decode c pc = .ok (.iconst 5, 1) := by
  apply dec_of
  unfold Decoder.instr
  show ((Reader.u1 : Decoder Nat) c pc).bind _ = _
  rw [u1_at (k0_ h)]
  rfl
theorem dl_9 {c : ByteArray} {pc : Nat} (h : k0 c pc 9 = true) : decode c pc = .ok (.lconst 0, 1) := by
  apply dec_of
  unfold Decoder.instr
  show ((Reader.u1 : Decoder Nat) c pc).bind _ = _
  rw [u1_at (k0_ h)]
  rfl
theorem dl_10 {c : ByteArray} {pc : Nat} (h : k0 c pc 10 = true) : decode c pc = .ok (.lconst 1, 1) := by
  apply dec_of
  unfold Decoder.instr
  show ((Reader.u1 : Decoder Nat) c pc).bind _ = _
  rw [u1_at (k0_ h)]
  rfl
theorem dl_26 {c : ByteArray} {pc : Nat} (h : k0 c pc 26 = true) : decode c pc = .ok (.iload_n 0, 1) := by
  apply dec_of
  unfold Decoder.instr
  show ((Reader.u1 : Decoder Nat) c pc).bind _ = _
  rw [u1_at (k0_ h)]
  rfl
theorem dl_27 {c : ByteArray} {pc : Nat} (h : k0 c pc 27 = true) : decode c pc = .ok (.iload_n 1, 1) := by
  apply dec_of
  unfold Decoder.instr
  show ((Reader.u1 : Decoder Nat) c pc).bind _ = _
  rw [u1_at (k0_ h)]
  rfl
theorem dl_28 {c : ByteArray} {pc : Nat} (h : k0 c pc 28 = true) : decode c pc = .ok (.iload_n 2, 1) := by
  apply dec_of
  unfold Decoder.instr
  show ((Reader.u1 : Decoder Nat) c pc).bind _ = _
  rw [u1_at (k0_ h)]
  rfl
theorem dl_29 {c : ByteArray} {pc : Nat} (h : k0 c pc 29 = true) : decode c pc = .ok (.iload_n 3, 1) := by
  apply dec_of
  unfold Decoder.instr
  show ((Reader.u1 : Decoder Nat) c pc).bind _ = _
  rw [u1_at (k0_ h)]
  rfl
theorem dl_30 {c : ByteArray} {pc : Nat} (h : k0 c pc 30 = true) : decode c pc = .ok (.lload_n 0, 1) := by
  apply dec_of
  unfold Decoder.instr
  show ((Reader.u1 : Decoder Nat) c pc).bind _ = _
  rw [u1_at (k0_ h)]
  rfl
theorem dl_31 {c : ByteArray} {pc : Nat} (h : k0 c pc 31 = true) : decode c pc = .ok (.lload_n 1, 1) := by
  apply dec_of
  unfold Decoder.instr
  show ((Reader.u1 : Decoder Nat) c pc).bind _ = _
  rw [u1_at (k0_ h)]
  rfl
theorem dl_32 {c : ByteArray} {pc : Nat} (h : k0 c pc 32 = true) : decode c pc = .ok (.lload_n 2, 1) := by
  apply dec_of
  unfold Decoder.instr
  show ((Reader.u1 : Decoder Nat) c pc).bind _ = _
  rw [u1_at (k0_ h)]
  rfl
theorem dl_33 {c : ByteArray} {pc : Nat} (h : k0 c pc 33 = true) : decode c pc = .ok (.lload_n 3, 1) := by
  apply dec_of
  unfold Decoder.instr
  show ((Reader.u1 : Decoder Nat) c pc).bind _ = _
  rw [u1_at (k0_ h)]
  rfl
theorem dl_42 {c : ByteArray} {pc : Nat} (h : k0 c pc 42 = true) : decode c pc = .ok (.aload_n 0, 1) := by
  apply dec_of
  unfold Decoder.instr
  show ((Reader.u1 : Decoder Nat) c pc).bind _ = _
  rw [u1_at (k0_ h)]
  rfl
theorem dl_43 {c : ByteArray} {pc : Nat} (h : k0 c pc 43 = true) : decode c pc = .ok (.aload_n 1, 1) := by
  apply dec_of
  unfold Decoder.instr
  show ((Reader.u1 : Decoder Nat) c pc).bind _ = _
  rw [u1_at (k0_ h)]
  rfl
theorem dl_44 {c : ByteArray} {pc : Nat} (h : k0 c pc 44 = true) : decode c pc = .ok (.aload_n 2, 1) := by
  apply dec_of
  unfold Decoder.instr
  show ((Reader.u1 : Decoder Nat) c pc).bind _ = _
  rw [u1_at (k0_ h)]
  rfl
theorem dl_45 {c : ByteArray} {pc : Nat} (h : k0 c pc 45 = true) : decode c pc = .ok (.aload_n 3, 1) := by
  apply dec_of
  unfold Decoder.instr
  show ((Reader.u1 : Decoder Nat) c pc).bind _ = _
  rw [u1_at (k0_ h)]
  rfl
theorem dl_46 {c : ByteArray} {pc : Nat} (h : k0 c pc 46 = true) : decode c pc = .ok (.iaload, 1) := by
  apply dec_of
  unfold Decoder.instr
  show ((Reader.u1 : Decoder Nat) c pc).bind _ = _
  rw [u1_at (k0_ h)]
  rfl
theorem dl_47 {c : ByteArray} {pc : Nat} (h : k0 c pc 47 = true) : decode c pc = .ok (.laload, 1) := by
  apply dec_of
  unfold Decoder.instr
  show ((Reader.u1 : Decoder Nat) c pc).bind _ = _
  rw [u1_at (k0_ h)]
  rfl
theorem dl_50 {c : ByteArray} {pc : Nat} (h : k0 c pc 50 = true) : decode c pc = .ok (.aaload, 1) := by
  apply dec_of
  unfold Decoder.instr
  show ((Reader.u1 : Decoder Nat) c pc).bind _ = _
  rw [u1_at (k0_ h)]
  rfl
theorem dl_51 {c : ByteArray} {pc : Nat} (h : k0 c pc 51 = true) : decode c pc = .ok (.baload, 1) := by
  apply dec_of
  unfold Decoder.instr
  show ((Reader.u1 : Decoder Nat) c pc).bind _ = _
  rw [u1_at (k0_ h)]
  rfl
theorem dl_59 {c : ByteArray} {pc : Nat} (h : k0 c pc 59 = true) : decode c pc = .ok (.istore_n 0, 1) := by
  apply dec_of
  unfold Decoder.instr
  show ((Reader.u1 : Decoder Nat) c pc).bind _ = _
  rw [u1_at (k0_ h)]
  rfl
theorem dl_60 {c : ByteArray} {pc : Nat} (h : k0 c pc 60 = true) : decode c pc = .ok (.istore_n 1, 1) := by
  apply dec_of
  unfold Decoder.instr
  show ((Reader.u1 : Decoder Nat) c pc).bind _ = _
  rw [u1_at (k0_ h)]
  rfl
theorem dl_61 {c : ByteArray} {pc : Nat} (h : k0 c pc 61 = true) : decode c pc = .ok (.istore_n 2, 1) := by
  apply dec_of
  unfold Decoder.instr
  show ((Reader.u1 : Decoder Nat) c pc).bind _ = _
  rw [u1_at (k0_ h)]
  rfl
theorem dl_62 {c : ByteArray} {pc : Nat} (h : k0 c pc 62 = true) : decode c pc = .ok (.istore_n 3, 1) := by
  apply dec_of
  unfold Decoder.instr
  show ((Reader.u1 : Decoder Nat) c pc).bind _ = _
  rw [u1_at (k0_ h)]
  rfl
theorem dl_63 {c : ByteArray} {pc : Nat} (h : k0 c pc 63 = true) : decode c pc = .ok (.lstore_n 0, 1) := by
  apply dec_of
  unfold Decoder.instr
  show ((Reader.u1 : Decoder Nat) c pc).bind _ = _
  rw [u1_at (k0_ h)]
  rfl
theorem dl_64 {c : ByteArray} {pc : Nat} (h : k0 c pc 64 = true) : decode c pc = .ok (.lstore_n 1, 1) := by
  apply dec_of
  unfold Decoder.instr
  show ((Reader.u1 : Decoder Nat) c pc).bind _ = _
  rw [u1_at (k0_ h)]
  rfl
theorem dl_65 {c : ByteArray} {pc : Nat} (h : k0 c pc 65 = true) : decode c pc = .ok (.lstore_n 2, 1) := by
  apply dec_of
  unfold Decoder.instr
  show ((Reader.u1 : Decoder Nat) c pc).bind _ = _
  rw [u1_at (k0_ h)]
  rfl
theorem dl_66 {c : ByteArray} {pc : Nat} (h : k0 c pc 66 = true) : decode c pc = .ok (.lstore_n 3, 1) := by
  apply dec_of
  unfold Decoder.instr
  show ((Reader.u1 : Decoder Nat) c pc).bind _ = _
  rw [u1_at (k0_ h)]
  rfl
theorem dl_75 {c : ByteArray} {pc : Nat} (h : k0 c pc 75 = true) : decode c pc = .ok (.astore_n 0, 1) := by
  apply dec_of
  unfold Decoder.instr
  show ((Reader.u1 : Decoder Nat) c pc).bind _ = _
  rw [u1_at (k0_ h)]
  rfl
theorem dl_76 {c : ByteArray} {pc : Nat} (h : k0 c pc 76 = true) : decode c pc = .ok (.astore_n 1, 1) := by
  apply dec_of
  unfold Decoder.instr
  show ((Reader.u1 : Decoder Nat) c pc).bind _ = _
  rw [u1_at (k0_ h)]
  rfl
theorem dl_77 {c : ByteArray} {pc : Nat} (h : k0 c pc 77 = true) : decode c pc = .ok (.astore_n 2, 1) := by
  apply dec_of
  unfold Decoder.instr
  show ((Reader.u1 : Decoder Nat) c pc).bind _ = _
  rw [u1_at (k0_ h)]
  rfl
theorem dl_78 {c : ByteArray} {pc : Nat} (h : k0 c pc 78 = true) : decode c pc = .ok (.astore_n 3, 1) := by
  apply dec_of
  unfold Decoder.instr
  show ((Reader.u1 : Decoder Nat) c pc).bind _ = _
  rw [u1_at (k0_ h)]
  rfl
theorem dl_79 {c : ByteArray} {pc : Nat} (h : k0 c pc 79 = true) : decode c pc = .ok (.iastore, 1) := by
  apply dec_of
  unfold Decoder.instr
  show ((Reader.u1 : Decoder Nat) c pc).bind _ = _
  rw [u1_at (k0_ h)]
  rfl
theorem dl_80 {c : ByteArray} {pc : Nat} (h : k0 c pc 80 = true) : decode c pc = .ok (.lastore, 1) := by
  apply dec_of
  unfold Decoder.instr
  show ((Reader.u1 : Decoder Nat) c pc).bind _ = _
  rw [u1_at (k0_ h)]
  rfl
theorem dl_83 {c : ByteArray} {pc : Nat} (h : k0 c pc 83 = true) : decode c pc = .ok (.aastore, 1) := by
  apply dec_of
  unfold Decoder.instr
  show ((Reader.u1 : Decoder Nat) c pc).bind _ = _
  rw [u1_at (k0_ h)]
  rfl
theorem dl_84 {c : ByteArray} {pc : Nat} (h : k0 c pc 84 = true) : decode c pc = .ok (.bastore, 1) := by
  apply dec_of
  unfold Decoder.instr
  show ((Reader.u1 : Decoder Nat) c pc).bind _ = _
  rw [u1_at (k0_ h)]
  rfl
theorem dl_87 {c : ByteArray} {pc : Nat} (h : k0 c pc 87 = true) : decode c pc = .ok (.pop, 1) := by
  apply dec_of
  unfold Decoder.instr
  show ((Reader.u1 : Decoder Nat) c pc).bind _ = _
  rw [u1_at (k0_ h)]
  rfl
theorem dl_89 {c : ByteArray} {pc : Nat} (h : k0 c pc 89 = true) : decode c pc = .ok (.dup, 1) := by
  apply dec_of
  unfold Decoder.instr
  show ((Reader.u1 : Decoder Nat) c pc).bind _ = _
  rw [u1_at (k0_ h)]
  rfl
theorem dl_92 {c : ByteArray} {pc : Nat} (h : k0 c pc 92 = true) : decode c pc = .ok (.dup2, 1) := by
  apply dec_of
  unfold Decoder.instr
  show ((Reader.u1 : Decoder Nat) c pc).bind _ = _
  rw [u1_at (k0_ h)]
  rfl
theorem dl_96 {c : ByteArray} {pc : Nat} (h : k0 c pc 96 = true) : decode c pc = .ok (.iadd, 1) := by
  apply dec_of
  unfold Decoder.instr
  show ((Reader.u1 : Decoder Nat) c pc).bind _ = _
  rw [u1_at (k0_ h)]
  rfl
theorem dl_97 {c : ByteArray} {pc : Nat} (h : k0 c pc 97 = true) : decode c pc = .ok (.ladd, 1) := by
  apply dec_of
  unfold Decoder.instr
  show ((Reader.u1 : Decoder Nat) c pc).bind _ = _
  rw [u1_at (k0_ h)]
  rfl
theorem dl_100 {c : ByteArray} {pc : Nat} (h : k0 c pc 100 = true) : decode c pc = .ok (.isub, 1) := by
  apply dec_of
  unfold Decoder.instr
  show ((Reader.u1 : Decoder Nat) c pc).bind _ = _
  rw [u1_at (k0_ h)]
  rfl
theorem dl_104 {c : ByteArray} {pc : Nat} (h : k0 c pc 104 = true) : decode c pc = .ok (.imul, 1) := by
  apply dec_of
  unfold Decoder.instr
  show ((Reader.u1 : Decoder Nat) c pc).bind _ = _
  rw [u1_at (k0_ h)]
  rfl
theorem dl_108 {c : ByteArray} {pc : Nat} (h : k0 c pc 108 = true) : decode c pc = .ok (.idiv, 1) := by
  apply dec_of
  unfold Decoder.instr
  show ((Reader.u1 : Decoder Nat) c pc).bind _ = _
  rw [u1_at (k0_ h)]
  rfl
theorem dl_112 {c : ByteArray} {pc : Nat} (h : k0 c pc 112 = true) : decode c pc = .ok (.irem, 1) := by
  apply dec_of
  unfold Decoder.instr
  show ((Reader.u1 : Decoder Nat) c pc).bind _ = _
  rw [u1_at (k0_ h)]
  rfl
theorem dl_120 {c : ByteArray} {pc : Nat} (h : k0 c pc 120 = true) : decode c pc = .ok (.ishl, 1) := by
  apply dec_of
  unfold Decoder.instr
  show ((Reader.u1 : Decoder Nat) c pc).bind _ = _
  rw [u1_at (k0_ h)]
  rfl
theorem dl_121 {c : ByteArray} {pc : Nat} (h : k0 c pc 121 = true) : decode c pc = .ok (.lshl, 1) := by
  apply dec_of
  unfold Decoder.instr
  show ((Reader.u1 : Decoder Nat) c pc).bind _ = _
  rw [u1_at (k0_ h)]
  rfl
theorem dl_122 {c : ByteArray} {pc : Nat} (h : k0 c pc 122 = true) : decode c pc = .ok (.ishr, 1) := by
  apply dec_of
  unfold Decoder.instr
  show ((Reader.u1 : Decoder Nat) c pc).bind _ = _
  rw [u1_at (k0_ h)]
  rfl
theorem dl_123 {c : ByteArray} {pc : Nat} (h : k0 c pc 123 = true) : decode c pc = .ok (.lshr, 1) := by
  apply dec_of
  unfold Decoder.instr
  show ((Reader.u1 : Decoder Nat) c pc).bind _ = _
  rw [u1_at (k0_ h)]
  rfl
theorem dl_124 {c : ByteArray} {pc : Nat} (h : k0 c pc 124 = true) : decode c pc = .ok (.iushr, 1) := by
  apply dec_of
  unfold Decoder.instr
  show ((Reader.u1 : Decoder Nat) c pc).bind _ = _
  rw [u1_at (k0_ h)]
  rfl
theorem dl_125 {c : ByteArray} {pc : Nat} (h : k0 c pc 125 = true) : decode c pc = .ok (.lushr, 1) := by
  apply dec_of
  unfold Decoder.instr
  show ((Reader.u1 : Decoder Nat) c pc).bind _ = _
  rw [u1_at (k0_ h)]
  rfl
theorem dl_126 {c : ByteArray} {pc : Nat} (h : k0 c pc 126 = true) : decode c pc = .ok (.iand, 1) := by
  apply dec_of
  unfold Decoder.instr
  show ((Reader.u1 : Decoder Nat) c pc).bind _ = _
  rw [u1_at (k0_ h)]
  rfl
theorem dl_127 {c : ByteArray} {pc : Nat} (h : k0 c pc 127 = true) : decode c pc = .ok (.land, 1) := by
  apply dec_of
  unfold Decoder.instr
  show ((Reader.u1 : Decoder Nat) c pc).bind _ = _
  rw [u1_at (k0_ h)]
  rfl
theorem dl_128 {c : ByteArray} {pc : Nat} (h : k0 c pc 128 = true) : decode c pc = .ok (.ior, 1) := by
  apply dec_of
  unfold Decoder.instr
  show ((Reader.u1 : Decoder Nat) c pc).bind _ = _
  rw [u1_at (k0_ h)]
  rfl
theorem dl_129 {c : ByteArray} {pc : Nat} (h : k0 c pc 129 = true) : decode c pc = .ok (.lor, 1) := by
  apply dec_of
  unfold Decoder.instr
  show ((Reader.u1 : Decoder Nat) c pc).bind _ = _
  rw [u1_at (k0_ h)]
  rfl
theorem dl_130 {c : ByteArray} {pc : Nat} (h : k0 c pc 130 = true) : decode c pc = .ok (.ixor, 1) := by
  apply dec_of
  unfold Decoder.instr
  show ((Reader.u1 : Decoder Nat) c pc).bind _ = _
  rw [u1_at (k0_ h)]
  rfl
theorem dl_133 {c : ByteArray} {pc : Nat} (h : k0 c pc 133 = true) : decode c pc = .ok (.i2l, 1) := by
  apply dec_of
  unfold Decoder.instr
  show ((Reader.u1 : Decoder Nat) c pc).bind _ = _
  rw [u1_at (k0_ h)]
  rfl
theorem dl_136 {c : ByteArray} {pc : Nat} (h : k0 c pc 136 = true) : decode c pc = .ok (.l2i, 1) := by
  apply dec_of
  unfold Decoder.instr
  show ((Reader.u1 : Decoder Nat) c pc).bind _ = _
  rw [u1_at (k0_ h)]
  rfl
theorem dl_145 {c : ByteArray} {pc : Nat} (h : k0 c pc 145 = true) : decode c pc = .ok (.i2b, 1) := by
  apply dec_of
  unfold Decoder.instr
  show ((Reader.u1 : Decoder Nat) c pc).bind _ = _
  rw [u1_at (k0_ h)]
  rfl
theorem dl_148 {c : ByteArray} {pc : Nat} (h : k0 c pc 148 = true) : decode c pc = .ok (.lcmp, 1) := by
  apply dec_of
  unfold Decoder.instr
  show ((Reader.u1 : Decoder Nat) c pc).bind _ = _
  rw [u1_at (k0_ h)]
  rfl
theorem dl_172 {c : ByteArray} {pc : Nat} (h : k0 c pc 172 = true) : decode c pc = .ok (.ireturn, 1) := by
  apply dec_of
  unfold Decoder.instr
  show ((Reader.u1 : Decoder Nat) c pc).bind _ = _
  rw [u1_at (k0_ h)]
  rfl
theorem dl_173 {c : ByteArray} {pc : Nat} (h : k0 c pc 173 = true) : decode c pc = .ok (.lreturn, 1) := by
  apply dec_of
  unfold Decoder.instr
  show ((Reader.u1 : Decoder Nat) c pc).bind _ = _
  rw [u1_at (k0_ h)]
  rfl
theorem dl_176 {c : ByteArray} {pc : Nat} (h : k0 c pc 176 = true) : decode c pc = .ok (.areturn, 1) := by
  apply dec_of
  unfold Decoder.instr
  show ((Reader.u1 : Decoder Nat) c pc).bind _ = _
  rw [u1_at (k0_ h)]
  rfl
theorem dl_177 {c : ByteArray} {pc : Nat} (h : k0 c pc 177 = true) : decode c pc = .ok (.return_, 1) := by
  apply dec_of
  unfold Decoder.instr
  show ((Reader.u1 : Decoder Nat) c pc).bind _ = _
  rw [u1_at (k0_ h)]
  rfl
theorem dl_190 {c : ByteArray} {pc : Nat} (h : k0 c pc 190 = true) : decode c pc = .ok (.arraylength, 1) := by
  apply dec_of
  unfold Decoder.instr
  show ((Reader.u1 : Decoder Nat) c pc).bind _ = _
  rw [u1_at (k0_ h)]
  rfl
theorem dl_18 {c : ByteArray} {pc x : Nat} (h : k1 c pc 18 (fun b => Nat.beq b x) = true) : decode c pc = .ok (.ldc x, 2) := by
  obtain ⟨h0, b, h1, e⟩ := k1_ h
  have e := Nat.eq_of_beq_eq_true e
  subst e
  apply dec_of
  unfold Decoder.instr
  show ((Reader.u1 : Decoder Nat) c pc).bind _ = _
  rw [u1_at h0]
  show ((Reader.u1 : Decoder Nat) c (pc + 1)).bind _ = _
  rw [u1_at h1]
  rfl
theorem dl_21 {c : ByteArray} {pc x : Nat} (h : k1 c pc 21 (fun b => Nat.beq b x) = true) : decode c pc = .ok (.iload x, 2) := by
  obtain ⟨h0, b, h1, e⟩ := k1_ h
  have e := Nat.eq_of_beq_eq_true e
  subst e
  apply dec_of
  unfold Decoder.instr
  show ((Reader.u1 : Decoder Nat) c pc).bind _ = _
  rw [u1_at h0]
  show ((Reader.u1 : Decoder Nat) c (pc + 1)).bind _ = _
  rw [u1_at h1]
  rfl
theorem dl_22 {c : ByteArray} {pc x : Nat} (h : k1 c pc 22 (fun b => Nat.beq b x) = true) : decode c pc = .ok (.lload x, 2) := by
  obtain ⟨h0, b, h1, e⟩ := k1_ h
  have e := Nat.eq_of_beq_eq_true e
  subst e
  apply dec_of
  unfold Decoder.instr
  show ((Reader.u1 : Decoder Nat) c pc).bind _ = _
  rw [u1_at h0]
  show ((Reader.u1 : Decoder Nat) c (pc + 1)).bind _ = _
  rw [u1_at h1]
  rfl
theorem dl_25 {c : ByteArray} {pc x : Nat} (h : k1 c pc 25 (fun b => Nat.beq b x) = true) : decode c pc = .ok (.aload x, 2) := by
  obtain ⟨h0, b, h1, e⟩ := k1_ h
  have e := Nat.eq_of_beq_eq_true e
  subst e
  apply dec_of
  unfold Decoder.instr
  show ((Reader.u1 : Decoder Nat) c pc).bind _ = _
  rw [u1_at h0]
  show ((Reader.u1 : Decoder Nat) c (pc + 1)).bind _ = _
  rw [u1_at h1]
  rfl
theorem dl_54 {c : ByteArray} {pc x : Nat} (h : k1 c pc 54 (fun b => Nat.beq b x) = true) : decode c pc = .ok (.istore x, 2) := by
  obtain ⟨h0, b, h1, e⟩ := k1_ h
  have e := Nat.eq_of_beq_eq_true e
  subst e
  apply dec_of
  unfold Decoder.instr
  show ((Reader.u1 : Decoder Nat) c pc).bind _ = _
  rw [u1_at h0]
  show ((Reader.u1 : Decoder Nat) c (pc + 1)).bind _ = _
  rw [u1_at h1]
  rfl
theorem dl_55 {c : ByteArray} {pc x : Nat} (h : k1 c pc 55 (fun b => Nat.beq b x) = true) : decode c pc = .ok (.lstore x, 2) := by
  obtain ⟨h0, b, h1, e⟩ := k1_ h
  have e := Nat.eq_of_beq_eq_true e
  subst e
  apply dec_of
  unfold Decoder.instr
  show ((Reader.u1 : Decoder Nat) c pc).bind _ = _
  rw [u1_at h0]
  show ((Reader.u1 : Decoder Nat) c (pc + 1)).bind _ = _
  rw [u1_at h1]
  rfl
theorem dl_58 {c : ByteArray} {pc x : Nat} (h : k1 c pc 58 (fun b => Nat.beq b x) = true) : decode c pc = .ok (.astore x, 2) := by
  obtain ⟨h0, b, h1, e⟩ := k1_ h
  have e := Nat.eq_of_beq_eq_true e
  subst e
  apply dec_of
  unfold Decoder.instr
  show ((Reader.u1 : Decoder Nat) c pc).bind _ = _
  rw [u1_at h0]
  show ((Reader.u1 : Decoder Nat) c (pc + 1)).bind _ = _
  rw [u1_at h1]
  rfl
theorem dl_20 {c : ByteArray} {pc x : Nat} (h : k2 c pc 20 (fun b d => Nat.beq (b * 256 + d) x) = true) : decode c pc = .ok (.ldc2_w x, 3) := by
  obtain ⟨h0, b, d, h1, h2, e⟩ := k2_ h
  have e := Nat.eq_of_beq_eq_true e
  subst e
  apply dec_of
  unfold Decoder.instr
  show ((Reader.u1 : Decoder Nat) c pc).bind _ = _
  rw [u1_at h0]
  show ((Reader.u2 : Decoder Nat) c (pc + 1)).bind _ = _
  rw [u2_at h1 h2]
  rfl
theorem dl_178 {c : ByteArray} {pc x : Nat} (h : k2 c pc 178 (fun b d => Nat.beq (b * 256 + d) x) = true) : decode c pc = .ok (.getstatic x, 3) := by
  obtain ⟨h0, b, d, h1, h2, e⟩ := k2_ h
  have e := Nat.eq_of_beq_eq_true e
  subst e
  apply dec_of
  unfold Decoder.instr
  show ((Reader.u1 : Decoder Nat) c pc).bind _ = _
  rw [u1_at h0]
  show ((Reader.u2 : Decoder Nat) c (pc + 1)).bind _ = _
  rw [u2_at h1 h2]
  rfl
theorem dl_180 {c : ByteArray} {pc x : Nat} (h : k2 c pc 180 (fun b d => Nat.beq (b * 256 + d) x) = true) : decode c pc = .ok (.getfield x, 3) := by
  obtain ⟨h0, b, d, h1, h2, e⟩ := k2_ h
  have e := Nat.eq_of_beq_eq_true e
  subst e
  apply dec_of
  unfold Decoder.instr
  show ((Reader.u1 : Decoder Nat) c pc).bind _ = _
  rw [u1_at h0]
  show ((Reader.u2 : Decoder Nat) c (pc + 1)).bind _ = _
  rw [u2_at h1 h2]
  rfl
theorem dl_181 {c : ByteArray} {pc x : Nat} (h : k2 c pc 181 (fun b d => Nat.beq (b * 256 + d) x) = true) : decode c pc = .ok (.putfield x, 3) := by
  obtain ⟨h0, b, d, h1, h2, e⟩ := k2_ h
  have e := Nat.eq_of_beq_eq_true e
  subst e
  apply dec_of
  unfold Decoder.instr
  show ((Reader.u1 : Decoder Nat) c pc).bind _ = _
  rw [u1_at h0]
  show ((Reader.u2 : Decoder Nat) c (pc + 1)).bind _ = _
  rw [u2_at h1 h2]
  rfl
theorem dl_182 {c : ByteArray} {pc x : Nat} (h : k2 c pc 182 (fun b d => Nat.beq (b * 256 + d) x) = true) : decode c pc = .ok (.invokevirtual x, 3) := by
  obtain ⟨h0, b, d, h1, h2, e⟩ := k2_ h
  have e := Nat.eq_of_beq_eq_true e
  subst e
  apply dec_of
  unfold Decoder.instr
  show ((Reader.u1 : Decoder Nat) c pc).bind _ = _
  rw [u1_at h0]
  show ((Reader.u2 : Decoder Nat) c (pc + 1)).bind _ = _
  rw [u2_at h1 h2]
  rfl
theorem dl_183 {c : ByteArray} {pc x : Nat} (h : k2 c pc 183 (fun b d => Nat.beq (b * 256 + d) x) = true) : decode c pc = .ok (.invokespecial x, 3) := by
  obtain ⟨h0, b, d, h1, h2, e⟩ := k2_ h
  have e := Nat.eq_of_beq_eq_true e
  subst e
  apply dec_of
  unfold Decoder.instr
  show ((Reader.u1 : Decoder Nat) c pc).bind _ = _
  rw [u1_at h0]
  show ((Reader.u2 : Decoder Nat) c (pc + 1)).bind _ = _
  rw [u2_at h1 h2]
  rfl
theorem dl_184 {c : ByteArray} {pc x : Nat} (h : k2 c pc 184 (fun b d => Nat.beq (b * 256 + d) x) = true) : decode c pc = .ok (.invokestatic x, 3) := by
  obtain ⟨h0, b, d, h1, h2, e⟩ := k2_ h
  have e := Nat.eq_of_beq_eq_true e
  subst e
  apply dec_of
  unfold Decoder.instr
  show ((Reader.u1 : Decoder Nat) c pc).bind _ = _
  rw [u1_at h0]
  show ((Reader.u2 : Decoder Nat) c (pc + 1)).bind _ = _
  rw [u2_at h1 h2]
  rfl
theorem dl_187 {c : ByteArray} {pc x : Nat} (h : k2 c pc 187 (fun b d => Nat.beq (b * 256 + d) x) = true) : decode c pc = .ok (.new x, 3) := by
  obtain ⟨h0, b, d, h1, h2, e⟩ := k2_ h
  have e := Nat.eq_of_beq_eq_true e
  subst e
  apply dec_of
  unfold Decoder.instr
  show ((Reader.u1 : Decoder Nat) c pc).bind _ = _
  rw [u1_at h0]
  show ((Reader.u2 : Decoder Nat) c (pc + 1)).bind _ = _
  rw [u2_at h1 h2]
  rfl
theorem dl_189 {c : ByteArray} {pc x : Nat} (h : k2 c pc 189 (fun b d => Nat.beq (b * 256 + d) x) = true) : decode c pc = .ok (.anewarray x, 3) := by
  obtain ⟨h0, b, d, h1, h2, e⟩ := k2_ h
  have e := Nat.eq_of_beq_eq_true e
  subst e
  apply dec_of
  unfold Decoder.instr
  show ((Reader.u1 : Decoder Nat) c pc).bind _ = _
  rw [u1_at h0]
  show ((Reader.u2 : Decoder Nat) c (pc + 1)).bind _ = _
  rw [u2_at h1 h2]
  rfl
theorem dl_16 {c : ByteArray} {pc : Nat} {z : Int} (h : k1 c pc 16 (fun b => decide (Reader.signed 8 b = z)) = true) : decode c pc = .ok (.bipush z, 2) := by
  obtain ⟨h0, b, h1, e⟩ := k1_ h
  have e := of_decide_eq_true e
  subst e
  apply dec_of
  unfold Decoder.instr
  show ((Reader.u1 : Decoder Nat) c pc).bind _ = _
  rw [u1_at h0]
  show ((Reader.s1 : Decoder Int) c (pc + 1)).bind _ = _
  rw [s1_at h1]
  rfl
theorem dl_17 {c : ByteArray} {pc : Nat} {z : Int} (h : k2 c pc 17 (fun b d => decide (Reader.signed 16 (b * 256 + d) = z)) = true) : decode c pc = .ok (.sipush z, 3) := by
  obtain ⟨h0, b, d, h1, h2, e⟩ := k2_ h
  have e := of_decide_eq_true e
  subst e
  apply dec_of
  unfold Decoder.instr
  show ((Reader.u1 : Decoder Nat) c pc).bind _ = _
  rw [u1_at h0]
  show ((Reader.s2 : Decoder Int) c (pc + 1)).bind _ = _
  rw [s2_at h1 h2]
  rfl
theorem dl_153 {c : ByteArray} {pc : Nat} {z : Int} (h : k2 c pc 153 (fun b d => decide (Reader.signed 16 (b * 256 + d) = z)) = true) : decode c pc = .ok (.ifCond .eq z, 3) := by
  obtain ⟨h0, b, d, h1, h2, e⟩ := k2_ h
  have e := of_decide_eq_true e
  subst e
  apply dec_of
  unfold Decoder.instr
  show ((Reader.u1 : Decoder Nat) c pc).bind _ = _
  rw [u1_at h0]
  show ((Reader.s2 : Decoder Int) c (pc + 1)).bind _ = _
  rw [s2_at h1 h2]
  rfl
theorem dl_154 {c : ByteArray} {pc : Nat} {z : Int} (h : k2 c pc 154 (fun b d => decide (Reader.signed 16 (b * 256 + d) = z)) = true) : decode c pc = .ok (.ifCond .ne z, 3) := by
  obtain ⟨h0, b, d, h1, h2, e⟩ := k2_ h
  have e := of_decide_eq_true e
  subst e
  apply dec_of
  unfold Decoder.instr
  show ((Reader.u1 : Decoder Nat) c pc).bind _ = _
  rw [u1_at h0]
  show ((Reader.s2 : Decoder Int) c (pc + 1)).bind _ = _
  rw [s2_at h1 h2]
  rfl
theorem dl_155 {c : ByteArray} {pc : Nat} {z : Int} (h : k2 c pc 155 (fun b d => decide (Reader.signed 16 (b * 256 + d) = z)) = true) : decode c pc = .ok (.ifCond .lt z, 3) := by
  obtain ⟨h0, b, d, h1, h2, e⟩ := k2_ h
  have e := of_decide_eq_true e
  subst e
  apply dec_of
  unfold Decoder.instr
  show ((Reader.u1 : Decoder Nat) c pc).bind _ = _
  rw [u1_at h0]
  show ((Reader.s2 : Decoder Int) c (pc + 1)).bind _ = _
  rw [s2_at h1 h2]
  rfl
theorem dl_156 {c : ByteArray} {pc : Nat} {z : Int} (h : k2 c pc 156 (fun b d => decide (Reader.signed 16 (b * 256 + d) = z)) = true) : decode c pc = .ok (.ifCond .ge z, 3) := by
  obtain ⟨h0, b, d, h1, h2, e⟩ := k2_ h
  have e := of_decide_eq_true e
  subst e
  apply dec_of
  unfold Decoder.instr
  show ((Reader.u1 : Decoder Nat) c pc).bind _ = _
  rw [u1_at h0]
  show ((Reader.s2 : Decoder Int) c (pc + 1)).bind _ = _
  rw [s2_at h1 h2]
  rfl
theorem dl_157 {c : ByteArray} {pc : Nat} {z : Int} (h : k2 c pc 157 (fun b d => decide (Reader.signed 16 (b * 256 + d) = z)) = true) : decode c pc = .ok (.ifCond .gt z, 3) := by
  obtain ⟨h0, b, d, h1, h2, e⟩ := k2_ h
  have e := of_decide_eq_true e
  subst e
  apply dec_of
  unfold Decoder.instr
  show ((Reader.u1 : Decoder Nat) c pc).bind _ = _
  rw [u1_at h0]
  show ((Reader.s2 : Decoder Int) c (pc + 1)).bind _ = _
  rw [s2_at h1 h2]
  rfl
theorem dl_158 {c : ByteArray} {pc : Nat} {z : Int} (h : k2 c pc 158 (fun b d => decide (Reader.signed 16 (b * 256 + d) = z)) = true) : decode c pc = .ok (.ifCond .le z, 3) := by
  obtain ⟨h0, b, d, h1, h2, e⟩ := k2_ h
  have e := of_decide_eq_true e
  subst e
  apply dec_of
  unfold Decoder.instr
  show ((Reader.u1 : Decoder Nat) c pc).bind _ = _
  rw [u1_at h0]
  show ((Reader.s2 : Decoder Int) c (pc + 1)).bind _ = _
  rw [s2_at h1 h2]
  rfl
theorem dl_159 {c : ByteArray} {pc : Nat} {z : Int} (h : k2 c pc 159 (fun b d => decide (Reader.signed 16 (b * 256 + d) = z)) = true) : decode c pc = .ok (.if_icmp .eq z, 3) := by
  obtain ⟨h0, b, d, h1, h2, e⟩ := k2_ h
  have e := of_decide_eq_true e
  subst e
  apply dec_of
  unfold Decoder.instr
  show ((Reader.u1 : Decoder Nat) c pc).bind _ = _
  rw [u1_at h0]
  show ((Reader.s2 : Decoder Int) c (pc + 1)).bind _ = _
  rw [s2_at h1 h2]
  rfl
theorem dl_160 {c : ByteArray} {pc : Nat} {z : Int} (h : k2 c pc 160 (fun b d => decide (Reader.signed 16 (b * 256 + d) = z)) = true) : decode c pc = .ok (.if_icmp .ne z, 3) := by
  obtain ⟨h0, b, d, h1, h2, e⟩ := k2_ h
  have e := of_decide_eq_true e
  subst e
  apply dec_of
  unfold Decoder.instr
  show ((Reader.u1 : Decoder Nat) c pc).bind _ = _
  rw [u1_at h0]
  show ((Reader.s2 : Decoder Int) c (pc + 1)).bind _ = _
  rw [s2_at h1 h2]
  rfl
theorem dl_161 {c : ByteArray} {pc : Nat} {z : Int} (h : k2 c pc 161 (fun b d => decide (Reader.signed 16 (b * 256 + d) = z)) = true) : decode c pc = .ok (.if_icmp .lt z, 3) := by
  obtain ⟨h0, b, d, h1, h2, e⟩ := k2_ h
  have e := of_decide_eq_true e
  subst e
  apply dec_of
  unfold Decoder.instr
  show ((Reader.u1 : Decoder Nat) c pc).bind _ = _
  rw [u1_at h0]
  show ((Reader.s2 : Decoder Int) c (pc + 1)).bind _ = _
  rw [s2_at h1 h2]
  rfl
theorem dl_162 {c : ByteArray} {pc : Nat} {z : Int} (h : k2 c pc 162 (fun b d => decide (Reader.signed 16 (b * 256 + d) = z)) = true) : decode c pc = .ok (.if_icmp .ge z, 3) := by
  obtain ⟨h0, b, d, h1, h2, e⟩ := k2_ h
  have e := of_decide_eq_true e
  subst e
  apply dec_of
  unfold Decoder.instr
  show ((Reader.u1 : Decoder Nat) c pc).bind _ = _
  rw [u1_at h0]
  show ((Reader.s2 : Decoder Int) c (pc + 1)).bind _ = _
  rw [s2_at h1 h2]
  rfl
theorem dl_163 {c : ByteArray} {pc : Nat} {z : Int} (h : k2 c pc 163 (fun b d => decide (Reader.signed 16 (b * 256 + d) = z)) = true) : decode c pc = .ok (.if_icmp .gt z, 3) := by
  obtain ⟨h0, b, d, h1, h2, e⟩ := k2_ h
  have e := of_decide_eq_true e
  subst e
  apply dec_of
  unfold Decoder.instr
  show ((Reader.u1 : Decoder Nat) c pc).bind _ = _
  rw [u1_at h0]
  show ((Reader.s2 : Decoder Int) c (pc + 1)).bind _ = _
  rw [s2_at h1 h2]
  rfl
theorem dl_164 {c : ByteArray} {pc : Nat} {z : Int} (h : k2 c pc 164 (fun b d => decide (Reader.signed 16 (b * 256 + d) = z)) = true) : decode c pc = .ok (.if_icmp .le z, 3) := by
  obtain ⟨h0, b, d, h1, h2, e⟩ := k2_ h
  have e := of_decide_eq_true e
  subst e
  apply dec_of
  unfold Decoder.instr
  show ((Reader.u1 : Decoder Nat) c pc).bind _ = _
  rw [u1_at h0]
  show ((Reader.s2 : Decoder Int) c (pc + 1)).bind _ = _
  rw [s2_at h1 h2]
  rfl
theorem dl_167 {c : ByteArray} {pc : Nat} {z : Int} (h : k2 c pc 167 (fun b d => decide (Reader.signed 16 (b * 256 + d) = z)) = true) : decode c pc = .ok (.goto z, 3) := by
  obtain ⟨h0, b, d, h1, h2, e⟩ := k2_ h
  have e := of_decide_eq_true e
  subst e
  apply dec_of
  unfold Decoder.instr
  show ((Reader.u1 : Decoder Nat) c pc).bind _ = _
  rw [u1_at h0]
  show ((Reader.s2 : Decoder Int) c (pc + 1)).bind _ = _
  rw [s2_at h1 h2]
  rfl
theorem dl_198 {c : ByteArray} {pc : Nat} {z : Int} (h : k2 c pc 198 (fun b d => decide (Reader.signed 16 (b * 256 + d) = z)) = true) : decode c pc = .ok (.ifnull z, 3) := by
  obtain ⟨h0, b, d, h1, h2, e⟩ := k2_ h
  have e := of_decide_eq_true e
  subst e
  apply dec_of
  unfold Decoder.instr
  show ((Reader.u1 : Decoder Nat) c pc).bind _ = _
  rw [u1_at h0]
  show ((Reader.s2 : Decoder Int) c (pc + 1)).bind _ = _
  rw [s2_at h1 h2]
  rfl
theorem dl_199 {c : ByteArray} {pc : Nat} {z : Int} (h : k2 c pc 199 (fun b d => decide (Reader.signed 16 (b * 256 + d) = z)) = true) : decode c pc = .ok (.ifnonnull z, 3) := by
  obtain ⟨h0, b, d, h1, h2, e⟩ := k2_ h
  have e := of_decide_eq_true e
  subst e
  apply dec_of
  unfold Decoder.instr
  show ((Reader.u1 : Decoder Nat) c pc).bind _ = _
  rw [u1_at h0]
  show ((Reader.s2 : Decoder Int) c (pc + 1)).bind _ = _
  rw [s2_at h1 h2]
  rfl
theorem dl_132 {c : ByteArray} {pc x : Nat} {z : Int} (h : k2 c pc 132 (fun b d => Nat.beq b x && decide (Reader.signed 8 d = z)) = true) : decode c pc = .ok (.iinc x z, 3) := by
  obtain ⟨h0, b, d, h1, h2, e⟩ := k2_ h
  rw [Bool.and_eq_true] at e
  have e1 := Nat.eq_of_beq_eq_true e.1
  have e2 := of_decide_eq_true e.2
  subst e1; subst e2
  apply dec_of
  unfold Decoder.instr
  show ((Reader.u1 : Decoder Nat) c pc).bind _ = _
  rw [u1_at h0]
  show ((Reader.u1 : Decoder Nat) c (pc + 1)).bind _ = _
  rw [u1_at h1]
  show ((Reader.s1 : Decoder Int) c (pc + 1 + 1)).bind _ = _
  rw [s1_at h2]
  rfl
