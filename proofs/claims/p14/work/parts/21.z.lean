/-- a list of places has no double: by one mask -/
def ndm : Nat → List Nat → Bool
  | _, [] => true
  | m, a :: l => !(m.testBit a) && ndm (m ||| 2 ^ a) l
def mkm : List Nat → Nat
  | [] => 0
  | a :: l => 2 ^ a ||| mkm l
theorem ndm_nd : ∀ (l : List Nat) (m : Nat), ndm m l = true → va_nd l = true ∧ ∀ a ∈ l, m.testBit a = false
  | [], _, _ => ⟨rfl, fun a h => by cases h⟩
  | a :: l, m, h => by
    have h0 : (!(m.testBit a) && ndm (m ||| 2 ^ a) l) = true := h
    rw [Bool.and_eq_true] at h0
    obtain ⟨h3, h4⟩ := ndm_nd l (m ||| 2 ^ a) h0.2
    have h5 : ∀ b ∈ l, m.testBit b = false ∧ b ≠ a := fun b hb => by
      have h6 := h4 b hb
      rw [Nat.testBit_or, Bool.or_eq_false_iff] at h6
      refine ⟨h6.1, fun e => ?_⟩
      rw [e, Nat.testBit_two_pow_self] at h6
      exact absurd h6.2 (by decide)
    refine ⟨?_, fun b hb => ?_⟩
    · show (decide (a ∉ l) && va_nd l) = true
      rw [h3, Bool.and_true]; exact decide_eq_true (fun hm => (h5 a hm).2 rfl)
    · rcases List.mem_cons.mp hb with hb | hb
      · rw [hb]
        cases q : m.testBit a with
        | false => rfl
        | true => rw [q] at h0; exact absurd h0.1 (by decide)
      · exact (h5 b hb).1
theorem ndk {l : List Nat} (h : ndm 0 l = true) : va_nd l = true := (ndm_nd l 0 h).1
theorem mkm_b : ∀ (l : List Nat) (j : Nat), j ∈ l → (mkm l).testBit j = true
  | a :: l, j, h => by
    show (2 ^ a ||| mkm l).testBit j = true
    rw [Nat.testBit_or]
    rcases List.mem_cons.mp h with h | h
    · rw [h, Nat.testBit_two_pow_self, Bool.true_or]
    · rw [mkm_b l j h, Bool.or_true]
theorem plk {isC isR : List Nat} (h : (ndm 0 isC && ndm (mkm isC) isR) = true) : plOk isC isR = true := by
  rw [Bool.and_eq_true] at h
  have h1 := (ndm_nd isC 0 h.1).1
  have h2 := ndm_nd isR (mkm isC) h.2
  unfold plOk
  rw [h1, h2.1, Bool.true_and, Bool.true_and, List.all_eq_true]
  intro i hi
  rw [List.all_eq_true]
  intro j hj
  have h3 := h2.2 i hi
  have h4 := mkm_b isC j hj
  cases q : Nat.beq i j with
  | false => rfl
  | true => rw [Nat.eq_of_beq_eq_true q] at h3; rw [h4] at h3; cases h3
/-- what stands at the places, in one walk where they go up -/
def gq (ws : va_W) : Nat → List Nat → va_W → List (Option (Nat × va_E))
  | _, [], _ => []
  | c, i :: is, r =>
    match (bif Nat.ble c i then r.drop (i - c) else ws.drop i) with
    | [] => none :: gq ws (i + 1) is []
    | x :: r' => some x :: gq ws (i + 1) is r'
theorem gq_map (ws : va_W) : ∀ (is : List Nat) (c : Nat) (r : va_W), r = ws.drop c → gq ws c is r = is.map (fun i => ws[i]?)
  | [], _, _, _ => rfl
  | i :: is, c, r, h => by
    have h1 : (bif Nat.ble c i then r.drop (i - c) else ws.drop i) = ws.drop i := by
      cases q : Nat.ble c i with
      | false => rfl
      | true => show r.drop (i - c) = ws.drop i; rw [h, List.drop_drop, Nat.add_sub_cancel' (Nat.le_of_ble_eq_true q)]
    unfold gq
    rw [h1, List.map_cons, ← List.head?_drop]
    cases q : ws.drop i with
    | nil =>
      show none :: gq ws (i + 1) is [] = none :: is.map (fun i => ws[i]?)
      rw [gq_map ws is (i + 1) [] (by rw [← List.drop_drop, q]; rfl)]
    | cons x r' =>
      show some x :: gq ws (i + 1) is r' = some x :: is.map (fun i => ws[i]?)
      rw [gq_map ws is (i + 1) r' (by rw [← List.drop_drop, q]; rfl)]
theorem gqk {is : List Nat} {ws wc : va_W} (h : gq ws 0 is ws = wc.map some) : is.map (fun i => ws[i]?) = wc.map some := (gq_map ws is 0 ws rfl).symm.trans h
