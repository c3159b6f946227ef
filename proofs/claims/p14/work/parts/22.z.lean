/-! opening many at once -/
theorem ex1 {a0 : Type} {P : a0 → Prop} {G : Prop} (h : ∃ (x0 : a0), P x0) (k : ∀ (x0 : a0), P x0 → G) : G := by
  obtain ⟨x0, h⟩ := h
  exact k x0 h
theorem ex2 {a0 a1 : Type} {P : a0 → a1 → Prop} {G : Prop} (h : ∃ (x0 : a0) (x1 : a1), P x0 x1) (k : ∀ (x0 : a0) (x1 : a1), P x0 x1 → G) : G := by
  obtain ⟨x0, x1, h⟩ := h
  exact k x0 x1 h
theorem ex3 {a0 a1 a2 : Type} {P : a0 → a1 → a2 → Prop} {G : Prop} (h : ∃ (x0 : a0) (x1 : a1) (x2 : a2), P x0 x1 x2) (k : ∀ (x0 : a0) (x1 : a1) (x2 : a2), P x0 x1 x2 → G) : G := by
  obtain ⟨x0, x1, x2, h⟩ := h
  exact k x0 x1 x2 h
theorem ex4 {a0 a1 a2 a3 : Type} {P : a0 → a1 → a2 → a3 → Prop} {G : Prop} (h : ∃ (x0 : a0) (x1 : a1) (x2 : a2) (x3 : a3), P x0 x1 x2 x3) (k : ∀ (x0 : a0) (x1 : a1) (x2 : a2) (x3 : a3), P x0 x1 x2 x3 → G) : G := by
  obtain ⟨x0, x1, x2, x3, h⟩ := h
  exact k x0 x1 x2 x3 h
theorem ex5 {a0 a1 a2 a3 a4 : Type} {P : a0 → a1 → a2 → a3 → a4 → Prop} {G : Prop} (h : ∃ (x0 : a0) (x1 : a1) (x2 : a2) (x3 : a3) (x4 : a4), P x0 x1 x2 x3 x4) (k : ∀ (x0 : a0) (x1 : a1) (x2 : a2) (x3 : a3) (x4 : a4), P x0 x1 x2 x3 x4 → G) : G := by
  obtain ⟨x0, x1, x2, x3, x4, h⟩ := h
  exact k x0 x1 x2 x3 x4 h
theorem ex6 {a0 a1 a2 a3 a4 a5 : Type} {P : a0 → a1 → a2 → a3 → a4 → a5 → Prop} {G : Prop} (h : ∃ (x0 : a0) (x1 : a1) (x2 : a2) (x3 : a3) (x4 : a4) (x5 : a5), P x0 x1 x2 x3 x4 x5) (k : ∀ (x0 : a0) (x1 : a1) (x2 : a2) (x3 : a3) (x4 : a4) (x5 : a5), P x0 x1 x2 x3 x4 x5 → G) : G := by
  obtain ⟨x0, x1, x2, x3, x4, x5, h⟩ := h
  exact k x0 x1 x2 x3 x4 x5 h
theorem ex7 {a0 a1 a2 a3 a4 a5 a6 : Type} {P : a0 → a1 → a2 → a3 → a4 → a5 → a6 → Prop} {G : Prop} (h : ∃ (x0 : a0) (x1 : a1) (x2 : a2) (x3 : a3) (x4 : a4) (x5 : a5) (x6 : a6), P x0 x1 x2 x3 x4 x5 x6) (k : ∀ (x0 : a0) (x1 : a1) (x2 : a2) (x3 : a3) (x4 : a4) (x5 : a5) (x6 : a6), P x0 x1 x2 x3 x4 x5 x6 → G) : G := by
  obtain ⟨x0, x1, x2, x3, x4, x5, x6, h⟩ := h
  exact k x0 x1 x2 x3 x4 x5 x6 h
theorem ex8 {a0 a1 a2 a3 a4 a5 a6 a7 : Type} {P : a0 → a1 → a2 → a3 → a4 → a5 → a6 → a7 → Prop} {G : Prop} (h : ∃ (x0 : a0) (x1 : a1) (x2 : a2) (x3 : a3) (x4 : a4) (x5 : a5) (x6 : a6) (x7 : a7), P x0 x1 x2 x3 x4 x5 x6 x7) (k : ∀ (x0 : a0) (x1 : a1) (x2 : a2) (x3 : a3) (x4 : a4) (x5 : a5) (x6 : a6) (x7 : a7), P x0 x1 x2 x3 x4 x5 x6 x7 → G) : G := by
  obtain ⟨x0, x1, x2, x3, x4, x5, x6, x7, h⟩ := h
  exact k x0 x1 x2 x3 x4 x5 x6 x7 h
theorem an1 {p0 Q : Prop} {G : Prop} (h : p0 ∧ Q) (k : p0 → Q → G) : G := by
  obtain ⟨h0, h⟩ := h
  exact k h0 h
theorem an2 {p0 p1 Q : Prop} {G : Prop} (h : p0 ∧ p1 ∧ Q) (k : p0 → p1 → Q → G) : G := by
  obtain ⟨h0, h1, h⟩ := h
  exact k h0 h1 h
theorem an3 {p0 p1 p2 Q : Prop} {G : Prop} (h : p0 ∧ p1 ∧ p2 ∧ Q) (k : p0 → p1 → p2 → Q → G) : G := by
  obtain ⟨h0, h1, h2, h⟩ := h
  exact k h0 h1 h2 h
theorem an4 {p0 p1 p2 p3 Q : Prop} {G : Prop} (h : p0 ∧ p1 ∧ p2 ∧ p3 ∧ Q) (k : p0 → p1 → p2 → p3 → Q → G) : G := by
  obtain ⟨h0, h1, h2, h3, h⟩ := h
  exact k h0 h1 h2 h3 h
theorem an5 {p0 p1 p2 p3 p4 Q : Prop} {G : Prop} (h : p0 ∧ p1 ∧ p2 ∧ p3 ∧ p4 ∧ Q) (k : p0 → p1 → p2 → p3 → p4 → Q → G) : G := by
  obtain ⟨h0, h1, h2, h3, h4, h⟩ := h
  exact k h0 h1 h2 h3 h4 h
theorem an6 {p0 p1 p2 p3 p4 p5 Q : Prop} {G : Prop} (h : p0 ∧ p1 ∧ p2 ∧ p3 ∧ p4 ∧ p5 ∧ Q) (k : p0 → p1 → p2 → p3 → p4 → p5 → Q → G) : G := by
  obtain ⟨h0, h1, h2, h3, h4, h5, h⟩ := h
  exact k h0 h1 h2 h3 h4 h5 h
theorem an7 {p0 p1 p2 p3 p4 p5 p6 Q : Prop} {G : Prop} (h : p0 ∧ p1 ∧ p2 ∧ p3 ∧ p4 ∧ p5 ∧ p6 ∧ Q) (k : p0 → p1 → p2 → p3 → p4 → p5 → p6 → Q → G) : G := by
  obtain ⟨h0, h1, h2, h3, h4, h5, h6, h⟩ := h
  exact k h0 h1 h2 h3 h4 h5 h6 h
theorem an8 {p0 p1 p2 p3 p4 p5 p6 p7 Q : Prop} {G : Prop} (h : p0 ∧ p1 ∧ p2 ∧ p3 ∧ p4 ∧ p5 ∧ p6 ∧ p7 ∧ Q) (k : p0 → p1 → p2 → p3 → p4 → p5 → p6 → p7 → Q → G) : G := by
  obtain ⟨h0, h1, h2, h3, h4, h5, h6, h7, h⟩ := h
  exact k h0 h1 h2 h3 h4 h5 h6 h7 h
