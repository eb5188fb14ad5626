theorem xex1r {a0 : Type} {p : a0 → Prop} {g : Prop} (k : ∀ x0, p x0 → g) (h : ∃ x0, p x0) : g := by
  obtain ⟨x0, h⟩ := h
  exact k x0 h
theorem xex2r {a0 : Type} {a1 : Type} {p : a0 → a1 → Prop} {g : Prop} (k : ∀ x0 x1, p x0 x1 → g) (h : ∃ x0 x1, p x0 x1) : g := by
  obtain ⟨x0, x1, h⟩ := h
  exact k x0 x1 h
theorem xex3r {a0 : Type} {a1 : Type} {a2 : Type} {p : a0 → a1 → a2 → Prop} {g : Prop} (k : ∀ x0 x1 x2, p x0 x1 x2 → g) (h : ∃ x0 x1 x2, p x0 x1 x2) : g := by
  obtain ⟨x0, x1, x2, h⟩ := h
  exact k x0 x1 x2 h
theorem xex4r {a0 : Type} {a1 : Type} {a2 : Type} {a3 : Type} {p : a0 → a1 → a2 → a3 → Prop} {g : Prop} (k : ∀ x0 x1 x2 x3, p x0 x1 x2 x3 → g) (h : ∃ x0 x1 x2 x3, p x0 x1 x2 x3) : g := by
  obtain ⟨x0, x1, x2, x3, h⟩ := h
  exact k x0 x1 x2 x3 h
theorem xex5r {a0 : Type} {a1 : Type} {a2 : Type} {a3 : Type} {a4 : Type} {p : a0 → a1 → a2 → a3 → a4 → Prop} {g : Prop} (k : ∀ x0 x1 x2 x3 x4, p x0 x1 x2 x3 x4 → g) (h : ∃ x0 x1 x2 x3 x4, p x0 x1 x2 x3 x4) : g := by
  obtain ⟨x0, x1, x2, x3, x4, h⟩ := h
  exact k x0 x1 x2 x3 x4 h
theorem xex6r {a0 : Type} {a1 : Type} {a2 : Type} {a3 : Type} {a4 : Type} {a5 : Type} {p : a0 → a1 → a2 → a3 → a4 → a5 → Prop} {g : Prop} (k : ∀ x0 x1 x2 x3 x4 x5, p x0 x1 x2 x3 x4 x5 → g) (h : ∃ x0 x1 x2 x3 x4 x5, p x0 x1 x2 x3 x4 x5) : g := by
  obtain ⟨x0, x1, x2, x3, x4, x5, h⟩ := h
  exact k x0 x1 x2 x3 x4 x5 h
theorem xex7r {a0 : Type} {a1 : Type} {a2 : Type} {a3 : Type} {a4 : Type} {a5 : Type} {a6 : Type} {p : a0 → a1 → a2 → a3 → a4 → a5 → a6 → Prop} {g : Prop} (k : ∀ x0 x1 x2 x3 x4 x5 x6, p x0 x1 x2 x3 x4 x5 x6 → g) (h : ∃ x0 x1 x2 x3 x4 x5 x6, p x0 x1 x2 x3 x4 x5 x6) : g := by
  obtain ⟨x0, x1, x2, x3, x4, x5, x6, h⟩ := h
  exact k x0 x1 x2 x3 x4 x5 x6 h
theorem xex8r {a0 : Type} {a1 : Type} {a2 : Type} {a3 : Type} {a4 : Type} {a5 : Type} {a6 : Type} {a7 : Type} {p : a0 → a1 → a2 → a3 → a4 → a5 → a6 → a7 → Prop} {g : Prop} (k : ∀ x0 x1 x2 x3 x4 x5 x6 x7, p x0 x1 x2 x3 x4 x5 x6 x7 → g) (h : ∃ x0 x1 x2 x3 x4 x5 x6 x7, p x0 x1 x2 x3 x4 x5 x6 x7) : g := by
  obtain ⟨x0, x1, x2, x3, x4, x5, x6, x7, h⟩ := h
  exact k x0 x1 x2 x3 x4 x5 x6 x7 h
theorem xex9r {a0 : Type} {a1 : Type} {a2 : Type} {a3 : Type} {a4 : Type} {a5 : Type} {a6 : Type} {a7 : Type} {a8 : Type} {p : a0 → a1 → a2 → a3 → a4 → a5 → a6 → a7 → a8 → Prop} {g : Prop} (k : ∀ x0 x1 x2 x3 x4 x5 x6 x7 x8, p x0 x1 x2 x3 x4 x5 x6 x7 x8 → g) (h : ∃ x0 x1 x2 x3 x4 x5 x6 x7 x8, p x0 x1 x2 x3 x4 x5 x6 x7 x8) : g := by
  obtain ⟨x0, x1, x2, x3, x4, x5, x6, x7, x8, h⟩ := h
  exact k x0 x1 x2 x3 x4 x5 x6 x7 x8 h
theorem xex10r {a0 : Type} {a1 : Type} {a2 : Type} {a3 : Type} {a4 : Type} {a5 : Type} {a6 : Type} {a7 : Type} {a8 : Type} {a9 : Type} {p : a0 → a1 → a2 → a3 → a4 → a5 → a6 → a7 → a8 → a9 → Prop} {g : Prop} (k : ∀ x0 x1 x2 x3 x4 x5 x6 x7 x8 x9, p x0 x1 x2 x3 x4 x5 x6 x7 x8 x9 → g) (h : ∃ x0 x1 x2 x3 x4 x5 x6 x7 x8 x9, p x0 x1 x2 x3 x4 x5 x6 x7 x8 x9) : g := by
  obtain ⟨x0, x1, x2, x3, x4, x5, x6, x7, x8, x9, h⟩ := h
  exact k x0 x1 x2 x3 x4 x5 x6 x7 x8 x9 h
theorem xex11r {a0 : Type} {a1 : Type} {a2 : Type} {a3 : Type} {a4 : Type} {a5 : Type} {a6 : Type} {a7 : Type} {a8 : Type} {a9 : Type} {a10 : Type} {p : a0 → a1 → a2 → a3 → a4 → a5 → a6 → a7 → a8 → a9 → a10 → Prop} {g : Prop} (k : ∀ x0 x1 x2 x3 x4 x5 x6 x7 x8 x9 x10, p x0 x1 x2 x3 x4 x5 x6 x7 x8 x9 x10 → g) (h : ∃ x0 x1 x2 x3 x4 x5 x6 x7 x8 x9 x10, p x0 x1 x2 x3 x4 x5 x6 x7 x8 x9 x10) : g := by
  obtain ⟨x0, x1, x2, x3, x4, x5, x6, x7, x8, x9, x10, h⟩ := h
  exact k x0 x1 x2 x3 x4 x5 x6 x7 x8 x9 x10 h
theorem xex12r {a0 : Type} {a1 : Type} {a2 : Type} {a3 : Type} {a4 : Type} {a5 : Type} {a6 : Type} {a7 : Type} {a8 : Type} {a9 : Type} {a10 : Type} {a11 : Type} {p : a0 → a1 → a2 → a3 → a4 → a5 → a6 → a7 → a8 → a9 → a10 → a11 → Prop} {g : Prop} (k : ∀ x0 x1 x2 x3 x4 x5 x6 x7 x8 x9 x10 x11, p x0 x1 x2 x3 x4 x5 x6 x7 x8 x9 x10 x11 → g) (h : ∃ x0 x1 x2 x3 x4 x5 x6 x7 x8 x9 x10 x11, p x0 x1 x2 x3 x4 x5 x6 x7 x8 x9 x10 x11) : g := by
  obtain ⟨x0, x1, x2, x3, x4, x5, x6, x7, x8, x9, x10, x11, h⟩ := h
  exact k x0 x1 x2 x3 x4 x5 x6 x7 x8 x9 x10 x11 h
theorem xex13r {a0 : Type} {a1 : Type} {a2 : Type} {a3 : Type} {a4 : Type} {a5 : Type} {a6 : Type} {a7 : Type} {a8 : Type} {a9 : Type} {a10 : Type} {a11 : Type} {a12 : Type} {p : a0 → a1 → a2 → a3 → a4 → a5 → a6 → a7 → a8 → a9 → a10 → a11 → a12 → Prop} {g : Prop} (k : ∀ x0 x1 x2 x3 x4 x5 x6 x7 x8 x9 x10 x11 x12, p x0 x1 x2 x3 x4 x5 x6 x7 x8 x9 x10 x11 x12 → g) (h : ∃ x0 x1 x2 x3 x4 x5 x6 x7 x8 x9 x10 x11 x12, p x0 x1 x2 x3 x4 x5 x6 x7 x8 x9 x10 x11 x12) : g := by
  obtain ⟨x0, x1, x2, x3, x4, x5, x6, x7, x8, x9, x10, x11, x12, h⟩ := h
  exact k x0 x1 x2 x3 x4 x5 x6 x7 x8 x9 x10 x11 x12 h
theorem xex14r {a0 : Type} {a1 : Type} {a2 : Type} {a3 : Type} {a4 : Type} {a5 : Type} {a6 : Type} {a7 : Type} {a8 : Type} {a9 : Type} {a10 : Type} {a11 : Type} {a12 : Type} {a13 : Type} {p : a0 → a1 → a2 → a3 → a4 → a5 → a6 → a7 → a8 → a9 → a10 → a11 → a12 → a13 → Prop} {g : Prop} (k : ∀ x0 x1 x2 x3 x4 x5 x6 x7 x8 x9 x10 x11 x12 x13, p x0 x1 x2 x3 x4 x5 x6 x7 x8 x9 x10 x11 x12 x13 → g) (h : ∃ x0 x1 x2 x3 x4 x5 x6 x7 x8 x9 x10 x11 x12 x13, p x0 x1 x2 x3 x4 x5 x6 x7 x8 x9 x10 x11 x12 x13) : g := by
  obtain ⟨x0, x1, x2, x3, x4, x5, x6, x7, x8, x9, x10, x11, x12, x13, h⟩ := h
  exact k x0 x1 x2 x3 x4 x5 x6 x7 x8 x9 x10 x11 x12 x13 h
theorem xex15r {a0 : Type} {a1 : Type} {a2 : Type} {a3 : Type} {a4 : Type} {a5 : Type} {a6 : Type} {a7 : Type} {a8 : Type} {a9 : Type} {a10 : Type} {a11 : Type} {a12 : Type} {a13 : Type} {a14 : Type} {p : a0 → a1 → a2 → a3 → a4 → a5 → a6 → a7 → a8 → a9 → a10 → a11 → a12 → a13 → a14 → Prop} {g : Prop} (k : ∀ x0 x1 x2 x3 x4 x5 x6 x7 x8 x9 x10 x11 x12 x13 x14, p x0 x1 x2 x3 x4 x5 x6 x7 x8 x9 x10 x11 x12 x13 x14 → g) (h : ∃ x0 x1 x2 x3 x4 x5 x6 x7 x8 x9 x10 x11 x12 x13 x14, p x0 x1 x2 x3 x4 x5 x6 x7 x8 x9 x10 x11 x12 x13 x14) : g := by
  obtain ⟨x0, x1, x2, x3, x4, x5, x6, x7, x8, x9, x10, x11, x12, x13, x14, h⟩ := h
  exact k x0 x1 x2 x3 x4 x5 x6 x7 x8 x9 x10 x11 x12 x13 x14 h
theorem xex16r {a0 : Type} {a1 : Type} {a2 : Type} {a3 : Type} {a4 : Type} {a5 : Type} {a6 : Type} {a7 : Type} {a8 : Type} {a9 : Type} {a10 : Type} {a11 : Type} {a12 : Type} {a13 : Type} {a14 : Type} {a15 : Type} {p : a0 → a1 → a2 → a3 → a4 → a5 → a6 → a7 → a8 → a9 → a10 → a11 → a12 → a13 → a14 → a15 → Prop} {g : Prop} (k : ∀ x0 x1 x2 x3 x4 x5 x6 x7 x8 x9 x10 x11 x12 x13 x14 x15, p x0 x1 x2 x3 x4 x5 x6 x7 x8 x9 x10 x11 x12 x13 x14 x15 → g) (h : ∃ x0 x1 x2 x3 x4 x5 x6 x7 x8 x9 x10 x11 x12 x13 x14 x15, p x0 x1 x2 x3 x4 x5 x6 x7 x8 x9 x10 x11 x12 x13 x14 x15) : g := by
  obtain ⟨x0, x1, x2, x3, x4, x5, x6, x7, x8, x9, x10, x11, x12, x13, x14, x15, h⟩ := h
  exact k x0 x1 x2 x3 x4 x5 x6 x7 x8 x9 x10 x11 x12 x13 x14 x15 h
theorem xan2r {b0 b1 g : Prop} (k : b0 → b1 → g) (h : b0 ∧ b1) : g := k h.1 h.2
theorem xan3r {b0 b1 b2 g : Prop} (k : b0 → b1 → b2 → g) (h : b0 ∧ b1 ∧ b2) : g := k h.1 h.2.1 h.2.2
theorem xan4r {b0 b1 b2 b3 g : Prop} (k : b0 → b1 → b2 → b3 → g) (h : b0 ∧ b1 ∧ b2 ∧ b3) : g := k h.1 h.2.1 h.2.2.1 h.2.2.2
theorem xan5r {b0 b1 b2 b3 b4 g : Prop} (k : b0 → b1 → b2 → b3 → b4 → g) (h : b0 ∧ b1 ∧ b2 ∧ b3 ∧ b4) : g := k h.1 h.2.1 h.2.2.1 h.2.2.2.1 h.2.2.2.2
theorem xan6r {b0 b1 b2 b3 b4 b5 g : Prop} (k : b0 → b1 → b2 → b3 → b4 → b5 → g) (h : b0 ∧ b1 ∧ b2 ∧ b3 ∧ b4 ∧ b5) : g := k h.1 h.2.1 h.2.2.1 h.2.2.2.1 h.2.2.2.2.1 h.2.2.2.2.2
theorem xan7r {b0 b1 b2 b3 b4 b5 b6 g : Prop} (k : b0 → b1 → b2 → b3 → b4 → b5 → b6 → g) (h : b0 ∧ b1 ∧ b2 ∧ b3 ∧ b4 ∧ b5 ∧ b6) : g := k h.1 h.2.1 h.2.2.1 h.2.2.2.1 h.2.2.2.2.1 h.2.2.2.2.2.1 h.2.2.2.2.2.2
theorem xan8r {b0 b1 b2 b3 b4 b5 b6 b7 g : Prop} (k : b0 → b1 → b2 → b3 → b4 → b5 → b6 → b7 → g) (h : b0 ∧ b1 ∧ b2 ∧ b3 ∧ b4 ∧ b5 ∧ b6 ∧ b7) : g := k h.1 h.2.1 h.2.2.1 h.2.2.2.1 h.2.2.2.2.1 h.2.2.2.2.2.1 h.2.2.2.2.2.2.1 h.2.2.2.2.2.2.2
theorem xpd9 {a b g : Prop} (h : a ∧ b) (k : a → b → g) : g := k h.1 h.2
theorem xht9 {D : va_G} {cl : List vw_C} {ws : va_W} {H H1 : Heap} (h : va_P D cl ws H) (ht : H = H1) : va_P D cl ws H1 := ht ▸ h
