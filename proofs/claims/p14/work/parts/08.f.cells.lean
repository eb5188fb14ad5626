abbrev oX0 (a : Nat) (x0 : Nat) (x1 : Nat) (x2 : Nat) (x3 : Nat) (x4 : Nat) (x5 : Int32) (x6 : Int32) (x7 : Int32) (x8 : Int32) : Nat × va_E := (a, .inr (0, [.ref x0, .ref x1, .ref x2, .ref x3, .ref x4, .int x5, .int x6, .int x7, .int x8]))
abbrev oX2 (a : Nat) (x0 : Nat) (x1 : Nat) (x2 : Nat) (x3 : Int32) : Nat × va_E := (a, .inr (1, [.ref x0, .ref x1, .ref x2, .int x3]))
abbrev oX3 (a : Nat) (x0 : Nat) (x1 : Nat) (x2 : Int32) (x3 : Int32) (x4 : Int32) (x5 : Int32) : Nat × va_E := (a, .inr (2, [.ref x0, .ref x1, .int x2, .int x3, .int x4, .int x5]))
abbrev oX4 (a : Nat) (x0 : Nat) (x1 : Nat) (x2 : Nat) (x3 : Nat) (x4 : Nat) (x5 : Int32) (x6 : Int32) (x7 : Int32) (x8 : Int32) (x9 : Int32) (x10 : Int32) (x11 : Int32) (x12 : Int32) : Nat × va_E := (a, .inr (3, [.ref x0, .ref x1, .ref x2, .ref x3, .ref x4, .int x5, .int x6, .int x7, .int x8, .int x9, .int x10, .int x11, .int x12]))
abbrev oX5 (a : Nat) (x0 : Nat) (x1 : Nat) (x2 : Nat) (x3 : Nat) (x4 : Nat) (x5 : Nat) (x6 : Int32) (x7 : Int32) (x8 : Int32) (x9 : Int32) (x10 : Int32) (x11 : Int32) (x12 : Int32) (x13 : Int32) : Nat × va_E := (a, .inr (4, [.ref x0, .ref x1, .ref x2, .ref x3, .ref x4, .ref x5, .int x6, .int x7, .int x8, .int x9, .int x10, .int x11, .int x12, .int x13]))
abbrev oX6 (a : Nat) (x0 : Nat) (x1 : Nat) (x2 : Nat) : Nat × va_E := (a, .inr (5, [.ref x0, .ref x1, .ref x2]))
abbrev oX7 (a : Nat) (x0 : Nat) (x1 : Nat) (x2 : Int32) (x3 : Int32) : Nat × va_E := (a, .inr (6, [.ref x0, .ref x1, .int x2, .int x3]))
abbrev oX8 (a : Nat) (x0 : Nat) (x1 : Int32) : Nat × va_E := (a, .inr (7, [.ref x0, .int x1]))
abbrev oX9 (a : Nat) (x0 : Nat) (x1 : Nat) (x2 : Nat) (x3 : Int32) (x4 : Int32) (x5 : Int32) : Nat × va_E := (a, .inr (8, [.ref x0, .ref x1, .ref x2, .int x3, .int x4, .int x5]))
abbrev oX10 (a : Nat) (x0 : Nat) (x1 : Nat) (x2 : Nat) (x3 : Nat) (x4 : Nat) (x5 : Nat) (x6 : Nat) (x7 : Nat) (x8 : Nat) (x9 : Int32) : Nat × va_E := (a, .inr (9, [.ref x0, .ref x1, .ref x2, .ref x3, .ref x4, .ref x5, .ref x6, .ref x7, .ref x8, .int x9]))
abbrev oX11 (a : Nat) (x0 : Int32) (x1 : Nat) (x2 : Nat) (x3 : Nat) (x4 : Int32) (x5 : Int32) (x6 : Int32) (x7 : Int32) (x8 : Nat) (x9 : Nat) (x10 : Nat) (x11 : Int32) (x12 : Int32) (x13 : Int32) (x14 : Int32) (x15 : Int32) (x16 : Int32) (x17 : Nat) (x18 : Nat) (x19 : Int32) (x20 : Nat) (x21 : Int32) (x22 : Nat) (x23 : Int32) (x24 : Nat) (x25 : Nat) (x26 : Int32) (x27 : Int32) (x28 : Int32) (x29 : Int32) (x30 : Int32) (x31 : Int32) (x32 : Int32) (x33 : Int32) (x34 : Int32) (x35 : Nat) (x36 : Nat) (x37 : Nat) (x38 : Nat) (x39 : Nat) (x40 : Nat) (x41 : Int32) (x42 : Int32) (x43 : Int32) (x44 : Int32) (x45 : Int32) (x46 : Int32) (x47 : Nat) (x48 : Nat) (x49 : Nat) (x50 : Nat) (x51 : Nat) (x52 : Int32) (x53 : Int32) (x54 : Nat) (x55 : Int32) (x56 : Nat) (x57 : Nat) (x58 : Nat) : Nat × va_E := (a, .inr (10, [.int x0, .ref x1, .ref x2, .ref x3, .int x4, .int x5, .int x6, .int x7, .ref x8, .ref x9, .ref x10, .int x11, .int x12, .int x13, .int x14, .int x15, .int x16, .ref x17, .ref x18, .int x19, .ref x20, .int x21, .ref x22, .int x23, .ref x24, .ref x25, .int x26, .int x27, .int x28, .int x29, .int x30, .int x31, .int x32, .int x33, .int x34, .ref x35, .ref x36, .ref x37, .ref x38, .ref x39, .ref x40, .int x41, .int x42, .int x43, .int x44, .int x45, .int x46, .ref x47, .ref x48, .ref x49, .ref x50, .ref x51, .int x52, .int x53, .ref x54, .int x55, .ref x56, .ref x57, .ref x58]))
abbrev oAI (a : Nat) (c : ClassId) (n : Nat) (f : Nat → Int32) : Nat × va_E := (a, .inl (c, n, .inl f))
abbrev oAJ (a : Nat) (c : ClassId) (n : Nat) (f : Nat → Int64) : Nat × va_E := (a, .inl (c, n, .inr (.inl f)))
abbrev oAM (a : Nat) (c : ClassId) (n : Nat) (g : Nat → Nat) : Nat × va_E := (a, .inl (c, n, .inr (.inr (.inr (.inr (xmf n g))))))
abbrev xPD (D : va_G) (A : Nat → Prop) (ws : va_W) (H : Heap) : Prop := va_P D vwCl ws H ∧ va_D A ws
theorem xfm {ws wc : va_W} {is : List Nat} (h : is.map (fun i => ws[i]?) = wc.map some) : is.filterMap (fun i => ws[i]?) = wc := by
  have e : is.filterMap (fun i => ws[i]?) = (is.map (fun i => ws[i]?)).filterMap id := by
    rw [List.filterMap_map]
    rfl
  rw [e, h, List.filterMap_map]
  exact List.filterMap_some
theorem xpk {A0 : Nat → Prop} {D : va_G} {cl : List vw_C} {ws wc : va_W} {H0 H : Heap} {locs : List Loc} (hP : va_P D cl ws H) (hD : va_D A0 ws) (hS : va_S A0 H0 H locs) (hA : ∀ q, H0.size ≤ q → A0 q) (isC : List Nat) (hn : va_nd isC = true) (hC : isC.map (fun i => ws[i]?) = wc.map some) : va_P D cl wc H ∧ va_D A0 wc ∧ (∀ q, va_A wc H.size q → A0 q) ∧ isC.map (fun i => ws[i]?) = wc.map some :=
  ⟨hP.sub isC (xfm hC), hD.sub isC hn hC, va_free hD hS hA isC hC, hC⟩
theorem xjn {A0 : Nat → Prop} {D : va_G} {cl : List vw_C} {ws wc W : va_W} {H H1 : Heap} (n : Nat) (hP : va_P D cl ws H) (hD : va_D A0 ws) (isC isR : List Nat) (hC : isC.map (fun i => ws[i]?) = wc.map some) (hR : isR.map (fun i => ws[i]?) = (W.take n).map some) (hn : va_nd isR = true) (hdis : ∀ i ∈ isR, i ∉ isC)
    (hk : ∀ q : Nat, q < H.size → ¬ va_A wc H.size q → H1[q]? = H[q]?) (hF : ∀ q, va_A wc H.size q → A0 q) (hP1 : va_P D cl (W.drop n) H1) (hD1 : va_D (va_A wc H.size) (W.drop n)) : va_P D cl W H1 ∧ va_D A0 W := by
  have h := va_join (wr := W.take n) (w1 := W.drop n) hP hD isC isR hC hR hn hdis hk hF hP1 hD1
  rw [List.take_append_drop] at h
  exact h
theorem xsb {A : Nat → Prop} {D : va_G} {ws ws' : va_W} {H : Heap} (hP : va_P D vwCl ws H) (hD : va_D A ws) (is : List Nat) (hn : va_nd is = true) (hs : is.map (fun i => ws[i]?) = ws'.map some) : va_P D vwCl ws' H ∧ va_D A ws' := ⟨hP.sub is (xfm hs), hD.sub is hn hs⟩
theorem xB_of9 {s t : State} {H : Heap} {D : va_G} {tys : List (ClassId × FieldType)} {ws ws' : va_W} {A : Nat → Prop} (ht : t.heap = H) (hW : s.WarmedH t.vm) (hP : va_P D vwCl ws H) (hK : va_K D vwCl tys s) (hD : va_D A ws) (is : List Nat) (hn : va_nd is = true) (hs : is.map (fun i => ws[i]?) = ws'.map some) : xB D tys ws' A t := xB_of ht hW (hP.sub is (xfm hs)) hK (hD.sub is hn hs)
