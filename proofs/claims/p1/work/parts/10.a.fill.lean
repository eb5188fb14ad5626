theorem xdef_X0 : ∀ j, j < 9 → defaultValue (tyX0 j) = vp_V [.null, .null, .null, .null, .null, .int 0, .int 0, .int 0, .int 0] j := by decide +kernel
theorem xdef_X2 : ∀ j, j < 4 → defaultValue (tyX2 j) = vp_V [.null, .null, .null, .int 0] j := by decide +kernel
theorem xdef_X3 : ∀ j, j < 6 → defaultValue (tyX3 j) = vp_V [.null, .null, .int 0, .int 0, .int 0, .int 0] j := by decide +kernel
theorem xdef_X4 : ∀ j, j < 13 → defaultValue (tyX4 j) = vp_V [.null, .null, .null, .null, .null, .int 0, .int 0, .int 0, .int 0, .int 0, .int 0, .int 0, .int 0] j := by decide +kernel
theorem xdef_X5 : ∀ j, j < 14 → defaultValue (tyX5 j) = vp_V [.null, .null, .null, .null, .null, .null, .int 0, .int 0, .int 0, .int 0, .int 0, .int 0, .int 0, .int 0] j := by decide +kernel
theorem xdef_X6 : ∀ j, j < 3 → defaultValue (tyX6 j) = vp_V [.null, .null, .null] j := by decide +kernel
theorem xdef_X7 : ∀ j, j < 4 → defaultValue (tyX7 j) = vp_V [.null, .null, .int 0, .int 0] j := by decide +kernel
theorem xdef_X8 : ∀ j, j < 2 → defaultValue (tyX8 j) = vp_V [.null, .int 0] j := by decide +kernel
theorem xdef_X9 : ∀ j, j < 6 → defaultValue (tyX9 j) = vp_V [.null, .null, .null, .int 0, .int 0, .int 0] j := by decide +kernel
theorem xdef_X10 : ∀ j, j < 10 → defaultValue (tyX10 j) = vp_V [.null, .null, .null, .null, .null, .null, .null, .null, .null, .int 0] j := by decide +kernel
theorem xdef_X11 : ∀ j, j < 59 → defaultValue (tyX11 j) = vp_V [.int 0, .null, .null, .null, .int 0, .int 0, .int 0, .int 0, .null, .null, .null, .int 0, .int 0, .int 0, .int 0, .int 0, .int 0, .null, .null, .int 0, .null, .int 0, .null, .int 0, .null, .null, .int 0, .int 0, .int 0, .int 0, .int 0, .int 0, .int 0, .int 0, .int 0, .null, .null, .null, .null, .null, .null, .int 0, .int 0, .int 0, .int 0, .int 0, .int 0, .null, .null, .null, .null, .null, .int 0, .int 0, .null, .int 0, .null, .null, .null] j := by decide +kernel
theorem xs_I : "[" ++ (FieldType.array .int).toString = "[[I" := by decide +kernel
theorem xs_J : "[" ++ (FieldType.array .long).toString = "[[J" := by decide +kernel
abbrev W_fillI (cI cJ cZ cG cH : ClassId) (a0 : Nat) (v : Int32) (N : Nat) (f : Nat → Int32) : va_W := [(a0, .inl (cI, N, .inl f))]
abbrev Q_fillI (D : va_G) (cI cJ cZ cG cH : ClassId) (a0 : Nat) (v : Int32) (N : Nat) (f : Nat → Int32) (A : Nat → Prop) : Array Value → State → Outcome → State → Prop := va_Qv (fun (_ : Unit) => True) (fun _ t => ∃ (g9 : Nat → Int32), (∀ j, j < N → g9 j = v) ∧ xB D (tyL cI cJ cZ cG cH) [(a0, .inl (cI, N, .inl g9))] A t) A
abbrev rm_fillI : Room := { frames := 0, cells := 0, slots := 0, locals := 0 }
set_option maxRecDepth 100000 in
set_option maxHeartbeats 4000000 in
/-- Arrays.fill: every place holds v -/
theorem c_fillI (l : Launch) (D : va_G) (cI cJ cZ cG cH : ClassId) (sz : Nat) (a0 : Nat) (v : Int32) (N : Nat) (f : Nat → Int32) (hN : N < 2 ^ 31) : Met l yJ7_fill_53178 wsJ7_fill_53178 rm_fillI (xPc [.ref a0, .int v] D (tyL cI cJ cZ cG cH) (W_fillI cI cJ cZ cG cH a0 v N f) sz) (Q_fillI D cI cJ cZ cG cH a0 v N f (va_A (W_fillI cI cJ cZ cG cH a0 v N f) sz)) 0 0 (va_A (W_fillI cI cJ cZ cG cH a0 v N f) sz) := by
  refine xMet (cc := cJ7_fill_53178) (maxL := 4) (ret := none) (Qf := Q_fillI D cI cJ cZ cG cH a0 v N f) (by decide) rfl (Nat.le_of_ble_eq_true rfl) ?_
  intro p e s m below meth c ls A hx hb hr hml hts hown hlocks hnm hsz hP hK hD hA hS hl
  have hown : s.vm.findClass RJ7 = some m.cls := hown
  have hP : va_P D vwCl [(a0, .inl (cI, N, .inl f))] s.heap := hP
  have hD : va_D A [(a0, .inl (cI, N, .inl f))] := hD
  have hl : lv_has ls 4 [(0, .ref a0), (1, .int v)] := hl
  refine lv_iconst (v := 0) hx hb dJ7_fill_53178_0 (by decide) ?_
  refine lv_istore_n (lv' := [(2, .int 0), (0, .ref a0), (1, .int v)]) hx hb dJ7_fill_53178_1 rfl hl (by decide) rfl (fun ls hl => ?_)
  refine lv_aload_n hx hb dJ7_fill_53178_2 rfl (lv_at hl 1 rfl) ?_
  refine va_alen (v := nI N) hx hb hK hP 0 0 rfl rfl rfl dJ7_fill_53178_3 ?_
  refine lv_istore_n (lv' := [(3, .int (nI N)), (2, .int 0), (0, .ref a0), (1, .int v)]) hx hb dJ7_fill_53178_4 rfl hl (by decide) rfl (fun ls hl => ?_)
  have hl5 : ∀ (n5 : Nat) (i : Nat) (g : Nat → Int32), (N - i < n5) → (hi : i ≤ N) → (hg : ∀ j, j < i → g j = v) → ∀ (H : Heap) (locs : List Loc), va_P D vwCl [(a0, .inl (cI, N, .inl g))] H → va_D A [(a0, .inl (cI, N, .inl g))] → va_S A s.heap H locs → ∀ (ls : Array Slot), lv_has ls 4 [(3, .int (nI N)), (2, .int (nI i)), (0, .ref a0), (1, .int v)] → W p l e rm_fillI s m [Value.ref a0, Value.int v].toArray below meth c H locs 0 0 (MQ below ((Q_fillI D cI cJ cZ cG cH a0 v N f) A) [Value.ref a0, Value.int v].toArray s 0 0 A) (F0 m 5 ls []) := by
    intro n5
    induction n5 with
    | zero =>
      intro i g hm5
      exact absurd hm5 (Nat.not_lt_zero _)
    | succ n5 ih5 =>
      intro i g hm5 hi hg H locs hP hD hS ls hl
      refine lv_iload_n hx hb dJ7_fill_53178_5 rfl (lv_at hl 1 rfl) ?_
      refine lv_iload_n hx hb dJ7_fill_53178_6 rfl (lv_at hl 0 rfl) ?_
      refine lv_icmp_ge (tgt := 20) hx hb dJ7_fill_53178_7 (by decide) (fun c_1 => ?_) (fun c_1 => ?_)
      · skip
        have i_1 : ((N : Nat) : Int) ≤ ((i : Nat) : Int) := (ile (nI_toInt (by omega)) (nI_toInt (by omega))).mp c_1
        refine W.widen (k := 0) (n := 0) (by decide) (by decide) ?_
        have hP9 := hP.sub (ws' := [(a0, .inl (cI, N, .inl g))]) [0] rfl
        have hD9 := hD.sub (ws' := [(a0, .inl (cI, N, .inl g))]) [0] (by decide) rfl
        exact W.vret hx hb hr (fun t ht hW => ⟨⟨(), rfl, trivial, ⟨g, (fun j hj => hg j (by omega)), xB_of ht hW hP9 hK hD9⟩⟩, hS.F ht⟩) hS.2.2 dJ7_fill_53178_20
      · skip
        have i_1 : ¬ (((N : Nat) : Int) ≤ ((i : Nat) : Int)) := fun h9 => c_1 ((ile (nI_toInt (by omega)) (nI_toInt (by omega))).mpr h9)
        refine lv_aload_n hx hb dJ7_fill_53178_10 rfl (lv_at hl 2 rfl) ?_
        refine lv_iload_n hx hb dJ7_fill_53178_11 rfl (lv_at hl 1 rfl) ?_
        refine lv_iload_n hx hb dJ7_fill_53178_12 rfl (lv_at hl 3 rfl) ?_
        refine va_iast hx hb hK hP hD hS 0 0 rfl rfl (vp_in_nI (by omega) (by omega)) dJ7_fill_53178_13 (fun H locs hP hD hS => ?_)
        obtain ⟨f2, ef2⟩ : ∃ fz9 : Nat → Int32, fz9 = upd g ((nI i) : Int32).toNatClampNeg v := ⟨_, rfl⟩
        have hP : va_P D vwCl [(a0, .inl (cI, N, .inl f2))] H := by rw [ef2]; exact hP
        have hD : va_D A [(a0, .inl (cI, N, .inl f2))] := by rw [ef2]; exact hD
        refine lv_iinc (v := (nI (i + 1))) (lv' := [(2, .int (nI (i + 1))), (3, .int (nI N)), (0, .ref a0), (1, .int v)]) hx hb dJ7_fill_53178_14 hl (k := 1) rfl ((show (nI i) + Int32.ofInt 1 = (nI i) + 1 from rfl).trans (nI_1 _)) (by decide) rfl (fun ls hl => ?_)
        refine lv_goto (tgt := 5) hx hb dJ7_fill_53178_17 (by decide) ?_
        exact ih5 (i + 1) f2 (by omega) (by omega) (fun j hj => by rw [ef2, nI_clamp (by omega)]; unfold upd; split; rfl; exact hg j (by omega)) _ _ hP hD hS ls (lv_sub hl [1, 0, 2, 3] rfl)
  exact hl5 _ 0 f (Nat.lt_succ_self _) (Nat.zero_le _) (fun j h => absurd h (Nat.not_lt_zero j)) _ _ hP hD hS ls (lv_sub hl [0, 1, 2, 3] rfl)
abbrev W_fillJ (cI cJ cZ cG cH : ClassId) (a0 : Nat) (v : Int64) (N : Nat) (f : Nat → Int64) : va_W := [(a0, .inl (cJ, N, .inr (.inl f)))]
abbrev Q_fillJ (D : va_G) (cI cJ cZ cG cH : ClassId) (a0 : Nat) (v : Int64) (N : Nat) (f : Nat → Int64) (A : Nat → Prop) : Array Value → State → Outcome → State → Prop := va_Qv (fun (_ : Unit) => True) (fun _ t => ∃ (g9 : Nat → Int64), (∀ j, j < N → g9 j = v) ∧ xB D (tyL cI cJ cZ cG cH) [(a0, .inl (cJ, N, .inr (.inl g9)))] A t) A
abbrev rm_fillJ : Room := { frames := 0, cells := 0, slots := 0, locals := 0 }
set_option maxRecDepth 100000 in
set_option maxHeartbeats 4000000 in
/-- Arrays.fill: every place holds v -/
theorem c_fillJ (l : Launch) (D : va_G) (cI cJ cZ cG cH : ClassId) (sz : Nat) (a0 : Nat) (v : Int64) (N : Nat) (f : Nat → Int64) (hN : N < 2 ^ 31) : Met l yJ7_fill_d0a16 wsJ7_fill_d0a16 rm_fillJ (xPc [.ref a0, .long v] D (tyL cI cJ cZ cG cH) (W_fillJ cI cJ cZ cG cH a0 v N f) sz) (Q_fillJ D cI cJ cZ cG cH a0 v N f (va_A (W_fillJ cI cJ cZ cG cH a0 v N f) sz)) 0 0 (va_A (W_fillJ cI cJ cZ cG cH a0 v N f) sz) := by
  refine xMet (cc := cJ7_fill_d0a16) (maxL := 5) (ret := none) (Qf := Q_fillJ D cI cJ cZ cG cH a0 v N f) (by decide) rfl (Nat.le_of_ble_eq_true rfl) ?_
  intro p e s m below meth c ls A hx hb hr hml hts hown hlocks hnm hsz hP hK hD hA hS hl
  have hown : s.vm.findClass RJ7 = some m.cls := hown
  have hP : va_P D vwCl [(a0, .inl (cJ, N, .inr (.inl f)))] s.heap := hP
  have hD : va_D A [(a0, .inl (cJ, N, .inr (.inl f)))] := hD
  have hl : lv_has ls 5 [(0, .ref a0), (1, .long v)] := hl
  refine lv_iconst (v := 0) hx hb dJ7_fill_d0a16_0 (by decide) ?_
  refine lv_istore_n (lv' := [(3, .int 0), (0, .ref a0), (1, .long v)]) hx hb dJ7_fill_d0a16_1 rfl hl (by decide) rfl (fun ls hl => ?_)
  refine lv_aload_n hx hb dJ7_fill_d0a16_2 rfl (lv_at hl 1 rfl) ?_
  refine va_alen (v := nI N) hx hb hK hP 0 1 rfl rfl rfl dJ7_fill_d0a16_3 ?_
  refine lv_istore (lv' := [(4, .int (nI N)), (3, .int 0), (0, .ref a0), (1, .long v)]) hx hb dJ7_fill_d0a16_4 hl (by decide) rfl (fun ls hl => ?_)
  have hl6 : ∀ (n6 : Nat) (i : Nat) (g : Nat → Int64), (N - i < n6) → (hi : i ≤ N) → (hg : ∀ j, j < i → g j = v) → ∀ (H : Heap) (locs : List Loc), va_P D vwCl [(a0, .inl (cJ, N, .inr (.inl g)))] H → va_D A [(a0, .inl (cJ, N, .inr (.inl g)))] → va_S A s.heap H locs → ∀ (ls : Array Slot), lv_has ls 5 [(4, .int (nI N)), (3, .int (nI i)), (0, .ref a0), (1, .long v)] → W p l e rm_fillJ s m [Value.ref a0, Value.long v].toArray below meth c H locs 0 0 (MQ below ((Q_fillJ D cI cJ cZ cG cH a0 v N f) A) [Value.ref a0, Value.long v].toArray s 0 0 A) (F0 m 6 ls []) := by
    intro n6
    induction n6 with
    | zero =>
      intro i g hm6
      exact absurd hm6 (Nat.not_lt_zero _)
    | succ n6 ih6 =>
      intro i g hm6 hi hg H locs hP hD hS ls hl
      refine lv_iload_n hx hb dJ7_fill_d0a16_6 rfl (lv_at hl 1 rfl) ?_
      refine lv_iload hx hb dJ7_fill_d0a16_7 (lv_at hl 0 rfl) ?_
      refine lv_icmp_ge (tgt := 22) hx hb dJ7_fill_d0a16_9 (by decide) (fun c_1 => ?_) (fun c_1 => ?_)
      · skip
        have i_1 : ((N : Nat) : Int) ≤ ((i : Nat) : Int) := (ile (nI_toInt (by omega)) (nI_toInt (by omega))).mp c_1
        refine W.widen (k := 0) (n := 0) (by decide) (by decide) ?_
        have hP9 := hP.sub (ws' := [(a0, .inl (cJ, N, .inr (.inl g)))]) [0] rfl
        have hD9 := hD.sub (ws' := [(a0, .inl (cJ, N, .inr (.inl g)))]) [0] (by decide) rfl
        exact W.vret hx hb hr (fun t ht hW => ⟨⟨(), rfl, trivial, ⟨g, (fun j hj => hg j (by omega)), xB_of ht hW hP9 hK hD9⟩⟩, hS.F ht⟩) hS.2.2 dJ7_fill_d0a16_22
      · skip
        have i_1 : ¬ (((N : Nat) : Int) ≤ ((i : Nat) : Int)) := fun h9 => c_1 ((ile (nI_toInt (by omega)) (nI_toInt (by omega))).mpr h9)
        refine lv_aload_n hx hb dJ7_fill_d0a16_12 rfl (lv_at hl 2 rfl) ?_
        refine lv_iload_n hx hb dJ7_fill_d0a16_13 rfl (lv_at hl 1 rfl) ?_
        refine lv_lload_n hx hb dJ7_fill_d0a16_14 rfl (lv_at hl 3 rfl) ?_
        refine va_last hx hb hK hP hD hS 0 1 rfl rfl (vp_in_nI (by omega) (by omega)) dJ7_fill_d0a16_15 (fun H locs hP hD hS => ?_)
        obtain ⟨f2, ef2⟩ : ∃ fz9 : Nat → Int64, fz9 = vp_updL g ((nI i) : Int32).toNatClampNeg v := ⟨_, rfl⟩
        have hP : va_P D vwCl [(a0, .inl (cJ, N, .inr (.inl f2)))] H := by rw [ef2]; exact hP
        have hD : va_D A [(a0, .inl (cJ, N, .inr (.inl f2)))] := by rw [ef2]; exact hD
        refine lv_iinc (v := (nI (i + 1))) (lv' := [(3, .int (nI (i + 1))), (4, .int (nI N)), (0, .ref a0), (1, .long v)]) hx hb dJ7_fill_d0a16_16 hl (k := 1) rfl ((show (nI i) + Int32.ofInt 1 = (nI i) + 1 from rfl).trans (nI_1 _)) (by decide) rfl (fun ls hl => ?_)
        refine lv_goto (tgt := 6) hx hb dJ7_fill_d0a16_19 (by decide) ?_
        exact ih6 (i + 1) f2 (by omega) (by omega) (fun j hj => by rw [ef2, nI_clamp (by omega)]; unfold vp_updL; split; rfl; exact hg j (by omega)) _ _ hP hD hS ls (lv_sub hl [1, 0, 2, 3] rfl)
  exact hl6 _ 0 f (Nat.lt_succ_self _) (Nat.zero_le _) (fun j h => absurd h (Nat.not_lt_zero j)) _ _ hP hD hS ls (lv_sub hl [0, 1, 2, 3] rfl)
