def M_fillI (N : Nat) (v : Int32) (f : Nat → Int32) : Nat → Int32 := fun j => if j < N then v else f j
abbrev W_fillI (cI cJ cZ cG cH : ClassId) (a0 : Nat) (v : Int32) (N : Nat) (f : Nat → Int32) : va_W := [oAI a0 cI N f]
abbrev Q_fillI (D : va_G) (cI cJ cZ cG cH : ClassId) (a0 : Nat) (v : Int32) (N : Nat) (f : Nat → Int32) (A : Nat → Prop) : Array Value → State → Outcome → State → Prop := va_Qv (fun (_ : Unit) => True) (fun _ t => ∃ (g9 : Nat → Int32), (∀ j, j < N → g9 j = v) ∧ (M_fillI N v f = g9) ∧ xB D (tyL cI cJ cZ cG cH) [oAI a0 cI N g9] A t) A
abbrev rm_fillI : Room := { frames := 0, cells := 0, slots := 0, locals := 0 }
set_option maxRecDepth 100000 in
set_option maxHeartbeats 40000000 in
/-- Arrays.fill: every place holds v -/
theorem c_fillI (l : Launch) (D : va_G) (cI cJ cZ cG cH : ClassId) (sz : Nat) (a0 : Nat) (v : Int32) (N : Nat) (f : Nat → Int32) (hN : N < 2 ^ 31) : Met l yJ7_fill_53178 (wt yJ7_fill_53178 cJ7_fill_53178 4 none) rm_fillI (xPc [.ref a0, .int v] D (tyL cI cJ cZ cG cH) (W_fillI cI cJ cZ cG cH a0 v N f) sz) (Q_fillI D cI cJ cZ cG cH a0 v N f (va_A (W_fillI cI cJ cZ cG cH a0 v N f) sz)) 0 0 (va_A (W_fillI cI cJ cZ cG cH a0 v N f) sz) := by
  refine xMet (cc := cJ7_fill_53178) (maxL := 4) (ret := none) (Qf := Q_fillI D cI cJ cZ cG cH a0 v N f) (by decide) rfl (Nat.le_of_ble_eq_true rfl) ?_
  intro p e s m below meth c ls A hx hb hr hml hts hown hlocks hnm hsz hP hK hD hA hS hl
  have hown : s.vm.findClass RJ7 = some m.cls := hown
  have hP : va_P D vwCl [oAI a0 cI N f] s.heap := hP
  have hD : va_D A [oAI a0 cI N f] := hD
  have hl : lv_has ls 4 [(0, .ref a0), (1, .int v)] := hl
  refine lv_iconst (v := 0) hx hb dJ7_fill_53178_0 (by decide) ?_
  refine lv_istore_n (lv' := [(2, .int 0), (0, .ref a0), (1, .int v)]) hx hb dJ7_fill_53178_1 rfl hl (by decide) rfl (fun ls hl => ?_)
  refine lv_aload_n hx hb dJ7_fill_53178_2 rfl (lv_at hl 1 rfl) ?_
  refine va_alen (v := nI N) hx hb hK hP 0 0 rfl rfl rfl dJ7_fill_53178_3 ?_
  refine lv_istore_n (lv' := [(3, .int (nI N)), (2, .int 0), (0, .ref a0), (1, .int v)]) hx hb dJ7_fill_53178_4 rfl hl (by decide) rfl (fun ls hl => ?_)
  have hl5 : ∀ (n5 : Nat) (i : Nat) (g : Nat → Int32), (N - i < n5) → (hi : i ≤ N) → (hg : ∀ j, j < i → g j = v) → (hh : ∀ j, i ≤ j → g j = f j) → ∀ (H : Heap) (locs : List Loc), va_P D vwCl [oAI a0 cI N g] H → va_D A [oAI a0 cI N g] → va_S A s.heap H locs → ∀ (ls : Array Slot), lv_has ls 4 [(3, .int (nI N)), (2, .int (nI i)), (0, .ref a0), (1, .int v)] → W p l e rm_fillI s m [Value.ref a0, Value.int v].toArray below meth c H locs 0 0 (MQ below ((Q_fillI D cI cJ cZ cG cH a0 v N f) A) [Value.ref a0, Value.int v].toArray s 0 0 A) (F0 m 5 ls []) := by
    intro n5
    induction n5 with
    | zero =>
      intro i g hm5
      exact absurd hm5 (Nat.not_lt_zero _)
    | succ n5 ih5 =>
      intro i g hm5 hi hg hh H locs hP hD hS ls hl
      refine lv_iload_n hx hb dJ7_fill_53178_5 rfl (lv_at hl 1 rfl) ?_
      refine lv_iload_n hx hb dJ7_fill_53178_6 rfl (lv_at hl 0 rfl) ?_
      refine lv_icmp_ge (tgt := 20) hx hb dJ7_fill_53178_7 (by decide) (fun c_1 => ?_) (fun c_1 => ?_)
      · skip
        have i_1 : ((N : Nat) : Int) ≤ ((i : Nat) : Int) := (ile (nI_toInt (by omega)) (nI_toInt (by omega))).mp c_1
        refine W.widen (k := 0) (n := 0) (by decide) (by decide) ?_
        exact W.vret hx hb hr (fun t ht hW => ⟨⟨(), rfl, trivial, ⟨g, (fun j hj => hg j (by omega)), (funext fun j => by unfold M_fillI; by_cases q9 : j < N; (rw [if_pos q9]; exact (hg j (by omega)).symm); (rw [if_neg q9]; exact (hh j (by omega)).symm)), xB_of9 ht hW hP hK hD [0] (by decide +kernel) rfl⟩⟩, hS.F ht⟩) hS.2.2 dJ7_fill_53178_20
      · skip
        have i_1 : ¬ (((N : Nat) : Int) ≤ ((i : Nat) : Int)) := fun h9 => c_1 ((ile (nI_toInt (by omega)) (nI_toInt (by omega))).mpr h9)
        refine lv_aload_n hx hb dJ7_fill_53178_10 rfl (lv_at hl 2 rfl) ?_
        refine lv_iload_n hx hb dJ7_fill_53178_11 rfl (lv_at hl 1 rfl) ?_
        refine lv_iload_n hx hb dJ7_fill_53178_12 rfl (lv_at hl 3 rfl) ?_
        refine va_iast hx hb hK hP hD hS 0 0 rfl rfl (vp_in_nI (by omega) (by omega)) dJ7_fill_53178_13 (fun H locs hP hD hS => ?_)
        obtain ⟨f2, ef2⟩ : ∃ fz9 : Nat → Int32, fz9 = upd g ((nI i) : Int32).toNatClampNeg v := ⟨_, rfl⟩
        have hP : va_P D vwCl [oAI a0 cI N f2] H := by rw [ef2]; exact hP
        have hD : va_D A [oAI a0 cI N f2] := by rw [ef2]; exact hD
        refine lv_iinc (v := (nI (i + 1))) (lv' := [(2, .int (nI (i + 1))), (3, .int (nI N)), (0, .ref a0), (1, .int v)]) hx hb dJ7_fill_53178_14 hl (k := 1) rfl ((show (nI i) + Int32.ofInt 1 = (nI i) + 1 from rfl).trans (nI_1 _)) (by decide) rfl (fun ls hl => ?_)
        refine lv_goto (tgt := 5) hx hb dJ7_fill_53178_17 (by decide) ?_
        exact ih5 (i + 1) f2 (by omega) (by omega) (fun j hj => by rw [ef2, nI_clamp (by omega)]; unfold upd; split; rfl; exact hg j (by omega)) (fun j hj => by rw [ef2, nI_clamp (by omega)]; unfold upd; rw [if_neg (by omega)]; exact hh j (by omega)) _ _ hP hD hS ls (lv_sub hl [1, 0, 2, 3] rfl)
  exact hl5 _ 0 f (Nat.lt_succ_self _) (Nat.zero_le _) (fun j h => absurd h (Nat.not_lt_zero j)) (fun j _ => rfl) _ _ hP hD hS ls (lv_sub hl [0, 1, 2, 3] rfl)
def M_fillJ (N : Nat) (v : Int64) (f : Nat → Int64) : Nat → Int64 := fun j => if j < N then v else f j
abbrev W_fillJ (cI cJ cZ cG cH : ClassId) (a0 : Nat) (v : Int64) (N : Nat) (f : Nat → Int64) : va_W := [oAJ a0 cJ N f]
abbrev Q_fillJ (D : va_G) (cI cJ cZ cG cH : ClassId) (a0 : Nat) (v : Int64) (N : Nat) (f : Nat → Int64) (A : Nat → Prop) : Array Value → State → Outcome → State → Prop := va_Qv (fun (_ : Unit) => True) (fun _ t => ∃ (g9 : Nat → Int64), (∀ j, j < N → g9 j = v) ∧ (M_fillJ N v f = g9) ∧ xB D (tyL cI cJ cZ cG cH) [oAJ a0 cJ N g9] A t) A
abbrev rm_fillJ : Room := { frames := 0, cells := 0, slots := 0, locals := 0 }
set_option maxRecDepth 100000 in
set_option maxHeartbeats 40000000 in
/-- Arrays.fill: every place holds v -/
theorem c_fillJ (l : Launch) (D : va_G) (cI cJ cZ cG cH : ClassId) (sz : Nat) (a0 : Nat) (v : Int64) (N : Nat) (f : Nat → Int64) (hN : N < 2 ^ 31) : Met l yJ7_fill_d0a16 (wt yJ7_fill_d0a16 cJ7_fill_d0a16 5 none) rm_fillJ (xPc [.ref a0, .long v] D (tyL cI cJ cZ cG cH) (W_fillJ cI cJ cZ cG cH a0 v N f) sz) (Q_fillJ D cI cJ cZ cG cH a0 v N f (va_A (W_fillJ cI cJ cZ cG cH a0 v N f) sz)) 0 0 (va_A (W_fillJ cI cJ cZ cG cH a0 v N f) sz) := by
  refine xMet (cc := cJ7_fill_d0a16) (maxL := 5) (ret := none) (Qf := Q_fillJ D cI cJ cZ cG cH a0 v N f) (by decide) rfl (Nat.le_of_ble_eq_true rfl) ?_
  intro p e s m below meth c ls A hx hb hr hml hts hown hlocks hnm hsz hP hK hD hA hS hl
  have hown : s.vm.findClass RJ7 = some m.cls := hown
  have hP : va_P D vwCl [oAJ a0 cJ N f] s.heap := hP
  have hD : va_D A [oAJ a0 cJ N f] := hD
  have hl : lv_has ls 5 [(0, .ref a0), (1, .long v)] := hl
  refine lv_iconst (v := 0) hx hb dJ7_fill_d0a16_0 (by decide) ?_
  refine lv_istore_n (lv' := [(3, .int 0), (0, .ref a0), (1, .long v)]) hx hb dJ7_fill_d0a16_1 rfl hl (by decide) rfl (fun ls hl => ?_)
  refine lv_aload_n hx hb dJ7_fill_d0a16_2 rfl (lv_at hl 1 rfl) ?_
  refine va_alen (v := nI N) hx hb hK hP 0 1 rfl rfl rfl dJ7_fill_d0a16_3 ?_
  refine lv_istore (lv' := [(4, .int (nI N)), (3, .int 0), (0, .ref a0), (1, .long v)]) hx hb dJ7_fill_d0a16_4 hl (by decide) rfl (fun ls hl => ?_)
  have hl6 : ∀ (n6 : Nat) (i : Nat) (g : Nat → Int64), (N - i < n6) → (hi : i ≤ N) → (hg : ∀ j, j < i → g j = v) → (hh : ∀ j, i ≤ j → g j = f j) → ∀ (H : Heap) (locs : List Loc), va_P D vwCl [oAJ a0 cJ N g] H → va_D A [oAJ a0 cJ N g] → va_S A s.heap H locs → ∀ (ls : Array Slot), lv_has ls 5 [(4, .int (nI N)), (3, .int (nI i)), (0, .ref a0), (1, .long v)] → W p l e rm_fillJ s m [Value.ref a0, Value.long v].toArray below meth c H locs 0 0 (MQ below ((Q_fillJ D cI cJ cZ cG cH a0 v N f) A) [Value.ref a0, Value.long v].toArray s 0 0 A) (F0 m 6 ls []) := by
    intro n6
    induction n6 with
    | zero =>
      intro i g hm6
      exact absurd hm6 (Nat.not_lt_zero _)
    | succ n6 ih6 =>
      intro i g hm6 hi hg hh H locs hP hD hS ls hl
      refine lv_iload_n hx hb dJ7_fill_d0a16_6 rfl (lv_at hl 1 rfl) ?_
      refine lv_iload hx hb dJ7_fill_d0a16_7 (lv_at hl 0 rfl) ?_
      refine lv_icmp_ge (tgt := 22) hx hb dJ7_fill_d0a16_9 (by decide) (fun c_1 => ?_) (fun c_1 => ?_)
      · skip
        have i_1 : ((N : Nat) : Int) ≤ ((i : Nat) : Int) := (ile (nI_toInt (by omega)) (nI_toInt (by omega))).mp c_1
        refine W.widen (k := 0) (n := 0) (by decide) (by decide) ?_
        exact W.vret hx hb hr (fun t ht hW => ⟨⟨(), rfl, trivial, ⟨g, (fun j hj => hg j (by omega)), (funext fun j => by unfold M_fillJ; by_cases q9 : j < N; (rw [if_pos q9]; exact (hg j (by omega)).symm); (rw [if_neg q9]; exact (hh j (by omega)).symm)), xB_of9 ht hW hP hK hD [0] (by decide +kernel) rfl⟩⟩, hS.F ht⟩) hS.2.2 dJ7_fill_d0a16_22
      · skip
        have i_1 : ¬ (((N : Nat) : Int) ≤ ((i : Nat) : Int)) := fun h9 => c_1 ((ile (nI_toInt (by omega)) (nI_toInt (by omega))).mpr h9)
        refine lv_aload_n hx hb dJ7_fill_d0a16_12 rfl (lv_at hl 2 rfl) ?_
        refine lv_iload_n hx hb dJ7_fill_d0a16_13 rfl (lv_at hl 1 rfl) ?_
        refine lv_lload_n hx hb dJ7_fill_d0a16_14 rfl (lv_at hl 3 rfl) ?_
        refine va_last hx hb hK hP hD hS 0 1 rfl rfl (vp_in_nI (by omega) (by omega)) dJ7_fill_d0a16_15 (fun H locs hP hD hS => ?_)
        obtain ⟨f2, ef2⟩ : ∃ fz9 : Nat → Int64, fz9 = vp_updL g ((nI i) : Int32).toNatClampNeg v := ⟨_, rfl⟩
        have hP : va_P D vwCl [oAJ a0 cJ N f2] H := by rw [ef2]; exact hP
        have hD : va_D A [oAJ a0 cJ N f2] := by rw [ef2]; exact hD
        refine lv_iinc (v := (nI (i + 1))) (lv' := [(3, .int (nI (i + 1))), (4, .int (nI N)), (0, .ref a0), (1, .long v)]) hx hb dJ7_fill_d0a16_16 hl (k := 1) rfl ((show (nI i) + Int32.ofInt 1 = (nI i) + 1 from rfl).trans (nI_1 _)) (by decide) rfl (fun ls hl => ?_)
        refine lv_goto (tgt := 6) hx hb dJ7_fill_d0a16_19 (by decide) ?_
        exact ih6 (i + 1) f2 (by omega) (by omega) (fun j hj => by rw [ef2, nI_clamp (by omega)]; unfold vp_updL; split; rfl; exact hg j (by omega)) (fun j hj => by rw [ef2, nI_clamp (by omega)]; unfold vp_updL; rw [if_neg (by omega)]; exact hh j (by omega)) _ _ hP hD hS ls (lv_sub hl [1, 0, 2, 3] rfl)
  exact hl6 _ 0 f (Nat.lt_succ_self _) (Nat.zero_le _) (fun j h => absurd h (Nat.not_lt_zero j)) (fun j _ => rfl) _ _ hP hD hS ls (lv_sub hl [0, 1, 2, 3] rfl)
def K_bitCount_1 (b0 : Int32) : (Int32) := (((((((((b0 - (((b0.toUInt32 >>> ((1 : Int32).toUInt32 &&& Int32.toUInt32 31)).toInt32) &&& (1431655765 : Int32))) &&& (858993459 : Int32)) + ((((b0 - (((b0.toUInt32 >>> ((1 : Int32).toUInt32 &&& Int32.toUInt32 31)).toInt32) &&& (1431655765 : Int32))).toUInt32 >>> ((2 : Int32).toUInt32 &&& Int32.toUInt32 31)).toInt32) &&& (858993459 : Int32))) + (((((b0 - (((b0.toUInt32 >>> ((1 : Int32).toUInt32 &&& Int32.toUInt32 31)).toInt32) &&& (1431655765 : Int32))) &&& (858993459 : Int32)) + ((((b0 - (((b0.toUInt32 >>> ((1 : Int32).toUInt32 &&& Int32.toUInt32 31)).toInt32) &&& (1431655765 : Int32))).toUInt32 >>> ((2 : Int32).toUInt32 &&& Int32.toUInt32 31)).toInt32) &&& (858993459 : Int32))).toUInt32 >>> ((4 : Int32).toUInt32 &&& Int32.toUInt32 31)).toInt32)) &&& (252645135 : Int32)) + (((((((b0 - (((b0.toUInt32 >>> ((1 : Int32).toUInt32 &&& Int32.toUInt32 31)).toInt32) &&& (1431655765 : Int32))) &&& (858993459 : Int32)) + ((((b0 - (((b0.toUInt32 >>> ((1 : Int32).toUInt32 &&& Int32.toUInt32 31)).toInt32) &&& (1431655765 : Int32))).toUInt32 >>> ((2 : Int32).toUInt32 &&& Int32.toUInt32 31)).toInt32) &&& (858993459 : Int32))) + (((((b0 - (((b0.toUInt32 >>> ((1 : Int32).toUInt32 &&& Int32.toUInt32 31)).toInt32) &&& (1431655765 : Int32))) &&& (858993459 : Int32)) + ((((b0 - (((b0.toUInt32 >>> ((1 : Int32).toUInt32 &&& Int32.toUInt32 31)).toInt32) &&& (1431655765 : Int32))).toUInt32 >>> ((2 : Int32).toUInt32 &&& Int32.toUInt32 31)).toInt32) &&& (858993459 : Int32))).toUInt32 >>> ((4 : Int32).toUInt32 &&& Int32.toUInt32 31)).toInt32)) &&& (252645135 : Int32)).toUInt32 >>> ((8 : Int32).toUInt32 &&& Int32.toUInt32 31)).toInt32)) + ((((((((b0 - (((b0.toUInt32 >>> ((1 : Int32).toUInt32 &&& Int32.toUInt32 31)).toInt32) &&& (1431655765 : Int32))) &&& (858993459 : Int32)) + ((((b0 - (((b0.toUInt32 >>> ((1 : Int32).toUInt32 &&& Int32.toUInt32 31)).toInt32) &&& (1431655765 : Int32))).toUInt32 >>> ((2 : Int32).toUInt32 &&& Int32.toUInt32 31)).toInt32) &&& (858993459 : Int32))) + (((((b0 - (((b0.toUInt32 >>> ((1 : Int32).toUInt32 &&& Int32.toUInt32 31)).toInt32) &&& (1431655765 : Int32))) &&& (858993459 : Int32)) + ((((b0 - (((b0.toUInt32 >>> ((1 : Int32).toUInt32 &&& Int32.toUInt32 31)).toInt32) &&& (1431655765 : Int32))).toUInt32 >>> ((2 : Int32).toUInt32 &&& Int32.toUInt32 31)).toInt32) &&& (858993459 : Int32))).toUInt32 >>> ((4 : Int32).toUInt32 &&& Int32.toUInt32 31)).toInt32)) &&& (252645135 : Int32)) + (((((((b0 - (((b0.toUInt32 >>> ((1 : Int32).toUInt32 &&& Int32.toUInt32 31)).toInt32) &&& (1431655765 : Int32))) &&& (858993459 : Int32)) + ((((b0 - (((b0.toUInt32 >>> ((1 : Int32).toUInt32 &&& Int32.toUInt32 31)).toInt32) &&& (1431655765 : Int32))).toUInt32 >>> ((2 : Int32).toUInt32 &&& Int32.toUInt32 31)).toInt32) &&& (858993459 : Int32))) + (((((b0 - (((b0.toUInt32 >>> ((1 : Int32).toUInt32 &&& Int32.toUInt32 31)).toInt32) &&& (1431655765 : Int32))) &&& (858993459 : Int32)) + ((((b0 - (((b0.toUInt32 >>> ((1 : Int32).toUInt32 &&& Int32.toUInt32 31)).toInt32) &&& (1431655765 : Int32))).toUInt32 >>> ((2 : Int32).toUInt32 &&& Int32.toUInt32 31)).toInt32) &&& (858993459 : Int32))).toUInt32 >>> ((4 : Int32).toUInt32 &&& Int32.toUInt32 31)).toInt32)) &&& (252645135 : Int32)).toUInt32 >>> ((8 : Int32).toUInt32 &&& Int32.toUInt32 31)).toInt32)).toUInt32 >>> ((16 : Int32).toUInt32 &&& Int32.toUInt32 31)).toInt32)) &&& (63 : Int32)))
def M_bitCount (b0 : Int32) : (Int32) := (K_bitCount_1 b0)
abbrev W_bitCount (cI cJ cZ cG cH : ClassId) (b0 : Int32) : va_W := []
abbrev Q_bitCount (D : va_G) (cI cJ cZ cG cH : ClassId) (b0 : Int32) (A : Nat → Prop) : Array Value → State → Outcome → State → Prop := va_Qi (fun (r : Int32) (u9 : Int32) => r = u9 ∧ (0 ≤ r.toInt ∧ r.toInt ≤ 63)) (fun u9 t => (M_bitCount b0 = (u9)) ∧ xB D (tyL cI cJ cZ cG cH) [] A t) A
abbrev rm_bitCount : Room := { frames := 0, cells := 0, slots := 0, locals := 0 }
set_option maxRecDepth 100000 in
set_option maxHeartbeats 40000000 in
theorem c_bitCount (l : Launch) (D : va_G) (cI cJ cZ cG cH : ClassId) (sz : Nat) (b0 : Int32) : Met l yJ6_bitCount_0f7a4 (wt yJ6_bitCount_0f7a4 cJ6_bitCount_0f7a4 1 (some .int)) rm_bitCount (xPc [.int b0] D (tyL cI cJ cZ cG cH) (W_bitCount cI cJ cZ cG cH b0) sz) (Q_bitCount D cI cJ cZ cG cH b0 (va_A (W_bitCount cI cJ cZ cG cH b0) sz)) 0 0 (va_A (W_bitCount cI cJ cZ cG cH b0) sz) := by
  refine xMet (cc := cJ6_bitCount_0f7a4) (maxL := 1) (ret := (some .int)) (Qf := Q_bitCount D cI cJ cZ cG cH b0) (by decide) rfl (Nat.le_of_ble_eq_true rfl) ?_
  intro p e s m below meth c ls A hx hb hr hml hts hown hlocks hnm hsz hP hK hD hA hS hl
  have hown : s.vm.findClass RJ6 = some m.cls := hown
  have hP : va_P D vwCl [] s.heap := hP
  have hD : va_D A [] := hD
  have hl : lv_has ls 1 [(0, .int b0)] := hl
  have hM : M_bitCount b0 = (K_bitCount_1 b0) := rfl
  refine lv_iload_n hx hb dJ6_bitCount_0f7a4_0 rfl (lv_at hl 0 rfl) ?_
  refine lv_iload_n hx hb dJ6_bitCount_0f7a4_1 rfl (lv_at hl 0 rfl) ?_
  refine lv_iconst (v := 1) hx hb dJ6_bitCount_0f7a4_2 (by decide) ?_
  obtain ⟨v1, ev1⟩ : ∃ z : Int32, ((b0 : Int32).toUInt32 >>> ((1 : Int32).toUInt32 &&& Int32.toUInt32 31)).toInt32 = z := ⟨_, rfl⟩
  refine lv_iushr hx hb dJ6_bitCount_0f7a4_3 ev1 ?_
  refine lv_ldcw (v := 1431655765) hx hb hown (hts (.constant RJ6 265 (1431655765)) (tbC _ wd622)) dJ6_bitCount_0f7a4_4 ?_
  refine lv_iand hx hb dJ6_bitCount_0f7a4_7 ?_
  refine lv_topi (fun v2 ev2 => ?_)
  have rv2 : 0 ≤ v2.toInt ∧ v2.toInt ≤ 1431655765 := xandL ev2 (show (1431655765 : Int32).toInt = 1431655765 from (by decide)) (by omega)
  refine lv_isub hx hb dJ6_bitCount_0f7a4_8 ?_
  refine lv_topi (fun v3 ev3 => ?_)
  refine lv_istore_n (lv' := [(0, .int v3)]) hx hb dJ6_bitCount_0f7a4_9 rfl hl (by decide) rfl (fun ls hl => ?_)
  refine lv_iload_n hx hb dJ6_bitCount_0f7a4_10 rfl (lv_at hl 0 rfl) ?_
  refine lv_ldcw (v := 858993459) hx hb hown (hts (.constant RJ6 266 (858993459)) (tbC _ wd623)) dJ6_bitCount_0f7a4_11 ?_
  refine lv_iand hx hb dJ6_bitCount_0f7a4_14 ?_
  refine lv_topi (fun v4 ev4 => ?_)
  have rv4 : 0 ≤ v4.toInt ∧ v4.toInt ≤ 858993459 := xandL ev4 (show (858993459 : Int32).toInt = 858993459 from (by decide)) (by omega)
  refine lv_iload_n hx hb dJ6_bitCount_0f7a4_15 rfl (lv_at hl 0 rfl) ?_
  refine lv_iconst (v := 2) hx hb dJ6_bitCount_0f7a4_16 (by decide) ?_
  obtain ⟨v5, ev5⟩ : ∃ z : Int32, ((v3 : Int32).toUInt32 >>> ((2 : Int32).toUInt32 &&& Int32.toUInt32 31)).toInt32 = z := ⟨_, rfl⟩
  refine lv_iushr hx hb dJ6_bitCount_0f7a4_17 ev5 ?_
  refine lv_ldcw (v := 858993459) hx hb hown (hts (.constant RJ6 266 (858993459)) (tbC _ wd623)) dJ6_bitCount_0f7a4_18 ?_
  refine lv_iand hx hb dJ6_bitCount_0f7a4_21 ?_
  refine lv_topi (fun v6 ev6 => ?_)
  have rv6 : 0 ≤ v6.toInt ∧ v6.toInt ≤ 858993459 := xandL ev6 (show (858993459 : Int32).toInt = 858993459 from (by decide)) (by omega)
  refine lv_iadd hx hb dJ6_bitCount_0f7a4_22 ?_
  refine lv_topi (fun v7 ev7 => ?_)
  have tv7 : v7.toInt = (v4.toInt + v6.toInt) := (congrArg Int32.toInt ev7).trans (xadd rfl rfl (by omega) (by omega))
  refine lv_istore_n (lv' := [(0, .int v7)]) hx hb dJ6_bitCount_0f7a4_23 rfl hl (by decide) rfl (fun ls hl => ?_)
  refine lv_iload_n hx hb dJ6_bitCount_0f7a4_24 rfl (lv_at hl 0 rfl) ?_
  refine lv_iload_n hx hb dJ6_bitCount_0f7a4_25 rfl (lv_at hl 0 rfl) ?_
  refine lv_iconst (v := 4) hx hb dJ6_bitCount_0f7a4_26 (by decide) ?_
  obtain ⟨v8, ev8⟩ : ∃ z : Int32, ((v7 : Int32).toUInt32 >>> ((4 : Int32).toUInt32 &&& Int32.toUInt32 31)).toInt32 = z := ⟨_, rfl⟩
  refine lv_iushr hx hb dJ6_bitCount_0f7a4_27 ev8 ?_
  refine lv_iadd hx hb dJ6_bitCount_0f7a4_28 ?_
  refine lv_topi (fun v9 ev9 => ?_)
  refine lv_ldcw (v := 252645135) hx hb hown (hts (.constant RJ6 267 (252645135)) (tbC _ wd624)) dJ6_bitCount_0f7a4_29 ?_
  refine lv_iand hx hb dJ6_bitCount_0f7a4_32 ?_
  refine lv_topi (fun v10 ev10 => ?_)
  have rv10 : 0 ≤ v10.toInt ∧ v10.toInt ≤ 252645135 := xandL ev10 (show (252645135 : Int32).toInt = 252645135 from (by decide)) (by omega)
  refine lv_istore_n (lv' := [(0, .int v10)]) hx hb dJ6_bitCount_0f7a4_33 rfl hl (by decide) rfl (fun ls hl => ?_)
  refine lv_iload_n hx hb dJ6_bitCount_0f7a4_34 rfl (lv_at hl 0 rfl) ?_
  refine lv_iload_n hx hb dJ6_bitCount_0f7a4_35 rfl (lv_at hl 0 rfl) ?_
  refine lv_bipush (v := 8) hx hb dJ6_bitCount_0f7a4_36 (by decide) ?_
  obtain ⟨v11, ev11⟩ : ∃ z : Int32, ((v10 : Int32).toUInt32 >>> ((8 : Int32).toUInt32 &&& Int32.toUInt32 31)).toInt32 = z := ⟨_, rfl⟩
  refine lv_iushr hx hb dJ6_bitCount_0f7a4_38 ev11 ?_
  refine lv_iadd hx hb dJ6_bitCount_0f7a4_39 ?_
  refine lv_topi (fun v12 ev12 => ?_)
  refine lv_istore_n (lv' := [(0, .int v12)]) hx hb dJ6_bitCount_0f7a4_40 rfl hl (by decide) rfl (fun ls hl => ?_)
  refine lv_iload_n hx hb dJ6_bitCount_0f7a4_41 rfl (lv_at hl 0 rfl) ?_
  refine lv_iload_n hx hb dJ6_bitCount_0f7a4_42 rfl (lv_at hl 0 rfl) ?_
  refine lv_bipush (v := 16) hx hb dJ6_bitCount_0f7a4_43 (by decide) ?_
  obtain ⟨v13, ev13⟩ : ∃ z : Int32, ((v12 : Int32).toUInt32 >>> ((16 : Int32).toUInt32 &&& Int32.toUInt32 31)).toInt32 = z := ⟨_, rfl⟩
  refine lv_iushr hx hb dJ6_bitCount_0f7a4_45 ev13 ?_
  refine lv_iadd hx hb dJ6_bitCount_0f7a4_46 ?_
  refine lv_topi (fun v14 ev14 => ?_)
  refine lv_istore_n (lv' := [(0, .int v14)]) hx hb dJ6_bitCount_0f7a4_47 rfl hl (by decide) rfl (fun ls hl => ?_)
  refine lv_iload_n hx hb dJ6_bitCount_0f7a4_48 rfl (lv_at hl 0 rfl) ?_
  refine lv_bipush (v := 63) hx hb dJ6_bitCount_0f7a4_49 (by decide) ?_
  refine lv_iand hx hb dJ6_bitCount_0f7a4_51 ?_
  refine lv_topi (fun v15 ev15 => ?_)
  have rv15 : 0 ≤ v15.toInt ∧ v15.toInt ≤ 63 := xandL ev15 (show (63 : Int32).toInt = 63 from (by decide)) (by omega)
  refine W.widen (k := 0) (n := 0) (by decide) (by decide) ?_
  exact W.iret (v := v15) hx hb hr (fun t ht hW => ⟨⟨v15, v15, rfl, ⟨rfl, (xrng rfl (by omega) (by omega))⟩, ⟨(by rw [ev15, ev14, ← ev13, ev12, ← ev11, ev10, ev9, ← ev8, ev7, ev6, ← ev5, ev4, ev3, ev2, ← ev1]; exact hM), xB_of9 ht hW hP hK hD [] (by decide +kernel) rfl⟩⟩, hS.F ht⟩) hS.2.2 dJ6_bitCount_0f7a4_52
