/-! new T[n][m] of numbers: the machine's step, and the row over explicit cells -/
def xmIn (c : ClassId) (M : Nat) (v : Value) : Cell := arrV c M (fun _ => v)
def xmOut (c : ClassId) (N h i : Nat) : Cell := arrV c N (fun j => va_rf (if j < i then some (h + 1 + j) else none))
theorem xmOut_step (c : ClassId) (N h i : Nat) : (xmOut c N h i).setSlot i (.ref (h + 1 + i)) = xmOut c N h (i + 1) := by
  unfold xmOut
  rw [arrV_store]
  refine congrArg (arrV c N) (funext fun j => ?_)
  unfold updV
  by_cases e1 : j = i
  · subst e1
    simp [va_rf]
  · by_cases e2 : j < i
    · have e3 : j < i + 1 := by omega
      simp [e1, e2, e3]
    · have e3 : ¬ j < i + 1 := by omega
      simp [e1, e2, e3]
theorem xmOut_zero (c : ClassId) (N h : Nat) : ({ cls := c, slots := Array.replicate N .null, vm := .none } : Cell) = xmOut c N h 0 := by
  rw [arrV_new]
  refine congrArg (arrV c N) (funext fun j => ?_)
  simp [va_rf]
def xmSt (s : State) (c d : ClassId) (N M : Nat) (v : Value) : Nat → State
  | 0 => s.pushCell (xmOut c N s.heap.size 0)
  | i + 1 => ((xmSt s c d N M v i).pushCell (xmIn d M v)).setCell s.heap.size (xmOut c N s.heap.size (i + 1))
theorem xmSt_facts (s : State) (c d : ClassId) (N M : Nat) (v : Value) : ∀ i : Nat, (xmSt s c d N M v i).heap.size = s.heap.size + 1 + i ∧ (xmSt s c d N M v i).heap[s.heap.size]? = some (xmOut c N s.heap.size i) ∧ (xmSt s c d N M v i).vm = s.vm ∧ (xmSt s c d N M v i).slotsUsed = s.slotsUsed + N + i * M ∧
    (∀ a : Nat, a < s.heap.size → (xmSt s c d N M v i).heap[a]? = s.heap[a]?) ∧ ∀ j : Nat, j < i → (xmSt s c d N M v i).heap[s.heap.size + 1 + j]? = some (xmIn d M v) := by
  intro i
  induction i with
  | zero =>
    refine ⟨by simp [xmSt], by simp [xmSt], rfl, by simp [xmSt, xmOut, arrV_size], fun a ha => State.heap_pushCell_of_lt _ _ ha, fun j hj => absurd hj (Nat.not_lt_zero j)⟩
  | succ i ih =>
    obtain ⟨h1, h2, h3, h4, h5, h6⟩ := ih
    have hlt : s.heap.size < (xmSt s c d N M v i).heap.size := by omega
    have hc : ((xmSt s c d N M v i).pushCell (xmIn d M v)).heap[s.heap.size]? = some (xmOut c N s.heap.size i) := by
      rw [State.heap_pushCell_of_lt (h := hlt)]
      exact h2
    refine ⟨?_, State.heap_setCell_self hc, by simp [xmSt, h3], ?_, fun a ha => ?_, fun j hj => ?_⟩
    · simp [xmSt, State.setCell, h1]
      omega
    · simp [xmSt, h4, xmIn, arrV_size, Nat.succ_mul]
      omega
    · show (((xmSt s c d N M v i).pushCell (xmIn d M v)).setCell s.heap.size _).heap[a]? = _
      have hla : a < (xmSt s c d N M v i).heap.size := by omega
      rw [State.heap_setCell_other (Nat.ne_of_gt ha), State.heap_pushCell_of_lt (h := hla)]
      exact h5 a ha
    · show (((xmSt s c d N M v i).pushCell (xmIn d M v)).setCell s.heap.size _).heap[s.heap.size + 1 + j]? = _
      have hne : s.heap.size ≠ s.heap.size + 1 + j := by omega
      rw [State.heap_setCell_other hne]
      rcases Nat.lt_or_ge j i with q | q
      · have hlj : s.heap.size + 1 + j < (xmSt s c d N M v i).heap.size := by omega
        rw [State.heap_pushCell_of_lt (h := hlj)]
        exact h6 j q
      · rw [show s.heap.size + 1 + j = (xmSt s c d N M v i).heap.size by omega]
        exact State.heap_pushCell_size _ _
theorem xmSt_top (s : State) (f : JFrame) (c d : ClassId) (N M : Nat) (v : Value) : ∀ i : Nat, xmSt (s.setTop f) c d N M v i = (xmSt s c d N M v i).setTop f := by
  intro i
  induction i with
  | zero => rfl
  | succ i ih => simp only [xmSt, ih, State.heap_setTop, State.pushCell_setTop, State.setCell_setTop]
section XMW
variable {E : CtlPost} {e : Env} {d : Bool} {acts : List Action} {s : State}
theorem xm_new {c comp : ClassId} {k : Class} {type : FieldType} {len : Nat} {init : Value} (hk : s.vm.classes[c]? = some k) (hkind : k.kind = .array comp type)
    (h1 : ¬ len > e.platform.arrayLengthLimit) (h2 : ¬ len * componentBytes type > e.platform.maxHeapBytes) (hfit : fits type init = true) (hdef : init.isDefault = true) {Q : Addr → Pre}
    (h3 : s.heap.size < e.platform.maxCells) (h4 : s.slotsUsed + len ≤ e.platform.maxSlots)
    (hq : Q s.heap.size d acts (s.pushCell (arrV c len (fun _ => init)))) : wp (Jvm.newArray c len init) Q E e d acts s := by
  have ha : allocActs (Array.replicate len init) s.heap.size acts = acts := by
    have hall : ((Array.replicate len init).all (·.isDefault)) = true := by
      rw [Array.all_replicate]
      split <;> simp [hdef]
    unfold allocActs
    rw [if_pos hall]
  have hf : ∀ i v, (Array.replicate len init)[i]? = some v → s.fitsSlot c .none i v = true := by
    intro i v hv
    rw [Array.getElem?_replicate] at hv
    split at hv
    · cases hv
      simp [State.fitsSlot, State.slotType?, hk, hkind, hfit]
    · cases hv
  rw [← arrV_new] at hq
  simp only [Jvm.newArray, Jvm.arrayFits, wp_bind', W.ask, W.ite, h1, if_false, wp_pure', W.theClass, hk, hkind, h2, W.alloc, W.stop, Option.some.injEq, exists_eq_left', Array.size_replicate, ha]
  rw [if_neg (by omega)]
  exact ⟨h3, h4, hf, hq⟩
theorem xm_make {c comp ce : ClassId} {k kc : Class} {ty : FieldType} {n m : Int32} (hk : s.vm.classes[c]? = some k) (hkind : k.kind = .array comp (.array ty)) (hkc : s.vm.classes[comp]? = some kc) (hkindc : kc.kind = .array ce ty) (hn : ¬ n < 0) (hm : ¬ m < 0)
    (h1 : ¬ n.toNatClampNeg > e.platform.arrayLengthLimit) (h2 : ¬ n.toNatClampNeg * componentBytes (.array ty) > e.platform.maxHeapBytes) (h3 : ¬ m.toNatClampNeg > e.platform.arrayLengthLimit) (h4 : ¬ m.toNatClampNeg * componentBytes ty > e.platform.maxHeapBytes)
    (hdf : fits ty (defaultValue ty) = true) (hdd : (defaultValue ty).isDefault = true)
    (h5 : s.heap.size + 1 + n.toNatClampNeg ≤ e.platform.maxCells) (h6 : s.slotsUsed + n.toNatClampNeg + n.toNatClampNeg * m.toNatClampNeg ≤ e.platform.maxSlots) {Q : Addr → Pre}
    (hq : ∀ d' acts', Q s.heap.size d' acts' (xmSt s c comp n.toNatClampNeg m.toNatClampNeg (defaultValue ty) n.toNatClampNeg)) : wp (multianewarray.make c [n, m]) Q E e d acts s := by
  have hno : ([m].find? (· < 0)) = none := by simp [hm]
  rw [multianewarray.make]
  simp only [wp_bind', W.ite, hn, if_false, wp_pure', W.theClass, hk, hkind, Option.some.injEq, exists_eq_left']
  refine xm_new hk hkind h1 h2 rfl rfl (by omega) (by have := Nat.zero_le (n.toNatClampNeg * m.toNatClampNeg); omega) ?_
  have e0 : arrV c n.toNatClampNeg (fun _ => Value.null) = xmOut c n.toNatClampNeg s.heap.size 0 := by rw [← xmOut_zero, ← arrV_new]
  rw [e0]
  simp only [hno]
  rw [ite_self, wp_bind', Std.Legacy.Range.forIn_eq_forIn_range']
  rw [show ([:n.toNatClampNeg] : Std.Legacy.Range).size = n.toNatClampNeg by simp [Std.Legacy.Range.size]]
  show wp (forIn (List.range' 0 n.toNatClampNeg 1) PUnit.unit _) _ E e d acts _
  refine wp_forIn_inv (fun todo t => ∃ i : Nat, i ≤ n.toNatClampNeg ∧ todo = List.range' i (n.toNatClampNeg - i) ∧ t = xmSt s c comp n.toNatClampNeg m.toNatClampNeg (defaultValue ty) i) _ _ ⟨0, Nat.zero_le _, rfl, rfl⟩ ?_ ?_
  · intro x todo t d' acts' Q' hI hgo
    obtain ⟨i, hi, hl, rfl⟩ := hI
    have hlt : i < n.toNatClampNeg := by
      rcases Nat.lt_or_ge i n.toNatClampNeg with q | q
      · exact q
      · rw [show n.toNatClampNeg - i = 0 by omega] at hl
        simp at hl
    rw [show n.toNatClampNeg - i = (n.toNatClampNeg - (i + 1)) + 1 by omega, List.range'_succ] at hl
    obtain ⟨e1, e2⟩ := List.cons.inj hl
    subst e1
    obtain ⟨f1, f2, f3, f4, -, -⟩ := xmSt_facts s c comp n.toNatClampNeg m.toNatClampNeg (defaultValue ty) x
    have hmul : x * m.toNatClampNeg + m.toNatClampNeg ≤ n.toNatClampNeg * m.toNatClampNeg := by
      have q := Nat.mul_le_mul_right m.toNatClampNeg (show x + 1 ≤ n.toNatClampNeg from hlt)
      rwa [Nat.succ_mul] at q
    have hlt0 : s.heap.size < (xmSt s c comp n.toNatClampNeg m.toNatClampNeg (defaultValue ty) x).heap.size := by omega
    simp only [wp_bind']
    rw [multianewarray.make]
    simp only [wp_bind', W.ite, hm, if_false, wp_pure', W.theClass, f3, hkc, hkindc, Option.some.injEq, exists_eq_left']
    refine xm_new (by rw [f3]; exact hkc) hkindc h3 h4 hdf hdd (by omega) (by omega) ?_
    simp only [wp_bind', W.writeLoc, wp_pure']
    refine ⟨xmOut c n.toNatClampNeg s.heap.size x, by rw [State.heap_pushCell_of_lt (h := hlt0)]; exact f2, by simp [xmOut, arrV], by rw [xmOut, arrV_size]; exact hlt, ?_, hgo _ _ _ ⟨x + 1, hlt, e2, ?_⟩⟩
    · simp [State.fitsSlot, State.slotType?, xmOut, arrV, f3, hk, hkind, fits]
    · rw [f1, xmOut_step]
      rfl
  · intro t d' acts' hI
    obtain ⟨i, hi, hl, rfl⟩ := hI
    have e1 : i = n.toNatClampNeg := by
      rcases Nat.lt_or_ge i n.toNatClampNeg with q | q
      · rw [show n.toNatClampNeg - i = (n.toNatClampNeg - (i + 1)) + 1 by omega, List.range'_succ] at hl
        cases hl
      · omega
    subst e1
    simp only [wp_pure']
    exact hq _ _
end XMW
