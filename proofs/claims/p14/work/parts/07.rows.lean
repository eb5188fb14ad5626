/-! rows of ours: new T[n][m] over explicit cells; numbers as Ints; contracts that make arrays of arrays -/
def xOver (ty : FieldType) (U : State) : Prop := ∃ (comp c : ClassId) (k : Class), U.vm.findClass (FieldType.array ty).toString = some comp ∧ U.vm.classes[c]? = some k ∧ k.kind = .array comp (.array ty) ∧ U.vm.findClass ("[" ++ (FieldType.array ty).toString) = some c
theorem xOver.moved {ty : FieldType} {u U : State} (hvm : u.vm.Alike U.vm) (h : xOver ty u) : xOver ty U := by
  obtain ⟨comp, c, k, h1, h2, h3, h4⟩ := h
  obtain ⟨k', hk', he⟩ := hvm.2.2 _ _ h2
  exact ⟨comp, c, k', by rw [hvm.findClass]; exact h1, hk', by rw [he]; exact h3, by rw [hvm.findClass]; exact h4⟩
theorem xOver.of {args : Array Value} {s : State} {ty : FieldType} (h : (Cond.arrayOver (.array ty)).before args s = true) : xOver ty s := by
  simp only [Cond.before, Cond.holds, Cond.value, beq_iff_eq] at h
  cases hc : s.vm.findClass (FieldType.array ty).toString with
  | none => simp [hc] at h
  | some comp =>
    simp only [hc, Option.bind_some, Option.bind_eq_some_iff, Option.map_eq_some_iff] at h
    obtain ⟨c, hi, k, hk, hb⟩ := h
    obtain ⟨hlt, hp, -⟩ := Array.findIdx?_eq_some_iff_getElem.mp hi
    have hkk : s.vm.classes[c] = k := (Array.getElem?_eq_some_iff.mp hk).2
    rw [hkk] at hp
    cases hkind : k.kind with
    | array component t0 =>
      rw [hkind] at hb hp
      simp at hb hp
      exact ⟨comp, c, k, hc, hk, by rw [hkind, hp, hb.1], hb.2⟩
    | _ => rw [hkind] at hb; simp at hb
def xPcA (av : List Value) (D : va_G) (tys : List (ClassId × FieldType)) (ws : va_W) (sz : Nat) : Array Value → State → Prop := va_Pc av (fun U => (U.heap.size = sz ∧ va_P D vwCl ws U.heap ∧ va_K D vwCl tys U ∧ va_D (fun _ => True) ws) ∧ xOver .int U ∧ xOver .long U)
theorem xPcA_blind {av : List Value} {D : va_G} {tys : List (ClassId × FieldType)} {ws : va_W} {sz : Nat} : FrameBlind (xPcA av D tys ws sz) := fun a U g mk q => by
  obtain ⟨q0, ⟨q1, qP, qK, qD⟩, o1, o2⟩ := q
  exact ⟨q0, ⟨q1, qP, va_K.moved (u := U) (U := U.calling g mk a) (Vm.Alike.refl U.vm) qK, qD⟩, o1.moved (u := U) (U := U.calling g mk a) (Vm.Alike.refl U.vm), o2.moved (u := U) (U := U.calling g mk a) (Vm.Alike.refl U.vm)⟩
theorem xPcA_pre {s : State} {H : Heap} {av : List Value} {D : va_G} {tys : List (ClassId × FieldType)} {ws : va_W} {A : Nat → Prop} (hP : va_P D vwCl ws H) (hK : va_K D vwCl tys s) (hD : va_D A ws) (o1 : xOver .int s) (o2 : xOver .long s) : ∀ U : State, U.heap = H → s.WarmedH U.vm → xPcA av D tys ws H.size av.toArray U := fun U hU hW =>
  ⟨rfl, ⟨by rw [hU], by rw [hU]; exact hP, va_K.moved hW.alike hK, hD.weaken (fun _ _ _ _ => trivial)⟩, o1.moved hW.alike, o2.moved hW.alike⟩
theorem xMetA {l : Launch} {y : MethodName} {ws ws' : List Cond} {rm : Room} {av : List Value} {D : va_G} {tys : List (ClassId × FieldType)} {W0 : va_W} {sz : Nat} {Qf : (Nat → Prop) → Array Value → State → Outcome → State → Prop} {mc ms : Nat} {cc : ByteArray} {maxL : Nat} {ret : Option FieldType}
    (hy : plainName y.cls = true) (hw : ws = Cond.code y cc maxL ret :: ws') (hn : (lg_sl av).length ≤ maxL)
    (body : ∀ (p : Program) (e : Env) (s : State) (m : MethodId) (below : List Frame) (meth : Method) (c : Code) (ls : Array Slot) (A : Nat → Prop),
      p.tables.exec = Jvm.exec → c.code = cc → meth.sig.returnType = ret → c.maxLocals = maxL → (∀ w ∈ ws, w.before av.toArray s = true) → s.vm.findClass y.cls = some m.cls → meth.locks = false → meth.name = y.name →
      s.heap.size = sz → va_P D vwCl W0 s.heap → va_K D vwCl tys s → va_D A W0 → (∀ q : Nat, s.heap.size ≤ q → A q) → va_S A s.heap s.heap [] → lv_has ls maxL (lv_args 0 av) → xOver .int s → xOver .long s →
      W p l e rm s m av.toArray below meth c s.heap [] 0 0 (MQ below (Qf A) av.toArray s mc ms A) (F0 m 0 ls [])) :
    Met l y ws rm (xPcA av D tys W0 sz) (Qf (va_A W0 sz)) mc ms (va_A W0 sz) := by
  refine Met.ofW (cc := cc) (maxL := maxL) (ret := ret) hy hw ?_
  intro p e s m args below meth c s₁ B hml hv
  obtain ⟨rfl, ⟨hsz, hP, hK, hD0⟩, o1, o2⟩ := hv
  subst hsz
  have hl := lv_entry av (n := maxL) hn
  rw [lg_entry_eq]
  generalize (lg_sl av ++ List.replicate (maxL - (lg_sl av).length) Slot.unset).toArray = ls at hl ⊢
  exact body p e s m below meth c ls (va_A W0 s.heap.size) B.exec B.bytes B.returns hml (atoms_spec (ws := ws) B.pre) (findClass_of_methodNamed B.named) B.notSynchronized (name_of_methodNamed B.named B.method).1 rfl hP hK hD0.self (fun q h => Or.inr h) va_S.rf hl o1 o2
def xmf (N : Nat) (r : Nat → Nat) : Nat → Option Nat := fun i => if i < N then some (r i) else none
section XMS
variable {p : Program} {l : Launch} {e : Env} {R : Room} {s : State} {m : MethodId} {args : Array Value} {below : List Frame} {meth : Method} {c : Code} {H : Heap} {locs : List Loc} {cells slots : Nat} {Q : State → Prop} {T : State}
theorem xm_stand (X : Stand p l e R s m args below meth c T locs cells slots) (cA d : ClassId) (N M : Nat) (v : Value) : ∀ i : Nat, Stand p l e R s m args below meth c (xmSt T cA d N M v i) (locs ++ (List.range i).map fun j => (⟨T.heap.size, j⟩ : Loc)) (cells + (1 + i)) (slots + (N + i * M)) := by
  intro i
  induction i with
  | zero =>
    have h := X.pushed (xmOut cA N T.heap.size 0)
    rw [show (xmOut cA N T.heap.size 0).slots.size = N from arrV_size _ _ _] at h
    simpa [xmSt] using h
  | succ i ih =>
    obtain ⟨f1, f2, -, -, -, -⟩ := xmSt_facts T cA d N M v i
    have hlt : T.heap.size < (xmSt T cA d N M v i).heap.size := by omega
    have hcell : ((xmSt T cA d N M v i).pushCell (xmIn d M v)).heap[T.heap.size]? = some (xmOut cA N T.heap.size i) := by
      rw [State.heap_pushCell_of_lt (h := hlt)]
      exact f2
    have h := (ih.pushed (xmIn d M v)).stored hcell i (.ref (T.heap.size + 1 + i))
    rw [xmOut_step, show (xmIn d M v).slots.size = M from arrV_size _ _ _] at h
    have e1 : (locs ++ (List.range (i + 1)).map fun j => (⟨T.heap.size, j⟩ : Loc)) = (locs ++ (List.range i).map fun j => (⟨T.heap.size, j⟩ : Loc)) ++ [⟨T.heap.size, i⟩] := by
      rw [List.range_succ, List.map_append, List.append_assoc]
      rfl
    have e2 : cells + (1 + (i + 1)) = cells + (1 + i) + 1 := by omega
    have e3 : slots + (N + (i + 1) * M) = slots + (N + i * M) + M := by rw [Nat.succ_mul]; omega
    rw [e1, e2, e3]
    exact h
variable {cc : ByteArray} {pc : Nat} {ls : Array Slot} {rest : List Value} {D : va_G} {A : Nat → Prop} {tys : List (ClassId × FieldType)} {X : va_W} {H0 : Heap}
theorem xmna (ty : FieldType) {z : vp_A} {N' K' : Nat} {tA tE : Nat} {cA cE : ClassId} (hexec : p.tables.exec = Jvm.exec) (hb : c.code = cc) {own : String} {index : Nat} (hown : s.vm.findClass own = some m.cls) (hclink : (Cond.classLink own index ("[" ++ (FieldType.array ty).toString)).before args s = true) (hover : xOver ty s) (harr : (Cond.arrayClass ty).before args s = true)
    (hK : va_K D vwCl tys s) (htA : tys[tA]? = some (cA, .array ty)) (htE : tys[tE]? = some (cE, ty)) (hP : va_P D vwCl X H) (hD : va_D A X) (hS : va_S A H0 H locs) (hA : ∀ q, H0.size ≤ q → A q) {n k : Int32} (hn : ¬ n < 0) (hk : ¬ k < 0) (hN : n.toNatClampNeg = N') (hM : k.toNatClampNeg = K')
    (hb1 : N' * 4 ≤ 536870912) (hb2 : K' * componentBytes ty ≤ 536870912) (hb3 : K' ≤ 536870912) (hdf : fits ty (defaultValue ty) = true) (hdd : (defaultValue ty).isDefault = true) (hprim : ∀ C : String, ty ≠ .object C) (hcells : cells + (1 + N') ≤ R.cells) (hslots : slots + (N' + N' * K') ≤ R.slots) (hz : ∀ c : ClassId, xmIn c K' (defaultValue ty) = vp_cell c z) (hdg : decode cc pc = .ok (.multianewarray index 2, 4))
    (kk : ∀ (q : Nat) (r : Nat → Nat) (H1 : Heap) (locs1 : List Loc), va_P D vwCl ((X ++ [(q, .inl (cA, N', .inr (.inr (.inr (.inr (xmf N' r))))))]) ++ (List.range N').map (fun j => (r j, .inl (cE, z)))) H1 → va_D A ((X ++ [(q, .inl (cA, N', .inr (.inr (.inr (.inr (xmf N' r))))))]) ++ (List.range N').map (fun j => (r j, .inl (cE, z)))) → va_S A H0 H1 locs1 →
      W p l e R s m args below meth c H1 locs1 (cells + (1 + N')) (slots + (N' + N' * K')) Q (F0 m (pc + 4) ls (.ref q :: rest))) : W p l e R s m args below meth c H locs cells slots Q (F0 m pc ls (.int k :: .int n :: rest)) := by
  subst hN
  subst hM
  intro T hT Xs
  have hpl : e.platform.magicAccessors = ({} : Platform).magicAccessors := by rw [Xs.admits.platform]
  obtain ⟨comp, c1, kA, hcomp, hkA, hkindA, hnameA⟩ := hover
  obtain ⟨comp', kC, ce, hcomp', hkC, hkindC⟩ := Cond.arrayClass_spec harr
  have ecomp : comp' = comp := Option.some.inj (hcomp'.symm.trans hcomp)
  subst ecomp
  have eA : c1 = cA := Option.some.inj (hnameA.symm.trans (hK.2 tA _ htA).2)
  subst eA
  have eE : comp' = cE := by
    have q := (hK.2 tE _ htE).2
    have q2 : s.vm.findClass ("[" ++ ty.toString) = some cE := by
      cases ty with
      | object C => exact absurd rfl (hprim C)
      | _ => exact q
    exact Option.some.inj (hcomp.symm.trans q2)
  subst eE
  obtain ⟨c0, hfc0, hcl⟩ := Cond.classLink_spec hown hclink e.platform hpl
  cases hnameA.symm.trans hfc0
  obtain ⟨hg₁, hwarm₁, hready₁⟩ := State.classEntry (e := e) Xs.warmed hcl
  generalize T.vm.noted m.cls index (.cls c1) = vm₁ at hg₁ hwarm₁ hready₁
  have hal : s.vm.Alike vm₁ := hwarm₁.alike
  obtain ⟨kA₁, hkA₁, heA⟩ := hal.2.2 _ _ hkA
  obtain ⟨kC₁, hkC₁, heC⟩ := hal.2.2 _ _ hkC
  have hkindA₁ : kA₁.kind = .array comp' (.array ty) := by rw [heA]; exact hkindA
  have hkindC₁ : kC₁.kind = .array ce ty := by rw [heC]; exact hkindC
  have X₁ := Xs.noted hwarm₁
  obtain ⟨hr1, hr2⟩ := Xs.roomAbove hcells hslots
  have XF := xm_stand X₁ c1 comp' n.toNatClampNeg k.toNatClampNeg (defaultValue ty) n.toNatClampNeg
  have hl1 : ¬ n.toNatClampNeg > e.platform.arrayLengthLimit := by rw [Launch.admits_arrayLengthLimit Xs.admits]; omega
  have hh1 : ¬ n.toNatClampNeg * componentBytes (.array ty) > e.platform.maxHeapBytes := by
    rw [Launch.admits_maxHeapBytes Xs.admits]
    show ¬ n.toNatClampNeg * 4 > 536870912
    omega
  have hl2 : ¬ k.toNatClampNeg > e.platform.arrayLengthLimit := by rw [Launch.admits_arrayLengthLimit Xs.admits]; omega
  have hh2 : ¬ k.toNatClampNeg * componentBytes ty > e.platform.maxHeapBytes := by rw [Launch.admits_maxHeapBytes Xs.admits]; omega
  obtain ⟨f1, f2, f3, f4, f5, f6⟩ := xmSt_facts (T.setVm vm₁) c1 comp' n.toNatClampNeg k.toNatClampNeg (defaultValue ty) n.toNatClampNeg
  have hTh : (T.setVm vm₁).heap = H := hT
  rw [hTh] at f1 f2 f5 f6
  have hTh2 : T.heap.size = H.size := by rw [hT]
  have step : ∀ target, Steps p.tables e below ((xmSt (T.setVm vm₁) c1 comp' n.toNatClampNeg k.toNatClampNeg (defaultValue ty) n.toNatClampNeg).setTop (F0 m (pc + 4) ls (.ref T.heap.size :: rest))) target → Steps p.tables e below (T.setTop (F0 m pc ls (.int k :: .int n :: rest))) target := by
    intro target hrest
    have hdg' : decode c.code pc = .ok (.multianewarray index 2, 4) := by rw [hb]; exact hdg
    jvm_step Xs.here [hexec, hdg']
    simp only [multianewarray.sem, wp_bind', W.resolveClassAt_links (State.method?_setTop (F0 m pc ls (.int k :: .int n :: rest)) Xs.here.top) hg₁]
    rw [W.popN, if_neg (by decide)]
    refine ⟨F0 m pc ls (.int k :: .int n :: rest), State.topJava?_setTop' (s := T.setVm vm₁) _ Xs.here.top, [.int n, .int k], rest, rfl, rfl, ?_⟩
    simp only [List.mapM_cons, List.mapM_nil, wp_bind', wp_pure']
    refine xm_make (k := kA₁) (kc := kC₁) hkA₁ hkindA₁ hkC₁ hkindC₁ hn hk hl1 hh1 hl2 hh2 hdf hdd (by show T.heap.size + 1 + _ ≤ _; omega) (by show T.slotsUsed + _ + _ ≤ _; omega) (fun d' acts' => ?_)
    have eS : ((T.setTop (F0 m pc ls (.int k :: .int n :: rest))).setVm vm₁).setTop { (F0 m pc ls (.int k :: .int n :: rest)) with stack := rest } = (T.setVm vm₁).setTop (F0 m pc ls rest) := by
      show ((T.setVm vm₁).setTop _).setTop _ = _
      rw [State.setTop_setTop]
    rw [eS, xmSt_top]
    simp only [wp_bind', W.mark, W.pushRef, State.topJava?_setTop' _ XF.here.top, Option.some.injEq, exists_eq_left', State.setTop_setTop, State.heap_setTop]
    intro acts
    simp [jvm, XF.here.top]
    exact hrest
  generalize hF : xmSt (T.setVm vm₁) c1 comp' n.toNatClampNeg k.toNatClampNeg (defaultValue ty) n.toNatClampNeg = F at XF step f1 f2 f3 f4 f5 f6
  have hout : xmOut c1 n.toNatClampNeg H.size n.toNatClampNeg = vp_cell c1 (n.toNatClampNeg, .inr (.inr (.inr (.inr (xmf n.toNatClampNeg (fun j => H.size + 1 + j)))))) := by
    rw [vp_cell_q]
    rfl
  rw [hout] at f2
  have hPF : va_P D vwCl X F.heap := hP.kept (fun k9 x hx => f5 x.1 ((hP k9 x hx).lt))
  have hP1 : va_P D vwCl (X ++ [(H.size, .inl (c1, n.toNatClampNeg, .inr (.inr (.inr (.inr (xmf n.toNatClampNeg (fun j => H.size + 1 + j)))))))]) F.heap := hPF.app (fun k9 x hx => by
    have h0 : k9 < 1 := (List.getElem?_eq_some_iff.mp hx).1
    rw [show k9 = 0 by omega] at hx
    cases hx
    exact f2)
  have hrow : ∀ (k9 : Nat) (x : Nat × va_E), ((List.range n.toNatClampNeg).map (fun j => ((H.size + 1 + j, .inl (comp', z)) : Nat × va_E)))[k9]? = some x → k9 < n.toNatClampNeg ∧ x = (H.size + 1 + k9, .inl (comp', z)) := fun k9 x hx => by
    rw [List.getElem?_map] at hx
    by_cases h9 : k9 < n.toNatClampNeg
    · rw [List.getElem?_range h9] at hx
      exact ⟨h9, (Option.some.inj hx).symm⟩
    · rw [List.getElem?_eq_none (by rw [List.length_range]; omega)] at hx
      cases hx
  have hP2 : va_P D vwCl ((X ++ [(H.size, .inl (c1, n.toNatClampNeg, .inr (.inr (.inr (.inr (xmf n.toNatClampNeg (fun j => H.size + 1 + j)))))))]) ++ (List.range n.toNatClampNeg).map (fun j => (H.size + 1 + j, .inl (comp', z)))) F.heap := hP1.app (fun k9 x hx => by
    obtain ⟨h9, rfl⟩ := hrow k9 x hx
    show F.heap[H.size + 1 + k9]? = some (vp_cell comp' z)
    rw [f6 k9 h9, hz])
  have hD1 := hD.push (e := .inl (c1, n.toNatClampNeg, .inr (.inr (.inr (.inr (xmf n.toNatClampNeg (fun j => H.size + 1 + j))))))) hP rfl (hA _ hS.1)
  have hD2 : va_D A ((X ++ [(H.size, .inl (c1, n.toNatClampNeg, .inr (.inr (.inr (.inr (xmf n.toNatClampNeg (fun j => H.size + 1 + j)))))))]) ++ (List.range n.toNatClampNeg).map (fun j => (H.size + 1 + j, .inl (comp', z)))) := by
    refine hD1.app ⟨fun i j x y hi hj hxy => ?_, fun k9 x hx => ?_⟩ (fun i j x y hi hj => ?_)
    · obtain ⟨-, rfl⟩ := hrow i x hi
      obtain ⟨-, rfl⟩ := hrow j y hj
      have hxy' : H.size + 1 + i = H.size + 1 + j := hxy
      omega
    · obtain ⟨-, rfl⟩ := hrow k9 x hx
      exact hA _ (show H0.size ≤ H.size + 1 + k9 by have := hS.1; omega)
    · obtain ⟨-, rfl⟩ := hrow j y hj
      have hle : x.1 ≤ H.size := by
        by_cases hl : i < X.length
        · rw [List.getElem?_append_left hl] at hi
          exact Nat.le_of_lt ((hP i x hi).lt)
        · rw [List.getElem?_append_right (by omega)] at hi
          have h0 : i - X.length < 1 := (List.getElem?_eq_some_iff.mp hi).1
          rw [show i - X.length = 0 by omega] at hi
          cases hi
          exact Nat.le_refl _
      show x.1 ≠ H.size + 1 + j
      omega
  have hS2 : va_S A H0 F.heap (locs ++ (List.range n.toNatClampNeg).map fun j => (⟨T.heap.size, j⟩ : Loc)) := by
    refine ⟨by rw [f1]; have := hS.1; omega, fun q h1 h2 => (f5 q (Nat.lt_of_lt_of_le h1 hS.1)).trans (hS.2.1 q h1 h2), fun q hq => ?_⟩
    rcases List.mem_append.mp hq with h | h
    · exact hS.2.2 q h
    · obtain ⟨j, -, rfl⟩ := List.mem_map.mp h
      exact hA _ (show H0.size ≤ T.heap.size by rw [hTh2]; exact hS.1)
  obtain ⟨t, a1, b1⟩ := kk H.size (fun j => H.size + 1 + j) F.heap _ hP2 hD2 hS2 F rfl XF
  refine ⟨t, step t ?_, b1⟩
  rw [hTh2]
  exact a1
end XMS
theorem xi2l (x : Int32) : x.toInt64.toInt = x.toInt := Int32.toInt_toInt64 x
theorem ilt {x y : Int32} {a b : Int} (ha : x.toInt = a) (hb : y.toInt = b) : x < y ↔ a < b := by rw [← ha, ← hb]; exact Int32.lt_iff_toInt_lt
theorem ile {x y : Int32} {a b : Int} (ha : x.toInt = a) (hb : y.toInt = b) : x ≤ y ↔ a ≤ b := by rw [← ha, ← hb]; exact Int32.le_iff_toInt_le
theorem ieq {x y : Int32} {a b : Int} (ha : x.toInt = a) (hb : y.toInt = b) : x = y ↔ a = b := by rw [← ha, ← hb]; exact Int32.toInt_inj.symm
theorem jlt {x y : Int64} {a b : Int} (ha : x.toInt = a) (hb : y.toInt = b) : x < y ↔ a < b := by rw [← ha, ← hb]; exact Int64.lt_iff_toInt_lt
theorem jle {x y : Int64} {a b : Int} (ha : x.toInt = a) (hb : y.toInt = b) : x ≤ y ↔ a ≤ b := by rw [← ha, ← hb]; exact Int64.le_iff_toInt_le
theorem jeq {x y : Int64} {a b : Int} (ha : x.toInt = a) (hb : y.toInt = b) : x = y ↔ a = b := by rw [← ha, ← hb]; exact Int64.toInt_inj.symm
theorem xbool {P : Prop} [Decidable P] {r : Int32} (h : r = if P then 1 else 0) : (r = 0 ↔ ¬ P) ∧ (¬ r = 0 ↔ P) := by
  by_cases hp : P
  · rw [if_pos hp] at h
    subst h
    exact ⟨⟨fun q => absurd q (by decide), fun q => absurd hp q⟩, ⟨fun _ => hp, fun _ => by decide⟩⟩
  · rw [if_neg hp] at h
    subst h
    exact ⟨⟨fun _ => hp, fun _ => rfl⟩, ⟨fun q => absurd rfl q, fun q => absurd q hp⟩⟩
theorem xP0 (D : va_G) (H : Heap) : va_P D vwCl [] H := fun k q h => by simp at h
theorem xD0 (A : Nat → Prop) : va_D A [] := ⟨fun i j p q h => by simp at h, fun k q h => by simp at h⟩
theorem xand1 (x : Int32) : x &&& (-1) = x := by
  apply Int32.toBitVec_inj.mp
  rw [Int32.toBitVec_and, show (-1 : Int32).toBitVec = BitVec.allOnes 32 from by decide]
  exact BitVec.and_allOnes
theorem xclamp {x : Int32} {j : Nat} (h : x.toInt = (j : Int)) : x.toNatClampNeg = j := by
  unfold Int32.toNatClampNeg
  rw [h]
  exact Int.toNat_natCast j
theorem xbm {z : Int} (h1 : -2147483648 ≤ z) (h2 : z < 2147483648) : z.bmod (2 ^ 32) = z := by
  apply Int.bmod_eq_of_le
  · exact h1
  · exact h2
theorem xadd {x y : Int32} {a b : Int} (ha : x.toInt = a) (hb : y.toInt = b) (h1 : -2147483648 ≤ a + b) (h2 : a + b < 2147483648) : (x + y).toInt = a + b := by
  rw [Int32.toInt_add, ha, hb]
  exact xbm h1 h2
theorem xsub {x y : Int32} {a b : Int} (ha : x.toInt = a) (hb : y.toInt = b) (h1 : -2147483648 ≤ a - b) (h2 : a - b < 2147483648) : (x - y).toInt = a - b := by
  rw [Int32.toInt_sub, ha, hb]
  exact xbm h1 h2
theorem xmul {x y : Int32} {a b : Int} (ha : x.toInt = a) (hb : y.toInt = b) (h1 : -2147483648 ≤ a * b) (h2 : a * b < 2147483648) : (x * y).toInt = a * b := by
  rw [Int32.toInt_mul, ha, hb]
  exact xbm h1 h2
theorem xnewI (n : Nat) (c : ClassId) : vp_cell c (n, .inl (fun _ => 0)) = arrV c n (fun _ => defaultValue .int) := rfl
theorem xnewZ (n : Nat) (c : ClassId) : vp_cell c (n, .inl (fun _ => 0)) = arrV c n (fun _ => defaultValue .boolean) := rfl
theorem xnewJ (n : Nat) (c : ClassId) : vp_cell c (n, .inr (.inl (fun _ => 0))) = arrV c n (fun _ => defaultValue .long) := rfl
theorem xinI (n : Nat) (c : ClassId) : xmIn c n (defaultValue .int) = vp_cell c (n, .inl (fun _ => 0)) := rfl
theorem xinJ (n : Nat) (c : ClassId) : xmIn c n (defaultValue .long) = vp_cell c (n, .inr (.inl (fun _ => 0))) := rfl
