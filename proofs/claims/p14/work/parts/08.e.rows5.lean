/-! what the launch gives and nobody writes: the nine words, the table of the first six, two statics of the library -/
def xlen : List Nat := [4, 4, 4, 4, 4, 6, 3, 5, 5]
def xbyt : List (List Int32) := [[114, 97, 105, 108], [119, 104, 101, 110], [102, 97, 108, 108], [100, 114, 97, 119], [119, 97, 105, 116], [119, 105, 116, 104, 105, 110], [107, 101, 121], [108, 105, 109, 105, 116], [114, 101, 116, 114, 121]]
def xsi : List Nat := [63, 151, 159, 161, 163, 165, 192, 120, 131]
def xst : List String := ["rail", "when", "fall", "draw", "wait", "within", "key", "limit", "retry"]
def xinw : List Int64 := [-6148914691236517206, -3689348814741910324, -1085102592571150096, -71777214294589696, -281470681808896, -4294967296]
def xEnv (adK adV : Nat → Nat) (tI : Nat) (A : Nat → Prop) (U : State) (H : Heap) : Prop := vk_S 9 xlen xbyt adK adV A U H ∧ (∀ i : Nat, i < 9 → vk_R RX4 (xsi.getD i 0) (xst.getD i "") (adK i) U) ∧ va_Z RX4 "IN_WORD" "[J" (.ref tI) A U H ∧ va_T .long tI 6 (fun j => .long (xinw.getD j 0)) A U H ∧ va_Z RJ0 "COMPACT_STRINGS" "Z" (.int 1) A U H ∧ va_Zq RJ3 "SIOOBE_FORMATTER" "Ljava/util/function/BiFunction;" A U H
theorem xEnv.mk {adK adV : Nat → Nat} {tI : Nat} {A : Nat → Prop} {U : State} {H : Heap} (h1 : vk_S 9 xlen xbyt adK adV A U H) (h2 : ∀ i : Nat, i < 9 → vk_R RX4 (xsi.getD i 0) (xst.getD i "") (adK i) U) (h3 : va_Z RX4 "IN_WORD" "[J" (.ref tI) A U H) (h4 : va_T .long tI 6 (fun j => .long (xinw.getD j 0)) A U H) (h5 : va_Z RJ0 "COMPACT_STRINGS" "Z" (.int 1) A U H) (h6 : va_Zq RJ3 "SIOOBE_FORMATTER" "Ljava/util/function/BiFunction;" A U H) : xEnv adK adV tI A U H := by
  unfold xEnv
  exact ⟨h1, h2, h3, h4, h5, h6⟩
theorem xEnv.S {adK adV : Nat → Nat} {tI : Nat} {A : Nat → Prop} {U : State} {H : Heap} (h : xEnv adK adV tI A U H) : vk_S 9 xlen xbyt adK adV A U H := by
  unfold xEnv at h
  exact h.1
theorem xEnv.R {adK adV : Nat → Nat} {tI : Nat} {A : Nat → Prop} {U : State} {H : Heap} (h : xEnv adK adV tI A U H) : ∀ i : Nat, i < 9 → vk_R RX4 (xsi.getD i 0) (xst.getD i "") (adK i) U := by
  unfold xEnv at h
  exact h.2.1
theorem xEnv.Z {adK adV : Nat → Nat} {tI : Nat} {A : Nat → Prop} {U : State} {H : Heap} (h : xEnv adK adV tI A U H) : va_Z RX4 "IN_WORD" "[J" (.ref tI) A U H := by
  unfold xEnv at h
  exact h.2.2.1
theorem xEnv.T {adK adV : Nat → Nat} {tI : Nat} {A : Nat → Prop} {U : State} {H : Heap} (h : xEnv adK adV tI A U H) : va_T .long tI 6 (fun j => .long (xinw.getD j 0)) A U H := by
  unfold xEnv at h
  exact h.2.2.2.1
theorem xEnv.C {adK adV : Nat → Nat} {tI : Nat} {A : Nat → Prop} {U : State} {H : Heap} (h : xEnv adK adV tI A U H) : va_Z RJ0 "COMPACT_STRINGS" "Z" (.int 1) A U H := by
  unfold xEnv at h
  exact h.2.2.2.2.1
theorem xEnv.F {adK adV : Nat → Nat} {tI : Nat} {A : Nat → Prop} {U : State} {H : Heap} (h : xEnv adK adV tI A U H) : va_Zq RJ3 "SIOOBE_FORMATTER" "Ljava/util/function/BiFunction;" A U H := by
  unfold xEnv at h
  exact h.2.2.2.2.2
theorem xEnv.kept {adK adV : Nat → Nat} {tI : Nat} {A : Nat → Prop} {U : State} {H H1 : Heap} (h : xEnv adK adV tI A U H) (hq : ∀ a : Nat, a < H.size → ¬ A a → H1[a]? = H[a]?) : xEnv adK adV tI A U H1 :=
  xEnv.mk (h.S.kept hq) h.R (h.Z.kept hq) (h.T.kept hq) (h.C.kept hq) (h.F.kept hq)
theorem xEnv.narrow {adK adV : Nat → Nat} {tI : Nat} {A B : Nat → Prop} {U : State} {H : Heap} (h : xEnv adK adV tI A U H) (hAB : ∀ q, B q → A q) : xEnv adK adV tI B U H :=
  xEnv.mk (h.S.narrow hAB) h.R (h.Z.narrow hAB) (h.T.narrow hAB) (h.C.narrow hAB) (h.F.narrow hAB)
theorem xEnv.warm {adK adV : Nat → Nat} {tI : Nat} {A : Nat → Prop} {s U : State} {H : Heap} (hW : s.WarmedH U.vm) (h : xEnv adK adV tI A s H) : xEnv adK adV tI A U H :=
  xEnv.mk (vk_S.moved hW.alike h.S) (fun i hi => (h.R i hi).warm hW) (va_Z.moved hW.alike h.Z) (va_T.moved hW.alike h.T) (va_Z.moved hW.alike h.C) (va_Zq.moved hW.alike h.F)
theorem xEnv.same {adK adV : Nat → Nat} {tI : Nat} {A : Nat → Prop} {u U : State} {H : Heap} (hv : U.vm = u.vm) (h : xEnv adK adV tI A u H) : xEnv adK adV tI A U H := by
  have hal : u.vm.Alike U.vm := by rw [hv]; exact Vm.Alike.refl u.vm
  exact xEnv.mk (vk_S.moved hal h.S) (fun i hi => vk_R.same hv (h.R i hi)) (va_Z.moved hal h.Z) (va_T.moved hal h.T) (va_Z.moved hal h.C) (va_Zq.moved hal h.F)
def xPcE (av : List Value) (D : va_G) (tys : List (ClassId × FieldType)) (ws : va_W) (adK adV : Nat → Nat) (tI sz : Nat) : Array Value → State → Prop := va_Pc av (fun U => (U.heap.size = sz ∧ va_P D vwCl ws U.heap ∧ va_K D vwCl tys U ∧ va_D (fun _ => True) ws) ∧ xEnv adK adV tI (va_A ws sz) U U.heap)
theorem xPcE_blind {av : List Value} {D : va_G} {tys : List (ClassId × FieldType)} {ws : va_W} {adK adV : Nat → Nat} {tI sz : Nat} : FrameBlind (xPcE av D tys ws adK adV tI sz) := fun a U g mk q => by
  obtain ⟨q0, ⟨q1, qP, qK, qD⟩, qE⟩ := q
  exact ⟨q0, ⟨q1, qP, va_K.moved (u := U) (U := U.calling g mk a) (Vm.Alike.refl U.vm) qK, qD⟩, xEnv.same (u := U) (U := U.calling g mk a) rfl qE⟩
theorem xPcE_pre {s : State} {H : Heap} {locs : List Loc} {av : List Value} {D : va_G} {tys : List (ClassId × FieldType)} {ws : va_W} {A A0 : Nat → Prop} {adK adV : Nat → Nat} {tI : Nat} (hP : va_P D vwCl ws H) (hK : va_K D vwCl tys s) (hD : va_D A ws) (hE : xEnv adK adV tI A0 s s.heap) (hS : va_S A0 s.heap H locs) (hF : ∀ q, va_A ws H.size q → A0 q) : ∀ U : State, U.heap = H → s.WarmedH U.vm → xPcE av D tys ws adK adV tI H.size av.toArray U := fun U hU hW =>
  ⟨rfl, ⟨by rw [hU], by rw [hU]; exact hP, va_K.moved hW.alike hK, hD.weaken (fun _ _ _ _ => trivial)⟩, by rw [hU]; exact ((hE.kept hS.2.1).narrow hF).warm hW⟩
/-- a contract out of the walk of its body, with what the launch gives -/
theorem xMetE {l : Launch} {y : MethodName} {ws ws' : List Cond} {rm : Room} {av : List Value} {D : va_G} {tys : List (ClassId × FieldType)} {W0 : va_W} {adK adV : Nat → Nat} {tI sz : Nat} {Qf : (Nat → Prop) → Array Value → State → Outcome → State → Prop} {mc ms : Nat} {cc : ByteArray} {maxL : Nat} {ret : Option FieldType}
    (hy : plainName y.cls = true) (hw : ws = Cond.code y cc maxL ret :: ws') (hn : (lg_sl av).length ≤ maxL)
    (body : ∀ (p : Program) (e : Env) (s : State) (m : MethodId) (below : List Frame) (meth : Method) (c : Code) (ls : Array Slot) (A : Nat → Prop),
      p.tables.exec = Jvm.exec → c.code = cc → meth.sig.returnType = ret → c.maxLocals = maxL → (∀ w ∈ ws, w.before av.toArray s = true) → s.vm.findClass y.cls = some m.cls → meth.locks = false → meth.name = y.name →
      s.heap.size = sz → va_P D vwCl W0 s.heap → va_K D vwCl tys s → va_D A W0 → (∀ q : Nat, s.heap.size ≤ q → A q) → va_S A s.heap s.heap [] → lv_has ls maxL (lv_args 0 av) → xEnv adK adV tI A s s.heap →
      W p l e rm s m av.toArray below meth c s.heap [] 0 0 (MQ below (Qf A) av.toArray s mc ms A) (F0 m 0 ls [])) :
    Met l y ws rm (xPcE av D tys W0 adK adV tI sz) (Qf (va_A W0 sz)) mc ms (va_A W0 sz) := by
  refine Met.ofW (cc := cc) (maxL := maxL) (ret := ret) hy hw ?_
  intro p e s m args below meth c s₁ B hml hv
  obtain ⟨rfl, ⟨hsz, hP, hK, hD0⟩, hE⟩ := hv
  subst hsz
  have hl := lv_entry av (n := maxL) hn
  rw [lg_entry_eq]
  generalize (lg_sl av ++ List.replicate (maxL - (lg_sl av).length) Slot.unset).toArray = ls at hl ⊢
  exact body p e s m below meth c ls (va_A W0 s.heap.size) B.exec B.bytes B.returns hml (atoms_spec (ws := ws) B.pre) (findClass_of_methodNamed B.named) B.notSynchronized (name_of_methodNamed B.named B.method).1 rfl hP hK hD0.self (fun q h => Or.inr h) va_S.rf hl hE
theorem xlenJ {ix : Nat} (h : ix < 9) : 3 ≤ xlen.getD ix 0 ∧ xlen.getD ix 0 ≤ 6 := by
  have : ∀ i : Nat, i < 9 → 3 ≤ xlen.getD i 0 ∧ xlen.getD i 0 ≤ 6 := by decide
  exact this ix h
theorem xnarc {b x v : Int32} (e1 : x = b &&& 255) (e2 : (x.toUInt32 % 65536).toInt32 = v) : narrow .char (.int v) = .int v := by
  subst e1
  rw [← e2, sc_c2]
  exact sc_nar b
theorem xdp {x : Int32} {a : Int} (h : x.toInt = a) (h0 : 0 ≤ a) (h1 : a ≤ 56) : ¬ x < 0 ∧ x.toNatClampNeg + (8 : Int32).toNatClampNeg ≤ 64 := by
  refine ⟨fun q => absurd ((ilt h (by decide : (0 : Int32).toInt = 0)).mp q) (by omega), ?_⟩
  have e : x.toNatClampNeg = a.toNat := xclamp (by rw [h]; omega)
  rw [e]
  have e8 : (8 : Int32).toNatClampNeg = 8 := by decide
  rw [e8]
  omega
