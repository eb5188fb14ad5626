theorem cnt_x : ∀ s : Fin 256, M_m_countOf (nI s.val) = nI (xpc s.val) := by decide +kernel
/-- what is up, if those of t are not dead -/
def xSet (q : Nat) (pt : Nat → Int64) (t : Nat) : Nat := xit (fun g x => t.testBit x && hb pt x (g + 256)) q 9 0
theorem xit_lt {C : Nat → Nat → Bool} {q : Nat} (q8 : q ≤ 8) : ∀ k g, g < 256 → xit C q k g < 256 := by
  intro k
  induction k with
  | zero => exact fun g hg => hg
  | succ k ih =>
    intro g hg
    unfold xit
    split
    · exact hg
    · exact ih _ (xup_lt hg q q8)
theorem xSet_lt {q t : Nat} {pt : Nat → Int64} (q8 : q ≤ 8) : xSet q pt t < 256 := xit_lt q8 9 0 (by decide)
theorem xSet_0 {q : Nat} {pt : Nat → Int64} : xSet q pt 0 = 0 := by
  have e : ∀ n, xup (fun x => (0 : Nat).testBit x && hb pt x (0 + 256)) n 0 = 0 := by
    intro n
    induction n with
    | zero => rfl
    | succ n ih =>
      unfold xup
      rw [if_neg (by simp), ih]
  unfold xSet xit
  rw [if_pos (e q)]
/-- s without those of d -/
def xwo (s d : Nat) : Nat := s ^^^ (s &&& d)
theorem xwo_b (s d j : Nat) : (xwo s d).testBit j = (s.testBit j && !d.testBit j) := by
  unfold xwo
  rw [Nat.testBit_xor, Nat.testBit_and]
  cases s.testBit j <;> cases d.testBit j <;> rfl
theorem xwo_lt {s d : Nat} (hs : s < 256) : xwo s d < 256 := by
  apply Nat.lt_pow_two_of_testBit (n := 8)
  intro i hi
  rw [xwo_b, Nat.testBit_lt_two_pow (Nat.lt_of_lt_of_le (show s < 2 ^ 8 from hs) (Nat.pow_le_pow_right (by decide) hi))]
  rfl
/-- the least by number, then by bits -/
def scn (acc : Nat → Bool) : Nat → Nat → Nat → Nat
  | 0, _, b => b
  | m + 1, s, b => if acc s = true ∧ xpc s < xpc b then scn acc m (s + 1) s else scn acc m (s + 1) b
def xBest (acc : Nat → Bool) (all n b : Nat) : Prop := (b = all ∨ (acc b = true ∧ 1 ≤ b ∧ b < n)) ∧ ∀ s, 1 ≤ s → s < n → acc s = true → xpc b < xpc s ∨ (xpc b = xpc s ∧ b ≤ s) ∨ b = all ∧ xpc all ≤ xpc s
theorem scn_best {acc : Nat → Bool} {all : Nat} : ∀ m s b, 1 ≤ s → xBest acc all s b → xBest acc all (s + m) (scn acc m s b) := by
  intro m
  induction m with
  | zero => exact fun s b _ h => h
  | succ m ih =>
    intro s b h1 h
    unfold scn
    rw [show s + (m + 1) = (s + 1) + m from by omega]
    obtain ⟨ha, hb⟩ := h
    by_cases q : acc s = true ∧ xpc s < xpc b
    · rw [if_pos q]
      refine ih _ _ (by omega) ⟨Or.inr ⟨q.1, by omega, by omega⟩, fun t t1 t2 t3 => ?_⟩
      by_cases e : t = s
      · rw [e]
        exact Or.inr (Or.inl ⟨rfl, Nat.le_refl _⟩)
      · rcases hb t t1 (by omega) t3 with w | ⟨w, -⟩ | ⟨w, w2⟩
        · exact Or.inl (by omega)
        · exact Or.inl (by omega)
        · rw [w] at q
          exact Or.inl (by omega)
    · rw [if_neg q]
      refine ih _ _ (by omega) ⟨?_, fun t t1 t2 t3 => ?_⟩
      · rcases ha with w | ⟨w1, w2, w3⟩
        · exact Or.inl w
        · exact Or.inr ⟨w1, w2, by omega⟩
      · by_cases e : t = s
        · rw [e] at t3 ⊢
          have : ¬ xpc s < xpc b := fun z => q ⟨t3, z⟩
          rcases ha with w | ⟨w1, w2, w3⟩
          · rw [w] at this ⊢
            exact Or.inr (Or.inr ⟨rfl, by omega⟩)
          · by_cases y : xpc b = xpc s
            · exact Or.inr (Or.inl ⟨y, by omega⟩)
            · exact Or.inl (by omega)
        · exact hb t t1 (by omega) t3
theorem scn_eq {accC accR : Nat → Bool} {all : Nat} {c p : Nat} (hmax : ∀ s, s ≤ all → xpc all ≤ xpc s → s = all) (hc : xBest accC all (all + 1) c) (hp : xBest accR all (all + 1) p) (h1 : ∀ s, s ≤ all → accR s = true → accC s = true) (h2 : ∀ s, 1 ≤ s → s ≤ all → accC s = true → accR s = true ∨ ∃ t, 1 ≤ t ∧ t ≤ all ∧ accR t = true ∧ xpc t < xpc s) : c = p := by
  obtain ⟨ca, cb⟩ := hc
  obtain ⟨pa, pb⟩ := hp
  by_cases qc : c = all
  · by_cases qp : p = all
    · rw [qc, qp]
    · rcases pa with w | ⟨w1, w2, w3⟩
      · exact absurd w qp
      · rcases cb p w2 w3 (h1 p (by omega) w1) with y | ⟨y, -⟩ | ⟨-, y⟩
        · rw [qc] at y
          exact absurd (hmax p (by omega) (by omega)) qp
        · rw [qc] at y
          exact absurd (hmax p (by omega) (by omega)) qp
        · exact absurd (hmax p (by omega) y) qp
  · rcases ca with w | ⟨w1, w2, w3⟩
    · exact absurd w qc
    · have rc : accR c = true := by
        rcases h2 c w2 (by omega) w1 with y | ⟨t, t1, t2, t3, t4⟩
        · exact y
        · rcases cb t t1 (by omega) (h1 t t2 t3) with y | ⟨y, -⟩ | ⟨y, -⟩
          · omega
          · omega
          · exact absurd y qc
      have py : xpc p < xpc c ∨ (xpc p = xpc c ∧ p ≤ c) := by
        rcases pb c w2 w3 rc with y | y | ⟨y, y2⟩
        · exact Or.inl y
        · exact Or.inr y
        · exact absurd (hmax c (by omega) y2) qc
      have qp : p ≠ all := fun z => by
        rw [z] at py
        exact qc (hmax c (by omega) (by omega))
      rcases pa with w | ⟨x1, x2, x3⟩
      · exact absurd w qp
      · rcases cb p x2 x3 (h1 p (by omega) x1) with y | ⟨y, y2⟩ | ⟨y, -⟩
        · omega
        · omega
        · exact absurd y qc
section
variable {pn Td Nm Tb F : Nat → Int32} {pt : Nat → Int64} {dead : Int32} {q r : Nat}
theorem up_s1 (q8 : q ≤ 8) {s : Nat} : M_upAmong (nI q) ((xA q &&& (dead ^^^ (-1))) &&& nI s) pt = nI (xSet q pt (xwo s (xDb q dead))) := by
  rw [r_up1 q8]
  congr 1
  refine xit_ext q8 (fun g x _ hx => ?_) 9 0 (by decide)
  unfold xCc
  rw [xb_and, alive_b q8 (by omega), xb_nI (by omega), xwo_b]
  have e : (xDb q dead).testBit x = xb dead x := by
    unfold xDb
    rw [xup_bit]
    simp [hx]
  rw [e]
  cases s.testBit x <;> cases xb dead x <;> simp [hx]
theorem up_s2 {wt : Bool} (hE : xE wt q pn pt Td Nm Tb) (q8 : q ≤ 8) {s : Nat} : M_m_upBut (nI q) (xA q &&& (nI s ^^^ (-1))) Tb = nI (xSet q pt s) := by
  rw [r_up2 hE q8]
  congr 1
  refine xit_ext q8 (fun g x _ hx => ?_) 9 0 (by decide)
  unfold xCm
  rw [xb_and, xA_b q8 (by omega), xb_not _ (by omega), xb_nI (by omega)]
  cases s.testBit x <;> simp [hx]
theorem is_1 {s0 : Int32} {t : Nat} (e : M_upAmong (nI q) s0 pt = nI t) (hr : r < 8) : M_dIsUp (nI r) (nI q) s0 pt = if t.testBit r = true then 1 else 0 := by
  simp only [K_dIsUp_4, K_dIsUp_3, K_dIsUp_2, K_dIsUp_1, M_dIsUp]
  rw [e]
  by_cases b : t.testBit r = true
  · rw [if_pos ((xsr_1 _ (by omega)).mpr (by rw [xb_nI (by omega)]; exact b)), if_pos b]
  · rw [if_neg (fun z => b (by have := (xsr_1 _ (by omega)).mp z; rw [xb_nI (by omega)] at this; exact this)), if_neg b]
theorem is_2 {a0 : Int32} {t : Nat} (e : M_m_upBut (nI q) a0 Tb = nI t) (hr : r < 8) : M_m_isUp (nI r) (nI q) a0 Tb = if t.testBit r = true then 1 else 0 := by
  simp only [K_m_isUp_4, K_m_isUp_3, K_m_isUp_2, K_m_isUp_1, M_m_isUp]
  rw [e]
  by_cases b : t.testBit r = true
  · rw [if_pos ((xsr_1 _ (by omega)).mpr (by rw [xb_nI (by omega)]; exact b)), if_pos b]
  · rw [if_neg (fun z => b (by have := (xsr_1 _ (by omega)).mp z; rw [xb_nI (by omega)] at this; exact this)), if_neg b]
def accC (q r : Nat) (pt : Nat → Int64) (D : Nat) : Nat → Bool := fun s => (xSet q pt (xwo s D)).testBit r
def accR (q r : Nat) (pt : Nat → Int64) (D : Nat) : Nat → Bool := fun s => decide (s &&& D = 0) && (xSet q pt s).testBit r
theorem xpc_max {q s : Nat} (q8 : q ≤ 8) (hs : s ≤ 2 ^ q - 1) (h : xpc (2 ^ q - 1) ≤ xpc s) : s = 2 ^ q - 1 := by
  have p2 := p2_le q8
  have p0 : 0 < 2 ^ q := Nat.two_pow_pos q
  by_cases e : 2 ^ q - 1 = s
  · exact e.symm
  · have := xpc_or (g := s) (h := 2 ^ q - 1) (by omega) (by omega) (fun j hj => by
      rw [Nat.testBit_two_pow_sub_one]
      by_cases w : j < q
      · simp [w]
      · rw [Nat.testBit_lt_two_pow (Nat.lt_of_lt_of_le (show s < 2 ^ q by omega) (Nat.pow_le_pow_right (by decide) (by omega)))] at hj
        exact absurd hj (by decide)) e
    omega
theorem c_need (q8 : q ≤ 8) (hr : r < 8) : ∀ (m s k b : Nat), s + m = 2 ^ q → b < 2 ^ q → K_fewestDo_L3 (nI r) (nI q) (xA q &&& (dead ^^^ (-1))) pt (k + m + 1) (nI s) (nI b) = nI (scn (accC q r pt (xDb q dead)) m s b) := by
  have p2 := p2_le q8
  have p0 : 0 < 2 ^ q := Nat.two_pow_pos q
  have eA : (xA q).toInt = ((2 ^ q - 1 : Nat) : Int) := by
    rw [xA_eq q8]
    exact nI_toInt (by omega)
  intro m
  induction m with
  | zero =>
    intro s k b hs hb
    have ss : (nI s).toInt = (s : Int) := nI_toInt (by omega)
    simp only [K_fewestDo_L3, K_fewestDo_5, K_fewestDo_9, K_fewestDo_12, K_fewestDo_13, K_fewestDo_11, K_fewestDo_10, K_fewestDo_8, K_fewestDo_7, K_fewestDo_6, K_fewestDo_4, K_fewestDo_3, K_fewestDo_2, K_fewestDo_1, M_fewestDo]
    rw [t_allR, if_pos (by omega)]
    rfl
  | succ m ih =>
    intro s k b hs hb
    have ss : (nI s).toInt = (s : Int) := nI_toInt (by omega)
    have z1 := ih (s + 1) k b (by omega) hb
    have z2 := ih (s + 1) k s (by omega) (by omega)
    have cs := (x_cnt ⟨s, by omega⟩).trans (cnt_x ⟨s, by omega⟩)
    have cb := (x_cnt ⟨b, by omega⟩).trans (cnt_x ⟨b, by omega⟩)
    dsimp only at cs cb
    have l1 := xpc_le s
    have l2 := xpc_le b
    have i1 : (nI (xpc s)).toInt = ((xpc s : Nat) : Int) := nI_toInt (by omega)
    have i2 : (nI (xpc b)).toInt = ((xpc b : Nat) : Int) := nI_toInt (by omega)
    show K_fewestDo_L3 (nI r) (nI q) (xA q &&& (dead ^^^ (-1))) pt ((k + m + 1) + 1) (nI s) (nI b) = _
    generalize k + m + 1 = j at z1 z2 ⊢
    unfold scn
    simp only [K_fewestDo_L3, K_fewestDo_5, K_fewestDo_9, K_fewestDo_12, K_fewestDo_13, K_fewestDo_11, K_fewestDo_10, K_fewestDo_8, K_fewestDo_7, K_fewestDo_6, K_fewestDo_4, K_fewestDo_3, K_fewestDo_2, K_fewestDo_1, M_fewestDo]
    rw [t_allR, if_neg (by omega), cs, cb, is_1 (up_s1 q8) hr, nI_1, z1, z2]
    by_cases c : xpc s < xpc b
    · rw [if_neg (by omega)]
      by_cases a : accC q r pt (xDb q dead) s = true
      · have a' : (xSet q pt (xwo s (xDb q dead))).testBit r = true := a
        rw [if_pos a', if_neg (by decide), if_pos ⟨a, c⟩]
      · have a' : ¬ (xSet q pt (xwo s (xDb q dead))).testBit r = true := a
        rw [if_neg a', if_pos (by decide), if_neg (fun y => a y.1)]
    · rw [if_pos (by omega), if_neg (fun y => c y.2)]
theorem m_need {wt : Bool} (hE : xE wt q pn pt Td Nm Tb) (hd : xDd dead F) (q8 : q ≤ 8) (hr : r < 8) {a1 : Int32} : ∀ (m s k b : Nat), s + m = 2 ^ q → b < 2 ^ q → K_m_need_L10 (nI q) a1 ((1 : Int32) <<< (nI q &&& 31)) (nI r) (xA q) Tb F (k + m + 1) (nI s) (nI b) = (fun z => if a1.toInt = 0 then M_m_countOf z else z) (nI (scn (accR q r pt (xDb q dead)) m s b)) := by
  have p2 := p2_le q8
  have p0 : 0 < 2 ^ q := Nat.two_pow_pos q
  have e1 : ((1 : Int32) <<< (nI q &&& 31)).toInt = ((2 ^ q : Nat) : Int) := by
    rw [x_shl ⟨q, by omega⟩]
    show (nI (2 ^ q)).toInt = _
    exact nI_toInt (by omega)
  have D8 := xDb_lt (d := dead) q8
  intro m
  induction m with
  | zero =>
    intro s k b hs hb
    have ss : (nI s).toInt = (s : Int) := nI_toInt (by omega)
    simp only [K_m_need_L10, K_m_need_9, K_m_need_15, K_m_need_14, K_m_need_13, K_m_need_11, K_m_need_22, K_m_need_23, K_m_need_21, K_m_need_19, K_m_need_26, K_m_need_29, K_m_need_30, K_m_need_28, K_m_need_27, K_m_need_25, K_m_need_24, K_m_need_20, K_m_need_18, K_m_need_17, K_m_need_16, K_m_need_12, K_m_need_10, K_m_need_8, K_m_need_7, K_m_need_6, K_m_need_4, K_m_need_5, K_m_need_3, K_m_need_2, K_m_need_1, M_m_need]
    rw [if_pos (by omega)]
    rfl
  | succ m ih =>
    intro s k b hs hb
    have ss : (nI s).toInt = (s : Int) := nI_toInt (by omega)
    have bb : (nI b).toInt = (b : Int) := nI_toInt (by omega)
    have z1 := ih (s + 1) k b (by omega) hb
    have z2 := ih (s + 1) k s (by omega) (by omega)
    have cs := cnt_x ⟨s, by omega⟩
    have cb := cnt_x ⟨b, by omega⟩
    dsimp only at cs cb
    have l1 := xpc_le s
    have l2 := xpc_le b
    have i1 : (nI (xpc s)).toInt = ((xpc s : Nat) : Int) := nI_toInt (by omega)
    have i2 : (nI (xpc b)).toInt = ((xpc b : Nat) : Int) := nI_toInt (by omega)
    have an : (nI s &&& nI (xDb q dead)).toInt = ((s &&& xDb q dead : Nat) : Int) := by
      rw [x_and (by omega) (by omega)]
      exact nI_toInt (Nat.lt_of_le_of_lt Nat.and_le_left (by omega))
    show K_m_need_L10 (nI q) a1 ((1 : Int32) <<< (nI q &&& 31)) (nI r) (xA q) Tb F ((k + m + 1) + 1) (nI s) (nI b) = _
    generalize k + m + 1 = j at z1 z2 ⊢
    have st : scn (accR q r pt (xDb q dead)) (m + 1) s b = if accR q r pt (xDb q dead) s = true ∧ xpc s < xpc b then scn (accR q r pt (xDb q dead)) m (s + 1) s else scn (accR q r pt (xDb q dead)) m (s + 1) b := rfl
    rw [st]
    have two : ∀ x : Nat, x = s ∨ x = b → K_m_need_L10 (nI q) a1 ((1 : Int32) <<< (nI q &&& 31)) (nI r) (xA q) Tb F j (nI (s + 1)) (nI x) = (fun z => if a1.toInt = 0 then M_m_countOf z else z) (nI (scn (accR q r pt (xDb q dead)) m (s + 1) x)) := fun x hx => by
      rcases hx with hx | hx
      · rw [hx]; exact z2
      · rw [hx]; exact z1
    have go : ∃ x : Nat, (x = s ∨ x = b) ∧ K_m_need_L10 (nI q) a1 ((1 : Int32) <<< (nI q &&& 31)) (nI r) (xA q) Tb F (j + 1) (nI s) (nI b) = K_m_need_L10 (nI q) a1 ((1 : Int32) <<< (nI q &&& 31)) (nI r) (xA q) Tb F j (nI (s + 1)) (nI x) ∧ x = (if accR q r pt (xDb q dead) s = true ∧ xpc s < xpc b then s else b) := by
      simp only [K_m_need_L10, K_m_need_9, K_m_need_15, K_m_need_14, K_m_need_13, K_m_need_11, K_m_need_22, K_m_need_23, K_m_need_21, K_m_need_19, K_m_need_26, K_m_need_29, K_m_need_30, K_m_need_28, K_m_need_27, K_m_need_25, K_m_need_24, K_m_need_20, K_m_need_18, K_m_need_17, K_m_need_16, K_m_need_12, K_m_need_10, K_m_need_8, K_m_need_7, K_m_need_6, K_m_need_4, K_m_need_5, K_m_need_3, K_m_need_2, K_m_need_1, M_m_need]
      rw [if_neg (by omega), r_dead hd q8, nI_1]
      by_cases o : (s &&& xDb q dead) = 0
      · rw [if_pos (by omega)]
        by_cases a : (xSet q pt s).testBit r = true
        · have ac : accR q r pt (xDb q dead) s = true := by
            unfold accR
            rw [a]
            simp [o]
          by_cases w : b = 2 ^ q - 1
          · rw [if_pos (by omega), is_2 (up_s2 hE q8) hr, if_pos a, if_neg (by decide)]
            refine ⟨s, Or.inl rfl, rfl, ?_⟩
            by_cases v : xpc s < xpc b
            · rw [if_pos ⟨ac, v⟩]
            · rw [if_neg (fun y => v y.2), w]
              exact xpc_max q8 (by omega) (by rw [← w]; omega)
          · rw [if_neg (by omega), cs, cb]
            by_cases v : xpc s < xpc b
            · rw [if_neg (by omega), is_2 (up_s2 hE q8) hr, if_pos a, if_neg (by decide), if_pos ⟨ac, v⟩]
              exact ⟨s, Or.inl rfl, rfl, rfl⟩
            · rw [if_pos (by omega), if_neg (fun y => v y.2)]
              exact ⟨b, Or.inr rfl, rfl, rfl⟩
        · have ac : ¬ accR q r pt (xDb q dead) s = true := by
            unfold accR
            simp [a]
          refine ⟨b, Or.inr rfl, ?_, (if_neg (fun y => ac y.1)).symm⟩
          by_cases w : b = 2 ^ q - 1
          · rw [if_pos (by omega), is_2 (up_s2 hE q8) hr, if_neg a, if_pos (by decide)]
          · rw [if_neg (by omega), cs, cb]
            by_cases v : (nI (xpc b)).toInt ≤ (nI (xpc s)).toInt
            · rw [if_pos v]
            · rw [if_neg v, is_2 (up_s2 hE q8) hr, if_neg a, if_pos (by decide)]
      · have ac : ¬ accR q r pt (xDb q dead) s = true := by
          unfold accR
          simp [o]
        rw [if_neg (by omega), if_neg (fun y => ac y.1)]
        exact ⟨b, Or.inr rfl, rfl, rfl⟩
    obtain ⟨x, x1, x2, x3⟩ := go
    rw [x2, two x x1, x3]
    by_cases y : accR q r pt (xDb q dead) s = true ∧ xpc s < xpc b
    · rw [if_pos y, if_pos y]
    · rw [if_neg y, if_neg y]
end
section
variable {a0 a1 rails limit retry behind mra mli mre mpa dead : Int32} {pn Td Nm Tb F : Nat → Int32} {pt : Nat → Int64}
theorem x_need_eq {wt : Bool} (h : xPl wt rails limit retry behind pn pt mra mli mre mpa Td Nm Tb) (hd : xDd dead F) : M_x_need a0 rails a1 pt dead = M_m_need a0 mra a1 Tb F := by
  obtain ⟨e, -, -, -, r8, hE⟩ := h
  subst e
  obtain ⟨eq, q8⟩ := xq_of r8
  generalize rails.toNatClampNeg = q at eq q8 hE
  subst eq
  have p2 := p2_le q8
  have p0 : 0 < 2 ^ q := Nat.two_pow_pos q
  simp only [K_x_need_4, K_x_need_10, K_x_need_15, K_x_need_14, K_x_need_13, K_x_need_12, K_x_need_11, K_x_need_9, K_x_need_8, K_x_need_6, K_x_need_7, K_x_need_5, K_x_need_3, K_x_need_2, K_x_need_1, M_x_need, K_m_need_9, K_m_need_15, K_m_need_14, K_m_need_13, K_m_need_11, K_m_need_22, K_m_need_23, K_m_need_21, K_m_need_19, K_m_need_26, K_m_need_29, K_m_need_30, K_m_need_28, K_m_need_27, K_m_need_25, K_m_need_24, K_m_need_20, K_m_need_18, K_m_need_17, K_m_need_16, K_m_need_12, K_m_need_8, K_m_need_7, K_m_need_6, K_m_need_4, K_m_need_5, K_m_need_3, K_m_need_2, K_m_need_1, M_m_need, K_fewestDo_5, K_fewestDo_9, K_fewestDo_12, K_fewestDo_13, K_fewestDo_11, K_fewestDo_10, K_fewestDo_8, K_fewestDo_7, K_fewestDo_6, K_fewestDo_4, K_fewestDo_2, K_fewestDo_1, M_fewestDo]
  rw [r_dead hd q8, i_can hE q8, t_alive, t_allR]
  by_cases z : 0 ≤ a0.toInt ∧ a0.toInt < (nI q).toInt
  · rw [if_pos z, if_pos z]
    by_cases y : 0 ≤ a1.toInt ∧ a1.toInt ≤ 1
    · rw [if_neg (by omega), if_pos y.2, if_pos y]
      by_cases u : (M_m_isUp a0 (nI q) (nI (xDb q dead)) Tb).toInt = 0
      · rw [if_pos u, if_pos u]
      · rw [if_neg u, if_neg u]
        have qq : (nI q).toInt = (q : Int) := nI_toInt (by omega)
        have an := xtn (x := a0) z.1
        have ea : nI a0.toNatClampNeg = a0 := xnI z.1
        have hr : a0.toNatClampNeg < 8 := by omega
        generalize a0.toNatClampNeg = r at ea hr an
        subst ea
        have A1 := c_need (pt := pt) (dead := dead) q8 hr (2 ^ q - 1) 1 (99999 - (2 ^ q - 1)) (2 ^ q - 1) (by omega) (by omega)
        have A2 := m_need (a1 := a1) hE hd q8 hr (2 ^ q) 0 (99999 - 2 ^ q) (2 ^ q - 1) (by omega) (by omega)
        rw [show 99999 - (2 ^ q - 1) + (2 ^ q - 1) + 1 = 100000 from by omega] at A1
        rw [show 99999 - 2 ^ q + 2 ^ q + 1 = 100000 from by omega] at A2
        have eA := xA_eq q8
        have r0 : accR q r pt (xDb q dead) 0 = false := by
          unfold accR
          rw [xSet_0]
          simp
        have s0 : scn (accR q r pt (xDb q dead)) (2 ^ q) 0 (2 ^ q - 1) = scn (accR q r pt (xDb q dead)) (2 ^ q - 1) 1 (2 ^ q - 1) := by
          obtain ⟨m, hm⟩ : ∃ m, 2 ^ q = m + 1 := ⟨2 ^ q - 1, by omega⟩
          rw [hm]
          show (if accR q r pt (xDb q dead) 0 = true ∧ _ then _ else _) = _
          rw [if_neg (fun w => by rw [r0] at w; exact absurd w.1 (by decide))]
          rfl
        have b0 : ∀ acc, xBest acc (2 ^ q - 1) 1 (2 ^ q - 1) := fun acc => ⟨Or.inl rfl, fun s s1 s2 => absurd s2 (by omega)⟩
        have B1 := scn_best (acc := accC q r pt (xDb q dead)) (2 ^ q - 1) 1 (2 ^ q - 1) (by decide) (b0 _)
        have B2 := scn_best (acc := accR q r pt (xDb q dead)) (2 ^ q - 1) 1 (2 ^ q - 1) (by decide) (b0 _)
        rw [show 1 + (2 ^ q - 1) = 2 ^ q - 1 + 1 from by omega] at B1 B2
        have same := scn_eq (fun s hs hx => xpc_max q8 hs hx) B1 B2 (fun s hs ha => by
          unfold accR at ha
          unfold accC
          rw [Bool.and_eq_true] at ha
          have o : s &&& xDb q dead = 0 := of_decide_eq_true ha.1
          have e : xwo s (xDb q dead) = s := by
            unfold xwo
            rw [o, Nat.xor_zero]
          rw [e]
          exact ha.2) (fun s s1 hs ha => by
          by_cases o : s &&& xDb q dead = 0
          · left
            have e : xwo s (xDb q dead) = s := by
              unfold xwo
              rw [o, Nat.xor_zero]
            unfold accC at ha
            rw [e] at ha
            unfold accR
            rw [ha]
            simp [o]
          · right
            have sub : ∀ j, (xwo s (xDb q dead)).testBit j = true → s.testBit j = true := fun j hj => by
              rw [xwo_b, Bool.and_eq_true] at hj
              exact hj.1
            have lt : xwo s (xDb q dead) ≤ s := by
              have e : xwo s (xDb q dead) = s &&& xwo s (xDb q dead) := Nat.eq_of_testBit_eq (fun j => by
                rw [Nat.testBit_and, xwo_b]
                cases s.testBit j <;> simp)
              rw [e]
              exact Nat.and_le_left
            have ne : s ≠ xwo s (xDb q dead) := fun w => o (by
              apply Nat.eq_of_testBit_eq
              intro j
              rw [Nat.testBit_and, Nat.zero_testBit]
              have this : s.testBit j = (xwo s (xDb q dead)).testBit j := congrArg (fun z => z.testBit j) w
              rw [xwo_b] at this
              cases a : s.testBit j
              · rfl
              · rw [a] at this
                cases b : (xDb q dead).testBit j
                · rfl
                · rw [b] at this
                  exact absurd this (by decide))
            refine ⟨xwo s (xDb q dead), ?_, by omega, ?_, ?_⟩
            · rcases Nat.eq_zero_or_pos (xwo s (xDb q dead)) with w | w
              · unfold accC at ha
                rw [w, xSet_0] at ha
                exact absurd ha (by simp)
              · exact w
            · unfold accR
              unfold accC at ha
              rw [ha]
              have : xwo s (xDb q dead) &&& xDb q dead = 0 := by
                apply Nat.eq_of_testBit_eq
                intro j
                rw [Nat.testBit_and, xwo_b, Nat.zero_testBit]
                cases s.testBit j <;> cases (xDb q dead).testBit j <;> rfl
              simp [this]
            · have := xpc_or (xwo_lt (by omega)) (show s < 256 by omega) sub ne
              omega)
        have A1' : K_fewestDo_L3 (nI r) (nI q) (xA q &&& (dead ^^^ (-1))) pt 100000 1 (xA q) = nI (scn (accC q r pt (xDb q dead)) (2 ^ q - 1) 1 (2 ^ q - 1)) := by
          rw [eA]
          rw [eA] at A1
          exact A1
        have A2' : K_m_need_L10 (nI q) a1 ((1 : Int32) <<< (nI q &&& 31)) (nI r) (xA q) Tb F 100000 0 (xA q) = (fun z => if a1.toInt = 0 then M_m_countOf z else z) (nI (scn (accR q r pt (xDb q dead)) (2 ^ q - 1) 1 (2 ^ q - 1))) := by
          rw [← s0, ← A2]
          show K_m_need_L10 (nI q) a1 _ (nI r) (xA q) Tb F 100000 (nI 0) (xA q) = _
          rw [eA]
        rw [A1']
        show _ = K_m_need_L10 (nI q) a1 ((1 : Int32) <<< (nI q &&& 31)) (nI r) (xA q) Tb F 100000 0 (xA q)
        rw [A2', same]
        generalize hx : scn (accR q r pt (xDb q dead)) (2 ^ q - 1) 1 (2 ^ q - 1) = x at B2
        have xl : x < 256 := by
          rcases B2.1 with w | ⟨-, -, w⟩ <;> omega
        have cs := x_cnt ⟨x, xl⟩
        dsimp only at cs ⊢
        rw [cs]
    · rw [if_neg y]
      by_cases w : a1.toInt < 0
      · rw [if_pos w]
      · rw [if_neg w, if_neg (by omega)]
  · rw [if_neg z, if_neg z]
end
