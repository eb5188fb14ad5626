theorem u01 {p : Nat → Int32} {i : Nat} {x : Int32} (h : p 0 = 0 ∨ p 0 = 1) (hx : x = 0 ∨ x = 1) : upd p i x 0 = 0 ∨ upd p i x 0 = 1 := by
  by_cases q : 0 = i
  · rw [← q, xupd_s]
    exact hx
  · rw [xupd_o q]
    exact h
theorem w01_L {c : Nat → Int32} {nc s : Int32} : ∀ (k : Nat) (x h : Int32) (p : Nat → Int32), (p 0 = 0 ∨ p 0 = 1) → (K_m_worth_L2 nc c s k x h p).1 = 0 ∨ (K_m_worth_L2 nc c s k x h p).1 = 1 := by
  have n0 : vp_nar .boolean (0 : Int32) = 0 := by decide
  have n1 : vp_nar .boolean (1 : Int32) = 1 := by decide
  intro k
  induction k with
  | zero => exact fun _ _ _ _ => Or.inl rfl
  | succ k ih =>
    intro x h p hp
    simp only [K_m_worth_L2, K_m_worth_3, K_m_worth_13, K_m_worth_15, K_m_worth_16, K_m_worth_14, K_m_worth_8, K_m_worth_11, K_m_worth_12, K_m_worth_10, K_m_worth_9, K_m_worth_7, K_m_worth_5, K_m_worth_18, K_m_worth_17, K_m_worth_6, K_m_worth_4, K_m_worth_2, K_m_worth_1, M_m_worth, n0, n1]
    repeat' split
    all_goals first | exact hp | exact ih _ _ _ (u01 hp (Or.inl rfl)) | exact ih _ _ _ (u01 hp (Or.inr rfl))
theorem r_worth2 {c p : Nat → Int32} {nc : Int32} {s : Nat} {b : Bool} (hs : s < 512) (h0 : 0 ≤ nc.toInt) (h4 : nc.toInt ≤ 400) (hl : ∀ j : Nat, j < nc.toNatClampNeg → 0 ≤ (c j).toInt ∧ ((c j).toInt < 9 ∨ (c j).toInt = 10 ∨ (c j).toInt = 11)) (wk : xwk c nc.toNatClampNeg) (hv : xev c s nc.toNatClampNeg = [b]) : vp_nar .boolean (M_m_worth nc c (nI s) p).1 = if b = true then 1 else 0 := by
  have n0 : vp_nar .boolean (0 : Int32) = 0 := by decide
  have n1 : vp_nar .boolean (1 : Int32) = 1 := by decide
  have c0 : (0 : Int32).toNatClampNeg = 0 := by decide
  have z0 : (0 : Int32).toInt = 0 := by decide
  have ncn := xtn (x := nc) h0
  have r := r_worth (p := p) hs h0 h4 (fun j hj => hl j (by omega)) wk hv
  have pos : 0 < nc.toNatClampNeg := by
    rcases Nat.eq_zero_or_pos nc.toNatClampNeg with z | z
    · rw [z] at hv
      exact absurd hv (by simp [xev])
    · exact z
  have l0 : (c 0).toInt < 9 := by
    by_cases z : 9 ≤ (c 0).toInt
    · obtain ⟨y, x, t, e⟩ := wk 0 pos z s hs
      exact absurd e (by simp [xev])
    · omega
  have e : (M_m_worth nc c (nI s) p).1 = 0 ∨ (M_m_worth nc c (nI s) p).1 = 1 := by
    have go : M_m_worth nc c (nI s) p = if ((nI s >>> (c 0 &&& 31)) &&& (1 : Int32)).toInt = 1 then K_m_worth_L2 nc c (nI s) 99999 (0 + 1) (0 + 1) (upd p 0 1) else K_m_worth_L2 nc c (nI s) 99999 (0 + 1) (0 + 1) (upd p 0 0) := by
      show K_m_worth_L2 nc c (nI s) (99999 + 1) 0 0 p = _
      generalize 99999 = j
      simp only [K_m_worth_L2, K_m_worth_3, K_m_worth_13, K_m_worth_15, K_m_worth_16, K_m_worth_14, K_m_worth_8, K_m_worth_11, K_m_worth_12, K_m_worth_10, K_m_worth_9, K_m_worth_7, K_m_worth_5, K_m_worth_18, K_m_worth_17, K_m_worth_6, K_m_worth_4, K_m_worth_2, K_m_worth_1, M_m_worth, n0, n1, c0]
      rw [if_neg (by omega), if_neg (by omega)]
    rw [go]
    split
    · exact w01_L _ _ _ _ (Or.inr xupd_s)
    · exact w01_L _ _ _ _ (Or.inl xupd_s)
  rcases e with e | e
  · rw [e, n0]
    rw [e] at r
    have : b = false := r.mp z0
    rw [this]
    rfl
  · rw [e, n1]
    rw [e] at r
    have : b = true := by
      cases b
      · exact absurd (r.mpr rfl) (by decide)
      · rfl
    rw [this]
    rfl
theorem b_kt {f c : Nat → Int32} {nc : Int32} {q : Nat} {v : Nat → Bool} (hq : q < 8) (h0 : 0 ≤ nc.toInt) (h4 : nc.toInt ≤ 400) (hl : ∀ j : Nat, j < nc.toNatClampNeg → 0 ≤ (c j).toInt ∧ ((c j).toInt < 9 ∨ (c j).toInt = 10 ∨ (c j).toInt = 11)) (wk : xwk c nc.toNatClampNeg) (hv : ∀ s, s < 512 → xev c s nc.toNatClampNeg = [v s]) : ∀ (m x k : Nat) (T P : Nat → Int32), x + m = 512 → ∃ T' P' : Nat → Int32, K_m_keepFormula_L5 f (nI q) nc c (k + m + 1) (nI x) T P = (f, T', P') ∧ (∀ s, x ≤ s → s < 512 → T' (512 * q + s) = if v s = true then 1 else 0) ∧ (∀ j, j < 512 * q + x ∨ 512 * q + 512 ≤ j → T' j = T j) := by
  intro m
  induction m with
  | zero =>
    intro x k T P hx
    have ex : (nI x).toInt = (x : Int) := nI_toInt (by omega)
    refine ⟨T, P, ?_, fun s a b => absurd a (by omega), fun j _ => rfl⟩
    simp only [K_m_keepFormula_L5, K_m_keepFormula_6, K_m_keepFormula_8, K_m_keepFormula_7, K_m_keepFormula_5, K_m_keepFormula_3, K_m_keepFormula_9, K_m_keepFormula_10, K_m_keepFormula_4, K_m_keepFormula_2, K_m_keepFormula_1, M_m_keepFormula]
    rw [if_pos (by omega)]
  | succ m ih =>
    intro x k T P hx
    have ex : (nI x).toInt = (x : Int) := nI_toInt (by omega)
    have ei : ((512 : Int32) * nI q + nI x).toNatClampNeg = 512 * q + x := by
      have e1 : (512 : Int32) * nI q = nI (512 * q) := pk_mul 512 q
      rw [e1, nI_add, nI_clamp (by omega)]
    obtain ⟨T', P', a1, a2, a3⟩ := ih (x + 1) k (upd T (512 * q + x) (vp_nar .boolean (M_m_worth nc c (nI x) P).1)) (M_m_worth nc c (nI x) P).2 (by omega)
    have w := r_worth2 (p := P) (show x < 512 by omega) h0 h4 hl wk (hv x (by omega))
    refine ⟨T', P', ?_, fun s s1 s2 => ?_, fun j hj => ?_⟩
    · show K_m_keepFormula_L5 f (nI q) nc c ((k + m + 1) + 1) (nI x) T P = _
      rw [← a1]
      generalize k + m + 1 = j
      simp only [K_m_keepFormula_L5, K_m_keepFormula_6, K_m_keepFormula_8, K_m_keepFormula_7, K_m_keepFormula_5, K_m_keepFormula_3, K_m_keepFormula_9, K_m_keepFormula_10, K_m_keepFormula_4, K_m_keepFormula_2, K_m_keepFormula_1, M_m_keepFormula]
      rw [if_neg (by omega), ei, nI_1]
    · by_cases y : s = x
      · rw [y, a3 (512 * q + x) (by omega), xupd_s, w]
      · exact a2 s (by omega) s2
    · rw [a3 j (by omega), xupd_o (by omega)]
theorem b_kn {f c T P : Nat → Int32} {nc : Int32} {q : Nat} (hq : q < 8) (h0 : 0 ≤ nc.toInt) (h4 : nc.toInt ≤ 400) : ∀ (m x k : Nat), x + m = nc.toNatClampNeg → K_m_keepFormula_L2 nc (nI q) c T P (k + m + 1) (nI x) (upd f q (xnm c x)) = K_m_keepFormula_L5 (upd f q (xnm c (x + m))) (nI q) nc c 100000 0 T P := by
  have ncn := xtn (x := nc) h0
  have eq : (nI q).toNatClampNeg = q := nI_clamp (by omega)
  intro m
  induction m with
  | zero =>
    intro x k hx
    have ex : (nI x).toInt = (x : Int) := nI_toInt (by omega)
    simp only [K_m_keepFormula_L2, K_m_keepFormula_2, K_m_keepFormula_3]
    rw [if_pos (by omega)]
    rfl
  | succ m ih =>
    intro x k hx
    have ex : (nI x).toInt = (x : Int) := nI_toInt (by omega)
    have exc : (nI x).toNatClampNeg = x := nI_clamp (by omega)
    have z := ih (x + 1) k (by omega)
    rw [show x + 1 + m = x + (m + 1) from by omega] at z
    rw [← z]
    show K_m_keepFormula_L2 nc (nI q) c T P ((k + m + 1) + 1) (nI x) (upd f q (xnm c x)) = _
    generalize k + m + 1 = j
    have go : K_m_keepFormula_L2 nc (nI q) c T P (j + 1) (nI x) (upd f q (xnm c x)) = if 9 ≤ (c x).toInt then K_m_keepFormula_L2 nc (nI q) c T P j (nI x + 1) (upd (upd f q (xnm c x)) q (xnm c x ||| 0)) else K_m_keepFormula_L2 nc (nI q) c T P j (nI x + 1) (upd (upd f q (xnm c x)) q (xnm c x ||| ((1 : Int32) <<< (c x &&& 31)))) := by
      simp only [K_m_keepFormula_L2, K_m_keepFormula_2, K_m_keepFormula_4, K_m_keepFormula_9, K_m_keepFormula_10, eq, exc, xupd_s]
      rw [if_neg (by omega)]
    rw [go, xnm, nI_1]
    by_cases y : 9 ≤ (c x).toInt
    · rw [if_pos y, if_pos y, xupd_2]
    · rw [if_neg y, if_neg y, xupd_2]
/-- what the reference keeps of a formula: its names, its table -/
theorem r_keep {c T P f : Nat → Int32} {nc : Int32} {q : Nat} {v : Nat → Bool} (hq : q < 8) (h0 : 0 ≤ nc.toInt) (h4 : nc.toInt ≤ 400) (hl : ∀ j : Nat, j < nc.toNatClampNeg → 0 ≤ (c j).toInt ∧ ((c j).toInt < 9 ∨ (c j).toInt = 10 ∨ (c j).toInt = 11)) (wk : xwk c nc.toNatClampNeg) (hv : ∀ s, s < 512 → xev c s nc.toNatClampNeg = [v s]) : ∃ T' P' : Nat → Int32, M_m_keepFormula nc (nI q) c T P f = (upd f q (xnm c nc.toNatClampNeg), T', P') ∧ (∀ s, s < 512 → T' (512 * q + s) = if v s = true then 1 else 0) ∧ (∀ j, j < 512 * q ∨ 512 * q + 512 ≤ j → T' j = T j) := by
  have ncn := xtn (x := nc) h0
  obtain ⟨T', P', a1, a2, a3⟩ := b_kt (f := upd f q (xnm c nc.toNatClampNeg)) hq h0 h4 hl wk hv 512 0 99487 T P (by omega)
  refine ⟨T', P', ?_, fun s hs => a2 s (by omega) hs, fun j hj => a3 j (by omega)⟩
  rw [← a1]
  have z := b_kn (f := f) (c := c) (T := T) (P := P) hq h0 h4 nc.toNatClampNeg 0 (99999 - nc.toNatClampNeg) (by omega)
  rw [show 99999 - nc.toNatClampNeg + nc.toNatClampNeg + 1 = 100000 from by omega, Nat.zero_add] at z
  have eq : (nI q).toNatClampNeg = q := nI_clamp (by omega)
  show K_m_keepFormula_L2 nc (nI q) c T P 100000 0 (upd f (nI q).toNatClampNeg 0) = _
  rw [eq]
  exact z
