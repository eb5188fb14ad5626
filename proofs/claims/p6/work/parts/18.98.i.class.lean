/-- the next row, by the RAILS of X -/
theorem nx_in {X : Nat} : ∀ (n k : Nat) (i : Int32) (u : Nat → Nat) (f : Nat → Int32), n ≤ 8 → i.toInt = (n : Int) - 1 → (∀ j, j < 8 → f j = nI (u j)) → (∀ j, u j < 4) → ∃ (u' : Nat → Nat) (f' : Nat → Int32) (g : Int32), K_nextRow_L2 (nI X) (k + n + 1) i f = (g, f') ∧ (∀ j, j < 8 → f' j = nI (u' j)) ∧ (∀ j, u' j < 4) ∧ (∀ j, n ≤ j → u' j = u j) ∧ (∀ j, ¬ X.testBit j = true → u' j = u j) ∧ ((g = 1 ∧ yKa X u' n = yKa X u n + 1) ∨ (g = 0 ∧ ∀ j, j < n → X.testBit j = true → u j = 3)) := by
  intro n
  induction n with
  | zero =>
    intro k i u f _ hi hf h4
    refine ⟨u, f, 0, ?_, hf, h4, fun _ _ => rfl, fun _ _ => rfl, Or.inr ⟨rfl, fun j hj => absurd hj (by omega)⟩⟩
    simp only [K_nextRow_L2, K_nextRow_3, K_nextRow_6, K_nextRow_7, K_nextRow_8, K_nextRow_5, K_nextRow_4, K_nextRow_2, K_nextRow_1, M_nextRow]
    rw [if_pos (by omega)]
  | succ n ih =>
    intro k i u f hn hi hf h4
    have en : (nI n).toInt = (n : Int) := nI_toInt (by omega)
    obtain rfl : i = nI n := Int32.toInt_inj.mp (by omega)
    have enc : (nI n).toNatClampNeg = n := nI_clamp (by omega)
    have m1 : (nI n + (-1)).toInt = (n : Int) + (-1) := xadd en (by decide) (by omega) (by omega)
    obtain ⟨nz, enz⟩ : ∃ nz : Int32, nI n + (-1) = nz := ⟨_, rfl⟩
    rw [enz] at m1
    have eu : (nI (u n)).toInt = ((u n : Nat) : Int) := nI_toInt (by have := h4 n; omega)
    have un : K_nextRow_L2 (nI X) ((k + n + 1) + 1) (nI n) f = if ((nI X >>> (nI n &&& 31)) &&& (1 : Int32)).toInt = 0 then K_nextRow_L2 (nI X) (k + n + 1) nz f else if 3 ≤ (nI (u n)).toInt then K_nextRow_L2 (nI X) (k + n + 1) nz (upd f n 0) else (1, upd f n (nI (u n) + 1)) := by
      generalize k + n + 1 = j
      simp only [K_nextRow_L2, K_nextRow_3, K_nextRow_6, K_nextRow_7, K_nextRow_8, K_nextRow_5, K_nextRow_4, K_nextRow_2, K_nextRow_1, M_nextRow, enz]
      rw [if_neg (by omega), enc, hf n (by omega)]
    have bt : ((nI X >>> (nI n &&& 31)) &&& (1 : Int32)).toInt = 0 ↔ X.testBit n = false := by rw [xsr_0 (nI X) (by omega), xb_nI (by omega)]
    by_cases b : X.testBit n = true
    · rw [if_neg (fun z => by rw [bt.mp z] at b; exact absurd b (by decide))] at un
      by_cases c : u n = 3
      · rw [if_pos (by omega)] at un
        obtain ⟨u', f', g, a1, a2, a3, a4, a5, a6⟩ := ih k nz (fun j => if j = n then 0 else u j) (upd f n 0) (by omega) (by omega) (fun j hj => by
          by_cases e : j = n
          · rw [e, xupd_s]
            show (0 : Int32) = nI (if n = n then 0 else u n)
            rw [if_pos rfl]
            rfl
          · rw [xupd_o e, hf j hj]
            show nI (u j) = nI (if j = n then 0 else u j)
            rw [if_neg e]) (fun j => by
          show (if j = n then 0 else u j) < 4
          split
          · decide
          · exact h4 j)
        have u0 : u' n = 0 := (a4 n (Nat.le_refl _)).trans (if_pos rfl)
        have ke : yKa X (fun j => if j = n then 0 else u j) n = yKa X u n := yKa_ext n (fun j hj => if_neg (by omega))
        refine ⟨u', f', g, un.trans a1, a2, a3, fun j hj => (a4 j (by omega)).trans (if_neg (by omega)), fun j hj => (a5 j hj).trans (if_neg (fun e => hj (by rw [e]; exact b))), ?_⟩
        rcases a6 with ⟨c1, c2⟩ | ⟨c1, c2⟩
        · refine Or.inl ⟨c1, ?_⟩
          rw [yKa, yKa, if_pos b, if_pos b, c2, ke, u0, c]
          omega
        · refine Or.inr ⟨c1, fun j hj hb9 => ?_⟩
          by_cases e : j = n
          · rw [e]; exact c
          · have z := c2 j (by omega) hb9
            rw [if_neg e] at z
            exact z
      · have u4 := h4 n
        rw [if_neg (by omega), nI_1] at un
        refine ⟨fun j => if j = n then u n + 1 else u j, _, 1, un, fun j hj => ?_, fun j => ?_, fun j hj => if_neg (by omega), fun j hj => if_neg (fun e => hj (by rw [e]; exact b)), Or.inl ⟨rfl, ?_⟩⟩
        · by_cases e : j = n
          · rw [e, xupd_s]
            show _ = nI (if n = n then u n + 1 else u n)
            rw [if_pos rfl]
          · rw [xupd_o e, hf j hj]
            show nI (u j) = nI (if j = n then u n + 1 else u j)
            rw [if_neg e]
        · show (if j = n then u n + 1 else u j) < 4
          split
          · omega
          · exact h4 j
        · rw [yKa, yKa, if_pos b, if_pos b, yKa_ext (v := u) n (fun j hj => if_neg (by omega)), if_pos rfl]
          omega
    · have b2 : X.testBit n = false := by
        cases e : X.testBit n with
        | false => rfl
        | true => exact absurd e b
      rw [if_pos (bt.mpr b2)] at un
      obtain ⟨u', f', g, a1, a2, a3, a4, a5, a6⟩ := ih k nz u f (by omega) (by omega) hf h4
      refine ⟨u', f', g, un.trans a1, a2, a3, fun j hj => a4 j (by omega), a5, ?_⟩
      rcases a6 with ⟨c1, c2⟩ | ⟨c1, c2⟩
      · refine Or.inl ⟨c1, ?_⟩
        rw [yKa, yKa, if_neg b, if_neg b]
        exact c2
      · refine Or.inr ⟨c1, fun j hj hb9 => ?_⟩
        by_cases e : j = n
        · rw [e] at hb9; exact absurd hb9 b
        · exact c2 j (by omega) hb9
theorem t_nextRow {X : Nat} {u : Nat → Nat} {f : Nat → Int32} (hf : ∀ j, j < 8 → f j = nI (u j)) (h4 : ∀ j, u j < 4) : ∃ (u' : Nat → Nat) (f' : Nat → Int32) (g : Int32), M_nextRow (nI X) f = (g, f') ∧ (∀ j, j < 8 → f' j = nI (u' j)) ∧ (∀ j, u' j < 4) ∧ (∀ j, ¬ X.testBit j = true → u' j = u j) ∧ ((g = 1 ∧ yKa X u' 8 = yKa X u 8 + 1) ∨ (g = 0 ∧ ∀ j, j < 8 → X.testBit j = true → u j = 3)) := by
  obtain ⟨u', f', g, a1, a2, a3, -, a5, a6⟩ := nx_in (X := X) 8 99991 7 u f (by decide) (by decide) hf h4
  exact ⟨u', f', g, a1, a2, a3, a5, a6⟩
theorem yKa_8 {X q : Nat} {w : Nat → Nat} (hX : ∀ j, X.testBit j = true → j < q) : ∀ d, yKa X w (q + d) = yKa X w q := by
  intro d
  induction d with
  | zero => rfl
  | succ d ih =>
    show yKa X w ((q + d) + 1) = yKa X w q
    rw [yKa, if_neg (fun z => by have := hX _ z; omega), ih]
/-- the class's times for a row of waits -/
theorem t_row {fw ft fr fg : Nat → Int32} {w k : Nat → Nat} {pt : Nat → Int64} {q : Nat} {d : Int32} (q8 : q ≤ 8) (m : yMono q pt) (hw : ∀ j, j < q → fw j = nI (w j) ∧ w j ≤ 9) (hk : ∀ j, j < q → ft j = nI (k j) ∧ 1 ≤ k j ∧ k j ≤ 9) {s0 : Int32} {P : Nat → Bool} (hP : ∀ j, j < q → P j = xb s0 j) (h1 : ∀ j, j < q → (P j = true → xb (nI (xDb q d)) j = false) ∧ ((yX q pt d).testBit j = true → P j = true)) (h2 : ∀ j, j < q → xb (nI (xDb q d)) j = false → P j = true ∨ (yX q pt d).testBit j = false) : ∃ fr' fg' : Nat → Int32, M_follow (nI q) s0 fw ft pt fr fg = (nI (yX q pt d), nI (yLT q pt d k w), fr', fg') ∧ yLT q pt d k w ≤ 144 ∧ (∀ x, x < q → yT q pt d w k x ≠ 100000 → fr' x = nI (yT q pt d w k x + w x) ∧ fg' x = nI (yGT q pt d k w x) ∧ yT q pt d w k x + w x ≤ yGT q pt d k w x ∧ yGT q pt d k w x ≤ yLT q pt d k w) ∧ ∀ x, x < q → ((yX q pt d).testBit x = true ↔ yT q pt d w k x ≠ 100000) := by
  have po := r_follow (fr := fr) (fg := fg) (pt := pt) (P := P) q8 hw hk hP
  have al := yE_all q8 m h1 h2 po
  have eP := yM_P (w := w) (k9 := k) q8 m h1 201 (by decide)
  generalize M_follow (nI q) s0 fw ft pt fr fg = R at po
  obtain ⟨p1, ⟨T, t1, t2, t3, t4⟩, p3, -⟩ := po
  rw [eP] at p1 t3 t4 p3
  have p1 : R.1 = nI (yE q (yT q pt d w k)) := p1
  rw [al] at p1
  have t3 : ∀ x, x < q → yT q pt d w k x ≠ 100000 → yGT q pt d k w x ≤ T := t3
  have t4 : (T = 0 ∧ ∀ x, x < q → yT q pt d w k x = 100000) ∨ ∃ x, x < q ∧ yT q pt d w k x ≠ 100000 ∧ yGT q pt d k w x = T := t4
  have p3 : ∀ x, x < q → yT q pt d w k x ≠ 100000 → R.2.2.1 x = nI (yT q pt d w k x + w x) ∧ R.2.2.2 x = nI (yGT q pt d k w x) := p3
  have gs : ∀ x, yT q pt d w k x ≠ 100000 → yGT q pt d k w x = yT q pt d w k x + w x + k x := fun x h => if_neg h
  have gn : ∀ x, yT q pt d w k x = 100000 → yGT q pt d k w x = 100000 := fun x h => if_pos h
  have ne : ∀ x, x < q → (yGT q pt d k w x ≠ 100000 ↔ yT q pt d w k x ≠ 100000) := fun x hx => ⟨fun a b => a (gn x b), fun a => by have := t3 x hx a; omega⟩
  have eL : yLT q pt d k w = T := yMx_eq (fun x hx h => t3 x hx ((ne x hx).mp h)) (by
    rcases t4 with ⟨a, b⟩ | ⟨x, a, b, c⟩
    · exact Or.inl ⟨a, fun x hx => gn x (b x hx)⟩
    · exact Or.inr ⟨x, a, (ne x a).mpr b, c⟩)
  refine ⟨R.2.2.1, R.2.2.2, ?_, by omega, fun x hx h => ⟨(p3 x hx h).1, (p3 x hx h).2, by rw [gs x h]; omega, by rw [eL]; exact t3 x hx h⟩, fun x hx => ?_⟩
  · rw [eL, ← p1, ← t2]
  · rw [← al]
    unfold yE
    rw [xup_bit, Nat.zero_testBit, Bool.false_or, Bool.and_eq_true, decide_eq_true_iff, decide_eq_true_iff]
    exact ⟨fun z => z.2, fun z => ⟨hx, z⟩⟩
/-- the peak for a row of waits -/
def yPT (q : Nat) (pt : Nat → Int64) (d : Int32) (k : Nat → Nat) (n3 n4 : Nat → Int32) (w : Nat → Nat) : Int32 × Int32 := yPk (yDr q pt d k n3 n4 w) 200
theorem yDr_end {q : Nat} {pt : Nat → Int64} {d : Int32} {w k : Nat → Nat} {n3 n4 : Nat → Int32} (h1 : yLT q pt d k w ≤ 144) (h2 : ∀ x, x < q → yT q pt d w k x ≠ 100000 → yT q pt d w k x + w x ≤ yGT q pt d k w x ∧ yGT q pt d k w x ≤ yLT q pt d k w) : yPT q pt d k n3 n4 w = yPk (yDr q pt d k n3 n4 w) (yLT q pt d k w) := by
  have gn : ∀ x, yT q pt d w k x = 100000 → yGT q pt d k w x = 100000 := fun x h => if_pos h
  have z := yPk_end (D := yDr q pt d k n3 n4 w) (T := yLT q pt d k w) (B := 200) (fun t t1 t2 => by
    unfold yDr
    refine yD_ext q (fun x hx => ?_)
    unfold yV
    by_cases a : yT q pt d w k x = 100000
    · rw [gn x a, if_neg (show ¬ 100000 ≤ t by omega), if_neg (fun y : yT q pt d w k x ≠ 100000 ∧ yT q pt d w k x + w x ≤ t => y.1 a), if_neg (show ¬ 100000 ≤ yLT q pt d k w by omega), if_neg (fun y : yT q pt d w k x ≠ 100000 ∧ yT q pt d w k x + w x ≤ yLT q pt d k w => y.1 a)]
    · obtain ⟨b1, b2⟩ := h2 x hx a
      rw [if_pos (by omega), if_pos (by omega)]) (200 - yLT q pt d k w) (by omega)
  rw [show yLT q pt d k w + (200 - yLT q pt d k w) = 200 from by omega] at z
  exact z
