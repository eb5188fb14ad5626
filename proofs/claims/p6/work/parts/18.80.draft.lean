section
variable {dr : Int32} {S I U D K G dT T dN Nm dO o nm : Nat → Int32}
theorem kd2 : ∀ (m x k : Nat) (f : Nat → Int32), x + m = 56 → ∃ f' : Nat → Int32, K_m_keepDraft_L2 dr S I U D K G dT T dN Nm dO (k + m + 1) (nI x) f = K_m_keepDraft_L5 f' dr S I U D K G dT T dN 100000 0 Nm ∧ (∀ j, x ≤ j → j < 56 → f' j = dO j) ∧ (∀ j, j < x → f' j = f j) := by
  intro m
  induction m with
  | zero =>
    intro x k f hx
    have ex : (nI x).toInt = (x : Int) := nI_toInt (by omega)
    refine ⟨f, ?_, fun j a b => absurd a (by omega), fun j _ => rfl⟩
    simp only [K_m_keepDraft_L2, K_m_keepDraft_11, K_m_keepDraft_9, K_m_keepDraft_10, K_m_keepDraft_8, K_m_keepDraft_6, K_m_keepDraft_7, K_m_keepDraft_5, K_m_keepDraft_3, K_m_keepDraft_4, K_m_keepDraft_2, K_m_keepDraft_1, M_m_keepDraft]
    rw [if_pos (by omega)]
  | succ m ih =>
    intro x k f hx
    have ex : (nI x).toInt = (x : Int) := nI_toInt (by omega)
    have exc : (nI x).toNatClampNeg = x := nI_clamp (by omega)
    obtain ⟨f', a1, a2, a3⟩ := ih (x + 1) k (upd f x (dO x)) (by omega)
    refine ⟨f', ?_, fun j j1 j2 => ?_, fun j hj => ?_⟩
    · show K_m_keepDraft_L2 dr S I U D K G dT T dN Nm dO ((k + m + 1) + 1) (nI x) f = _
      rw [← a1]
      generalize k + m + 1 = j
      simp only [K_m_keepDraft_L2, K_m_keepDraft_11, K_m_keepDraft_9, K_m_keepDraft_10, K_m_keepDraft_8, K_m_keepDraft_6, K_m_keepDraft_7, K_m_keepDraft_5, K_m_keepDraft_3, K_m_keepDraft_4, K_m_keepDraft_2, K_m_keepDraft_1, M_m_keepDraft]
      rw [if_neg (by omega), exc, nI_1]
    · by_cases y : j = x
      · rw [y, a3 x (by omega), xupd_s]
      · exact a2 j (by omega) j2
    · rw [a3 j (by omega), xupd_o (by omega)]
theorem kd5 : ∀ (m x k : Nat) (f : Nat → Int32), x + m = 8 → ∃ f' : Nat → Int32, K_m_keepDraft_L5 o dr S I U D K G dT T dN (k + m + 1) (nI x) f = K_m_keepDraft_L8 o f' dr S I U D K G dT 100000 0 T ∧ (∀ j, x ≤ j → j < 8 → f' j = dN j) ∧ (∀ j, j < x → f' j = f j) := by
  intro m
  induction m with
  | zero =>
    intro x k f hx
    have ex : (nI x).toInt = (x : Int) := nI_toInt (by omega)
    refine ⟨f, ?_, fun j a b => absurd a (by omega), fun j _ => rfl⟩
    simp only [K_m_keepDraft_L5, K_m_keepDraft_11, K_m_keepDraft_9, K_m_keepDraft_10, K_m_keepDraft_8, K_m_keepDraft_6, K_m_keepDraft_7, K_m_keepDraft_5, K_m_keepDraft_3, K_m_keepDraft_4, K_m_keepDraft_2, K_m_keepDraft_1, M_m_keepDraft]
    rw [if_pos (by omega)]
  | succ m ih =>
    intro x k f hx
    have ex : (nI x).toInt = (x : Int) := nI_toInt (by omega)
    have exc : (nI x).toNatClampNeg = x := nI_clamp (by omega)
    obtain ⟨f', a1, a2, a3⟩ := ih (x + 1) k (upd f x (dN x)) (by omega)
    refine ⟨f', ?_, fun j j1 j2 => ?_, fun j hj => ?_⟩
    · show K_m_keepDraft_L5 o dr S I U D K G dT T dN ((k + m + 1) + 1) (nI x) f = _
      rw [← a1]
      generalize k + m + 1 = j
      simp only [K_m_keepDraft_L5, K_m_keepDraft_11, K_m_keepDraft_9, K_m_keepDraft_10, K_m_keepDraft_8, K_m_keepDraft_6, K_m_keepDraft_7, K_m_keepDraft_5, K_m_keepDraft_3, K_m_keepDraft_4, K_m_keepDraft_2, K_m_keepDraft_1, M_m_keepDraft]
      rw [if_neg (by omega), exc, nI_1]
    · by_cases y : j = x
      · rw [y, a3 x (by omega), xupd_s]
      · exact a2 j (by omega) j2
    · rw [a3 j (by omega), xupd_o (by omega)]
theorem kd8 : ∀ (m x k : Nat) (f : Nat → Int32), x + m = 4096 → ∃ f' : Nat → Int32, K_m_keepDraft_L8 o nm dr S I U D K G dT (k + m + 1) (nI x) f = (fun t => (o, nm, f', t.1, t.2.1, t.2.2.1, t.2.2.2.1, t.2.2.2.2.1, t.2.2.2.2.2)) (M_m_begins dr o S I U D K G) ∧ (∀ j, x ≤ j → j < 4096 → f' j = vp_nar .boolean (dT j)) ∧ (∀ j, j < x → f' j = f j) := by
  intro m
  induction m with
  | zero =>
    intro x k f hx
    have ex : (nI x).toInt = (x : Int) := nI_toInt (by omega)
    refine ⟨f, ?_, fun j a b => absurd a (by omega), fun j _ => rfl⟩
    simp only [K_m_keepDraft_L8, K_m_keepDraft_11, K_m_keepDraft_9, K_m_keepDraft_10, K_m_keepDraft_8, K_m_keepDraft_6, K_m_keepDraft_7, K_m_keepDraft_5, K_m_keepDraft_3, K_m_keepDraft_4, K_m_keepDraft_2, K_m_keepDraft_1, M_m_keepDraft]
    rw [if_pos (by omega)]
  | succ m ih =>
    intro x k f hx
    have ex : (nI x).toInt = (x : Int) := nI_toInt (by omega)
    have exc : (nI x).toNatClampNeg = x := nI_clamp (by omega)
    obtain ⟨f', a1, a2, a3⟩ := ih (x + 1) k (upd f x (vp_nar .boolean (dT x))) (by omega)
    refine ⟨f', ?_, fun j j1 j2 => ?_, fun j hj => ?_⟩
    · show K_m_keepDraft_L8 o nm dr S I U D K G dT ((k + m + 1) + 1) (nI x) f = _
      rw [← a1]
      generalize k + m + 1 = j
      simp only [K_m_keepDraft_L8, K_m_keepDraft_11, K_m_keepDraft_9, K_m_keepDraft_10, K_m_keepDraft_8, K_m_keepDraft_6, K_m_keepDraft_7, K_m_keepDraft_5, K_m_keepDraft_3, K_m_keepDraft_4, K_m_keepDraft_2, K_m_keepDraft_1, M_m_keepDraft]
      rw [if_neg (by omega), exc, nI_1]
    · by_cases y : j = x
      · rw [y, a3 x (by omega), xupd_s]
      · exact a2 j (by omega) j2
    · rw [a3 j (by omega), xupd_o (by omega)]
/-- how all begins, the reference's side -/
def xB0 (q : Int) (o S I U D K G : Nat → Int32) (j : Nat) : Prop := S j = 0 ∧ I j = 0 ∧ U j = 0 ∧ D j = 0 ∧ K j = (if (j : Int) < q then o (7 * j) else 0) ∧ G j = 0
theorem b_beg : ∀ (m x k : Nat) (S I U D K G : Nat → Int32), x + m = 8 → ∃ S' I' U' D' K' G' : Nat → Int32, K_m_begins_L2 dr o (k + m + 1) (nI x) S I U D K G = (S', I', U', D', K', G') ∧ (∀ j, x ≤ j → j < 8 → xB0 dr.toInt o S' I' U' D' K' G' j) ∧ (∀ j, j < x → S' j = S j ∧ I' j = I j ∧ U' j = U j ∧ D' j = D j ∧ K' j = K j ∧ G' j = G j) := by
  intro m
  induction m with
  | zero =>
    intro x k S I U D K G hx
    have ex : (nI x).toInt = (x : Int) := nI_toInt (by omega)
    refine ⟨S, I, U, D, K, G, ?_, fun j a b => absurd a (by omega), fun j _ => ⟨rfl, rfl, rfl, rfl, rfl, rfl⟩⟩
    simp only [K_m_begins_L2, K_m_begins_3, K_m_begins_5, K_m_begins_7, K_m_begins_6, K_m_begins_4, K_m_begins_2, K_m_begins_1, M_m_begins]
    rw [if_pos (by omega)]
  | succ m ih =>
    intro x k S I U D K G hx
    have ex : (nI x).toInt = (x : Int) := nI_toInt (by omega)
    have exc : (nI x).toNatClampNeg = x := nI_clamp (by omega)
    have e7 : ((7 : Int32) * nI x + 0).toNatClampNeg = 7 * x := by
      have := xi7 (q := x) (k := 0) (by omega) (by decide)
      exact this
    have n0 : vp_nar .boolean (0 : Int32) = 0 := by decide
    obtain ⟨S', I', U', D', K', G', a1, a2, a3⟩ := ih (x + 1) k (upd S x 0) (upd I x 0) (upd U x 0) (upd D x 0) (upd K x (if (x : Int) < dr.toInt then o (7 * x) else 0)) (upd G x 0) (by omega)
    refine ⟨S', I', U', D', K', G', ?_, fun j j1 j2 => ?_, fun j hj => ?_⟩
    · show K_m_begins_L2 dr o ((k + m + 1) + 1) (nI x) S I U D K G = _
      rw [← a1]
      generalize k + m + 1 = j
      simp only [K_m_begins_L2, K_m_begins_3, K_m_begins_5, K_m_begins_7, K_m_begins_6, K_m_begins_4, K_m_begins_2, K_m_begins_1, M_m_begins, K_m_of_1, M_m_of, n0]
      rw [if_neg (by omega), exc, nI_1]
      by_cases y : (x : Int) < dr.toInt
      · rw [if_neg (by omega), if_pos y, e7]
      · rw [if_pos (by omega), if_neg y]
    · by_cases y : j = x
      · obtain ⟨b1, b2, b3, b4, b5, b6⟩ := a3 x (by omega)
        unfold xB0
        rw [y, b1, b2, b3, b4, b5, b6, xupd_s, xupd_s, xupd_s, xupd_s, xupd_s, xupd_s]
        exact ⟨rfl, rfl, rfl, rfl, rfl, rfl⟩
      · exact a2 j (by omega) j2
    · obtain ⟨b1, b2, b3, b4, b5, b6⟩ := a3 j (by omega)
      rw [b1, b2, b3, b4, b5, b6, xupd_o (by omega), xupd_o (by omega), xupd_o (by omega), xupd_o (by omega), xupd_o (by omega), xupd_o (by omega)]
      exact ⟨rfl, rfl, rfl, rfl, rfl, rfl⟩
/-- what a draft becomes -/
theorem r_draft (dr : Int32) (S I U D K G dT T dN Nm dO O : Nat → Int32) : ∃ O' N' T' S' I' U' D' K' G' : Nat → Int32, M_m_keepDraft dr S I U D K G dT T dN Nm dO O = (O', N', T', S', I', U', D', K', G') ∧ (∀ j, j < 56 → O' j = dO j) ∧ (∀ j, j < 8 → N' j = dN j) ∧ (∀ j, j < 4096 → T' j = vp_nar .boolean (dT j)) ∧ ∀ j, j < 8 → xB0 dr.toInt O' S' I' U' D' K' G' j := by
  obtain ⟨O', o1, o2, -⟩ := kd2 (dr := dr) (S := S) (I := I) (U := U) (D := D) (K := K) (G := G) (dT := dT) (T := T) (dN := dN) (Nm := Nm) (dO := dO) 56 0 99943 O (by omega)
  obtain ⟨N', n1, n2, -⟩ := kd5 (o := O') (dr := dr) (S := S) (I := I) (U := U) (D := D) (K := K) (G := G) (dT := dT) (T := T) (dN := dN) 8 0 99991 Nm (by omega)
  obtain ⟨T', t1, t2, -⟩ := kd8 (o := O') (nm := N') (dr := dr) (S := S) (I := I) (U := U) (D := D) (K := K) (G := G) (dT := dT) 4096 0 95903 T (by omega)
  obtain ⟨S', I', U', D', K', G', b1, b2, -⟩ := b_beg (dr := dr) (o := O') 8 0 99991 S I U D K G (by omega)
  refine ⟨O', N', T', S', I', U', D', K', G', ?_, fun j hj => o2 j (by omega) hj, fun j hj => n2 j (by omega) hj, fun j hj => t2 j (by omega) hj, fun j hj => b2 j (by omega) hj⟩
  show K_m_keepDraft_L2 dr S I U D K G dT T dN Nm dO (99943 + 56 + 1) (nI 0) O = _
  rw [o1]
  show K_m_keepDraft_L5 O' dr S I U D K G dT T dN (99991 + 8 + 1) (nI 0) Nm = _
  rw [n1]
  show K_m_keepDraft_L8 O' N' dr S I U D K G dT (95903 + 4096 + 1) (nI 0) T = _
  rw [t1, show M_m_begins dr O' S I U D K G = K_m_begins_L2 dr O' (99991 + 8 + 1) (nI 0) S I U D K G from rfl, b1]
end
/-- how all begins, the class's side -/
def xB1 (pn S I U K G : Nat → Int32) (j : Nat) : Prop := S j = 0 ∧ I j = 0 ∧ U j = 0 ∧ K j = pn (8 * j) ∧ G j = 0
theorem b_res {pn : Nat → Int32} : ∀ (m x k : Nat) (S I U K G : Nat → Int32), x + m = 8 → ∃ S' I' U' K' G' : Nat → Int32, K_rReset_L2 pn (k + m + 1) (nI x) S I U K G = (S', I', U', K', G') ∧ (∀ j, x ≤ j → j < 8 → xB1 pn S' I' U' K' G' j) ∧ (∀ j, j < x → S' j = S j ∧ I' j = I j ∧ U' j = U j ∧ K' j = K j ∧ G' j = G j) := by
  intro m
  induction m with
  | zero =>
    intro x k S I U K G hx
    have ex : (nI x).toInt = (x : Int) := nI_toInt (by omega)
    refine ⟨S, I, U, K, G, ?_, fun j a b => absurd a (by omega), fun j _ => ⟨rfl, rfl, rfl, rfl, rfl⟩⟩
    simp only [K_rReset_L2, K_rReset_3, K_rReset_5, K_rReset_4, K_rReset_2, K_rReset_1, M_rReset]
    rw [if_pos (by omega)]
  | succ m ih =>
    intro x k S I U K G hx
    have ex : (nI x).toInt = (x : Int) := nI_toInt (by omega)
    have exc : (nI x).toNatClampNeg = x := nI_clamp (by omega)
    have e8 : ((nI x * 8) + 0).toNatClampNeg = 8 * x := xi8 (q := x) (k := 0) (by omega) (by decide)
    obtain ⟨S', I', U', K', G', a1, a2, a3⟩ := ih (x + 1) k (upd S x 0) (upd I x 0) (upd U x 0) (upd K x (pn (8 * x))) (upd G x 0) (by omega)
    refine ⟨S', I', U', K', G', ?_, fun j j1 j2 => ?_, fun j hj => ?_⟩
    · show K_rReset_L2 pn ((k + m + 1) + 1) (nI x) S I U K G = _
      rw [← a1]
      generalize k + m + 1 = j
      simp only [K_rReset_L2, K_rReset_3, K_rReset_5, K_rReset_4, K_rReset_2, K_rReset_1, M_rReset, K_number_1, M_number]
      rw [if_neg (by omega), exc, nI_1, e8]
    · by_cases y : j = x
      · obtain ⟨b1, b2, b3, b5, b6⟩ := a3 x (by omega)
        unfold xB1
        rw [y, b1, b2, b3, b5, b6, xupd_s, xupd_s, xupd_s, xupd_s, xupd_s]
        exact ⟨rfl, rfl, rfl, rfl, rfl⟩
      · exact a2 j (by omega) j2
    · obtain ⟨b1, b2, b3, b5, b6⟩ := a3 j (by omega)
      rw [b1, b2, b3, b5, b6, xupd_o (by omega), xupd_o (by omega), xupd_o (by omega), xupd_o (by omega), xupd_o (by omega)]
      exact ⟨rfl, rfl, rfl, rfl, rfl⟩
theorem r_reset (pn S I U K G : Nat → Int32) : ∃ S' I' U' K' G' : Nat → Int32, M_rReset pn S I U K G = (S', I', U', K', G') ∧ ∀ j, j < 8 → xB1 pn S' I' U' K' G' j := by
  obtain ⟨S', I', U', K', G', a1, a2, -⟩ := b_res (pn := pn) 8 0 99991 S I U K G (by omega)
  exact ⟨S', I', U', K', G', a1, fun j hj => a2 j (by omega) hj⟩
theorem b_fgt : ∀ (m x k : Nat) (f : Nat → Int32), x + m = 64 → ∃ f' : Nat → Int32, K_forget_L2 (k + m + 1) (nI x) f = f' ∧ (∀ j, x ≤ j → j < 64 → f' j = 0) ∧ (∀ j, j < x → f' j = f j) := by
  intro m
  induction m with
  | zero =>
    intro x k f hx
    have ex : (nI x).toInt = (x : Int) := nI_toInt (by omega)
    refine ⟨f, ?_, fun j a b => absurd a (by omega), fun j _ => rfl⟩
    simp only [K_forget_L2, K_forget_3, K_forget_4, K_forget_2, K_forget_1, M_forget]
    rw [if_pos (by omega)]
  | succ m ih =>
    intro x k f hx
    have ex : (nI x).toInt = (x : Int) := nI_toInt (by omega)
    have exc : (nI x).toNatClampNeg = x := nI_clamp (by omega)
    have n0 : vp_nar .boolean (0 : Int32) = 0 := by decide
    obtain ⟨f', a1, a2, a3⟩ := ih (x + 1) k (upd f x 0) (by omega)
    refine ⟨f', ?_, fun j j1 j2 => ?_, fun j hj => ?_⟩
    · show K_forget_L2 ((k + m + 1) + 1) (nI x) f = _
      rw [← a1]
      generalize k + m + 1 = j
      simp only [K_forget_L2, K_forget_3, K_forget_4, K_forget_2, K_forget_1, M_forget, n0]
      rw [if_neg (by omega), exc, nI_1]
    · by_cases y : j = x
      · rw [y, a3 x (by omega), xupd_s]
      · exact a2 j (by omega) j2
    · rw [a3 j (by omega), xupd_o (by omega)]
theorem r_forget (f : Nat → Int32) : ∀ j, j < 64 → M_forgetReckoned f j = 0 := by
  obtain ⟨f', a1, a2, -⟩ := b_fgt 64 0 99935 f (by omega)
  intro j hj
  have e : M_forgetReckoned f = f' := by
    rw [show (99935 + 64 + 1 : Nat) = 100000 from rfl] at a1
    rw [← a1]
    simp only [K_forgetReckoned_2, K_forgetReckoned_1, M_forgetReckoned, M_forget, K_forget_1]
    rfl
  rw [e]
  exact a2 j (by omega) hj
