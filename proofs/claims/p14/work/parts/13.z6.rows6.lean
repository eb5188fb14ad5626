/-! the formula's code as it is read: brackets that wait, and that every sign in the code has two operands ahead of it -/
def xcn (f : Nat → Int32) : Nat → Int
  | 0 => 0
  | k + 1 => xcn f k + (if (f k).toInt = 12 then 1 else 0)
def xdq (f : Nat → Int32) : Nat → Int
  | 0 => 0
  | k + 1 => xdq f k + (if (f k).toInt < 9 then 1 else -1)
def xwf (f : Nat → Int32) (n : Nat) : Prop := ∀ k, k < n → 9 ≤ (f k).toInt → 2 ≤ xdq f k
theorem xcn_ext {f g : Nat → Int32} : ∀ n : Nat, (∀ k, k < n → f k = g k) → xcn f n = xcn g n
  | 0, _ => rfl
  | n + 1, h => by
    unfold xcn
    rw [xcn_ext n (fun k hk => h k (by omega)), h n (by omega)]
theorem xdq_ext {f g : Nat → Int32} : ∀ n : Nat, (∀ k, k < n → f k = g k) → xdq f n = xdq g n
  | 0, _ => rfl
  | n + 1, h => by
    unfold xdq
    rw [xdq_ext n (fun k hk => h k (by omega)), h n (by omega)]
theorem xcn_le (f : Nat → Int32) : ∀ n : Nat, 0 ≤ xcn f n ∧ xcn f n ≤ (n : Int)
  | 0 => by unfold xcn; omega
  | n + 1 => by
    have h := xcn_le f n
    unfold xcn
    split <;> omega
theorem xwf_dq {f : Nat → Int32} : ∀ n : Nat, xwf f n → 0 ≤ xdq f n ∧ xdq f n ≤ (n : Int)
  | 0, _ => by unfold xdq; omega
  | n + 1, h => by
    have q := xwf_dq n (fun k hk => h k (by omega))
    have q2 := h n (by omega)
    unfold xdq
    split <;> omega
theorem xwf_up {f g : Nat → Int32} {n : Nat} (h : xwf f n) (e : ∀ k, k < n → f k = g k) (hn : 9 ≤ (g n).toInt → 2 ≤ xdq f n) : xwf g (n + 1) := fun k hk h9 => by
  rcases Nat.lt_or_ge k n with q | q
  · rw [← xdq_ext k (fun j hj => e j (by omega))]
    exact h k q (by rw [e k q]; exact h9)
  · have ek : k = n := by omega
    subst ek
    rw [← xdq_ext k e]
    exact hn h9
theorem xupd_o {f : Nat → Int32} {i j : Nat} {x : Int32} (h : j ≠ i) : upd f i x j = f j := by
  unfold upd
  exact if_neg h
def xPS (fw fc : Nat → Int32) (w c d : Int32) (ph : Int) : Prop := (xcn fw w.toNatClampNeg = d.toInt) ∧ (xdq fc c.toNatClampNeg = w.toInt - d.toInt + ph) ∧ xwf fc c.toNatClampNeg ∧ (∀ j, j < w.toNatClampNeg → 10 ≤ (fw j).toInt ∧ (fw j).toInt ≤ 12)
theorem xPS.mk {fw fc : Nat → Int32} {w c d : Int32} {ph : Int} (h1 : xcn fw w.toNatClampNeg = d.toInt) (h2 : xdq fc c.toNatClampNeg = w.toInt - d.toInt + ph) (h3 : xwf fc c.toNatClampNeg) (h4 : ∀ j, j < w.toNatClampNeg → 10 ≤ (fw j).toInt ∧ (fw j).toInt ≤ 12) : xPS fw fc w c d ph := by
  unfold xPS
  exact ⟨h1, h2, h3, h4⟩
theorem xPS.a {fw fc : Nat → Int32} {w c d : Int32} {ph : Int} (h : xPS fw fc w c d ph) : xcn fw w.toNatClampNeg = d.toInt := by
  unfold xPS at h
  exact h.1
theorem xPS.b {fw fc : Nat → Int32} {w c d : Int32} {ph : Int} (h : xPS fw fc w c d ph) : xdq fc c.toNatClampNeg = w.toInt - d.toInt + ph := by
  unfold xPS at h
  exact h.2.1
theorem xPS.k {fw fc : Nat → Int32} {w c d : Int32} {ph : Int} (h : xPS fw fc w c d ph) : xwf fc c.toNatClampNeg := by
  unfold xPS at h
  exact h.2.2.1
theorem xPS.r {fw fc : Nat → Int32} {w c d : Int32} {ph : Int} (h : xPS fw fc w c d ph) : ∀ j, j < w.toNatClampNeg → 10 ≤ (fw j).toInt ∧ (fw j).toInt ≤ 12 := by
  unfold xPS at h
  exact h.2.2.2
theorem xtn {x : Int32} (h : 0 ≤ x.toInt) : (x.toNatClampNeg : Int) = x.toInt := by
  show ((x.toInt.toNat : Nat) : Int) = x.toInt
  omega
theorem xtn1 {x y : Int32} (h : 0 ≤ x.toInt) (e : y.toInt = x.toInt + 1) : y.toNatClampNeg = x.toNatClampNeg + 1 := by
  have h1 := xtn h
  have h2 := xtn (x := y) (by omega)
  omega
theorem xPS.start (fw fc : Nat → Int32) : xPS fw fc 0 0 0 0 := xPS.mk rfl rfl (fun k hk => absurd hk (Nat.not_lt_zero k)) (fun k hk => absurd hk (Nat.not_lt_zero k))
theorem xPS.le {fw fc : Nat → Int32} {w c d : Int32} {ph : Int} (h : xPS fw fc w c d ph) (hw : 0 ≤ w.toInt) : 0 ≤ d.toInt ∧ d.toInt ≤ w.toInt := by
  have q := xcn_le fw w.toNatClampNeg
  rw [h.a, xtn hw] at q
  exact q
theorem xPS.push12 {fw fw' fc : Nat → Int32} {w w' c d d' : Int32} {ph : Int} (h : xPS fw fc w c d ph) (hw : 0 ≤ w.toInt) (ew : w'.toInt = w.toInt + 1) (ed : d'.toInt = d.toInt + 1) (ef : fw' = upd fw w.toNatClampNeg 12) : xPS fw' fc w' c d' ph := by
  have e1 := xtn1 hw ew
  subst ef
  refine xPS.mk ?_ (by rw [h.b]; omega) h.k ?_
  · rw [e1]
    show xcn _ w.toNatClampNeg + _ = _
    rw [xupd_s, if_pos (by decide), ← xcn_ext _ (fun k hk => (xupd_o (by omega)).symm), h.a]
    omega
  · intro j hj
    rw [e1] at hj
    rcases Nat.lt_or_ge j w.toNatClampNeg with q | q
    · rw [xupd_o (by omega)]
      exact h.r j q
    · have ej : j = w.toNatClampNeg := by omega
      rw [ej, xupd_s]
      exact ⟨by decide, by decide⟩
theorem xPS.pushop {fw fw' fc : Nat → Int32} {w w' c d o : Int32} (h : xPS fw fc w c d 1) (hw : 0 ≤ w.toInt) (ew : w'.toInt = w.toInt + 1) (ho : 10 ≤ o.toInt ∧ o.toInt ≤ 11) (ef : fw' = upd fw w.toNatClampNeg o) : xPS fw' fc w' c d 0 := by
  have e1 := xtn1 hw ew
  subst ef
  refine xPS.mk ?_ (by rw [h.b]; omega) h.k ?_
  · rw [e1]
    show xcn _ w.toNatClampNeg + _ = _
    rw [xupd_s, if_neg (by omega), ← xcn_ext _ (fun k hk => (xupd_o (by omega)).symm), h.a]
    omega
  · intro j hj
    rw [e1] at hj
    rcases Nat.lt_or_ge j w.toNatClampNeg with q | q
    · rw [xupd_o (by omega)]
      exact h.r j q
    · have ej : j = w.toNatClampNeg := by omega
      rw [ej, xupd_s]
      omega
theorem xPS.letter {fw fc fc' : Nat → Int32} {w c c' d o : Int32} (h : xPS fw fc w c d 0) (hc : 0 ≤ c.toInt) (ec : c'.toInt = c.toInt + 1) (ho : o.toInt < 9) (ef : fc' = upd fc c.toNatClampNeg o) : xPS fw fc' w c' d 1 := by
  have e1 := xtn1 hc ec
  subst ef
  refine xPS.mk h.a ?_ ?_ h.r
  · rw [e1]
    show xdq _ c.toNatClampNeg + _ = _
    rw [xupd_s, if_pos ho, ← xdq_ext _ (fun k hk => (xupd_o (by omega)).symm), h.b]
    omega
  · rw [e1]
    exact xwf_up h.k (fun k hk => (xupd_o (by omega)).symm) (fun q => by rw [xupd_s] at q; omega)
theorem xPS.popop {fw fc fc' : Nat → Int32} {w w' c c' d : Int32} (h : xPS fw fc w c d 1) (hw : 0 ≤ w'.toInt) (ew : w'.toInt = w.toInt - 1) (hc : 0 ≤ c.toInt) (ec : c'.toInt = c.toInt + 1) (ho : ¬ (fw w'.toNatClampNeg).toInt = 12) (ef : fc' = upd fc c.toNatClampNeg (fw w'.toNatClampNeg)) : xPS fw fc' w' c' d 1 := by
  have e1 := xtn1 hc ec
  have e2 : w.toNatClampNeg = w'.toNatClampNeg + 1 := xtn1 hw (by omega)
  have ha := h.a
  have hr := h.r w'.toNatClampNeg (by omega)
  rw [e2] at ha
  have ha' : xcn fw w'.toNatClampNeg + (if (fw w'.toNatClampNeg).toInt = 12 then 1 else 0) = d.toInt := ha
  rw [if_neg ho] at ha'
  have hle := xcn_le fw w'.toNatClampNeg
  have hwn := xtn hw
  subst ef
  refine xPS.mk (by omega) ?_ ?_ (fun j hj => h.r j (by omega))
  · rw [e1]
    show xdq _ c.toNatClampNeg + _ = _
    rw [xupd_s, if_neg (by omega), ← xdq_ext _ (fun k hk => (xupd_o (by omega)).symm), h.b]
    omega
  · rw [e1]
    refine xwf_up h.k (fun k hk => (xupd_o (by omega)).symm) (fun _ => ?_)
    rw [h.b]
    omega
theorem xPS.pop12 {fw fc : Nat → Int32} {w w' c d d' : Int32} {ph : Int} (h : xPS fw fc w c d ph) (hw : 0 ≤ w'.toInt) (ew : w'.toInt = w.toInt - 1) (ed : d'.toInt = d.toInt - 1) (ho : (fw w'.toNatClampNeg).toInt = 12) : xPS fw fc w' c d' ph := by
  have e2 : w.toNatClampNeg = w'.toNatClampNeg + 1 := xtn1 hw (by omega)
  have ha := h.a
  rw [e2] at ha
  have ha' : xcn fw w'.toNatClampNeg + (if (fw w'.toNatClampNeg).toInt = 12 then 1 else 0) = d.toInt := ha
  rw [if_pos ho] at ha'
  exact xPS.mk (by omega) (by rw [h.b]; omega) h.k (fun j hj => h.r j (by omega))
theorem xdq_s {f : Nat → Int32} {n : Nat} : xdq f (n + 1) = xdq f n + (if (f n).toInt < 9 then 1 else -1) := rfl
def sp_look (f : Nat → Int32) (t p : Int32) : Int32 := if p.toInt < t.toInt then f p.toNatClampNeg else -1
theorem xb01 {P : Prop} [Decidable P] {r : Int32} (h : r = if P then 1 else 0) : (r.toInt = 1 ∧ P) ∨ (r.toInt = 0 ∧ ¬ P) := by
  by_cases hp : P
  · rw [if_pos hp] at h
    subst h
    exact Or.inl ⟨by decide, hp⟩
  · rw [if_neg hp] at h
    subst h
    exact Or.inr ⟨by decide, hp⟩
/-! the times told: each rail's least is 1 at least, its most is no less and 9 at most -/
def xT1 (f : Nat → Int32) (n : Nat) : Prop := 1 ≤ (f (7 * n)).toInt ∧ (f (7 * n)).toInt ≤ (f (7 * n + 1)).toInt ∧ (f (7 * n + 1)).toInt ≤ 9
def xTD (f : Nat → Int32) (n : Nat) : Prop := ∀ r, r < n → xT1 f r
theorem xT1_ext {f g : Nat → Int32} {n : Nat} (h : xT1 f n) (e : ∀ j, j < 7 * n + 2 → g j = f j) : xT1 g n := by
  unfold xT1
  rw [e (7 * n) (by omega), e (7 * n + 1) (by omega)]
  exact h
theorem xTD_ext {f g : Nat → Int32} {n : Nat} (h : xTD f n) (e : ∀ j, j < 7 * n → g j = f j) : xTD g n := fun r hr => xT1_ext (h r hr) (fun j hj => e j (by omega))
theorem xTD_up {f : Nat → Int32} {n i : Nat} {x : Int32} (h : xTD f n) (hi : 7 * n ≤ i) : xTD (upd f i x) n := xTD_ext h (fun j hj => xupd_o (by omega))
theorem xT1_up {f : Nat → Int32} {n i : Nat} {x : Int32} (h : xT1 f n) (h1 : i ≠ 7 * n) (h2 : i ≠ 7 * n + 1) : xT1 (upd f i x) n := by
  unfold xT1
  rw [xupd_o (by omega), xupd_o (by omega)]
  exact h
theorem xTD_succ {f : Nat → Int32} {n : Nat} (h : xTD f n) (h1 : xT1 f n) : xTD f (n + 1) := fun r hr => by
  rcases Nat.lt_or_ge r n with q | q
  · exact h r q
  · have e : r = n := by omega
    rw [e]
    exact h1
theorem xT1_mk {f : Nat → Int32} {n : Nat} {a b : Int32} (h1 : f (7 * n) = a) (h2 : f (7 * n + 1) = b) (ha : 1 ≤ a.toInt) (hb : a.toInt ≤ b.toInt) (hc : b.toInt ≤ 9) : xT1 f n := by
  unfold xT1
  rw [h1, h2]
  exact ⟨ha, hb, hc⟩
theorem xTD_keep5 {f : Nat → Int32} {n r i : Nat} {x : Int32} (h : xTD f n) (hi : i = 7 * r + 5) : xTD (upd f i x) n := fun q hq => by
  have h1 := h q hq
  exact xT1_up h1 (by omega) (by omega)
theorem xcst {c : Int32} {lo hi : Int} {n : Nat} (h : lo ≤ c.toInt ∧ c.toInt ≤ hi) : ∀ j, j < n → lo ≤ ((fun _ => c : Nat → Int32) j).toInt ∧ ((fun _ => c : Nat → Int32) j).toInt ≤ hi := fun _ _ => h
