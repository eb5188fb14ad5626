theorem t_become {n0 ysz tk : Int32} {rs ri ra rg ya yb yc : Nat → Int32} {x : Nat} (hx : x < 8) : M_become n0 rs (nI x) ri ra rg ysz ya tk yb yc = (upd rs x n0, upd ri x 0, (if n0.toInt = 1 then upd ra x 0 else ra), (if n0.toInt = 3 then upd rg x (rg x + 1) else rg), (M_note ysz ya tk yb (nI x) yc n0).1, (M_note ysz ya tk yb (nI x) yc n0).2.1, (M_note ysz ya tk yb (nI x) yc n0).2.2.1, (M_note ysz ya tk yb (nI x) yc n0).2.2.2) := by
  have xc : (nI x).toNatClampNeg = x := nI_clamp (by omega)
  simp only [K_become_8, K_become_3, K_become_7, K_become_5, K_become_6, K_become_4, K_become_2, K_become_1, M_become, xc]
  by_cases a : n0.toInt = 1
  · rw [if_pos a, if_pos a, if_neg (by omega)]
  · rw [if_neg a, if_neg a]
    by_cases b : n0.toInt = 3
    · rw [if_pos b, if_pos b]
    · rw [if_neg b, if_neg b]
/-- one RAIL in a round, the class's side -/
theorem c_rnd {may tk dead any ysz : Int32} {pn rt rs ri ra rg ya yb yc : Nat → Int32} {ok : Nat → Bool} {q x : Nat} (q8 : q ≤ 8) (hx : x < q) (hm : xb may x = ok x) (k : Nat) : K_changeRails_L2 (nI q) may tk dead pn rt (k + 1) (nI x) any rs ri ra rg ysz ya yb yc = if (M_nextState dead (nI x) rs (if ok x = true then 1 else 0) ri pn rt).toInt = (rs x).toInt then K_changeRails_L2 (nI q) may tk dead pn rt k (nI (x + 1)) any rs ri ra rg ysz ya yb yc else K_changeRails_L2 (nI q) may tk dead pn rt k (nI (x + 1)) 1 (M_become (M_nextState dead (nI x) rs (if ok x = true then 1 else 0) ri pn rt) rs (nI x) ri ra rg ysz ya tk yb yc).1 (M_become (M_nextState dead (nI x) rs (if ok x = true then 1 else 0) ri pn rt) rs (nI x) ri ra rg ysz ya tk yb yc).2.1 (M_become (M_nextState dead (nI x) rs (if ok x = true then 1 else 0) ri pn rt) rs (nI x) ri ra rg ysz ya tk yb yc).2.2.1 (M_become (M_nextState dead (nI x) rs (if ok x = true then 1 else 0) ri pn rt) rs (nI x) ri ra rg ysz ya tk yb yc).2.2.2.1 (M_become (M_nextState dead (nI x) rs (if ok x = true then 1 else 0) ri pn rt) rs (nI x) ri ra rg ysz ya tk yb yc).2.2.2.2.1 (M_become (M_nextState dead (nI x) rs (if ok x = true then 1 else 0) ri pn rt) rs (nI x) ri ra rg ysz ya tk yb yc).2.2.2.2.2.1 (M_become (M_nextState dead (nI x) rs (if ok x = true then 1 else 0) ri pn rt) rs (nI x) ri ra rg ysz ya tk yb yc).2.2.2.2.2.2.1 (M_become (M_nextState dead (nI x) rs (if ok x = true then 1 else 0) ri pn rt) rs (nI x) ri ra rg ysz ya tk yb yc).2.2.2.2.2.2.2 := by
  have xc : (nI x).toNatClampNeg = x := nI_clamp (by omega)
  have qq : (nI q).toInt = (q : Int) := nI_toInt (by omega)
  have xx : (nI x).toInt = (x : Int) := nI_toInt (by omega)
  simp only [K_changeRails_L2, K_changeRails_3, K_changeRails_12, K_changeRails_14, K_changeRails_13, K_changeRails_11, K_changeRails_6, K_changeRails_8, K_changeRails_10, K_changeRails_9, K_changeRails_7, K_changeRails_5, K_changeRails_4, K_changeRails_2, K_changeRails_1, M_changeRails, xc]
  rw [if_neg (by omega), nI_1]
  by_cases m : ok x = true
  · rw [if_pos ((xsr_1 may (by omega)).mpr (by rw [hm]; exact m)), if_pos m]
  · rw [if_neg (fun z => m (by have := (xsr_1 may (by omega)).mp z; rw [hm] at this; exact this)), if_neg m]
/-- one RAIL in a round, the reference's side -/
theorem m_rnd {mhe tk any mh : Int32} {Td D K Tb I U G H S pn Nm : Nat → Int32} {pt : Nat → Int64} {ok : Nat → Bool} {q x good : Nat} (hE : xE true q pn pt Td Nm Tb) (q8 : q ≤ 8) (hx : x < q) (hg : good < 512) (hm : (decide (mhe.toInt = 0) && hb pt x good) = ok x) (k : Nat) : K_m_round_L3 (nI q) mhe tk Td D K Tb (nI good) (k + 1) (nI x) any I U G H mh S = if (M_m_becomes S (nI x) (if ok x = true then 1 else 0) I Td D K).toInt = -4 then K_m_round_L3 (nI q) mhe tk Td D K Tb (nI good) k (nI (x + 1)) any I U G H mh S else K_m_round_L3 (nI q) mhe tk Td D K Tb (nI good) k (nI (x + 1)) 1 (upd I x 0) (upd U x (if (M_m_becomes S (nI x) (if ok x = true then 1 else 0) I Td D K).toInt = 1 then 0 else U x)) (upd G x (G x + (if (M_m_becomes S (nI x) (if ok x = true then 1 else 0) I Td D K).toInt = 3 then 1 else 0))) (M_m_happens mh H tk (nI x) (M_m_becomes S (nI x) (if ok x = true then 1 else 0) I Td D K)).2 (M_m_happens mh H tk (nI x) (M_m_becomes S (nI x) (if ok x = true then 1 else 0) I Td D K)).1 (upd S x (M_m_becomes S (nI x) (if ok x = true then 1 else 0) I Td D K)) := by
  have xc : (nI x).toNatClampNeg = x := nI_clamp (by omega)
  have qq : (nI q).toInt = (q : Int) := nI_toInt (by omega)
  have xx : (nI x).toInt = (x : Int) := nI_toInt (by omega)
  simp only [K_m_round_L3, K_m_round_4, K_m_round_22, K_m_round_26, K_m_round_25, K_m_round_28, K_m_round_27, K_m_round_24, K_m_round_30, K_m_round_29, K_m_round_23, K_m_round_21, K_m_round_19, K_m_round_32, K_m_round_36, K_m_round_35, K_m_round_38, K_m_round_37, K_m_round_34, K_m_round_40, K_m_round_39, K_m_round_33, K_m_round_31, K_m_round_20, K_m_round_18, K_m_round_7, K_m_round_9, K_m_round_13, K_m_round_12, K_m_round_15, K_m_round_14, K_m_round_11, K_m_round_17, K_m_round_16, K_m_round_10, K_m_round_8, K_m_round_6, K_m_round_5, K_m_round_3, K_m_round_42, K_m_round_43, K_m_round_41, K_m_round_1, M_m_round, xc]
  rw [if_neg (by omega), nI_1, t_so hE q8 hx hg]
  by_cases a : mhe.toInt = 0
  · rw [if_pos a]
    by_cases b : hb pt x good = true
    · have m : ok x = true := by rw [← hm, b]; simp [a]
      rw [if_pos b, if_neg (by decide), if_pos m]
      by_cases c : (M_m_becomes S (nI x) 1 I Td D K).toInt = -4
      · rw [if_pos c, if_pos c]
      · rw [if_neg c, if_neg c]
        by_cases d1 : (M_m_becomes S (nI x) 1 I Td D K).toInt = 1
        · rw [if_pos d1, if_pos d1]
          by_cases d3 : (M_m_becomes S (nI x) 1 I Td D K).toInt = 3
          · rw [if_pos d3, if_pos d3]
          · rw [if_neg d3, if_neg d3]
        · rw [if_neg d1, if_neg d1]
          by_cases d3 : (M_m_becomes S (nI x) 1 I Td D K).toInt = 3
          · rw [if_pos d3, if_pos d3]
          · rw [if_neg d3, if_neg d3]
    · have m : ¬ ok x = true := by rw [← hm]; simp [b]
      rw [if_neg b, if_pos (by decide), if_neg m]
      by_cases c : (M_m_becomes S (nI x) 0 I Td D K).toInt = -4
      · rw [if_pos c, if_pos c]
      · rw [if_neg c, if_neg c]
        by_cases d1 : (M_m_becomes S (nI x) 0 I Td D K).toInt = 1
        · rw [if_pos d1, if_pos d1]
          by_cases d3 : (M_m_becomes S (nI x) 0 I Td D K).toInt = 3
          · rw [if_pos d3, if_pos d3]
          · rw [if_neg d3, if_neg d3]
        · rw [if_neg d1, if_neg d1]
          by_cases d3 : (M_m_becomes S (nI x) 0 I Td D K).toInt = 3
          · rw [if_pos d3, if_pos d3]
          · rw [if_neg d3, if_neg d3]
  · have m : ¬ ok x = true := by rw [← hm]; simp [a]
    rw [if_neg a, if_neg m]
    by_cases c : (M_m_becomes S (nI x) 0 I Td D K).toInt = -4
    · rw [if_pos c, if_pos c]
    · rw [if_neg c, if_neg c]
      by_cases d1 : (M_m_becomes S (nI x) 0 I Td D K).toInt = 1
      · rw [if_pos d1, if_pos d1]
        by_cases d3 : (M_m_becomes S (nI x) 0 I Td D K).toInt = 3
        · rw [if_pos d3, if_pos d3]
        · rw [if_neg d3, if_neg d3]
      · rw [if_neg d1, if_neg d1]
        by_cases d3 : (M_m_becomes S (nI x) 0 I Td D K).toInt = 3
        · rw [if_pos d3, if_pos d3]
        · rw [if_neg d3, if_neg d3]
/-- a whole round: one on both sides -/
theorem b_rnd {may tk dead mhe : Int32} {pn rt Td D K Tb Nm : Nat → Int32} {pt : Nat → Int64} {ok : Nat → Bool} {q good : Nat} (hE : xE true q pn pt Td Nm Tb) (q8 : q ≤ 8) (hg : good < 512) (hd : xDd dead D) (hrt : ∀ j, j < q → rt j = K j ∧ 1 ≤ (K j).toInt) (h1 : ∀ x, x < q → xb may x = ok x) (h2 : ∀ x, x < q → (decide (mhe.toInt = 0) && hb pt x good) = ok x) : ∀ (m x k : Nat) (any ysz mh : Int32) (rs ri ra rg ya yb yc I U G H S : Nat → Int32), x + m = q → xR4 q rs ri ra rg S I U G → xHi ysz ya yb yc mh H → (0 ≤ ysz.toInt ∧ ysz.toInt ≤ 64) →
    ∃ (any' ysz' mh' : Int32) (rs' ri' ra' rg' ya' yb' yc' I' U' G' H' S' : Nat → Int32), K_changeRails_L2 (nI q) may tk dead pn rt (k + m + 1) (nI x) any rs ri ra rg ysz ya yb yc = (any', rs', ri', ra', rg', ysz', ya', yb', yc') ∧ K_m_round_L3 (nI q) mhe tk Td D K Tb (nI good) (k + m + 1) (nI x) any I U G H mh S = (any', mh', S', I', U', G', H') ∧ xR4 q rs' ri' ra' rg' S' I' U' G' ∧ xHi ysz' ya' yb' yc' mh' H' ∧ (0 ≤ ysz'.toInt ∧ ysz'.toInt ≤ 64) ∧ (∀ j, j < x → S' j = S j ∧ I' j = I j) ∧ (∀ j, x ≤ j → j < q → xStep (ok j) (S j).toInt (I j).toInt (S' j).toInt (I' j).toInt) ∧ ((any' = any ∧ ∀ j, j < q → S' j = S j) ∨ (any' = 1 ∧ ∃ j, j < q ∧ (S' j).toInt ≠ (S j).toInt)) := by
  have qq : (nI q).toInt = (q : Int) := nI_toInt (by omega)
  intro m
  induction m with
  | zero =>
    intro x k any ysz mh rs ri ra rg ya yb yc I U G H S hx h4 hh hy
    have xx : (nI x).toInt = (x : Int) := nI_toInt (by omega)
    refine ⟨any, ysz, mh, rs, ri, ra, rg, ya, yb, yc, I, U, G, H, S, ?_, ?_, h4, hh, hy, fun j _ => ⟨rfl, rfl⟩, fun j j1 j2 => absurd j1 (by omega), Or.inl ⟨rfl, fun j _ => rfl⟩⟩
    · simp only [K_changeRails_L2, K_changeRails_3, K_changeRails_12, K_changeRails_14, K_changeRails_13, K_changeRails_11, K_changeRails_6, K_changeRails_8, K_changeRails_10, K_changeRails_9, K_changeRails_7, K_changeRails_5, K_changeRails_4, K_changeRails_2, K_changeRails_1, M_changeRails]
      rw [if_pos (by omega)]
    · simp only [K_m_round_L3, K_m_round_4, K_m_round_22, K_m_round_26, K_m_round_25, K_m_round_28, K_m_round_27, K_m_round_24, K_m_round_30, K_m_round_29, K_m_round_23, K_m_round_21, K_m_round_19, K_m_round_32, K_m_round_36, K_m_round_35, K_m_round_38, K_m_round_37, K_m_round_34, K_m_round_40, K_m_round_39, K_m_round_33, K_m_round_31, K_m_round_20, K_m_round_18, K_m_round_7, K_m_round_9, K_m_round_13, K_m_round_12, K_m_round_15, K_m_round_14, K_m_round_11, K_m_round_17, K_m_round_16, K_m_round_10, K_m_round_8, K_m_round_6, K_m_round_5, K_m_round_3, K_m_round_42, K_m_round_43, K_m_round_41, K_m_round_1, M_m_round]
      rw [if_pos (by omega)]
  | succ m ih =>
    intro x k any ysz mh rs ri ra rg ya yb yc I U G H S hx h4 hh hy
    obtain ⟨hr, hz⟩ := h4
    obtain ⟨r1, r2, r3, r4, r5⟩ := hr x (by omega)
    obtain ⟨n1, -, -⟩ := hE x (by omega)
    have nx := r_next (may := if ok x = true then 1 else 0) (by omega) r1 r2 (hrt x (by omega)).1 (n1 5 (by decide) (Or.inr rfl)) (n1 2 (by decide) (Or.inr rfl)) r5 hd (ok := ok x) (by
      cases o : ok x
      · exact Or.inl ⟨rfl, if_neg (by decide)⟩
      · exact Or.inr ⟨rfl, if_pos rfl⟩) (hrt x (by omega)).2
    have cr := c_rnd (any := any) (tk := tk) (dead := dead) (ysz := ysz) (pn := pn) (rt := rt) (rs := rs) (ri := ri) (ra := ra) (rg := rg) (ya := ya) (yb := yb) (yc := yc) q8 (show x < q by omega) (h1 x (by omega)) (k + m + 1)
    have mr := m_rnd (any := any) (tk := tk) (mh := mh) (mhe := mhe) (Td := Td) (D := D) (K := K) (I := I) (U := U) (G := G) (H := H) (S := S) hE q8 (show x < q by omega) hg (h2 x (by omega)) (k + m + 1)
    show ∃ (any' ysz' mh' : Int32) (rs' ri' ra' rg' ya' yb' yc' I' U' G' H' S' : Nat → Int32), K_changeRails_L2 (nI q) may tk dead pn rt ((k + m + 1) + 1) (nI x) any rs ri ra rg ysz ya yb yc = (any', rs', ri', ra', rg', ysz', ya', yb', yc') ∧ K_m_round_L3 (nI q) mhe tk Td D K Tb (nI good) ((k + m + 1) + 1) (nI x) any I U G H mh S = (any', mh', S', I', U', G', H') ∧ xR4 q rs' ri' ra' rg' S' I' U' G' ∧ xHi ysz' ya' yb' yc' mh' H' ∧ (0 ≤ ysz'.toInt ∧ ysz'.toInt ≤ 64) ∧ (∀ j, j < x → S' j = S j ∧ I' j = I j) ∧ (∀ j, x ≤ j → j < q → xStep (ok j) (S j).toInt (I j).toInt (S' j).toInt (I' j).toInt) ∧ ((any' = any ∧ ∀ j, j < q → S' j = S j) ∨ (any' = 1 ∧ ∃ j, j < q ∧ (S' j).toInt ≠ (S j).toInt))
    rw [cr, mr]
    generalize M_m_becomes S (nI x) (if ok x = true then 1 else 0) I Td D K = to at nx ⊢
    rw [nx.1, r1]
    obtain ⟨nx1, nx2, nx3⟩ := nx
    rcases nx2 with z | ⟨z1, z2, z3⟩
    · rw [if_pos z, if_pos rfl, if_pos z]
      obtain ⟨any', ysz', mh', rs', ri', ra', rg', ya', yb', yc', I', U', G', H', S', g1, g2, g3, g4, g5, g6, g7, g8⟩ := ih (x + 1) k any ysz mh rs ri ra rg ya yb yc I U G H S (by omega) ⟨hr, hz⟩ hh hy
      refine ⟨any', ysz', mh', rs', ri', ra', rg', ya', yb', yc', I', U', G', H', S', g1, g2, g3, g4, g5, fun j hj => g6 j (by omega), fun j j1 j2 => ?_, g8⟩
      by_cases e : j = x
      · obtain ⟨a1, a2⟩ := g6 j (by omega)
        rw [a1, a2]
        exact Or.inl ⟨rfl, rfl⟩
      · exact g7 j (by omega) j2
    · have sx : xStep (ok x) (S x).toInt (I x).toInt to.toInt 0 := by
        rcases nx3 with y | y
        · omega
        · exact y
      rw [if_neg (by omega : ¬ to.toInt = -4), if_neg (fun y => z3 (Int32.toInt_inj.mp y)), if_neg (by omega : ¬ to.toInt = -4), t_become (by omega)]
      have nt := r_note (t := tk) (r := nI x) (w := to) hh hy
      have h9 : xR4 q (upd rs x to) (upd ri x 0) (if to.toInt = 1 then upd ra x 0 else ra) (if to.toInt = 3 then upd rg x (rg x + 1) else rg) (upd S x to) (upd I x 0) (upd U x (if to.toInt = 1 then 0 else U x)) (upd G x (G x + (if to.toInt = 3 then 1 else 0))) := by
        refine ⟨fun j hj => ?_, fun j j1 j2 => ?_⟩
        · obtain ⟨s1, s2, s3, s4, s5⟩ := hr j hj
          by_cases e : j = x
          · subst e
            rw [xupd_s, xupd_s, xupd_s, xupd_s, xupd_s, xupd_s]
            refine ⟨rfl, rfl, ?_, ?_, z1, z2⟩
            · by_cases a : to.toInt = 1
              · rw [if_pos a, if_pos a, xupd_s]
              · rw [if_neg a, if_neg a]
                exact s3
            · by_cases a : to.toInt = 3
              · rw [if_pos a, if_pos a, xupd_s, s4]
              · rw [if_neg a, if_neg a, xadd0]
                exact s4
          · rw [xupd_o e, xupd_o e, xupd_o e, xupd_o e, xupd_o e, xupd_o e]
            refine ⟨s1, s2, ?_, ?_, s5⟩
            · by_cases a : to.toInt = 1
              · rw [if_pos a, xupd_o e]
                exact s3
              · rw [if_neg a]
                exact s3
            · by_cases a : to.toInt = 3
              · rw [if_pos a, xupd_o e]
                exact s4
              · rw [if_neg a]
                exact s4
        · rw [xupd_o (by omega)]
          exact hz j j1 j2
      obtain ⟨any', ysz', mh', rs', ri', ra', rg', ya', yb', yc', I', U', G', H', S', g1, g2, g3, g4, g5, g6, g7, g8⟩ := ih (x + 1) k 1 _ _ (upd rs x to) (upd ri x 0) (if to.toInt = 1 then upd ra x 0 else ra) (if to.toInt = 3 then upd rg x (rg x + 1) else rg) _ _ _ (upd I x 0) (upd U x (if to.toInt = 1 then 0 else U x)) (upd G x (G x + (if to.toInt = 3 then 1 else 0))) _ (upd S x to) (by omega) h9 nt.1 nt.2
      refine ⟨any', ysz', mh', rs', ri', ra', rg', ya', yb', yc', I', U', G', H', S', g1, g2, g3, g4, g5, fun j hj => ?_, fun j j1 j2 => ?_, Or.inr ⟨?_, x, by omega, ?_⟩⟩
      · obtain ⟨a1, a2⟩ := g6 j (by omega)
        rw [a1, a2, xupd_o (by omega), xupd_o (by omega)]
        exact ⟨rfl, rfl⟩
      · by_cases e : j = x
        · subst e
          obtain ⟨a1, a2⟩ := g6 j (by omega)
          rw [a1, a2, xupd_s, xupd_s]
          exact sx
        · have := g7 j (by omega) j2
          rw [xupd_o e, xupd_o e] at this
          exact this
      · rcases g8 with ⟨y, -⟩ | ⟨y, -⟩
        · exact y
        · exact y
      · rw [(g6 x (by omega)).1, xupd_s]
        exact fun y => z3 (Int32.toInt_inj.mp y)
