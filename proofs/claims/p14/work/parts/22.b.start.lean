theorem yPl_0 {wt : Bool} {l r b : Int32} {pn Td Nm Tb : Nat → Int32} {pt : Nat → Int64} : xPl wt 0 l r b pn pt 0 l r b Td Nm Tb := ⟨rfl, rfl, rfl, rfl, ⟨by decide, by decide⟩, fun r hr => absurd hr (by have z : (0 : Int32).toNatClampNeg = 0 := (by decide); omega)⟩
theorem xarr {s : State} {args : Array Value} {ty : FieldType} (h : (Cond.arrayClass ty).before args s = true) (hp : refKind ty = false ∨ ∃ t, ty = .array t) : ∃ c : ClassId, ArrOfT s c ty ∧ va_RA s c ty := by
  obtain ⟨c, k, comp, h1, h2, h3⟩ := Cond.arrayClass_spec h
  refine ⟨c, fun n z => ⟨(fun q hq => by cases hq), k, h2, comp, h3⟩, ?_⟩
  cases ty with
  | object C =>
    rcases hp with hp | ⟨t, ht⟩
    · cases hp
    · cases ht
  | _ => exact h1
theorem xarr2 {s : State} {ty : FieldType} (h : xOver ty s) : ∃ c : ClassId, ArrOfT s c (.array ty) ∧ va_RA s c (.array ty) := by
  obtain ⟨comp, c, k, -, h2, h3, h4⟩ := h
  exact ⟨c, fun n z => ⟨(fun q hq => by cases hq), k, h2, comp, h3⟩, h4⟩
set_option maxRecDepth 100000 in
set_option maxHeartbeats 40000000 in
/-- THE LAW, from its entry -/
theorem whole_start {p : Program} {e : Env} {s : State} {m : MethodId} {below : List Frame} {meth : Method} {c : Code} (l : Launch) {b L : Nat} {xs : Nat → Int32} (hL : L ≤ 3072) (C0 : lw_At p s m meth c b L xs) : W p l e room_1 s m #[Value.ref b] below meth c s.heap [] 0 0 (lw_Z below #[Value.ref b] s) (entryFrame m ([Value.ref b] : List Value).toArray 4) := by
  obtain ⟨hx, hb, hr, hml, hown, hts0, hX, hbl, hlocks, hgv⟩ := id C0
  have hown : s.vm.findClass RL = some m.cls := hown
  have hts : ∀ w ∈ lw_tbl, w.before #[Value.ref b] s = true := hts0
  obtain ⟨c0, iS0, hKn0⟩ := u_known (C := RX0) (T := TX0) (N := 9) (n := 9) hts (fun w h => tb_in w (tbfX0 w h)) (hts (.instantiable RX0 9) (tb_in _ wd134))
  obtain ⟨c1, iS1, hKn1⟩ := u_known (C := RX2) (T := TX2) (N := 4) (n := 4) hts (fun w h => tb_in w (tbfX2 w h)) (hts (.instantiable RX2 4) (tb_in _ wd93))
  obtain ⟨c2, iS2, hKn2⟩ := u_known (C := RX3) (T := TX3) (N := 6) (n := 6) hts (fun w h => tb_in w (tbfX3 w h)) (hts (.instantiable RX3 6) (tb_in _ wd198))
  obtain ⟨c3, iS3, hKn3⟩ := u_known (C := RX4) (T := TX4) (N := 13) (n := 13) hts (fun w h => tb_in w (tbfX4 w h)) (hts (.instantiable RX4 13) (tb_in _ wd227))
  obtain ⟨c4, iS4, hKn4⟩ := u_known (C := RX5) (T := TX5) (N := 14) (n := 14) hts (fun w h => tb_in w (tbfX5 w h)) (hts (.instantiable RX5 14) (tb_in _ wd88))
  obtain ⟨c5, iS5, hKn5⟩ := u_known (C := RX6) (T := TX6) (N := 3) (n := 3) hts (fun w h => tb_in w (tbfX6 w h)) (hts (.instantiable RX6 3) (tb_in _ wd184))
  obtain ⟨c6, iS6, hKn6⟩ := u_known (C := RX7) (T := TX7) (N := 4) (n := 4) hts (fun w h => tb_in w (tbfX7 w h)) (hts (.instantiable RX7 4) (tb_in _ wd172))
  obtain ⟨c7, iS7, hKn7⟩ := u_known (C := RX8) (T := TX8) (N := 2) (n := 2) hts (fun w h => tb_in w (tbfX8 w h)) (hts (.instantiable RX8 2) (tb_in _ wd77))
  obtain ⟨c8, iS8, hKn8⟩ := u_known (C := RX9) (T := TX9) (N := 6) (n := 6) hts (fun w h => tb_in w (tbfX9 w h)) (hts (.instantiable RX9 6) (tb_in _ wd158))
  obtain ⟨c9, iS9, hKn9⟩ := u_known (C := RX10) (T := TX10) (N := 10) (n := 10) hts (fun w h => tb_in w (tbfX10 w h)) (hts (.instantiable RX10 10) (tb_in _ wd71))
  obtain ⟨c10, iS10, hKn10⟩ := u_known (C := RX11) (T := TX11) (N := 59) (n := 59) hts (fun w h => tb_in w (tbfX11 w h)) (hts (.instantiable RX11 59) (tb_in _ wd671))
  obtain ⟨dC, dI, hKc⟩ : ∃ (dC : Nat → ClassId) (dI : Nat → Nat → Nat), ∀ (k : Nat) (q : vw_C), vwCl[k]? = some q → u_Kn s q.1 q.2.1 q.2.2 (dC k) (dI k) := by
    refine ⟨fun k => if k = 0 then c0 else if k = 1 then c1 else if k = 2 then c2 else if k = 3 then c3 else if k = 4 then c4 else if k = 5 then c5 else if k = 6 then c6 else if k = 7 then c7 else if k = 8 then c8 else if k = 9 then c9 else c10, fun k => if k = 0 then iS0 else if k = 1 then iS1 else if k = 2 then iS2 else if k = 3 then iS3 else if k = 4 then iS4 else if k = 5 then iS5 else if k = 6 then iS6 else if k = 7 then iS7 else if k = 8 then iS8 else if k = 9 then iS9 else iS10, ?_⟩
    intro k q hq
    match k, hq with
    | 0, hq => cases hq; exact hKn0
    | 1, hq => cases hq; exact hKn1
    | 2, hq => cases hq; exact hKn2
    | 3, hq => cases hq; exact hKn3
    | 4, hq => cases hq; exact hKn4
    | 5, hq => cases hq; exact hKn5
    | 6, hq => cases hq; exact hKn6
    | 7, hq => cases hq; exact hKn7
    | 8, hq => cases hq; exact hKn8
    | 9, hq => cases hq; exact hKn9
    | 10, hq => cases hq; exact hKn10
    | k + 11, hq => simp [vwCl] at hq
  obtain ⟨cI, hcI⟩ := xarr (ty := .int) (hts (.arrayClass .int) (tb_in _ wd86)) (Or.inl rfl)
  obtain ⟨cJ, hcJ⟩ := xarr (ty := .long) (hts (.arrayClass .long) (tb_in _ wd225)) (Or.inl rfl)
  obtain ⟨cZ, hcZ⟩ := xarr (ty := .boolean) (hts (.arrayClass .boolean) (tb_in _ wd170)) (Or.inl rfl)
  have hovI : xOver .int s := xOver.of (hts0 (.arrayOver (.array .int)) (List.mem_of_getElem? (i := 283) (by decide +kernel)))
  have hovJ : xOver .long s := xOver.of (hts0 (.arrayOver (.array .long)) (List.mem_of_getElem? (i := 350) (by decide +kernel)))
  obtain ⟨cG, hcG⟩ := xarr2 hovI
  obtain ⟨cH, hcH⟩ := xarr2 hovJ
  have hK : va_K (dC, dI) vwCl (tyL cI cJ cZ cG cH) s := ⟨hKc, fun k q h => by
    match k, h with
    | 0, h => cases h; exact hcI
    | 1, h => cases h; exact hcJ
    | 2, h => cases h; exact hcZ
    | 3, h => cases h; exact hcG
    | 4, h => cases h; exact hcH
    | k + 5, h => simp [tyL] at h⟩
  obtain ⟨A, hAS, hA⟩ : ∃ A : Nat → Prop, (∀ q : Nat, A q → s.heap.size ≤ q) ∧ (∀ q : Nat, s.heap.size ≤ q → A q) := ⟨fun q => s.heap.size ≤ q, fun _ h => h, fun _ h => h⟩
  have hbA : ¬ A b := fun q => absurd (hAS b q) (Nat.not_le.mpr hbl)
  obtain ⟨adK, adV, tI, hE⟩ := xEnv_start (A := A) hgv hts0 (fun a ha q => absurd (hAS a q) (Nat.not_le.mpr ha))
  generalize (dC, dI) = D at hK
  have hS : va_S A s.heap s.heap [] := va_S.rf
  have hP : va_P D vwCl [] s.heap := xP0 D _
  have hD : va_D A [] := xD0 A
  have hl := lv_entry ([.ref b]) (n := 4) (Nat.le_of_ble_eq_true rfl)
  rw [lg_entry_eq]
  generalize (lg_sl ([.ref b]) ++ List.replicate (4 - (lg_sl ([.ref b])).length) Slot.unset).toArray = ls at hl ⊢
  have hl : lv_has ls 4 [(0, .ref b)] := hl
  refine va_new (ci := 9) (fs := [.null, .null, .null, .null, .null, .null, .null, .null, .null, .int 0]) (C := RX10) (T := TX10) (N := 10) hx hb hts (fun w h => tb_in w (tbfX10 w h)) tyX10 tyX10_ok hown (hts (.classLink RL 7 RX10) (tb_in _ wd70)) (hts (.instantiable RX10 10) (tb_in _ wd71)) (hts (.initialized RX10) (tb_in _ wd50)) hK hP hD hS hA rfl (xdef_X10) (Nat.le_of_ble_eq_true rfl) (Nat.le_of_ble_eq_true rfl) dL_law_0 (fun q1 H hP hD hS => ?_)
  have hPD : xPD D A [(q1, .inr (9, [.null, .null, .null, .null, .null, .null, .null, .null, .null, .int 0]))] H := ⟨hP, hD⟩
  obtain ⟨hP, hD⟩ := hPD
  refine W.widen (k := 1) (n := 10) (by decide) (by decide) ?_
  refine lv_dup hx hb dL_law_3 rfl ?_
  obtain ⟨hPc, hDc, hFc, hC9⟩ := xpk (wc := W_n_PowerRails cI cJ cZ cG cH q1) hP hD hS hA [0] (by decide +kernel) rfl
  refine va_callv (va_runI (As := []) (rest := [.ref q1]) ⟨hx, hb, hml, hown, hts⟩ (c_n_PowerRails l D cI cJ cZ cG cH H.size q1) (cwI 0 hts (xGW tb_in wd948) rfl rfl rfl (hts (.initialized RX10) (tb_in _ wd50)) (hts (.methodLink RL 9 yX10_init) (tb_in _ wd72)) (hts (.instanceMethod yX10_init) (tb_in _ wd73)) rfl (by decide +kernel) ⟨Nat.le_of_ble_eq_true rfl, Nat.le_of_ble_eq_true rfl⟩) ⟨xPcA_blind, xPcA_pre hPc hK hDc hovI hovJ⟩ rfl rfl hl.1 rfl (lv_room (Nat.le_of_ble_eq_true rfl)) dL_law_4 ⟨Nat.le_of_ble_eq_true rfl, Nat.le_of_ble_eq_true rfl⟩) hS (fun q _ h => hFc q h) hFc (fun u t H1 locs ht hvm hw2 hB hz1 hk1 hS => ?_)
  revert hB
  refine xex16r (fun tp_3 rd_4 rn_5 co_6 wy_7 sg_8 sh_9 pl_10 sp_11 tba_12 hy_13 rsa_14 ria_15 raa_16 rta_17 rga_18 => ?_)
  refine xex16r (fun yaa_19 yba_20 yca_21 fwa_22 fta_23 fra_24 fga_25 cxa_26 wba_27 wka_28 srwa_29 sca_30 sla_31 ssa_32 rr_33 szs_34 => ?_)
  refine xex9r (fun pna_35 pta_36 sna_37 sta_38 rfa_39 rya_40 rla_41 ryf_42 rlf_43 => ?_)
  refine xan4r (fun hf43_0 hP1 hK1 hD1 => ?_)
  rw [ht] at hP1
  obtain ⟨hP, hD⟩ : xPD D A [oX10 q1 tp_3 rd_4 rn_5 co_6 wy_7 sg_8 sh_9 pl_10 sp_11 0, oX8 tp_3 tba_12 0, oAI tba_12 cI 400 (fun _ => 0), oX5 rn_5 hy_13 rsa_14 ria_15 raa_16 rta_17 rga_18 0 0 0 0 0 0 0 0, oAI rsa_14 cI 8 (fun _ => 0), oAI ria_15 cI 8 (fun _ => 0), oAI raa_16 cI 8 (fun _ => 0), oAI rta_17 cI 8 (fun _ => 0), oAI rga_18 cI 8 (fun _ => 0), oX2 hy_13 yaa_19 yba_20 yca_21 0, oAI yaa_19 cI 64 (fun _ => 0), oAI yba_20 cI 64 (fun _ => 0), oAI yca_21 cI 64 (fun _ => 0), oX0 co_6 fwa_22 fta_23 fra_24 fga_25 cxa_26 0 0 0 0, oAI fwa_22 cI 8 (fun _ => 0), oAI fta_23 cI 8 (fun _ => 0), oAI fra_24 cI 8 (fun _ => 0), oAI fga_25 cI 8 (fun _ => 0), oAI cxa_26 cI 145 (fun _ => 0), oX9 wy_7 co_6 wba_27 wka_28 0 0 0, oAI wba_27 cI 64 (fun _ => 0), oAI wka_28 cZ 64 (fun _ => 0), oX7 sg_8 co_6 srwa_29 0 (-4), oAI srwa_29 cI 8 (fun _ => 0), oX6 sh_9 sca_30 sla_31 ssa_32, oAM sca_30 cG 4 rr_33, oAI (rr_33 0) cI 40 (fun _ => 0), oAI (rr_33 1) cI 40 (fun _ => 0), oAI (rr_33 2) cI 40 (fun _ => 0), oAI (rr_33 3) cI 40 (fun _ => 0), oAI sla_31 cI 4 (fun _ => 0), oAI ssa_32 cI 4 szs_34, oX3 pl_10 pna_35 pta_36 0 999 0 5, oAI pna_35 cI 64 (fun _ => 0), oAJ pta_36 cJ 64 (fun _ => 0), oX3 sp_11 sna_37 sta_38 0 999 0 5, oAI sna_37 cI 64 (fun _ => 0), oAJ sta_38 cJ 64 (fun _ => 0), oX4 rd_4 tp_3 rfa_39 rya_40 rla_41 sp_11 0 0 0 0 0 0 0 0, oAI rfa_39 cI 8 (fun _ => 0), oAM rya_40 cH 7 ryf_42, oAJ (ryf_42 0) cJ 8 (fun _ => 0), oAJ (ryf_42 1) cJ 8 (fun _ => 0), oAJ (ryf_42 2) cJ 8 (fun _ => 0), oAJ (ryf_42 3) cJ 8 (fun _ => 0), oAJ (ryf_42 4) cJ 8 (fun _ => 0), oAJ (ryf_42 5) cJ 8 (fun _ => 0), oAJ (ryf_42 6) cJ 8 (fun _ => 0), oAM rla_41 cH 7 rlf_43, oAJ (rlf_43 0) cJ 8 (fun _ => 0), oAJ (rlf_43 1) cJ 8 (fun _ => 0), oAJ (rlf_43 2) cJ 8 (fun _ => 0), oAJ (rlf_43 3) cJ 8 (fun _ => 0), oAJ (rlf_43 4) cJ 8 (fun _ => 0), oAJ (rlf_43 5) cJ 8 (fun _ => 0), oAJ (rlf_43 6) cJ 8 (fun _ => 0)] H1 := xjn 0 hP hD [0] [] hC9 rfl (by decide +kernel) (by decide +kernel) hk1 hFc hP1 hD1
  generalize H1 = H at hP hS ⊢
  have hf43_0 : ∀ j, j < 4 → szs_34 j = -4 := hf43_0
  refine W.widen (k := 56) (n := 1584) (by decide) (by decide) ?_
  refine lv_astore_n (lv' := [(1, .ref q1), (0, .ref b)]) hx hb dL_law_7 rfl hl (by decide) rfl (fun ls hl => ?_)
  refine va_new (ci := 10) (fs := [.int 0, .null, .null, .null, .int 0, .int 0, .int 0, .int 0, .null, .null, .null, .int 0, .int 0, .int 0, .int 0, .int 0, .int 0, .null, .null, .int 0, .null, .int 0, .null, .int 0, .null, .null, .int 0, .int 0, .int 0, .int 0, .int 0, .int 0, .int 0, .int 0, .int 0, .null, .null, .null, .null, .null, .null, .int 0, .int 0, .int 0, .int 0, .int 0, .int 0, .null, .null, .null, .null, .null, .int 0, .int 0, .null, .int 0, .null, .null, .null]) (C := RX11) (T := TX11) (N := 59) hx hb hts (fun w h => tb_in w (tbfX11 w h)) tyX11 tyX11_ok hown (hts (.classLink RL 10 RX11) (tb_in _ wd670)) (hts (.instantiable RX11 59) (tb_in _ wd671)) (hts (.initialized RX11) (tb_in _ wd61)) hK hP hD hS hA rfl (xdef_X11) (Nat.le_of_ble_eq_true rfl) (Nat.le_of_ble_eq_true rfl) dL_law_8 (fun q44 H hP hD hS => ?_)
  have hPD : xPD D A [oX10 q1 tp_3 rd_4 rn_5 co_6 wy_7 sg_8 sh_9 pl_10 sp_11 0, oX8 tp_3 tba_12 0, oAI tba_12 cI 400 (fun _ => 0), oX5 rn_5 hy_13 rsa_14 ria_15 raa_16 rta_17 rga_18 0 0 0 0 0 0 0 0, oAI rsa_14 cI 8 (fun _ => 0), oAI ria_15 cI 8 (fun _ => 0), oAI raa_16 cI 8 (fun _ => 0), oAI rta_17 cI 8 (fun _ => 0), oAI rga_18 cI 8 (fun _ => 0), oX2 hy_13 yaa_19 yba_20 yca_21 0, oAI yaa_19 cI 64 (fun _ => 0), oAI yba_20 cI 64 (fun _ => 0), oAI yca_21 cI 64 (fun _ => 0), oX0 co_6 fwa_22 fta_23 fra_24 fga_25 cxa_26 0 0 0 0, oAI fwa_22 cI 8 (fun _ => 0), oAI fta_23 cI 8 (fun _ => 0), oAI fra_24 cI 8 (fun _ => 0), oAI fga_25 cI 8 (fun _ => 0), oAI cxa_26 cI 145 (fun _ => 0), oX9 wy_7 co_6 wba_27 wka_28 0 0 0, oAI wba_27 cI 64 (fun _ => 0), oAI wka_28 cZ 64 (fun _ => 0), oX7 sg_8 co_6 srwa_29 0 (-4), oAI srwa_29 cI 8 (fun _ => 0), oX6 sh_9 sca_30 sla_31 ssa_32, oAM sca_30 cG 4 rr_33, oAI (rr_33 0) cI 40 (fun _ => 0), oAI (rr_33 1) cI 40 (fun _ => 0), oAI (rr_33 2) cI 40 (fun _ => 0), oAI (rr_33 3) cI 40 (fun _ => 0), oAI sla_31 cI 4 (fun _ => 0), oAI ssa_32 cI 4 szs_34, oX3 pl_10 pna_35 pta_36 0 999 0 5, oAI pna_35 cI 64 (fun _ => 0), oAJ pta_36 cJ 64 (fun _ => 0), oX3 sp_11 sna_37 sta_38 0 999 0 5, oAI sna_37 cI 64 (fun _ => 0), oAJ sta_38 cJ 64 (fun _ => 0), oX4 rd_4 tp_3 rfa_39 rya_40 rla_41 sp_11 0 0 0 0 0 0 0 0, oAI rfa_39 cI 8 (fun _ => 0), oAM rya_40 cH 7 ryf_42, oAJ (ryf_42 0) cJ 8 (fun _ => 0), oAJ (ryf_42 1) cJ 8 (fun _ => 0), oAJ (ryf_42 2) cJ 8 (fun _ => 0), oAJ (ryf_42 3) cJ 8 (fun _ => 0), oAJ (ryf_42 4) cJ 8 (fun _ => 0), oAJ (ryf_42 5) cJ 8 (fun _ => 0), oAJ (ryf_42 6) cJ 8 (fun _ => 0), oAM rla_41 cH 7 rlf_43, oAJ (rlf_43 0) cJ 8 (fun _ => 0), oAJ (rlf_43 1) cJ 8 (fun _ => 0), oAJ (rlf_43 2) cJ 8 (fun _ => 0), oAJ (rlf_43 3) cJ 8 (fun _ => 0), oAJ (rlf_43 4) cJ 8 (fun _ => 0), oAJ (rlf_43 5) cJ 8 (fun _ => 0), oAJ (rlf_43 6) cJ 8 (fun _ => 0), (q44, .inr (10, [.int 0, .null, .null, .null, .int 0, .int 0, .int 0, .int 0, .null, .null, .null, .int 0, .int 0, .int 0, .int 0, .int 0, .int 0, .null, .null, .int 0, .null, .int 0, .null, .int 0, .null, .null, .int 0, .int 0, .int 0, .int 0, .int 0, .int 0, .int 0, .int 0, .int 0, .null, .null, .null, .null, .null, .null, .int 0, .int 0, .int 0, .int 0, .int 0, .int 0, .null, .null, .null, .null, .null, .int 0, .int 0, .null, .int 0, .null, .null, .null]))] H := ⟨hP, hD⟩
  obtain ⟨hP, hD⟩ := hPD
  refine W.widen (k := 57) (n := 1643) (by decide) (by decide) ?_
  refine lv_dup hx hb dL_law_11 rfl ?_
  obtain ⟨hPc, hDc, hFc, hC9⟩ := xpk (wc := W_m_init cI cJ cZ cG cH q44) hP hD hS hA [56] (by decide +kernel) rfl
  refine va_callv (va_runI (As := []) (rest := [.ref q44]) ⟨hx, hb, hml, hown, hts⟩ (c_m_init l D cI cJ cZ cG cH H.size q44) (cwI 0 hts (xGW tb_in wd1091) rfl rfl rfl (hts (.initialized RX11) (tb_in _ wd61)) (hts (.methodLink RL 12 yX11_init) (tb_in _ wd672)) (hts (.instanceMethod yX11_init) (tb_in _ wd673)) rfl (by decide +kernel) ⟨Nat.le_of_ble_eq_true rfl, Nat.le_of_ble_eq_true rfl⟩) ⟨xPc_blind, xPc_pre hPc hK hDc⟩ rfl rfl hl.1 rfl (lv_room (Nat.le_of_ble_eq_true rfl)) dL_law_12 ⟨Nat.le_of_ble_eq_true rfl, Nat.le_of_ble_eq_true rfl⟩) hS (fun q _ h => hFc q h) hFc (fun u t H1 locs ht hvm hw45 hB hz1 hk1 hS => ?_)
  revert hB
  refine xex16r (fun Atold_46 Anames_47 Atable_48 mdRails_49 AdTold_50 AdNames_51 AdTable_52 mdLimit_53 mdRetry_54 mdPause_55 mhasLimit_56 mhasRetry_57 mused_58 AusedRail_59 AusedAt_60 mcoded_61 => ?_)
  refine xex16r (fun Acode_62 mwaiting_63 Await_64 mdeep_65 Apile_66 Atape_67 mpos_68 mfrom_69 msort_70 mvalue_71 mwrongAt_72 Astate_73 Asince_74 AupSince_75 AisDead_76 Atakes_77 => ?_)
  refine xex16r (fun AwasGood_78 Ahappening_79 AmayAt_80 AgoodAt_81 Aby_82 Awaits_83 mupNow_84 mpeakAt_85 AbestWaits_86 msoonest_87 Alanes_88 Asizes_89 Acells_90 Ftold_91 Fnames_92 Ftable_93 => ?_)
  refine xex16r (fun FdTold_94 FdNames_95 FdTable_96 FusedRail_97 FusedAt_98 Fcode_99 Fwait_100 Fpile_101 Fstate_102 Fsince_103 FupSince_104 FisDead_105 Ftakes_106 FwasGood_107 Fhappening_108 FmayAt_109 => ?_)
  refine xex7r (fun FgoodAt_110 Fby_111 Fwaits_112 FbestWaits_113 Flanes_114 Fsizes_115 Fcells_116 => ?_)
  refine xan8r (fun hf116_0 hf116_1 hf116_2 hf116_3 hf116_4 hf116_5 hf116_6 => ?_)
  refine xan8r (fun hf116_7 hf116_8 hf116_9 hf116_10 hf116_11 hf116_12 hf116_13 => ?_)
  refine xan8r (fun hf116_14 hf116_15 hf116_16 hf116_17 hf116_18 hf116_19 hf116_20 => ?_)
  refine xan3r (fun hP1 hK1 hD1 => ?_)
  rw [ht] at hP1
  obtain ⟨hP, hD⟩ : xPD D A [oX10 q1 tp_3 rd_4 rn_5 co_6 wy_7 sg_8 sh_9 pl_10 sp_11 0, oX8 tp_3 tba_12 0, oAI tba_12 cI 400 (fun _ => 0), oX5 rn_5 hy_13 rsa_14 ria_15 raa_16 rta_17 rga_18 0 0 0 0 0 0 0 0, oAI rsa_14 cI 8 (fun _ => 0), oAI ria_15 cI 8 (fun _ => 0), oAI raa_16 cI 8 (fun _ => 0), oAI rta_17 cI 8 (fun _ => 0), oAI rga_18 cI 8 (fun _ => 0), oX2 hy_13 yaa_19 yba_20 yca_21 0, oAI yaa_19 cI 64 (fun _ => 0), oAI yba_20 cI 64 (fun _ => 0), oAI yca_21 cI 64 (fun _ => 0), oX0 co_6 fwa_22 fta_23 fra_24 fga_25 cxa_26 0 0 0 0, oAI fwa_22 cI 8 (fun _ => 0), oAI fta_23 cI 8 (fun _ => 0), oAI fra_24 cI 8 (fun _ => 0), oAI fga_25 cI 8 (fun _ => 0), oAI cxa_26 cI 145 (fun _ => 0), oX9 wy_7 co_6 wba_27 wka_28 0 0 0, oAI wba_27 cI 64 (fun _ => 0), oAI wka_28 cZ 64 (fun _ => 0), oX7 sg_8 co_6 srwa_29 0 (-4), oAI srwa_29 cI 8 (fun _ => 0), oX6 sh_9 sca_30 sla_31 ssa_32, oAM sca_30 cG 4 rr_33, oAI (rr_33 0) cI 40 (fun _ => 0), oAI (rr_33 1) cI 40 (fun _ => 0), oAI (rr_33 2) cI 40 (fun _ => 0), oAI (rr_33 3) cI 40 (fun _ => 0), oAI sla_31 cI 4 (fun _ => 0), oAI ssa_32 cI 4 szs_34, oX3 pl_10 pna_35 pta_36 0 999 0 5, oAI pna_35 cI 64 (fun _ => 0), oAJ pta_36 cJ 64 (fun _ => 0), oX3 sp_11 sna_37 sta_38 0 999 0 5, oAI sna_37 cI 64 (fun _ => 0), oAJ sta_38 cJ 64 (fun _ => 0), oX4 rd_4 tp_3 rfa_39 rya_40 rla_41 sp_11 0 0 0 0 0 0 0 0, oAI rfa_39 cI 8 (fun _ => 0), oAM rya_40 cH 7 ryf_42, oAJ (ryf_42 0) cJ 8 (fun _ => 0), oAJ (ryf_42 1) cJ 8 (fun _ => 0), oAJ (ryf_42 2) cJ 8 (fun _ => 0), oAJ (ryf_42 3) cJ 8 (fun _ => 0), oAJ (ryf_42 4) cJ 8 (fun _ => 0), oAJ (ryf_42 5) cJ 8 (fun _ => 0), oAJ (ryf_42 6) cJ 8 (fun _ => 0), oAM rla_41 cH 7 rlf_43, oAJ (rlf_43 0) cJ 8 (fun _ => 0), oAJ (rlf_43 1) cJ 8 (fun _ => 0), oAJ (rlf_43 2) cJ 8 (fun _ => 0), oAJ (rlf_43 3) cJ 8 (fun _ => 0), oAJ (rlf_43 4) cJ 8 (fun _ => 0), oAJ (rlf_43 5) cJ 8 (fun _ => 0), oAJ (rlf_43 6) cJ 8 (fun _ => 0), oX11 q44 0 Atold_46 Anames_47 Atable_48 999 0 5 mdRails_49 AdTold_50 AdNames_51 AdTable_52 mdLimit_53 mdRetry_54 mdPause_55 mhasLimit_56 mhasRetry_57 mused_58 AusedRail_59 AusedAt_60 mcoded_61 Acode_62 mwaiting_63 Await_64 mdeep_65 Apile_66 Atape_67 0 mpos_68 mfrom_69 msort_70 mvalue_71 0 mwrongAt_72 0 0 Astate_73 Asince_74 AupSince_75 AisDead_76 Atakes_77 AwasGood_78 0 0 0 0 0 0 Ahappening_79 AmayAt_80 AgoodAt_81 Aby_82 Awaits_83 mupNow_84 mpeakAt_85 AbestWaits_86 msoonest_87 Alanes_88 Asizes_89 Acells_90, oAI Atold_46 cI 56 Ftold_91, oAI Anames_47 cI 8 Fnames_92, oAI Atable_48 cZ 4096 Ftable_93, oAI AdTold_50 cI 56 FdTold_94, oAI AdNames_51 cI 8 FdNames_95, oAI AdTable_52 cZ 4096 FdTable_96, oAI AusedRail_59 cI 400 FusedRail_97, oAI AusedAt_60 cI 400 FusedAt_98, oAI Acode_62 cI 400 Fcode_99, oAI Await_64 cI 400 Fwait_100, oAI Apile_66 cZ 400 Fpile_101, oAI Atape_67 cI 400 (fun _ => 0), oAI Astate_73 cI 8 Fstate_102, oAI Asince_74 cI 8 Fsince_103, oAI AupSince_75 cI 8 FupSince_104, oAI AisDead_76 cZ 8 FisDead_105, oAI Atakes_77 cI 8 Ftakes_106, oAI AwasGood_78 cI 8 FwasGood_107, oAI Ahappening_79 cI 192 Fhappening_108, oAI AmayAt_80 cI 8 FmayAt_109, oAI AgoodAt_81 cI 8 FgoodAt_110, oAI Aby_82 cI 8 Fby_111, oAI Awaits_83 cI 8 Fwaits_112, oAI AbestWaits_86 cI 8 FbestWaits_113, oAI Alanes_88 cI 4 Flanes_114, oAI Asizes_89 cI 4 Fsizes_115, oAI Acells_90 cI 160 Fcells_116] H1 := xjn 56 hP hD [56] [0, 1, 2, 3, 4, 5, 6, 7, 8, 9, 10, 11, 12, 13, 14, 15, 16, 17, 18, 19, 20, 21, 22, 23, 24, 25, 26, 27, 28, 29, 30, 31, 32, 33, 34, 35, 36, 37, 38, 39, 40, 41, 42, 43, 44, 45, 46, 47, 48, 49, 50, 51, 52, 53, 54, 55] hC9 rfl (by decide +kernel) (by decide +kernel) hk1 hFc hP1 hD1
  generalize H1 = H at hP hS ⊢
  have hf116_0 : 0 ≤ mdRails_49.toInt ∧ mdRails_49.toInt ≤ 8 := hf116_0
  have hf116_1 : 0 ≤ mhasLimit_56.toInt ∧ mhasLimit_56.toInt ≤ 1 := hf116_1
  have hf116_2 : 0 ≤ mhasRetry_57.toInt ∧ mhasRetry_57.toInt ≤ 1 := hf116_2
  have hf116_3 : 0 ≤ mused_58.toInt ∧ mused_58.toInt ≤ 400 := hf116_3
  have hf116_4 : 0 ≤ mcoded_61.toInt ∧ mcoded_61.toInt ≤ 400 := hf116_4
  have hf116_5 : 0 ≤ mwaiting_63.toInt ∧ mwaiting_63.toInt ≤ 400 := hf116_5
  have hf116_6 : 0 ≤ mdeep_65.toInt ∧ mdeep_65.toInt ≤ 400 := hf116_6
  have hf116_7 : 0 ≤ mpos_68.toInt ∧ mpos_68.toInt ≤ 400 := hf116_7
  have hf116_8 : 0 ≤ mfrom_69.toInt ∧ mfrom_69.toInt ≤ 400 := hf116_8
  have hf116_9 : 0 ≤ msort_70.toInt ∧ msort_70.toInt ≤ 7 := hf116_9
  have hf116_10 : ∀ j, j < 4096 → 0 ≤ (Ftable_93 j).toInt ∧ (Ftable_93 j).toInt ≤ 1 := hf116_10
  have hf116_11 : ∀ j, j < 4096 → 0 ≤ (FdTable_96 j).toInt ∧ (FdTable_96 j).toInt ≤ 1 := hf116_11
  have hf116_12 : ∀ j, j < 400 → 0 ≤ (Fpile_101 j).toInt ∧ (Fpile_101 j).toInt ≤ 1 := hf116_12
  have hf116_13 : ∀ j, j < 8 → 0 ≤ (Fstate_102 j).toInt ∧ (Fstate_102 j).toInt ≤ 4 := hf116_13
  have hf116_14 : ∀ j, j < 8 → 0 ≤ (FisDead_105 j).toInt ∧ (FisDead_105 j).toInt ≤ 1 := hf116_14
  have hf116_15 : ∀ j, j < 4 → (-4) ≤ (Flanes_114 j).toInt ∧ (Flanes_114 j).toInt ≤ 2 := hf116_15
  have hf116_16 : ∀ j, j < 4 → 0 ≤ (Fsizes_115 j).toInt ∧ (Fsizes_115 j).toInt ≤ 40 := hf116_16
  have hf116_17 : xTD Ftold_91 (0 : Int32).toNatClampNeg := hf116_17
  have hf116_18 : ∀ j : Nat, (j : Int) < (0 : Int32).toInt → 1 ≤ (Ftakes_106 j).toInt := hf116_18
  have hf116_19 : ∀ j, j < 4 → Flanes_114 j = -4 := hf116_19
  have hf116_20 : ∀ j : Nat, j < 8 → FisDead_105 j = 0 := hf116_20
  refine W.widen (k := 84) (n := 12811) (by decide) (by decide) ?_
  refine lv_astore_n (lv' := [(2, .ref q44), (1, .ref q1), (0, .ref b)]) hx hb dL_law_15 rfl hl (by decide) rfl (fun ls hl => ?_)
  refine lv_iconst (v := 0) hx hb dL_law_16 (by decide) ?_
  refine lv_istore_n (lv' := [(3, .int 0), (2, .ref q44), (1, .ref q1), (0, .ref b)]) hx hb dL_law_17 rfl hl (by decide) rfl (fun ls hl => ?_)
  have rsz : ∀ j, j < 4 → (-4) ≤ (szs_34 j).toInt ∧ (szs_34 j).toInt ≤ (-4) := xeq_rng hf43_0 ⟨by decide, by decide⟩
  refine W.widen (k := 84) (n := 12811) (by decide) (by decide) ?_
  exact law_loop C0 hL hAS hA hE hK q1 q44 _ 0 _ _ _ (Nat.lt_succ_self _) (Nat.zero_le _) (xInv_mk tp_3 rd_4 rn_5 co_6 wy_7 sg_8 sh_9 pl_10 sp_11 0 tba_12 0 (fun _ => 0) hy_13 rsa_14 ria_15 raa_16 rta_17 rga_18 0 0 0 0 0 0 0 0 (fun _ => 0) (fun _ => 0) (fun _ => 0) (fun _ => 0) (fun _ => 0) yaa_19 yba_20 yca_21 0 (fun _ => 0) (fun _ => 0) (fun _ => 0) fwa_22 fta_23 fra_24 fga_25 cxa_26 0 0 0 0 (fun _ => 0) (fun _ => 0) (fun _ => 0) (fun _ => 0) (fun _ => 0) wba_27 wka_28 0 0 0 (fun _ => 0) (fun _ => 0) srwa_29 0 (-4) (fun _ => 0) sca_30 sla_31 ssa_32 rr_33 (fun _ => 0) (fun _ => 0) (fun _ => 0) (fun _ => 0) (fun _ => 0) szs_34 pna_35 pta_36 0 999 0 5 (fun _ => 0) (fun _ => 0) sna_37 sta_38 0 999 0 5 (fun _ => 0) (fun _ => 0) rfa_39 rya_40 rla_41 sp_11 0 0 0 0 0 0 0 0 (fun _ => 0) ryf_42 (fun _ => 0) (fun _ => 0) (fun _ => 0) (fun _ => 0) (fun _ => 0) (fun _ => 0) (fun _ => 0) rlf_43 (fun _ => 0) (fun _ => 0) (fun _ => 0) (fun _ => 0) (fun _ => 0) (fun _ => 0) (fun _ => 0) 0 Atold_46 Anames_47 Atable_48 999 0 5 mdRails_49 AdTold_50 AdNames_51 AdTable_52 mdLimit_53 mdRetry_54 mdPause_55 mhasLimit_56 mhasRetry_57 mused_58 AusedRail_59 AusedAt_60 mcoded_61 Acode_62 mwaiting_63 Await_64 mdeep_65 Apile_66 Atape_67 0 mpos_68 mfrom_69 msort_70 mvalue_71 0 mwrongAt_72 0 0 Astate_73 Asince_74 AupSince_75 AisDead_76 Atakes_77 AwasGood_78 0 0 0 0 0 0 Ahappening_79 AmayAt_80 AgoodAt_81 Aby_82 Awaits_83 mupNow_84 mpeakAt_85 AbestWaits_86 msoonest_87 Alanes_88 Asizes_89 Acells_90 Ftold_91 Fnames_92 Ftable_93 FdTold_94 FdNames_95 FdTable_96 FusedRail_97 FusedAt_98 Fcode_99 Fwait_100 Fpile_101 (fun _ => 0) Fstate_102 Fsince_103 FupSince_104 FisDead_105 Ftakes_106 FwasGood_107 Fhappening_108 FmayAt_109 FgoodAt_110 Fby_111 Fwaits_112 FbestWaits_113 Flanes_114 Fsizes_115 Fcells_116 ⟨by decide, by decide⟩ ⟨by decide, by decide⟩ (xcst (c := 0) ⟨by decide, by decide⟩) ⟨by decide, by decide⟩ ⟨by decide, by decide⟩ (xcst (c := 0) ⟨by decide, by decide⟩) (xcst (c := 0) ⟨by decide, by decide⟩) (xcst (c := 0) ⟨by decide, by decide⟩) (xcst (c := 0) ⟨by decide, by decide⟩) ⟨by decide, by decide⟩ (xcst (c := 0) ⟨by decide, by decide⟩) ⟨by decide, by decide⟩ (xcst (c := 0) ⟨by decide, by decide⟩) (xwk_rng rsz (by decide) (by decide)) ⟨by decide, by decide⟩ (xcst (c := 0) ⟨by decide, by decide⟩) ⟨by decide, by decide⟩ (xcst (c := 0) ⟨by decide, by decide⟩) ⟨by decide, by decide⟩ ⟨by decide, by decide⟩ ⟨by decide, by decide⟩ ⟨by decide, by decide⟩ (xrng rfl (by omega) (by omega)) (xrng rfl (by omega) (by omega)) (xrng rfl (by omega) (by omega)) (xrng rfl (by omega) (by omega)) (xrng rfl (by omega) (by omega)) (xrng rfl (by omega) (by omega)) (xrng rfl (by omega) (by omega)) ⟨by decide, by decide⟩ (xrng rfl (by omega) (by omega)) (xrng rfl (by omega) (by omega)) (xrng rfl (by omega) (by omega)) ⟨by decide, by decide⟩ ⟨by decide, by decide⟩ ⟨by decide, by decide⟩ (xwk_rng hf116_10 (by decide) (by decide)) (xwk_rng hf116_11 (by decide) (by decide)) (xwk_rng hf116_12 (by decide) (by decide)) (xwk_rng hf116_13 (by decide) (by decide)) (xwk_rng hf116_14 (by decide) (by decide)) (xwk_rng hf116_15 (by decide) (by decide)) (xwk_rng hf116_16 (by decide) (by decide)) (fun _ _ => Int.le_refl _) hf116_17 hf116_18 rfl (fun j hj => Or.inl ⟨by rw [hf43_0 j hj]; decide, by rw [hf116_19 j hj]; decide⟩) rfl (fun _ => by decide) rfl yPl_0 xTk_0 yT9_0 yRun_0 (yCac_0 (by decide) rfl rfl (fun _ _ => rfl) (fun _ _ => rfl)) yDz_0 rfl (xdd_0 hf116_20) (hP.sub [0, 1, 2, 3, 4, 5, 6, 7, 8, 9, 10, 11, 12, 13, 14, 15, 16, 17, 18, 19, 20, 21, 22, 23, 24, 25, 26, 27, 28, 29, 30, 31, 32, 33, 34, 35, 36, 37, 38, 39, 40, 41, 42, 43, 44, 45, 46, 47, 48, 49, 50, 51, 52, 53, 54, 55, 56, 57, 58, 59, 60, 61, 62, 63, 64, 65, 66, 67, 68, 69, 70, 71, 72, 73, 74, 75, 76, 77, 78, 79, 80, 81, 82, 83] rfl) (hD.sub [0, 1, 2, 3, 4, 5, 6, 7, 8, 9, 10, 11, 12, 13, 14, 15, 16, 17, 18, 19, 20, 21, 22, 23, 24, 25, 26, 27, 28, 29, 30, 31, 32, 33, 34, 35, 36, 37, 38, 39, 40, 41, 42, 43, 44, 45, 46, 47, 48, 49, 50, 51, 52, 53, 54, 55, 56, 57, 58, 59, 60, 61, 62, 63, 64, 65, 66, 67, 68, 69, 70, 71, 72, 73, 74, 75, 76, 77, 78, 79, 80, 81, 82, 83] (by decide +kernel) rfl)) hS (lv_sub hl [3, 2, 1, 0] rfl)
