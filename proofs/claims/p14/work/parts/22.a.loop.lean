set_option maxRecDepth 100000 in
set_option maxHeartbeats 40000000 in
/-- THE LAW, from the head of its loop -/
theorem law_loop {p : Program} {l : Launch} {e : Env} {s : State} {m : MethodId} {below : List Frame} {meth : Method} {c : Code} {b L : Nat} {xs : Nat → Int32} (C0 : lw_At p s m meth c b L xs) (hL : L ≤ 3072) {D : va_G} {cI cJ cZ cG cH : ClassId} {A : Nat → Prop} (hAS : ∀ q : Nat, A q → s.heap.size ≤ q) (hA : ∀ q : Nat, s.heap.size ≤ q → A q) {adK adV : Nat → Nat} {tI : Nat} (hE : xEnv adK adV tI A s s.heap) (hK : va_K D vwCl (tyL cI cJ cZ cG cH) s) (xo mo : Nat) : ∀ (n i : Nat) (H : Heap) (locs : List Loc) (ls : Array Slot), L - i < n → i ≤ L → xInv D cI cJ cZ cG cH A xo mo H → va_S A s.heap H locs → lv_has ls 4 [(0, .ref b), (1, .ref xo), (2, .ref mo), (3, .int (nI i))] → W p l e room_1 s m #[Value.ref b] below meth c H locs 84 12811 (lw_Z below #[Value.ref b] s) (F0 m 18 ls []) := by
  obtain ⟨hx, hb, hr, hml, hown, hts0, hX, hbl, hlocks, hgv⟩ := id C0
  have hbA : ¬ A b := fun q => absurd (hAS b q) (Nat.not_le.mpr hbl)
  intro n
  induction n with
  | zero =>
    intro i H locs ls hn
    exact absurd hn (Nat.not_lt_zero _)
  | succ n ih0 =>
    intro i H locs ls hn hiL hI hS hl
    refine lv_iload_n hx hb dL_law_18 rfl (lv_at hl 3 rfl) ?_
    refine lv_aload_n hx hb dL_law_19 rfl (lv_at hl 0 rfl) ?_
    refine va_slen hx hb hX hbl hbA hS dL_law_20 ?_
    refine lv_bipush (v := 6) hx hb dL_law_21 (by decide) ?_
    refine lv_isub hx hb dL_law_23 ?_
    refine lv_icmp_gt (tgt := 1123) hx hb dL_law_24 (by decide) (fun _ => law_end C0 hAS hS (by decide) (by decide)) (fun c9 => ?_)
    have hi : i + 6 ≤ L := xidx hL hiL c9
    have ih : ∀ (H : Heap) (locs : List Loc) (ls : Array Slot), xInv D cI cJ cZ cG cH A xo mo H → va_S A s.heap H locs → lv_has ls 4 [(0, .ref b), (1, .ref xo), (2, .ref mo), (3, .int (nI i))] → W p l e room_1 s m #[Value.ref b] below meth c H locs 84 12811 (lw_Z below #[Value.ref b] s) (F0 m 1117 ls []) := by
      intro H locs ls hI hS hl
      refine lv_iinc (v := nI (i + 6)) (lv' := [(3, .int (nI (i + 6))), (0, .ref b), (1, .ref xo), (2, .ref mo)]) hx hb dL_law_1117 hl (k := 3) rfl ((show nI i + Int32.ofInt 6 = nI i + nI 6 from rfl).trans (nI_add i 6)) (by decide) rfl (fun ls hl => ?_)
      refine lv_goto (tgt := 18) hx hb dL_law_1120 (by decide) ?_
      exact ih0 (i + 6) _ _ _ (by omega) hi hI hS (lv_sub hl [1, 2, 3, 0] rfl)
    refine lv_aload_n hx hb dL_law_27 rfl (lv_at hl 0 rfl) ?_
    refine lv_iload_n hx hb dL_law_28 rfl (lv_at hl 3 rfl) ?_
    refine va_sld hx hb hX hbl hbA hS (vp_in_nI (by omega) (by omega)) dL_law_29 ?_
    refine lv_bipush (v := 31) hx hb dL_law_30 (by decide) ?_
    refine lv_iand hx hb dL_law_32 ?_
    refine lv_topi (fun v0 ev0 => ?_)
    obtain ⟨j, hj, ej⟩ := pk_andE (xs (nI i).toNatClampNeg) (m := 31) 5 (by decide)
    have ev0 : v0 = nI j := ev0.trans ej
    by_cases h0 : j = 0
    · subst h0
      subst ev0
      refine lv_tableIn (off := 139) (tgt := 172) hx hb dL_law_33 (by decide) (by decide) (by decide) (by decide) ?_
      exact xInv_elim hI (law_0 C0 hL hi hAS hA hE xo mo ih hK hS hl)
    by_cases h1 : j = 1
    · subst h1
      subst ev0
      refine lv_tableIn (off := 192) (tgt := 225) hx hb dL_law_33 (by decide) (by decide) (by decide) (by decide) ?_
      exact xInv_elim hI (law_1 C0 hL hi hAS hA hE xo mo ih hK hS hl)
    by_cases h2 : j = 2
    · subst h2
      subst ev0
      refine lv_tableIn (off := 215) (tgt := 248) hx hb dL_law_33 (by decide) (by decide) (by decide) (by decide) ?_
      exact xInv_elim hI (law_2 C0 hL hi hAS hA hE xo mo ih hK hS hl)
    by_cases h3 : j = 3
    · subst h3
      subst ev0
      refine lv_tableIn (off := 228) (tgt := 261) hx hb dL_law_33 (by decide) (by decide) (by decide) (by decide) ?_
      exact xInv_elim hI (law_3 C0 hL hi hAS hA hE xo mo ih hK hS hl)
    by_cases h4 : j = 4
    · subst h4
      subst ev0
      refine lv_tableIn (off := 241) (tgt := 274) hx hb dL_law_33 (by decide) (by decide) (by decide) (by decide) ?_
      exact xInv_elim hI (law_4 C0 hL hi hAS hA hE xo mo ih hK hS hl)
    by_cases h5 : j = 5
    · subst h5
      subst ev0
      refine lv_tableIn (off := 274) (tgt := 307) hx hb dL_law_33 (by decide) (by decide) (by decide) (by decide) ?_
      exact xInv_elim hI (law_5 C0 hL hi hAS hA hE xo mo ih hK hS hl)
    by_cases h6 : j = 6
    · subst h6
      subst ev0
      refine lv_tableIn (off := 297) (tgt := 330) hx hb dL_law_33 (by decide) (by decide) (by decide) (by decide) ?_
      exact xInv_elim hI (law_6 C0 hL hi hAS hA hE xo mo ih hK hS hl)
    by_cases h7 : j = 7
    · subst h7
      subst ev0
      refine lv_tableIn (off := 330) (tgt := 363) hx hb dL_law_33 (by decide) (by decide) (by decide) (by decide) ?_
      exact xInv_elim hI (law_7 C0 hL hi hAS hA hE xo mo ih hK hS hl)
    by_cases h8 : j = 8
    · subst h8
      subst ev0
      refine lv_tableIn (off := 363) (tgt := 396) hx hb dL_law_33 (by decide) (by decide) (by decide) (by decide) ?_
      exact xInv_elim hI (law_8 C0 hL hi hAS hA hE xo mo ih hK hS hl)
    by_cases h9 : j = 9
    · subst h9
      subst ev0
      refine lv_tableIn (off := 402) (tgt := 435) hx hb dL_law_33 (by decide) (by decide) (by decide) (by decide) ?_
      exact xInv_elim hI (law_9 C0 hL hi hAS hA hE xo mo ih hK hS hl)
    by_cases h10 : j = 10
    · subst h10
      subst ev0
      refine lv_tableIn (off := 451) (tgt := 484) hx hb dL_law_33 (by decide) (by decide) (by decide) (by decide) ?_
      exact xInv_elim hI (law_10 C0 hL hi hAS hA hE xo mo ih hK hS hl)
    by_cases h11 : j = 11
    · subst h11
      subst ev0
      refine lv_tableIn (off := 484) (tgt := 517) hx hb dL_law_33 (by decide) (by decide) (by decide) (by decide) ?_
      exact xInv_elim hI (law_11 C0 hL hi hAS hA hE xo mo ih hK hS hl)
    by_cases h12 : j = 12
    · subst h12
      subst ev0
      refine lv_tableIn (off := 507) (tgt := 540) hx hb dL_law_33 (by decide) (by decide) (by decide) (by decide) ?_
      exact xInv_elim hI (law_12 C0 hL hi hAS hA hE xo mo ih hK hS hl)
    by_cases h13 : j = 13
    · subst h13
      subst ev0
      refine lv_tableIn (off := 530) (tgt := 563) hx hb dL_law_33 (by decide) (by decide) (by decide) (by decide) ?_
      exact xInv_elim hI (law_13 C0 hL hi hAS hA hE xo mo ih hK hS hl)
    by_cases h14 : j = 14
    · subst h14
      subst ev0
      refine lv_tableIn (off := 563) (tgt := 596) hx hb dL_law_33 (by decide) (by decide) (by decide) (by decide) ?_
      exact xInv_elim hI (law_14 C0 hL hi hAS hA hE xo mo ih hK hS hl)
    by_cases h15 : j = 15
    · subst h15
      subst ev0
      refine lv_tableIn (off := 596) (tgt := 629) hx hb dL_law_33 (by decide) (by decide) (by decide) (by decide) ?_
      exact xInv_elim hI (law_15 C0 hL hi hAS hA hE xo mo ih hK hS hl)
    by_cases h16 : j = 16
    · subst h16
      subst ev0
      refine lv_tableIn (off := 619) (tgt := 652) hx hb dL_law_33 (by decide) (by decide) (by decide) (by decide) ?_
      exact xInv_elim hI (law_16 C0 hL hi hAS hA hE xo mo ih hK hS hl)
    by_cases h17 : j = 17
    · subst h17
      subst ev0
      refine lv_tableIn (off := 652) (tgt := 685) hx hb dL_law_33 (by decide) (by decide) (by decide) (by decide) ?_
      exact xInv_elim hI (law_17 C0 hL hi hAS hA hE xo mo ih hK hS hl)
    by_cases h18 : j = 18
    · subst h18
      subst ev0
      refine lv_tableIn (off := 695) (tgt := 728) hx hb dL_law_33 (by decide) (by decide) (by decide) (by decide) ?_
      exact xInv_elim hI (law_18 C0 hL hi hAS hA hE xo mo ih hK hS hl)
    by_cases h19 : j = 19
    · subst h19
      subst ev0
      refine lv_tableIn (off := 718) (tgt := 751) hx hb dL_law_33 (by decide) (by decide) (by decide) (by decide) ?_
      exact xInv_elim hI (law_19 C0 hL hi hAS hA hE xo mo ih hK hS hl)
    by_cases h20 : j = 20
    · subst h20
      subst ev0
      refine lv_tableIn (off := 741) (tgt := 774) hx hb dL_law_33 (by decide) (by decide) (by decide) (by decide) ?_
      exact xInv_elim hI (law_20 C0 hL hi hAS hA hE xo mo ih hK hS hl)
    by_cases h21 : j = 21
    · subst h21
      subst ev0
      refine lv_tableIn (off := 764) (tgt := 797) hx hb dL_law_33 (by decide) (by decide) (by decide) (by decide) ?_
      exact xInv_elim hI (law_21 C0 hL hi hAS hA hE xo mo ih hK hS hl)
    by_cases h22 : j = 22
    · subst h22
      subst ev0
      refine lv_tableIn (off := 777) (tgt := 810) hx hb dL_law_33 (by decide) (by decide) (by decide) (by decide) ?_
      exact xInv_elim hI (law_22 C0 hL hi hAS hA hE xo mo ih hK hS hl)
    by_cases h23 : j = 23
    · subst h23
      subst ev0
      refine lv_tableIn (off := 800) (tgt := 833) hx hb dL_law_33 (by decide) (by decide) (by decide) (by decide) ?_
      exact xInv_elim hI (law_23 C0 hL hi hAS hA hE xo mo ih hK hS hl)
    by_cases h24 : j = 24
    · subst h24
      subst ev0
      refine lv_tableIn (off := 833) (tgt := 866) hx hb dL_law_33 (by decide) (by decide) (by decide) (by decide) ?_
      exact xInv_elim hI (law_24 C0 hL hi hAS hA hE xo mo ih hK hS hl)
    by_cases h25 : j = 25
    · subst h25
      subst ev0
      refine lv_tableIn (off := 866) (tgt := 899) hx hb dL_law_33 (by decide) (by decide) (by decide) (by decide) ?_
      exact xInv_elim hI (law_25 C0 hL hi hAS hA hE xo mo ih hK hS hl)
    by_cases h26 : j = 26
    · subst h26
      subst ev0
      refine lv_tableIn (off := 889) (tgt := 922) hx hb dL_law_33 (by decide) (by decide) (by decide) (by decide) ?_
      exact xInv_elim hI (law_26 C0 hL hi hAS hA hE xo mo ih hK hS hl)
    by_cases h27 : j = 27
    · subst h27
      subst ev0
      refine lv_tableIn (off := 912) (tgt := 945) hx hb dL_law_33 (by decide) (by decide) (by decide) (by decide) ?_
      exact xInv_elim hI (law_27 C0 hL hi hAS hA hE xo mo ih hK hS hl)
    by_cases h28 : j = 28
    · subst h28
      subst ev0
      refine lv_tableIn (off := 955) (tgt := 988) hx hb dL_law_33 (by decide) (by decide) (by decide) (by decide) ?_
      exact xInv_elim hI (law_28 C0 hL hi hAS hA hE xo mo ih hK hS hl)
    by_cases h29 : j = 29
    · subst h29
      subst ev0
      refine lv_tableIn (off := 998) (tgt := 1031) hx hb dL_law_33 (by decide) (by decide) (by decide) (by decide) ?_
      exact xInv_elim hI (law_29 C0 hL hi hAS hA hE xo mo ih hK hS hl)
    by_cases h30 : j = 30
    · subst h30
      subst ev0
      refine lv_tableIn (off := 1061) (tgt := 1094) hx hb dL_law_33 (by decide) (by decide) (by decide) (by decide) ?_
      exact xInv_elim hI (law_30 C0 hL hi hAS hA hE xo mo ih hK hS hl)
    have h31 : j = 31 := by omega
    subst h31
    subst ev0
    refine lv_tableOut (tgt := 1117) hx hb dL_law_33 (by decide) (by decide) ?_
    exact ih _ _ _ hI hS hl
