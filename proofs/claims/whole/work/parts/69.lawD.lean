set_option maxHeartbeats 4000000 in
set_option maxRecDepth 100000 in
theorem law_most {p : Program} {l : Launch} {e : Env} {s : State} {m : MethodId} {below : List Frame} {meth : Method} {c : Code} {Q : State → Prop} {D : va_G} {A : Nat → Prop} {cI cJ cZ cA : ClassId} {args : Array Value} {sb L : Nat} {xs : Nat → Int32} {b rt rg sa ta r : Nat → Nat} {x0 x1 cn : Nat} (C0 : LC p s m c args A D cI cJ cZ cA sb L xs) (hc : 5 * cn + 5 ≤ L) (kk : ∀ (H : Heap) (locs : List Loc) (k n : Nat) (ls : Array Slot), LI D A cI cJ cZ cA s b rt rg sa ta r x0 x1 (cn + 1) H locs k n → lv_has ls 4 [(0, .ref sb), (1, .ref x0), (2, .ref (r 0)), (3, .int (nI (5 * cn)))] → W p l e room_1 s m args below meth c H locs k n Q (F0 m 470 ls [])) : ∀ (H : Heap) (locs : List Loc) (k n : Nat) (ls : Array Slot), LI D A cI cJ cZ cA s b rt rg sa ta r x0 x1 cn H locs k n → lv_has ls 4 [(0, .ref sb), (1, .ref x0), (2, .ref (r 0)), (3, .int (nI (5 * cn)))] → W p l e room_1 s m args below meth c H locs k n Q (F0 m 319 ls []) := by
  intro H locs k n ls hI hl
  obtain ⟨hx, hb, hml, hown, hts, hK, hX, hbl, hbA, hA, hL⟩ := C0
  obtain ⟨q8, q10, pl, tr, l8, l10, f2, f3, fn, tk, gv, e0, e1, e5, e9, e12, n8, n10, e4, c2, c3, c11, t6, t7, p8, p10, g, g1, g2, g3, h4, h5, h6, h7, h8, i7, i8, i9, i13, i15, i18, i19, i22, i23, a1, a2, a4, a5, a6, a10, a11, a12, a14, a16, a20, a21, a24, a25, a26, hP, hD, hS, hN, hV, hSe, hTr, hPi⟩ := hI
  obtain ⟨hk9, hn9⟩ := pileR_room hPi
  have hpl := hN.1
  have htr := hN.2.1
  cases g with
  | false =>
    have heq : (-1 : Int32) = -1 := rfl
    refine lv_aload_n hx hb dL_law_319 rfl (lv_at hl 1 rfl) ?_
    refine lv_aload_n hx hb dL_law_320 rfl (lv_at hl 0 rfl) ?_
    refine lv_iload_n hx hb dL_law_321 rfl (lv_at hl 3 rfl) ?_
    refine lv_iconst (v := nI 1) hx hb dL_law_322 (by decide) ?_
    refine wk_iadd hx hb dL_law_323 ?_
    refine va_sld hx hb hX hbl hbA hS (i := nI ((5 * cn) + 1)) (vp_in_nI (by omega) (by omega)) dL_law_324 ?_
    refine wk_Vi (As := [.int (xs (nI ((5 * cn) + 1)).toNatClampNeg)]) (rest := []) ⟨hx, hb, hml, hown, hts⟩ (c_X5_most_f l D cI cJ cZ cA x0 (b 0) x1 (sa 0) ta g1 g2 g3 h4 h5 h6 h7 h8 (xs (nI ((5 * cn) + 1)).toNatClampNeg)) (cwV 1 hts gL_law_X5_most rfl rfl rfl (by decide +kernel) ⟨Nat.le_of_ble_eq_true rfl, Nat.le_of_ble_eq_true rfl⟩) hK hP [29, 30, 31, 32, 33, 34, 17] rfl 6 4 rfl rfl hS rfl hl.1 rfl (Nat.le_of_ble_eq_true rfl) dL_law_325 ⟨by show k ≤ 600000; omega, by show n ≤ 7302250; omega⟩ (fun H locs hP hS => ?_)
    refine lv_aload_n hx hb dL_law_328 rfl (lv_at hl 2 rfl) ?_
    refine lv_aload_n hx hb dL_law_329 rfl (lv_at hl 0 rfl) ?_
    refine lv_iload_n hx hb dL_law_330 rfl (lv_at hl 3 rfl) ?_
    refine lv_iconst (v := nI 1) hx hb dL_law_331 (by decide) ?_
    refine wk_iadd hx hb dL_law_332 ?_
    refine va_sld hx hb hX hbl hbA hS (i := nI ((5 * cn) + 1)) (vp_in_nI (by omega) (by omega)) dL_law_333 ?_
    refine wk_Vi (As := [.int (xs (nI ((5 * cn) + 1)).toNatClampNeg)]) (rest := [.int (-1)]) ⟨hx, hb, hml, hown, hts⟩ (c_X6_most_f l D cI cJ cZ cA r (nI pl) (nI tr) i7 i8 i9 i13 i15 i18 i19 i22 i23 a1 a2 a4 a5 a6 a10 a11 a12 a14 a16 a20 a21 a24 a25 a26 (xs (nI ((5 * cn) + 1)).toNatClampNeg)) (cwV 1 hts gL_law_X6_most rfl rfl rfl (by decide +kernel) ⟨Nat.le_of_ble_eq_true rfl, Nat.le_of_ble_eq_true rfl⟩) hK hP [35, 36, 37, 38, 39, 40, 41, 42, 43, 44, 45, 46, 47, 48, 49, 50] rfl 0 5 rfl rfl hS rfl hl.1 rfl (Nat.le_of_ble_eq_true rfl) dL_law_334 ⟨by show k ≤ 600000; omega, by show n ≤ 7302250; omega⟩ (fun H locs hP hS => ?_)
    refine lv_icmp_eq (tgt := 470) hx hb dL_law_337 (by decide) (fun _ => ?_) (fun h9 => absurd heq h9)
    exact kk H locs _ _ ls ⟨q8, q10, pl, tr, l8, l10, f2, f3, fn, tk, gv, e0, e1, e5, e9, e12, n8, n10, e4, c2, c3, c11, t6, t7, p8, p10, false, g1, g2, g3, h4, h5, h6, h7, h8, i7, i8, i9, i13, i15, i18, i19, i22, i23, a1, a2, a4, a5, a6, a10, a11, a12, a14, a16, a20, a21, a24, a25, a26, hP, hD, hS, hN, (vecR_m hV (Nat.le_refl _) (by omega)), hSe, hTr, hPi⟩ hl
  | true =>
    obtain ⟨gp, A9, B9, C9, fr, hgp, rfl, rfl, rfl, rfl, rfl, hr5, hr20, hi8, hi24, hfr, hOK⟩ := hTr rfl
    obtain ⟨ok1, ok2, ok3, ok4, ok5, ok6, ok7, ok8⟩ := id hOK
    have heq := most_R (om := nI 1000000000) (om2 := nI 1000000) hgp ok5 (xs (nI (5 * cn + 1)).toNatClampNeg)
    refine lv_aload_n hx hb dL_law_319 rfl (lv_at hl 1 rfl) ?_
    refine lv_aload_n hx hb dL_law_320 rfl (lv_at hl 0 rfl) ?_
    refine lv_iload_n hx hb dL_law_321 rfl (lv_at hl 3 rfl) ?_
    refine lv_iconst (v := nI 1) hx hb dL_law_322 (by decide) ?_
    refine wk_iadd hx hb dL_law_323 ?_
    refine va_sld hx hb hX hbl hbA hS (i := nI ((5 * cn) + 1)) (vp_in_nI (by omega) (by omega)) dL_law_324 ?_
    refine wk_Vi (As := [.int (xs (nI ((5 * cn) + 1)).toNatClampNeg)]) (rest := []) ⟨hx, hb, hml, hown, hts⟩ (c_X5_most l D cI cJ cZ cA x0 (b 0) x1 (sa 0) ta g2 h4 h5 h6 h7 h8 gp hgp A9 C9 hr5 ok2 hi8 ok3 ok4 (xs (nI ((5 * cn) + 1)).toNatClampNeg)) (cwV 1 hts gL_law_X5_most rfl rfl rfl (by decide +kernel) ⟨Nat.le_of_ble_eq_true rfl, Nat.le_of_ble_eq_true rfl⟩) hK hP [29, 30, 31, 32, 33, 34, 17] rfl 6 4 rfl rfl hS rfl hl.1 rfl (Nat.le_of_ble_eq_true rfl) dL_law_325 ⟨by show k ≤ 600000; omega, by show n ≤ 7302250; omega⟩ (fun H locs hP hS => ?_)
    refine lv_aload_n hx hb dL_law_328 rfl (lv_at hl 2 rfl) ?_
    refine lv_aload_n hx hb dL_law_329 rfl (lv_at hl 0 rfl) ?_
    refine lv_iload_n hx hb dL_law_330 rfl (lv_at hl 3 rfl) ?_
    refine lv_iconst (v := nI 1) hx hb dL_law_331 (by decide) ?_
    refine wk_iadd hx hb dL_law_332 ?_
    refine va_sld hx hb hX hbl hbA hS (i := nI ((5 * cn) + 1)) (vp_in_nI (by omega) (by omega)) dL_law_333 ?_
    refine wk_Vi (As := [.int (xs (nI ((5 * cn) + 1)).toNatClampNeg)]) (rest := [.int (if inB (xs (nI ((5 * cn) + 1)).toNatClampNeg) (nI gp) = true then tolM (nI 1000000000) (mxC A9 C9 ((xs (nI ((5 * cn) + 1)).toNatClampNeg)).toNatClampNeg) else -1)]) ⟨hx, hb, hml, hown, hts⟩ (c_X6_most l D cI cJ cZ cA r (nI pl) (nI tr) i7 i8 i9 i13 i15 i22 (nI C9.length) a1 a2 a4 a5 a6 a10 a11 a12 a14 a16 a20 a21 a24 a25 a26 gp hgp B9 hr20 (by omega) (xs (nI ((5 * cn) + 1)).toNatClampNeg)) (cwV 1 hts gL_law_X6_most rfl rfl rfl (by decide +kernel) ⟨Nat.le_of_ble_eq_true rfl, Nat.le_of_ble_eq_true rfl⟩) hK hP [35, 36, 37, 38, 39, 40, 41, 42, 43, 44, 45, 46, 47, 48, 49, 50] rfl 0 5 rfl rfl hS rfl hl.1 rfl (Nat.le_of_ble_eq_true rfl) dL_law_334 ⟨by show k ≤ 600000; omega, by show n ≤ 7302250; omega⟩ (fun H locs hP hS => ?_)
    refine lv_icmp_eq (tgt := 470) hx hb dL_law_337 (by decide) (fun _ => ?_) (fun h9 => absurd heq h9)
    exact kk H locs _ _ ls ⟨q8, q10, pl, tr, l8, l10, f2, f3, fn, tk, gv, e0, e1, e5, e9, e12, n8, n10, e4, c2, c3, c11, t6, t7, p8, p10, true, (nI gp), g2, (nI C9.length), h4, h5, h6, h7, h8, i7, i8, i9, i13, i15, (nI gp), (nI B9.length), i22, (nI C9.length), a1, a2, a4, a5, a6, a10, a11, a12, a14, a16, a20, a21, a24, a25, a26, hP, hD, hS, hN, (vecR_m hV (Nat.le_refl _) (by omega)), hSe, (fun _ => ⟨gp, A9, B9, C9, fr, hgp, rfl, rfl, rfl, rfl, rfl, hr5, hr20, hi8, hi24, hfr, hOK⟩), hPi⟩ hl

set_option maxHeartbeats 4000000 in
set_option maxRecDepth 100000 in
theorem law_live {p : Program} {l : Launch} {e : Env} {s : State} {m : MethodId} {below : List Frame} {meth : Method} {c : Code} {Q : State → Prop} {D : va_G} {A : Nat → Prop} {cI cJ cZ cA : ClassId} {args : Array Value} {sb L : Nat} {xs : Nat → Int32} {b rt rg sa ta r : Nat → Nat} {x0 x1 cn : Nat} (C0 : LC p s m c args A D cI cJ cZ cA sb L xs) (hc : 5 * cn + 5 ≤ L) (kk : ∀ (H : Heap) (locs : List Loc) (k n : Nat) (ls : Array Slot), LI D A cI cJ cZ cA s b rt rg sa ta r x0 x1 (cn + 1) H locs k n → lv_has ls 4 [(0, .ref sb), (1, .ref x0), (2, .ref (r 0)), (3, .int (nI (5 * cn)))] → W p l e room_1 s m args below meth c H locs k n Q (F0 m 470 ls [])) : ∀ (H : Heap) (locs : List Loc) (k n : Nat) (ls : Array Slot), LI D A cI cJ cZ cA s b rt rg sa ta r x0 x1 cn H locs k n → lv_has ls 4 [(0, .ref sb), (1, .ref x0), (2, .ref (r 0)), (3, .int (nI (5 * cn)))] → W p l e room_1 s m args below meth c H locs k n Q (F0 m 342 ls []) := by
  intro H locs k n ls hI hl
  obtain ⟨hx, hb, hml, hown, hts, hK, hX, hbl, hbA, hA, hL⟩ := C0
  obtain ⟨q8, q10, pl, tr, l8, l10, f2, f3, fn, tk, gv, e0, e1, e5, e9, e12, n8, n10, e4, c2, c3, c11, t6, t7, p8, p10, g, g1, g2, g3, h4, h5, h6, h7, h8, i7, i8, i9, i13, i15, i18, i19, i22, i23, a1, a2, a4, a5, a6, a10, a11, a12, a14, a16, a20, a21, a24, a25, a26, hP, hD, hS, hN, hV, hSe, hTr, hPi⟩ := hI
  obtain ⟨hk9, hn9⟩ := pileR_room hPi
  have hpl := hN.1
  have htr := hN.2.1
  cases g with
  | false =>
    have heq : (bI (false && (inC (xs (nI (5 * cn + 1)).toNatClampNeg) (nI 5) && (fun _ => false) ((xs (nI (5 * cn + 1)).toNatClampNeg)).toNatClampNeg))) = (bI (false && liveM i22 (xs (nI (5 * cn + 1)).toNatClampNeg))) := rfl
    refine lv_aload_n hx hb dL_law_342 rfl (lv_at hl 1 rfl) ?_
    refine lv_aload_n hx hb dL_law_343 rfl (lv_at hl 0 rfl) ?_
    refine lv_iload_n hx hb dL_law_344 rfl (lv_at hl 3 rfl) ?_
    refine lv_iconst (v := nI 1) hx hb dL_law_345 (by decide) ?_
    refine wk_iadd hx hb dL_law_346 ?_
    refine va_sld hx hb hX hbl hbA hS (i := nI ((5 * cn) + 1)) (vp_in_nI (by omega) (by omega)) dL_law_347 ?_
    refine wk_Vi (As := [.int (xs (nI ((5 * cn) + 1)).toNatClampNeg)]) (rest := []) ⟨hx, hb, hml, hown, hts⟩ (c_X5_live l D cI cJ cZ cA x0 (b 0) x1 (sa 0) ta g1 g2 g3 h4 h5 h6 h7 h8 false (fun _ => false) (fun h => absurd h (by decide)) (xs (nI ((5 * cn) + 1)).toNatClampNeg)) (cwV 1 hts gL_law_X5_live rfl rfl rfl (by decide +kernel) ⟨Nat.le_of_ble_eq_true rfl, Nat.le_of_ble_eq_true rfl⟩) hK hP [29, 30, 31, 32, 33, 34, 17] rfl 6 4 rfl rfl hS rfl hl.1 rfl (Nat.le_of_ble_eq_true rfl) dL_law_348 ⟨by show k ≤ 600000; omega, by show n ≤ 7302250; omega⟩ (fun H locs hP hS => ?_)
    refine lv_aload_n hx hb dL_law_351 rfl (lv_at hl 2 rfl) ?_
    refine lv_aload_n hx hb dL_law_352 rfl (lv_at hl 0 rfl) ?_
    refine lv_iload_n hx hb dL_law_353 rfl (lv_at hl 3 rfl) ?_
    refine lv_iconst (v := nI 1) hx hb dL_law_354 (by decide) ?_
    refine wk_iadd hx hb dL_law_355 ?_
    refine va_sld hx hb hX hbl hbA hS (i := nI ((5 * cn) + 1)) (vp_in_nI (by omega) (by omega)) dL_law_356 ?_
    refine wk_Vi (As := [.int (xs (nI ((5 * cn) + 1)).toNatClampNeg)]) (rest := [.int (bI (false && (inC (xs (nI ((5 * cn) + 1)).toNatClampNeg) (nI 5) && (fun _ => false) ((xs (nI ((5 * cn) + 1)).toNatClampNeg)).toNatClampNeg)))]) ⟨hx, hb, hml, hown, hts⟩ (c_X6_live l D cI cJ cZ cA r (nI pl) (nI tr) i7 i8 i9 i13 i15 i18 i19 i22 i23 a1 a2 a4 a5 a6 a10 a11 a12 a14 a16 a20 a21 a24 a25 a26 false (xs (nI ((5 * cn) + 1)).toNatClampNeg)) (cwV 1 hts gL_law_X6_live rfl rfl rfl (by decide +kernel) ⟨Nat.le_of_ble_eq_true rfl, Nat.le_of_ble_eq_true rfl⟩) hK hP [35, 36, 37, 38, 39, 40, 41, 42, 43, 44, 45, 46, 47, 48, 49, 50] rfl 0 5 rfl rfl hS rfl hl.1 rfl (Nat.le_of_ble_eq_true rfl) dL_law_357 ⟨by show k ≤ 600000; omega, by show n ≤ 7302250; omega⟩ (fun H locs hP hS => ?_)
    refine lv_icmp_eq (tgt := 470) hx hb dL_law_360 (by decide) (fun _ => ?_) (fun h9 => absurd heq h9)
    exact kk H locs _ _ ls ⟨q8, q10, pl, tr, l8, l10, f2, f3, fn, tk, gv, e0, e1, e5, e9, e12, n8, n10, e4, c2, c3, c11, t6, t7, p8, p10, false, g1, g2, g3, h4, h5, h6, h7, h8, i7, i8, i9, i13, i15, i18, i19, i22, i23, a1, a2, a4, a5, a6, a10, a11, a12, a14, a16, a20, a21, a24, a25, a26, hP, hD, hS, hN, (vecR_m hV (Nat.le_refl _) (by omega)), hSe, hTr, hPi⟩ hl
  | true =>
    obtain ⟨gp, A9, B9, C9, fr, hgp, rfl, rfl, rfl, rfl, rfl, hr5, hr20, hi8, hi24, hfr, hOK⟩ := hTr rfl
    obtain ⟨ok1, ok2, ok3, ok4, ok5, ok6, ok7, ok8⟩ := id hOK
    have heq : (bI (true && (inC (xs (nI (5 * cn + 1)).toNatClampNeg) (nI 5) && fr ((xs (nI (5 * cn + 1)).toNatClampNeg)).toNatClampNeg))) = (bI (true && liveM i22 (xs (nI (5 * cn + 1)).toNatClampNeg))) := by rw [ok8]
    refine lv_aload_n hx hb dL_law_342 rfl (lv_at hl 1 rfl) ?_
    refine lv_aload_n hx hb dL_law_343 rfl (lv_at hl 0 rfl) ?_
    refine lv_iload_n hx hb dL_law_344 rfl (lv_at hl 3 rfl) ?_
    refine lv_iconst (v := nI 1) hx hb dL_law_345 (by decide) ?_
    refine wk_iadd hx hb dL_law_346 ?_
    refine va_sld hx hb hX hbl hbA hS (i := nI ((5 * cn) + 1)) (vp_in_nI (by omega) (by omega)) dL_law_347 ?_
    refine wk_Vi (As := [.int (xs (nI ((5 * cn) + 1)).toNatClampNeg)]) (rest := []) ⟨hx, hb, hml, hown, hts⟩ (c_X5_live l D cI cJ cZ cA x0 (b 0) x1 (sa 0) ta (nI gp) g2 (nI C9.length) h4 h5 h6 h7 h8 true fr (fun _ => hfr) (xs (nI ((5 * cn) + 1)).toNatClampNeg)) (cwV 1 hts gL_law_X5_live rfl rfl rfl (by decide +kernel) ⟨Nat.le_of_ble_eq_true rfl, Nat.le_of_ble_eq_true rfl⟩) hK hP [29, 30, 31, 32, 33, 34, 17] rfl 6 4 rfl rfl hS rfl hl.1 rfl (Nat.le_of_ble_eq_true rfl) dL_law_348 ⟨by show k ≤ 600000; omega, by show n ≤ 7302250; omega⟩ (fun H locs hP hS => ?_)
    refine lv_aload_n hx hb dL_law_351 rfl (lv_at hl 2 rfl) ?_
    refine lv_aload_n hx hb dL_law_352 rfl (lv_at hl 0 rfl) ?_
    refine lv_iload_n hx hb dL_law_353 rfl (lv_at hl 3 rfl) ?_
    refine lv_iconst (v := nI 1) hx hb dL_law_354 (by decide) ?_
    refine wk_iadd hx hb dL_law_355 ?_
    refine va_sld hx hb hX hbl hbA hS (i := nI ((5 * cn) + 1)) (vp_in_nI (by omega) (by omega)) dL_law_356 ?_
    refine wk_Vi (As := [.int (xs (nI ((5 * cn) + 1)).toNatClampNeg)]) (rest := [.int (bI (true && (inC (xs (nI ((5 * cn) + 1)).toNatClampNeg) (nI 5) && fr ((xs (nI ((5 * cn) + 1)).toNatClampNeg)).toNatClampNeg)))]) ⟨hx, hb, hml, hown, hts⟩ (c_X6_live l D cI cJ cZ cA r (nI pl) (nI tr) i7 i8 i9 i13 i15 (nI gp) (nI B9.length) i22 (nI C9.length) a1 a2 a4 a5 a6 a10 a11 a12 a14 a16 a20 a21 a24 a25 a26 true (xs (nI ((5 * cn) + 1)).toNatClampNeg)) (cwV 1 hts gL_law_X6_live rfl rfl rfl (by decide +kernel) ⟨Nat.le_of_ble_eq_true rfl, Nat.le_of_ble_eq_true rfl⟩) hK hP [35, 36, 37, 38, 39, 40, 41, 42, 43, 44, 45, 46, 47, 48, 49, 50] rfl 0 5 rfl rfl hS rfl hl.1 rfl (Nat.le_of_ble_eq_true rfl) dL_law_357 ⟨by show k ≤ 600000; omega, by show n ≤ 7302250; omega⟩ (fun H locs hP hS => ?_)
    refine lv_icmp_eq (tgt := 470) hx hb dL_law_360 (by decide) (fun _ => ?_) (fun h9 => absurd heq h9)
    exact kk H locs _ _ ls ⟨q8, q10, pl, tr, l8, l10, f2, f3, fn, tk, gv, e0, e1, e5, e9, e12, n8, n10, e4, c2, c3, c11, t6, t7, p8, p10, true, (nI gp), g2, (nI C9.length), h4, h5, h6, h7, h8, i7, i8, i9, i13, i15, (nI gp), (nI B9.length), i22, (nI C9.length), a1, a2, a4, a5, a6, a10, a11, a12, a14, a16, a20, a21, a24, a25, a26, hP, hD, hS, hN, (vecR_m hV (Nat.le_refl _) (by omega)), hSe, (fun _ => ⟨gp, A9, B9, C9, fr, hgp, rfl, rfl, rfl, rfl, rfl, hr5, hr20, hi8, hi24, hfr, hOK⟩), hPi⟩ hl

set_option maxHeartbeats 4000000 in
set_option maxRecDepth 100000 in
theorem law_limits {p : Program} {l : Launch} {e : Env} {s : State} {m : MethodId} {below : List Frame} {meth : Method} {c : Code} {Q : State → Prop} {D : va_G} {A : Nat → Prop} {cI cJ cZ cA : ClassId} {args : Array Value} {sb L : Nat} {xs : Nat → Int32} {b rt rg sa ta r : Nat → Nat} {x0 x1 cn : Nat} (C0 : LC p s m c args A D cI cJ cZ cA sb L xs) (hc : 5 * cn + 5 ≤ L) (kk : ∀ (H : Heap) (locs : List Loc) (k n : Nat) (ls : Array Slot), LI D A cI cJ cZ cA s b rt rg sa ta r x0 x1 (cn + 1) H locs k n → lv_has ls 4 [(0, .ref sb), (1, .ref x0), (2, .ref (r 0)), (3, .int (nI (5 * cn)))] → W p l e room_1 s m args below meth c H locs k n Q (F0 m 470 ls [])) : ∀ (H : Heap) (locs : List Loc) (k n : Nat) (ls : Array Slot), LI D A cI cJ cZ cA s b rt rg sa ta r x0 x1 cn H locs k n → lv_has ls 4 [(0, .ref sb), (1, .ref x0), (2, .ref (r 0)), (3, .int (nI (5 * cn)))] → W p l e room_1 s m args below meth c H locs k n Q (F0 m 365 ls []) := by
  intro H locs k n ls hI hl
  obtain ⟨hx, hb, hml, hown, hts, hK, hX, hbl, hbA, hA, hL⟩ := C0
  obtain ⟨q8, q10, pl, tr, l8, l10, f2, f3, fn, tk, gv, e0, e1, e5, e9, e12, n8, n10, e4, c2, c3, c11, t6, t7, p8, p10, g, g1, g2, g3, h4, h5, h6, h7, h8, i7, i8, i9, i13, i15, i18, i19, i22, i23, a1, a2, a4, a5, a6, a10, a11, a12, a14, a16, a20, a21, a24, a25, a26, hP, hD, hS, hN, hV, hSe, hTr, hPi⟩ := hI
  obtain ⟨hk9, hn9⟩ := pileR_room hPi
  have hpl := hN.1
  have htr := hN.2.1
  cases g with
  | false =>
    have heq : (if false = true then g3 else -1) = (if false = true then i23 else -1) := rfl
    refine lv_aload_n hx hb dL_law_365 rfl (lv_at hl 1 rfl) ?_
    refine wk_Vi (As := []) (rest := []) ⟨hx, hb, hml, hown, hts⟩ (c_X5_limits l D cI cJ cZ cA x0 (b 0) x1 (sa 0) ta g1 g2 g3 h4 h5 h6 h7 h8 false) (cwV 0 hts gL_law_X5_limits rfl rfl rfl (by decide +kernel) ⟨Nat.le_of_ble_eq_true rfl, Nat.le_of_ble_eq_true rfl⟩) hK hP [29, 30, 31, 32, 33, 34, 17] rfl 6 4 rfl rfl hS rfl hl.1 rfl (Nat.le_of_ble_eq_true rfl) dL_law_366 ⟨by show k ≤ 600000; omega, by show n ≤ 7302250; omega⟩ (fun H locs hP hS => ?_)
    refine lv_aload_n hx hb dL_law_369 rfl (lv_at hl 2 rfl) ?_
    refine wk_Vi (As := []) (rest := [.int (if false = true then g3 else -1)]) ⟨hx, hb, hml, hown, hts⟩ (c_X6_limits l D cI cJ cZ cA r (nI pl) (nI tr) i7 i8 i9 i13 i15 i18 i19 i22 i23 a1 a2 a4 a5 a6 a10 a11 a12 a14 a16 a20 a21 a24 a25 a26 false) (cwV 0 hts gL_law_X6_limits rfl rfl rfl (by decide +kernel) ⟨Nat.le_of_ble_eq_true rfl, Nat.le_of_ble_eq_true rfl⟩) hK hP [35, 36, 37, 38, 39, 40, 41, 42, 43, 44, 45, 46, 47, 48, 49, 50] rfl 0 5 rfl rfl hS rfl hl.1 rfl (Nat.le_of_ble_eq_true rfl) dL_law_370 ⟨by show k ≤ 600000; omega, by show n ≤ 7302250; omega⟩ (fun H locs hP hS => ?_)
    refine lv_icmp_eq (tgt := 470) hx hb dL_law_373 (by decide) (fun _ => ?_) (fun h9 => absurd heq h9)
    exact kk H locs _ _ ls ⟨q8, q10, pl, tr, l8, l10, f2, f3, fn, tk, gv, e0, e1, e5, e9, e12, n8, n10, e4, c2, c3, c11, t6, t7, p8, p10, false, g1, g2, g3, h4, h5, h6, h7, h8, i7, i8, i9, i13, i15, i18, i19, i22, i23, a1, a2, a4, a5, a6, a10, a11, a12, a14, a16, a20, a21, a24, a25, a26, hP, hD, hS, hN, (vecR_m hV (Nat.le_refl _) (by omega)), hSe, hTr, hPi⟩ hl
  | true =>
    obtain ⟨gp, A9, B9, C9, fr, hgp, rfl, rfl, rfl, rfl, rfl, hr5, hr20, hi8, hi24, hfr, hOK⟩ := hTr rfl
    obtain ⟨ok1, ok2, ok3, ok4, ok5, ok6, ok7, ok8⟩ := id hOK
    have heq : (if true = true then nI C9.length else -1) = (if true = true then nI C9.length else -1) := rfl
    refine lv_aload_n hx hb dL_law_365 rfl (lv_at hl 1 rfl) ?_
    refine wk_Vi (As := []) (rest := []) ⟨hx, hb, hml, hown, hts⟩ (c_X5_limits l D cI cJ cZ cA x0 (b 0) x1 (sa 0) ta (nI gp) g2 (nI C9.length) h4 h5 h6 h7 h8 true) (cwV 0 hts gL_law_X5_limits rfl rfl rfl (by decide +kernel) ⟨Nat.le_of_ble_eq_true rfl, Nat.le_of_ble_eq_true rfl⟩) hK hP [29, 30, 31, 32, 33, 34, 17] rfl 6 4 rfl rfl hS rfl hl.1 rfl (Nat.le_of_ble_eq_true rfl) dL_law_366 ⟨by show k ≤ 600000; omega, by show n ≤ 7302250; omega⟩ (fun H locs hP hS => ?_)
    refine lv_aload_n hx hb dL_law_369 rfl (lv_at hl 2 rfl) ?_
    refine wk_Vi (As := []) (rest := [.int (if true = true then nI C9.length else -1)]) ⟨hx, hb, hml, hown, hts⟩ (c_X6_limits l D cI cJ cZ cA r (nI pl) (nI tr) i7 i8 i9 i13 i15 (nI gp) (nI B9.length) i22 (nI C9.length) a1 a2 a4 a5 a6 a10 a11 a12 a14 a16 a20 a21 a24 a25 a26 true) (cwV 0 hts gL_law_X6_limits rfl rfl rfl (by decide +kernel) ⟨Nat.le_of_ble_eq_true rfl, Nat.le_of_ble_eq_true rfl⟩) hK hP [35, 36, 37, 38, 39, 40, 41, 42, 43, 44, 45, 46, 47, 48, 49, 50] rfl 0 5 rfl rfl hS rfl hl.1 rfl (Nat.le_of_ble_eq_true rfl) dL_law_370 ⟨by show k ≤ 600000; omega, by show n ≤ 7302250; omega⟩ (fun H locs hP hS => ?_)
    refine lv_icmp_eq (tgt := 470) hx hb dL_law_373 (by decide) (fun _ => ?_) (fun h9 => absurd heq h9)
    exact kk H locs _ _ ls ⟨q8, q10, pl, tr, l8, l10, f2, f3, fn, tk, gv, e0, e1, e5, e9, e12, n8, n10, e4, c2, c3, c11, t6, t7, p8, p10, true, (nI gp), g2, (nI C9.length), h4, h5, h6, h7, h8, i7, i8, i9, i13, i15, (nI gp), (nI B9.length), i22, (nI C9.length), a1, a2, a4, a5, a6, a10, a11, a12, a14, a16, a20, a21, a24, a25, a26, hP, hD, hS, hN, (vecR_m hV (Nat.le_refl _) (by omega)), hSe, (fun _ => ⟨gp, A9, B9, C9, fr, hgp, rfl, rfl, rfl, rfl, rfl, hr5, hr20, hi8, hi24, hfr, hOK⟩), hPi⟩ hl

