set_option maxHeartbeats 4000000 in
set_option maxRecDepth 100000 in
theorem law_limit {p : Program} {l : Launch} {e : Env} {s : State} {m : MethodId} {below : List Frame} {meth : Method} {c : Code} {Q : State → Prop} {D : va_G} {A : Nat → Prop} {cI cJ cZ cA : ClassId} {args : Array Value} {sb L : Nat} {xs : Nat → Int32} {b rt rg sa ta r : Nat → Nat} {x0 x1 cn : Nat} (C0 : LC p s m c args A D cI cJ cZ cA sb L xs) (hc : 5 * cn + 5 ≤ L) (kk : ∀ (H : Heap) (locs : List Loc) (k n : Nat) (ls : Array Slot), LI D A cI cJ cZ cA s b rt rg sa ta r x0 x1 (cn + 1) H locs k n → lv_has ls 4 [(0, .ref sb), (1, .ref x0), (2, .ref (r 0)), (3, .int (nI (5 * cn)))] → W p l e room_1 s m args below meth c H locs k n Q (F0 m 470 ls [])) : ∀ (H : Heap) (locs : List Loc) (k n : Nat) (ls : Array Slot), LI D A cI cJ cZ cA s b rt rg sa ta r x0 x1 cn H locs k n → lv_has ls 4 [(0, .ref sb), (1, .ref x0), (2, .ref (r 0)), (3, .int (nI (5 * cn)))] → W p l e room_1 s m args below meth c H locs k n Q (F0 m 378 ls []) := by
  intro H locs k n ls hI hl
  obtain ⟨hx, hb, hml, hown, hts, hK, hX, hbl, hbA, hA, hL⟩ := C0
  obtain ⟨q8, q10, pl, tr, l8, l10, f2, f3, fn, tk, gv, e0, e1, e5, e9, e12, n8, n10, e4, c2, c3, c11, t6, t7, p8, p10, g, g1, g2, g3, h4, h5, h6, h7, h8, i7, i8, i9, i13, i15, i18, i19, i22, i23, a1, a2, a4, a5, a6, a10, a11, a12, a14, a16, a20, a21, a24, a25, a26, hP, hD, hS, hN, hV, hSe, hTr, hPi⟩ := hI
  obtain ⟨hk9, hn9⟩ := pileR_room hPi
  have hpl := hN.1
  have htr := hN.2.1
  cases g with
  | false =>
    have heq : (-1 : Int32) = -1 := rfl
    refine lv_aload_n hx hb dL_law_378 rfl (lv_at hl 1 rfl) ?_
    refine lv_aload_n hx hb dL_law_379 rfl (lv_at hl 0 rfl) ?_
    refine lv_iload_n hx hb dL_law_380 rfl (lv_at hl 3 rfl) ?_
    refine lv_iconst (v := nI 1) hx hb dL_law_381 (by decide) ?_
    refine wk_iadd hx hb dL_law_382 ?_
    refine va_sld hx hb hX hbl hbA hS (i := nI ((5 * cn) + 1)) (vp_in_nI (by omega) (by omega)) dL_law_383 ?_
    refine lv_aload_n hx hb dL_law_384 rfl (lv_at hl 0 rfl) ?_
    refine lv_iload_n hx hb dL_law_385 rfl (lv_at hl 3 rfl) ?_
    refine lv_iconst (v := nI 2) hx hb dL_law_386 (by decide) ?_
    refine wk_iadd hx hb dL_law_387 ?_
    refine va_sld hx hb hX hbl hbA hS (i := nI ((5 * cn) + 2)) (vp_in_nI (by omega) (by omega)) dL_law_388 ?_
    refine wk_Vi (As := [.int (xs (nI ((5 * cn) + 1)).toNatClampNeg), .int (xs (nI ((5 * cn) + 2)).toNatClampNeg)]) (rest := []) ⟨hx, hb, hml, hown, hts⟩ (c_X5_limit_f l D cI cJ cZ cA x0 (b 0) x1 (sa 0) ta g1 g2 g3 h4 h5 h6 h7 h8 (xs (nI ((5 * cn) + 1)).toNatClampNeg) (xs (nI ((5 * cn) + 2)).toNatClampNeg)) (cwV 2 hts gL_law_X5_limit rfl rfl rfl (by decide +kernel) ⟨Nat.le_of_ble_eq_true rfl, Nat.le_of_ble_eq_true rfl⟩) hK hP [29, 30, 31, 32, 33, 34, 17] rfl 6 4 rfl rfl hS rfl hl.1 rfl (Nat.le_of_ble_eq_true rfl) dL_law_389 ⟨by show k ≤ 600000; omega, by show n ≤ 7302250; omega⟩ (fun H locs hP hS => ?_)
    refine lv_aload_n hx hb dL_law_392 rfl (lv_at hl 2 rfl) ?_
    refine lv_aload_n hx hb dL_law_393 rfl (lv_at hl 0 rfl) ?_
    refine lv_iload_n hx hb dL_law_394 rfl (lv_at hl 3 rfl) ?_
    refine lv_iconst (v := nI 1) hx hb dL_law_395 (by decide) ?_
    refine wk_iadd hx hb dL_law_396 ?_
    refine va_sld hx hb hX hbl hbA hS (i := nI ((5 * cn) + 1)) (vp_in_nI (by omega) (by omega)) dL_law_397 ?_
    refine lv_aload_n hx hb dL_law_398 rfl (lv_at hl 0 rfl) ?_
    refine lv_iload_n hx hb dL_law_399 rfl (lv_at hl 3 rfl) ?_
    refine lv_iconst (v := nI 2) hx hb dL_law_400 (by decide) ?_
    refine wk_iadd hx hb dL_law_401 ?_
    refine va_sld hx hb hX hbl hbA hS (i := nI ((5 * cn) + 2)) (vp_in_nI (by omega) (by omega)) dL_law_402 ?_
    refine wk_Vi (As := [.int (xs (nI ((5 * cn) + 1)).toNatClampNeg), .int (xs (nI ((5 * cn) + 2)).toNatClampNeg)]) (rest := [.int (-1)]) ⟨hx, hb, hml, hown, hts⟩ (c_X6_limit_f l D cI cJ cZ cA r (nI pl) (nI tr) i7 i8 i9 i13 i15 i18 i19 i22 i23 a1 a2 a4 a5 a6 a10 a11 a12 a14 a16 a20 a21 a24 a25 a26 (xs (nI ((5 * cn) + 1)).toNatClampNeg) (xs (nI ((5 * cn) + 2)).toNatClampNeg)) (cwV 2 hts gL_law_X6_limit rfl rfl rfl (by decide +kernel) ⟨Nat.le_of_ble_eq_true rfl, Nat.le_of_ble_eq_true rfl⟩) hK hP [35, 36, 37, 38, 39, 40, 41, 42, 43, 44, 45, 46, 47, 48, 49, 50] rfl 0 5 rfl rfl hS rfl hl.1 rfl (Nat.le_of_ble_eq_true rfl) dL_law_403 ⟨by show k ≤ 600000; omega, by show n ≤ 7302250; omega⟩ (fun H locs hP hS => ?_)
    refine lv_icmp_eq (tgt := 470) hx hb dL_law_406 (by decide) (fun _ => ?_) (fun h9 => absurd heq h9)
    exact kk H locs _ _ ls ⟨q8, q10, pl, tr, l8, l10, f2, f3, fn, tk, gv, e0, e1, e5, e9, e12, n8, n10, e4, c2, c3, c11, t6, t7, p8, p10, false, g1, g2, g3, h4, h5, h6, h7, h8, i7, i8, i9, i13, i15, i18, i19, i22, i23, a1, a2, a4, a5, a6, a10, a11, a12, a14, a16, a20, a21, a24, a25, a26, hP, hD, hS, hN, (vecR_m hV (Nat.le_refl _) (by omega)), hSe, hTr, hPi⟩ hl
  | true =>
    obtain ⟨gp, A9, B9, C9, fr, hgp, rfl, rfl, rfl, rfl, rfl, hr5, hr20, hi8, hi24, hfr, hOK⟩ := hTr rfl
    obtain ⟨ok1, ok2, ok3, ok4, ok5, ok6, ok7, ok8⟩ := id hOK
    have heq := limit_R hgp ok3 ok6 (xs (nI (5 * cn + 1)).toNatClampNeg) (xs (nI (5 * cn + 2)).toNatClampNeg)
    refine lv_aload_n hx hb dL_law_378 rfl (lv_at hl 1 rfl) ?_
    refine lv_aload_n hx hb dL_law_379 rfl (lv_at hl 0 rfl) ?_
    refine lv_iload_n hx hb dL_law_380 rfl (lv_at hl 3 rfl) ?_
    refine lv_iconst (v := nI 1) hx hb dL_law_381 (by decide) ?_
    refine wk_iadd hx hb dL_law_382 ?_
    refine va_sld hx hb hX hbl hbA hS (i := nI ((5 * cn) + 1)) (vp_in_nI (by omega) (by omega)) dL_law_383 ?_
    refine lv_aload_n hx hb dL_law_384 rfl (lv_at hl 0 rfl) ?_
    refine lv_iload_n hx hb dL_law_385 rfl (lv_at hl 3 rfl) ?_
    refine lv_iconst (v := nI 2) hx hb dL_law_386 (by decide) ?_
    refine wk_iadd hx hb dL_law_387 ?_
    refine va_sld hx hb hX hbl hbA hS (i := nI ((5 * cn) + 2)) (vp_in_nI (by omega) (by omega)) dL_law_388 ?_
    refine wk_Vi (As := [.int (xs (nI ((5 * cn) + 1)).toNatClampNeg), .int (xs (nI ((5 * cn) + 2)).toNatClampNeg)]) (rest := []) ⟨hx, hb, hml, hown, hts⟩ (c_X5_limit l D cI cJ cZ cA x0 (b 0) x1 (sa 0) ta g2 h4 h5 h6 h7 h8 gp hgp A9 C9 hr5 ok2 hi8 ok3 ok4 (xs (nI ((5 * cn) + 1)).toNatClampNeg) (xs (nI ((5 * cn) + 2)).toNatClampNeg)) (cwV 2 hts gL_law_X5_limit rfl rfl rfl (by decide +kernel) ⟨Nat.le_of_ble_eq_true rfl, Nat.le_of_ble_eq_true rfl⟩) hK hP [29, 30, 31, 32, 33, 34, 17] rfl 6 4 rfl rfl hS rfl hl.1 rfl (Nat.le_of_ble_eq_true rfl) dL_law_389 ⟨by show k ≤ 600000; omega, by show n ≤ 7302250; omega⟩ (fun H locs hP hS => ?_)
    refine lv_aload_n hx hb dL_law_392 rfl (lv_at hl 2 rfl) ?_
    refine lv_aload_n hx hb dL_law_393 rfl (lv_at hl 0 rfl) ?_
    refine lv_iload_n hx hb dL_law_394 rfl (lv_at hl 3 rfl) ?_
    refine lv_iconst (v := nI 1) hx hb dL_law_395 (by decide) ?_
    refine wk_iadd hx hb dL_law_396 ?_
    refine va_sld hx hb hX hbl hbA hS (i := nI ((5 * cn) + 1)) (vp_in_nI (by omega) (by omega)) dL_law_397 ?_
    refine lv_aload_n hx hb dL_law_398 rfl (lv_at hl 0 rfl) ?_
    refine lv_iload_n hx hb dL_law_399 rfl (lv_at hl 3 rfl) ?_
    refine lv_iconst (v := nI 2) hx hb dL_law_400 (by decide) ?_
    refine wk_iadd hx hb dL_law_401 ?_
    refine va_sld hx hb hX hbl hbA hS (i := nI ((5 * cn) + 2)) (vp_in_nI (by omega) (by omega)) dL_law_402 ?_
    refine wk_Vi (As := [.int (xs (nI ((5 * cn) + 1)).toNatClampNeg), .int (xs (nI ((5 * cn) + 2)).toNatClampNeg)]) (rest := [.int (if inB (xs (nI ((5 * cn) + 2)).toNatClampNeg) (nI gp) = true ∧ inB (xs (nI ((5 * cn) + 1)).toNatClampNeg) (nI C9.length) = true then tolM (nI 1000000000) ((A9.getD (C9.getD ((xs (nI ((5 * cn) + 1)).toNatClampNeg)).toNatClampNeg 0) zR) ((xs (nI ((5 * cn) + 2)).toNatClampNeg)).toNatClampNeg) else -1)]) ⟨hx, hb, hml, hown, hts⟩ (c_X6_limit l D cI cJ cZ cA r (nI pl) (nI tr) i7 i8 i9 i13 i15 (nI B9.length) i22 a1 a2 a4 a5 a6 a10 a11 a12 a14 a16 a20 a21 a24 a25 a26 gp hgp B9 hr20 (by omega) C9 hi24 ok3 (fun v hv => by have := ok4 v hv; omega) (xs (nI ((5 * cn) + 1)).toNatClampNeg) (xs (nI ((5 * cn) + 2)).toNatClampNeg)) (cwV 2 hts gL_law_X6_limit rfl rfl rfl (by decide +kernel) ⟨Nat.le_of_ble_eq_true rfl, Nat.le_of_ble_eq_true rfl⟩) hK hP [35, 36, 37, 38, 39, 40, 41, 42, 43, 44, 45, 46, 47, 48, 49, 50] rfl 0 5 rfl rfl hS rfl hl.1 rfl (Nat.le_of_ble_eq_true rfl) dL_law_403 ⟨by show k ≤ 600000; omega, by show n ≤ 7302250; omega⟩ (fun H locs hP hS => ?_)
    refine lv_icmp_eq (tgt := 470) hx hb dL_law_406 (by decide) (fun _ => ?_) (fun h9 => absurd heq h9)
    exact kk H locs _ _ ls ⟨q8, q10, pl, tr, l8, l10, f2, f3, fn, tk, gv, e0, e1, e5, e9, e12, n8, n10, e4, c2, c3, c11, t6, t7, p8, p10, true, (nI gp), g2, (nI C9.length), h4, h5, h6, h7, h8, i7, i8, i9, i13, i15, (nI gp), (nI B9.length), i22, (nI C9.length), a1, a2, a4, a5, a6, a10, a11, a12, a14, a16, a20, a21, a24, a25, a26, hP, hD, hS, hN, (vecR_m hV (Nat.le_refl _) (by omega)), hSe, (fun _ => ⟨gp, A9, B9, C9, fr, hgp, rfl, rfl, rfl, rfl, rfl, hr5, hr20, hi8, hi24, hfr, hOK⟩), hPi⟩ hl

set_option maxHeartbeats 4000000 in
set_option maxRecDepth 100000 in
theorem law_covers {p : Program} {l : Launch} {e : Env} {s : State} {m : MethodId} {below : List Frame} {meth : Method} {c : Code} {Q : State → Prop} {D : va_G} {A : Nat → Prop} {cI cJ cZ cA : ClassId} {args : Array Value} {sb L : Nat} {xs : Nat → Int32} {b rt rg sa ta r : Nat → Nat} {x0 x1 cn : Nat} (C0 : LC p s m c args A D cI cJ cZ cA sb L xs) (hc : 5 * cn + 5 ≤ L) (kk : ∀ (H : Heap) (locs : List Loc) (k n : Nat) (ls : Array Slot), LI D A cI cJ cZ cA s b rt rg sa ta r x0 x1 (cn + 1) H locs k n → lv_has ls 4 [(0, .ref sb), (1, .ref x0), (2, .ref (r 0)), (3, .int (nI (5 * cn)))] → W p l e room_1 s m args below meth c H locs k n Q (F0 m 470 ls [])) : ∀ (H : Heap) (locs : List Loc) (k n : Nat) (ls : Array Slot), LI D A cI cJ cZ cA s b rt rg sa ta r x0 x1 cn H locs k n → lv_has ls 4 [(0, .ref sb), (1, .ref x0), (2, .ref (r 0)), (3, .int (nI (5 * cn)))] → W p l e room_1 s m args below meth c H locs k n Q (F0 m 411 ls []) := by
  intro H locs k n ls hI hl
  obtain ⟨hx, hb, hml, hown, hts, hK, hX, hbl, hbA, hA, hL⟩ := C0
  obtain ⟨q8, q10, pl, tr, l8, l10, f2, f3, fn, tk, gv, e0, e1, e5, e9, e12, n8, n10, e4, c2, c3, c11, t6, t7, p8, p10, g, g1, g2, g3, h4, h5, h6, h7, h8, i7, i8, i9, i13, i15, i18, i19, i22, i23, a1, a2, a4, a5, a6, a10, a11, a12, a14, a16, a20, a21, a24, a25, a26, hP, hD, hS, hN, hV, hSe, hTr, hPi⟩ := hI
  obtain ⟨hk9, hn9⟩ := pileR_room hPi
  have hpl := hN.1
  have htr := hN.2.1
  cases g with
  | false =>
    have heq : bI false = bI false := rfl
    refine lv_aload_n hx hb dL_law_411 rfl (lv_at hl 1 rfl) ?_
    refine wk_Vi (As := []) (rest := []) ⟨hx, hb, hml, hown, hts⟩ (c_X5_covers_f l D cI cJ cZ cA x0 x1 (sa 0) (nI pl) (nI tr) b rt rg f2 f3 tk gv ta g1 g2 g3 h4 h5 h6 h7 h8) (cwV 0 hts gL_law_X5_covers rfl rfl rfl (by decide +kernel) ⟨Nat.le_of_ble_eq_true rfl, Nat.le_of_ble_eq_true rfl⟩) hK hP [0, 1, 2, 3, 4, 5, 6, 7, 8, 9, 10, 11, 12, 13, 14, 15, 16, 29, 30, 31, 32, 33, 34, 17] rfl 23 4 rfl rfl hS rfl hl.1 rfl (Nat.le_of_ble_eq_true rfl) dL_law_412 ⟨by show k ≤ 600000; omega, by show n ≤ 7302250; omega⟩ (fun H locs hP hS => ?_)
    refine lv_aload_n hx hb dL_law_415 rfl (lv_at hl 2 rfl) ?_
    refine wk_Vi (As := []) (rest := [.int (bI false)]) ⟨hx, hb, hml, hown, hts⟩ (c_X6_covers_f l D cI cJ cZ cA r (nI pl) (nI tr) i7 i8 i9 i13 i15 i18 i19 i22 i23 a1 a2 a4 a5 a6 a10 a11 a12 a14 a16 a20 a21 a24 a25 a26 ) (cwV 0 hts gL_law_X6_covers rfl rfl rfl (by decide +kernel) ⟨Nat.le_of_ble_eq_true rfl, Nat.le_of_ble_eq_true rfl⟩) hK hP [35, 36, 37, 38, 39, 40, 41, 42, 43, 44, 45, 46, 47, 48, 49, 50] rfl 0 5 rfl rfl hS rfl hl.1 rfl (Nat.le_of_ble_eq_true rfl) dL_law_416 ⟨by show k ≤ 600000; omega, by show n ≤ 7302250; omega⟩ (fun H locs hP hS => ?_)
    refine lv_icmp_eq (tgt := 470) hx hb dL_law_419 (by decide) (fun _ => ?_) (fun h9 => absurd heq h9)
    exact kk H locs _ _ ls ⟨q8, q10, pl, tr, l8, l10, f2, f3, fn, tk, gv, e0, e1, e5, e9, e12, n8, n10, e4, c2, c3, c11, t6, t7, p8, p10, false, g1, g2, g3, h4, h5, h6, h7, h8, i7, i8, i9, i13, i15, i18, i19, i22, i23, a1, a2, a4, a5, a6, a10, a11, a12, a14, a16, a20, a21, a24, a25, a26, hP, hD, hS, hN, (vecR_m hV (Nat.le_refl _) (by omega)), hSe, hTr, hPi⟩ hl
  | true =>
    obtain ⟨gp, A9, B9, C9, fr, hgp, rfl, rfl, rfl, rfl, rfl, hr5, hr20, hi8, hi24, hfr, hOK⟩ := hTr rfl
    obtain ⟨ok1, ok2, ok3, ok4, ok5, ok6, ok7, ok8⟩ := id hOK
    have heq := covers_R hN ok7
    refine lv_aload_n hx hb dL_law_411 rfl (lv_at hl 1 rfl) ?_
    refine wk_Vi (As := []) (rest := []) ⟨hx, hb, hml, hown, hts⟩ (c_X5_covers l D cI cJ cZ cA x0 x1 (sa 0) (nI tr) pl hpl b rt rg f2 f3 tk gv ta g2 h4 h5 h6 h7 h8 gp hgp A9 C9 hr5 ok2 hi8 ok3 ok4) (cwV 0 hts gL_law_X5_covers rfl rfl rfl (by decide +kernel) ⟨Nat.le_of_ble_eq_true rfl, Nat.le_of_ble_eq_true rfl⟩) hK hP [0, 1, 2, 3, 4, 5, 6, 7, 8, 9, 10, 11, 12, 13, 14, 15, 16, 29, 30, 31, 32, 33, 34, 17] rfl 23 4 rfl rfl hS rfl hl.1 rfl (Nat.le_of_ble_eq_true rfl) dL_law_412 ⟨by show k ≤ 600000; omega, by show n ≤ 7302250; omega⟩ (fun H locs hP hS => ?_)
    refine lv_aload_n hx hb dL_law_415 rfl (lv_at hl 2 rfl) ?_
    refine wk_Vi (As := []) (rest := [.int (bI (decide (gp = pl) && C9.any (fun v => tpP gp (A9.getD v zR) f3)))]) ⟨hx, hb, hml, hown, hts⟩ (c_X6_covers l D cI cJ cZ cA r (nI tr) i7 i8 i9 i13 i15 i22 (nI C9.length) a1 a2 a4 a5 a6 a10 a11 a12 a14 a16 a20 a21 a24 a25 a26 pl hpl gp hgp B9 hr20 (by omega)) (cwV 0 hts gL_law_X6_covers rfl rfl rfl (by decide +kernel) ⟨Nat.le_of_ble_eq_true rfl, Nat.le_of_ble_eq_true rfl⟩) hK hP [35, 36, 37, 38, 39, 40, 41, 42, 43, 44, 45, 46, 47, 48, 49, 50] rfl 0 5 rfl rfl hS rfl hl.1 rfl (Nat.le_of_ble_eq_true rfl) dL_law_416 ⟨by show k ≤ 600000; omega, by show n ≤ 7302250; omega⟩ (fun H locs hP hS => ?_)
    refine lv_icmp_eq (tgt := 470) hx hb dL_law_419 (by decide) (fun _ => ?_) (fun h9 => absurd heq h9)
    exact kk H locs _ _ ls ⟨q8, q10, pl, tr, l8, l10, f2, f3, fn, tk, gv, e0, e1, e5, e9, e12, n8, n10, e4, c2, c3, c11, t6, t7, p8, p10, true, (nI gp), g2, (nI C9.length), h4, h5, h6, h7, h8, i7, i8, i9, i13, i15, (nI gp), (nI B9.length), i22, (nI C9.length), a1, a2, a4, a5, a6, a10, a11, a12, a14, a16, a20, a21, a24, a25, a26, hP, hD, hS, hN, (vecR_m hV (Nat.le_refl _) (by omega)), hSe, (fun _ => ⟨gp, A9, B9, C9, fr, hgp, rfl, rfl, rfl, rfl, rfl, hr5, hr20, hi8, hi24, hfr, hOK⟩), hPi⟩ hl

