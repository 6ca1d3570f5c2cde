set_option maxHeartbeats 4000000 in
set_option maxRecDepth 100000 in
theorem law_steps {p : Program} {l : Launch} {e : Env} {s : State} {m : MethodId} {below : List Frame} {meth : Method} {c : Code} {Q : State → Prop} {D : va_G} {A : Nat → Prop} {cI cJ cZ cA : ClassId} {args : Array Value} {sb L : Nat} {xs : Nat → Int32} {b rt rg sa ta r : Nat → Nat} {x0 x1 cn : Nat} (C0 : LC p s m c args A D cI cJ cZ cA sb L xs) (hc : 5 * cn + 5 ≤ L) (kk : ∀ (H : Heap) (locs : List Loc) (k n : Nat) (ls : Array Slot), LI D A cI cJ cZ cA s b rt rg sa ta r x0 x1 (cn + 1) H locs k n → lv_has ls 4 [(0, .ref sb), (1, .ref x0), (2, .ref (r 0)), (3, .int (nI (5 * cn)))] → W p l e room_1 s m args below meth c H locs k n Q (F0 m 470 ls [])) : ∀ (H : Heap) (locs : List Loc) (k n : Nat) (ls : Array Slot), LI D A cI cJ cZ cA s b rt rg sa ta r x0 x1 cn H locs k n → lv_has ls 4 [(0, .ref sb), (1, .ref x0), (2, .ref (r 0)), (3, .int (nI (5 * cn)))] → W p l e room_1 s m args below meth c H locs k n Q (F0 m 247 ls []) := by
  intro H locs k n ls hI hl
  obtain ⟨hx, hb, hml, hown, hts, hK, hX, hbl, hbA, hA, hL⟩ := C0
  obtain ⟨q8, q10, pl, tr, l8, l10, f2, f3, fn, tk, gv, e0, e1, e5, e9, e12, n8, n10, e4, c2, c3, c11, t6, t7, p8, p10, g, g1, g2, g3, h4, h5, h6, h7, h8, i7, i8, i9, i13, i15, i18, i19, i22, i23, a1, a2, a4, a5, a6, a10, a11, a12, a14, a16, a20, a21, a24, a25, a26, hP, hD, hS, hN, hV, hSe, hTr, hPi⟩ := hI
  obtain ⟨hk9, hn9⟩ := pileR_room hPi
  have hpl := hN.1
  have htr := hN.2.1
  have heq := steps_R hSe
  refine lv_aload_n hx hb dL_law_247 rfl (lv_at hl 1 rfl) ?_
  refine wk_Vi (As := []) (rest := []) ⟨hx, hb, hml, hown, hts⟩ (c_X5_steps l D cI cJ cZ cA x0 (b 0) x1 (ta 0) sa e0 e1 e5 e9 e12 n8 n10 e4 c2 c3 c11 t6 t7 p8 p10 q8 l8 q10 l10) (cwV 0 hts gL_law_X5_steps rfl rfl rfl (by decide +kernel) ⟨Nat.le_of_ble_eq_true rfl, Nat.le_of_ble_eq_true rfl⟩) hK hP [19, 20, 21, 22, 23, 24, 25, 26, 27, 28, 17] rfl 10 4 rfl rfl hS rfl hl.1 rfl (Nat.le_of_ble_eq_true rfl) dL_law_248 ⟨by show k ≤ 600000; omega, by show n ≤ 7302250; omega⟩ (fun H locs hP hS => ?_)
  refine lv_aload_n hx hb dL_law_251 rfl (lv_at hl 2 rfl) ?_
  refine wk_Vi (As := []) (rest := [.int (if e0 = nI 1 then e1 else -1)]) ⟨hx, hb, hml, hown, hts⟩ (c_X6_steps l D cI cJ cZ cA r (nI pl) (nI tr) i7 i8 i9 i13 i15 (bI g) i18 i19 i22 i23 a1 a2 a4 a5 a6 a10 a11 a12 a14 a16 a20 a21 a24 a25 a26 ) (cwV 0 hts gL_law_X6_steps rfl rfl rfl (by decide +kernel) ⟨Nat.le_of_ble_eq_true rfl, Nat.le_of_ble_eq_true rfl⟩) hK hP [35, 36, 37, 38, 39, 40, 41, 42, 43, 44, 45, 46, 47, 48, 49, 50] rfl 0 5 rfl rfl hS rfl hl.1 rfl (Nat.le_of_ble_eq_true rfl) dL_law_252 ⟨by show k ≤ 600000; omega, by show n ≤ 7302250; omega⟩ (fun H locs hP hS => ?_)
  refine lv_icmp_eq (tgt := 470) hx hb dL_law_255 (by decide) (fun _ => ?_) (fun h9 => absurd heq h9)
  exact kk H locs _ _ ls ⟨q8, q10, pl, tr, l8, l10, f2, f3, fn, tk, gv, e0, e1, e5, e9, e12, n8, n10, e4, c2, c3, c11, t6, t7, p8, p10, g, g1, g2, g3, h4, h5, h6, h7, h8, i7, i8, i9, i13, i15, i18, i19, i22, i23, a1, a2, a4, a5, a6, a10, a11, a12, a14, a16, a20, a21, a24, a25, a26, hP, hD, hS, hN, (vecR_m hV (Nat.le_refl _) (by omega)), hSe, hTr, hPi⟩ hl

set_option maxHeartbeats 4000000 in
set_option maxRecDepth 100000 in
theorem law_witness {p : Program} {l : Launch} {e : Env} {s : State} {m : MethodId} {below : List Frame} {meth : Method} {c : Code} {Q : State → Prop} {D : va_G} {A : Nat → Prop} {cI cJ cZ cA : ClassId} {args : Array Value} {sb L : Nat} {xs : Nat → Int32} {b rt rg sa ta r : Nat → Nat} {x0 x1 cn : Nat} (C0 : LC p s m c args A D cI cJ cZ cA sb L xs) (hc : 5 * cn + 5 ≤ L) (kk : ∀ (H : Heap) (locs : List Loc) (k n : Nat) (ls : Array Slot), LI D A cI cJ cZ cA s b rt rg sa ta r x0 x1 (cn + 1) H locs k n → lv_has ls 4 [(0, .ref sb), (1, .ref x0), (2, .ref (r 0)), (3, .int (nI (5 * cn)))] → W p l e room_1 s m args below meth c H locs k n Q (F0 m 470 ls [])) : ∀ (H : Heap) (locs : List Loc) (k n : Nat) (ls : Array Slot), LI D A cI cJ cZ cA s b rt rg sa ta r x0 x1 cn H locs k n → lv_has ls 4 [(0, .ref sb), (1, .ref x0), (2, .ref (r 0)), (3, .int (nI (5 * cn)))] → W p l e room_1 s m args below meth c H locs k n Q (F0 m 260 ls []) := by
  intro H locs k n ls hI hl
  obtain ⟨hx, hb, hml, hown, hts, hK, hX, hbl, hbA, hA, hL⟩ := C0
  obtain ⟨q8, q10, pl, tr, l8, l10, f2, f3, fn, tk, gv, e0, e1, e5, e9, e12, n8, n10, e4, c2, c3, c11, t6, t7, p8, p10, g, g1, g2, g3, h4, h5, h6, h7, h8, i7, i8, i9, i13, i15, i18, i19, i22, i23, a1, a2, a4, a5, a6, a10, a11, a12, a14, a16, a20, a21, a24, a25, a26, hP, hD, hS, hN, hV, hSe, hTr, hPi⟩ := hI
  obtain ⟨hk9, hn9⟩ := pileR_room hPi
  have hpl := hN.1
  have htr := hN.2.1
  obtain ⟨lb, hlb, rfl⟩ := sea_i8 hSe
  obtain ⟨hw1, hw2⟩ := wit_R hSe (xs (nI (5 * cn + 1)).toNatClampNeg)
  by_cases hf : e0 = nI 1
  ·
    obtain ⟨la, hla, rfl, heq⟩ := hw1 hf
    refine lv_aload_n hx hb dL_law_260 rfl (lv_at hl 1 rfl) ?_
    refine lv_aload_n hx hb dL_law_261 rfl (lv_at hl 0 rfl) ?_
    refine lv_iload_n hx hb dL_law_262 rfl (lv_at hl 3 rfl) ?_
    refine lv_iconst (v := nI 1) hx hb dL_law_263 (by decide) ?_
    refine wk_iadd hx hb dL_law_264 ?_
    refine va_sld hx hb hX hbl hbA hS (i := nI ((5 * cn) + 1)) (vp_in_nI (by omega) (by omega)) dL_law_265 ?_
    refine wk_Vi (As := [.int (xs (nI ((5 * cn) + 1)).toNatClampNeg)]) (rest := []) ⟨hx, hb, hml, hown, hts⟩ (c_X5_witness l D cI cJ cZ cA x0 (b 0) x1 (ta 0) sa e0 e5 e9 e12 n8 n10 e4 c2 c3 c11 t6 t7 p8 p10 q8 l8 q10 l10 la (xs (nI ((5 * cn) + 1)).toNatClampNeg) hla) (cwV 1 hts gL_law_X5_witness rfl rfl rfl (by decide +kernel) ⟨Nat.le_of_ble_eq_true rfl, Nat.le_of_ble_eq_true rfl⟩) hK hP [19, 20, 21, 22, 23, 24, 25, 26, 27, 28, 17] rfl 10 4 rfl rfl hS rfl hl.1 rfl (Nat.le_of_ble_eq_true rfl) dL_law_266 ⟨by show k ≤ 600000; omega, by show n ≤ 7302250; omega⟩ (fun H locs hP hS => ?_)
    refine lv_aload_n hx hb dL_law_269 rfl (lv_at hl 2 rfl) ?_
    refine lv_aload_n hx hb dL_law_270 rfl (lv_at hl 0 rfl) ?_
    refine lv_iload_n hx hb dL_law_271 rfl (lv_at hl 3 rfl) ?_
    refine lv_iconst (v := nI 1) hx hb dL_law_272 (by decide) ?_
    refine wk_iadd hx hb dL_law_273 ?_
    refine va_sld hx hb hX hbl hbA hS (i := nI ((5 * cn) + 1)) (vp_in_nI (by omega) (by omega)) dL_law_274 ?_
    refine wk_Vi (As := [.int (xs (nI ((5 * cn) + 1)).toNatClampNeg)]) (rest := [.int (if e0 = nI 1 ∧ inB (xs (nI ((5 * cn) + 1)).toNatClampNeg) (nI la) = true then c3 ((xs (nI ((5 * cn) + 1)).toNatClampNeg)).toNatClampNeg else -1)]) ⟨hx, hb, hml, hown, hts⟩ (c_X6_witness l D cI cJ cZ cA r (nI pl) (nI tr) i7 i9 i13 i15 (bI g) i18 i19 i22 i23 a1 a2 a4 a5 a6 a10 a11 a12 a14 a16 a20 a21 a24 a25 a26 lb (xs (nI ((5 * cn) + 1)).toNatClampNeg) hlb) (cwV 1 hts gL_law_X6_witness rfl rfl rfl (by decide +kernel) ⟨Nat.le_of_ble_eq_true rfl, Nat.le_of_ble_eq_true rfl⟩) hK hP [35, 36, 37, 38, 39, 40, 41, 42, 43, 44, 45, 46, 47, 48, 49, 50] rfl 0 5 rfl rfl hS rfl hl.1 rfl (Nat.le_of_ble_eq_true rfl) dL_law_275 ⟨by show k ≤ 600000; omega, by show n ≤ 7302250; omega⟩ (fun H locs hP hS => ?_)
    refine lv_icmp_eq (tgt := 470) hx hb dL_law_278 (by decide) (fun _ => ?_) (fun h9 => absurd heq h9)
    exact kk H locs _ _ ls ⟨q8, q10, pl, tr, l8, l10, f2, f3, fn, tk, gv, e0, (nI la), e5, e9, e12, n8, n10, e4, c2, c3, c11, t6, t7, p8, p10, g, g1, g2, g3, h4, h5, h6, h7, h8, i7, (nI lb), i9, i13, i15, i18, i19, i22, i23, a1, a2, a4, a5, a6, a10, a11, a12, a14, a16, a20, a21, a24, a25, a26, hP, hD, hS, hN, (vecR_m hV (Nat.le_refl _) (by omega)), hSe, hTr, hPi⟩ hl
  ·
    have heq := hw2 hf
    refine lv_aload_n hx hb dL_law_260 rfl (lv_at hl 1 rfl) ?_
    refine lv_aload_n hx hb dL_law_261 rfl (lv_at hl 0 rfl) ?_
    refine lv_iload_n hx hb dL_law_262 rfl (lv_at hl 3 rfl) ?_
    refine lv_iconst (v := nI 1) hx hb dL_law_263 (by decide) ?_
    refine wk_iadd hx hb dL_law_264 ?_
    refine va_sld hx hb hX hbl hbA hS (i := nI ((5 * cn) + 1)) (vp_in_nI (by omega) (by omega)) dL_law_265 ?_
    refine wk_Vi (As := [.int (xs (nI ((5 * cn) + 1)).toNatClampNeg)]) (rest := []) ⟨hx, hb, hml, hown, hts⟩ (c_X5_witness_n l D cI cJ cZ cA x0 (b 0) x1 (ta 0) sa e0 e1 e5 e9 e12 n8 n10 e4 c2 c3 c11 t6 t7 p8 p10 q8 l8 q10 l10 (xs (nI ((5 * cn) + 1)).toNatClampNeg) hf) (cwV 1 hts gL_law_X5_witness rfl rfl rfl (by decide +kernel) ⟨Nat.le_of_ble_eq_true rfl, Nat.le_of_ble_eq_true rfl⟩) hK hP [19, 20, 21, 22, 23, 24, 25, 26, 27, 28, 17] rfl 10 4 rfl rfl hS rfl hl.1 rfl (Nat.le_of_ble_eq_true rfl) dL_law_266 ⟨by show k ≤ 600000; omega, by show n ≤ 7302250; omega⟩ (fun H locs hP hS => ?_)
    refine lv_aload_n hx hb dL_law_269 rfl (lv_at hl 2 rfl) ?_
    refine lv_aload_n hx hb dL_law_270 rfl (lv_at hl 0 rfl) ?_
    refine lv_iload_n hx hb dL_law_271 rfl (lv_at hl 3 rfl) ?_
    refine lv_iconst (v := nI 1) hx hb dL_law_272 (by decide) ?_
    refine wk_iadd hx hb dL_law_273 ?_
    refine va_sld hx hb hX hbl hbA hS (i := nI ((5 * cn) + 1)) (vp_in_nI (by omega) (by omega)) dL_law_274 ?_
    refine wk_Vi (As := [.int (xs (nI ((5 * cn) + 1)).toNatClampNeg)]) (rest := [.int (-1)]) ⟨hx, hb, hml, hown, hts⟩ (c_X6_witness l D cI cJ cZ cA r (nI pl) (nI tr) i7 i9 i13 i15 (bI g) i18 i19 i22 i23 a1 a2 a4 a5 a6 a10 a11 a12 a14 a16 a20 a21 a24 a25 a26 lb (xs (nI ((5 * cn) + 1)).toNatClampNeg) hlb) (cwV 1 hts gL_law_X6_witness rfl rfl rfl (by decide +kernel) ⟨Nat.le_of_ble_eq_true rfl, Nat.le_of_ble_eq_true rfl⟩) hK hP [35, 36, 37, 38, 39, 40, 41, 42, 43, 44, 45, 46, 47, 48, 49, 50] rfl 0 5 rfl rfl hS rfl hl.1 rfl (Nat.le_of_ble_eq_true rfl) dL_law_275 ⟨by show k ≤ 600000; omega, by show n ≤ 7302250; omega⟩ (fun H locs hP hS => ?_)
    refine lv_icmp_eq (tgt := 470) hx hb dL_law_278 (by decide) (fun _ => ?_) (fun h9 => absurd heq h9)
    exact kk H locs _ _ ls ⟨q8, q10, pl, tr, l8, l10, f2, f3, fn, tk, gv, e0, e1, e5, e9, e12, n8, n10, e4, c2, c3, c11, t6, t7, p8, p10, g, g1, g2, g3, h4, h5, h6, h7, h8, i7, (nI lb), i9, i13, i15, i18, i19, i22, i23, a1, a2, a4, a5, a6, a10, a11, a12, a14, a16, a20, a21, a24, a25, a26, hP, hD, hS, hN, (vecR_m hV (Nat.le_refl _) (by omega)), hSe, hTr, hPi⟩ hl

set_option maxHeartbeats 4000000 in
set_option maxRecDepth 100000 in
theorem law_least {p : Program} {l : Launch} {e : Env} {s : State} {m : MethodId} {below : List Frame} {meth : Method} {c : Code} {Q : State → Prop} {D : va_G} {A : Nat → Prop} {cI cJ cZ cA : ClassId} {args : Array Value} {sb L : Nat} {xs : Nat → Int32} {b rt rg sa ta r : Nat → Nat} {x0 x1 cn : Nat} (C0 : LC p s m c args A D cI cJ cZ cA sb L xs) (hc : 5 * cn + 5 ≤ L) (kk : ∀ (H : Heap) (locs : List Loc) (k n : Nat) (ls : Array Slot), LI D A cI cJ cZ cA s b rt rg sa ta r x0 x1 (cn + 1) H locs k n → lv_has ls 4 [(0, .ref sb), (1, .ref x0), (2, .ref (r 0)), (3, .int (nI (5 * cn)))] → W p l e room_1 s m args below meth c H locs k n Q (F0 m 470 ls [])) : ∀ (H : Heap) (locs : List Loc) (k n : Nat) (ls : Array Slot), LI D A cI cJ cZ cA s b rt rg sa ta r x0 x1 cn H locs k n → lv_has ls 4 [(0, .ref sb), (1, .ref x0), (2, .ref (r 0)), (3, .int (nI (5 * cn)))] → W p l e room_1 s m args below meth c H locs k n Q (F0 m 283 ls []) := by
  intro H locs k n ls hI hl
  obtain ⟨hx, hb, hml, hown, hts, hK, hX, hbl, hbA, hA, hL⟩ := C0
  obtain ⟨q8, q10, pl, tr, l8, l10, f2, f3, fn, tk, gv, e0, e1, e5, e9, e12, n8, n10, e4, c2, c3, c11, t6, t7, p8, p10, g, g1, g2, g3, h4, h5, h6, h7, h8, i7, i8, i9, i13, i15, i18, i19, i22, i23, a1, a2, a4, a5, a6, a10, a11, a12, a14, a16, a20, a21, a24, a25, a26, hP, hD, hS, hN, hV, hSe, hTr, hPi⟩ := hI
  obtain ⟨hk9, hn9⟩ := pileR_room hPi
  have hpl := hN.1
  have htr := hN.2.1
  obtain ⟨lb, hlb, rfl⟩ := sea_i8 hSe
  have he1 := sea_e1 hSe
  have heq := least_R hSe (xs (nI (5 * cn + 1)).toNatClampNeg)
  ·
    refine lv_aload_n hx hb dL_law_283 rfl (lv_at hl 1 rfl) ?_
    refine lv_aload_n hx hb dL_law_284 rfl (lv_at hl 0 rfl) ?_
    refine lv_iload_n hx hb dL_law_285 rfl (lv_at hl 3 rfl) ?_
    refine lv_iconst (v := nI 1) hx hb dL_law_286 (by decide) ?_
    refine wk_iadd hx hb dL_law_287 ?_
    refine va_sld hx hb hX hbl hbA hS (i := nI ((5 * cn) + 1)) (vp_in_nI (by omega) (by omega)) dL_law_288 ?_
    refine wk_Vi (As := [.int (xs (nI ((5 * cn) + 1)).toNatClampNeg)]) (rest := []) ⟨hx, hb, hml, hown, hts⟩ (c_X5_least l D cI cJ cZ cA x0 (b 0) x1 (ta 0) sa e0 e1 e5 e9 e12 n8 n10 e4 c2 c3 c11 t6 t7 p8 p10 q8 l8 q10 l10 (xs (nI ((5 * cn) + 1)).toNatClampNeg) he1) (cwV 1 hts gL_law_X5_least rfl rfl rfl (by decide +kernel) ⟨Nat.le_of_ble_eq_true rfl, Nat.le_of_ble_eq_true rfl⟩) hK hP [19, 20, 21, 22, 23, 24, 25, 26, 27, 28, 17] rfl 10 4 rfl rfl hS rfl hl.1 rfl (Nat.le_of_ble_eq_true rfl) dL_law_289 ⟨by show k ≤ 600000; omega, by show n ≤ 7302250; omega⟩ (fun H locs hP hS => ?_)
    refine lv_aload_n hx hb dL_law_292 rfl (lv_at hl 2 rfl) ?_
    refine lv_aload_n hx hb dL_law_293 rfl (lv_at hl 0 rfl) ?_
    refine lv_iload_n hx hb dL_law_294 rfl (lv_at hl 3 rfl) ?_
    refine lv_iconst (v := nI 1) hx hb dL_law_295 (by decide) ?_
    refine wk_iadd hx hb dL_law_296 ?_
    refine va_sld hx hb hX hbl hbA hS (i := nI ((5 * cn) + 1)) (vp_in_nI (by omega) (by omega)) dL_law_297 ?_
    refine wk_Vi (As := [.int (xs (nI ((5 * cn) + 1)).toNatClampNeg)]) (rest := [.int (if inC (xs (nI ((5 * cn) + 1)).toNatClampNeg) e1 = true then c2 ((xs (nI ((5 * cn) + 1)).toNatClampNeg)).toNatClampNeg else -1)]) ⟨hx, hb, hml, hown, hts⟩ (c_X6_least l D cI cJ cZ cA r (nI pl) (nI tr) i7 i9 i13 i15 (bI g) i18 i19 i22 i23 a1 a2 a4 a5 a6 a10 a11 a12 a14 a16 a20 a21 a24 a25 a26 lb (xs (nI ((5 * cn) + 1)).toNatClampNeg) hlb) (cwV 1 hts gL_law_X6_least rfl rfl rfl (by decide +kernel) ⟨Nat.le_of_ble_eq_true rfl, Nat.le_of_ble_eq_true rfl⟩) hK hP [35, 36, 37, 38, 39, 40, 41, 42, 43, 44, 45, 46, 47, 48, 49, 50] rfl 0 5 rfl rfl hS rfl hl.1 rfl (Nat.le_of_ble_eq_true rfl) dL_law_298 ⟨by show k ≤ 600000; omega, by show n ≤ 7302250; omega⟩ (fun H locs hP hS => ?_)
    refine lv_icmp_eq (tgt := 470) hx hb dL_law_301 (by decide) (fun _ => ?_) (fun h9 => absurd heq h9)
    exact kk H locs _ _ ls ⟨q8, q10, pl, tr, l8, l10, f2, f3, fn, tk, gv, e0, e1, e5, e9, e12, n8, n10, e4, c2, c3, c11, t6, t7, p8, p10, g, g1, g2, g3, h4, h5, h6, h7, h8, i7, (nI lb), i9, i13, i15, i18, i19, i22, i23, a1, a2, a4, a5, a6, a10, a11, a12, a14, a16, a20, a21, a24, a25, a26, hP, hD, hS, hN, (vecR_m hV (Nat.le_refl _) (by omega)), hSe, hTr, hPi⟩ hl

