theorem LI_S {D : va_G} {A : Nat → Prop} {cI cJ cZ cA : ClassId} {s : State} {b rt rg sa ta r : Nat → Nat} {x0 x1 cn : Nat} {H : Heap} {locs : List Loc} {k n : Nat} (h : LI D A cI cJ cZ cA s b rt rg sa ta r x0 x1 cn H locs k n) : va_S A s.heap H locs ∧ k ≤ 1000 ∧ n ≤ 200000 := by
  obtain ⟨q8, q10, pl, tr, l8, l10, f2, f3, fn, tk, gv, e0, e1, e5, e9, e12, n8, n10, e4, c2, c3, c11, t6, t7, p8, p10, g, g1, g2, g3, h4, h5, h6, h7, h8, i7, i8, i9, i13, i15, i18, i19, i22, i23, a1, a2, a4, a5, a6, a10, a11, a12, a14, a16, a20, a21, a24, a25, a26, hP, hD, hS, hN, hV, hSe, hTr, hPi⟩ := h
  exact ⟨hS, pileR_room hPi⟩
set_option maxHeartbeats 4000000 in
set_option maxRecDepth 100000 in
theorem law_loop {p : Program} {l : Launch} {e : Env} {s : State} {m : MethodId} {below : List Frame} {meth : Method} {c : Code} {Q : State → Prop} {D : va_G} {A : Nat → Prop} {cI cJ cZ cA : ClassId} {args : Array Value} {sb L : Nat} {xs : Nat → Int32} {b rt rg sa ta r : Nat → Nat} {x0 x1 cn : Nat} (C0 : LC p s m c args A D cI cJ cZ cA sb L xs) (hend : ∀ (H : Heap) (locs : List Loc) (k n : Nat) (ls : Array Slot), va_S A s.heap H locs → k ≤ 1000 → n ≤ 200000 → W p l e room_1 s m args below meth c H locs k n Q (F0 m 476 ls [])) : ∀ (d cn : Nat), L + 5 < d + 5 * cn → 5 * cn ≤ L → ∀ (H : Heap) (locs : List Loc) (k n : Nat) (ls : Array Slot), LI D A cI cJ cZ cA s b rt rg sa ta r x0 x1 cn H locs k n → lv_has ls 4 [(0, .ref sb), (1, .ref x0), (2, .ref (r 0)), (3, .int (nI (5 * cn)))] → W p l e room_1 s m args below meth c H locs k n Q (F0 m 18 ls []) := by
  intro d
  induction d with
  | zero => intro cn h1 h2; omega
  | succ d ih =>
    intro cn hd hcn H locs k n ls hI hl
    obtain ⟨hx, hb, hml, hown, hts, hK, hX, hbl, hbA, hA, hL⟩ := id C0
    obtain ⟨hS, hk, hn⟩ := LI_S hI
    refine lv_iload_n hx hb dL_law_18 rfl (lv_at hl 3 rfl) ?_
    refine lv_aload_n hx hb dL_law_19 rfl (lv_at hl 0 rfl) ?_
    refine va_slen hx hb hX hbl hbA hS dL_law_20 ?_
    refine lv_iconst (v := nI 5) hx hb dL_law_21 (by decide) ?_
    refine lv_isub hx hb dL_law_22 ?_
    refine lv_icmp_gt (tgt := 476) hx hb dL_law_23 (by decide) (fun _ => hend _ _ _ _ _ hS hk hn) (fun h => ?_)
    have hc : 5 * cn + 5 ≤ L := by
      apply Nat.le_of_not_lt
      intro g
      apply h
      show nI L - nI 5 < nI (5 * cn)
      rw [Int32.lt_iff_toInt_lt, pk_sub_toInt (by omega) (by omega), nI_toInt (by omega)]
      omega
    refine lv_aload_n hx hb dL_law_26 rfl (lv_at hl 0 rfl) ?_
    refine lv_iload_n hx hb dL_law_27 rfl (lv_at hl 3 rfl) ?_
    refine va_sld hx hb hX hbl hbA hS (i := nI (5 * cn)) (vp_in_nI (by omega) (by omega)) dL_law_28 ?_
    refine lv_bipush (v := nI 15) hx hb dL_law_29 (by decide) ?_
    refine lv_iand hx hb dL_law_31 ?_
    obtain ⟨j, hj, hj2⟩ := pk_andE (xs (nI (5 * cn)).toNatClampNeg) (m := nI 15) 4 (by decide)
    rw [hj2]
    have kk : ∀ (H : Heap) (locs : List Loc) (k n : Nat) (ls : Array Slot), LI D A cI cJ cZ cA s b rt rg sa ta r x0 x1 (cn + 1) H locs k n → lv_has ls 4 [(0, .ref sb), (1, .ref x0), (2, .ref (r 0)), (3, .int (nI (5 * cn)))] → W p l e room_1 s m args below meth c H locs k n Q (F0 m 470 ls []) := by
      intro H locs k n ls hI hl
      refine lv_iinc (v := nI (5 * (cn + 1))) (lv' := [(3, .int (nI (5 * (cn + 1)))), (0, .ref sb), (1, .ref x0), (2, .ref (r 0))]) hx hb dL_law_470 hl (k := 3) rfl (by exact nI_add _ _) (by decide) rfl (fun ls hl => ?_)
      refine lv_goto (tgt := 18) hx hb dL_law_473 (by decide) ?_
      exact ih (cn + 1) (by omega) (by omega) H locs k n ls hI (lv_sub hl [1, 2, 3, 0] rfl)
    rcases (show j = 0 ∨ j = 1 ∨ j = 2 ∨ j = 3 ∨ j = 4 ∨ j = 5 ∨ j = 6 ∨ j = 7 ∨ j = 8 ∨ j = 9 ∨ j = 10 ∨ j = 11 ∨ j = 12 ∨ j = 13 ∨ j = 14 ∨ j = 15 by omega) with rfl | rfl | rfl | rfl | rfl | rfl | rfl | rfl | rfl | rfl | rfl | rfl | rfl | rfl | rfl | rfl
    · exact lv_tableIn (x := nI 0) (off := 80) (tgt := 112) hx hb dL_law_32 (by decide) (by decide) (by decide) (by decide) (law_place C0 hc kk H locs k n ls hI hl)
    · exact lv_tableIn (x := nI 1) (off := 103) (tgt := 135) hx hb dL_law_32 (by decide) (by decide) (by decide) (by decide) (law_transition C0 hc kk H locs k n ls hI hl)
    · exact lv_tableIn (x := nI 2) (off := 116) (tgt := 148) hx hb dL_law_32 (by decide) (by decide) (by decide) (by decide) (law_arc C0 hc kk H locs k n ls hI hl)
    · exact lv_tableIn (x := nI 3) (off := 169) (tgt := 201) hx hb dL_law_32 (by decide) (by decide) (by decide) (by decide) (law_target C0 hc kk H locs k n ls hI hl)
    · exact lv_tableIn (x := nI 4) (off := 202) (tgt := 234) hx hb dL_law_32 (by decide) (by decide) (by decide) (by decide) (law_rounds C0 hc kk H locs k n ls hI hl)
    · exact lv_tableIn (x := nI 5) (off := 215) (tgt := 247) hx hb dL_law_32 (by decide) (by decide) (by decide) (by decide) (law_steps C0 hc kk H locs k n ls hI hl)
    · exact lv_tableIn (x := nI 6) (off := 228) (tgt := 260) hx hb dL_law_32 (by decide) (by decide) (by decide) (by decide) (law_witness C0 hc kk H locs k n ls hI hl)
    · exact lv_tableIn (x := nI 7) (off := 251) (tgt := 283) hx hb dL_law_32 (by decide) (by decide) (by decide) (by decide) (law_least C0 hc kk H locs k n ls hI hl)
    · exact lv_tableIn (x := nI 8) (off := 274) (tgt := 306) hx hb dL_law_32 (by decide) (by decide) (by decide) (by decide) (law_grow C0 hc kk H locs k n ls hI hl)
    · exact lv_tableIn (x := nI 9) (off := 287) (tgt := 319) hx hb dL_law_32 (by decide) (by decide) (by decide) (by decide) (law_most C0 hc kk H locs k n ls hI hl)
    · exact lv_tableIn (x := nI 10) (off := 310) (tgt := 342) hx hb dL_law_32 (by decide) (by decide) (by decide) (by decide) (law_live C0 hc kk H locs k n ls hI hl)
    · exact lv_tableIn (x := nI 11) (off := 333) (tgt := 365) hx hb dL_law_32 (by decide) (by decide) (by decide) (by decide) (law_limits C0 hc kk H locs k n ls hI hl)
    · exact lv_tableIn (x := nI 12) (off := 346) (tgt := 378) hx hb dL_law_32 (by decide) (by decide) (by decide) (by decide) (law_limit C0 hc kk H locs k n ls hI hl)
    · exact lv_tableIn (x := nI 13) (off := 379) (tgt := 411) hx hb dL_law_32 (by decide) (by decide) (by decide) (by decide) (law_covers C0 hc kk H locs k n ls hI hl)
    · exact lv_tableIn (x := nI 14) (off := 392) (tgt := 424) hx hb dL_law_32 (by decide) (by decide) (by decide) (by decide) (law_fire C0 hc kk H locs k n ls hI hl)
    · exact lv_tableIn (x := nI 15) (off := 415) (tgt := 447) hx hb dL_law_32 (by decide) (by decide) (by decide) (by decide) (law_tokens C0 hc kk H locs k n ls hI hl)
