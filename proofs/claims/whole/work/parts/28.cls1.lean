theorem any_none {X : List Int64} {P : Int64 → Bool} (h : ∀ (j : Nat) (y : Int64), X[j]? = some y → P y = false) : X.any P = false := by
  rw [List.any_eq_false]
  intro y hy
  obtain ⟨j, hj⟩ := List.mem_iff_getElem?.mp hy
  rw [h j y hj]
  exact Bool.false_ne_true
set_option maxHeartbeats 4000000 in
set_option maxRecDepth 100000 in
theorem c_X1_of (l : Launch) (D : va_G) (cI cJ cZ cA : ClassId) (ax nx : Nat) (f : Nat → Int32) (hnx : nx < 2 ^ 31) (hn5 : 5 ≤ nx) : Met l yX1_of wsX1_of ({ frames := 0, cells := 0, slots := 0, locals := 0 } : Room) (ro_P D (tysC cI cJ cZ cA) [.ref ax] [(ax, .inl (cI, nx, .inl f))]) (ro_QL (pkO f 5)) 0 0 (fun _ => False) := by
  refine met_roL (cc := cX1_of) (maxL := 4) (by decide) rfl (Nat.le_of_ble_eq_true rfl) ?_
  intro p e s m args below meth c Q hx hb hml hown hts hP hK hret ls hl
  obtain ⟨H, hH9⟩ : ∃ H : Heap, H = s.heap := ⟨_, rfl⟩
  have hP : va_P D vwCl [(ax, .inl (cI, nx, .inl f))] H := by rw [hH9]; exact hP
  have hS : va_S (fun _ => False) s.heap H [] := by rw [hH9]; exact va_S.rf
  rw [← hH9]
  have hown : s.vm.findClass RX1 = some m.cls := hown
  have hl : lv_has ls 4 [(0, .ref ax)] := hl
  refine lv_lconst (v := 0) hx hb dX1_of_0 (by decide) ?_
  refine lv_lstore_n (lv' := [(1, .long 0), (0, .ref ax)]) hx hb dX1_of_1 rfl hl (by decide) rfl (fun ls hl => ?_)
  refine lv_iconst (v := nI 4) hx hb dX1_of_2 (by decide) ?_
  refine lv_istore_n (lv' := [(3, .int (nI 4)), (1, .long 0), (0, .ref ax)]) hx hb dX1_of_3 rfl hl (by decide) rfl (fun ls hl => ?_)
  have lp4 : ∀ (n9 : Nat) (k : Nat) (pv : Int32), 5 - k < n9 → ((k = 5 ∧ pv = -1) ∨ (k < 5 ∧ pv = nI (4 - k))) → ∀ (H : Heap) (locs : List Loc) (ls : Array Slot), va_P D vwCl [(ax, .inl (cI, nx, .inl f))] H → va_S (fun _ => False) s.heap H locs → lv_has ls 4 [(0, .ref ax), (1, .long (pkO f k)), (3, .int pv)] → W p l e ({ frames := 0, cells := 0, slots := 0, locals := 0 } : Room) s m args below meth c H locs 0 0 Q (F0 m 4 ls []) := by
    intro n9
    induction n9 with
    | zero => intro k pv hm4; exact absurd hm4 (Nat.not_lt_zero _)
    | succ n9 ih4 =>
      intro k pv hm4 hk H locs ls hP hS hl
      refine lv_iload_n hx hb dX1_of_4 rfl (lv_at hl 2 rfl) ?_
      refine lv_if_lt (tgt := 24) hx hb dX1_of_5 (by decide) (fun c5 => ?_) (fun c5 => ?_)
      · skip
        refine lv_lload_n hx hb dX1_of_24 rfl (lv_at hl 1 rfl) ?_
        have hk5 := pk_end hk c5
        subst hk5
        exact hret _ _ _ _ _ rfl dX1_of_25 hS
      · skip
        obtain ⟨hk5, rfl⟩ := pk_in9 hk c5
        refine lv_lload_n hx hb dX1_of_8 rfl (lv_at hl 1 rfl) ?_
        refine lv_bipush (v := nI 10) hx hb dX1_of_9 (by decide) ?_
        refine lv_lshl (v := (pkO f k) <<< ((nI 10).toInt64 &&& 63)) hx hb dX1_of_11 rfl ?_
        refine lv_aload_n hx hb dX1_of_12 rfl (lv_at hl 0 rfl) ?_
        refine lv_iload_n hx hb dX1_of_13 rfl (lv_at hl 2 rfl) ?_
        refine wk_iald hx hb hK hP 0 0 rfl rfl (i := (4 - k)) (by omega) (by omega) dX1_of_14 ?_
        refine lv_i2l (v := (f (4 - k)).toInt64) hx hb dX1_of_15 rfl ?_
        refine lv_lor hx hb dX1_of_16 ?_
        refine lv_lstore_n (lv' := [(1, .long (((pkO f k) <<< ((nI 10).toInt64 &&& 63)) ||| ((f (4 - k)).toInt64))), (0, .ref ax), (3, .int (nI (4 - k)))]) hx hb dX1_of_17 rfl hl (by decide) rfl (fun ls hl => ?_)
        refine lv_iinc (v := ((nI (4 - k)) + Int32.ofInt (-1))) (lv' := [(3, .int ((nI (4 - k)) + Int32.ofInt (-1))), (1, .long (((pkO f k) <<< ((nI 10).toInt64 &&& 63)) ||| ((f (4 - k)).toInt64))), (0, .ref ax)]) hx hb dX1_of_18 hl (k := 2) rfl (by rfl) (by decide) rfl (fun ls hl => ?_)
        refine lv_goto (tgt := 4) hx hb dX1_of_21 (by decide) ?_
        exact ih4 (k + 1) ((nI (4 - k)) + Int32.ofInt (-1)) (by omega) (pk_dec hk5) _ _ _ hP hS (lv_sub hl [2, 1, 0] rfl)
  exact lp4 _ 0 (nI 4) (Nat.lt_succ_self _) (Or.inr ⟨by decide, rfl⟩) _ _ _ hP hS (lv_sub hl [2, 1, 0] rfl)

set_option maxHeartbeats 4000000 in
set_option maxRecDepth 100000 in
theorem c_X1_isAtLeast (l : Launch) (D : va_G) (cI cJ cZ cA : ClassId) (x y : Int64) : Met l yX1_isAtLeast wsX1_isAtLeast ({ frames := 0, cells := 0, slots := 0, locals := 0 } : Room) (ro_P D (tysC cI cJ cZ cA) [.long x, .long y] []) (ro_Q (bI (atlR x y))) 0 0 (fun _ => False) := by
  refine met_ro (cc := cX1_isAtLeast) (maxL := 4) (ty := .boolean) (by decide) rfl (Nat.le_of_ble_eq_true rfl) (bI_n _) ?_
  intro p e s m args below meth c Q hx hb hml hown hts hP hK hret ls hl
  obtain ⟨H, hH9⟩ : ∃ H : Heap, H = s.heap := ⟨_, rfl⟩
  have hP : va_P D vwCl [] H := by rw [hH9]; exact hP
  have hS : va_S (fun _ => False) s.heap H [] := by rw [hH9]; exact va_S.rf
  rw [← hH9]
  have hown : s.vm.findClass RX1 = some m.cls := hown
  have hl : lv_has ls 4 [(0, .long x), (2, .long y)] := hl
  refine lv_lload_n hx hb dX1_isAtLeast_0 rfl (lv_at hl 0 rfl) ?_
  refine wk_ldc2 (v := 563500246630912) hx hb hown (hts (.constantLong RX1 11 (563500246630912)) (by decide +kernel)) dX1_isAtLeast_1 ?_
  refine lv_lor hx hb dX1_isAtLeast_4 ?_
  refine lv_lload_n hx hb dX1_isAtLeast_5 rfl (lv_at hl 1 rfl) ?_
  refine lv_lsub hx hb dX1_isAtLeast_6 ?_
  refine wk_ldc2 (v := 563500246630912) hx hb hown (hts (.constantLong RX1 11 (563500246630912)) (by decide +kernel)) dX1_isAtLeast_7 ?_
  refine lv_land hx hb dX1_isAtLeast_10 ?_
  refine wk_ldc2 (v := 563500246630912) hx hb hown (hts (.constantLong RX1 11 (563500246630912)) (by decide +kernel)) dX1_isAtLeast_11 ?_
  refine W.lcmp hx hb dX1_isAtLeast_14 ?_
  refine lv_if_ne (tgt := 22) hx hb dX1_isAtLeast_15 (by decide) (fun c15 => ?_) (fun c15 => ?_)
  · skip
    refine lv_iconst (v := nI 0) hx hb dX1_isAtLeast_22 (by decide) ?_
    exact hret _ _ _ _ _ (bI_F (decide_eq_false (fun h => c15 ((lg_cmp_eq _ _).mpr h)))) dX1_isAtLeast_23 hS
  · skip
    refine lv_iconst (v := nI 1) hx hb dX1_isAtLeast_18 (by decide) ?_
    refine lv_goto (tgt := 23) hx hb dX1_isAtLeast_19 (by decide) ?_
    exact hret _ _ _ _ _ (bI_T (decide_eq_true ((lg_cmp_eq _ _).mp c15))) dX1_isAtLeast_23 hS

set_option maxHeartbeats 4000000 in
set_option maxRecDepth 100000 in
theorem c_X1_lessened (l : Launch) (D : va_G) (cI cJ cZ cA : ClassId) (x y : Int64) : Met l yX1_lessened wsX1_lessened ({ frames := 0, cells := 0, slots := 0, locals := 0 } : Room) (ro_P D (tysC cI cJ cZ cA) [.long x, .long y] []) (ro_QL (lssR x y)) 0 0 (fun _ => False) := by
  refine met_roL (cc := cX1_lessened) (maxL := 10) (by decide) rfl (Nat.le_of_ble_eq_true rfl) ?_
  intro p e s m args below meth c Q hx hb hml hown hts hP hK hret ls hl
  obtain ⟨H, hH9⟩ : ∃ H : Heap, H = s.heap := ⟨_, rfl⟩
  have hP : va_P D vwCl [] H := by rw [hH9]; exact hP
  have hS : va_S (fun _ => False) s.heap H [] := by rw [hH9]; exact va_S.rf
  rw [← hH9]
  have hown : s.vm.findClass RX1 = some m.cls := hown
  have hl : lv_has ls 10 [(0, .long x), (2, .long y)] := hl
  refine lv_lload_n hx hb dX1_lessened_0 rfl (lv_at hl 0 rfl) ?_
  refine wk_ldc2 (v := 563500246630912) hx hb hown (hts (.constantLong RX1 11 (563500246630912)) (by decide +kernel)) dX1_lessened_1 ?_
  refine lv_lor hx hb dX1_lessened_4 ?_
  refine lv_lload_n hx hb dX1_lessened_5 rfl (lv_at hl 1 rfl) ?_
  refine lv_lsub hx hb dX1_lessened_6 ?_
  refine lv_lstore (lv' := [(4, .long ((x ||| 563500246630912) - y)), (0, .long x), (2, .long y)]) hx hb dX1_lessened_7 hl (by decide) rfl (fun ls hl => ?_)
  refine lv_lload hx hb dX1_lessened_9 (lv_at hl 0 rfl) ?_
  refine wk_ldc2 (v := 563500246630912) hx hb hown (hts (.constantLong RX1 11 (563500246630912)) (by decide +kernel)) dX1_lessened_11 ?_
  refine lv_land hx hb dX1_lessened_14 ?_
  refine lv_lstore (lv' := [(6, .long (((x ||| 563500246630912) - y) &&& 563500246630912)), (4, .long ((x ||| 563500246630912) - y)), (0, .long x), (2, .long y)]) hx hb dX1_lessened_15 hl (by decide) rfl (fun ls hl => ?_)
  refine lv_lload hx hb dX1_lessened_17 (lv_at hl 0 rfl) ?_
  refine lv_lload hx hb dX1_lessened_19 (lv_at hl 0 rfl) ?_
  refine lv_bipush (v := nI 9) hx hb dX1_lessened_21 (by decide) ?_
  refine lv_lushr (v := ((((x ||| 563500246630912) - y) &&& 563500246630912).toUInt64 >>> ((nI 9).toInt64.toUInt64 &&& Int64.toUInt64 63)).toInt64) hx hb dX1_lessened_23 rfl ?_
  refine lv_lsub hx hb dX1_lessened_24 ?_
  refine lv_lstore (lv' := [(8, .long ((((x ||| 563500246630912) - y) &&& 563500246630912) - (((((x ||| 563500246630912) - y) &&& 563500246630912).toUInt64 >>> ((nI 9).toInt64.toUInt64 &&& Int64.toUInt64 63)).toInt64))), (6, .long (((x ||| 563500246630912) - y) &&& 563500246630912)), (4, .long ((x ||| 563500246630912) - y)), (0, .long x), (2, .long y)]) hx hb dX1_lessened_25 hl (by decide) rfl (fun ls hl => ?_)
  refine lv_lload hx hb dX1_lessened_27 (lv_at hl 2 rfl) ?_
  refine lv_lload hx hb dX1_lessened_29 (lv_at hl 0 rfl) ?_
  refine lv_land hx hb dX1_lessened_31 ?_
  exact hret _ _ _ _ _ rfl dX1_lessened_32 hS

set_option maxHeartbeats 4000000 in
set_option maxRecDepth 100000 in
theorem c_X2_hasOneBelow (l : Launch) (D : va_G) (cI cJ cZ cA : ClassId) (pa ra len : Nat) (f : Nat → Int64) (X : List Int64) (hX : listV f X) (hXl : X.length ≤ len) (hlen : len ≤ 100000) (x : Int64) (en : Nat) (hen : en < 2 ^ 31) : Met l yX2_hasOneBelow wsX2_hasOneBelow ({ frames := 1, cells := 0, slots := 0, locals := 23 } : Room) (ro_P D (tysC cI cJ cZ cA) [.ref pa, .long x, .int (nI en)] [(pa, .inr (1, [.ref ra, .int (nI X.length)])), (ra, .inl (cJ, len, .inr (.inl f)))]) (ro_Q (bI ((X.take en).any (fun y => atlR x y)))) 0 0 (fun _ => False) := by
  refine met_ro (cc := cX2_hasOneBelow) (maxL := 5) (ty := .boolean) (by decide) rfl (Nat.le_of_ble_eq_true rfl) (bI_n _) ?_
  intro p e s m args below meth c Q hx hb hml hown hts hP hK hret ls hl
  obtain ⟨H, hH9⟩ : ∃ H : Heap, H = s.heap := ⟨_, rfl⟩
  have hP : va_P D vwCl [(pa, .inr (1, [.ref ra, .int (nI X.length)])), (ra, .inl (cJ, len, .inr (.inl f)))] H := by rw [hH9]; exact hP
  have hS : va_S (fun _ => False) s.heap H [] := by rw [hH9]; exact va_S.rf
  rw [← hH9]
  have hown : s.vm.findClass RX2 = some m.cls := hown
  have hin2 : ∀ w ∈ wsX20, w ∈ wsX2_hasOneBelow := by decide +kernel
  have fl13 := hts (.fieldLink RX2 13 "CoverRounds$Pile" "size" "I") (by decide +kernel)
  have fl9 := hts (.fieldLink RX2 9 "CoverRounds$Pile" "rows" "[J") (by decide +kernel)
  have hl : lv_has ls 5 [(0, .ref pa), (1, .long x), (3, .int (nI en))] := hl
  refine lv_iconst (v := nI 0) hx hb dX2_hasOneBelow_0 (by decide) ?_
  refine lv_istore (lv' := [(4, .int (nI 0)), (0, .ref pa), (1, .long x), (3, .int (nI en))]) hx hb dX2_hasOneBelow_1 hl (by decide) rfl (fun ls hl => ?_)
  have lp3 : ∀ (n9 : Nat) (k : Nat), X.length - k < n9 → k ≤ X.length → k ≤ en → (∀ j y, j < k → X[j]? = some y → atlR x y = false) → ∀ (H : Heap) (locs : List Loc) (ls : Array Slot), va_P D vwCl [(pa, .inr (1, [.ref ra, .int (nI X.length)])), (ra, .inl (cJ, len, .inr (.inl f)))] H → va_S (fun _ => False) s.heap H locs → lv_has ls 5 [(0, .ref pa), (1, .long x), (3, .int (nI en)), (4, .int (nI k))] → W p l e ({ frames := 1, cells := 0, slots := 0, locals := 23 } : Room) s m args below meth c H locs 0 0 Q (F0 m 3 ls []) := by
    intro n9
    induction n9 with
    | zero => intro k hm3; exact absurd hm3 (Nat.not_lt_zero _)
    | succ n9 ih3 =>
      intro k hm3 hk hke hn H locs ls hP hS hl
      refine lv_iload hx hb dX2_hasOneBelow_3 (lv_at hl 3 rfl) ?_
      refine lv_iload_n hx hb dX2_hasOneBelow_5 rfl (lv_at hl 2 rfl) ?_
      refine wk_icmp_ge (tgt := 40) hx hb (by omega) (by omega) dX2_hasOneBelow_6 (by decide) (fun c6 => ?_) (fun c6 => ?_)
      · skip
        refine lv_iconst (v := nI 0) hx hb dX2_hasOneBelow_40 (by decide) ?_
        exact hret _ _ _ _ _ (bI_F (any_none (fun j y hj => by have hj1 := lt_of_some hj; rw [List.length_take] at hj1; rw [List.getElem?_take_of_lt (by omega)] at hj; exact hn j y (by omega) hj))) dX2_hasOneBelow_41 hS
      · skip
        refine lv_iload hx hb dX2_hasOneBelow_9 (lv_at hl 3 rfl) ?_
        refine lv_aload_n hx hb dX2_hasOneBelow_11 rfl (lv_at hl 0 rfl) ?_
        refine va_get (D := D) (ci := 1) (v := .int (nI X.length)) (C := RX2) (T := TX2) (N := 2) hx hb hts hin2 hown hK hP 0 rfl rfl 1 (by decide) fl13 (fun _ h9 => h9) rfl dX2_hasOneBelow_12 ?_
        refine wk_icmp_ge (tgt := 40) hx hb (by omega) (by omega) dX2_hasOneBelow_15 (by decide) (fun c15 => ?_) (fun c15 => ?_)
        · skip
          refine lv_iconst (v := nI 0) hx hb dX2_hasOneBelow_40 (by decide) ?_
          exact hret _ _ _ _ _ (bI_F (any_none (fun j y hj => by have hj1 := lt_of_some hj; rw [List.length_take] at hj1; rw [List.getElem?_take_of_lt (by omega)] at hj; exact hn j y (by omega) hj))) dX2_hasOneBelow_41 hS
        · skip
          obtain ⟨y, hy9⟩ : ∃ y, X[k]? = some y := ⟨_, List.getElem?_eq_getElem (by omega)⟩
          refine lv_lload_n hx hb dX2_hasOneBelow_18 rfl (lv_at hl 1 rfl) ?_
          refine lv_aload_n hx hb dX2_hasOneBelow_19 rfl (lv_at hl 0 rfl) ?_
          refine va_get (D := D) (ci := 1) (v := .ref ra) (C := RX2) (T := TX2) (N := 2) hx hb hts hin2 hown hK hP 0 rfl rfl 0 (by decide) fl9 (fun _ h9 => h9) rfl dX2_hasOneBelow_20 ?_
          refine lv_iload hx hb dX2_hasOneBelow_23 (lv_at hl 3 rfl) ?_
          refine wk_lald hx hb hK hP 1 1 rfl rfl (i := k) (by omega) (by omega) dX2_hasOneBelow_25 ?_
          rw [show (f k) = y from (hX k y hy9)]
          refine wk_Si (As := [.long x, .long y]) (rest := []) ⟨hx, hb, hml, hown, hts⟩ (c_X1_isAtLeast l D cI cJ cZ cA x y) (va_cwS 2 hts gX2_hasOneBelow_X1_isAtLeast rfl rfl rfl (by decide +kernel) ⟨Nat.le_of_ble_eq_true rfl, Nat.le_of_ble_eq_true rfl⟩) hK hP [] rfl hS rfl hl.1 rfl (Nat.le_of_ble_eq_true rfl) dX2_hasOneBelow_26 ⟨Nat.zero_le _, Nat.zero_le _⟩ (fun H locs hP hS => ?_)
          refine wk_if_eqb (tgt := 34) hx hb dX2_hasOneBelow_29 (by decide) (fun c29 => ?_) (fun c29 => ?_)
          · skip
            refine lv_iinc (v := (nI (k + 1))) (lv' := [(4, .int (nI (k + 1))), (0, .ref pa), (1, .long x), (3, .int (nI en))]) hx hb dX2_hasOneBelow_34 hl (k := 3) rfl (by exact nI_1 _) (by decide) rfl (fun ls hl => ?_)
            refine lv_goto (tgt := 3) hx hb dX2_hasOneBelow_37 (by decide) ?_
            exact ih3 (k + 1) (by omega) (by omega) (by omega) (fun j z hj hz => by rcases Nat.lt_or_eq_of_le (Nat.le_of_lt_succ hj) with h1 | rfl; exact hn j z h1 hz; rw [hy9] at hz; cases hz; exact c29) _ _ _ hP hS (lv_sub hl [1, 2, 3, 0] rfl)
          · skip
            refine lv_iconst (v := nI 1) hx hb dX2_hasOneBelow_32 (by decide) ?_
            exact hret _ _ _ _ _ (bI_T (List.any_eq_true.mpr ⟨y, List.mem_of_getElem? (i := k) (by rw [List.getElem?_take_of_lt (by omega)]; exact hy9), c29⟩)) dX2_hasOneBelow_33 hS
  exact lp3 _ 0 (Nat.lt_succ_self _) (by omega) (by omega) (fun j y h => absurd h (Nat.not_lt_zero j)) _ _ _ hP hS (lv_sub hl [1, 2, 3, 0] rfl)
