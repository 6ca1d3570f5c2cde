set_option maxHeartbeats 4000000 in
set_option maxRecDepth 100000 in
theorem c_X6_told (l : Launch) (D : va_G) (cI cJ cZ cA : ClassId) (x : Int32) : Met l yX6_told wsX6_told ({ frames := 0, cells := 0, slots := 0, locals := 0 } : Room) (ro_P D (tysC cI cJ cZ cA) [.int x] []) (ro_Q (tolM (nI 1000000) x)) 0 0 (fun _ => False) := by
  refine met_ro (cc := cX6_told) (maxL := 1) (ty := .int) (by decide) rfl (Nat.le_of_ble_eq_true rfl) rfl ?_
  intro p e s m args below meth c Q hx hb hml hown hts hP hK hret ls hl
  obtain ⟨H, hH9⟩ : ∃ H : Heap, H = s.heap := ⟨_, rfl⟩
  have hP : va_P D vwCl [] H := by rw [hH9]; exact hP
  have hS : va_S (fun _ => False) s.heap H [] := by rw [hH9]; exact va_S.rf
  rw [← hH9]
  have hown : s.vm.findClass RX6 = some m.cls := hown
  have hl : lv_has ls 1 [(0, .int x)] := hl
  refine lv_iload_n hx hb dX6_told_0 rfl (lv_at hl 0 rfl) ?_
  refine wk_ldc (v := nI 1000000) hx hb hown (hts (.constant RX6 123 (nI 1000000)) (by decide +kernel)) dX6_told_1 ?_
  refine lv_icmp_ne (tgt := 11) hx hb dX6_told_3 (by decide) (fun c3 => ?_) (fun c3 => ?_)
  · skip
    refine lv_iload_n hx hb dX6_told_11 rfl (lv_at hl 0 rfl) ?_
    exact hret _ _ _ _ _ (by unfold tolM; rw [if_neg c3]) dX6_told_12 hS
  · skip
    refine lv_bipush (v := -2) hx hb dX6_told_6 (by decide) ?_
    refine lv_goto (tgt := 12) hx hb dX6_told_8 (by decide) ?_
    exact hret _ _ _ _ _ (by unfold tolM; rw [if_pos c3]) dX6_told_12 hS

set_option maxHeartbeats 4000000 in
set_option maxRecDepth 100000 in
theorem c_X6_isGrownPlace (l : Launch) (D : va_G) (cI cJ cZ cA : ClassId) (r : Nat → Nat) (i0 i3 i7 i8 i9 i13 i15 i18 i19 i22 i23 : Int32) (a1 a2 a4 a5 a6 a10 a11 a12 a14 a16 a20 a21 a24 a25 a26 : Nat → Int32) (g : Bool) (x : Int32) : Met l yX6_isGrownPlace wsX6_isGrownPlace ({ frames := 0, cells := 0, slots := 0, locals := 0 } : Room) (ro_P D (tysC cI cJ cZ cA) [.ref (r 0), .int x] (mw cI r i0 i3 i7 i8 i9 i13 i15 (bI g) i18 i19 i22 i23 a1 a2 a4 a5 a6 a10 a11 a12 a14 a16 a20 a21 a24 a25 a26)) (ro_Q (bI (g && inB x i18))) 0 0 (fun _ => False) := by
  refine met_ro (cc := cX6_isGrownPlace) (maxL := 2) (ty := .boolean) (by decide) rfl (Nat.le_of_ble_eq_true rfl) (bI_n _) ?_
  intro p e s m args below meth c Q hx hb hml hown hts hP hK hret ls hl
  obtain ⟨H, hH9⟩ : ∃ H : Heap, H = s.heap := ⟨_, rfl⟩
  have hP : va_P D vwCl (mw cI r i0 i3 i7 i8 i9 i13 i15 (bI g) i18 i19 i22 i23 a1 a2 a4 a5 a6 a10 a11 a12 a14 a16 a20 a21 a24 a25 a26) H := by rw [hH9]; exact hP
  have hS : va_S (fun _ => False) s.heap H [] := by rw [hH9]; exact va_S.rf
  rw [← hH9]
  have hown : s.vm.findClass RX6 = some m.cls := hown
  have hin6 : ∀ w ∈ wsX60, w ∈ wsX6_isGrownPlace := by decide +kernel
  have fl124 := hts (.fieldLink RX6 124 "CoverRoundsModel" "isGrown" "Z") (by decide +kernel)
  have fl138 := hts (.fieldLink RX6 138 "CoverRoundsModel" "grownPlaces" "I") (by decide +kernel)
  have hl : lv_has ls 2 [(0, .ref (r 0)), (1, .int x)] := hl
  refine lv_aload_n hx hb dX6_isGrownPlace_0 rfl (lv_at hl 0 rfl) ?_
  refine va_get (D := D) (ci := 5) (v := .int (bI g)) (C := RX6) (T := TX6) (N := 27) hx hb hts hin6 hown hK hP 0 rfl rfl 17 (by decide) fl124 (fun _ h9 => h9) rfl dX6_isGrownPlace_1 ?_
  refine wk_if_eqb (tgt := 23) hx hb dX6_isGrownPlace_4 (by decide) (fun c4 => ?_) (fun c4 => ?_)
  · skip
    refine lv_iconst (v := nI 0) hx hb dX6_isGrownPlace_23 (by decide) ?_
    exact hret _ _ _ _ _ (bI_F (by simp [inB, c4])) dX6_isGrownPlace_24 hS
  · skip
    refine lv_iload_n hx hb dX6_isGrownPlace_7 rfl (lv_at hl 1 rfl) ?_
    refine lv_if_lt (tgt := 23) hx hb dX6_isGrownPlace_8 (by decide) (fun c8 => ?_) (fun c8 => ?_)
    · skip
      refine lv_iconst (v := nI 0) hx hb dX6_isGrownPlace_23 (by decide) ?_
      exact hret _ _ _ _ _ (bI_F (by simp [inB, c4, c8])) dX6_isGrownPlace_24 hS
    · skip
      refine lv_iload_n hx hb dX6_isGrownPlace_11 rfl (lv_at hl 1 rfl) ?_
      refine lv_aload_n hx hb dX6_isGrownPlace_12 rfl (lv_at hl 0 rfl) ?_
      refine va_get (D := D) (ci := 5) (v := .int i18) (C := RX6) (T := TX6) (N := 27) hx hb hts hin6 hown hK hP 0 rfl rfl 18 (by decide) fl138 (fun _ h9 => h9) rfl dX6_isGrownPlace_13 ?_
      refine lv_icmp_ge (tgt := 23) hx hb dX6_isGrownPlace_16 (by decide) (fun c16 => ?_) (fun c16 => ?_)
      · skip
        refine lv_iconst (v := nI 0) hx hb dX6_isGrownPlace_23 (by decide) ?_
        exact hret _ _ _ _ _ (bI_F (by simp [inB, c4, c8, c16])) dX6_isGrownPlace_24 hS
      · skip
        refine lv_iconst (v := nI 1) hx hb dX6_isGrownPlace_19 (by decide) ?_
        refine lv_goto (tgt := 24) hx hb dX6_isGrownPlace_20 (by decide) ?_
        exact hret _ _ _ _ _ (bI_T (by simp [inB, c4, c8, c16])) dX6_isGrownPlace_24 hS

set_option maxHeartbeats 4000000 in
set_option maxRecDepth 100000 in
theorem c_X6_most_f (l : Launch) (D : va_G) (cI cJ cZ cA : ClassId) (r : Nat → Nat) (i0 i3 i7 i8 i9 i13 i15 i18 i19 i22 i23 : Int32) (a1 a2 a4 a5 a6 a10 a11 a12 a14 a16 a20 a21 a24 a25 a26 : Nat → Int32) (x : Int32) : Met l yX6_most wsX6_most ({ frames := 1, cells := 0, slots := 0, locals := 21 } : Room) (ro_P D (tysC cI cJ cZ cA) [.ref (r 0), .int x] (mw cI r i0 i3 i7 i8 i9 i13 i15 (bI false) i18 i19 i22 i23 a1 a2 a4 a5 a6 a10 a11 a12 a14 a16 a20 a21 a24 a25 a26)) (ro_Q (-1)) 0 0 (fun _ => False) := by
  refine met_ro (cc := cX6_most) (maxL := 4) (ty := .int) (by decide) rfl (Nat.le_of_ble_eq_true rfl) rfl ?_
  intro p e s m args below meth c Q hx hb hml hown hts hP hK hret ls hl
  obtain ⟨H, hH9⟩ : ∃ H : Heap, H = s.heap := ⟨_, rfl⟩
  have hP : va_P D vwCl (mw cI r i0 i3 i7 i8 i9 i13 i15 (bI false) i18 i19 i22 i23 a1 a2 a4 a5 a6 a10 a11 a12 a14 a16 a20 a21 a24 a25 a26) H := by rw [hH9]; exact hP
  have hS : va_S (fun _ => False) s.heap H [] := by rw [hH9]; exact va_S.rf
  rw [← hH9]
  have hown : s.vm.findClass RX6 = some m.cls := hown
  have hin6 : ∀ w ∈ wsX60, w ∈ wsX6_most := by decide +kernel
  have fl128 := hts (.fieldLink RX6 128 "CoverRoundsModel" "nodes" "I") (by decide +kernel)
  have fl45 := hts (.fieldLink RX6 45 "CoverRoundsModel" "markings" "[I") (by decide +kernel)
  have hl : lv_has ls 4 [(0, .ref (r 0)), (1, .int x)] := hl
  refine lv_aload_n hx hb dX6_most_0 rfl (lv_at hl 0 rfl) ?_
  refine lv_iload_n hx hb dX6_most_1 rfl (lv_at hl 1 rfl) ?_
  refine wk_Vi (As := [.int x]) (rest := []) ⟨hx, hb, hml, hown, hts⟩ (c_X6_isGrownPlace l D cI cJ cZ cA r i0 i3 i7 i8 i9 i13 i15 i18 i19 i22 i23 a1 a2 a4 a5 a6 a10 a11 a12 a14 a16 a20 a21 a24 a25 a26 false x) (cwV 1 hts gX6_most_X6_isGrownPlace rfl rfl rfl (by decide +kernel) ⟨Nat.le_of_ble_eq_true rfl, Nat.le_of_ble_eq_true rfl⟩) hK hP [0, 1, 2, 3, 4, 5, 6, 7, 8, 9, 10, 11, 12, 13, 14, 15] rfl 0 5 rfl rfl hS rfl hl.1 rfl (Nat.le_of_ble_eq_true rfl) dX6_most_2 ⟨Nat.zero_le _, Nat.zero_le _⟩ (fun H locs hP hS => ?_)
  refine wk_if_neb (tgt := 10) hx hb dX6_most_5 (by decide) (fun c5 => ?_) (fun c5 => ?_)
  · skip
    simp at c5
  · skip
    refine lv_iconst (v := -1) hx hb dX6_most_8 (by decide) ?_
    exact hret _ _ _ _ _ rfl dX6_most_9 hS

set_option maxHeartbeats 4000000 in
set_option maxRecDepth 100000 in
theorem c_X6_most (l : Launch) (D : va_G) (cI cJ cZ cA : ClassId) (r : Nat → Nat) (i0 i3 i7 i8 i9 i13 i15 i22 i23 : Int32) (a1 a2 a4 a5 a6 a10 a11 a12 a14 a16 a20 a21 a24 a25 a26 : Nat → Int32) (gp : Nat) (hgp : gp ≤ 5) (Ms : List Rw) (hX : rowsV a20 0 Ms) (hXl : Ms.length ≤ 1000) (x0 : Int32) : Met l yX6_most wsX6_most ({ frames := 1, cells := 0, slots := 0, locals := 21 } : Room) (ro_P D (tysC cI cJ cZ cA) [.ref (r 0), .int x0] (mw cI r i0 i3 i7 i8 i9 i13 i15 (bI true) (nI gp) (nI Ms.length) i22 i23 a1 a2 a4 a5 a6 a10 a11 a12 a14 a16 a20 a21 a24 a25 a26)) (ro_Q (if inB x0 (nI gp) = true then tolM (nI 1000000) (mxM Ms x0.toNatClampNeg) else -1)) 0 0 (fun _ => False) := by
  refine met_ro (cc := cX6_most) (maxL := 4) (ty := .int) (by decide) rfl (Nat.le_of_ble_eq_true rfl) rfl ?_
  intro p e s m args below meth c Q hx hb hml hown hts hP hK hret ls hl
  obtain ⟨H, hH9⟩ : ∃ H : Heap, H = s.heap := ⟨_, rfl⟩
  have hP : va_P D vwCl (mw cI r i0 i3 i7 i8 i9 i13 i15 (bI true) (nI gp) (nI Ms.length) i22 i23 a1 a2 a4 a5 a6 a10 a11 a12 a14 a16 a20 a21 a24 a25 a26) H := by rw [hH9]; exact hP
  have hS : va_S (fun _ => False) s.heap H [] := by rw [hH9]; exact va_S.rf
  rw [← hH9]
  have hown : s.vm.findClass RX6 = some m.cls := hown
  have hin6 : ∀ w ∈ wsX60, w ∈ wsX6_most := by decide +kernel
  have fl128 := hts (.fieldLink RX6 128 "CoverRoundsModel" "nodes" "I") (by decide +kernel)
  have fl45 := hts (.fieldLink RX6 45 "CoverRoundsModel" "markings" "[I") (by decide +kernel)
  have hl : lv_has ls 4 [(0, .ref (r 0)), (1, .int x0)] := hl
  refine lv_aload_n hx hb dX6_most_0 rfl (lv_at hl 0 rfl) ?_
  refine lv_iload_n hx hb dX6_most_1 rfl (lv_at hl 1 rfl) ?_
  refine wk_Vi (As := [.int x0]) (rest := []) ⟨hx, hb, hml, hown, hts⟩ (c_X6_isGrownPlace l D cI cJ cZ cA r i0 i3 i7 i8 i9 i13 i15 (nI gp) (nI Ms.length) i22 i23 a1 a2 a4 a5 a6 a10 a11 a12 a14 a16 a20 a21 a24 a25 a26 true x0) (cwV 1 hts gX6_most_X6_isGrownPlace rfl rfl rfl (by decide +kernel) ⟨Nat.le_of_ble_eq_true rfl, Nat.le_of_ble_eq_true rfl⟩) hK hP [0, 1, 2, 3, 4, 5, 6, 7, 8, 9, 10, 11, 12, 13, 14, 15] rfl 0 5 rfl rfl hS rfl hl.1 rfl (Nat.le_of_ble_eq_true rfl) dX6_most_2 ⟨Nat.zero_le _, Nat.zero_le _⟩ (fun H locs hP hS => ?_)
  refine wk_if_neb (tgt := 10) hx hb dX6_most_5 (by decide) (fun c5 => ?_) (fun c5 => ?_)
  · skip
    rw [Bool.true_and] at c5
    obtain ⟨j, hj, rfl⟩ := inB_nI (by omega) c5
    refine lv_iconst (v := nI 0) hx hb dX6_most_10 (by decide) ?_
    refine lv_istore_n (lv' := [(2, .int (nI 0)), (0, .ref (r 0)), (1, .int (nI j))]) hx hb dX6_most_11 rfl hl (by decide) rfl (fun ls hl => ?_)
    refine lv_iconst (v := nI 0) hx hb dX6_most_12 (by decide) ?_
    refine lv_istore_n (lv' := [(3, .int (nI 0)), (2, .int (nI 0)), (0, .ref (r 0)), (1, .int (nI j))]) hx hb dX6_most_13 rfl hl (by decide) rfl (fun ls hl => ?_)
    have lp14 : ∀ (n9 : Nat) (k : Nat) (v : Int32), Ms.length - k < n9 → k ≤ Ms.length → v = mxM (Ms.take k) j → ∀ (H : Heap) (locs : List Loc) (ls : Array Slot), va_P D vwCl (mw cI r i0 i3 i7 i8 i9 i13 i15 (bI true) (nI gp) (nI Ms.length) i22 i23 a1 a2 a4 a5 a6 a10 a11 a12 a14 a16 a20 a21 a24 a25 a26) H → va_S (fun _ => False) s.heap H locs → lv_has ls 4 [(0, .ref (r 0)), (1, .int (nI j)), (2, .int v), (3, .int (nI k))] → W p l e ({ frames := 1, cells := 0, slots := 0, locals := 21 } : Room) s m args below meth c H locs 0 0 Q (F0 m 14 ls []) := by
      intro n9
      induction n9 with
      | zero => intro k v hm14; exact absurd hm14 (Nat.not_lt_zero _)
      | succ n9 ih14 =>
        intro k v hm14 hk hv H locs ls hP hS hl
        refine lv_iload_n hx hb dX6_most_14 rfl (lv_at hl 3 rfl) ?_
        refine lv_aload_n hx hb dX6_most_15 rfl (lv_at hl 0 rfl) ?_
        refine va_get (D := D) (ci := 5) (v := .int (nI Ms.length)) (C := RX6) (T := TX6) (N := 27) hx hb hts hin6 hown hK hP 0 rfl rfl 19 (by decide) fl128 (fun _ h9 => h9) rfl dX6_most_16 ?_
        refine wk_icmp_ge (tgt := 57) hx hb (by omega) (by omega) dX6_most_19 (by decide) (fun c19 => ?_) (fun c19 => ?_)
        · skip
          refine lv_iload_n hx hb dX6_most_57 rfl (lv_at hl 2 rfl) ?_
          refine wk_Si (As := [.int v]) (rest := []) ⟨hx, hb, hml, hown, hts⟩ (c_X6_told l D cI cJ cZ cA v) (va_cwS 1 hts gX6_most_X6_told rfl rfl rfl (by decide +kernel) ⟨Nat.le_of_ble_eq_true rfl, Nat.le_of_ble_eq_true rfl⟩) hK hP [] rfl hS rfl hl.1 rfl (Nat.le_of_ble_eq_true rfl) dX6_most_58 ⟨Nat.zero_le _, Nat.zero_le _⟩ (fun H locs hP hS => ?_)
          have hkM : k = Ms.length := by omega
          rw [hkM, List.take_length] at hv
          exact hret _ _ _ _ _ (by rw [if_pos c5, nI_clamp (by omega), hv]) dX6_most_61 hS
        · skip
          obtain ⟨x, hx9, hr9⟩ := rowsV_at0 hX (show k < Ms.length by omega)
          refine lv_aload_n hx hb dX6_most_22 rfl (lv_at hl 0 rfl) ?_
          refine va_get (D := D) (ci := 5) (v := .ref (r 20)) (C := RX6) (T := TX6) (N := 27) hx hb hts hin6 hown hK hP 0 rfl rfl 20 (by decide) fl45 (fun _ h9 => h9) rfl dX6_most_23 ?_
          refine lv_iconst (v := nI 5) hx hb dX6_most_26 (by decide) ?_
          refine lv_iload_n hx hb dX6_most_27 rfl (lv_at hl 3 rfl) ?_
          refine wk_imul hx hb dX6_most_28 ?_
          refine lv_iload_n hx hb dX6_most_29 rfl (lv_at hl 1 rfl) ?_
          refine wk_iadd hx hb dX6_most_30 ?_
          refine wk_iald hx hb hK hP 11 0 rfl rfl (i := (5 * k) + j) (by omega) (by omega) dX6_most_31 ?_
          rw [show (a20 ((5 * k) + j)) = (x j) from (hr9 j (by omega))]
          refine lv_iload_n hx hb dX6_most_32 rfl (lv_at hl 2 rfl) ?_
          refine lv_icmp_le (tgt := 49) hx hb dX6_most_33 (by decide) (fun c33 => ?_) (fun c33 => ?_)
          · skip
            refine lv_iload_n hx hb dX6_most_49 rfl (lv_at hl 2 rfl) ?_
            refine lv_istore_n (lv' := [(2, .int v), (0, .ref (r 0)), (1, .int (nI j)), (3, .int (nI k))]) hx hb dX6_most_50 rfl hl (by decide) rfl (fun ls hl => ?_)
            refine lv_iinc (v := (nI (k + 1))) (lv' := [(3, .int (nI (k + 1))), (2, .int v), (0, .ref (r 0)), (1, .int (nI j))]) hx hb dX6_most_51 hl (k := 3) rfl (by exact nI_1 _) (by decide) rfl (fun ls hl => ?_)
            refine lv_goto (tgt := 14) hx hb dX6_most_54 (by decide) ?_
            exact ih14 (k + 1) v (by omega) (by omega) (by rw [mxM_s hx9, ← hv, if_pos c33]) _ _ _ hP hS (lv_sub hl [2, 3, 1, 0] rfl)
          · skip
            refine lv_aload_n hx hb dX6_most_36 rfl (lv_at hl 0 rfl) ?_
            refine va_get (D := D) (ci := 5) (v := .ref (r 20)) (C := RX6) (T := TX6) (N := 27) hx hb hts hin6 hown hK hP 0 rfl rfl 20 (by decide) fl45 (fun _ h9 => h9) rfl dX6_most_37 ?_
            refine lv_iconst (v := nI 5) hx hb dX6_most_40 (by decide) ?_
            refine lv_iload_n hx hb dX6_most_41 rfl (lv_at hl 3 rfl) ?_
            refine wk_imul hx hb dX6_most_42 ?_
            refine lv_iload_n hx hb dX6_most_43 rfl (lv_at hl 1 rfl) ?_
            refine wk_iadd hx hb dX6_most_44 ?_
            refine wk_iald hx hb hK hP 11 0 rfl rfl (i := (5 * k) + j) (by omega) (by omega) dX6_most_45 ?_
            rw [show (a20 ((5 * k) + j)) = (x j) from (hr9 j (by omega))]
            refine lv_goto (tgt := 50) hx hb dX6_most_46 (by decide) ?_
            refine lv_istore_n (lv' := [(2, .int (x j)), (0, .ref (r 0)), (1, .int (nI j)), (3, .int (nI k))]) hx hb dX6_most_50 rfl hl (by decide) rfl (fun ls hl => ?_)
            refine lv_iinc (v := (nI (k + 1))) (lv' := [(3, .int (nI (k + 1))), (2, .int (x j)), (0, .ref (r 0)), (1, .int (nI j))]) hx hb dX6_most_51 hl (k := 3) rfl (by exact nI_1 _) (by decide) rfl (fun ls hl => ?_)
            refine lv_goto (tgt := 14) hx hb dX6_most_54 (by decide) ?_
            exact ih14 (k + 1) (x j) (by omega) (by omega) (by rw [mxM_s hx9, ← hv, if_neg c33]) _ _ _ hP hS (lv_sub hl [2, 3, 1, 0] rfl)
    exact lp14 _ 0 (nI 0) (Nat.lt_succ_self _) (by omega) rfl _ _ _ hP hS (lv_sub hl [2, 3, 1, 0] rfl)
  · skip
    refine lv_iconst (v := -1) hx hb dX6_most_8 (by decide) ?_
    rw [Bool.true_and] at c5
    exact hret _ _ _ _ _ (by rw [if_neg (by rw [c5]; exact Bool.false_ne_true)]) dX6_most_9 hS

set_option maxHeartbeats 4000000 in
set_option maxRecDepth 100000 in
theorem c_X6_live (l : Launch) (D : va_G) (cI cJ cZ cA : ClassId) (r : Nat → Nat) (i0 i3 i7 i8 i9 i13 i15 i18 i19 i22 i23 : Int32) (a1 a2 a4 a5 a6 a10 a11 a12 a14 a16 a20 a21 a24 a25 a26 : Nat → Int32) (g : Bool) (x : Int32) : Met l yX6_live wsX6_live ({ frames := 0, cells := 0, slots := 0, locals := 0 } : Room) (ro_P D (tysC cI cJ cZ cA) [.ref (r 0), .int x] (mw cI r i0 i3 i7 i8 i9 i13 i15 (bI g) i18 i19 i22 i23 a1 a2 a4 a5 a6 a10 a11 a12 a14 a16 a20 a21 a24 a25 a26)) (ro_Q (bI (g && liveM i22 x))) 0 0 (fun _ => False) := by
  refine met_ro (cc := cX6_live) (maxL := 2) (ty := .boolean) (by decide) rfl (Nat.le_of_ble_eq_true rfl) (bI_n _) ?_
  intro p e s m args below meth c Q hx hb hml hown hts hP hK hret ls hl
  obtain ⟨H, hH9⟩ : ∃ H : Heap, H = s.heap := ⟨_, rfl⟩
  have hP : va_P D vwCl (mw cI r i0 i3 i7 i8 i9 i13 i15 (bI g) i18 i19 i22 i23 a1 a2 a4 a5 a6 a10 a11 a12 a14 a16 a20 a21 a24 a25 a26) H := by rw [hH9]; exact hP
  have hS : va_S (fun _ => False) s.heap H [] := by rw [hH9]; exact va_S.rf
  rw [← hH9]
  have hown : s.vm.findClass RX6 = some m.cls := hown
  have hin6 : ∀ w ∈ wsX60, w ∈ wsX6_live := by decide +kernel
  have fl124 := hts (.fieldLink RX6 124 "CoverRoundsModel" "isGrown" "Z") (by decide +kernel)
  have fl144 := hts (.fieldLink RX6 144 "CoverRoundsModel" "lives" "I") (by decide +kernel)
  have hl : lv_has ls 2 [(0, .ref (r 0)), (1, .int x)] := hl
  refine lv_aload_n hx hb dX6_live_0 rfl (lv_at hl 0 rfl) ?_
  refine va_get (D := D) (ci := 5) (v := .int (bI g)) (C := RX6) (T := TX6) (N := 27) hx hb hts hin6 hown hK hP 0 rfl rfl 17 (by decide) fl124 (fun _ h9 => h9) rfl dX6_live_1 ?_
  refine wk_if_eqb (tgt := 33) hx hb dX6_live_4 (by decide) (fun c4 => ?_) (fun c4 => ?_)
  · skip
    refine lv_iconst (v := nI 0) hx hb dX6_live_33 (by decide) ?_
    exact hret _ _ _ _ _ (bI_F (by simp [liveM, inB, c4])) dX6_live_34 hS
  · skip
    refine lv_iload_n hx hb dX6_live_7 rfl (lv_at hl 1 rfl) ?_
    refine lv_if_lt (tgt := 33) hx hb dX6_live_8 (by decide) (fun c8 => ?_) (fun c8 => ?_)
    · skip
      refine lv_iconst (v := nI 0) hx hb dX6_live_33 (by decide) ?_
      exact hret _ _ _ _ _ (bI_F (by simp [liveM, inB, c4, c8])) dX6_live_34 hS
    · skip
      refine lv_iload_n hx hb dX6_live_11 rfl (lv_at hl 1 rfl) ?_
      refine lv_bipush (v := nI 6) hx hb dX6_live_12 (by decide) ?_
      refine lv_icmp_ge (tgt := 33) hx hb dX6_live_14 (by decide) (fun c14 => ?_) (fun c14 => ?_)
      · skip
        refine lv_iconst (v := nI 0) hx hb dX6_live_33 (by decide) ?_
        exact hret _ _ _ _ _ (bI_F (by simp [liveM, inB, c4, c8, c14])) dX6_live_34 hS
      · skip
        refine lv_aload_n hx hb dX6_live_17 rfl (lv_at hl 0 rfl) ?_
        refine va_get (D := D) (ci := 5) (v := .int i22) (C := RX6) (T := TX6) (N := 27) hx hb hts hin6 hown hK hP 0 rfl rfl 22 (by decide) fl144 (fun _ h9 => h9) rfl dX6_live_18 ?_
        refine lv_iload_n hx hb dX6_live_21 rfl (lv_at hl 1 rfl) ?_
        refine lv_ishr hx hb dX6_live_22 ?_
        refine lv_iconst (v := nI 1) hx hb dX6_live_23 (by decide) ?_
        refine lv_iand hx hb dX6_live_24 ?_
        refine lv_iconst (v := nI 1) hx hb dX6_live_25 (by decide) ?_
        refine lv_icmp_ne (tgt := 33) hx hb dX6_live_26 (by decide) (fun c26 => ?_) (fun c26 => ?_)
        · skip
          refine lv_iconst (v := nI 0) hx hb dX6_live_33 (by decide) ?_
          exact hret _ _ _ _ _ (bI_F (by simp [liveM, inB, c4, c8, c14, c26])) dX6_live_34 hS
        · skip
          refine lv_iconst (v := nI 1) hx hb dX6_live_29 (by decide) ?_
          refine lv_goto (tgt := 34) hx hb dX6_live_30 (by decide) ?_
          exact hret _ _ _ _ _ (bI_T (by simp [liveM, inB, c4, c8, c14, c26])) dX6_live_34 hS

set_option maxHeartbeats 4000000 in
set_option maxRecDepth 100000 in
theorem c_X6_limits (l : Launch) (D : va_G) (cI cJ cZ cA : ClassId) (r : Nat → Nat) (i0 i3 i7 i8 i9 i13 i15 i18 i19 i22 i23 : Int32) (a1 a2 a4 a5 a6 a10 a11 a12 a14 a16 a20 a21 a24 a25 a26 : Nat → Int32) (g : Bool) : Met l yX6_limits wsX6_limits ({ frames := 0, cells := 0, slots := 0, locals := 0 } : Room) (ro_P D (tysC cI cJ cZ cA) [.ref (r 0)] (mw cI r i0 i3 i7 i8 i9 i13 i15 (bI g) i18 i19 i22 i23 a1 a2 a4 a5 a6 a10 a11 a12 a14 a16 a20 a21 a24 a25 a26)) (ro_Q (if g = true then i23 else -1)) 0 0 (fun _ => False) := by
  refine met_ro (cc := cX6_limits) (maxL := 1) (ty := .int) (by decide) rfl (Nat.le_of_ble_eq_true rfl) rfl ?_
  intro p e s m args below meth c Q hx hb hml hown hts hP hK hret ls hl
  obtain ⟨H, hH9⟩ : ∃ H : Heap, H = s.heap := ⟨_, rfl⟩
  have hP : va_P D vwCl (mw cI r i0 i3 i7 i8 i9 i13 i15 (bI g) i18 i19 i22 i23 a1 a2 a4 a5 a6 a10 a11 a12 a14 a16 a20 a21 a24 a25 a26) H := by rw [hH9]; exact hP
  have hS : va_S (fun _ => False) s.heap H [] := by rw [hH9]; exact va_S.rf
  rw [← hH9]
  have hown : s.vm.findClass RX6 = some m.cls := hown
  have hin6 : ∀ w ∈ wsX60, w ∈ wsX6_limits := by decide +kernel
  have fl124 := hts (.fieldLink RX6 124 "CoverRoundsModel" "isGrown" "Z") (by decide +kernel)
  have fl147 := hts (.fieldLink RX6 147 "CoverRoundsModel" "limitCount" "I") (by decide +kernel)
  have hl : lv_has ls 1 [(0, .ref (r 0))] := hl
  refine lv_aload_n hx hb dX6_limits_0 rfl (lv_at hl 0 rfl) ?_
  refine va_get (D := D) (ci := 5) (v := .int (bI g)) (C := RX6) (T := TX6) (N := 27) hx hb hts hin6 hown hK hP 0 rfl rfl 17 (by decide) fl124 (fun _ h9 => h9) rfl dX6_limits_1 ?_
  refine wk_if_eqb (tgt := 14) hx hb dX6_limits_4 (by decide) (fun c4 => ?_) (fun c4 => ?_)
  · skip
    refine lv_iconst (v := -1) hx hb dX6_limits_14 (by decide) ?_
    exact hret _ _ _ _ _ (by rw [if_neg (by rw [c4]; exact Bool.false_ne_true)]) dX6_limits_15 hS
  · skip
    refine lv_aload_n hx hb dX6_limits_7 rfl (lv_at hl 0 rfl) ?_
    refine va_get (D := D) (ci := 5) (v := .int i23) (C := RX6) (T := TX6) (N := 27) hx hb hts hin6 hown hK hP 0 rfl rfl 23 (by decide) fl147 (fun _ h9 => h9) rfl dX6_limits_8 ?_
    refine lv_goto (tgt := 15) hx hb dX6_limits_11 (by decide) ?_
    exact hret _ _ _ _ _ (by rw [if_pos c4]) dX6_limits_15 hS

set_option maxHeartbeats 4000000 in
set_option maxRecDepth 100000 in
theorem c_X6_limit_f (l : Launch) (D : va_G) (cI cJ cZ cA : ClassId) (r : Nat → Nat) (i0 i3 i7 i8 i9 i13 i15 i18 i19 i22 i23 : Int32) (a1 a2 a4 a5 a6 a10 a11 a12 a14 a16 a20 a21 a24 a25 a26 : Nat → Int32) (x0 x1 : Int32) : Met l yX6_limit wsX6_limit ({ frames := 1, cells := 0, slots := 0, locals := 21 } : Room) (ro_P D (tysC cI cJ cZ cA) [.ref (r 0), .int x0, .int x1] (mw cI r i0 i3 i7 i8 i9 i13 i15 (bI false) i18 i19 i22 i23 a1 a2 a4 a5 a6 a10 a11 a12 a14 a16 a20 a21 a24 a25 a26)) (ro_Q (-1)) 0 0 (fun _ => False) := by
  refine met_ro (cc := cX6_limit) (maxL := 3) (ty := .int) (by decide) rfl (Nat.le_of_ble_eq_true rfl) rfl ?_
  intro p e s m args below meth c Q hx hb hml hown hts hP hK hret ls hl
  obtain ⟨H, hH9⟩ : ∃ H : Heap, H = s.heap := ⟨_, rfl⟩
  have hP : va_P D vwCl (mw cI r i0 i3 i7 i8 i9 i13 i15 (bI false) i18 i19 i22 i23 a1 a2 a4 a5 a6 a10 a11 a12 a14 a16 a20 a21 a24 a25 a26) H := by rw [hH9]; exact hP
  have hS : va_S (fun _ => False) s.heap H [] := by rw [hH9]; exact va_S.rf
  rw [← hH9]
  have hown : s.vm.findClass RX6 = some m.cls := hown
  have hin6 : ∀ w ∈ wsX60, w ∈ wsX6_limit := by decide +kernel
  have fl147 := hts (.fieldLink RX6 147 "CoverRoundsModel" "limitCount" "I") (by decide +kernel)
  have fl45 := hts (.fieldLink RX6 45 "CoverRoundsModel" "markings" "[I") (by decide +kernel)
  have fl51 := hts (.fieldLink RX6 51 "CoverRoundsModel" "limitNodes" "[I") (by decide +kernel)
  have hl : lv_has ls 3 [(0, .ref (r 0)), (1, .int x0), (2, .int x1)] := hl
  refine lv_aload_n hx hb dX6_limit_0 rfl (lv_at hl 0 rfl) ?_
  refine lv_iload_n hx hb dX6_limit_1 rfl (lv_at hl 2 rfl) ?_
  refine wk_Vi (As := [.int x1]) (rest := []) ⟨hx, hb, hml, hown, hts⟩ (c_X6_isGrownPlace l D cI cJ cZ cA r i0 i3 i7 i8 i9 i13 i15 i18 i19 i22 i23 a1 a2 a4 a5 a6 a10 a11 a12 a14 a16 a20 a21 a24 a25 a26 false x1) (cwV 1 hts gX6_limit_X6_isGrownPlace rfl rfl rfl (by decide +kernel) ⟨Nat.le_of_ble_eq_true rfl, Nat.le_of_ble_eq_true rfl⟩) hK hP [0, 1, 2, 3, 4, 5, 6, 7, 8, 9, 10, 11, 12, 13, 14, 15] rfl 0 5 rfl rfl hS rfl hl.1 rfl (Nat.le_of_ble_eq_true rfl) dX6_limit_2 ⟨Nat.zero_le _, Nat.zero_le _⟩ (fun H locs hP hS => ?_)
  refine wk_if_eqb (tgt := 41) hx hb dX6_limit_5 (by decide) (fun c5 => ?_) (fun c5 => ?_)
  · skip
    refine lv_iconst (v := -1) hx hb dX6_limit_41 (by decide) ?_
    exact hret _ _ _ _ _ rfl dX6_limit_42 hS
  · skip
    simp at c5

set_option maxHeartbeats 4000000 in
set_option maxRecDepth 100000 in
theorem c_X6_limit (l : Launch) (D : va_G) (cI cJ cZ cA : ClassId) (r : Nat → Nat) (i0 i3 i7 i8 i9 i13 i15 i19 i22 : Int32) (a1 a2 a4 a5 a6 a10 a11 a12 a14 a16 a20 a21 a24 a25 a26 : Nat → Int32) (gp : Nat) (hgp : gp ≤ 5) (Ms : List Rw) (hX : rowsV a20 0 Ms) (hXl : Ms.length ≤ 1000) (C : List Nat) (hC : idxV a24 C) (hCl : C.length ≤ 1000) (hCM : ∀ v, v ∈ C → v < Ms.length) (x0 x1 : Int32) : Met l yX6_limit wsX6_limit ({ frames := 1, cells := 0, slots := 0, locals := 21 } : Room) (ro_P D (tysC cI cJ cZ cA) [.ref (r 0), .int x0, .int x1] (mw cI r i0 i3 i7 i8 i9 i13 i15 (bI true) (nI gp) i19 i22 (nI C.length) a1 a2 a4 a5 a6 a10 a11 a12 a14 a16 a20 a21 a24 a25 a26)) (ro_Q (if inB x1 (nI gp) = true ∧ inB x0 (nI C.length) = true then tolM (nI 1000000) ((Ms.getD (C.getD x0.toNatClampNeg 0) zR) x1.toNatClampNeg) else -1)) 0 0 (fun _ => False) := by
  refine met_ro (cc := cX6_limit) (maxL := 3) (ty := .int) (by decide) rfl (Nat.le_of_ble_eq_true rfl) rfl ?_
  intro p e s m args below meth c Q hx hb hml hown hts hP hK hret ls hl
  obtain ⟨H, hH9⟩ : ∃ H : Heap, H = s.heap := ⟨_, rfl⟩
  have hP : va_P D vwCl (mw cI r i0 i3 i7 i8 i9 i13 i15 (bI true) (nI gp) i19 i22 (nI C.length) a1 a2 a4 a5 a6 a10 a11 a12 a14 a16 a20 a21 a24 a25 a26) H := by rw [hH9]; exact hP
  have hS : va_S (fun _ => False) s.heap H [] := by rw [hH9]; exact va_S.rf
  rw [← hH9]
  have hown : s.vm.findClass RX6 = some m.cls := hown
  have hin6 : ∀ w ∈ wsX60, w ∈ wsX6_limit := by decide +kernel
  have fl147 := hts (.fieldLink RX6 147 "CoverRoundsModel" "limitCount" "I") (by decide +kernel)
  have fl45 := hts (.fieldLink RX6 45 "CoverRoundsModel" "markings" "[I") (by decide +kernel)
  have fl51 := hts (.fieldLink RX6 51 "CoverRoundsModel" "limitNodes" "[I") (by decide +kernel)
  have hl : lv_has ls 3 [(0, .ref (r 0)), (1, .int x0), (2, .int x1)] := hl
  refine lv_aload_n hx hb dX6_limit_0 rfl (lv_at hl 0 rfl) ?_
  refine lv_iload_n hx hb dX6_limit_1 rfl (lv_at hl 2 rfl) ?_
  refine wk_Vi (As := [.int x1]) (rest := []) ⟨hx, hb, hml, hown, hts⟩ (c_X6_isGrownPlace l D cI cJ cZ cA r i0 i3 i7 i8 i9 i13 i15 (nI gp) i19 i22 (nI C.length) a1 a2 a4 a5 a6 a10 a11 a12 a14 a16 a20 a21 a24 a25 a26 true x1) (cwV 1 hts gX6_limit_X6_isGrownPlace rfl rfl rfl (by decide +kernel) ⟨Nat.le_of_ble_eq_true rfl, Nat.le_of_ble_eq_true rfl⟩) hK hP [0, 1, 2, 3, 4, 5, 6, 7, 8, 9, 10, 11, 12, 13, 14, 15] rfl 0 5 rfl rfl hS rfl hl.1 rfl (Nat.le_of_ble_eq_true rfl) dX6_limit_2 ⟨Nat.zero_le _, Nat.zero_le _⟩ (fun H locs hP hS => ?_)
  refine wk_if_eqb (tgt := 41) hx hb dX6_limit_5 (by decide) (fun c5 => ?_) (fun c5 => ?_)
  · skip
    refine lv_iconst (v := -1) hx hb dX6_limit_41 (by decide) ?_
    exact hret _ _ _ _ _ (by rw [if_neg (fun h => by rw [Bool.true_and] at c5; rw [c5] at h; exact absurd h.1 Bool.false_ne_true)]) dX6_limit_42 hS
  · skip
    rw [Bool.true_and] at c5
    obtain ⟨j, hj, rfl⟩ := inB_nI (by omega) c5
    refine lv_iload_n hx hb dX6_limit_8 rfl (lv_at hl 1 rfl) ?_
    refine lv_if_lt (tgt := 41) hx hb dX6_limit_9 (by decide) (fun c9 => ?_) (fun c9 => ?_)
    · skip
      refine lv_iconst (v := -1) hx hb dX6_limit_41 (by decide) ?_
      exact hret _ _ _ _ _ (by rw [if_neg (fun h => by have h2 := h.2; simp [inB, c9] at h2)]) dX6_limit_42 hS
    · skip
      refine lv_iload_n hx hb dX6_limit_12 rfl (lv_at hl 1 rfl) ?_
      refine lv_aload_n hx hb dX6_limit_13 rfl (lv_at hl 0 rfl) ?_
      refine va_get (D := D) (ci := 5) (v := .int (nI C.length)) (C := RX6) (T := TX6) (N := 27) hx hb hts hin6 hown hK hP 0 rfl rfl 23 (by decide) fl147 (fun _ h9 => h9) rfl dX6_limit_14 ?_
      refine lv_icmp_ge (tgt := 41) hx hb dX6_limit_17 (by decide) (fun c17 => ?_) (fun c17 => ?_)
      · skip
        refine lv_iconst (v := -1) hx hb dX6_limit_41 (by decide) ?_
        exact hret _ _ _ _ _ (by rw [if_neg (fun h => by have h2 := h.2; simp [inB, c17] at h2)]) dX6_limit_42 hS
      · skip
        obtain ⟨i9, hi, rfl, -⟩ := pk_mu c9 c17 (show C.length < 2 ^ 31 by omega)
        obtain ⟨v, hv9⟩ : ∃ v, C[i9]? = some v := ⟨_, List.getElem?_eq_getElem hi⟩
        have hvM := hCM v (List.mem_of_getElem? hv9)
        obtain ⟨x, hx9, hr9⟩ := rowsV_at0 hX hvM
        refine lv_aload_n hx hb dX6_limit_20 rfl (lv_at hl 0 rfl) ?_
        refine va_get (D := D) (ci := 5) (v := .ref (r 20)) (C := RX6) (T := TX6) (N := 27) hx hb hts hin6 hown hK hP 0 rfl rfl 20 (by decide) fl45 (fun _ h9 => h9) rfl dX6_limit_21 ?_
        refine lv_iconst (v := nI 5) hx hb dX6_limit_24 (by decide) ?_
        refine lv_aload_n hx hb dX6_limit_25 rfl (lv_at hl 0 rfl) ?_
        refine va_get (D := D) (ci := 5) (v := .ref (r 24)) (C := RX6) (T := TX6) (N := 27) hx hb hts hin6 hown hK hP 0 rfl rfl 24 (by decide) fl51 (fun _ h9 => h9) rfl dX6_limit_26 ?_
        refine lv_iload_n hx hb dX6_limit_29 rfl (lv_at hl 1 rfl) ?_
        refine wk_iald hx hb hK hP 13 0 rfl rfl (i := i9) (by omega) (by omega) dX6_limit_30 ?_
        rw [show (a24 i9) = (nI v) from (hC i9 v hv9)]
        refine wk_imul hx hb dX6_limit_31 ?_
        refine lv_iload_n hx hb dX6_limit_32 rfl (lv_at hl 2 rfl) ?_
        refine wk_iadd hx hb dX6_limit_33 ?_
        refine wk_iald hx hb hK hP 11 0 rfl rfl (i := (5 * v) + j) (by omega) (by omega) dX6_limit_34 ?_
        rw [show (a20 ((5 * v) + j)) = (x j) from (hr9 j (by omega))]
        refine wk_Si (As := [.int (x j)]) (rest := []) ⟨hx, hb, hml, hown, hts⟩ (c_X6_told l D cI cJ cZ cA (x j)) (va_cwS 1 hts gX6_limit_X6_told rfl rfl rfl (by decide +kernel) ⟨Nat.le_of_ble_eq_true rfl, Nat.le_of_ble_eq_true rfl⟩) hK hP [] rfl hS rfl hl.1 rfl (Nat.le_of_ble_eq_true rfl) dX6_limit_35 ⟨Nat.zero_le _, Nat.zero_le _⟩ (fun H locs hP hS => ?_)
        refine lv_goto (tgt := 42) hx hb dX6_limit_38 (by decide) ?_
        exact hret _ _ _ _ _ (by rw [if_pos ⟨c5, inB_is hi (by omega)⟩, nI_clamp (by omega), nI_clamp (by omega), getD_of hv9, getD_of hx9]) dX6_limit_42 hS

set_option maxHeartbeats 4000000 in
set_option maxRecDepth 100000 in
theorem c_X6_covers_f (l : Launch) (D : va_G) (cI cJ cZ cA : ClassId) (r : Nat → Nat) (i0 i3 i7 i8 i9 i13 i15 i18 i19 i22 i23 : Int32) (a1 a2 a4 a5 a6 a10 a11 a12 a14 a16 a20 a21 a24 a25 a26 : Nat → Int32)  : Met l yX6_covers wsX6_covers ({ frames := 1, cells := 0, slots := 0, locals := 25 } : Room) (ro_P D (tysC cI cJ cZ cA) [.ref (r 0)] (mw cI r i0 i3 i7 i8 i9 i13 i15 (bI false) i18 i19 i22 i23 a1 a2 a4 a5 a6 a10 a11 a12 a14 a16 a20 a21 a24 a25 a26)) (ro_Q (bI false)) 0 0 (fun _ => False) := by
  refine met_ro (cc := cX6_covers) (maxL := 3) (ty := .boolean) (by decide) rfl (Nat.le_of_ble_eq_true rfl) (bI_n _) ?_
  intro p e s m args below meth c Q hx hb hml hown hts hP hK hret ls hl
  obtain ⟨H, hH9⟩ : ∃ H : Heap, H = s.heap := ⟨_, rfl⟩
  have hP : va_P D vwCl (mw cI r i0 i3 i7 i8 i9 i13 i15 (bI false) i18 i19 i22 i23 a1 a2 a4 a5 a6 a10 a11 a12 a14 a16 a20 a21 a24 a25 a26) H := by rw [hH9]; exact hP
  have hS : va_S (fun _ => False) s.heap H [] := by rw [hH9]; exact va_S.rf
  rw [← hH9]
  have hown : s.vm.findClass RX6 = some m.cls := hown
  have hin6 : ∀ w ∈ wsX60, w ∈ wsX6_covers := by decide +kernel
  have fl128 := hts (.fieldLink RX6 128 "CoverRoundsModel" "nodes" "I") (by decide +kernel)
  have fl124 := hts (.fieldLink RX6 124 "CoverRoundsModel" "isGrown" "Z") (by decide +kernel)
  have fl138 := hts (.fieldLink RX6 138 "CoverRoundsModel" "grownPlaces" "I") (by decide +kernel)
  have fl60 := hts (.fieldLink RX6 60 "CoverRoundsModel" "places" "I") (by decide +kernel)
  have fl45 := hts (.fieldLink RX6 45 "CoverRoundsModel" "markings" "[I") (by decide +kernel)
  have fl13 := hts (.fieldLink RX6 13 "CoverRoundsModel" "target" "[I") (by decide +kernel)
  have hl : lv_has ls 3 [(0, .ref (r 0))] := hl
  refine lv_iconst (v := nI 0) hx hb dX6_covers_0 (by decide) ?_
  refine lv_istore_n (lv' := [(1, .int (nI 0)), (0, .ref (r 0))]) hx hb dX6_covers_1 rfl hl (by decide) rfl (fun ls hl => ?_)
  refine lv_iconst (v := nI 0) hx hb dX6_covers_2 (by decide) ?_
  refine lv_istore_n (lv' := [(2, .int (nI 0)), (1, .int (nI 0)), (0, .ref (r 0))]) hx hb dX6_covers_3 rfl hl (by decide) rfl (fun ls hl => ?_)
  refine lv_iload_n hx hb dX6_covers_4 rfl (lv_at hl 0 rfl) ?_
  refine lv_aload_n hx hb dX6_covers_5 rfl (lv_at hl 2 rfl) ?_
  refine va_get (D := D) (ci := 5) (v := .int i19) (C := RX6) (T := TX6) (N := 27) hx hb hts hin6 hown hK hP 0 rfl rfl 19 (by decide) fl128 (fun _ h9 => h9) rfl dX6_covers_6 ?_
  refine lv_icmp_ge (tgt := 64) hx hb dX6_covers_9 (by decide) (fun c9 => ?_) (fun c9 => ?_)
  · skip
    refine lv_iload_n hx hb dX6_covers_64 rfl (lv_at hl 1 rfl) ?_
    exact hret _ _ _ _ _ rfl dX6_covers_65 hS
  · skip
    refine lv_aload_n hx hb dX6_covers_12 rfl (lv_at hl 2 rfl) ?_
    refine va_get (D := D) (ci := 5) (v := .int (bI false)) (C := RX6) (T := TX6) (N := 27) hx hb hts hin6 hown hK hP 0 rfl rfl 17 (by decide) fl124 (fun _ h9 => h9) rfl dX6_covers_13 ?_
    refine wk_if_eqb (tgt := 64) hx hb dX6_covers_16 (by decide) (fun c16 => ?_) (fun c16 => absurd c16 (by decide))
    refine lv_iload_n hx hb dX6_covers_64 rfl (lv_at hl 1 rfl) ?_
    exact hret _ _ _ _ _ rfl dX6_covers_65 hS

set_option maxHeartbeats 4000000 in
set_option maxRecDepth 100000 in
theorem c_X6_covers (l : Launch) (D : va_G) (cI cJ cZ cA : ClassId) (r : Nat → Nat) (i3 i7 i8 i9 i13 i15 i22 i23 : Int32) (a1 a2 a4 a5 a6 a10 a11 a12 a14 a16 a20 a21 a24 a25 a26 : Nat → Int32) (pl : Nat) (hpl : pl ≤ 5) (gp : Nat) (hgp : gp ≤ 5) (Ms : List Rw) (hX : rowsV a20 0 Ms) (hXl : Ms.length ≤ 1000)  : Met l yX6_covers wsX6_covers ({ frames := 1, cells := 0, slots := 0, locals := 25 } : Room) (ro_P D (tysC cI cJ cZ cA) [.ref (r 0)] (mw cI r (nI pl) i3 i7 i8 i9 i13 i15 (bI true) (nI gp) (nI Ms.length) i22 i23 a1 a2 a4 a5 a6 a10 a11 a12 a14 a16 a20 a21 a24 a25 a26)) (ro_Q (bI (decide (gp = pl) && Ms.any (fun x => tp5 x a2)))) 0 0 (fun _ => False) := by
  refine met_ro (cc := cX6_covers) (maxL := 3) (ty := .boolean) (by decide) rfl (Nat.le_of_ble_eq_true rfl) (bI_n _) ?_
  intro p e s m args below meth c Q hx hb hml hown hts hP hK hret ls hl
  obtain ⟨H, hH9⟩ : ∃ H : Heap, H = s.heap := ⟨_, rfl⟩
  have hP : va_P D vwCl (mw cI r (nI pl) i3 i7 i8 i9 i13 i15 (bI true) (nI gp) (nI Ms.length) i22 i23 a1 a2 a4 a5 a6 a10 a11 a12 a14 a16 a20 a21 a24 a25 a26) H := by rw [hH9]; exact hP
  have hS : va_S (fun _ => False) s.heap H [] := by rw [hH9]; exact va_S.rf
  rw [← hH9]
  have hown : s.vm.findClass RX6 = some m.cls := hown
  have hin6 : ∀ w ∈ wsX60, w ∈ wsX6_covers := by decide +kernel
  have fl128 := hts (.fieldLink RX6 128 "CoverRoundsModel" "nodes" "I") (by decide +kernel)
  have fl124 := hts (.fieldLink RX6 124 "CoverRoundsModel" "isGrown" "Z") (by decide +kernel)
  have fl138 := hts (.fieldLink RX6 138 "CoverRoundsModel" "grownPlaces" "I") (by decide +kernel)
  have fl60 := hts (.fieldLink RX6 60 "CoverRoundsModel" "places" "I") (by decide +kernel)
  have fl45 := hts (.fieldLink RX6 45 "CoverRoundsModel" "markings" "[I") (by decide +kernel)
  have fl13 := hts (.fieldLink RX6 13 "CoverRoundsModel" "target" "[I") (by decide +kernel)
  have hl : lv_has ls 3 [(0, .ref (r 0))] := hl
  refine lv_iconst (v := nI 0) hx hb dX6_covers_0 (by decide) ?_
  refine lv_istore_n (lv' := [(1, .int (nI 0)), (0, .ref (r 0))]) hx hb dX6_covers_1 rfl hl (by decide) rfl (fun ls hl => ?_)
  refine lv_iconst (v := nI 0) hx hb dX6_covers_2 (by decide) ?_
  refine lv_istore_n (lv' := [(2, .int (nI 0)), (1, .int (nI 0)), (0, .ref (r 0))]) hx hb dX6_covers_3 rfl hl (by decide) rfl (fun ls hl => ?_)
  have lp4 : ∀ (n9 : Nat) (k : Nat) (t : Bool), Ms.length - k < n9 → k ≤ Ms.length → (gp ≠ pl → k = 0) → (t = true ↔ (gp = pl ∧ ∃ q, q < k ∧ tpB a20 (5 * q) a2 0 = true)) → ∀ (H : Heap) (locs : List Loc) (ls : Array Slot), va_P D vwCl (mw cI r (nI pl) i3 i7 i8 i9 i13 i15 (bI true) (nI gp) (nI Ms.length) i22 i23 a1 a2 a4 a5 a6 a10 a11 a12 a14 a16 a20 a21 a24 a25 a26) H → va_S (fun _ => False) s.heap H locs → lv_has ls 3 [(0, .ref (r 0)), (1, .int (bI t)), (2, .int (nI k))] → W p l e ({ frames := 1, cells := 0, slots := 0, locals := 25 } : Room) s m args below meth c H locs 0 0 Q (F0 m 4 ls []) := by
    intro n9
    induction n9 with
    | zero => intro k t hm4; exact absurd hm4 (Nat.not_lt_zero _)
    | succ n9 ih4 =>
      intro k t hm4 hk h0 ht H locs ls hP hS hl
      refine lv_iload_n hx hb dX6_covers_4 rfl (lv_at hl 2 rfl) ?_
      refine lv_aload_n hx hb dX6_covers_5 rfl (lv_at hl 0 rfl) ?_
      refine va_get (D := D) (ci := 5) (v := .int (nI Ms.length)) (C := RX6) (T := TX6) (N := 27) hx hb hts hin6 hown hK hP 0 rfl rfl 19 (by decide) fl128 (fun _ h9 => h9) rfl dX6_covers_6 ?_
      refine wk_icmp_ge (tgt := 64) hx hb (by omega) (by omega) dX6_covers_9 (by decide) (fun c9 => ?_) (fun c9 => ?_)
      · skip
        refine lv_iload_n hx hb dX6_covers_64 rfl (lv_at hl 1 rfl) ?_
        have hkM : k = Ms.length := by omega
        subst hkM
        exact hret _ _ _ _ _ (congrArg bI (cov_end hX ht)) dX6_covers_65 hS
      · skip
        refine lv_aload_n hx hb dX6_covers_12 rfl (lv_at hl 0 rfl) ?_
        refine va_get (D := D) (ci := 5) (v := .int (bI true)) (C := RX6) (T := TX6) (N := 27) hx hb hts hin6 hown hK hP 0 rfl rfl 17 (by decide) fl124 (fun _ h9 => h9) rfl dX6_covers_13 ?_
        refine wk_if_eqb (tgt := 64) hx hb dX6_covers_16 (by decide) (fun c16 => absurd c16 (by decide)) (fun c16 => ?_)
        refine lv_aload_n hx hb dX6_covers_19 rfl (lv_at hl 0 rfl) ?_
        refine va_get (D := D) (ci := 5) (v := .int (nI gp)) (C := RX6) (T := TX6) (N := 27) hx hb hts hin6 hown hK hP 0 rfl rfl 18 (by decide) fl138 (fun _ h9 => h9) rfl dX6_covers_20 ?_
        refine lv_aload_n hx hb dX6_covers_23 rfl (lv_at hl 0 rfl) ?_
        refine va_get (D := D) (ci := 5) (v := .int (nI pl)) (C := RX6) (T := TX6) (N := 27) hx hb hts hin6 hown hK hP 0 rfl rfl 0 (by decide) fl60 (fun _ h9 => h9) rfl dX6_covers_24 ?_
        refine wk_icmp_ne (tgt := 64) hx hb (by omega) (by omega) dX6_covers_27 (by decide) (fun c27 => ?_) (fun c27 => ?_)
        · skip
          refine lv_iload_n hx hb dX6_covers_64 rfl (lv_at hl 1 rfl) ?_
          have hk0 := h0 c27
          subst hk0
          exact hret _ _ _ _ _ (congrArg bI (bb_eq ht (by rw [Bool.and_eq_true]; exact ⟨fun h9 => absurd (of_decide_eq_true h9.1) c27, fun h9 => absurd h9.1 c27⟩))) dX6_covers_65 hS
        · skip
          refine lv_iload_n hx hb dX6_covers_30 rfl (lv_at hl 1 rfl) ?_
          refine wk_if_neb (tgt := 52) hx hb dX6_covers_31 (by decide) (fun c31 => ?_) (fun c31 => ?_)
          · skip
            refine lv_iconst (v := nI 1) hx hb dX6_covers_52 (by decide) ?_
            refine lv_goto (tgt := 57) hx hb dX6_covers_53 (by decide) ?_
            refine lv_istore_n (lv' := [(1, .int (nI 1)), (0, .ref (r 0)), (2, .int (nI k))]) hx hb dX6_covers_57 rfl hl (by decide) rfl (fun ls hl => ?_)
            refine lv_iinc (v := (nI (k + 1))) (lv' := [(2, .int (nI (k + 1))), (1, .int (nI 1)), (0, .ref (r 0))]) hx hb dX6_covers_58 hl (k := 2) rfl (by exact nI_1 _) (by decide) rfl (fun ls hl => ?_)
            refine lv_goto (tgt := 4) hx hb dX6_covers_61 (by decide) ?_
            exact ih4 (k + 1) true (by omega) (by omega) (fun h => absurd c27 h) ⟨fun h9 => ⟨c27, (ex_t1 (⟨fun h9 => (ht.mp h9).2, fun h9 => ht.mpr ⟨c27, h9⟩⟩ : t = true ↔ ∃ q, q < k ∧ tpB a20 (5 * q) a2 0 = true) c31).mp h9⟩, fun h9 => (ex_t1 (⟨fun h9 => (ht.mp h9).2, fun h9 => ht.mpr ⟨c27, h9⟩⟩ : t = true ↔ ∃ q, q < k ∧ tpB a20 (5 * q) a2 0 = true) c31).mpr h9.2⟩ _ _ _ hP hS (lv_sub hl [2, 1, 0] rfl)
          · skip
            refine lv_aload_n hx hb dX6_covers_34 rfl (lv_at hl 0 rfl) ?_
            refine va_get (D := D) (ci := 5) (v := .ref (r 20)) (C := RX6) (T := TX6) (N := 27) hx hb hts hin6 hown hK hP 0 rfl rfl 20 (by decide) fl45 (fun _ h9 => h9) rfl dX6_covers_35 ?_
            refine lv_iconst (v := nI 5) hx hb dX6_covers_38 (by decide) ?_
            refine lv_iload_n hx hb dX6_covers_39 rfl (lv_at hl 2 rfl) ?_
            refine wk_imul hx hb dX6_covers_40 ?_
            refine lv_aload_n hx hb dX6_covers_41 rfl (lv_at hl 0 rfl) ?_
            refine va_get (D := D) (ci := 5) (v := .ref (r 2)) (C := RX6) (T := TX6) (N := 27) hx hb hts hin6 hown hK hP 0 rfl rfl 2 (by decide) fl13 (fun _ h9 => h9) rfl dX6_covers_42 ?_
            refine lv_iconst (v := nI 0) hx hb dX6_covers_45 (by decide) ?_
            refine wk_Si (As := [.ref (r 20), .int (nI (5 * k)), .ref (r 2), .int (nI 0)]) (rest := []) ⟨hx, hb, hml, hown, hts⟩ (c_X6_tops l D cI cJ cZ cA (r 20) (r 2) 5005 5 (5 * k) 0 a20 a2 (by omega) (by omega) (by omega) (by omega)) (va_cwS 4 hts gX6_covers_X6_tops rfl rfl rfl (by decide +kernel) ⟨Nat.le_of_ble_eq_true rfl, Nat.le_of_ble_eq_true rfl⟩) hK hP [11, 2] rfl hS rfl hl.1 rfl (Nat.le_of_ble_eq_true rfl) dX6_covers_46 ⟨Nat.zero_le _, Nat.zero_le _⟩ (fun H locs hP hS => ?_)
            refine wk_if_eqb (tgt := 56) hx hb dX6_covers_49 (by decide) (fun c49 => ?_) (fun c49 => ?_)
            · skip
              refine lv_iconst (v := nI 0) hx hb dX6_covers_56 (by decide) ?_
              refine lv_istore_n (lv' := [(1, .int (nI 0)), (0, .ref (r 0)), (2, .int (nI k))]) hx hb dX6_covers_57 rfl hl (by decide) rfl (fun ls hl => ?_)
              refine lv_iinc (v := (nI (k + 1))) (lv' := [(2, .int (nI (k + 1))), (1, .int (nI 0)), (0, .ref (r 0))]) hx hb dX6_covers_58 hl (k := 2) rfl (by exact nI_1 _) (by decide) rfl (fun ls hl => ?_)
              refine lv_goto (tgt := 4) hx hb dX6_covers_61 (by decide) ?_
              exact ih4 (k + 1) false (by omega) (by omega) (fun h => absurd c27 h) ⟨fun h9 => ⟨c27, (ex_f (⟨fun h9 => (ht.mp h9).2, fun h9 => ht.mpr ⟨c27, h9⟩⟩ : t = true ↔ ∃ q, q < k ∧ tpB a20 (5 * q) a2 0 = true) c31 (by rw [c49]; exact Bool.false_ne_true)).mp h9⟩, fun h9 => (ex_f (⟨fun h9 => (ht.mp h9).2, fun h9 => ht.mpr ⟨c27, h9⟩⟩ : t = true ↔ ∃ q, q < k ∧ tpB a20 (5 * q) a2 0 = true) c31 (by rw [c49]; exact Bool.false_ne_true)).mpr h9.2⟩ _ _ _ hP hS (lv_sub hl [2, 1, 0] rfl)
            · skip
              refine lv_iconst (v := nI 1) hx hb dX6_covers_52 (by decide) ?_
              refine lv_goto (tgt := 57) hx hb dX6_covers_53 (by decide) ?_
              refine lv_istore_n (lv' := [(1, .int (nI 1)), (0, .ref (r 0)), (2, .int (nI k))]) hx hb dX6_covers_57 rfl hl (by decide) rfl (fun ls hl => ?_)
              refine lv_iinc (v := (nI (k + 1))) (lv' := [(2, .int (nI (k + 1))), (1, .int (nI 1)), (0, .ref (r 0))]) hx hb dX6_covers_58 hl (k := 2) rfl (by exact nI_1 _) (by decide) rfl (fun ls hl => ?_)
              refine lv_goto (tgt := 4) hx hb dX6_covers_61 (by decide) ?_
              exact ih4 (k + 1) true (by omega) (by omega) (fun h => absurd c27 h) ⟨fun h9 => ⟨c27, (ex_t2 (k := k) (P := fun q => tpB a20 (5 * q) a2 0 = true) c49).mp h9⟩, fun h9 => (ex_t2 (k := k) (P := fun q => tpB a20 (5 * q) a2 0 = true) c49).mpr h9.2⟩ _ _ _ hP hS (lv_sub hl [2, 1, 0] rfl)
  exact lp4 _ 0 false (Nat.lt_succ_self _) (by omega) (fun _ => rfl) ⟨fun h9 => by (cases h9), fun h9 => by obtain ⟨q, hq, -⟩ := h9.2; exact absurd hq (Nat.not_lt_zero q)⟩ _ _ _ hP hS (lv_sub hl [2, 1, 0] rfl)
