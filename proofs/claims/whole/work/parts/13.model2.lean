set_option maxHeartbeats 4000000 in
set_option maxRecDepth 100000 in
theorem c_X6_begin (l : Launch) (D : va_G) (cI cJ cZ cA : ClassId) (r : Nat → Nat) (i0 i3 i7 i8 i9 i13 i15 i17 i18 i19 i22 i23 : Int32) (a1 a2 a4 a5 a6 a10 a11 a12 a14 a16 a20 a21 a24 a25 a26 : Nat → Int32) (sz : Nat) : Met l yX6_begin wsX6_begin ({ frames := 0, cells := 0, slots := 0, locals := 0 } : Room) (wr_P D (tysC cI cJ cZ cA) [.ref (r 0)] (mw cI r i0 i3 i7 i8 i9 i13 i15 i17 i18 i19 i22 i23 a1 a2 a4 a5 a6 a10 a11 a12 a14 a16 a20 a21 a24 a25 a26) sz) (wr_Qv D (S := Unit) (mw cI r i0 i3 i7 i8 i9 i13 i15 i17 i18 i19 i22 i23 a1 a2 a4 a5 a6 a10 a11 a12 a14 a16 a20 a21 a24 a25 a26) sz (fun _ => True) (fun _ => (mw cI r i0 i3 i7 i8 i9 i13 i15 i17 i18 i19 i22 i23 a1 a2 a4 a5 (cpN a1 a6 5) a10 a11 a12 a14 a16 a20 a21 a24 a25 a26))) 0 0 (va_A (mw cI r i0 i3 i7 i8 i9 i13 i15 i17 i18 i19 i22 i23 a1 a2 a4 a5 a6 a10 a11 a12 a14 a16 a20 a21 a24 a25 a26) sz) := by
  refine met_wv (cc := cX6_begin) (maxL := 2) (by decide) rfl (Nat.le_of_ble_eq_true rfl) ?_
  intro p e s m args below meth c Q A hx hb hml hown hts hP hK hD hA hret ls hl
  obtain ⟨H, hH9⟩ : ∃ H : Heap, H = s.heap := ⟨_, rfl⟩
  have hP : va_P D vwCl (mw cI r i0 i3 i7 i8 i9 i13 i15 i17 i18 i19 i22 i23 a1 a2 a4 a5 a6 a10 a11 a12 a14 a16 a20 a21 a24 a25 a26) H := by rw [hH9]; exact hP
  have hS : va_S A s.heap H [] := by rw [hH9]; exact va_S.rf
  rw [← hH9]
  have hown : s.vm.findClass RX6 = some m.cls := hown
  have hin6 : ∀ w ∈ wsX60, w ∈ wsX6_begin := by decide +kernel
  have fl22 := hts (.fieldLink RX6 22 "CoverRoundsModel" "now" "[I") (by decide +kernel)
  have fl7 := hts (.fieldLink RX6 7 "CoverRoundsModel" "first" "[I") (by decide +kernel)
  have hl : lv_has ls 2 [(0, .ref (r 0))] := hl
  refine lv_iconst (v := nI 0) hx hb dX6_begin_0 (by decide) ?_
  refine lv_istore_n (lv' := [(1, .int (nI 0)), (0, .ref (r 0))]) hx hb dX6_begin_1 rfl hl (by decide) rfl (fun ls hl => ?_)
  have lp2 : ∀ (n9 : Nat) (k : Nat), 5 - k < n9 → k ≤ 5 → ∀ (H : Heap) (locs : List Loc) (ls : Array Slot), va_P D vwCl (mw cI r i0 i3 i7 i8 i9 i13 i15 i17 i18 i19 i22 i23 a1 a2 a4 a5 (cpN a1 a6 k) a10 a11 a12 a14 a16 a20 a21 a24 a25 a26) H → va_D A (mw cI r i0 i3 i7 i8 i9 i13 i15 i17 i18 i19 i22 i23 a1 a2 a4 a5 (cpN a1 a6 k) a10 a11 a12 a14 a16 a20 a21 a24 a25 a26) → va_S A s.heap H locs → lv_has ls 2 [(0, .ref (r 0)), (1, .int (nI k))] → W p l e ({ frames := 0, cells := 0, slots := 0, locals := 0 } : Room) s m args below meth c H locs 0 0 Q (F0 m 2 ls []) := by
    intro n9
    induction n9 with
    | zero => intro k hm2; exact absurd hm2 (Nat.not_lt_zero _)
    | succ n9 ih2 =>
      intro k hm2 hk H locs ls hP hD hS hl
      refine lv_iload_n hx hb dX6_begin_2 rfl (lv_at hl 1 rfl) ?_
      refine lv_iconst (v := nI 5) hx hb dX6_begin_3 (by decide) ?_
      refine wk_icmp_ge (tgt := 25) hx hb (by omega) (by omega) dX6_begin_4 (by decide) (fun c4 => ?_) (fun c4 => ?_)
      · skip
        have hk5 : k = 5 := by omega
        subst hk5
        exact hret () _ _ _ _ _ _ trivial hP hD dX6_begin_25 hS (Nat.zero_le _) (Nat.zero_le _)
      · skip
        refine lv_aload_n hx hb dX6_begin_7 rfl (lv_at hl 0 rfl) ?_
        refine va_get (D := D) (ci := 5) (v := .ref (r 6)) (C := RX6) (T := TX6) (N := 27) hx hb hts hin6 hown hK hP 0 rfl rfl 6 (by decide) fl22 (fun _ h9 => h9) rfl dX6_begin_8 ?_
        refine lv_iload_n hx hb dX6_begin_11 rfl (lv_at hl 1 rfl) ?_
        refine lv_aload_n hx hb dX6_begin_12 rfl (lv_at hl 0 rfl) ?_
        refine va_get (D := D) (ci := 5) (v := .ref (r 1)) (C := RX6) (T := TX6) (N := 27) hx hb hts hin6 hown hK hP 0 rfl rfl 1 (by decide) fl7 (fun _ h9 => h9) rfl dX6_begin_13 ?_
        refine lv_iload_n hx hb dX6_begin_16 rfl (lv_at hl 1 rfl) ?_
        refine wk_iald hx hb hK hP 1 0 rfl rfl (i := k) (by omega) (by omega) dX6_begin_17 ?_
        refine wk_iast hx hb hK hP hD hS 5 0 rfl rfl (i := k) (by omega) (by omega) dX6_begin_18 (fun H locs hP hD hS => ?_)
        have hP : va_P D vwCl (mw cI r i0 i3 i7 i8 i9 i13 i15 i17 i18 i19 i22 i23 a1 a2 a4 a5 (upd (cpN a1 a6 k) k (a1 k)) a10 a11 a12 a14 a16 a20 a21 a24 a25 a26) H := hP
        have hD : va_D A (mw cI r i0 i3 i7 i8 i9 i13 i15 i17 i18 i19 i22 i23 a1 a2 a4 a5 (upd (cpN a1 a6 k) k (a1 k)) a10 a11 a12 a14 a16 a20 a21 a24 a25 a26) := hD
        refine lv_iinc (v := (nI (k + 1))) (lv' := [(1, .int (nI (k + 1))), (0, .ref (r 0))]) hx hb dX6_begin_19 hl (k := 1) rfl (by exact nI_1 _) (by decide) rfl (fun ls hl => ?_)
        refine lv_goto (tgt := 2) hx hb dX6_begin_22 (by decide) ?_
        have hP : va_P D vwCl (mw cI r i0 i3 i7 i8 i9 i13 i15 i17 i18 i19 i22 i23 a1 a2 a4 a5 (cpN a1 a6 (k + 1)) a10 a11 a12 a14 a16 a20 a21 a24 a25 a26) H := by rw [← cpN_s]; exact hP
        have hD : va_D A (mw cI r i0 i3 i7 i8 i9 i13 i15 i17 i18 i19 i22 i23 a1 a2 a4 a5 (cpN a1 a6 (k + 1)) a10 a11 a12 a14 a16 a20 a21 a24 a25 a26) := by rw [← cpN_s]; exact hD
        exact ih2 (k + 1) (by omega) (by omega) _ _ _ hP hD hS (lv_sub hl [1, 0] rfl)
  have hP : va_P D vwCl (mw cI r i0 i3 i7 i8 i9 i13 i15 i17 i18 i19 i22 i23 a1 a2 a4 a5 (cpN a1 a6 0) a10 a11 a12 a14 a16 a20 a21 a24 a25 a26) H := by rw [cpN_0]; exact hP
  have hD : va_D A (mw cI r i0 i3 i7 i8 i9 i13 i15 i17 i18 i19 i22 i23 a1 a2 a4 a5 (cpN a1 a6 0) a10 a11 a12 a14 a16 a20 a21 a24 a25 a26) := by rw [cpN_0]; exact hD
  exact lp2 _ 0 (Nat.lt_succ_self _) (by omega) _ _ _ hP hD hS (lv_sub hl [1, 0] rfl)

set_option maxHeartbeats 4000000 in
set_option maxRecDepth 100000 in
theorem c_X6_place (l : Launch) (D : va_G) (cI cJ cZ cA : ClassId) (r : Nat → Nat) (i3 i7 i8 i9 i13 i15 i17 i18 i19 i22 i23 : Int32) (a1 a2 a4 a5 a6 a10 a11 a12 a14 a16 a20 a21 a24 a25 a26 : Nat → Int32) (sz pl : Nat) (x : Int32) (hpl : pl ≤ 5) : Met l yX6_place wsX6_place ({ frames := 1, cells := 0, slots := 0, locals := 21 } : Room) (wr_P D (tysC cI cJ cZ cA) [.ref (r 0), .int x] (mw cI r (nI pl) i3 i7 i8 i9 i13 i15 i17 i18 i19 i22 i23 a1 a2 a4 a5 a6 a10 a11 a12 a14 a16 a20 a21 a24 a25 a26) sz) (wr_Qi D (S := Nat × (Nat → Int32) × (Nat → Int32)) (mw cI r (nI pl) i3 i7 i8 i9 i13 i15 i17 i18 i19 i22 i23 a1 a2 a4 a5 a6 a10 a11 a12 a14 a16 a20 a21 a24 a25 a26) sz (fun r9 u => (r9, u) = placeM pl a1 a6 x) (fun u => (mw cI r (nI u.1) i3 i7 i8 i9 i13 i15 i17 i18 i19 i22 i23 u.2.1 a2 a4 a5 u.2.2 a10 a11 a12 a14 a16 a20 a21 a24 a25 a26))) 0 0 (va_A (mw cI r (nI pl) i3 i7 i8 i9 i13 i15 i17 i18 i19 i22 i23 a1 a2 a4 a5 a6 a10 a11 a12 a14 a16 a20 a21 a24 a25 a26) sz) := by
  refine met_wi (cc := cX6_place) (maxL := 2) (ty := .int) (by decide) rfl (Nat.le_of_ble_eq_true rfl) ?_
  intro p e s m args below meth c Q A hx hb hml hown hts hP hK hD hA hret ls hl
  obtain ⟨H, hH9⟩ : ∃ H : Heap, H = s.heap := ⟨_, rfl⟩
  have hP : va_P D vwCl (mw cI r (nI pl) i3 i7 i8 i9 i13 i15 i17 i18 i19 i22 i23 a1 a2 a4 a5 a6 a10 a11 a12 a14 a16 a20 a21 a24 a25 a26) H := by rw [hH9]; exact hP
  have hS : va_S A s.heap H [] := by rw [hH9]; exact va_S.rf
  rw [← hH9]
  have hown : s.vm.findClass RX6 = some m.cls := hown
  have hin6 : ∀ w ∈ wsX60, w ∈ wsX6_place := by decide +kernel
  have fl60 := hts (.fieldLink RX6 60 "CoverRoundsModel" "places" "I") (by decide +kernel)
  have fl7 := hts (.fieldLink RX6 7 "CoverRoundsModel" "first" "[I") (by decide +kernel)
  have hl : lv_has ls 2 [(0, .ref (r 0)), (1, .int x)] := hl
  refine lv_aload_n hx hb dX6_place_0 rfl (lv_at hl 0 rfl) ?_
  refine va_get (D := D) (ci := 5) (v := .int (nI pl)) (C := RX6) (T := TX6) (N := 27) hx hb hts hin6 hown hK hP 0 rfl rfl 0 (by decide) fl60 (fun _ h9 => h9) rfl dX6_place_1 ?_
  refine lv_iconst (v := nI 5) hx hb dX6_place_4 (by decide) ?_
  refine wk_icmp_eq (tgt := 17) hx hb (by omega) (by omega) dX6_place_5 (by decide) (fun c5 => ?_) (fun c5 => ?_)
  · skip
    refine lv_iconst (v := -1) hx hb dX6_place_17 (by decide) ?_
    exact hret _ (pl, a1, a6) _ _ _ _ _ _ rfl (by simp [placeM, c5]) hP hD dX6_place_18 hS (Nat.zero_le _) (Nat.zero_le _)
  · skip
    refine lv_iload_n hx hb dX6_place_8 rfl (lv_at hl 1 rfl) ?_
    refine lv_bipush (v := nI 20) hx hb dX6_place_9 (by decide) ?_
    refine wk_Si (As := [.int x, .int (nI 20)]) (rest := []) ⟨hx, hb, hml, hown, hts⟩ (c_X6_isIn l D cI cJ cZ cA x (nI 20)) (va_cwS 2 hts gX6_place_X6_isIn rfl rfl rfl (by decide +kernel) ⟨Nat.le_of_ble_eq_true rfl, Nat.le_of_ble_eq_true rfl⟩) hK hP [] rfl hS rfl hl.1 rfl (Nat.le_of_ble_eq_true rfl) dX6_place_11 ⟨Nat.zero_le _, Nat.zero_le _⟩ (fun H locs hP hS => ?_)
    refine wk_if_neb (tgt := 19) hx hb dX6_place_14 (by decide) (fun c14 => ?_) (fun c14 => ?_)
    · skip
      refine lv_aload_n hx hb dX6_place_19 rfl (lv_at hl 0 rfl) ?_
      refine va_get (D := D) (ci := 5) (v := .ref (r 1)) (C := RX6) (T := TX6) (N := 27) hx hb hts hin6 hown hK hP 0 rfl rfl 1 (by decide) fl7 (fun _ h9 => h9) rfl dX6_place_20 ?_
      refine lv_aload_n hx hb dX6_place_23 rfl (lv_at hl 0 rfl) ?_
      refine va_get (D := D) (ci := 5) (v := .int (nI pl)) (C := RX6) (T := TX6) (N := 27) hx hb hts hin6 hown hK hP 0 rfl rfl 0 (by decide) fl60 (fun _ h9 => h9) rfl dX6_place_24 ?_
      refine lv_iload_n hx hb dX6_place_27 rfl (lv_at hl 1 rfl) ?_
      refine wk_iast hx hb hK hP hD hS 1 0 rfl rfl (i := pl) (by omega) (by omega) dX6_place_28 (fun H locs hP hD hS => ?_)
      have hP : va_P D vwCl (mw cI r (nI pl) i3 i7 i8 i9 i13 i15 i17 i18 i19 i22 i23 (upd a1 pl x) a2 a4 a5 a6 a10 a11 a12 a14 a16 a20 a21 a24 a25 a26) H := hP
      have hD : va_D A (mw cI r (nI pl) i3 i7 i8 i9 i13 i15 i17 i18 i19 i22 i23 (upd a1 pl x) a2 a4 a5 a6 a10 a11 a12 a14 a16 a20 a21 a24 a25 a26) := hD
      refine lv_aload_n hx hb dX6_place_29 rfl (lv_at hl 0 rfl) ?_
      refine lv_dup hx hb dX6_place_30 rfl ?_
      refine va_get (D := D) (ci := 5) (v := .int (nI pl)) (C := RX6) (T := TX6) (N := 27) hx hb hts hin6 hown hK hP 0 rfl rfl 0 (by decide) fl60 (fun _ h9 => h9) rfl dX6_place_31 ?_
      refine lv_iconst (v := nI 1) hx hb dX6_place_34 (by decide) ?_
      refine wk_iadd hx hb dX6_place_35 ?_
      refine va_put (D := D) (ci := 5) (v := .int (nI (pl + 1))) (ty := .int) (C := RX6) (T := TX6) (N := 27) hx hb hts hin6 tyX6 tyX6_ok nmX6 hown hK hP hD hS 0 rfl rfl 0 (by decide) fl60 (fun _ h9 => h9) rfl (by decide +kernel) rfl rfl (Nat.le_of_ble_eq_true rfl) dX6_place_36 (fun H locs hP hD hS => ?_)
      have hP : va_P D vwCl (mw cI r (nI (pl + 1)) i3 i7 i8 i9 i13 i15 i17 i18 i19 i22 i23 (upd a1 pl x) a2 a4 a5 a6 a10 a11 a12 a14 a16 a20 a21 a24 a25 a26) H := hP
      have hD : va_D A (mw cI r (nI (pl + 1)) i3 i7 i8 i9 i13 i15 i17 i18 i19 i22 i23 (upd a1 pl x) a2 a4 a5 a6 a10 a11 a12 a14 a16 a20 a21 a24 a25 a26) := hD
      refine lv_aload_n hx hb dX6_place_39 rfl (lv_at hl 0 rfl) ?_
      refine wk_VvW (As := []) (rest := []) (wr := []) ⟨hx, hb, hml, hown, hts⟩ (c_X6_begin l D cI cJ cZ cA r (nI (pl + 1)) i3 i7 i8 i9 i13 i15 i17 i18 i19 i22 i23 (upd a1 pl x) a2 a4 a5 a6 a10 a11 a12 a14 a16 a20 a21 a24 a25 a26 H.size) (cwV 0 hts gX6_place_X6_begin rfl rfl rfl (by decide +kernel) ⟨Nat.le_of_ble_eq_true rfl, Nat.le_of_ble_eq_true rfl⟩) hK hP hD hA [0, 1, 2, 3, 4, 5, 6, 7, 8, 9, 10, 11, 12, 13, 14, 15] rfl (by decide) [] rfl (by decide) (by decide) 0 5 rfl rfl hS rfl hl.1 rfl (Nat.le_of_ble_eq_true rfl) dX6_place_40 ⟨Nat.le_of_ble_eq_true rfl, Nat.le_of_ble_eq_true rfl⟩ (fun u9 H locs hu hP hD hS => ?_)
      have hP : va_P D vwCl (mw cI r (nI (pl + 1)) i3 i7 i8 i9 i13 i15 i17 i18 i19 i22 i23 (upd a1 pl x) a2 a4 a5 (cpN (upd a1 pl x) a6 5) a10 a11 a12 a14 a16 a20 a21 a24 a25 a26) H := hP
      have hD : va_D A (mw cI r (nI (pl + 1)) i3 i7 i8 i9 i13 i15 i17 i18 i19 i22 i23 (upd a1 pl x) a2 a4 a5 (cpN (upd a1 pl x) a6 5) a10 a11 a12 a14 a16 a20 a21 a24 a25 a26) := hD
      refine lv_aload_n hx hb dX6_place_43 rfl (lv_at hl 0 rfl) ?_
      refine va_get (D := D) (ci := 5) (v := .int (nI (pl + 1))) (C := RX6) (T := TX6) (N := 27) hx hb hts hin6 hown hK hP 0 rfl rfl 0 (by decide) fl60 (fun _ h9 => h9) rfl dX6_place_44 ?_
      refine lv_iconst (v := nI 1) hx hb dX6_place_47 (by decide) ?_
      refine wk_isub hx hb (by omega) dX6_place_48 ?_
      exact hret _ (pl + 1, (upd a1 pl x), (cpN (upd a1 pl x) a6 5)) _ _ _ _ _ _ rfl (by simp [placeM, c5, c14]) hP hD dX6_place_49 hS (Nat.zero_le _) (Nat.zero_le _)
    · skip
      refine lv_iconst (v := -1) hx hb dX6_place_17 (by decide) ?_
      exact hret _ (pl, a1, a6) _ _ _ _ _ _ rfl (by simp [placeM, c5, c14]) hP hD dX6_place_18 hS (Nat.zero_le _) (Nat.zero_le _)

set_option maxHeartbeats 4000000 in
set_option maxRecDepth 100000 in
theorem c_X6_transition (l : Launch) (D : va_G) (cI cJ cZ cA : ClassId) (r : Nat → Nat) (i0 i7 i8 i9 i13 i15 i17 i18 i19 i22 i23 : Int32) (a1 a2 a4 a5 a6 a10 a11 a12 a14 a16 a20 a21 a24 a25 a26 : Nat → Int32) (sz tr : Nat) (htr : tr ≤ 6) : Met l yX6_transition wsX6_transition ({ frames := 1, cells := 0, slots := 0, locals := 21 } : Room) (wr_P D (tysC cI cJ cZ cA) [.ref (r 0)] (mw cI r i0 (nI tr) i7 i8 i9 i13 i15 i17 i18 i19 i22 i23 a1 a2 a4 a5 a6 a10 a11 a12 a14 a16 a20 a21 a24 a25 a26) sz) (wr_Qi D (S := Nat × (Nat → Int32)) (mw cI r i0 (nI tr) i7 i8 i9 i13 i15 i17 i18 i19 i22 i23 a1 a2 a4 a5 a6 a10 a11 a12 a14 a16 a20 a21 a24 a25 a26) sz (fun r9 u => (r9, u) = transM tr a1 a6) (fun u => (mw cI r i0 (nI u.1) i7 i8 i9 i13 i15 i17 i18 i19 i22 i23 a1 a2 a4 a5 u.2 a10 a11 a12 a14 a16 a20 a21 a24 a25 a26))) 0 0 (va_A (mw cI r i0 (nI tr) i7 i8 i9 i13 i15 i17 i18 i19 i22 i23 a1 a2 a4 a5 a6 a10 a11 a12 a14 a16 a20 a21 a24 a25 a26) sz) := by
  refine met_wi (cc := cX6_transition) (maxL := 1) (ty := .int) (by decide) rfl (Nat.le_of_ble_eq_true rfl) ?_
  intro p e s m args below meth c Q A hx hb hml hown hts hP hK hD hA hret ls hl
  obtain ⟨H, hH9⟩ : ∃ H : Heap, H = s.heap := ⟨_, rfl⟩
  have hP : va_P D vwCl (mw cI r i0 (nI tr) i7 i8 i9 i13 i15 i17 i18 i19 i22 i23 a1 a2 a4 a5 a6 a10 a11 a12 a14 a16 a20 a21 a24 a25 a26) H := by rw [hH9]; exact hP
  have hS : va_S A s.heap H [] := by rw [hH9]; exact va_S.rf
  rw [← hH9]
  have hown : s.vm.findClass RX6 = some m.cls := hown
  have hin6 : ∀ w ∈ wsX60, w ∈ wsX6_transition := by decide +kernel
  have fl63 := hts (.fieldLink RX6 63 "CoverRoundsModel" "transitions" "I") (by decide +kernel)
  have hl : lv_has ls 1 [(0, .ref (r 0))] := hl
  refine lv_aload_n hx hb dX6_transition_0 rfl (lv_at hl 0 rfl) ?_
  refine va_get (D := D) (ci := 5) (v := .int (nI tr)) (C := RX6) (T := TX6) (N := 27) hx hb hts hin6 hown hK hP 0 rfl rfl 3 (by decide) fl63 (fun _ h9 => h9) rfl dX6_transition_1 ?_
  refine lv_bipush (v := nI 6) hx hb dX6_transition_4 (by decide) ?_
  refine wk_icmp_ne (tgt := 11) hx hb (by omega) (by omega) dX6_transition_6 (by decide) (fun c6 => ?_) (fun c6 => ?_)
  · skip
    refine lv_aload_n hx hb dX6_transition_11 rfl (lv_at hl 0 rfl) ?_
    refine lv_dup hx hb dX6_transition_12 rfl ?_
    refine va_get (D := D) (ci := 5) (v := .int (nI tr)) (C := RX6) (T := TX6) (N := 27) hx hb hts hin6 hown hK hP 0 rfl rfl 3 (by decide) fl63 (fun _ h9 => h9) rfl dX6_transition_13 ?_
    refine lv_iconst (v := nI 1) hx hb dX6_transition_16 (by decide) ?_
    refine wk_iadd hx hb dX6_transition_17 ?_
    refine va_put (D := D) (ci := 5) (v := .int (nI (tr + 1))) (ty := .int) (C := RX6) (T := TX6) (N := 27) hx hb hts hin6 tyX6 tyX6_ok nmX6 hown hK hP hD hS 0 rfl rfl 3 (by decide) fl63 (fun _ h9 => h9) rfl (by decide +kernel) rfl rfl (Nat.le_of_ble_eq_true rfl) dX6_transition_18 (fun H locs hP hD hS => ?_)
    have hP : va_P D vwCl (mw cI r i0 (nI (tr + 1)) i7 i8 i9 i13 i15 i17 i18 i19 i22 i23 a1 a2 a4 a5 a6 a10 a11 a12 a14 a16 a20 a21 a24 a25 a26) H := hP
    have hD : va_D A (mw cI r i0 (nI (tr + 1)) i7 i8 i9 i13 i15 i17 i18 i19 i22 i23 a1 a2 a4 a5 a6 a10 a11 a12 a14 a16 a20 a21 a24 a25 a26) := hD
    refine lv_aload_n hx hb dX6_transition_21 rfl (lv_at hl 0 rfl) ?_
    refine wk_VvW (As := []) (rest := []) (wr := []) ⟨hx, hb, hml, hown, hts⟩ (c_X6_begin l D cI cJ cZ cA r i0 (nI (tr + 1)) i7 i8 i9 i13 i15 i17 i18 i19 i22 i23 a1 a2 a4 a5 a6 a10 a11 a12 a14 a16 a20 a21 a24 a25 a26 H.size) (cwV 0 hts gX6_transition_X6_begin rfl rfl rfl (by decide +kernel) ⟨Nat.le_of_ble_eq_true rfl, Nat.le_of_ble_eq_true rfl⟩) hK hP hD hA [0, 1, 2, 3, 4, 5, 6, 7, 8, 9, 10, 11, 12, 13, 14, 15] rfl (by decide) [] rfl (by decide) (by decide) 0 5 rfl rfl hS rfl hl.1 rfl (Nat.le_of_ble_eq_true rfl) dX6_transition_22 ⟨Nat.le_of_ble_eq_true rfl, Nat.le_of_ble_eq_true rfl⟩ (fun u9 H locs hu hP hD hS => ?_)
    have hP : va_P D vwCl (mw cI r i0 (nI (tr + 1)) i7 i8 i9 i13 i15 i17 i18 i19 i22 i23 a1 a2 a4 a5 (cpN a1 a6 5) a10 a11 a12 a14 a16 a20 a21 a24 a25 a26) H := hP
    have hD : va_D A (mw cI r i0 (nI (tr + 1)) i7 i8 i9 i13 i15 i17 i18 i19 i22 i23 a1 a2 a4 a5 (cpN a1 a6 5) a10 a11 a12 a14 a16 a20 a21 a24 a25 a26) := hD
    refine lv_aload_n hx hb dX6_transition_25 rfl (lv_at hl 0 rfl) ?_
    refine va_get (D := D) (ci := 5) (v := .int (nI (tr + 1))) (C := RX6) (T := TX6) (N := 27) hx hb hts hin6 hown hK hP 0 rfl rfl 3 (by decide) fl63 (fun _ h9 => h9) rfl dX6_transition_26 ?_
    refine lv_iconst (v := nI 1) hx hb dX6_transition_29 (by decide) ?_
    refine wk_isub hx hb (by omega) dX6_transition_30 ?_
    exact hret _ (tr + 1, (cpN a1 a6 5)) _ _ _ _ _ _ rfl (by simp [transM, c6]) hP hD dX6_transition_31 hS (Nat.zero_le _) (Nat.zero_le _)
  · skip
    refine lv_iconst (v := -1) hx hb dX6_transition_9 (by decide) ?_
    exact hret _ (tr, a6) _ _ _ _ _ _ rfl (by simp [transM, c6]) hP hD dX6_transition_10 hS (Nat.zero_le _) (Nat.zero_le _)

set_option maxHeartbeats 4000000 in
set_option maxRecDepth 100000 in
theorem c_X6_arc (l : Launch) (D : va_G) (cI cJ cZ cA : ClassId) (r : Nat → Nat) (i7 i8 i9 i13 i15 i17 i18 i19 i22 i23 : Int32) (a1 a2 a4 a5 a6 a10 a11 a12 a14 a16 a20 a21 a24 a25 a26 : Nat → Int32) (sz pl tr : Nat) (x1 x2 x3 x4 : Int32) (hpl : pl ≤ 5) (htr : tr ≤ 6) : Met l yX6_arc wsX6_arc ({ frames := 1, cells := 0, slots := 0, locals := 21 } : Room) (wr_P D (tysC cI cJ cZ cA) [.ref (r 0), .int x1, .int x2, .int x3, .int x4] (mw cI r (nI pl) (nI tr) i7 i8 i9 i13 i15 i17 i18 i19 i22 i23 a1 a2 a4 a5 a6 a10 a11 a12 a14 a16 a20 a21 a24 a25 a26) sz) (wr_Qi D (S := (Nat → Int32) × (Nat → Int32) × (Nat → Int32)) (mw cI r (nI pl) (nI tr) i7 i8 i9 i13 i15 i17 i18 i19 i22 i23 a1 a2 a4 a5 a6 a10 a11 a12 a14 a16 a20 a21 a24 a25 a26) sz (fun r9 u => r9 = bI (arcM pl tr a1 a4 a5 a6 x1 x2 x3 x4).1 ∧ u = (arcM pl tr a1 a4 a5 a6 x1 x2 x3 x4).2) (fun u => (mw cI r (nI pl) (nI tr) i7 i8 i9 i13 i15 i17 i18 i19 i22 i23 a1 a2 u.1 u.2.1 u.2.2 a10 a11 a12 a14 a16 a20 a21 a24 a25 a26))) 0 0 (va_A (mw cI r (nI pl) (nI tr) i7 i8 i9 i13 i15 i17 i18 i19 i22 i23 a1 a2 a4 a5 a6 a10 a11 a12 a14 a16 a20 a21 a24 a25 a26) sz) := by
  refine met_wi (cc := cX6_arc) (maxL := 5) (ty := .boolean) (by decide) rfl (Nat.le_of_ble_eq_true rfl) ?_
  intro p e s m args below meth c Q A hx hb hml hown hts hP hK hD hA hret ls hl
  obtain ⟨H, hH9⟩ : ∃ H : Heap, H = s.heap := ⟨_, rfl⟩
  have hP : va_P D vwCl (mw cI r (nI pl) (nI tr) i7 i8 i9 i13 i15 i17 i18 i19 i22 i23 a1 a2 a4 a5 a6 a10 a11 a12 a14 a16 a20 a21 a24 a25 a26) H := by rw [hH9]; exact hP
  have hS : va_S A s.heap H [] := by rw [hH9]; exact va_S.rf
  rw [← hH9]
  have hown : s.vm.findClass RX6 = some m.cls := hown
  have hin6 : ∀ w ∈ wsX60, w ∈ wsX6_arc := by decide +kernel
  have fl16 := hts (.fieldLink RX6 16 "CoverRoundsModel" "takes" "[I") (by decide +kernel)
  have fl19 := hts (.fieldLink RX6 19 "CoverRoundsModel" "gives" "[I") (by decide +kernel)
  have hl : lv_has ls 5 [(0, .ref (r 0)), (1, .int x1), (2, .int x2), (3, .int x3), (4, .int x4)] := hl
  refine lv_aload_n hx hb dX6_arc_0 rfl (lv_at hl 0 rfl) ?_
  refine lv_iload_n hx hb dX6_arc_1 rfl (lv_at hl 1 rfl) ?_
  refine wk_Vi (As := [.int x1]) (rest := []) ⟨hx, hb, hml, hown, hts⟩ (c_X6_isTransition l D cI cJ cZ cA r (nI pl) (nI tr) i7 i8 i9 i13 i15 i17 i18 i19 i22 i23 a1 a2 a4 a5 a6 a10 a11 a12 a14 a16 a20 a21 a24 a25 a26 x1) (cwV 1 hts gX6_arc_X6_isTransition rfl rfl rfl (by decide +kernel) ⟨Nat.le_of_ble_eq_true rfl, Nat.le_of_ble_eq_true rfl⟩) hK hP [0, 1, 2, 3, 4, 5, 6, 7, 8, 9, 10, 11, 12, 13, 14, 15] rfl 0 5 rfl rfl hS rfl hl.1 rfl (Nat.le_of_ble_eq_true rfl) dX6_arc_2 ⟨Nat.zero_le _, Nat.zero_le _⟩ (fun H locs hP hS => ?_)
  refine wk_if_eqb (tgt := 33) hx hb dX6_arc_5 (by decide) (fun c5 => ?_) (fun c5 => ?_)
  · skip
    refine lv_iconst (v := nI 0) hx hb dX6_arc_33 (by decide) ?_
    exact hret _ (a4, a5, a6) _ _ _ _ _ _ rfl (⟨bI_F (by simp [arcM, c5]), by simp [arcM, c5]⟩) hP hD dX6_arc_34 hS (Nat.zero_le _) (Nat.zero_le _)
  · skip
    refine lv_aload_n hx hb dX6_arc_8 rfl (lv_at hl 0 rfl) ?_
    refine lv_iload_n hx hb dX6_arc_9 rfl (lv_at hl 2 rfl) ?_
    refine wk_Vi (As := [.int x2]) (rest := []) ⟨hx, hb, hml, hown, hts⟩ (c_X6_isPlace l D cI cJ cZ cA r (nI pl) (nI tr) i7 i8 i9 i13 i15 i17 i18 i19 i22 i23 a1 a2 a4 a5 a6 a10 a11 a12 a14 a16 a20 a21 a24 a25 a26 x2) (cwV 1 hts gX6_arc_X6_isPlace rfl rfl rfl (by decide +kernel) ⟨Nat.le_of_ble_eq_true rfl, Nat.le_of_ble_eq_true rfl⟩) hK hP [0, 1, 2, 3, 4, 5, 6, 7, 8, 9, 10, 11, 12, 13, 14, 15] rfl 0 5 rfl rfl hS rfl hl.1 rfl (Nat.le_of_ble_eq_true rfl) dX6_arc_10 ⟨Nat.zero_le _, Nat.zero_le _⟩ (fun H locs hP hS => ?_)
    refine wk_if_eqb (tgt := 33) hx hb dX6_arc_13 (by decide) (fun c13 => ?_) (fun c13 => ?_)
    · skip
      refine lv_iconst (v := nI 0) hx hb dX6_arc_33 (by decide) ?_
      exact hret _ (a4, a5, a6) _ _ _ _ _ _ rfl (⟨bI_F (by simp [arcM, c5, c13]), by simp [arcM, c5, c13]⟩) hP hD dX6_arc_34 hS (Nat.zero_le _) (Nat.zero_le _)
    · skip
      refine lv_iload_n hx hb dX6_arc_16 rfl (lv_at hl 3 rfl) ?_
      refine lv_iconst (v := nI 5) hx hb dX6_arc_17 (by decide) ?_
      refine wk_Si (As := [.int x3, .int (nI 5)]) (rest := []) ⟨hx, hb, hml, hown, hts⟩ (c_X6_isIn l D cI cJ cZ cA x3 (nI 5)) (va_cwS 2 hts gX6_arc_X6_isIn rfl rfl rfl (by decide +kernel) ⟨Nat.le_of_ble_eq_true rfl, Nat.le_of_ble_eq_true rfl⟩) hK hP [] rfl hS rfl hl.1 rfl (Nat.le_of_ble_eq_true rfl) dX6_arc_18 ⟨Nat.zero_le _, Nat.zero_le _⟩ (fun H locs hP hS => ?_)
      refine wk_if_eqb (tgt := 33) hx hb dX6_arc_21 (by decide) (fun c21 => ?_) (fun c21 => ?_)
      · skip
        refine lv_iconst (v := nI 0) hx hb dX6_arc_33 (by decide) ?_
        exact hret _ (a4, a5, a6) _ _ _ _ _ _ rfl (⟨bI_F (by simp [arcM, c5, c13, c21]), by simp [arcM, c5, c13, c21]⟩) hP hD dX6_arc_34 hS (Nat.zero_le _) (Nat.zero_le _)
      · skip
        refine lv_iload hx hb dX6_arc_24 (lv_at hl 4 rfl) ?_
        refine lv_iconst (v := nI 5) hx hb dX6_arc_26 (by decide) ?_
        refine wk_Si (As := [.int x4, .int (nI 5)]) (rest := []) ⟨hx, hb, hml, hown, hts⟩ (c_X6_isIn l D cI cJ cZ cA x4 (nI 5)) (va_cwS 2 hts gX6_arc_X6_isIn rfl rfl rfl (by decide +kernel) ⟨Nat.le_of_ble_eq_true rfl, Nat.le_of_ble_eq_true rfl⟩) hK hP [] rfl hS rfl hl.1 rfl (Nat.le_of_ble_eq_true rfl) dX6_arc_27 ⟨Nat.zero_le _, Nat.zero_le _⟩ (fun H locs hP hS => ?_)
        refine wk_if_neb (tgt := 35) hx hb dX6_arc_30 (by decide) (fun c30 => ?_) (fun c30 => ?_)
        · skip
          obtain ⟨j1, hj1, rfl⟩ := inB_nI (by omega) c5
          obtain ⟨j2, hj2, rfl⟩ := inB_nI (by omega) c13
          refine lv_aload_n hx hb dX6_arc_35 rfl (lv_at hl 0 rfl) ?_
          refine va_get (D := D) (ci := 5) (v := .ref (r 4)) (C := RX6) (T := TX6) (N := 27) hx hb hts hin6 hown hK hP 0 rfl rfl 4 (by decide) fl16 (fun _ h9 => h9) rfl dX6_arc_36 ?_
          refine lv_iconst (v := nI 5) hx hb dX6_arc_39 (by decide) ?_
          refine lv_iload_n hx hb dX6_arc_40 rfl (lv_at hl 1 rfl) ?_
          refine wk_imul hx hb dX6_arc_41 ?_
          refine lv_iload_n hx hb dX6_arc_42 rfl (lv_at hl 2 rfl) ?_
          refine wk_iadd hx hb dX6_arc_43 ?_
          refine lv_iload_n hx hb dX6_arc_44 rfl (lv_at hl 3 rfl) ?_
          refine wk_iast hx hb hK hP hD hS 3 0 rfl rfl (i := (5 * j1) + j2) (by omega) (by omega) dX6_arc_45 (fun H locs hP hD hS => ?_)
          have hP : va_P D vwCl (mw cI r (nI pl) (nI tr) i7 i8 i9 i13 i15 i17 i18 i19 i22 i23 a1 a2 (upd a4 ((5 * j1) + j2) x3) a5 a6 a10 a11 a12 a14 a16 a20 a21 a24 a25 a26) H := hP
          have hD : va_D A (mw cI r (nI pl) (nI tr) i7 i8 i9 i13 i15 i17 i18 i19 i22 i23 a1 a2 (upd a4 ((5 * j1) + j2) x3) a5 a6 a10 a11 a12 a14 a16 a20 a21 a24 a25 a26) := hD
          refine lv_aload_n hx hb dX6_arc_46 rfl (lv_at hl 0 rfl) ?_
          refine va_get (D := D) (ci := 5) (v := .ref (r 5)) (C := RX6) (T := TX6) (N := 27) hx hb hts hin6 hown hK hP 0 rfl rfl 5 (by decide) fl19 (fun _ h9 => h9) rfl dX6_arc_47 ?_
          refine lv_iconst (v := nI 5) hx hb dX6_arc_50 (by decide) ?_
          refine lv_iload_n hx hb dX6_arc_51 rfl (lv_at hl 1 rfl) ?_
          refine wk_imul hx hb dX6_arc_52 ?_
          refine lv_iload_n hx hb dX6_arc_53 rfl (lv_at hl 2 rfl) ?_
          refine wk_iadd hx hb dX6_arc_54 ?_
          refine lv_iload hx hb dX6_arc_55 (lv_at hl 4 rfl) ?_
          refine wk_iast hx hb hK hP hD hS 4 0 rfl rfl (i := (5 * j1) + j2) (by omega) (by omega) dX6_arc_57 (fun H locs hP hD hS => ?_)
          have hP : va_P D vwCl (mw cI r (nI pl) (nI tr) i7 i8 i9 i13 i15 i17 i18 i19 i22 i23 a1 a2 (upd a4 ((5 * j1) + j2) x3) (upd a5 ((5 * j1) + j2) x4) a6 a10 a11 a12 a14 a16 a20 a21 a24 a25 a26) H := hP
          have hD : va_D A (mw cI r (nI pl) (nI tr) i7 i8 i9 i13 i15 i17 i18 i19 i22 i23 a1 a2 (upd a4 ((5 * j1) + j2) x3) (upd a5 ((5 * j1) + j2) x4) a6 a10 a11 a12 a14 a16 a20 a21 a24 a25 a26) := hD
          refine lv_aload_n hx hb dX6_arc_58 rfl (lv_at hl 0 rfl) ?_
          refine wk_VvW (As := []) (rest := []) (wr := []) ⟨hx, hb, hml, hown, hts⟩ (c_X6_begin l D cI cJ cZ cA r (nI pl) (nI tr) i7 i8 i9 i13 i15 i17 i18 i19 i22 i23 a1 a2 (upd a4 ((5 * j1) + j2) x3) (upd a5 ((5 * j1) + j2) x4) a6 a10 a11 a12 a14 a16 a20 a21 a24 a25 a26 H.size) (cwV 0 hts gX6_arc_X6_begin rfl rfl rfl (by decide +kernel) ⟨Nat.le_of_ble_eq_true rfl, Nat.le_of_ble_eq_true rfl⟩) hK hP hD hA [0, 1, 2, 3, 4, 5, 6, 7, 8, 9, 10, 11, 12, 13, 14, 15] rfl (by decide) [] rfl (by decide) (by decide) 0 5 rfl rfl hS rfl hl.1 rfl (Nat.le_of_ble_eq_true rfl) dX6_arc_59 ⟨Nat.le_of_ble_eq_true rfl, Nat.le_of_ble_eq_true rfl⟩ (fun u9 H locs hu hP hD hS => ?_)
          have hP : va_P D vwCl (mw cI r (nI pl) (nI tr) i7 i8 i9 i13 i15 i17 i18 i19 i22 i23 a1 a2 (upd a4 ((5 * j1) + j2) x3) (upd a5 ((5 * j1) + j2) x4) (cpN a1 a6 5) a10 a11 a12 a14 a16 a20 a21 a24 a25 a26) H := hP
          have hD : va_D A (mw cI r (nI pl) (nI tr) i7 i8 i9 i13 i15 i17 i18 i19 i22 i23 a1 a2 (upd a4 ((5 * j1) + j2) x3) (upd a5 ((5 * j1) + j2) x4) (cpN a1 a6 5) a10 a11 a12 a14 a16 a20 a21 a24 a25 a26) := hD
          refine lv_iconst (v := nI 1) hx hb dX6_arc_62 (by decide) ?_
          exact hret _ ((upd a4 ((5 * j1) + j2) x3), (upd a5 ((5 * j1) + j2) x4), (cpN a1 a6 5)) _ _ _ _ _ _ rfl (⟨bI_T (by simp [arcM, c5, c13, c21, c30]), by simp [arcM, c5, c13, c21, c30, nI_clamp (show j1 < 2 ^ 31 by omega), nI_clamp (show j2 < 2 ^ 31 by omega)]⟩) hP hD dX6_arc_63 hS (Nat.zero_le _) (Nat.zero_le _)
        · skip
          refine lv_iconst (v := nI 0) hx hb dX6_arc_33 (by decide) ?_
          exact hret _ (a4, a5, a6) _ _ _ _ _ _ rfl (⟨bI_F (by simp [arcM, c5, c13, c21, c30]), by simp [arcM, c5, c13, c21, c30]⟩) hP hD dX6_arc_34 hS (Nat.zero_le _) (Nat.zero_le _)

set_option maxHeartbeats 4000000 in
set_option maxRecDepth 100000 in
theorem c_X6_target (l : Launch) (D : va_G) (cI cJ cZ cA : ClassId) (r : Nat → Nat) (i3 i7 i8 i9 i13 i15 i17 i18 i19 i22 i23 : Int32) (a1 a2 a4 a5 a6 a10 a11 a12 a14 a16 a20 a21 a24 a25 a26 : Nat → Int32) (sz pl : Nat) (x1 x2 : Int32) (hpl : pl ≤ 5) : Met l yX6_target wsX6_target ({ frames := 1, cells := 0, slots := 0, locals := 21 } : Room) (wr_P D (tysC cI cJ cZ cA) [.ref (r 0), .int x1, .int x2] (mw cI r (nI pl) i3 i7 i8 i9 i13 i15 i17 i18 i19 i22 i23 a1 a2 a4 a5 a6 a10 a11 a12 a14 a16 a20 a21 a24 a25 a26) sz) (wr_Qi D (S := Nat → Int32) (mw cI r (nI pl) i3 i7 i8 i9 i13 i15 i17 i18 i19 i22 i23 a1 a2 a4 a5 a6 a10 a11 a12 a14 a16 a20 a21 a24 a25 a26) sz (fun r9 u => r9 = bI (targetM pl a2 x1 x2).1 ∧ u = (targetM pl a2 x1 x2).2) (fun u => (mw cI r (nI pl) i3 i7 i8 i9 i13 i15 i17 i18 i19 i22 i23 a1 u a4 a5 a6 a10 a11 a12 a14 a16 a20 a21 a24 a25 a26))) 0 0 (va_A (mw cI r (nI pl) i3 i7 i8 i9 i13 i15 i17 i18 i19 i22 i23 a1 a2 a4 a5 a6 a10 a11 a12 a14 a16 a20 a21 a24 a25 a26) sz) := by
  refine met_wi (cc := cX6_target) (maxL := 3) (ty := .boolean) (by decide) rfl (Nat.le_of_ble_eq_true rfl) ?_
  intro p e s m args below meth c Q A hx hb hml hown hts hP hK hD hA hret ls hl
  obtain ⟨H, hH9⟩ : ∃ H : Heap, H = s.heap := ⟨_, rfl⟩
  have hP : va_P D vwCl (mw cI r (nI pl) i3 i7 i8 i9 i13 i15 i17 i18 i19 i22 i23 a1 a2 a4 a5 a6 a10 a11 a12 a14 a16 a20 a21 a24 a25 a26) H := by rw [hH9]; exact hP
  have hS : va_S A s.heap H [] := by rw [hH9]; exact va_S.rf
  rw [← hH9]
  have hown : s.vm.findClass RX6 = some m.cls := hown
  have hin6 : ∀ w ∈ wsX60, w ∈ wsX6_target := by decide +kernel
  have fl13 := hts (.fieldLink RX6 13 "CoverRoundsModel" "target" "[I") (by decide +kernel)
  have hl : lv_has ls 3 [(0, .ref (r 0)), (1, .int x1), (2, .int x2)] := hl
  refine lv_aload_n hx hb dX6_target_0 rfl (lv_at hl 0 rfl) ?_
  refine lv_iload_n hx hb dX6_target_1 rfl (lv_at hl 1 rfl) ?_
  refine wk_Vi (As := [.int x1]) (rest := []) ⟨hx, hb, hml, hown, hts⟩ (c_X6_isPlace l D cI cJ cZ cA r (nI pl) i3 i7 i8 i9 i13 i15 i17 i18 i19 i22 i23 a1 a2 a4 a5 a6 a10 a11 a12 a14 a16 a20 a21 a24 a25 a26 x1) (cwV 1 hts gX6_target_X6_isPlace rfl rfl rfl (by decide +kernel) ⟨Nat.le_of_ble_eq_true rfl, Nat.le_of_ble_eq_true rfl⟩) hK hP [0, 1, 2, 3, 4, 5, 6, 7, 8, 9, 10, 11, 12, 13, 14, 15] rfl 0 5 rfl rfl hS rfl hl.1 rfl (Nat.le_of_ble_eq_true rfl) dX6_target_2 ⟨Nat.zero_le _, Nat.zero_le _⟩ (fun H locs hP hS => ?_)
  refine wk_if_eqb (tgt := 17) hx hb dX6_target_5 (by decide) (fun c5 => ?_) (fun c5 => ?_)
  · skip
    refine lv_iconst (v := nI 0) hx hb dX6_target_17 (by decide) ?_
    exact hret _ a2 _ _ _ _ _ _ rfl (⟨bI_F (by simp [targetM, c5]), by simp [targetM, c5]⟩) hP hD dX6_target_18 hS (Nat.zero_le _) (Nat.zero_le _)
  · skip
    refine lv_iload_n hx hb dX6_target_8 rfl (lv_at hl 2 rfl) ?_
    refine lv_bipush (v := nI 20) hx hb dX6_target_9 (by decide) ?_
    refine wk_Si (As := [.int x2, .int (nI 20)]) (rest := []) ⟨hx, hb, hml, hown, hts⟩ (c_X6_isIn l D cI cJ cZ cA x2 (nI 20)) (va_cwS 2 hts gX6_target_X6_isIn rfl rfl rfl (by decide +kernel) ⟨Nat.le_of_ble_eq_true rfl, Nat.le_of_ble_eq_true rfl⟩) hK hP [] rfl hS rfl hl.1 rfl (Nat.le_of_ble_eq_true rfl) dX6_target_11 ⟨Nat.zero_le _, Nat.zero_le _⟩ (fun H locs hP hS => ?_)
    refine wk_if_neb (tgt := 19) hx hb dX6_target_14 (by decide) (fun c14 => ?_) (fun c14 => ?_)
    · skip
      obtain ⟨j1, hj1, rfl⟩ := inB_nI (by omega) c5
      refine lv_aload_n hx hb dX6_target_19 rfl (lv_at hl 0 rfl) ?_
      refine va_get (D := D) (ci := 5) (v := .ref (r 2)) (C := RX6) (T := TX6) (N := 27) hx hb hts hin6 hown hK hP 0 rfl rfl 2 (by decide) fl13 (fun _ h9 => h9) rfl dX6_target_20 ?_
      refine lv_iload_n hx hb dX6_target_23 rfl (lv_at hl 1 rfl) ?_
      refine lv_iload_n hx hb dX6_target_24 rfl (lv_at hl 2 rfl) ?_
      refine wk_iast hx hb hK hP hD hS 2 0 rfl rfl (i := j1) (by omega) (by omega) dX6_target_25 (fun H locs hP hD hS => ?_)
      have hP : va_P D vwCl (mw cI r (nI pl) i3 i7 i8 i9 i13 i15 i17 i18 i19 i22 i23 a1 (upd a2 j1 x2) a4 a5 a6 a10 a11 a12 a14 a16 a20 a21 a24 a25 a26) H := hP
      have hD : va_D A (mw cI r (nI pl) i3 i7 i8 i9 i13 i15 i17 i18 i19 i22 i23 a1 (upd a2 j1 x2) a4 a5 a6 a10 a11 a12 a14 a16 a20 a21 a24 a25 a26) := hD
      refine lv_iconst (v := nI 1) hx hb dX6_target_26 (by decide) ?_
      exact hret _ (upd a2 j1 x2) _ _ _ _ _ _ rfl (⟨bI_T (by simp [targetM, c5, c14]), by simp [targetM, c5, c14, nI_clamp (show j1 < 2 ^ 31 by omega)]⟩) hP hD dX6_target_27 hS (Nat.zero_le _) (Nat.zero_le _)
    · skip
      refine lv_iconst (v := nI 0) hx hb dX6_target_17 (by decide) ?_
      exact hret _ a2 _ _ _ _ _ _ rfl (⟨bI_F (by simp [targetM, c5, c14]), by simp [targetM, c5, c14]⟩) hP hD dX6_target_18 hS (Nat.zero_le _) (Nat.zero_le _)

set_option maxHeartbeats 4000000 in
set_option maxRecDepth 100000 in
theorem c_X6_canFire (l : Launch) (D : va_G) (cI cJ cZ cA : ClassId) (r : Nat → Nat) (i0 i7 i8 i9 i13 i15 i17 i18 i19 i22 i23 : Int32) (a1 a2 a4 a5 a6 a10 a11 a12 a14 a16 a20 a21 a24 a25 a26 : Nat → Int32) (tr ma ml y : Nat) (mf : Nat → Int32) (x : Int32) (htr : tr ≤ 6) (hml9 : ml < 2 ^ 31) (hy : y + 5 ≤ ml) : Met l yX6_canFire wsX6_canFire ({ frames := 1, cells := 0, slots := 0, locals := 25 } : Room) (ro_P D (tysC cI cJ cZ cA) [.ref (r 0), .ref ma, .int (nI y), .int x] ((mw cI r i0 (nI tr) i7 i8 i9 i13 i15 i17 i18 i19 i22 i23 a1 a2 a4 a5 a6 a10 a11 a12 a14 a16 a20 a21 a24 a25 a26) ++ [(ma, .inl (cI, ml, .inl mf))])) (ro_Q (bI (canM tr a4 mf y x))) 0 0 (fun _ => False) := by
  refine met_ro (cc := cX6_canFire) (maxL := 4) (ty := .boolean) (by decide) rfl (Nat.le_of_ble_eq_true rfl) (bI_n _) ?_
  intro p e s m args below meth c Q hx hb hml hown hts hP hK hret ls hl
  obtain ⟨H, hH9⟩ : ∃ H : Heap, H = s.heap := ⟨_, rfl⟩
  have hP : va_P D vwCl ((mw cI r i0 (nI tr) i7 i8 i9 i13 i15 i17 i18 i19 i22 i23 a1 a2 a4 a5 a6 a10 a11 a12 a14 a16 a20 a21 a24 a25 a26) ++ [(ma, .inl (cI, ml, .inl mf))]) H := by rw [hH9]; exact hP
  have hS : va_S (fun _ => False) s.heap H [] := by rw [hH9]; exact va_S.rf
  rw [← hH9]
  have hown : s.vm.findClass RX6 = some m.cls := hown
  have hin6 : ∀ w ∈ wsX60, w ∈ wsX6_canFire := by decide +kernel
  have fl16 := hts (.fieldLink RX6 16 "CoverRoundsModel" "takes" "[I") (by decide +kernel)
  have hl : lv_has ls 4 [(0, .ref (r 0)), (1, .ref ma), (2, .int (nI y)), (3, .int x)] := hl
  refine lv_aload_n hx hb dX6_canFire_0 rfl (lv_at hl 0 rfl) ?_
  refine lv_iload_n hx hb dX6_canFire_1 rfl (lv_at hl 3 rfl) ?_
  refine wk_Vi (As := [.int x]) (rest := []) ⟨hx, hb, hml, hown, hts⟩ (c_X6_isTransition l D cI cJ cZ cA r i0 (nI tr) i7 i8 i9 i13 i15 i17 i18 i19 i22 i23 a1 a2 a4 a5 a6 a10 a11 a12 a14 a16 a20 a21 a24 a25 a26 x) (cwV 1 hts gX6_canFire_X6_isTransition rfl rfl rfl (by decide +kernel) ⟨Nat.le_of_ble_eq_true rfl, Nat.le_of_ble_eq_true rfl⟩) hK hP [0, 1, 2, 3, 4, 5, 6, 7, 8, 9, 10, 11, 12, 13, 14, 15] rfl 0 5 rfl rfl hS rfl hl.1 rfl (Nat.le_of_ble_eq_true rfl) dX6_canFire_2 ⟨Nat.zero_le _, Nat.zero_le _⟩ (fun H locs hP hS => ?_)
  refine wk_if_eqb (tgt := 27) hx hb dX6_canFire_5 (by decide) (fun c5 => ?_) (fun c5 => ?_)
  · skip
    refine lv_iconst (v := nI 0) hx hb dX6_canFire_27 (by decide) ?_
    exact hret _ _ _ _ _ (bI_F (by simp [canM, c5])) dX6_canFire_28 hS
  · skip
    obtain ⟨j, hj, rfl⟩ := inB_nI (by omega) c5
    have hcl : (nI j).toNatClampNeg = j := nI_clamp (by omega)
    refine lv_aload_n hx hb dX6_canFire_8 rfl (lv_at hl 1 rfl) ?_
    refine lv_iload_n hx hb dX6_canFire_9 rfl (lv_at hl 2 rfl) ?_
    refine lv_aload_n hx hb dX6_canFire_10 rfl (lv_at hl 0 rfl) ?_
    refine va_get (D := D) (ci := 5) (v := .ref (r 4)) (C := RX6) (T := TX6) (N := 27) hx hb hts hin6 hown hK hP 0 rfl rfl 4 (by decide) fl16 (fun _ h9 => h9) rfl dX6_canFire_11 ?_
    refine lv_iconst (v := nI 5) hx hb dX6_canFire_14 (by decide) ?_
    refine lv_iload_n hx hb dX6_canFire_15 rfl (lv_at hl 3 rfl) ?_
    refine wk_imul hx hb dX6_canFire_16 ?_
    refine wk_Si (As := [.ref ma, .int (nI y), .ref (r 4), .int (nI (5 * j))]) (rest := []) ⟨hx, hb, hml, hown, hts⟩ (c_X6_tops l D cI cJ cZ cA ma (r 4) ml 30 y (5 * j) mf a4 (by omega) (by omega) (by omega) (by omega)) (va_cwS 4 hts gX6_canFire_X6_tops rfl rfl rfl (by decide +kernel) ⟨Nat.le_of_ble_eq_true rfl, Nat.le_of_ble_eq_true rfl⟩) hK hP [16, 3] rfl hS rfl hl.1 rfl (Nat.le_of_ble_eq_true rfl) dX6_canFire_17 ⟨Nat.zero_le _, Nat.zero_le _⟩ (fun H locs hP hS => ?_)
    refine wk_if_eqb (tgt := 27) hx hb dX6_canFire_20 (by decide) (fun c20 => ?_) (fun c20 => ?_)
    · skip
      refine lv_iconst (v := nI 0) hx hb dX6_canFire_27 (by decide) ?_
      exact hret _ _ _ _ _ (bI_F (by simp [canM, c5, c20, hcl])) dX6_canFire_28 hS
    · skip
      refine lv_iconst (v := nI 1) hx hb dX6_canFire_23 (by decide) ?_
      refine lv_goto (tgt := 28) hx hb dX6_canFire_24 (by decide) ?_
      exact hret _ _ _ _ _ (bI_T (by simp [canM, c5, c20, hcl])) dX6_canFire_28 hS

set_option maxHeartbeats 4000000 in
set_option maxRecDepth 100000 in
theorem c_X6_fire (l : Launch) (D : va_G) (cI cJ cZ cA : ClassId) (r : Nat → Nat) (i0 i7 i8 i9 i13 i15 i17 i18 i19 i22 i23 : Int32) (a1 a2 a4 a5 a6 a10 a11 a12 a14 a16 a20 a21 a24 a25 a26 : Nat → Int32) (sz tr : Nat) (x : Int32) (htr : tr ≤ 6) : Met l yX6_fire wsX6_fire ({ frames := 2, cells := 0, slots := 0, locals := 48 } : Room) (wr_P D (tysC cI cJ cZ cA) [.ref (r 0), .int x] (mw cI r i0 (nI tr) i7 i8 i9 i13 i15 i17 i18 i19 i22 i23 a1 a2 a4 a5 a6 a10 a11 a12 a14 a16 a20 a21 a24 a25 a26) sz) (wr_Qi D (S := Nat → Int32) (mw cI r i0 (nI tr) i7 i8 i9 i13 i15 i17 i18 i19 i22 i23 a1 a2 a4 a5 a6 a10 a11 a12 a14 a16 a20 a21 a24 a25 a26) sz (fun r9 u => r9 = bI (fireM tr a4 a5 a6 x).1 ∧ u = (fireM tr a4 a5 a6 x).2) (fun u => (mw cI r i0 (nI tr) i7 i8 i9 i13 i15 i17 i18 i19 i22 i23 a1 a2 a4 a5 u a10 a11 a12 a14 a16 a20 a21 a24 a25 a26))) 0 0 (va_A (mw cI r i0 (nI tr) i7 i8 i9 i13 i15 i17 i18 i19 i22 i23 a1 a2 a4 a5 a6 a10 a11 a12 a14 a16 a20 a21 a24 a25 a26) sz) := by
  refine met_wi (cc := cX6_fire) (maxL := 3) (ty := .boolean) (by decide) rfl (Nat.le_of_ble_eq_true rfl) ?_
  intro p e s m args below meth c Q A hx hb hml hown hts hP hK hD hA hret ls hl
  obtain ⟨H, hH9⟩ : ∃ H : Heap, H = s.heap := ⟨_, rfl⟩
  have hP : va_P D vwCl (mw cI r i0 (nI tr) i7 i8 i9 i13 i15 i17 i18 i19 i22 i23 a1 a2 a4 a5 a6 a10 a11 a12 a14 a16 a20 a21 a24 a25 a26) H := by rw [hH9]; exact hP
  have hS : va_S A s.heap H [] := by rw [hH9]; exact va_S.rf
  rw [← hH9]
  have hown : s.vm.findClass RX6 = some m.cls := hown
  have hin6 : ∀ w ∈ wsX60, w ∈ wsX6_fire := by decide +kernel
  have fl22 := hts (.fieldLink RX6 22 "CoverRoundsModel" "now" "[I") (by decide +kernel)
  have fl19 := hts (.fieldLink RX6 19 "CoverRoundsModel" "gives" "[I") (by decide +kernel)
  have fl16 := hts (.fieldLink RX6 16 "CoverRoundsModel" "takes" "[I") (by decide +kernel)
  have hl : lv_has ls 3 [(0, .ref (r 0)), (1, .int x)] := hl
  refine lv_aload_n hx hb dX6_fire_0 rfl (lv_at hl 0 rfl) ?_
  refine lv_aload_n hx hb dX6_fire_1 rfl (lv_at hl 0 rfl) ?_
  refine va_get (D := D) (ci := 5) (v := .ref (r 6)) (C := RX6) (T := TX6) (N := 27) hx hb hts hin6 hown hK hP 0 rfl rfl 6 (by decide) fl22 (fun _ h9 => h9) rfl dX6_fire_2 ?_
  refine lv_iconst (v := nI 0) hx hb dX6_fire_5 (by decide) ?_
  refine lv_iload_n hx hb dX6_fire_6 rfl (lv_at hl 1 rfl) ?_
  refine wk_Vi (As := [.ref (r 6), .int (nI 0), .int x]) (rest := []) ⟨hx, hb, hml, hown, hts⟩ (c_X6_canFire l D cI cJ cZ cA r i0 i7 i8 i9 i13 i15 i17 i18 i19 i22 i23 a1 a2 a4 a5 a6 a10 a11 a12 a14 a16 a20 a21 a24 a25 a26 tr (r 6) 5 0 a6 x (by omega) (by omega) (by omega)) (cwV 3 hts gX6_fire_X6_canFire rfl rfl rfl (by decide +kernel) ⟨Nat.le_of_ble_eq_true rfl, Nat.le_of_ble_eq_true rfl⟩) hK hP [0, 1, 2, 3, 4, 5, 6, 7, 8, 9, 10, 11, 12, 13, 14, 15, 5] rfl 0 5 rfl rfl hS rfl hl.1 rfl (Nat.le_of_ble_eq_true rfl) dX6_fire_7 ⟨Nat.zero_le _, Nat.zero_le _⟩ (fun H locs hP hS => ?_)
  refine wk_if_neb (tgt := 15) hx hb dX6_fire_10 (by decide) (fun c10 => ?_) (fun c10 => ?_)
  · skip
    have hc9 := c10
    unfold canM at hc9
    rw [Bool.and_eq_true] at hc9
    obtain ⟨j, hj, rfl⟩ := inB_nI (by omega) hc9.1
    have hcl : (nI j).toNatClampNeg = j := nI_clamp (by omega)
    refine lv_iconst (v := nI 0) hx hb dX6_fire_15 (by decide) ?_
    refine lv_istore_n (lv' := [(2, .int (nI 0)), (0, .ref (r 0)), (1, .int (nI j))]) hx hb dX6_fire_16 rfl hl (by decide) rfl (fun ls hl => ?_)
    have lp17 : ∀ (n9 : Nat) (k : Nat), 5 - k < n9 → k ≤ 5 → ∀ (H : Heap) (locs : List Loc) (ls : Array Slot), va_P D vwCl (mw cI r i0 (nI tr) i7 i8 i9 i13 i15 i17 i18 i19 i22 i23 a1 a2 a4 a5 (cpN (fiM a4 a5 a6 j) a6 k) a10 a11 a12 a14 a16 a20 a21 a24 a25 a26) H → va_D A (mw cI r i0 (nI tr) i7 i8 i9 i13 i15 i17 i18 i19 i22 i23 a1 a2 a4 a5 (cpN (fiM a4 a5 a6 j) a6 k) a10 a11 a12 a14 a16 a20 a21 a24 a25 a26) → va_S A s.heap H locs → lv_has ls 3 [(0, .ref (r 0)), (1, .int (nI j)), (2, .int (nI k))] → W p l e ({ frames := 2, cells := 0, slots := 0, locals := 48 } : Room) s m args below meth c H locs 0 0 Q (F0 m 17 ls []) := by
      intro n9
      induction n9 with
      | zero => intro k hm17; exact absurd hm17 (Nat.not_lt_zero _)
      | succ n9 ih17 =>
        intro k hm17 hk H locs ls hP hD hS hl
        refine lv_iload_n hx hb dX6_fire_17 rfl (lv_at hl 2 rfl) ?_
        refine lv_iconst (v := nI 5) hx hb dX6_fire_18 (by decide) ?_
        refine wk_icmp_ge (tgt := 58) hx hb (by omega) (by omega) dX6_fire_19 (by decide) (fun c19 => ?_) (fun c19 => ?_)
        · skip
          refine lv_iconst (v := nI 1) hx hb dX6_fire_58 (by decide) ?_
          have hk5 : k = 5 := by omega
          subst hk5
          exact hret _ _ _ _ _ _ _ _ rfl ⟨bI_T (by simp [fireM, c10]), by simp [fireM, c10, hcl]⟩ hP hD dX6_fire_59 hS (Nat.zero_le _) (Nat.zero_le _)
        · skip
          refine lv_aload_n hx hb dX6_fire_22 rfl (lv_at hl 0 rfl) ?_
          refine va_get (D := D) (ci := 5) (v := .ref (r 6)) (C := RX6) (T := TX6) (N := 27) hx hb hts hin6 hown hK hP 0 rfl rfl 6 (by decide) fl22 (fun _ h9 => h9) rfl dX6_fire_23 ?_
          refine lv_iload_n hx hb dX6_fire_26 rfl (lv_at hl 2 rfl) ?_
          refine lv_dup2_11 hx hb dX6_fire_27 rfl rfl ?_
          refine wk_iald hx hb hK hP 5 0 rfl rfl (i := k) (by omega) (by omega) dX6_fire_28 ?_
          rw [show ((cpN (fiM a4 a5 a6 j) a6 k) k) = (a6 k) from cpN_ge (Nat.le_refl _)]
          refine lv_aload_n hx hb dX6_fire_29 rfl (lv_at hl 0 rfl) ?_
          refine va_get (D := D) (ci := 5) (v := .ref (r 5)) (C := RX6) (T := TX6) (N := 27) hx hb hts hin6 hown hK hP 0 rfl rfl 5 (by decide) fl19 (fun _ h9 => h9) rfl dX6_fire_30 ?_
          refine lv_iconst (v := nI 5) hx hb dX6_fire_33 (by decide) ?_
          refine lv_iload_n hx hb dX6_fire_34 rfl (lv_at hl 1 rfl) ?_
          refine wk_imul hx hb dX6_fire_35 ?_
          refine lv_iload_n hx hb dX6_fire_36 rfl (lv_at hl 2 rfl) ?_
          refine wk_iadd hx hb dX6_fire_37 ?_
          refine wk_iald hx hb hK hP 4 0 rfl rfl (i := (5 * j) + k) (by omega) (by omega) dX6_fire_38 ?_
          refine lv_aload_n hx hb dX6_fire_39 rfl (lv_at hl 0 rfl) ?_
          refine va_get (D := D) (ci := 5) (v := .ref (r 4)) (C := RX6) (T := TX6) (N := 27) hx hb hts hin6 hown hK hP 0 rfl rfl 4 (by decide) fl16 (fun _ h9 => h9) rfl dX6_fire_40 ?_
          refine lv_iconst (v := nI 5) hx hb dX6_fire_43 (by decide) ?_
          refine lv_iload_n hx hb dX6_fire_44 rfl (lv_at hl 1 rfl) ?_
          refine wk_imul hx hb dX6_fire_45 ?_
          refine lv_iload_n hx hb dX6_fire_46 rfl (lv_at hl 2 rfl) ?_
          refine wk_iadd hx hb dX6_fire_47 ?_
          refine wk_iald hx hb hK hP 3 0 rfl rfl (i := (5 * j) + k) (by omega) (by omega) dX6_fire_48 ?_
          refine lv_isub hx hb dX6_fire_49 ?_
          refine lv_iadd hx hb dX6_fire_50 ?_
          refine wk_iast hx hb hK hP hD hS 5 0 rfl rfl (i := k) (by omega) (by omega) dX6_fire_51 (fun H locs hP hD hS => ?_)
          have hP : va_P D vwCl (mw cI r i0 (nI tr) i7 i8 i9 i13 i15 i17 i18 i19 i22 i23 a1 a2 a4 a5 (upd (cpN (fiM a4 a5 a6 j) a6 k) k ((a6 k) + ((a5 ((5 * j) + k)) - (a4 ((5 * j) + k))))) a10 a11 a12 a14 a16 a20 a21 a24 a25 a26) H := hP
          have hD : va_D A (mw cI r i0 (nI tr) i7 i8 i9 i13 i15 i17 i18 i19 i22 i23 a1 a2 a4 a5 (upd (cpN (fiM a4 a5 a6 j) a6 k) k ((a6 k) + ((a5 ((5 * j) + k)) - (a4 ((5 * j) + k))))) a10 a11 a12 a14 a16 a20 a21 a24 a25 a26) := hD
          refine lv_iinc (v := (nI (k + 1))) (lv' := [(2, .int (nI (k + 1))), (0, .ref (r 0)), (1, .int (nI j))]) hx hb dX6_fire_52 hl (k := 2) rfl (by exact nI_1 _) (by decide) rfl (fun ls hl => ?_)
          refine lv_goto (tgt := 17) hx hb dX6_fire_55 (by decide) ?_
          have hP : va_P D vwCl (mw cI r i0 (nI tr) i7 i8 i9 i13 i15 i17 i18 i19 i22 i23 a1 a2 a4 a5 (cpN (fiM a4 a5 a6 j) a6 (k + 1)) a10 a11 a12 a14 a16 a20 a21 a24 a25 a26) H := by rw [← cpN_s]; exact hP
          have hD : va_D A (mw cI r i0 (nI tr) i7 i8 i9 i13 i15 i17 i18 i19 i22 i23 a1 a2 a4 a5 (cpN (fiM a4 a5 a6 j) a6 (k + 1)) a10 a11 a12 a14 a16 a20 a21 a24 a25 a26) := by rw [← cpN_s]; exact hD
          exact ih17 (k + 1) (by omega) (by omega) _ _ _ hP hD hS (lv_sub hl [1, 2, 0] rfl)
    have hP : va_P D vwCl (mw cI r i0 (nI tr) i7 i8 i9 i13 i15 i17 i18 i19 i22 i23 a1 a2 a4 a5 (cpN (fiM a4 a5 a6 j) a6 0) a10 a11 a12 a14 a16 a20 a21 a24 a25 a26) H := by rw [cpN_0]; exact hP
    have hD : va_D A (mw cI r i0 (nI tr) i7 i8 i9 i13 i15 i17 i18 i19 i22 i23 a1 a2 a4 a5 (cpN (fiM a4 a5 a6 j) a6 0) a10 a11 a12 a14 a16 a20 a21 a24 a25 a26) := by rw [cpN_0]; exact hD
    exact lp17 _ 0 (Nat.lt_succ_self _) (by omega) _ _ _ hP hD hS (lv_sub hl [1, 2, 0] rfl)
  · skip
    refine lv_iconst (v := nI 0) hx hb dX6_fire_13 (by decide) ?_
    exact hret _ a6 _ _ _ _ _ _ rfl ⟨bI_F (by simp [fireM, c10]), by simp [fireM, c10]⟩ hP hD dX6_fire_14 hS (Nat.zero_le _) (Nat.zero_le _)

set_option maxHeartbeats 4000000 in
set_option maxRecDepth 100000 in
theorem c_X6_tokens (l : Launch) (D : va_G) (cI cJ cZ cA : ClassId) (r : Nat → Nat) (i3 i7 i8 i9 i13 i15 i17 i18 i19 i22 i23 : Int32) (a1 a2 a4 a5 a6 a10 a11 a12 a14 a16 a20 a21 a24 a25 a26 : Nat → Int32) (pl : Nat) (x : Int32) (hpl : pl ≤ 5) : Met l yX6_tokens wsX6_tokens ({ frames := 1, cells := 0, slots := 0, locals := 21 } : Room) (ro_P D (tysC cI cJ cZ cA) [.ref (r 0), .int x] (mw cI r (nI pl) i3 i7 i8 i9 i13 i15 i17 i18 i19 i22 i23 a1 a2 a4 a5 a6 a10 a11 a12 a14 a16 a20 a21 a24 a25 a26)) (ro_Q (if inB x (nI pl) then a6 x.toNatClampNeg else -1)) 0 0 (fun _ => False) := by
  refine met_ro (cc := cX6_tokens) (maxL := 2) (ty := .int) (by decide) rfl (Nat.le_of_ble_eq_true rfl) rfl ?_
  intro p e s m args below meth c Q hx hb hml hown hts hP hK hret ls hl
  obtain ⟨H, hH9⟩ : ∃ H : Heap, H = s.heap := ⟨_, rfl⟩
  have hP : va_P D vwCl (mw cI r (nI pl) i3 i7 i8 i9 i13 i15 i17 i18 i19 i22 i23 a1 a2 a4 a5 a6 a10 a11 a12 a14 a16 a20 a21 a24 a25 a26) H := by rw [hH9]; exact hP
  have hS : va_S (fun _ => False) s.heap H [] := by rw [hH9]; exact va_S.rf
  rw [← hH9]
  have hown : s.vm.findClass RX6 = some m.cls := hown
  have hin6 : ∀ w ∈ wsX60, w ∈ wsX6_tokens := by decide +kernel
  have fl22 := hts (.fieldLink RX6 22 "CoverRoundsModel" "now" "[I") (by decide +kernel)
  have hl : lv_has ls 2 [(0, .ref (r 0)), (1, .int x)] := hl
  refine lv_aload_n hx hb dX6_tokens_0 rfl (lv_at hl 0 rfl) ?_
  refine lv_iload_n hx hb dX6_tokens_1 rfl (lv_at hl 1 rfl) ?_
  refine wk_Vi (As := [.int x]) (rest := []) ⟨hx, hb, hml, hown, hts⟩ (c_X6_isPlace l D cI cJ cZ cA r (nI pl) i3 i7 i8 i9 i13 i15 i17 i18 i19 i22 i23 a1 a2 a4 a5 a6 a10 a11 a12 a14 a16 a20 a21 a24 a25 a26 x) (cwV 1 hts gX6_tokens_X6_isPlace rfl rfl rfl (by decide +kernel) ⟨Nat.le_of_ble_eq_true rfl, Nat.le_of_ble_eq_true rfl⟩) hK hP [0, 1, 2, 3, 4, 5, 6, 7, 8, 9, 10, 11, 12, 13, 14, 15] rfl 0 5 rfl rfl hS rfl hl.1 rfl (Nat.le_of_ble_eq_true rfl) dX6_tokens_2 ⟨Nat.zero_le _, Nat.zero_le _⟩ (fun H locs hP hS => ?_)
  refine wk_if_eqb (tgt := 17) hx hb dX6_tokens_5 (by decide) (fun c5 => ?_) (fun c5 => ?_)
  · skip
    refine lv_iconst (v := -1) hx hb dX6_tokens_17 (by decide) ?_
    exact hret _ _ _ _ _ (by simp [c5]) dX6_tokens_18 hS
  · skip
    obtain ⟨j, hj, rfl⟩ := inB_nI (by omega) c5
    have hcl : (nI j).toNatClampNeg = j := nI_clamp (by omega)
    refine lv_aload_n hx hb dX6_tokens_8 rfl (lv_at hl 0 rfl) ?_
    refine va_get (D := D) (ci := 5) (v := .ref (r 6)) (C := RX6) (T := TX6) (N := 27) hx hb hts hin6 hown hK hP 0 rfl rfl 6 (by decide) fl22 (fun _ h9 => h9) rfl dX6_tokens_9 ?_
    refine lv_iload_n hx hb dX6_tokens_12 rfl (lv_at hl 1 rfl) ?_
    refine wk_iald hx hb hK hP 5 0 rfl rfl (i := j) (by omega) (by omega) dX6_tokens_13 ?_
    refine lv_goto (tgt := 18) hx hb dX6_tokens_14 (by decide) ?_
    exact hret _ _ _ _ _ (by simp [c5, hcl]) dX6_tokens_18 hS
