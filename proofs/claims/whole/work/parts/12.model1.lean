set_option maxHeartbeats 4000000 in
set_option maxRecDepth 100000 in
theorem c_X6_isPlace (l : Launch) (D : va_G) (cI cJ cZ cA : ClassId) (r : Nat → Nat) (i0 i3 i7 i8 i9 i13 i15 i17 i18 i19 i22 i23 : Int32) (a1 a2 a4 a5 a6 a10 a11 a12 a14 a16 a20 a21 a24 a25 a26 : Nat → Int32) (x : Int32) : Met l yX6_isPlace wsX6_isPlace ({ frames := 0, cells := 0, slots := 0, locals := 0 } : Room) (ro_P D (tysC cI cJ cZ cA) [.ref (r 0), .int x] (mw cI r i0 i3 i7 i8 i9 i13 i15 i17 i18 i19 i22 i23 a1 a2 a4 a5 a6 a10 a11 a12 a14 a16 a20 a21 a24 a25 a26)) (ro_Q (bI (inB x i0))) 0 0 (fun _ => False) := by
  refine met_ro (cc := cX6_isPlace) (maxL := 2) (ty := .boolean) (by decide) rfl (Nat.le_of_ble_eq_true rfl) (bI_n _) ?_
  intro p e s m args below meth c Q hx hb hml hown hts hP hK hret ls hl
  obtain ⟨H, hH9⟩ : ∃ H : Heap, H = s.heap := ⟨_, rfl⟩
  have hP : va_P D vwCl (mw cI r i0 i3 i7 i8 i9 i13 i15 i17 i18 i19 i22 i23 a1 a2 a4 a5 a6 a10 a11 a12 a14 a16 a20 a21 a24 a25 a26) H := by rw [hH9]; exact hP
  have hS : va_S (fun _ => False) s.heap H [] := by rw [hH9]; exact va_S.rf
  rw [← hH9]
  have hown : s.vm.findClass RX6 = some m.cls := hown
  have hin6 : ∀ w ∈ wsX60, w ∈ wsX6_isPlace := by decide +kernel
  have fl60 := hts (.fieldLink RX6 60 "CoverRoundsModel" "places" "I") (by decide +kernel)
  have hl : lv_has ls 2 [(0, .ref (r 0)), (1, .int x)] := hl
  refine lv_iload_n hx hb dX6_isPlace_0 rfl (lv_at hl 1 rfl) ?_
  refine lv_if_lt (tgt := 16) hx hb dX6_isPlace_1 (by decide) (fun c1 => ?_) (fun c1 => ?_)
  · skip
    refine lv_iconst (v := nI 0) hx hb dX6_isPlace_16 (by decide) ?_
    exact hret _ _ _ _ _ (bI_F (by simp [inB, c1])) dX6_isPlace_17 hS
  · skip
    refine lv_iload_n hx hb dX6_isPlace_4 rfl (lv_at hl 1 rfl) ?_
    refine lv_aload_n hx hb dX6_isPlace_5 rfl (lv_at hl 0 rfl) ?_
    refine va_get (D := D) (ci := 5) (v := .int i0) (C := RX6) (T := TX6) (N := 27) hx hb hts hin6 hown hK hP 0 rfl rfl 0 (by decide) fl60 (fun _ h9 => h9) rfl dX6_isPlace_6 ?_
    refine lv_icmp_ge (tgt := 16) hx hb dX6_isPlace_9 (by decide) (fun c9 => ?_) (fun c9 => ?_)
    · skip
      refine lv_iconst (v := nI 0) hx hb dX6_isPlace_16 (by decide) ?_
      exact hret _ _ _ _ _ (bI_F (by simp [inB, c1, c9])) dX6_isPlace_17 hS
    · skip
      refine lv_iconst (v := nI 1) hx hb dX6_isPlace_12 (by decide) ?_
      refine lv_goto (tgt := 17) hx hb dX6_isPlace_13 (by decide) ?_
      exact hret _ _ _ _ _ (bI_T (by simp [inB, c1, c9])) dX6_isPlace_17 hS

set_option maxHeartbeats 4000000 in
set_option maxRecDepth 100000 in
theorem c_X6_isTransition (l : Launch) (D : va_G) (cI cJ cZ cA : ClassId) (r : Nat → Nat) (i0 i3 i7 i8 i9 i13 i15 i17 i18 i19 i22 i23 : Int32) (a1 a2 a4 a5 a6 a10 a11 a12 a14 a16 a20 a21 a24 a25 a26 : Nat → Int32) (x : Int32) : Met l yX6_isTransition wsX6_isTransition ({ frames := 0, cells := 0, slots := 0, locals := 0 } : Room) (ro_P D (tysC cI cJ cZ cA) [.ref (r 0), .int x] (mw cI r i0 i3 i7 i8 i9 i13 i15 i17 i18 i19 i22 i23 a1 a2 a4 a5 a6 a10 a11 a12 a14 a16 a20 a21 a24 a25 a26)) (ro_Q (bI (inB x i3))) 0 0 (fun _ => False) := by
  refine met_ro (cc := cX6_isTransition) (maxL := 2) (ty := .boolean) (by decide) rfl (Nat.le_of_ble_eq_true rfl) (bI_n _) ?_
  intro p e s m args below meth c Q hx hb hml hown hts hP hK hret ls hl
  obtain ⟨H, hH9⟩ : ∃ H : Heap, H = s.heap := ⟨_, rfl⟩
  have hP : va_P D vwCl (mw cI r i0 i3 i7 i8 i9 i13 i15 i17 i18 i19 i22 i23 a1 a2 a4 a5 a6 a10 a11 a12 a14 a16 a20 a21 a24 a25 a26) H := by rw [hH9]; exact hP
  have hS : va_S (fun _ => False) s.heap H [] := by rw [hH9]; exact va_S.rf
  rw [← hH9]
  have hown : s.vm.findClass RX6 = some m.cls := hown
  have hin6 : ∀ w ∈ wsX60, w ∈ wsX6_isTransition := by decide +kernel
  have fl63 := hts (.fieldLink RX6 63 "CoverRoundsModel" "transitions" "I") (by decide +kernel)
  have hl : lv_has ls 2 [(0, .ref (r 0)), (1, .int x)] := hl
  refine lv_iload_n hx hb dX6_isTransition_0 rfl (lv_at hl 1 rfl) ?_
  refine lv_if_lt (tgt := 16) hx hb dX6_isTransition_1 (by decide) (fun c1 => ?_) (fun c1 => ?_)
  · skip
    refine lv_iconst (v := nI 0) hx hb dX6_isTransition_16 (by decide) ?_
    exact hret _ _ _ _ _ (bI_F (by simp [inB, c1])) dX6_isTransition_17 hS
  · skip
    refine lv_iload_n hx hb dX6_isTransition_4 rfl (lv_at hl 1 rfl) ?_
    refine lv_aload_n hx hb dX6_isTransition_5 rfl (lv_at hl 0 rfl) ?_
    refine va_get (D := D) (ci := 5) (v := .int i3) (C := RX6) (T := TX6) (N := 27) hx hb hts hin6 hown hK hP 0 rfl rfl 3 (by decide) fl63 (fun _ h9 => h9) rfl dX6_isTransition_6 ?_
    refine lv_icmp_ge (tgt := 16) hx hb dX6_isTransition_9 (by decide) (fun c9 => ?_) (fun c9 => ?_)
    · skip
      refine lv_iconst (v := nI 0) hx hb dX6_isTransition_16 (by decide) ?_
      exact hret _ _ _ _ _ (bI_F (by simp [inB, c1, c9])) dX6_isTransition_17 hS
    · skip
      refine lv_iconst (v := nI 1) hx hb dX6_isTransition_12 (by decide) ?_
      refine lv_goto (tgt := 17) hx hb dX6_isTransition_13 (by decide) ?_
      exact hret _ _ _ _ _ (bI_T (by simp [inB, c1, c9])) dX6_isTransition_17 hS

set_option maxHeartbeats 4000000 in
set_option maxRecDepth 100000 in
theorem c_X6_isIn (l : Launch) (D : va_G) (cI cJ cZ cA : ClassId) (x y : Int32) : Met l yX6_isIn wsX6_isIn ({ frames := 0, cells := 0, slots := 0, locals := 0 } : Room) (ro_P D (tysC cI cJ cZ cA) [.int x, .int y] []) (ro_Q (bI (inC x y))) 0 0 (fun _ => False) := by
  refine met_ro (cc := cX6_isIn) (maxL := 2) (ty := .boolean) (by decide) rfl (Nat.le_of_ble_eq_true rfl) (bI_n _) ?_
  intro p e s m args below meth c Q hx hb hml hown hts hP hK hret ls hl
  obtain ⟨H, hH9⟩ : ∃ H : Heap, H = s.heap := ⟨_, rfl⟩
  have hP : va_P D vwCl [] H := by rw [hH9]; exact hP
  have hS : va_S (fun _ => False) s.heap H [] := by rw [hH9]; exact va_S.rf
  rw [← hH9]
  have hown : s.vm.findClass RX6 = some m.cls := hown
  have hl : lv_has ls 2 [(0, .int x), (1, .int y)] := hl
  refine lv_iload_n hx hb dX6_isIn_0 rfl (lv_at hl 0 rfl) ?_
  refine lv_if_lt (tgt := 13) hx hb dX6_isIn_1 (by decide) (fun c1 => ?_) (fun c1 => ?_)
  · skip
    refine lv_iconst (v := nI 0) hx hb dX6_isIn_13 (by decide) ?_
    exact hret _ _ _ _ _ (bI_F (by simp [inC, c1])) dX6_isIn_14 hS
  · skip
    refine lv_iload_n hx hb dX6_isIn_4 rfl (lv_at hl 0 rfl) ?_
    refine lv_iload_n hx hb dX6_isIn_5 rfl (lv_at hl 1 rfl) ?_
    refine lv_icmp_gt (tgt := 13) hx hb dX6_isIn_6 (by decide) (fun c6 => ?_) (fun c6 => ?_)
    · skip
      refine lv_iconst (v := nI 0) hx hb dX6_isIn_13 (by decide) ?_
      exact hret _ _ _ _ _ (bI_F (by simp [inC, c1, c6])) dX6_isIn_14 hS
    · skip
      refine lv_iconst (v := nI 1) hx hb dX6_isIn_9 (by decide) ?_
      refine lv_goto (tgt := 14) hx hb dX6_isIn_10 (by decide) ?_
      exact hret _ _ _ _ _ (bI_T (by simp [inC, c1, c6])) dX6_isIn_14 hS

set_option maxHeartbeats 4000000 in
set_option maxRecDepth 100000 in
theorem c_X6_tops (l : Launch) (D : va_G) (cI cJ cZ cA : ClassId) (ax ay nx ny x y : Nat) (f g : Nat → Int32) (hnx : nx < 2 ^ 31) (hny : ny < 2 ^ 31) (hx5 : x + 5 ≤ nx) (hy5 : y + 5 ≤ ny) : Met l yX6_tops wsX6_tops ({ frames := 0, cells := 0, slots := 0, locals := 0 } : Room) (ro_P D (tysC cI cJ cZ cA) [.ref ax, .int (nI x), .ref ay, .int (nI y)] [(ax, .inl (cI, nx, .inl f)), (ay, .inl (cI, ny, .inl g))]) (ro_Q (bI (tpB f x g y))) 0 0 (fun _ => False) := by
  refine met_ro (cc := cX6_tops) (maxL := 6) (ty := .boolean) (by decide) rfl (Nat.le_of_ble_eq_true rfl) (bI_n _) ?_
  intro p e s m args below meth c Q hx hb hml hown hts hP hK hret ls hl
  obtain ⟨H, hH9⟩ : ∃ H : Heap, H = s.heap := ⟨_, rfl⟩
  have hP : va_P D vwCl [(ax, .inl (cI, nx, .inl f)), (ay, .inl (cI, ny, .inl g))] H := by rw [hH9]; exact hP
  have hS : va_S (fun _ => False) s.heap H [] := by rw [hH9]; exact va_S.rf
  rw [← hH9]
  have hown : s.vm.findClass RX6 = some m.cls := hown
  have hl : lv_has ls 6 [(0, .ref ax), (1, .int (nI x)), (2, .ref ay), (3, .int (nI y))] := hl
  refine lv_iconst (v := nI 1) hx hb dX6_tops_0 (by decide) ?_
  refine lv_istore (lv' := [(4, .int (nI 1)), (0, .ref ax), (1, .int (nI x)), (2, .ref ay), (3, .int (nI y))]) hx hb dX6_tops_1 hl (by decide) rfl (fun ls hl => ?_)
  refine lv_iconst (v := nI 0) hx hb dX6_tops_3 (by decide) ?_
  refine lv_istore (lv' := [(5, .int (nI 0)), (4, .int (nI 1)), (0, .ref ax), (1, .int (nI x)), (2, .ref ay), (3, .int (nI y))]) hx hb dX6_tops_4 hl (by decide) rfl (fun ls hl => ?_)
  have lp6 : ∀ (n9 : Nat) (k : Nat) (t : Bool), 5 - k < n9 → k ≤ 5 → (t = true ↔ ∀ q, q < k → ¬ f (x + q) < g (y + q)) → ∀ (H : Heap) (locs : List Loc) (ls : Array Slot), va_P D vwCl [(ax, .inl (cI, nx, .inl f)), (ay, .inl (cI, ny, .inl g))] H → va_S (fun _ => False) s.heap H locs → lv_has ls 6 [(0, .ref ax), (1, .int (nI x)), (2, .ref ay), (3, .int (nI y)), (4, .int (bI t)), (5, .int (nI k))] → W p l e ({ frames := 0, cells := 0, slots := 0, locals := 0 } : Room) s m args below meth c H locs 0 0 Q (F0 m 6 ls []) := by
    intro n9
    induction n9 with
    | zero => intro k t hm6; exact absurd hm6 (Nat.not_lt_zero _)
    | succ n9 ih6 =>
      intro k t hm6 hk ht H locs ls hP hS hl
      refine lv_iload hx hb dX6_tops_6 (lv_at hl 5 rfl) ?_
      refine lv_iconst (v := nI 5) hx hb dX6_tops_8 (by decide) ?_
      refine wk_icmp_ge (tgt := 45) hx hb (by omega) (by omega) dX6_tops_9 (by decide) (fun c9 => ?_) (fun c9 => ?_)
      · skip
        refine lv_iload hx hb dX6_tops_45 (lv_at hl 4 rfl) ?_
        have hk5 : k = 5 := by omega
        subst hk5
        exact hret _ _ _ _ _ (congrArg bI (bb_eq ht tpB_iff)) dX6_tops_47 hS
      · skip
        refine lv_iload hx hb dX6_tops_12 (lv_at hl 4 rfl) ?_
        refine wk_if_eqb (tgt := 36) hx hb dX6_tops_14 (by decide) (fun c14 => ?_) (fun c14 => ?_)
        · skip
          refine lv_iconst (v := nI 0) hx hb dX6_tops_36 (by decide) ?_
          refine lv_istore (lv' := [(4, .int (nI 0)), (0, .ref ax), (1, .int (nI x)), (2, .ref ay), (3, .int (nI y)), (5, .int (nI k))]) hx hb dX6_tops_37 hl (by decide) rfl (fun ls hl => ?_)
          refine lv_iinc (v := (nI (k + 1))) (lv' := [(5, .int (nI (k + 1))), (4, .int (nI 0)), (0, .ref ax), (1, .int (nI x)), (2, .ref ay), (3, .int (nI y))]) hx hb dX6_tops_39 hl (k := 5) rfl (by exact nI_1 _) (by decide) rfl (fun ls hl => ?_)
          refine lv_goto (tgt := 6) hx hb dX6_tops_42 (by decide) ?_
          exact ih6 (k + 1) false (by omega) (by omega) (al_f1 ht c14) _ _ _ hP hS (lv_sub hl [2, 3, 4, 5, 1, 0] rfl)
        · skip
          refine lv_aload_n hx hb dX6_tops_17 rfl (lv_at hl 0 rfl) ?_
          refine lv_iload_n hx hb dX6_tops_18 rfl (lv_at hl 1 rfl) ?_
          refine lv_iload hx hb dX6_tops_19 (lv_at hl 5 rfl) ?_
          refine wk_iadd hx hb dX6_tops_21 ?_
          refine wk_iald hx hb hK hP 0 0 rfl rfl (i := x + k) (by omega) (by omega) dX6_tops_22 ?_
          refine lv_aload_n hx hb dX6_tops_23 rfl (lv_at hl 2 rfl) ?_
          refine lv_iload_n hx hb dX6_tops_24 rfl (lv_at hl 3 rfl) ?_
          refine lv_iload hx hb dX6_tops_25 (lv_at hl 5 rfl) ?_
          refine wk_iadd hx hb dX6_tops_27 ?_
          refine wk_iald hx hb hK hP 1 0 rfl rfl (i := y + k) (by omega) (by omega) dX6_tops_28 ?_
          refine lv_icmp_lt (tgt := 36) hx hb dX6_tops_29 (by decide) (fun c29 => ?_) (fun c29 => ?_)
          · skip
            refine lv_iconst (v := nI 0) hx hb dX6_tops_36 (by decide) ?_
            refine lv_istore (lv' := [(4, .int (nI 0)), (0, .ref ax), (1, .int (nI x)), (2, .ref ay), (3, .int (nI y)), (5, .int (nI k))]) hx hb dX6_tops_37 hl (by decide) rfl (fun ls hl => ?_)
            refine lv_iinc (v := (nI (k + 1))) (lv' := [(5, .int (nI (k + 1))), (4, .int (nI 0)), (0, .ref ax), (1, .int (nI x)), (2, .ref ay), (3, .int (nI y))]) hx hb dX6_tops_39 hl (k := 5) rfl (by exact nI_1 _) (by decide) rfl (fun ls hl => ?_)
            refine lv_goto (tgt := 6) hx hb dX6_tops_42 (by decide) ?_
            exact ih6 (k + 1) false (by omega) (by omega) (al_f2 (fun h => h c29)) _ _ _ hP hS (lv_sub hl [2, 3, 4, 5, 1, 0] rfl)
          · skip
            refine lv_iconst (v := nI 1) hx hb dX6_tops_32 (by decide) ?_
            refine lv_goto (tgt := 37) hx hb dX6_tops_33 (by decide) ?_
            refine lv_istore (lv' := [(4, .int (nI 1)), (0, .ref ax), (1, .int (nI x)), (2, .ref ay), (3, .int (nI y)), (5, .int (nI k))]) hx hb dX6_tops_37 hl (by decide) rfl (fun ls hl => ?_)
            refine lv_iinc (v := (nI (k + 1))) (lv' := [(5, .int (nI (k + 1))), (4, .int (nI 1)), (0, .ref ax), (1, .int (nI x)), (2, .ref ay), (3, .int (nI y))]) hx hb dX6_tops_39 hl (k := 5) rfl (by exact nI_1 _) (by decide) rfl (fun ls hl => ?_)
            refine lv_goto (tgt := 6) hx hb dX6_tops_42 (by decide) ?_
            exact ih6 (k + 1) true (by omega) (by omega) (al_t ht c14 c29) _ _ _ hP hS (lv_sub hl [2, 3, 4, 5, 1, 0] rfl)
  exact lp6 _ 0 true (Nat.lt_succ_self _) (by omega) al_0 _ _ _ hP hS (lv_sub hl [2, 3, 4, 5, 1, 0] rfl)
