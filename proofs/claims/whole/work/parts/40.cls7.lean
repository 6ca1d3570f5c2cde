set_option maxHeartbeats 4000000 in
set_option maxRecDepth 100000 in
theorem c_X4_hasPlace (l : Launch) (D : va_G) (cI cJ cZ cA : ClassId) (ta : Nat → Nat) (g0 g1 g2 g3 : Int32) (h4 h5 h6 h7 h8 : Nat → Int32) (x : Int32) : Met l yX4_hasPlace wsX4_hasPlace ({ frames := 0, cells := 0, slots := 0, locals := 0 } : Room) (ro_P D (tysC cI cJ cZ cA) [.ref (ta 0), .int x] (tw cI cZ ta g0 g1 g2 g3 h4 h5 h6 h7 h8)) (ro_Q (bI (inB x g1))) 0 0 (fun _ => False) := by
  refine met_ro (cc := cX4_hasPlace) (maxL := 2) (ty := .boolean) (by decide) rfl (Nat.le_of_ble_eq_true rfl) (bI_n _) ?_
  intro p e s m args below meth c Q hx hb hml hown hts hP hK hret ls hl
  obtain ⟨H, hH9⟩ : ∃ H : Heap, H = s.heap := ⟨_, rfl⟩
  have hP : va_P D vwCl (tw cI cZ ta g0 g1 g2 g3 h4 h5 h6 h7 h8) H := by rw [hH9]; exact hP
  have hS : va_S (fun _ => False) s.heap H [] := by rw [hH9]; exact va_S.rf
  rw [← hH9]
  have hown : s.vm.findClass RX4 = some m.cls := hown
  have hin4 : ∀ w ∈ wsX40, w ∈ wsX4_hasPlace := by decide +kernel
  have fl15 := hts (.fieldLink RX4 15 "CoverRounds$Tree" "places" "I") (by decide +kernel)
  have hl : lv_has ls 2 [(0, .ref (ta 0)), (1, .int x)] := hl
  refine lv_iload_n hx hb dX4_hasPlace_0 rfl (lv_at hl 1 rfl) ?_
  refine lv_if_lt (tgt := 16) hx hb dX4_hasPlace_1 (by decide) (fun c1 => ?_) (fun c1 => ?_)
  · skip
    refine lv_iconst (v := nI 0) hx hb dX4_hasPlace_16 (by decide) ?_
    exact hret _ _ _ _ _ (bI_F (by simp [inB, c1])) dX4_hasPlace_17 hS
  · skip
    refine lv_iload_n hx hb dX4_hasPlace_4 rfl (lv_at hl 1 rfl) ?_
    refine lv_aload_n hx hb dX4_hasPlace_5 rfl (lv_at hl 0 rfl) ?_
    refine va_get (D := D) (ci := 3) (v := .int g1) (C := RX4) (T := TX4) (N := 9) hx hb hts hin4 hown hK hP 0 rfl rfl 1 (by decide) fl15 (fun _ h9 => h9) rfl dX4_hasPlace_6 ?_
    refine lv_icmp_ge (tgt := 16) hx hb dX4_hasPlace_9 (by decide) (fun c9 => ?_) (fun c9 => ?_)
    · skip
      refine lv_iconst (v := nI 0) hx hb dX4_hasPlace_16 (by decide) ?_
      exact hret _ _ _ _ _ (bI_F (by simp [inB, c1, c9])) dX4_hasPlace_17 hS
    · skip
      refine lv_iconst (v := nI 1) hx hb dX4_hasPlace_12 (by decide) ?_
      refine lv_goto (tgt := 17) hx hb dX4_hasPlace_13 (by decide) ?_
      exact hret _ _ _ _ _ (bI_T (by simp [inB, c1, c9])) dX4_hasPlace_17 hS

set_option maxHeartbeats 4000000 in
set_option maxRecDepth 100000 in
theorem c_X4_countAt (l : Launch) (D : va_G) (cI cJ cZ cA : ClassId) (ta : Nat → Nat) (g0 g1 g2 g3 : Int32) (h4 h5 h6 h7 h8 : Nat → Int32) (u k : Nat) (hu : u < 1000) (hk : k < 5) : Met l yX4_countAt wsX4_countAt ({ frames := 0, cells := 0, slots := 0, locals := 0 } : Room) (ro_P D (tysC cI cJ cZ cA) [.ref (ta 0), .int (nI u), .int (nI k)] (tw cI cZ ta g0 g1 g2 g3 h4 h5 h6 h7 h8)) (ro_Q (h5 (5 * u + k))) 0 0 (fun _ => False) := by
  refine met_ro (cc := cX4_countAt) (maxL := 3) (ty := .int) (by decide) rfl (Nat.le_of_ble_eq_true rfl) rfl ?_
  intro p e s m args below meth c Q hx hb hml hown hts hP hK hret ls hl
  obtain ⟨H, hH9⟩ : ∃ H : Heap, H = s.heap := ⟨_, rfl⟩
  have hP : va_P D vwCl (tw cI cZ ta g0 g1 g2 g3 h4 h5 h6 h7 h8) H := by rw [hH9]; exact hP
  have hS : va_S (fun _ => False) s.heap H [] := by rw [hH9]; exact va_S.rf
  rw [← hH9]
  have hown : s.vm.findClass RX4 = some m.cls := hown
  have hin4 : ∀ w ∈ wsX40, w ∈ wsX4_countAt := by decide +kernel
  have fl29 := hts (.fieldLink RX4 29 "CoverRounds$Tree" "counts" "[I") (by decide +kernel)
  have hl : lv_has ls 3 [(0, .ref (ta 0)), (1, .int (nI u)), (2, .int (nI k))] := hl
  refine lv_aload_n hx hb dX4_countAt_0 rfl (lv_at hl 0 rfl) ?_
  refine va_get (D := D) (ci := 3) (v := .ref (ta 5)) (C := RX4) (T := TX4) (N := 9) hx hb hts hin4 hown hK hP 0 rfl rfl 5 (by decide) fl29 (fun _ h9 => h9) rfl dX4_countAt_1 ?_
  refine lv_iload_n hx hb dX4_countAt_4 rfl (lv_at hl 1 rfl) ?_
  refine lv_iconst (v := nI 5) hx hb dX4_countAt_5 (by decide) ?_
  refine wk_imulC hx hb dX4_countAt_6 ?_
  refine lv_iload_n hx hb dX4_countAt_7 rfl (lv_at hl 2 rfl) ?_
  refine wk_iadd hx hb dX4_countAt_8 ?_
  refine wk_iald hx hb hK hP 2 0 rfl rfl (i := (5 * u) + k) (by omega) (by omega) dX4_countAt_9 ?_
  exact hret _ _ _ _ _ rfl dX4_countAt_10 hS

set_option maxHeartbeats 4000000 in
set_option maxRecDepth 100000 in
theorem c_X4_isAtLeast (l : Launch) (D : va_G) (cI cJ cZ cA : ClassId) (ta : Nat → Nat) (g0 g2 g3 : Int32) (h4 h5 h6 h7 h8 : Nat → Int32) (pl u v : Nat) (hpl : pl ≤ 5) (x y : Rw) (hu : u < 1000) (hv : v < 1000) (hxr : ∀ q, q < 5 → h5 (5 * u + q) = x q) (hyr : ∀ q, q < 5 → h5 (5 * v + q) = y q)  : Met l yX4_isAtLeast wsX4_isAtLeast ({ frames := 0, cells := 0, slots := 0, locals := 0 } : Room) (ro_P D (tysC cI cJ cZ cA) [.ref (ta 0), .int (nI u), .int (nI v)] (tw cI cZ ta g0 (nI pl) g2 g3 h4 h5 h6 h7 h8)) (ro_Q (bI (tpP pl x y))) 0 0 (fun _ => False) := by
  refine met_ro (cc := cX4_isAtLeast) (maxL := 6) (ty := .boolean) (by decide) rfl (Nat.le_of_ble_eq_true rfl) (bI_n _) ?_
  intro p e s m args below meth c Q hx hb hml hown hts hP hK hret ls hl
  obtain ⟨H, hH9⟩ : ∃ H : Heap, H = s.heap := ⟨_, rfl⟩
  have hP : va_P D vwCl (tw cI cZ ta g0 (nI pl) g2 g3 h4 h5 h6 h7 h8) H := by rw [hH9]; exact hP
  have hS : va_S (fun _ => False) s.heap H [] := by rw [hH9]; exact va_S.rf
  rw [← hH9]
  have hown : s.vm.findClass RX4 = some m.cls := hown
  have hin4 : ∀ w ∈ wsX40, w ∈ wsX4_isAtLeast := by decide +kernel
  have fl15 := hts (.fieldLink RX4 15 "CoverRounds$Tree" "places" "I") (by decide +kernel)
  have fl29 := hts (.fieldLink RX4 29 "CoverRounds$Tree" "counts" "[I") (by decide +kernel)
  have hl : lv_has ls 6 [(0, .ref (ta 0)), (1, .int (nI u)), (2, .int (nI v))] := hl
  refine lv_iload_n hx hb dX4_isAtLeast_0 rfl (lv_at hl 1 rfl) ?_
  refine lv_iconst (v := nI 5) hx hb dX4_isAtLeast_1 (by decide) ?_
  refine wk_imulC hx hb dX4_isAtLeast_2 ?_
  refine lv_istore_n (lv' := [(3, .int (nI (5 * u))), (0, .ref (ta 0)), (1, .int (nI u)), (2, .int (nI v))]) hx hb dX4_isAtLeast_3 rfl hl (by decide) rfl (fun ls hl => ?_)
  refine lv_iload_n hx hb dX4_isAtLeast_4 rfl (lv_at hl 3 rfl) ?_
  refine lv_iconst (v := nI 5) hx hb dX4_isAtLeast_5 (by decide) ?_
  refine wk_imulC hx hb dX4_isAtLeast_6 ?_
  refine lv_istore (lv' := [(4, .int (nI (5 * v))), (3, .int (nI (5 * u))), (0, .ref (ta 0)), (1, .int (nI u)), (2, .int (nI v))]) hx hb dX4_isAtLeast_7 hl (by decide) rfl (fun ls hl => ?_)
  refine lv_iconst (v := nI 0) hx hb dX4_isAtLeast_9 (by decide) ?_
  refine lv_istore (lv' := [(5, .int (nI 0)), (4, .int (nI (5 * v))), (3, .int (nI (5 * u))), (0, .ref (ta 0)), (1, .int (nI u)), (2, .int (nI v))]) hx hb dX4_isAtLeast_10 hl (by decide) rfl (fun ls hl => ?_)
  have lp12 : ∀ (n9 : Nat) (k : Nat), pl - k < n9 → k ≤ pl → (∀ q, q < k → y q ≤ x q) → ∀ (H : Heap) (locs : List Loc) (ls : Array Slot), va_P D vwCl (tw cI cZ ta g0 (nI pl) g2 g3 h4 h5 h6 h7 h8) H → va_S (fun _ => False) s.heap H locs → lv_has ls 6 [(0, .ref (ta 0)), (1, .int (nI u)), (2, .int (nI v)), (3, .int (nI (5 * u))), (4, .int (nI (5 * v))), (5, .int (nI k))] → W p l e ({ frames := 0, cells := 0, slots := 0, locals := 0 } : Room) s m args below meth c H locs 0 0 Q (F0 m 12 ls []) := by
    intro n9
    induction n9 with
    | zero => intro k hm12; exact absurd hm12 (Nat.not_lt_zero _)
    | succ n9 ih12 =>
      intro k hm12 hk hn H locs ls hP hS hl
      refine lv_iload hx hb dX4_isAtLeast_12 (lv_at hl 5 rfl) ?_
      refine lv_aload_n hx hb dX4_isAtLeast_14 rfl (lv_at hl 0 rfl) ?_
      refine va_get (D := D) (ci := 3) (v := .int (nI pl)) (C := RX4) (T := TX4) (N := 9) hx hb hts hin4 hown hK hP 0 rfl rfl 1 (by decide) fl15 (fun _ h9 => h9) rfl dX4_isAtLeast_15 ?_
      refine wk_icmp_ge (tgt := 51) hx hb (by omega) (by omega) dX4_isAtLeast_18 (by decide) (fun c18 => ?_) (fun c18 => ?_)
      · skip
        refine lv_iconst (v := nI 1) hx hb dX4_isAtLeast_51 (by decide) ?_
        have hkp : k = pl := by omega
        subst hkp
        exact hret _ _ _ _ _ (bI_T (tpP_t hn)) dX4_isAtLeast_52 hS
      · skip
        refine lv_aload_n hx hb dX4_isAtLeast_21 rfl (lv_at hl 0 rfl) ?_
        refine va_get (D := D) (ci := 3) (v := .ref (ta 5)) (C := RX4) (T := TX4) (N := 9) hx hb hts hin4 hown hK hP 0 rfl rfl 5 (by decide) fl29 (fun _ h9 => h9) rfl dX4_isAtLeast_22 ?_
        refine lv_iload_n hx hb dX4_isAtLeast_25 rfl (lv_at hl 3 rfl) ?_
        refine lv_iload hx hb dX4_isAtLeast_26 (lv_at hl 5 rfl) ?_
        refine wk_iadd hx hb dX4_isAtLeast_28 ?_
        refine wk_iald hx hb hK hP 2 0 rfl rfl (i := (5 * u) + k) (by omega) (by omega) dX4_isAtLeast_29 ?_
        rw [show (h5 ((5 * u) + k)) = (x k) from (hxr k (by omega))]
        refine lv_aload_n hx hb dX4_isAtLeast_30 rfl (lv_at hl 0 rfl) ?_
        refine va_get (D := D) (ci := 3) (v := .ref (ta 5)) (C := RX4) (T := TX4) (N := 9) hx hb hts hin4 hown hK hP 0 rfl rfl 5 (by decide) fl29 (fun _ h9 => h9) rfl dX4_isAtLeast_31 ?_
        refine lv_iload hx hb dX4_isAtLeast_34 (lv_at hl 4 rfl) ?_
        refine lv_iload hx hb dX4_isAtLeast_36 (lv_at hl 5 rfl) ?_
        refine wk_iadd hx hb dX4_isAtLeast_38 ?_
        refine wk_iald hx hb hK hP 2 0 rfl rfl (i := (5 * v) + k) (by omega) (by omega) dX4_isAtLeast_39 ?_
        rw [show (h5 ((5 * v) + k)) = (y k) from (hyr k (by omega))]
        refine lv_icmp_ge (tgt := 45) hx hb dX4_isAtLeast_40 (by decide) (fun c40 => ?_) (fun c40 => ?_)
        · skip
          refine lv_iinc (v := (nI (k + 1))) (lv' := [(5, .int (nI (k + 1))), (0, .ref (ta 0)), (1, .int (nI u)), (2, .int (nI v)), (3, .int (nI (5 * u))), (4, .int (nI (5 * v)))]) hx hb dX4_isAtLeast_45 hl (k := 5) rfl (by exact nI_1 _) (by decide) rfl (fun ls hl => ?_)
          refine lv_goto (tgt := 12) hx hb dX4_isAtLeast_48 (by decide) ?_
          exact ih12 (k + 1) (by omega) (by omega) (fun q hq => by rcases Nat.lt_or_eq_of_le (Nat.le_of_lt_succ hq) with h1 | rfl; exact hn q h1; exact c40) _ _ _ hP hS (lv_sub hl [1, 2, 3, 4, 5, 0] rfl)
        · skip
          refine lv_iconst (v := nI 0) hx hb dX4_isAtLeast_43 (by decide) ?_
          exact hret _ _ _ _ _ (bI_F (tpP_f (by omega) c40)) dX4_isAtLeast_44 hS
  exact lp12 _ 0 (Nat.lt_succ_self _) (by omega) (fun q h => absurd h (Nat.not_lt_zero q)) _ _ _ hP hS (lv_sub hl [3, 4, 5, 2, 1, 0] rfl)

set_option maxHeartbeats 4000000 in
set_option maxRecDepth 100000 in
theorem c_X4_comesBefore (l : Launch) (D : va_G) (cI cJ cZ cA : ClassId) (ta : Nat → Nat) (g0 g2 g3 : Int32) (h4 h5 h6 h7 h8 : Nat → Int32) (pl u v : Nat) (hpl : pl ≤ 5) (x y : Rw) (hu : u < 1000) (hv : v < 1000) (hxr : ∀ q, q < 5 → h5 (5 * u + q) = x q) (hyr : ∀ q, q < 5 → h5 (5 * v + q) = y q)  : Met l yX4_comesBefore wsX4_comesBefore ({ frames := 1, cells := 0, slots := 0, locals := 22 } : Room) (ro_P D (tysC cI cJ cZ cA) [.ref (ta 0), .int (nI u), .int (nI v)] (tw cI cZ ta g0 (nI pl) g2 g3 h4 h5 h6 h7 h8)) (ro_Q (bI (befP pl x y))) 0 0 (fun _ => False) := by
  refine met_ro (cc := cX4_comesBefore) (maxL := 4) (ty := .boolean) (by decide) rfl (Nat.le_of_ble_eq_true rfl) (bI_n _) ?_
  intro p e s m args below meth c Q hx hb hml hown hts hP hK hret ls hl
  obtain ⟨H, hH9⟩ : ∃ H : Heap, H = s.heap := ⟨_, rfl⟩
  have hP : va_P D vwCl (tw cI cZ ta g0 (nI pl) g2 g3 h4 h5 h6 h7 h8) H := by rw [hH9]; exact hP
  have hS : va_S (fun _ => False) s.heap H [] := by rw [hH9]; exact va_S.rf
  rw [← hH9]
  have hown : s.vm.findClass RX4 = some m.cls := hown
  have hin4 : ∀ w ∈ wsX40, w ∈ wsX4_comesBefore := by decide +kernel
  have fl15 := hts (.fieldLink RX4 15 "CoverRounds$Tree" "places" "I") (by decide +kernel)
  have hl : lv_has ls 4 [(0, .ref (ta 0)), (1, .int (nI u)), (2, .int (nI v))] := hl
  refine lv_iconst (v := nI 0) hx hb dX4_comesBefore_0 (by decide) ?_
  refine lv_istore_n (lv' := [(3, .int (nI 0)), (0, .ref (ta 0)), (1, .int (nI u)), (2, .int (nI v))]) hx hb dX4_comesBefore_1 rfl hl (by decide) rfl (fun ls hl => ?_)
  have lp2 : ∀ (n9 : Nat) (k : Nat), pl - k < n9 → k ≤ pl → (∀ j, j < k → x j = y j) → ∀ (H : Heap) (locs : List Loc) (ls : Array Slot), va_P D vwCl (tw cI cZ ta g0 (nI pl) g2 g3 h4 h5 h6 h7 h8) H → va_S (fun _ => False) s.heap H locs → lv_has ls 4 [(0, .ref (ta 0)), (1, .int (nI u)), (2, .int (nI v)), (3, .int (nI k))] → W p l e ({ frames := 1, cells := 0, slots := 0, locals := 22 } : Room) s m args below meth c H locs 0 0 Q (F0 m 2 ls []) := by
    intro n9
    induction n9 with
    | zero => intro k hm2; exact absurd hm2 (Nat.not_lt_zero _)
    | succ n9 ih2 =>
      intro k hm2 hk h0 H locs ls hP hS hl
      refine lv_iload_n hx hb dX4_comesBefore_2 rfl (lv_at hl 3 rfl) ?_
      refine lv_aload_n hx hb dX4_comesBefore_3 rfl (lv_at hl 0 rfl) ?_
      refine va_get (D := D) (ci := 3) (v := .int (nI pl)) (C := RX4) (T := TX4) (N := 9) hx hb hts hin4 hown hK hP 0 rfl rfl 1 (by decide) fl15 (fun _ h9 => h9) rfl dX4_comesBefore_4 ?_
      refine wk_icmp_ge (tgt := 52) hx hb (by omega) (by omega) dX4_comesBefore_7 (by decide) (fun c7 => ?_) (fun c7 => ?_)
      · skip
        refine lv_iconst (v := nI 0) hx hb dX4_comesBefore_52 (by decide) ?_
        have hkp : k = pl := by omega
        subst hkp
        exact hret _ _ _ _ _ (bI_F (befP_none h0)) dX4_comesBefore_53 hS
      · skip
        refine lv_aload_n hx hb dX4_comesBefore_10 rfl (lv_at hl 0 rfl) ?_
        refine lv_iload_n hx hb dX4_comesBefore_11 rfl (lv_at hl 1 rfl) ?_
        refine lv_iload_n hx hb dX4_comesBefore_12 rfl (lv_at hl 3 rfl) ?_
        refine wk_Vi (As := [.int (nI u), .int (nI k)]) (rest := []) ⟨hx, hb, hml, hown, hts⟩ (c_X4_countAt l D cI cJ cZ cA ta g0 (nI pl) g2 g3 h4 h5 h6 h7 h8 u k (by omega) (by omega)) (cwV 2 hts gX4_comesBefore_X4_countAt rfl rfl rfl (by decide +kernel) ⟨Nat.le_of_ble_eq_true rfl, Nat.le_of_ble_eq_true rfl⟩) hK hP [0, 1, 2, 3, 4, 5] rfl 0 3 rfl rfl hS rfl hl.1 rfl (Nat.le_of_ble_eq_true rfl) dX4_comesBefore_13 ⟨Nat.zero_le _, Nat.zero_le _⟩ (fun H locs hP hS => ?_)
        rw [show (h5 (5 * u + k)) = x k from (hxr k (by omega))]
        refine lv_aload_n hx hb dX4_comesBefore_16 rfl (lv_at hl 0 rfl) ?_
        refine lv_iload_n hx hb dX4_comesBefore_17 rfl (lv_at hl 2 rfl) ?_
        refine lv_iload_n hx hb dX4_comesBefore_18 rfl (lv_at hl 3 rfl) ?_
        refine wk_Vi (As := [.int (nI v), .int (nI k)]) (rest := [.int (x k)]) ⟨hx, hb, hml, hown, hts⟩ (c_X4_countAt l D cI cJ cZ cA ta g0 (nI pl) g2 g3 h4 h5 h6 h7 h8 v k (by omega) (by omega)) (cwV 2 hts gX4_comesBefore_X4_countAt rfl rfl rfl (by decide +kernel) ⟨Nat.le_of_ble_eq_true rfl, Nat.le_of_ble_eq_true rfl⟩) hK hP [0, 1, 2, 3, 4, 5] rfl 0 3 rfl rfl hS rfl hl.1 rfl (Nat.le_of_ble_eq_true rfl) dX4_comesBefore_19 ⟨Nat.zero_le _, Nat.zero_le _⟩ (fun H locs hP hS => ?_)
        rw [show (h5 (5 * v + k)) = y k from (hyr k (by omega))]
        refine lv_icmp_eq (tgt := 46) hx hb dX4_comesBefore_22 (by decide) (fun c22 => ?_) (fun c22 => ?_)
        · skip
          refine lv_iinc (v := (nI (k + 1))) (lv' := [(3, .int (nI (k + 1))), (0, .ref (ta 0)), (1, .int (nI u)), (2, .int (nI v))]) hx hb dX4_comesBefore_46 hl (k := 3) rfl (by exact nI_1 _) (by decide) rfl (fun ls hl => ?_)
          refine lv_goto (tgt := 2) hx hb dX4_comesBefore_49 (by decide) ?_
          exact ih2 (k + 1) (by omega) (by omega) (fun j hj => by rcases Nat.lt_or_eq_of_le (Nat.le_of_lt_succ hj) with h1 | rfl; exact h0 j h1; exact c22) _ _ _ hP hS (lv_sub hl [1, 2, 3, 0] rfl)
        · skip
          refine lv_aload_n hx hb dX4_comesBefore_25 rfl (lv_at hl 0 rfl) ?_
          refine lv_iload_n hx hb dX4_comesBefore_26 rfl (lv_at hl 1 rfl) ?_
          refine lv_iload_n hx hb dX4_comesBefore_27 rfl (lv_at hl 3 rfl) ?_
          refine wk_Vi (As := [.int (nI u), .int (nI k)]) (rest := []) ⟨hx, hb, hml, hown, hts⟩ (c_X4_countAt l D cI cJ cZ cA ta g0 (nI pl) g2 g3 h4 h5 h6 h7 h8 u k (by omega) (by omega)) (cwV 2 hts gX4_comesBefore_X4_countAt rfl rfl rfl (by decide +kernel) ⟨Nat.le_of_ble_eq_true rfl, Nat.le_of_ble_eq_true rfl⟩) hK hP [0, 1, 2, 3, 4, 5] rfl 0 3 rfl rfl hS rfl hl.1 rfl (Nat.le_of_ble_eq_true rfl) dX4_comesBefore_28 ⟨Nat.zero_le _, Nat.zero_le _⟩ (fun H locs hP hS => ?_)
          rw [show (h5 (5 * u + k)) = x k from (hxr k (by omega))]
          refine lv_aload_n hx hb dX4_comesBefore_31 rfl (lv_at hl 0 rfl) ?_
          refine lv_iload_n hx hb dX4_comesBefore_32 rfl (lv_at hl 2 rfl) ?_
          refine lv_iload_n hx hb dX4_comesBefore_33 rfl (lv_at hl 3 rfl) ?_
          refine wk_Vi (As := [.int (nI v), .int (nI k)]) (rest := [.int (x k)]) ⟨hx, hb, hml, hown, hts⟩ (c_X4_countAt l D cI cJ cZ cA ta g0 (nI pl) g2 g3 h4 h5 h6 h7 h8 v k (by omega) (by omega)) (cwV 2 hts gX4_comesBefore_X4_countAt rfl rfl rfl (by decide +kernel) ⟨Nat.le_of_ble_eq_true rfl, Nat.le_of_ble_eq_true rfl⟩) hK hP [0, 1, 2, 3, 4, 5] rfl 0 3 rfl rfl hS rfl hl.1 rfl (Nat.le_of_ble_eq_true rfl) dX4_comesBefore_34 ⟨Nat.zero_le _, Nat.zero_le _⟩ (fun H locs hP hS => ?_)
          rw [show (h5 (5 * v + k)) = y k from (hyr k (by omega))]
          refine lv_icmp_ge (tgt := 44) hx hb dX4_comesBefore_37 (by decide) (fun c37 => ?_) (fun c37 => ?_)
          · skip
            refine lv_iconst (v := nI 0) hx hb dX4_comesBefore_44 (by decide) ?_
            exact hret _ _ _ _ _ (bI_F (by rw [befP_hit (by omega) h0 c22]; exact decide_eq_false (Int32.not_lt.mpr c37))) dX4_comesBefore_45 hS
          · skip
            refine lv_iconst (v := nI 1) hx hb dX4_comesBefore_40 (by decide) ?_
            refine lv_goto (tgt := 45) hx hb dX4_comesBefore_41 (by decide) ?_
            exact hret _ _ _ _ _ (bI_T (by rw [befP_hit (by omega) h0 c22]; exact decide_eq_true (Int32.not_le.mp c37))) dX4_comesBefore_45 hS
  exact lp2 _ 0 (Nat.lt_succ_self _) (by omega) (fun j h => absurd h (Nat.not_lt_zero j)) _ _ _ hP hS (lv_sub hl [1, 2, 3, 0] rfl)

set_option maxHeartbeats 4000000 in
set_option maxRecDepth 100000 in
theorem c_X4_limitAt (l : Launch) (D : va_G) (cI cJ cZ cA : ClassId) (ta : Nat → Nat) (g0 g1 g2 g3 : Int32) (h4 h5 h6 h7 h8 : Nat → Int32) (k j v : Nat) (hk : k < 1000) (hj : j < 5) (hv : h8 k = nI v) (hv9 : v < 1000) : Met l yX4_limitAt wsX4_limitAt ({ frames := 1, cells := 0, slots := 0, locals := 22 } : Room) (ro_P D (tysC cI cJ cZ cA) [.ref (ta 0), .int (nI k), .int (nI j)] (tw cI cZ ta g0 g1 g2 g3 h4 h5 h6 h7 h8)) (ro_Q (h5 (5 * v + j))) 0 0 (fun _ => False) := by
  refine met_ro (cc := cX4_limitAt) (maxL := 3) (ty := .int) (by decide) rfl (Nat.le_of_ble_eq_true rfl) rfl ?_
  intro p e s m args below meth c Q hx hb hml hown hts hP hK hret ls hl
  obtain ⟨H, hH9⟩ : ∃ H : Heap, H = s.heap := ⟨_, rfl⟩
  have hP : va_P D vwCl (tw cI cZ ta g0 g1 g2 g3 h4 h5 h6 h7 h8) H := by rw [hH9]; exact hP
  have hS : va_S (fun _ => False) s.heap H [] := by rw [hH9]; exact va_S.rf
  rw [← hH9]
  have hown : s.vm.findClass RX4 = some m.cls := hown
  have hin4 : ∀ w ∈ wsX40, w ∈ wsX4_limitAt := by decide +kernel
  have fl39 := hts (.fieldLink RX4 39 "CoverRounds$Tree" "limitNodes" "[I") (by decide +kernel)
  have hl : lv_has ls 3 [(0, .ref (ta 0)), (1, .int (nI k)), (2, .int (nI j))] := hl
  refine lv_aload_n hx hb dX4_limitAt_0 rfl (lv_at hl 0 rfl) ?_
  refine lv_aload_n hx hb dX4_limitAt_1 rfl (lv_at hl 0 rfl) ?_
  refine va_get (D := D) (ci := 3) (v := .ref (ta 8)) (C := RX4) (T := TX4) (N := 9) hx hb hts hin4 hown hK hP 0 rfl rfl 8 (by decide) fl39 (fun _ h9 => h9) rfl dX4_limitAt_2 ?_
  refine lv_iload_n hx hb dX4_limitAt_5 rfl (lv_at hl 1 rfl) ?_
  refine wk_iald hx hb hK hP 5 0 rfl rfl (i := k) (by omega) (by omega) dX4_limitAt_6 ?_
  rw [show (h8 k) = (nI v) from hv]
  refine lv_iload_n hx hb dX4_limitAt_7 rfl (lv_at hl 2 rfl) ?_
  refine wk_Vi (As := [.int (nI v), .int (nI j)]) (rest := []) ⟨hx, hb, hml, hown, hts⟩ (c_X4_countAt l D cI cJ cZ cA ta g0 g1 g2 g3 h4 h5 h6 h7 h8 v j (by omega) (by omega)) (cwV 2 hts gX4_limitAt_X4_countAt rfl rfl rfl (by decide +kernel) ⟨Nat.le_of_ble_eq_true rfl, Nat.le_of_ble_eq_true rfl⟩) hK hP [0, 1, 2, 3, 4, 5] rfl 0 3 rfl rfl hS rfl hl.1 rfl (Nat.le_of_ble_eq_true rfl) dX4_limitAt_8 ⟨Nat.zero_le _, Nat.zero_le _⟩ (fun H locs hP hS => ?_)
  exact hret _ _ _ _ _ rfl dX4_limitAt_11 hS

set_option maxHeartbeats 4000000 in
set_option maxRecDepth 100000 in
theorem c_X4_mostAt (l : Launch) (D : va_G) (cI cJ cZ cA : ClassId) (ta : Nat → Nat) (g0 g1 g2 : Int32) (h4 h5 h6 h7 h8 : Nat → Int32) (j : Nat) (hj : j < 5) (Ms : List Rw) (C : List Nat) (hX : rowsV h5 0 Ms) (hXl : Ms.length ≤ 1000) (hC : idxV h8 C) (hCl : C.length ≤ 1000) (hCM : ∀ v, v ∈ C → v < Ms.length)  : Met l yX4_mostAt wsX4_mostAt ({ frames := 2, cells := 0, slots := 0, locals := 44 } : Room) (ro_P D (tysC cI cJ cZ cA) [.ref (ta 0), .int (nI j)] (tw cI cZ ta g0 g1 g2 (nI C.length) h4 h5 h6 h7 h8)) (ro_Q (mxC Ms C j)) 0 0 (fun _ => False) := by
  refine met_ro (cc := cX4_mostAt) (maxL := 4) (ty := .int) (by decide) rfl (Nat.le_of_ble_eq_true rfl) rfl ?_
  intro p e s m args below meth c Q hx hb hml hown hts hP hK hret ls hl
  obtain ⟨H, hH9⟩ : ∃ H : Heap, H = s.heap := ⟨_, rfl⟩
  have hP : va_P D vwCl (tw cI cZ ta g0 g1 g2 (nI C.length) h4 h5 h6 h7 h8) H := by rw [hH9]; exact hP
  have hS : va_S (fun _ => False) s.heap H [] := by rw [hH9]; exact va_S.rf
  rw [← hH9]
  have hown : s.vm.findClass RX4 = some m.cls := hown
  have hin4 : ∀ w ∈ wsX40, w ∈ wsX4_mostAt := by decide +kernel
  have fl22 := hts (.fieldLink RX4 22 "CoverRounds$Tree" "limitCount" "I") (by decide +kernel)
  have hl : lv_has ls 4 [(0, .ref (ta 0)), (1, .int (nI j))] := hl
  refine lv_iconst (v := nI 0) hx hb dX4_mostAt_0 (by decide) ?_
  refine lv_istore_n (lv' := [(2, .int (nI 0)), (0, .ref (ta 0)), (1, .int (nI j))]) hx hb dX4_mostAt_1 rfl hl (by decide) rfl (fun ls hl => ?_)
  refine lv_iconst (v := nI 0) hx hb dX4_mostAt_2 (by decide) ?_
  refine lv_istore_n (lv' := [(3, .int (nI 0)), (2, .int (nI 0)), (0, .ref (ta 0)), (1, .int (nI j))]) hx hb dX4_mostAt_3 rfl hl (by decide) rfl (fun ls hl => ?_)
  have lp4 : ∀ (n9 : Nat) (k : Nat) (a9 : Int32), C.length - k < n9 → k ≤ C.length → a9 = mxC Ms (C.take k) j → ∀ (H : Heap) (locs : List Loc) (ls : Array Slot), va_P D vwCl (tw cI cZ ta g0 g1 g2 (nI C.length) h4 h5 h6 h7 h8) H → va_S (fun _ => False) s.heap H locs → lv_has ls 4 [(0, .ref (ta 0)), (1, .int (nI j)), (2, .int a9), (3, .int (nI k))] → W p l e ({ frames := 2, cells := 0, slots := 0, locals := 44 } : Room) s m args below meth c H locs 0 0 Q (F0 m 4 ls []) := by
    intro n9
    induction n9 with
    | zero => intro k a9 hm4; exact absurd hm4 (Nat.not_lt_zero _)
    | succ n9 ih4 =>
      intro k a9 hm4 hk ha H locs ls hP hS hl
      refine lv_iload_n hx hb dX4_mostAt_4 rfl (lv_at hl 3 rfl) ?_
      refine lv_aload_n hx hb dX4_mostAt_5 rfl (lv_at hl 0 rfl) ?_
      refine va_get (D := D) (ci := 3) (v := .int (nI C.length)) (C := RX4) (T := TX4) (N := 9) hx hb hts hin4 hown hK hP 0 rfl rfl 3 (by decide) fl22 (fun _ h9 => h9) rfl dX4_mostAt_6 ?_
      refine wk_icmp_ge (tgt := 29) hx hb (by omega) (by omega) dX4_mostAt_9 (by decide) (fun c9 => ?_) (fun c9 => ?_)
      · skip
        refine lv_iload_n hx hb dX4_mostAt_29 rfl (lv_at hl 2 rfl) ?_
        have hkC : k = C.length := by omega
        rw [hkC, List.take_length] at ha
        exact hret _ _ _ _ _ ha dX4_mostAt_30 hS
      · skip
        obtain ⟨v, hv9⟩ : ∃ v, C[k]? = some v := ⟨_, List.getElem?_eq_getElem (by omega)⟩
        have hvM := hCM v (List.mem_of_getElem? hv9)
        obtain ⟨x, hx9, hr9⟩ := rowsV_at0 hX hvM
        have hxe : Ms.getD v zR = x := getD_of hx9
        have hxr : ∀ q, q < 5 → h5 (5 * v + q) = (Ms.getD v zR) q := by rw [hxe]; exact hr9
        refine lv_iload_n hx hb dX4_mostAt_12 rfl (lv_at hl 2 rfl) ?_
        refine lv_aload_n hx hb dX4_mostAt_13 rfl (lv_at hl 0 rfl) ?_
        refine lv_iload_n hx hb dX4_mostAt_14 rfl (lv_at hl 3 rfl) ?_
        refine lv_iload_n hx hb dX4_mostAt_15 rfl (lv_at hl 1 rfl) ?_
        refine wk_Vi (As := [.int (nI k), .int (nI j)]) (rest := [.int a9]) ⟨hx, hb, hml, hown, hts⟩ (c_X4_limitAt l D cI cJ cZ cA ta g0 g1 g2 (nI C.length) h4 h5 h6 h7 h8 k j v (by omega) (by omega) (hC k v hv9) (by omega)) (cwV 2 hts gX4_mostAt_X4_limitAt rfl rfl rfl (by decide +kernel) ⟨Nat.le_of_ble_eq_true rfl, Nat.le_of_ble_eq_true rfl⟩) hK hP [0, 1, 2, 3, 4, 5] rfl 0 3 rfl rfl hS rfl hl.1 rfl (Nat.le_of_ble_eq_true rfl) dX4_mostAt_16 ⟨Nat.zero_le _, Nat.zero_le _⟩ (fun H locs hP hS => ?_)
        refine va_mmax hx hb (hml.trans hl.1.symm) hown (hts (.methodLink RX4 115 Lib.Math.max.name) (by decide +kernel)) (hts (.static Lib.Math.max.name) (by decide +kernel)) (hts (.initialized "java/lang/Math") (by decide +kernel)) (hts (.code Lib.Math.max.name Lib.Math.max.code 2 (some .int)) (by decide +kernel)) (Nat.le_of_ble_eq_true rfl) (Nat.le_of_ble_eq_true rfl) (Nat.zero_le _) (Nat.zero_le _) dX4_mostAt_19 ?_
        refine lv_istore_n (lv' := [(2, .int (if a9 < (h5 (5 * v + j)) then (h5 (5 * v + j)) else a9)), (0, .ref (ta 0)), (1, .int (nI j)), (3, .int (nI k))]) hx hb dX4_mostAt_22 rfl hl (by decide) rfl (fun ls hl => ?_)
        refine lv_iinc (v := (nI (k + 1))) (lv' := [(3, .int (nI (k + 1))), (2, .int (if a9 < (h5 (5 * v + j)) then (h5 (5 * v + j)) else a9)), (0, .ref (ta 0)), (1, .int (nI j))]) hx hb dX4_mostAt_23 hl (k := 3) rfl (by exact nI_1 _) (by decide) rfl (fun ls hl => ?_)
        refine lv_goto (tgt := 4) hx hb dX4_mostAt_26 (by decide) ?_
        exact ih4 (k + 1) (if a9 < (h5 (5 * v + j)) then (h5 (5 * v + j)) else a9) (by omega) (by omega) (by rw [mxC_s hv9, ← ha, hxr j (by omega)]) _ _ _ hP hS (lv_sub hl [2, 3, 1, 0] rfl)
  exact lp4 _ 0 (nI 0) (Nat.lt_succ_self _) (by omega) rfl _ _ _ hP hS (lv_sub hl [2, 3, 1, 0] rfl)

set_option maxHeartbeats 4000000 in
set_option maxRecDepth 100000 in
theorem c_X4_limitReaches (l : Launch) (D : va_G) (cI cJ cZ cA : ClassId) (ta : Nat → Nat) (g0 g2 g3 : Int32) (h4 h5 h6 h7 h8 : Nat → Int32) (pl k v wa : Nat) (wf : Nat → Int32) (x : Rw) (hpl : pl ≤ 5) (hk : k < 1000) (hv : h8 k = nI v) (hv9 : v < 1000) (hxr : ∀ q, q < 5 → h5 (5 * v + q) = x q) : Met l yX4_limitReaches wsX4_limitReaches ({ frames := 2, cells := 0, slots := 0, locals := 44 } : Room) (ro_P D (tysC cI cJ cZ cA) [.ref (ta 0), .int (nI k), .ref wa] (tw cI cZ ta g0 (nI pl) g2 g3 h4 h5 h6 h7 h8 ++ [(wa, .inl (cI, 5, .inl wf))])) (ro_Q (bI (tpP pl x wf))) 0 0 (fun _ => False) := by
  refine met_ro (cc := cX4_limitReaches) (maxL := 4) (ty := .boolean) (by decide) rfl (Nat.le_of_ble_eq_true rfl) (bI_n _) ?_
  intro p e s m args below meth c Q hx hb hml hown hts hP hK hret ls hl
  obtain ⟨H, hH9⟩ : ∃ H : Heap, H = s.heap := ⟨_, rfl⟩
  have hP : va_P D vwCl (tw cI cZ ta g0 (nI pl) g2 g3 h4 h5 h6 h7 h8 ++ [(wa, .inl (cI, 5, .inl wf))]) H := by rw [hH9]; exact hP
  have hS : va_S (fun _ => False) s.heap H [] := by rw [hH9]; exact va_S.rf
  rw [← hH9]
  have hown : s.vm.findClass RX4 = some m.cls := hown
  have hin4 : ∀ w ∈ wsX40, w ∈ wsX4_limitReaches := by decide +kernel
  have fl15 := hts (.fieldLink RX4 15 "CoverRounds$Tree" "places" "I") (by decide +kernel)
  have hl : lv_has ls 4 [(0, .ref (ta 0)), (1, .int (nI k)), (2, .ref wa)] := hl
  refine lv_iconst (v := nI 0) hx hb dX4_limitReaches_0 (by decide) ?_
  refine lv_istore_n (lv' := [(3, .int (nI 0)), (0, .ref (ta 0)), (1, .int (nI k)), (2, .ref wa)]) hx hb dX4_limitReaches_1 rfl hl (by decide) rfl (fun ls hl => ?_)
  have lp2 : ∀ (n9 : Nat) (q : Nat), pl - q < n9 → q ≤ pl → (∀ j, j < q → wf j ≤ h5 (5 * v + j)) → ∀ (H : Heap) (locs : List Loc) (ls : Array Slot), va_P D vwCl (tw cI cZ ta g0 (nI pl) g2 g3 h4 h5 h6 h7 h8 ++ [(wa, .inl (cI, 5, .inl wf))]) H → va_S (fun _ => False) s.heap H locs → lv_has ls 4 [(0, .ref (ta 0)), (1, .int (nI k)), (2, .ref wa), (3, .int (nI q))] → W p l e ({ frames := 2, cells := 0, slots := 0, locals := 44 } : Room) s m args below meth c H locs 0 0 Q (F0 m 2 ls []) := by
    intro n9
    induction n9 with
    | zero => intro q hm2; exact absurd hm2 (Nat.not_lt_zero _)
    | succ n9 ih2 =>
      intro q hm2 hq hn H locs ls hP hS hl
      refine lv_iload_n hx hb dX4_limitReaches_2 rfl (lv_at hl 3 rfl) ?_
      refine lv_aload_n hx hb dX4_limitReaches_3 rfl (lv_at hl 0 rfl) ?_
      refine va_get (D := D) (ci := 3) (v := .int (nI pl)) (C := RX4) (T := TX4) (N := 9) hx hb hts hin4 hown hK hP 0 rfl rfl 1 (by decide) fl15 (fun _ h9 => h9) rfl dX4_limitReaches_4 ?_
      refine wk_icmp_ge (tgt := 30) hx hb (by omega) (by omega) dX4_limitReaches_7 (by decide) (fun c7 => ?_) (fun c7 => ?_)
      · skip
        refine lv_iconst (v := nI 1) hx hb dX4_limitReaches_30 (by decide) ?_
        have hqp : q = pl := by omega
        subst hqp
        exact hret _ _ _ _ _ (bI_T (tpP_t (fun j hj => by rw [← hxr j (by omega)]; exact hn j hj))) dX4_limitReaches_31 hS
      · skip
        refine lv_aload_n hx hb dX4_limitReaches_10 rfl (lv_at hl 0 rfl) ?_
        refine lv_iload_n hx hb dX4_limitReaches_11 rfl (lv_at hl 1 rfl) ?_
        refine lv_iload_n hx hb dX4_limitReaches_12 rfl (lv_at hl 3 rfl) ?_
        refine wk_Vi (As := [.int (nI k), .int (nI q)]) (rest := []) ⟨hx, hb, hml, hown, hts⟩ (c_X4_limitAt l D cI cJ cZ cA ta g0 (nI pl) g2 g3 h4 h5 h6 h7 h8 k q v (by omega) (by omega) hv (by omega)) (cwV 2 hts gX4_limitReaches_X4_limitAt rfl rfl rfl (by decide +kernel) ⟨Nat.le_of_ble_eq_true rfl, Nat.le_of_ble_eq_true rfl⟩) hK hP [0, 1, 2, 3, 4, 5] rfl 0 3 rfl rfl hS rfl hl.1 rfl (Nat.le_of_ble_eq_true rfl) dX4_limitReaches_13 ⟨Nat.zero_le _, Nat.zero_le _⟩ (fun H locs hP hS => ?_)
        refine lv_aload_n hx hb dX4_limitReaches_16 rfl (lv_at hl 2 rfl) ?_
        refine lv_iload_n hx hb dX4_limitReaches_17 rfl (lv_at hl 3 rfl) ?_
        refine wk_iald hx hb hK hP 6 0 rfl rfl (i := q) (by omega) (by omega) dX4_limitReaches_18 ?_
        refine lv_icmp_ge (tgt := 24) hx hb dX4_limitReaches_19 (by decide) (fun c19 => ?_) (fun c19 => ?_)
        · skip
          refine lv_iinc (v := (nI (q + 1))) (lv' := [(3, .int (nI (q + 1))), (0, .ref (ta 0)), (1, .int (nI k)), (2, .ref wa)]) hx hb dX4_limitReaches_24 hl (k := 3) rfl (by exact nI_1 _) (by decide) rfl (fun ls hl => ?_)
          refine lv_goto (tgt := 2) hx hb dX4_limitReaches_27 (by decide) ?_
          exact ih2 (q + 1) (by omega) (by omega) (fun j hj => by rcases Nat.lt_or_eq_of_le (Nat.le_of_lt_succ hj) with h1 | rfl; exact hn j h1; exact c19) _ _ _ hP hS (lv_sub hl [1, 2, 3, 0] rfl)
        · skip
          refine lv_iconst (v := nI 0) hx hb dX4_limitReaches_22 (by decide) ?_
          exact hret _ _ _ _ _ (bI_F (tpP_f (k := q) (by omega) (by rw [← hxr q (by omega)]; exact c19))) dX4_limitReaches_23 hS
  exact lp2 _ 0 (Nat.lt_succ_self _) (by omega) (fun j h => absurd h (Nat.not_lt_zero j)) _ _ _ hP hS (lv_sub hl [1, 2, 3, 0] rfl)

set_option maxHeartbeats 4000000 in
set_option maxRecDepth 100000 in
theorem c_X4_reaches (l : Launch) (D : va_G) (cI cJ cZ cA : ClassId) (ta : Nat → Nat) (g0 g2 : Int32) (h4 h5 h6 h7 h8 : Nat → Int32) (pl wa : Nat) (wf : Nat → Int32) (hpl : pl ≤ 5) (Ms : List Rw) (C : List Nat) (hX : rowsV h5 0 Ms) (hXl : Ms.length ≤ 1000) (hC : idxV h8 C) (hCl : C.length ≤ 1000) (hCM : ∀ v, v ∈ C → v < Ms.length)  : Met l yX4_reaches wsX4_reaches ({ frames := 3, cells := 0, slots := 0, locals := 67 } : Room) (ro_P D (tysC cI cJ cZ cA) [.ref (ta 0), .ref wa] (tw cI cZ ta g0 (nI pl) g2 (nI C.length) h4 h5 h6 h7 h8 ++ [(wa, .inl (cI, 5, .inl wf))])) (ro_Q (bI (C.any (fun v => tpP pl (Ms.getD v zR) wf)))) 0 0 (fun _ => False) := by
  refine met_ro (cc := cX4_reaches) (maxL := 3) (ty := .boolean) (by decide) rfl (Nat.le_of_ble_eq_true rfl) (bI_n _) ?_
  intro p e s m args below meth c Q hx hb hml hown hts hP hK hret ls hl
  obtain ⟨H, hH9⟩ : ∃ H : Heap, H = s.heap := ⟨_, rfl⟩
  have hP : va_P D vwCl (tw cI cZ ta g0 (nI pl) g2 (nI C.length) h4 h5 h6 h7 h8 ++ [(wa, .inl (cI, 5, .inl wf))]) H := by rw [hH9]; exact hP
  have hS : va_S (fun _ => False) s.heap H [] := by rw [hH9]; exact va_S.rf
  rw [← hH9]
  have hown : s.vm.findClass RX4 = some m.cls := hown
  have hin4 : ∀ w ∈ wsX40, w ∈ wsX4_reaches := by decide +kernel
  have fl22 := hts (.fieldLink RX4 22 "CoverRounds$Tree" "limitCount" "I") (by decide +kernel)
  have hl : lv_has ls 3 [(0, .ref (ta 0)), (1, .ref wa)] := hl
  refine lv_iconst (v := nI 0) hx hb dX4_reaches_0 (by decide) ?_
  refine lv_istore_n (lv' := [(2, .int (nI 0)), (0, .ref (ta 0)), (1, .ref wa)]) hx hb dX4_reaches_1 rfl hl (by decide) rfl (fun ls hl => ?_)
  have lp2 : ∀ (n9 : Nat) (k : Nat), C.length - k < n9 → k ≤ C.length → (∀ j v, j < k → C[j]? = some v → tpP pl (Ms.getD v zR) wf = false) → ∀ (H : Heap) (locs : List Loc) (ls : Array Slot), va_P D vwCl (tw cI cZ ta g0 (nI pl) g2 (nI C.length) h4 h5 h6 h7 h8 ++ [(wa, .inl (cI, 5, .inl wf))]) H → va_S (fun _ => False) s.heap H locs → lv_has ls 3 [(0, .ref (ta 0)), (1, .ref wa), (2, .int (nI k))] → W p l e ({ frames := 3, cells := 0, slots := 0, locals := 67 } : Room) s m args below meth c H locs 0 0 Q (F0 m 2 ls []) := by
    intro n9
    induction n9 with
    | zero => intro k hm2; exact absurd hm2 (Nat.not_lt_zero _)
    | succ n9 ih2 =>
      intro k hm2 hk hn H locs ls hP hS hl
      refine lv_iload_n hx hb dX4_reaches_2 rfl (lv_at hl 2 rfl) ?_
      refine lv_aload_n hx hb dX4_reaches_3 rfl (lv_at hl 0 rfl) ?_
      refine va_get (D := D) (ci := 3) (v := .int (nI C.length)) (C := RX4) (T := TX4) (N := 9) hx hb hts hin4 hown hK hP 0 rfl rfl 3 (by decide) fl22 (fun _ h9 => h9) rfl dX4_reaches_4 ?_
      refine wk_icmp_ge (tgt := 27) hx hb (by omega) (by omega) dX4_reaches_7 (by decide) (fun c7 => ?_) (fun c7 => ?_)
      · skip
        refine lv_iconst (v := nI 0) hx hb dX4_reaches_27 (by decide) ?_
        exact hret _ _ _ _ _ (bI_F (anyN (fun j v hv => hn j v (by have := lt_of_some hv; omega) hv))) dX4_reaches_28 hS
      · skip
        obtain ⟨v, hv9⟩ : ∃ v, C[k]? = some v := ⟨_, List.getElem?_eq_getElem (by omega)⟩
        have hvM := hCM v (List.mem_of_getElem? hv9)
        obtain ⟨x, hx9, hr9⟩ := rowsV_at0 hX hvM
        have hxe : Ms.getD v zR = x := getD_of hx9
        have hxr : ∀ q, q < 5 → h5 (5 * v + q) = (Ms.getD v zR) q := by rw [hxe]; exact hr9
        refine lv_aload_n hx hb dX4_reaches_10 rfl (lv_at hl 0 rfl) ?_
        refine lv_iload_n hx hb dX4_reaches_11 rfl (lv_at hl 2 rfl) ?_
        refine lv_aload_n hx hb dX4_reaches_12 rfl (lv_at hl 1 rfl) ?_
        refine wk_Vi (As := [.int (nI k), .ref wa]) (rest := []) ⟨hx, hb, hml, hown, hts⟩ (c_X4_limitReaches l D cI cJ cZ cA ta g0 g2 (nI C.length) h4 h5 h6 h7 h8 pl k v wa wf (Ms.getD v zR) hpl (by omega) (hC k v hv9) (by omega) hxr) (cwV 2 hts gX4_reaches_X4_limitReaches rfl rfl rfl (by decide +kernel) ⟨Nat.le_of_ble_eq_true rfl, Nat.le_of_ble_eq_true rfl⟩) hK hP [0, 1, 2, 3, 4, 5, 6] rfl 0 3 rfl rfl hS rfl hl.1 rfl (Nat.le_of_ble_eq_true rfl) dX4_reaches_13 ⟨Nat.zero_le _, Nat.zero_le _⟩ (fun H locs hP hS => ?_)
        refine wk_if_eqb (tgt := 21) hx hb dX4_reaches_16 (by decide) (fun c16 => ?_) (fun c16 => ?_)
        · skip
          refine lv_iinc (v := (nI (k + 1))) (lv' := [(2, .int (nI (k + 1))), (0, .ref (ta 0)), (1, .ref wa)]) hx hb dX4_reaches_21 hl (k := 2) rfl (by exact nI_1 _) (by decide) rfl (fun ls hl => ?_)
          refine lv_goto (tgt := 2) hx hb dX4_reaches_24 (by decide) ?_
          exact ih2 (k + 1) (by omega) (by omega) (fun j z hj hz => by rcases Nat.lt_or_eq_of_le (Nat.le_of_lt_succ hj) with h1 | rfl; exact hn j z h1 hz; rw [hv9] at hz; cases hz; exact c16) _ _ _ hP hS (lv_sub hl [1, 2, 0] rfl)
        · skip
          refine lv_iconst (v := nI 1) hx hb dX4_reaches_19 (by decide) ?_
          exact hret _ _ _ _ _ (bI_T (List.any_eq_true.mpr ⟨v, List.mem_of_getElem? hv9, c16⟩)) dX4_reaches_20 hS
  exact lp2 _ 0 (Nat.lt_succ_self _) (by omega) (fun j v h => absurd h (Nat.not_lt_zero j)) _ _ _ hP hS (lv_sub hl [1, 2, 0] rfl)

set_option maxHeartbeats 4000000 in
set_option maxRecDepth 100000 in
theorem c_X4_hasLimitOver (l : Launch) (D : va_G) (cI cJ cZ cA : ClassId) (ta : Nat → Nat) (g0 g2 : Int32) (h4 h5 h6 h7 h8 : Nat → Int32) (pl k9 : Nat) (hpl : pl ≤ 5) (Ms : List Rw) (C : List Nat) (hX : rowsV h5 0 Ms) (hXl : Ms.length ≤ 1000) (hC : idxV h8 C) (hCl : C.length ≤ 1000) (hCM : ∀ v, v ∈ C → v < Ms.length) (hkM : k9 < Ms.length) : Met l yX4_hasLimitOver wsX4_hasLimitOver ({ frames := 1, cells := 0, slots := 0, locals := 25 } : Room) (ro_P D (tysC cI cJ cZ cA) [.ref (ta 0), .int (nI k9)] (tw cI cZ ta g0 (nI pl) g2 (nI C.length) h4 h5 h6 h7 h8)) (ro_Q (bI (C.any (fun v => tpP pl (Ms.getD v zR) (Ms.getD k9 zR))))) 0 0 (fun _ => False) := by
  refine met_ro (cc := cX4_hasLimitOver) (maxL := 3) (ty := .boolean) (by decide) rfl (Nat.le_of_ble_eq_true rfl) (bI_n _) ?_
  intro p e s m args below meth c Q hx hb hml hown hts hP hK hret ls hl
  obtain ⟨H, hH9⟩ : ∃ H : Heap, H = s.heap := ⟨_, rfl⟩
  have hP : va_P D vwCl (tw cI cZ ta g0 (nI pl) g2 (nI C.length) h4 h5 h6 h7 h8) H := by rw [hH9]; exact hP
  have hS : va_S (fun _ => False) s.heap H [] := by rw [hH9]; exact va_S.rf
  rw [← hH9]
  have hown : s.vm.findClass RX4 = some m.cls := hown
  have hin4 : ∀ w ∈ wsX40, w ∈ wsX4_hasLimitOver := by decide +kernel
  have fl22 := hts (.fieldLink RX4 22 "CoverRounds$Tree" "limitCount" "I") (by decide +kernel)
  have fl39 := hts (.fieldLink RX4 39 "CoverRounds$Tree" "limitNodes" "[I") (by decide +kernel)
  have hl : lv_has ls 3 [(0, .ref (ta 0)), (1, .int (nI k9))] := hl
  obtain ⟨y9, hy8, hy7⟩ := rowsV_at0 hX hkM
  have hyr : ∀ q, q < 5 → h5 (5 * k9 + q) = (Ms.getD k9 zR) q := by rw [getD_of hy8]; exact hy7
  refine lv_iconst (v := nI 0) hx hb dX4_hasLimitOver_0 (by decide) ?_
  refine lv_istore_n (lv' := [(2, .int (nI 0)), (0, .ref (ta 0)), (1, .int (nI k9))]) hx hb dX4_hasLimitOver_1 rfl hl (by decide) rfl (fun ls hl => ?_)
  have lp2 : ∀ (n9 : Nat) (k : Nat), C.length - k < n9 → k ≤ C.length → (∀ j v, j < k → C[j]? = some v → tpP pl (Ms.getD v zR) (Ms.getD k9 zR) = false) → ∀ (H : Heap) (locs : List Loc) (ls : Array Slot), va_P D vwCl (tw cI cZ ta g0 (nI pl) g2 (nI C.length) h4 h5 h6 h7 h8) H → va_S (fun _ => False) s.heap H locs → lv_has ls 3 [(0, .ref (ta 0)), (1, .int (nI k9)), (2, .int (nI k))] → W p l e ({ frames := 1, cells := 0, slots := 0, locals := 25 } : Room) s m args below meth c H locs 0 0 Q (F0 m 2 ls []) := by
    intro n9
    induction n9 with
    | zero => intro k hm2; exact absurd hm2 (Nat.not_lt_zero _)
    | succ n9 ih2 =>
      intro k hm2 hk hn H locs ls hP hS hl
      refine lv_iload_n hx hb dX4_hasLimitOver_2 rfl (lv_at hl 2 rfl) ?_
      refine lv_aload_n hx hb dX4_hasLimitOver_3 rfl (lv_at hl 0 rfl) ?_
      refine va_get (D := D) (ci := 3) (v := .int (nI C.length)) (C := RX4) (T := TX4) (N := 9) hx hb hts hin4 hown hK hP 0 rfl rfl 3 (by decide) fl22 (fun _ h9 => h9) rfl dX4_hasLimitOver_4 ?_
      refine wk_icmp_ge (tgt := 32) hx hb (by omega) (by omega) dX4_hasLimitOver_7 (by decide) (fun c7 => ?_) (fun c7 => ?_)
      · skip
        refine lv_iconst (v := nI 0) hx hb dX4_hasLimitOver_32 (by decide) ?_
        exact hret _ _ _ _ _ (bI_F (anyN (fun j v hv => hn j v (by have := lt_of_some hv; omega) hv))) dX4_hasLimitOver_33 hS
      · skip
        obtain ⟨v, hv9⟩ : ∃ v, C[k]? = some v := ⟨_, List.getElem?_eq_getElem (by omega)⟩
        have hvM := hCM v (List.mem_of_getElem? hv9)
        obtain ⟨x, hx9, hr9⟩ := rowsV_at0 hX hvM
        have hxe : Ms.getD v zR = x := getD_of hx9
        have hxr : ∀ q, q < 5 → h5 (5 * v + q) = (Ms.getD v zR) q := by rw [hxe]; exact hr9
        refine lv_aload_n hx hb dX4_hasLimitOver_10 rfl (lv_at hl 0 rfl) ?_
        refine lv_aload_n hx hb dX4_hasLimitOver_11 rfl (lv_at hl 0 rfl) ?_
        refine va_get (D := D) (ci := 3) (v := .ref (ta 8)) (C := RX4) (T := TX4) (N := 9) hx hb hts hin4 hown hK hP 0 rfl rfl 8 (by decide) fl39 (fun _ h9 => h9) rfl dX4_hasLimitOver_12 ?_
        refine lv_iload_n hx hb dX4_hasLimitOver_15 rfl (lv_at hl 2 rfl) ?_
        refine wk_iald hx hb hK hP 5 0 rfl rfl (i := k) (by omega) (by omega) dX4_hasLimitOver_16 ?_
        rw [show (h8 k) = (nI v) from (hC k v hv9)]
        refine lv_iload_n hx hb dX4_hasLimitOver_17 rfl (lv_at hl 1 rfl) ?_
        refine wk_Vi (As := [.int (nI v), .int (nI k9)]) (rest := []) ⟨hx, hb, hml, hown, hts⟩ (c_X4_isAtLeast l D cI cJ cZ cA ta g0 g2 (nI C.length) h4 h5 h6 h7 h8 pl v k9 hpl (Ms.getD v zR) (Ms.getD k9 zR) (by omega) (by omega) hxr hyr) (cwV 2 hts gX4_hasLimitOver_X4_isAtLeast rfl rfl rfl (by decide +kernel) ⟨Nat.le_of_ble_eq_true rfl, Nat.le_of_ble_eq_true rfl⟩) hK hP [0, 1, 2, 3, 4, 5] rfl 0 3 rfl rfl hS rfl hl.1 rfl (Nat.le_of_ble_eq_true rfl) dX4_hasLimitOver_18 ⟨Nat.zero_le _, Nat.zero_le _⟩ (fun H locs hP hS => ?_)
        refine wk_if_eqb (tgt := 26) hx hb dX4_hasLimitOver_21 (by decide) (fun c21 => ?_) (fun c21 => ?_)
        · skip
          refine lv_iinc (v := (nI (k + 1))) (lv' := [(2, .int (nI (k + 1))), (0, .ref (ta 0)), (1, .int (nI k9))]) hx hb dX4_hasLimitOver_26 hl (k := 2) rfl (by exact nI_1 _) (by decide) rfl (fun ls hl => ?_)
          refine lv_goto (tgt := 2) hx hb dX4_hasLimitOver_29 (by decide) ?_
          exact ih2 (k + 1) (by omega) (by omega) (fun j z hj hz => by rcases Nat.lt_or_eq_of_le (Nat.le_of_lt_succ hj) with h1 | rfl; exact hn j z h1 hz; rw [hv9] at hz; cases hz; exact c21) _ _ _ hP hS (lv_sub hl [1, 2, 0] rfl)
        · skip
          refine lv_iconst (v := nI 1) hx hb dX4_hasLimitOver_24 (by decide) ?_
          exact hret _ _ _ _ _ (bI_T (List.any_eq_true.mpr ⟨v, List.mem_of_getElem? hv9, c21⟩)) dX4_hasLimitOver_25 hS
  exact lp2 _ 0 (Nat.lt_succ_self _) (by omega) (fun j v h => absurd h (Nat.not_lt_zero j)) _ _ _ hP hS (lv_sub hl [1, 2, 0] rfl)

set_option maxHeartbeats 4000000 in
set_option maxRecDepth 100000 in
theorem c_X4_dropLimitsUnder (l : Launch) (D : va_G) (cI cJ cZ cA : ClassId) (ta : Nat → Nat) (g0 g2 : Int32) (h4 h5 h6 h7 h8 : Nat → Int32) (sz pl k9 : Nat) (hpl : pl ≤ 5) (Ms : List Rw) (C : List Nat) (hX : rowsV h5 0 Ms) (hXl : Ms.length ≤ 1000) (hC : idxV h8 C) (hCl : C.length ≤ 1000) (hCM : ∀ v, v ∈ C → v < Ms.length) (hkM : k9 < Ms.length) : Met l yX4_dropLimitsUnder wsX4_dropLimitsUnder ({ frames := 1, cells := 0, slots := 0, locals := 25 } : Room) (wr_P D (tysC cI cJ cZ cA) [.ref (ta 0), .int (nI k9)] (tw cI cZ ta g0 (nI pl) g2 (nI C.length) h4 h5 h6 h7 h8) sz) (wr_Qv D (S := Nat → Int32) (tw cI cZ ta g0 (nI pl) g2 (nI C.length) h4 h5 h6 h7 h8) sz (fun u => idxV u (C.filter (fun v => !(tpP pl (Ms.getD k9 zR) (Ms.getD v zR))))) (fun u => (tw cI cZ ta g0 (nI pl) g2 (nI ((C.filter (fun v => !(tpP pl (Ms.getD k9 zR) (Ms.getD v zR)))).length)) h4 h5 h6 h7 u))) 0 0 (va_A (tw cI cZ ta g0 (nI pl) g2 (nI C.length) h4 h5 h6 h7 h8) sz) := by
  refine met_wv (cc := cX4_dropLimitsUnder) (maxL := 4) (by decide) rfl (Nat.le_of_ble_eq_true rfl) ?_
  intro p e s m args below meth c Q A hx hb hml hown hts hP hK hD hA hret ls hl
  obtain ⟨H, hH9⟩ : ∃ H : Heap, H = s.heap := ⟨_, rfl⟩
  have hP : va_P D vwCl (tw cI cZ ta g0 (nI pl) g2 (nI C.length) h4 h5 h6 h7 h8) H := by rw [hH9]; exact hP
  have hS : va_S A s.heap H [] := by rw [hH9]; exact va_S.rf
  rw [← hH9]
  have hown : s.vm.findClass RX4 = some m.cls := hown
  have hin4 : ∀ w ∈ wsX40, w ∈ wsX4_dropLimitsUnder := by decide +kernel
  have fl22 := hts (.fieldLink RX4 22 "CoverRounds$Tree" "limitCount" "I") (by decide +kernel)
  have fl39 := hts (.fieldLink RX4 39 "CoverRounds$Tree" "limitNodes" "[I") (by decide +kernel)
  have hl : lv_has ls 4 [(0, .ref (ta 0)), (1, .int (nI k9))] := hl
  obtain ⟨y9, hy8, hy7⟩ := rowsV_at0 hX hkM
  have hyr : ∀ q, q < 5 → h5 (5 * k9 + q) = (Ms.getD k9 zR) q := by rw [getD_of hy8]; exact hy7
  refine lv_iconst (v := nI 0) hx hb dX4_dropLimitsUnder_0 (by decide) ?_
  refine lv_istore_n (lv' := [(2, .int (nI 0)), (0, .ref (ta 0)), (1, .int (nI k9))]) hx hb dX4_dropLimitsUnder_1 rfl hl (by decide) rfl (fun ls hl => ?_)
  refine lv_iconst (v := nI 0) hx hb dX4_dropLimitsUnder_2 (by decide) ?_
  refine lv_istore_n (lv' := [(3, .int (nI 0)), (2, .int (nI 0)), (0, .ref (ta 0)), (1, .int (nI k9))]) hx hb dX4_dropLimitsUnder_3 rfl hl (by decide) rfl (fun ls hl => ?_)
  have lp4 : ∀ (n9 : Nat) (k : Nat) (kp : Nat) (f8 : Nat → Int32), C.length - k < n9 → k ≤ C.length → dl2 f8 C (fun v => !(tpP pl (Ms.getD k9 zR) (Ms.getD v zR))) k kp → ∀ (H : Heap) (locs : List Loc) (ls : Array Slot), va_P D vwCl (tw cI cZ ta g0 (nI pl) g2 (nI C.length) h4 h5 h6 h7 f8) H → va_D A (tw cI cZ ta g0 (nI pl) g2 (nI C.length) h4 h5 h6 h7 f8) → va_S A s.heap H locs → lv_has ls 4 [(0, .ref (ta 0)), (1, .int (nI k9)), (2, .int (nI kp)), (3, .int (nI k))] → W p l e ({ frames := 1, cells := 0, slots := 0, locals := 25 } : Room) s m args below meth c H locs 0 0 Q (F0 m 4 ls []) := by
    intro n9
    induction n9 with
    | zero => intro k kp f8 hm4; exact absurd hm4 (Nat.not_lt_zero _)
    | succ n9 ih4 =>
      intro k kp f8 hm4 hk hd H locs ls hP hD hS hl
      have hle := dl2_le hd
      refine lv_iload_n hx hb dX4_dropLimitsUnder_4 rfl (lv_at hl 3 rfl) ?_
      refine lv_aload_n hx hb dX4_dropLimitsUnder_5 rfl (lv_at hl 0 rfl) ?_
      refine va_get (D := D) (ci := 3) (v := .int (nI C.length)) (C := RX4) (T := TX4) (N := 9) hx hb hts hin4 hown hK hP 0 rfl rfl 3 (by decide) fl22 (fun _ h9 => h9) rfl dX4_dropLimitsUnder_6 ?_
      refine wk_icmp_ge (tgt := 47) hx hb (by omega) (by omega) dX4_dropLimitsUnder_9 (by decide) (fun c9 => ?_) (fun c9 => ?_)
      · skip
        refine lv_aload_n hx hb dX4_dropLimitsUnder_47 rfl (lv_at hl 0 rfl) ?_
        refine lv_iload_n hx hb dX4_dropLimitsUnder_48 rfl (lv_at hl 2 rfl) ?_
        refine va_put (D := D) (ci := 3) (v := .int (nI kp)) (ty := .int) (C := RX4) (T := TX4) (N := 9) hx hb hts hin4 tyX4 tyX4_ok nmX4 hown hK hP hD hS 0 rfl rfl 3 (by decide) fl22 (fun _ h9 => h9) rfl (by decide +kernel) rfl rfl (Nat.le_of_ble_eq_true rfl) dX4_dropLimitsUnder_49 (fun H locs hP hD hS => ?_)
        have hP : va_P D vwCl (tw cI cZ ta g0 (nI pl) g2 (nI kp) h4 h5 h6 h7 f8) H := hP
        have hD : va_D A (tw cI cZ ta g0 (nI pl) g2 (nI kp) h4 h5 h6 h7 f8) := hD
        have hkC : k = C.length := by omega
        subst hkC
        obtain ⟨rfl, hd9⟩ := dl2_end hd
        exact hret f8 _ _ _ _ _ _ hd9 hP hD dX4_dropLimitsUnder_52 hS (Nat.zero_le _) (Nat.zero_le _)
      · skip
        obtain ⟨v, hv9⟩ : ∃ v, C[k]? = some v := ⟨_, List.getElem?_eq_getElem (by omega)⟩
        have hvM := hCM v (List.mem_of_getElem? hv9)
        obtain ⟨x, hx9, hr9⟩ := rowsV_at0 hX hvM
        have hxe : Ms.getD v zR = x := getD_of hx9
        have hxr : ∀ q, q < 5 → h5 (5 * v + q) = (Ms.getD v zR) q := by rw [hxe]; exact hr9
        refine lv_aload_n hx hb dX4_dropLimitsUnder_12 rfl (lv_at hl 0 rfl) ?_
        refine lv_iload_n hx hb dX4_dropLimitsUnder_13 rfl (lv_at hl 1 rfl) ?_
        refine lv_aload_n hx hb dX4_dropLimitsUnder_14 rfl (lv_at hl 0 rfl) ?_
        refine va_get (D := D) (ci := 3) (v := .ref (ta 8)) (C := RX4) (T := TX4) (N := 9) hx hb hts hin4 hown hK hP 0 rfl rfl 8 (by decide) fl39 (fun _ h9 => h9) rfl dX4_dropLimitsUnder_15 ?_
        refine lv_iload_n hx hb dX4_dropLimitsUnder_18 rfl (lv_at hl 3 rfl) ?_
        refine wk_iald hx hb hK hP 5 0 rfl rfl (i := k) (by omega) (by omega) dX4_dropLimitsUnder_19 ?_
        rw [show (f8 k) = (nI v) from (hd.2.2 k v (Nat.le_refl k) hv9)]
        refine wk_Vi (As := [.int (nI k9), .int (nI v)]) (rest := []) ⟨hx, hb, hml, hown, hts⟩ (c_X4_isAtLeast l D cI cJ cZ cA ta g0 g2 (nI C.length) h4 h5 h6 h7 f8 pl k9 v hpl (Ms.getD k9 zR) (Ms.getD v zR) (by omega) (by omega) hyr hxr) (cwV 2 hts gX4_dropLimitsUnder_X4_isAtLeast rfl rfl rfl (by decide +kernel) ⟨Nat.le_of_ble_eq_true rfl, Nat.le_of_ble_eq_true rfl⟩) hK hP [0, 1, 2, 3, 4, 5] rfl 0 3 rfl rfl hS rfl hl.1 rfl (Nat.le_of_ble_eq_true rfl) dX4_dropLimitsUnder_20 ⟨Nat.zero_le _, Nat.zero_le _⟩ (fun H locs hP hS => ?_)
        refine wk_if_neb (tgt := 41) hx hb dX4_dropLimitsUnder_23 (by decide) (fun c23 => ?_) (fun c23 => ?_)
        · skip
          refine lv_iinc (v := (nI (k + 1))) (lv' := [(3, .int (nI (k + 1))), (0, .ref (ta 0)), (1, .int (nI k9)), (2, .int (nI kp))]) hx hb dX4_dropLimitsUnder_41 hl (k := 3) rfl (by exact nI_1 _) (by decide) rfl (fun ls hl => ?_)
          refine lv_goto (tgt := 4) hx hb dX4_dropLimitsUnder_44 (by decide) ?_
          exact ih4 (k + 1) kp f8 (by omega) (by omega) (dl2_skip hd hv9 (by rw [c23]; rfl)) _ _ _ hP hD hS (lv_sub hl [1, 2, 3, 0] rfl)
        · skip
          refine lv_aload_n hx hb dX4_dropLimitsUnder_26 rfl (lv_at hl 0 rfl) ?_
          refine va_get (D := D) (ci := 3) (v := .ref (ta 8)) (C := RX4) (T := TX4) (N := 9) hx hb hts hin4 hown hK hP 0 rfl rfl 8 (by decide) fl39 (fun _ h9 => h9) rfl dX4_dropLimitsUnder_27 ?_
          refine lv_iload_n hx hb dX4_dropLimitsUnder_30 rfl (lv_at hl 2 rfl) ?_
          refine lv_aload_n hx hb dX4_dropLimitsUnder_31 rfl (lv_at hl 0 rfl) ?_
          refine va_get (D := D) (ci := 3) (v := .ref (ta 8)) (C := RX4) (T := TX4) (N := 9) hx hb hts hin4 hown hK hP 0 rfl rfl 8 (by decide) fl39 (fun _ h9 => h9) rfl dX4_dropLimitsUnder_32 ?_
          refine lv_iload_n hx hb dX4_dropLimitsUnder_35 rfl (lv_at hl 3 rfl) ?_
          refine wk_iald hx hb hK hP 5 0 rfl rfl (i := k) (by omega) (by omega) dX4_dropLimitsUnder_36 ?_
          rw [show (f8 k) = (nI v) from (hd.2.2 k v (Nat.le_refl k) hv9)]
          refine wk_iast hx hb hK hP hD hS 5 0 rfl rfl (i := kp) (by omega) (by omega) dX4_dropLimitsUnder_37 (fun H locs hP hD hS => ?_)
          have hP : va_P D vwCl (tw cI cZ ta g0 (nI pl) g2 (nI C.length) h4 h5 h6 h7 (upd f8 kp (nI v))) H := hP
          have hD : va_D A (tw cI cZ ta g0 (nI pl) g2 (nI C.length) h4 h5 h6 h7 (upd f8 kp (nI v))) := hD
          refine lv_iinc (v := (nI (kp + 1))) (lv' := [(2, .int (nI (kp + 1))), (0, .ref (ta 0)), (1, .int (nI k9)), (3, .int (nI k))]) hx hb dX4_dropLimitsUnder_38 hl (k := 2) rfl (by exact nI_1 _) (by decide) rfl (fun ls hl => ?_)
          refine lv_iinc (v := (nI (k + 1))) (lv' := [(3, .int (nI (k + 1))), (2, .int (nI (kp + 1))), (0, .ref (ta 0)), (1, .int (nI k9))]) hx hb dX4_dropLimitsUnder_41 hl (k := 3) rfl (by exact nI_1 _) (by decide) rfl (fun ls hl => ?_)
          refine lv_goto (tgt := 4) hx hb dX4_dropLimitsUnder_44 (by decide) ?_
          exact ih4 (k + 1) (kp + 1) (upd f8 kp (nI v)) (by omega) (by omega) (dl2_keep hd hv9 (by rw [c23]; rfl)) _ _ _ hP hD hS (lv_sub hl [2, 3, 1, 0] rfl)
  exact lp4 _ 0 0 h8 (Nat.lt_succ_self _) (by omega) (dl2_0 hC) _ _ _ hP hD hS (lv_sub hl [2, 3, 1, 0] rfl)

set_option maxHeartbeats 4000000 in
set_option maxRecDepth 100000 in
theorem c_X4_insertLimit (l : Launch) (D : va_G) (cI cJ cZ cA : ClassId) (ta : Nat → Nat) (g0 g2 : Int32) (h4 h5 h6 h7 h8 : Nat → Int32) (sz pl k9 : Nat) (hpl : pl ≤ 5) (Ms : List Rw) (C : List Nat) (hX : rowsV h5 0 Ms) (hXl : Ms.length ≤ 1000) (hC : idxV h8 C) (hCl : C.length ≤ 999) (hCM : ∀ v, v ∈ C → v < Ms.length) (hkM : k9 < Ms.length) : Met l yX4_insertLimit wsX4_insertLimit ({ frames := 2, cells := 0, slots := 0, locals := 45 } : Room) (wr_P D (tysC cI cJ cZ cA) [.ref (ta 0), .int (nI k9)] (tw cI cZ ta g0 (nI pl) g2 (nI C.length) h4 h5 h6 h7 h8) sz) (wr_Qv D (S := Nat → Int32) (tw cI cZ ta g0 (nI pl) g2 (nI C.length) h4 h5 h6 h7 h8) sz (fun u => idxV u (insM (fun v => befP pl (Ms.getD k9 zR) (Ms.getD v zR)) k9 C)) (fun u => (tw cI cZ ta g0 (nI pl) g2 (nI ((insM (fun v => befP pl (Ms.getD k9 zR) (Ms.getD v zR)) k9 C).length)) h4 h5 h6 h7 u))) 0 0 (va_A (tw cI cZ ta g0 (nI pl) g2 (nI C.length) h4 h5 h6 h7 h8) sz) := by
  refine met_wv (cc := cX4_insertLimit) (maxL := 3) (by decide) rfl (Nat.le_of_ble_eq_true rfl) ?_
  intro p e s m args below meth c Q A hx hb hml hown hts hP hK hD hA hret ls hl
  obtain ⟨H, hH9⟩ : ∃ H : Heap, H = s.heap := ⟨_, rfl⟩
  have hP : va_P D vwCl (tw cI cZ ta g0 (nI pl) g2 (nI C.length) h4 h5 h6 h7 h8) H := by rw [hH9]; exact hP
  have hS : va_S A s.heap H [] := by rw [hH9]; exact va_S.rf
  rw [← hH9]
  have hown : s.vm.findClass RX4 = some m.cls := hown
  have hin4 : ∀ w ∈ wsX40, w ∈ wsX4_insertLimit := by decide +kernel
  have fl22 := hts (.fieldLink RX4 22 "CoverRounds$Tree" "limitCount" "I") (by decide +kernel)
  have fl39 := hts (.fieldLink RX4 39 "CoverRounds$Tree" "limitNodes" "[I") (by decide +kernel)
  have hl : lv_has ls 3 [(0, .ref (ta 0)), (1, .int (nI k9))] := hl
  obtain ⟨y9, hy8, hy7⟩ := rowsV_at0 hX hkM
  have hyr : ∀ q, q < 5 → h5 (5 * k9 + q) = (Ms.getD k9 zR) q := by rw [getD_of hy8]; exact hy7
  refine lv_aload_n hx hb dX4_insertLimit_0 rfl (lv_at hl 0 rfl) ?_
  refine va_get (D := D) (ci := 3) (v := .int (nI C.length)) (C := RX4) (T := TX4) (N := 9) hx hb hts hin4 hown hK hP 0 rfl rfl 3 (by decide) fl22 (fun _ h9 => h9) rfl dX4_insertLimit_1 ?_
  refine lv_istore_n (lv' := [(2, .int (nI C.length)), (0, .ref (ta 0)), (1, .int (nI k9))]) hx hb dX4_insertLimit_4 rfl hl (by decide) rfl (fun ls hl => ?_)
  have lp5 : ∀ (n9 : Nat) (at9 : Nat) (f8 : Nat → Int32), at9 < n9 → at9 ≤ C.length → insV f8 C at9 → posI (fun v => befP pl (Ms.getD k9 zR) (Ms.getD v zR)) C at9 = posI (fun v => befP pl (Ms.getD k9 zR) (Ms.getD v zR)) C C.length → ∀ (H : Heap) (locs : List Loc) (ls : Array Slot), va_P D vwCl (tw cI cZ ta g0 (nI pl) g2 (nI C.length) h4 h5 h6 h7 f8) H → va_D A (tw cI cZ ta g0 (nI pl) g2 (nI C.length) h4 h5 h6 h7 f8) → va_S A s.heap H locs → lv_has ls 3 [(0, .ref (ta 0)), (1, .int (nI k9)), (2, .int (nI at9))] → W p l e ({ frames := 2, cells := 0, slots := 0, locals := 45 } : Room) s m args below meth c H locs 0 0 Q (F0 m 5 ls []) := by
    intro n9
    induction n9 with
    | zero => intro at9 f8 hm5; exact absurd hm5 (Nat.not_lt_zero _)
    | succ n9 ih5 =>
      intro at9 f8 hm5 ha hi hp H locs ls hP hD hS hl
      refine lv_iload_n hx hb dX4_insertLimit_5 rfl (lv_at hl 2 rfl) ?_
      refine wk_if_le (tgt := 45) hx hb (by omega) dX4_insertLimit_6 (by decide) (fun c6 => ?_) (fun c6 => ?_)
      · skip
        subst c6
        have hpz : 0 = posI (fun v => befP pl (Ms.getD k9 zR) (Ms.getD v zR)) C C.length := hp
        refine lv_aload_n hx hb dX4_insertLimit_45 rfl (lv_at hl 0 rfl) ?_
        refine va_get (D := D) (ci := 3) (v := .ref (ta 8)) (C := RX4) (T := TX4) (N := 9) hx hb hts hin4 hown hK hP 0 rfl rfl 8 (by decide) fl39 (fun _ h9 => h9) rfl dX4_insertLimit_46 ?_
        refine lv_iload_n hx hb dX4_insertLimit_49 rfl (lv_at hl 2 rfl) ?_
        refine lv_iload_n hx hb dX4_insertLimit_50 rfl (lv_at hl 1 rfl) ?_
        refine wk_iast hx hb hK hP hD hS 5 0 rfl rfl (i := 0) (by omega) (by omega) dX4_insertLimit_51 (fun H locs hP hD hS => ?_)
        have hP : va_P D vwCl (tw cI cZ ta g0 (nI pl) g2 (nI C.length) h4 h5 h6 h7 (upd f8 0 (nI k9))) H := hP
        have hD : va_D A (tw cI cZ ta g0 (nI pl) g2 (nI C.length) h4 h5 h6 h7 (upd f8 0 (nI k9))) := hD
        refine lv_aload_n hx hb dX4_insertLimit_52 rfl (lv_at hl 0 rfl) ?_
        refine lv_dup hx hb dX4_insertLimit_53 rfl ?_
        refine va_get (D := D) (ci := 3) (v := .int (nI C.length)) (C := RX4) (T := TX4) (N := 9) hx hb hts hin4 hown hK hP 0 rfl rfl 3 (by decide) fl22 (fun _ h9 => h9) rfl dX4_insertLimit_54 ?_
        refine lv_iconst (v := nI 1) hx hb dX4_insertLimit_57 (by decide) ?_
        refine wk_iadd hx hb dX4_insertLimit_58 ?_
        refine va_put (D := D) (ci := 3) (v := .int (nI (C.length + 1))) (ty := .int) (C := RX4) (T := TX4) (N := 9) hx hb hts hin4 tyX4 tyX4_ok nmX4 hown hK hP hD hS 0 rfl rfl 3 (by decide) fl22 (fun _ h9 => h9) rfl (by decide +kernel) rfl rfl (Nat.le_of_ble_eq_true rfl) dX4_insertLimit_59 (fun H locs hP hD hS => ?_)
        have hP : va_P D vwCl (tw cI cZ ta g0 (nI pl) g2 (nI (C.length + 1)) h4 h5 h6 h7 (upd f8 0 (nI k9))) H := hP
        have hD : va_D A (tw cI cZ ta g0 (nI pl) g2 (nI (C.length + 1)) h4 h5 h6 h7 (upd f8 0 (nI k9))) := hD
        exact hret (upd f8 0 (nI k9)) _ _ _ _ _ _ (by rw [hpz] at hi; rw [hpz]; exact insV_end hi) (by rw [insM_len]; exact hP) (by rw [insM_len]; exact hD) dX4_insertLimit_62 hS (Nat.zero_le _) (Nat.zero_le _)
      · skip
        obtain ⟨a9, rfl⟩ : ∃ a9, at9 = a9 + 1 := ⟨at9 - 1, by omega⟩
        obtain ⟨v, hv9⟩ : ∃ v, C[a9]? = some v := ⟨_, List.getElem?_eq_getElem (by omega)⟩
        have hvM := hCM v (List.mem_of_getElem? hv9)
        obtain ⟨x, hx9, hr9⟩ := rowsV_at0 hX hvM
        have hxr : ∀ q, q < 5 → h5 (5 * v + q) = (Ms.getD v zR) q := by rw [getD_of hx9]; exact hr9
        refine lv_aload_n hx hb dX4_insertLimit_9 rfl (lv_at hl 0 rfl) ?_
        refine lv_iload_n hx hb dX4_insertLimit_10 rfl (lv_at hl 1 rfl) ?_
        refine lv_aload_n hx hb dX4_insertLimit_11 rfl (lv_at hl 0 rfl) ?_
        refine va_get (D := D) (ci := 3) (v := .ref (ta 8)) (C := RX4) (T := TX4) (N := 9) hx hb hts hin4 hown hK hP 0 rfl rfl 8 (by decide) fl39 (fun _ h9 => h9) rfl dX4_insertLimit_12 ?_
        refine lv_iload_n hx hb dX4_insertLimit_15 rfl (lv_at hl 2 rfl) ?_
        refine lv_iconst (v := nI 1) hx hb dX4_insertLimit_16 (by decide) ?_
        refine wk_isub hx hb (by omega) dX4_insertLimit_17 ?_
        refine wk_iald hx hb hK hP 5 0 rfl rfl (i := (a9 + 1) - 1) (by omega) (by omega) dX4_insertLimit_18 ?_
        rw [show (f8 ((a9 + 1) - 1)) = (nI v) from (hi.1 a9 v (by omega) hv9)]
        refine wk_Vi (As := [.int (nI k9), .int (nI v)]) (rest := []) ⟨hx, hb, hml, hown, hts⟩ (c_X4_comesBefore l D cI cJ cZ cA ta g0 g2 (nI C.length) h4 h5 h6 h7 f8 pl k9 v hpl (Ms.getD k9 zR) (Ms.getD v zR) (by omega) (by omega) hyr hxr) (cwV 2 hts gX4_insertLimit_X4_comesBefore rfl rfl rfl (by decide +kernel) ⟨Nat.le_of_ble_eq_true rfl, Nat.le_of_ble_eq_true rfl⟩) hK hP [0, 1, 2, 3, 4, 5] rfl 0 3 rfl rfl hS rfl hl.1 rfl (Nat.le_of_ble_eq_true rfl) dX4_insertLimit_19 ⟨Nat.zero_le _, Nat.zero_le _⟩ (fun H locs hP hS => ?_)
        refine wk_if_eqb (tgt := 45) hx hb dX4_insertLimit_22 (by decide) (fun c22 => ?_) (fun c22 => ?_)
        · skip
          have hpz : a9 + 1 = posI (fun v => befP pl (Ms.getD k9 zR) (Ms.getD v zR)) C C.length := by rw [← hp, posI_n (bf := (fun v => befP pl (Ms.getD k9 zR) (Ms.getD v zR))) (C := C) (a := a9) (by rw [getD_of hv9]; exact c22)]
          refine lv_aload_n hx hb dX4_insertLimit_45 rfl (lv_at hl 0 rfl) ?_
          refine va_get (D := D) (ci := 3) (v := .ref (ta 8)) (C := RX4) (T := TX4) (N := 9) hx hb hts hin4 hown hK hP 0 rfl rfl 8 (by decide) fl39 (fun _ h9 => h9) rfl dX4_insertLimit_46 ?_
          refine lv_iload_n hx hb dX4_insertLimit_49 rfl (lv_at hl 2 rfl) ?_
          refine lv_iload_n hx hb dX4_insertLimit_50 rfl (lv_at hl 1 rfl) ?_
          refine wk_iast hx hb hK hP hD hS 5 0 rfl rfl (i := (a9 + 1)) (by omega) (by omega) dX4_insertLimit_51 (fun H locs hP hD hS => ?_)
          have hP : va_P D vwCl (tw cI cZ ta g0 (nI pl) g2 (nI C.length) h4 h5 h6 h7 (upd f8 (a9 + 1) (nI k9))) H := hP
          have hD : va_D A (tw cI cZ ta g0 (nI pl) g2 (nI C.length) h4 h5 h6 h7 (upd f8 (a9 + 1) (nI k9))) := hD
          refine lv_aload_n hx hb dX4_insertLimit_52 rfl (lv_at hl 0 rfl) ?_
          refine lv_dup hx hb dX4_insertLimit_53 rfl ?_
          refine va_get (D := D) (ci := 3) (v := .int (nI C.length)) (C := RX4) (T := TX4) (N := 9) hx hb hts hin4 hown hK hP 0 rfl rfl 3 (by decide) fl22 (fun _ h9 => h9) rfl dX4_insertLimit_54 ?_
          refine lv_iconst (v := nI 1) hx hb dX4_insertLimit_57 (by decide) ?_
          refine wk_iadd hx hb dX4_insertLimit_58 ?_
          refine va_put (D := D) (ci := 3) (v := .int (nI (C.length + 1))) (ty := .int) (C := RX4) (T := TX4) (N := 9) hx hb hts hin4 tyX4 tyX4_ok nmX4 hown hK hP hD hS 0 rfl rfl 3 (by decide) fl22 (fun _ h9 => h9) rfl (by decide +kernel) rfl rfl (Nat.le_of_ble_eq_true rfl) dX4_insertLimit_59 (fun H locs hP hD hS => ?_)
          have hP : va_P D vwCl (tw cI cZ ta g0 (nI pl) g2 (nI (C.length + 1)) h4 h5 h6 h7 (upd f8 (a9 + 1) (nI k9))) H := hP
          have hD : va_D A (tw cI cZ ta g0 (nI pl) g2 (nI (C.length + 1)) h4 h5 h6 h7 (upd f8 (a9 + 1) (nI k9))) := hD
          exact hret (upd f8 (a9 + 1) (nI k9)) _ _ _ _ _ _ (by rw [hpz] at hi; rw [hpz]; exact insV_end hi) (by rw [insM_len]; exact hP) (by rw [insM_len]; exact hD) dX4_insertLimit_62 hS (Nat.zero_le _) (Nat.zero_le _)
        · skip
          refine lv_aload_n hx hb dX4_insertLimit_25 rfl (lv_at hl 0 rfl) ?_
          refine va_get (D := D) (ci := 3) (v := .ref (ta 8)) (C := RX4) (T := TX4) (N := 9) hx hb hts hin4 hown hK hP 0 rfl rfl 8 (by decide) fl39 (fun _ h9 => h9) rfl dX4_insertLimit_26 ?_
          refine lv_iload_n hx hb dX4_insertLimit_29 rfl (lv_at hl 2 rfl) ?_
          refine lv_aload_n hx hb dX4_insertLimit_30 rfl (lv_at hl 0 rfl) ?_
          refine va_get (D := D) (ci := 3) (v := .ref (ta 8)) (C := RX4) (T := TX4) (N := 9) hx hb hts hin4 hown hK hP 0 rfl rfl 8 (by decide) fl39 (fun _ h9 => h9) rfl dX4_insertLimit_31 ?_
          refine lv_iload_n hx hb dX4_insertLimit_34 rfl (lv_at hl 2 rfl) ?_
          refine lv_iconst (v := nI 1) hx hb dX4_insertLimit_35 (by decide) ?_
          refine wk_isub hx hb (by omega) dX4_insertLimit_36 ?_
          refine wk_iald hx hb hK hP 5 0 rfl rfl (i := (a9 + 1) - 1) (by omega) (by omega) dX4_insertLimit_37 ?_
          rw [show (f8 ((a9 + 1) - 1)) = (nI v) from (hi.1 a9 v (by omega) hv9)]
          refine wk_iast hx hb hK hP hD hS 5 0 rfl rfl (i := (a9 + 1)) (by omega) (by omega) dX4_insertLimit_38 (fun H locs hP hD hS => ?_)
          have hP : va_P D vwCl (tw cI cZ ta g0 (nI pl) g2 (nI C.length) h4 h5 h6 h7 (upd f8 (a9 + 1) (nI v))) H := hP
          have hD : va_D A (tw cI cZ ta g0 (nI pl) g2 (nI C.length) h4 h5 h6 h7 (upd f8 (a9 + 1) (nI v))) := hD
          refine lv_iinc (v := (nI ((a9 + 1) - 1))) (lv' := [(2, .int (nI ((a9 + 1) - 1))), (0, .ref (ta 0)), (1, .int (nI k9))]) hx hb dX4_insertLimit_39 hl (k := 2) rfl (by exact wk_dec (by omega)) (by decide) rfl (fun ls hl => ?_)
          refine lv_goto (tgt := 5) hx hb dX4_insertLimit_42 (by decide) ?_
          exact ih5 a9 (upd f8 (a9 + 1) (nI v)) (by omega) (by omega) (insV_s hi hv9) (by rw [← hp, posI_y (bf := (fun v => befP pl (Ms.getD k9 zR) (Ms.getD v zR))) (C := C) (a := a9) (by rw [getD_of hv9]; exact c22)]) _ _ _ hP hD hS (lv_sub hl [1, 2, 0] rfl)
  exact lp5 _ C.length h8 (Nat.lt_succ_self _) (Nat.le_refl _) (insV_0 hC) rfl _ _ _ hP hD hS (lv_sub hl [1, 2, 0] rfl)

set_option maxHeartbeats 4000000 in
set_option maxRecDepth 100000 in
theorem c_X4_gatherLimits (l : Launch) (D : va_G) (cI cJ cZ cA : ClassId) (ta : Nat → Nat) (g0 : Int32) (h4 h5 h6 h7 h8 : Nat → Int32) (sz pl : Nat) (hpl : pl ≤ 5) (Ms : List Rw) (hX : rowsV h5 0 Ms) (hXl : Ms.length ≤ 1000) : Met l yX4_gatherLimits wsX4_gatherLimits ({ frames := 3, cells := 0, slots := 0, locals := 67 } : Room) (wr_P D (tysC cI cJ cZ cA) [.ref (ta 0)] (tw cI cZ ta g0 (nI pl) (nI Ms.length) (nI 0) h4 h5 h6 h7 h8) sz) (wr_Qv D (S := Nat → Int32) (tw cI cZ ta g0 (nI pl) (nI Ms.length) (nI 0) h4 h5 h6 h7 h8) sz (fun u => idxV u (glL pl Ms Ms.length)) (fun u => (tw cI cZ ta g0 (nI pl) (nI Ms.length) (nI ((glL pl Ms Ms.length).length)) h4 h5 h6 h7 u))) 0 0 (va_A (tw cI cZ ta g0 (nI pl) (nI Ms.length) (nI 0) h4 h5 h6 h7 h8) sz) := by
  refine met_wv (cc := cX4_gatherLimits) (maxL := 2) (by decide) rfl (Nat.le_of_ble_eq_true rfl) ?_
  intro p e s m args below meth c Q A hx hb hml hown hts hP hK hD hA hret ls hl
  obtain ⟨H, hH9⟩ : ∃ H : Heap, H = s.heap := ⟨_, rfl⟩
  have hP : va_P D vwCl (tw cI cZ ta g0 (nI pl) (nI Ms.length) (nI 0) h4 h5 h6 h7 h8) H := by rw [hH9]; exact hP
  have hS : va_S A s.heap H [] := by rw [hH9]; exact va_S.rf
  rw [← hH9]
  have hown : s.vm.findClass RX4 = some m.cls := hown
  have hin4 : ∀ w ∈ wsX40, w ∈ wsX4_gatherLimits := by decide +kernel
  have fl19 := hts (.fieldLink RX4 19 "CoverRounds$Tree" "nodes" "I") (by decide +kernel)
  have hl : lv_has ls 2 [(0, .ref (ta 0))] := hl
  refine lv_iconst (v := nI 0) hx hb dX4_gatherLimits_0 (by decide) ?_
  refine lv_istore_n (lv' := [(1, .int (nI 0)), (0, .ref (ta 0))]) hx hb dX4_gatherLimits_1 rfl hl (by decide) rfl (fun ls hl => ?_)
  have lp2 : ∀ (n9 : Nat) (k : Nat) (f8 : Nat → Int32), Ms.length - k < n9 → k ≤ Ms.length → idxV f8 (glL pl Ms k) → ∀ (H : Heap) (locs : List Loc) (ls : Array Slot), va_P D vwCl (tw cI cZ ta g0 (nI pl) (nI Ms.length) (nI ((glL pl Ms k).length)) h4 h5 h6 h7 f8) H → va_D A (tw cI cZ ta g0 (nI pl) (nI Ms.length) (nI ((glL pl Ms k).length)) h4 h5 h6 h7 f8) → va_S A s.heap H locs → lv_has ls 2 [(0, .ref (ta 0)), (1, .int (nI k))] → W p l e ({ frames := 3, cells := 0, slots := 0, locals := 67 } : Room) s m args below meth c H locs 0 0 Q (F0 m 2 ls []) := by
    intro n9
    induction n9 with
    | zero => intro k f8 hm2; exact absurd hm2 (Nat.not_lt_zero _)
    | succ n9 ih2 =>
      intro k f8 hm2 hk hC H locs ls hP hD hS hl
      obtain ⟨hCl, hCk⟩ := glL_in pl Ms k
      refine lv_iload_n hx hb dX4_gatherLimits_2 rfl (lv_at hl 1 rfl) ?_
      refine lv_aload_n hx hb dX4_gatherLimits_3 rfl (lv_at hl 0 rfl) ?_
      refine va_get (D := D) (ci := 3) (v := .int (nI Ms.length)) (C := RX4) (T := TX4) (N := 9) hx hb hts hin4 hown hK hP 0 rfl rfl 2 (by decide) fl19 (fun _ h9 => h9) rfl dX4_gatherLimits_4 ?_
      refine wk_icmp_ge (tgt := 34) hx hb (by omega) (by omega) dX4_gatherLimits_7 (by decide) (fun c7 => ?_) (fun c7 => ?_)
      · skip
        have hkM : k = Ms.length := by omega
        subst hkM
        exact hret f8 _ _ _ _ _ _ hC hP hD dX4_gatherLimits_34 hS (Nat.zero_le _) (Nat.zero_le _)
      · skip
        refine lv_aload_n hx hb dX4_gatherLimits_10 rfl (lv_at hl 0 rfl) ?_
        refine lv_iload_n hx hb dX4_gatherLimits_11 rfl (lv_at hl 1 rfl) ?_
        refine wk_Vi (As := [.int (nI k)]) (rest := []) ⟨hx, hb, hml, hown, hts⟩ (c_X4_hasLimitOver l D cI cJ cZ cA ta g0 (nI Ms.length) h4 h5 h6 h7 f8 pl k hpl Ms (glL pl Ms k) hX hXl hC (by omega) (fun v hv => by have := hCk v hv; omega) (by omega)) (cwV 1 hts gX4_gatherLimits_X4_hasLimitOver rfl rfl rfl (by decide +kernel) ⟨Nat.le_of_ble_eq_true rfl, Nat.le_of_ble_eq_true rfl⟩) hK hP [0, 1, 2, 3, 4, 5] rfl 0 3 rfl rfl hS rfl hl.1 rfl (Nat.le_of_ble_eq_true rfl) dX4_gatherLimits_12 ⟨Nat.zero_le _, Nat.zero_le _⟩ (fun H locs hP hS => ?_)
        refine wk_if_neb (tgt := 28) hx hb dX4_gatherLimits_15 (by decide) (fun c15 => ?_) (fun c15 => ?_)
        · skip
          refine lv_iinc (v := (nI (k + 1))) (lv' := [(1, .int (nI (k + 1))), (0, .ref (ta 0))]) hx hb dX4_gatherLimits_28 hl (k := 1) rfl (by exact nI_1 _) (by decide) rfl (fun ls hl => ?_)
          refine lv_goto (tgt := 2) hx hb dX4_gatherLimits_31 (by decide) ?_
          have hP : va_P D vwCl (tw cI cZ ta g0 (nI pl) (nI Ms.length) (nI ((glL pl Ms (k + 1)).length)) h4 h5 h6 h7 f8) H := by rw [glL_s, glS, if_pos c15]; exact hP
          have hD : va_D A (tw cI cZ ta g0 (nI pl) (nI Ms.length) (nI ((glL pl Ms (k + 1)).length)) h4 h5 h6 h7 f8) := by rw [glL_s, glS, if_pos c15]; exact hD
          exact ih2 (k + 1) f8 (by omega) (by omega) (by rw [glL_s, glS, if_pos c15]; exact hC) _ _ _ hP hD hS (lv_sub hl [1, 0] rfl)
        · skip
          refine lv_aload_n hx hb dX4_gatherLimits_18 rfl (lv_at hl 0 rfl) ?_
          refine lv_iload_n hx hb dX4_gatherLimits_19 rfl (lv_at hl 1 rfl) ?_
          refine wk_VvW (As := [.int (nI k)]) (rest := []) (wr := []) ⟨hx, hb, hml, hown, hts⟩ (c_X4_dropLimitsUnder l D cI cJ cZ cA ta g0 (nI Ms.length) h4 h5 h6 h7 f8 H.size pl k hpl Ms (glL pl Ms k) hX hXl hC (by omega) (fun v hv => by have := hCk v hv; omega) (by omega)) (cwV 1 hts gX4_gatherLimits_X4_dropLimitsUnder rfl rfl rfl (by decide +kernel) ⟨Nat.le_of_ble_eq_true rfl, Nat.le_of_ble_eq_true rfl⟩) hK hP hD hA [0, 1, 2, 3, 4, 5] rfl (by decide) [] rfl (by decide) (by decide) 0 3 rfl rfl hS rfl hl.1 rfl (Nat.le_of_ble_eq_true rfl) dX4_gatherLimits_20 ⟨Nat.zero_le _, Nat.zero_le _⟩ (fun u8 H locs hu8 hP hD hS => ?_)
          have hP : va_P D vwCl (tw cI cZ ta g0 (nI pl) (nI Ms.length) (nI (((glL pl Ms k).filter (fun v => !(tpP pl (Ms.getD k zR) (Ms.getD v zR)))).length)) h4 h5 h6 h7 u8) H := hP
          have hD : va_D A (tw cI cZ ta g0 (nI pl) (nI Ms.length) (nI (((glL pl Ms k).filter (fun v => !(tpP pl (Ms.getD k zR) (Ms.getD v zR)))).length)) h4 h5 h6 h7 u8) := hD
          refine lv_aload_n hx hb dX4_gatherLimits_23 rfl (lv_at hl 0 rfl) ?_
          refine lv_iload_n hx hb dX4_gatherLimits_24 rfl (lv_at hl 1 rfl) ?_
          refine wk_VvW (As := [.int (nI k)]) (rest := []) (wr := []) ⟨hx, hb, hml, hown, hts⟩ (c_X4_insertLimit l D cI cJ cZ cA ta g0 (nI Ms.length) h4 h5 h6 h7 u8 H.size pl k hpl Ms ((glL pl Ms k).filter (fun v => !(tpP pl (Ms.getD k zR) (Ms.getD v zR)))) hX hXl hu8 (by have := List.length_filter_le (fun v => !(tpP pl (Ms.getD k zR) (Ms.getD v zR))) (glL pl Ms k); omega) (fun v hv => by have := hCk v (List.mem_filter.mp hv).1; omega) (by omega)) (cwV 1 hts gX4_gatherLimits_X4_insertLimit rfl rfl rfl (by decide +kernel) ⟨Nat.le_of_ble_eq_true rfl, Nat.le_of_ble_eq_true rfl⟩) hK hP hD hA [0, 1, 2, 3, 4, 5] rfl (by decide) [] rfl (by decide) (by decide) 0 3 rfl rfl hS rfl hl.1 rfl (Nat.le_of_ble_eq_true rfl) dX4_gatherLimits_25 ⟨Nat.zero_le _, Nat.zero_le _⟩ (fun u9 H locs hu hP hD hS => ?_)
          have hP : va_P D vwCl (tw cI cZ ta g0 (nI pl) (nI Ms.length) (nI ((insM (fun v => befP pl (Ms.getD k zR) (Ms.getD v zR)) k ((glL pl Ms k).filter (fun v => !(tpP pl (Ms.getD k zR) (Ms.getD v zR))))).length)) h4 h5 h6 h7 u9) H := hP
          have hD : va_D A (tw cI cZ ta g0 (nI pl) (nI Ms.length) (nI ((insM (fun v => befP pl (Ms.getD k zR) (Ms.getD v zR)) k ((glL pl Ms k).filter (fun v => !(tpP pl (Ms.getD k zR) (Ms.getD v zR))))).length)) h4 h5 h6 h7 u9) := hD
          refine lv_iinc (v := (nI (k + 1))) (lv' := [(1, .int (nI (k + 1))), (0, .ref (ta 0))]) hx hb dX4_gatherLimits_28 hl (k := 1) rfl (by exact nI_1 _) (by decide) rfl (fun ls hl => ?_)
          refine lv_goto (tgt := 2) hx hb dX4_gatherLimits_31 (by decide) ?_
          have hP : va_P D vwCl (tw cI cZ ta g0 (nI pl) (nI Ms.length) (nI ((glL pl Ms (k + 1)).length)) h4 h5 h6 h7 u9) H := by rw [glL_s, glS, if_neg (by rw [c15]; exact Bool.false_ne_true)]; exact hP
          have hD : va_D A (tw cI cZ ta g0 (nI pl) (nI Ms.length) (nI ((glL pl Ms (k + 1)).length)) h4 h5 h6 h7 u9) := by rw [glL_s, glS, if_neg (by rw [c15]; exact Bool.false_ne_true)]; exact hD
          exact ih2 (k + 1) u9 (by omega) (by omega) (by rw [glL_s, glS, if_neg (by rw [c15]; exact Bool.false_ne_true)]; exact hu) _ _ _ hP hD hS (lv_sub hl [1, 0] rfl)
  have hP : va_P D vwCl (tw cI cZ ta g0 (nI pl) (nI Ms.length) (nI ((glL pl Ms 0).length)) h4 h5 h6 h7 h8) H := by skip; exact hP
  have hD : va_D A (tw cI cZ ta g0 (nI pl) (nI Ms.length) (nI ((glL pl Ms 0).length)) h4 h5 h6 h7 h8) := by skip; exact hD
  exact lp2 _ 0 h8 (Nat.lt_succ_self _) (by omega) (fun j v h => by cases h) _ _ _ hP hD hS (lv_sub hl [1, 0] rfl)
