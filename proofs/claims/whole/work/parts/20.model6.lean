set_option maxHeartbeats 4000000 in
set_option maxRecDepth 100000 in
theorem c_X6_steps (l : Launch) (D : va_G) (cI cJ cZ cA : ClassId) (r : Nat → Nat) (i0 i3 i7 i8 i9 i13 i15 i17 i18 i19 i22 i23 : Int32) (a1 a2 a4 a5 a6 a10 a11 a12 a14 a16 a20 a21 a24 a25 a26 : Nat → Int32)  : Met l yX6_steps wsX6_steps ({ frames := 0, cells := 0, slots := 0, locals := 0 } : Room) (ro_P D (tysC cI cJ cZ cA) [.ref (r 0)] (mw cI r i0 i3 i7 i8 i9 i13 i15 i17 i18 i19 i22 i23 a1 a2 a4 a5 a6 a10 a11 a12 a14 a16 a20 a21 a24 a25 a26)) (ro_Q (if i7 = nI 1 then i8 else -1)) 0 0 (fun _ => False) := by
  refine met_ro (cc := cX6_steps) (maxL := 1) (ty := .int) (by decide) rfl (Nat.le_of_ble_eq_true rfl) rfl ?_
  intro p e s m args below meth c Q hx hb hml hown hts hP hK hret ls hl
  obtain ⟨H, hH9⟩ : ∃ H : Heap, H = s.heap := ⟨_, rfl⟩
  have hP : va_P D vwCl (mw cI r i0 i3 i7 i8 i9 i13 i15 i17 i18 i19 i22 i23 a1 a2 a4 a5 a6 a10 a11 a12 a14 a16 a20 a21 a24 a25 a26) H := by rw [hH9]; exact hP
  have hS : va_S (fun _ => False) s.heap H [] := by rw [hH9]; exact va_S.rf
  rw [← hH9]
  have hown : s.vm.findClass RX6 = some m.cls := hown
  have hin6 : ∀ w ∈ wsX60, w ∈ wsX6_steps := by decide +kernel
  have fl25 := hts (.fieldLink RX6 25 "CoverRoundsModel" "ended" "I") (by decide +kernel)
  have fl96 := hts (.fieldLink RX6 96 "CoverRoundsModel" "last" "I") (by decide +kernel)
  have hl : lv_has ls 1 [(0, .ref (r 0))] := hl
  refine lv_aload_n hx hb dX6_steps_0 rfl (lv_at hl 0 rfl) ?_
  refine va_get (D := D) (ci := 5) (v := .int i7) (C := RX6) (T := TX6) (N := 27) hx hb hts hin6 hown hK hP 0 rfl rfl 7 (by decide) fl25 (fun _ h9 => h9) rfl dX6_steps_1 ?_
  refine lv_iconst (v := nI 1) hx hb dX6_steps_4 (by decide) ?_
  refine lv_icmp_ne (tgt := 15) hx hb dX6_steps_5 (by decide) (fun c5 => ?_) (fun c5 => ?_)
  · skip
    refine lv_iconst (v := -1) hx hb dX6_steps_15 (by decide) ?_
    exact hret _ _ _ _ _ (by rw [if_neg c5]) dX6_steps_16 hS
  · skip
    refine lv_aload_n hx hb dX6_steps_8 rfl (lv_at hl 0 rfl) ?_
    refine va_get (D := D) (ci := 5) (v := .int i8) (C := RX6) (T := TX6) (N := 27) hx hb hts hin6 hown hK hP 0 rfl rfl 8 (by decide) fl96 (fun _ h9 => h9) rfl dX6_steps_9 ?_
    refine lv_goto (tgt := 16) hx hb dX6_steps_12 (by decide) ?_
    exact hret _ _ _ _ _ (by rw [if_pos c5]) dX6_steps_16 hS

set_option maxHeartbeats 4000000 in
set_option maxRecDepth 100000 in
theorem c_X6_witness (l : Launch) (D : va_G) (cI cJ cZ cA : ClassId) (r : Nat → Nat) (i0 i3 i7 i9 i13 i15 i17 i18 i19 i22 i23 : Int32) (a1 a2 a4 a5 a6 a10 a11 a12 a14 a16 a20 a21 a24 a25 a26 : Nat → Int32) (la : Nat) (x : Int32) (hla : la ≤ 60) : Met l yX6_witness wsX6_witness ({ frames := 0, cells := 0, slots := 0, locals := 0 } : Room) (ro_P D (tysC cI cJ cZ cA) [.ref (r 0), .int x] (mw cI r i0 i3 i7 (nI la) i9 i13 i15 i17 i18 i19 i22 i23 a1 a2 a4 a5 a6 a10 a11 a12 a14 a16 a20 a21 a24 a25 a26)) (ro_Q (if i7 = nI 1 ∧ inB x (nI la) = true then a16 x.toNatClampNeg else -1)) 0 0 (fun _ => False) := by
  refine met_ro (cc := cX6_witness) (maxL := 2) (ty := .int) (by decide) rfl (Nat.le_of_ble_eq_true rfl) rfl ?_
  intro p e s m args below meth c Q hx hb hml hown hts hP hK hret ls hl
  obtain ⟨H, hH9⟩ : ∃ H : Heap, H = s.heap := ⟨_, rfl⟩
  have hP : va_P D vwCl (mw cI r i0 i3 i7 (nI la) i9 i13 i15 i17 i18 i19 i22 i23 a1 a2 a4 a5 a6 a10 a11 a12 a14 a16 a20 a21 a24 a25 a26) H := by rw [hH9]; exact hP
  have hS : va_S (fun _ => False) s.heap H [] := by rw [hH9]; exact va_S.rf
  rw [← hH9]
  have hown : s.vm.findClass RX6 = some m.cls := hown
  have hin6 : ∀ w ∈ wsX60, w ∈ wsX6_witness := by decide +kernel
  have fl25 := hts (.fieldLink RX6 25 "CoverRoundsModel" "ended" "I") (by decide +kernel)
  have fl96 := hts (.fieldLink RX6 96 "CoverRoundsModel" "last" "I") (by decide +kernel)
  have fl42 := hts (.fieldLink RX6 42 "CoverRoundsModel" "rows" "[I") (by decide +kernel)
  have hl : lv_has ls 2 [(0, .ref (r 0)), (1, .int x)] := hl
  refine lv_aload_n hx hb dX6_witness_0 rfl (lv_at hl 0 rfl) ?_
  refine va_get (D := D) (ci := 5) (v := .int i7) (C := RX6) (T := TX6) (N := 27) hx hb hts hin6 hown hK hP 0 rfl rfl 7 (by decide) fl25 (fun _ h9 => h9) rfl dX6_witness_1 ?_
  refine lv_iconst (v := nI 1) hx hb dX6_witness_4 (by decide) ?_
  refine lv_icmp_ne (tgt := 29) hx hb dX6_witness_5 (by decide) (fun c5 => ?_) (fun c5 => ?_)
  · skip
    refine lv_iconst (v := -1) hx hb dX6_witness_29 (by decide) ?_
    exact hret _ _ _ _ _ (by rw [if_neg (fun h => c5 h.1)]) dX6_witness_30 hS
  · skip
    refine lv_iload_n hx hb dX6_witness_8 rfl (lv_at hl 1 rfl) ?_
    refine lv_if_lt (tgt := 29) hx hb dX6_witness_9 (by decide) (fun c9 => ?_) (fun c9 => ?_)
    · skip
      refine lv_iconst (v := -1) hx hb dX6_witness_29 (by decide) ?_
      exact hret _ _ _ _ _ (by rw [if_neg (fun h => by have h2 := h.2; simp [inB, c9] at h2)]) dX6_witness_30 hS
    · skip
      refine lv_iload_n hx hb dX6_witness_12 rfl (lv_at hl 1 rfl) ?_
      refine lv_aload_n hx hb dX6_witness_13 rfl (lv_at hl 0 rfl) ?_
      refine va_get (D := D) (ci := 5) (v := .int (nI la)) (C := RX6) (T := TX6) (N := 27) hx hb hts hin6 hown hK hP 0 rfl rfl 8 (by decide) fl96 (fun _ h9 => h9) rfl dX6_witness_14 ?_
      refine lv_icmp_ge (tgt := 29) hx hb dX6_witness_17 (by decide) (fun c17 => ?_) (fun c17 => ?_)
      · skip
        refine lv_iconst (v := -1) hx hb dX6_witness_29 (by decide) ?_
        exact hret _ _ _ _ _ (by rw [if_neg (fun h => by have h2 := h.2; simp [inB, c17] at h2)]) dX6_witness_30 hS
      · skip
        obtain ⟨j, hj, rfl, -⟩ := pk_mu c9 c17 (show la < 2 ^ 31 by omega)
        refine lv_aload_n hx hb dX6_witness_20 rfl (lv_at hl 0 rfl) ?_
        refine va_get (D := D) (ci := 5) (v := .ref (r 16)) (C := RX6) (T := TX6) (N := 27) hx hb hts hin6 hown hK hP 0 rfl rfl 16 (by decide) fl42 (fun _ h9 => h9) rfl dX6_witness_21 ?_
        refine lv_iload_n hx hb dX6_witness_24 rfl (lv_at hl 1 rfl) ?_
        refine wk_iald hx hb hK hP 10 0 rfl rfl (i := j) (by omega) (by omega) dX6_witness_25 ?_
        refine lv_goto (tgt := 30) hx hb dX6_witness_26 (by decide) ?_
        exact hret _ _ _ _ _ (by rw [if_pos ⟨c5, inB_is hj (by omega)⟩, nI_clamp (by omega)]) dX6_witness_30 hS

set_option maxHeartbeats 4000000 in
set_option maxRecDepth 100000 in
theorem c_X6_least (l : Launch) (D : va_G) (cI cJ cZ cA : ClassId) (r : Nat → Nat) (i0 i3 i7 i9 i13 i15 i17 i18 i19 i22 i23 : Int32) (a1 a2 a4 a5 a6 a10 a11 a12 a14 a16 a20 a21 a24 a25 a26 : Nat → Int32) (la : Nat) (x : Int32) (hla : la ≤ 60) : Met l yX6_least wsX6_least ({ frames := 0, cells := 0, slots := 0, locals := 0 } : Room) (ro_P D (tysC cI cJ cZ cA) [.ref (r 0), .int x] (mw cI r i0 i3 i7 (nI la) i9 i13 i15 i17 i18 i19 i22 i23 a1 a2 a4 a5 a6 a10 a11 a12 a14 a16 a20 a21 a24 a25 a26)) (ro_Q (if ¬ nI 2 ≤ i7 ∧ inC x (nI la) = true then a10 x.toNatClampNeg else -1)) 0 0 (fun _ => False) := by
  refine met_ro (cc := cX6_least) (maxL := 2) (ty := .int) (by decide) rfl (Nat.le_of_ble_eq_true rfl) rfl ?_
  intro p e s m args below meth c Q hx hb hml hown hts hP hK hret ls hl
  obtain ⟨H, hH9⟩ : ∃ H : Heap, H = s.heap := ⟨_, rfl⟩
  have hP : va_P D vwCl (mw cI r i0 i3 i7 (nI la) i9 i13 i15 i17 i18 i19 i22 i23 a1 a2 a4 a5 a6 a10 a11 a12 a14 a16 a20 a21 a24 a25 a26) H := by rw [hH9]; exact hP
  have hS : va_S (fun _ => False) s.heap H [] := by rw [hH9]; exact va_S.rf
  rw [← hH9]
  have hown : s.vm.findClass RX6 = some m.cls := hown
  have hin6 : ∀ w ∈ wsX60, w ∈ wsX6_least := by decide +kernel
  have fl25 := hts (.fieldLink RX6 25 "CoverRoundsModel" "ended" "I") (by decide +kernel)
  have fl96 := hts (.fieldLink RX6 96 "CoverRoundsModel" "last" "I") (by decide +kernel)
  have fl29 := hts (.fieldLink RX6 29 "CoverRoundsModel" "leastCounts" "[I") (by decide +kernel)
  have hl : lv_has ls 2 [(0, .ref (r 0)), (1, .int x)] := hl
  refine lv_aload_n hx hb dX6_least_0 rfl (lv_at hl 0 rfl) ?_
  refine va_get (D := D) (ci := 5) (v := .int i7) (C := RX6) (T := TX6) (N := 27) hx hb hts hin6 hown hK hP 0 rfl rfl 7 (by decide) fl25 (fun _ h9 => h9) rfl dX6_least_1 ?_
  refine lv_iconst (v := nI 2) hx hb dX6_least_4 (by decide) ?_
  refine lv_icmp_ge (tgt := 29) hx hb dX6_least_5 (by decide) (fun c5 => ?_) (fun c5 => ?_)
  · skip
    refine lv_iconst (v := -1) hx hb dX6_least_29 (by decide) ?_
    exact hret _ _ _ _ _ (by rw [if_neg (fun h => h.1 c5)]) dX6_least_30 hS
  · skip
    refine lv_iload_n hx hb dX6_least_8 rfl (lv_at hl 1 rfl) ?_
    refine lv_if_lt (tgt := 29) hx hb dX6_least_9 (by decide) (fun c9 => ?_) (fun c9 => ?_)
    · skip
      refine lv_iconst (v := -1) hx hb dX6_least_29 (by decide) ?_
      exact hret _ _ _ _ _ (by rw [if_neg (fun h => by have h2 := h.2; simp [inC, c9] at h2)]) dX6_least_30 hS
    · skip
      refine lv_iload_n hx hb dX6_least_12 rfl (lv_at hl 1 rfl) ?_
      refine lv_aload_n hx hb dX6_least_13 rfl (lv_at hl 0 rfl) ?_
      refine va_get (D := D) (ci := 5) (v := .int (nI la)) (C := RX6) (T := TX6) (N := 27) hx hb hts hin6 hown hK hP 0 rfl rfl 8 (by decide) fl96 (fun _ h9 => h9) rfl dX6_least_14 ?_
      refine lv_icmp_gt (tgt := 29) hx hb dX6_least_17 (by decide) (fun c17 => ?_) (fun c17 => ?_)
      · skip
        refine lv_iconst (v := -1) hx hb dX6_least_29 (by decide) ?_
        exact hret _ _ _ _ _ (by rw [if_neg (fun h => by have h2 := h.2; simp [inC, c17] at h2)]) dX6_least_30 hS
      · skip
        have hin9 : inC x (nI la) = true := by simp [inC, c9, c17]
        obtain ⟨j, hj, rfl⟩ := inC_nI (by omega) hin9
        refine lv_aload_n hx hb dX6_least_20 rfl (lv_at hl 0 rfl) ?_
        refine va_get (D := D) (ci := 5) (v := .ref (r 10)) (C := RX6) (T := TX6) (N := 27) hx hb hts hin6 hown hK hP 0 rfl rfl 10 (by decide) fl29 (fun _ h9 => h9) rfl dX6_least_21 ?_
        refine lv_iload_n hx hb dX6_least_24 rfl (lv_at hl 1 rfl) ?_
        refine wk_iald hx hb hK hP 6 0 rfl rfl (i := j) (by omega) (by omega) dX6_least_25 ?_
        refine lv_goto (tgt := 30) hx hb dX6_least_26 (by decide) ?_
        exact hret _ _ _ _ _ (by rw [if_pos ⟨c5, hin9⟩, nI_clamp (by omega)]) dX6_least_30 hS

set_option maxHeartbeats 4000000 in
set_option maxRecDepth 100000 in
theorem c_X6_isOld (l : Launch) (D : va_G) (cI cJ cZ cA : ClassId) (r : Nat → Nat) (i0 i3 i7 i8 i9 i13 i15 i17 i18 i19 i22 i23 : Int32) (a1 a2 a4 a5 a6 a10 a11 a12 a14 a16 a20 a21 a24 a25 a26 : Nat → Int32) (T : List Nd) (k : Nat) (nd : Nd) (hT : treeV a20 a21 T) (hTl : T.length ≤ 1001) (hk : T[k]? = some nd) : Met l yX6_isOld wsX6_isOld ({ frames := 1, cells := 0, slots := 0, locals := 25 } : Room) (ro_P D (tysC cI cJ cZ cA) [.ref (r 0), .int (nI k)] (mw cI r i0 i3 i7 i8 i9 i13 i15 i17 i18 i19 i22 i23 a1 a2 a4 a5 a6 a10 a11 a12 a14 a16 a20 a21 a24 a25 a26)) (ro_Q (bI (oldG nd.2.1 nd.2.2))) 0 0 (fun _ => False) := by
  refine met_ro (cc := cX6_isOld) (maxL := 4) (ty := .boolean) (by decide) rfl (Nat.le_of_ble_eq_true rfl) (bI_n _) ?_
  intro p e s m args below meth c Q hx hb hml hown hts hP hK hret ls hl
  obtain ⟨H, hH9⟩ : ∃ H : Heap, H = s.heap := ⟨_, rfl⟩
  have hP : va_P D vwCl (mw cI r i0 i3 i7 i8 i9 i13 i15 i17 i18 i19 i22 i23 a1 a2 a4 a5 a6 a10 a11 a12 a14 a16 a20 a21 a24 a25 a26) H := by rw [hH9]; exact hP
  have hS : va_S (fun _ => False) s.heap H [] := by rw [hH9]; exact va_S.rf
  rw [← hH9]
  have hown : s.vm.findClass RX6 = some m.cls := hown
  have hin6 : ∀ w ∈ wsX60, w ∈ wsX6_isOld := by decide +kernel
  have fl48 := hts (.fieldLink RX6 48 "CoverRoundsModel" "above" "[I") (by decide +kernel)
  have fl45 := hts (.fieldLink RX6 45 "CoverRoundsModel" "markings" "[I") (by decide +kernel)
  have hl : lv_has ls 4 [(0, .ref (r 0)), (1, .int (nI k))] := hl
  have hkl := lt_of_some hk
  have hkr := (hT k nd hk).1
  refine lv_iconst (v := nI 0) hx hb dX6_isOld_0 (by decide) ?_
  refine lv_istore_n (lv' := [(2, .int (nI 0)), (0, .ref (r 0)), (1, .int (nI k))]) hx hb dX6_isOld_1 rfl hl (by decide) rfl (fun ls hl => ?_)
  refine lv_aload_n hx hb dX6_isOld_2 rfl (lv_at hl 1 rfl) ?_
  refine va_get (D := D) (ci := 5) (v := .ref (r 21)) (C := RX6) (T := TX6) (N := 27) hx hb hts hin6 hown hK hP 0 rfl rfl 21 (by decide) fl48 (fun _ h9 => h9) rfl dX6_isOld_3 ?_
  refine lv_iload_n hx hb dX6_isOld_6 rfl (lv_at hl 2 rfl) ?_
  refine wk_iald hx hb hK hP 12 0 rfl rfl (i := k) (by omega) (by omega) dX6_isOld_7 ?_
  refine lv_istore_n (lv' := [(3, .int (a21 k)), (2, .int (nI 0)), (0, .ref (r 0)), (1, .int (nI k))]) hx hb dX6_isOld_8 rfl hl (by decide) rfl (fun ls hl => ?_)
  have lp9 : ∀ (n9 : Nat) (up9 : Int32) (rem : List Rw) (t : Bool), rem.length < n9 → remV T up9 rem → (t || rem.any (fun x => eqv x nd.2.1)) = oldG nd.2.1 nd.2.2 → ∀ (H : Heap) (locs : List Loc) (ls : Array Slot), va_P D vwCl (mw cI r i0 i3 i7 i8 i9 i13 i15 i17 i18 i19 i22 i23 a1 a2 a4 a5 a6 a10 a11 a12 a14 a16 a20 a21 a24 a25 a26) H → va_S (fun _ => False) s.heap H locs → lv_has ls 4 [(0, .ref (r 0)), (1, .int (nI k)), (2, .int (bI t)), (3, .int up9)] → W p l e ({ frames := 1, cells := 0, slots := 0, locals := 25 } : Room) s m args below meth c H locs 0 0 Q (F0 m 9 ls []) := by
    intro n9
    induction n9 with
    | zero => intro up9 rem t hm9; exact absurd hm9 (Nat.not_lt_zero _)
    | succ n9 ih9 =>
      intro up9 rem t hm9 hrem hinv H locs ls hP hS hl
      refine lv_iload_n hx hb dX6_isOld_9 rfl (lv_at hl 3 rfl) ?_
      refine lv_if_lt (tgt := 73) hx hb dX6_isOld_10 (by decide) (fun c10 => ?_) (fun c10 => ?_)
      · skip
        refine lv_iload_n hx hb dX6_isOld_73 rfl (lv_at hl 2 rfl) ?_
        have he := remV_neg hrem (by omega) c10
        subst he
        exact hret _ _ _ _ _ (congrArg bI (by rw [← hinv]; simp)) dX6_isOld_74 hS
      · skip
        obtain ⟨v, nv, hv, rfl, hrl⟩ := remV_pos hrem c10
        have hvl := lt_of_some hv
        have hvr := (hT v nv hv).1
        refine lv_iload_n hx hb dX6_isOld_13 rfl (lv_at hl 2 rfl) ?_
        refine wk_if_neb (tgt := 57) hx hb dX6_isOld_14 (by decide) (fun c14 => ?_) (fun c14 => ?_)
        · skip
          refine lv_iconst (v := nI 1) hx hb dX6_isOld_57 (by decide) ?_
          refine lv_goto (tgt := 62) hx hb dX6_isOld_58 (by decide) ?_
          refine lv_istore_n (lv' := [(2, .int (nI 1)), (0, .ref (r 0)), (1, .int (nI k)), (3, .int (nI v))]) hx hb dX6_isOld_62 rfl hl (by decide) rfl (fun ls hl => ?_)
          refine lv_aload_n hx hb dX6_isOld_63 rfl (lv_at hl 1 rfl) ?_
          refine va_get (D := D) (ci := 5) (v := .ref (r 21)) (C := RX6) (T := TX6) (N := 27) hx hb hts hin6 hown hK hP 0 rfl rfl 21 (by decide) fl48 (fun _ h9 => h9) rfl dX6_isOld_64 ?_
          refine lv_iload_n hx hb dX6_isOld_67 rfl (lv_at hl 3 rfl) ?_
          refine wk_iald hx hb hK hP 12 0 rfl rfl (i := v) (by omega) (by omega) dX6_isOld_68 ?_
          refine lv_istore_n (lv' := [(3, .int (a21 v)), (2, .int (nI 1)), (0, .ref (r 0)), (1, .int (nI k))]) hx hb dX6_isOld_69 rfl hl (by decide) rfl (fun ls hl => ?_)
          refine lv_goto (tgt := 9) hx hb dX6_isOld_70 (by decide) ?_
          exact ih9 (a21 v) nv.2.2 true (by rw [hrl, List.length_cons] at hm9; omega) (tv_rem hT hv) (io_s hinv hrl (by simp [c14])) _ _ _ hP hS (lv_sub hl [2, 3, 1, 0] rfl)
        · skip
          refine lv_aload_n hx hb dX6_isOld_17 rfl (lv_at hl 0 rfl) ?_
          refine va_get (D := D) (ci := 5) (v := .ref (r 20)) (C := RX6) (T := TX6) (N := 27) hx hb hts hin6 hown hK hP 0 rfl rfl 20 (by decide) fl45 (fun _ h9 => h9) rfl dX6_isOld_18 ?_
          refine lv_iconst (v := nI 5) hx hb dX6_isOld_21 (by decide) ?_
          refine lv_iload_n hx hb dX6_isOld_22 rfl (lv_at hl 3 rfl) ?_
          refine wk_imul hx hb dX6_isOld_23 ?_
          refine lv_aload_n hx hb dX6_isOld_24 rfl (lv_at hl 0 rfl) ?_
          refine va_get (D := D) (ci := 5) (v := .ref (r 20)) (C := RX6) (T := TX6) (N := 27) hx hb hts hin6 hown hK hP 0 rfl rfl 20 (by decide) fl45 (fun _ h9 => h9) rfl dX6_isOld_25 ?_
          refine lv_iconst (v := nI 5) hx hb dX6_isOld_28 (by decide) ?_
          refine lv_iload_n hx hb dX6_isOld_29 rfl (lv_at hl 1 rfl) ?_
          refine wk_imul hx hb dX6_isOld_30 ?_
          refine wk_Si (As := [.ref (r 20), .int (nI (5 * v)), .ref (r 20), .int (nI (5 * k))]) (rest := []) ⟨hx, hb, hml, hown, hts⟩ (c_X6_tops l D cI cJ cZ cA (r 20) (r 20) 5005 5005 (5 * v) (5 * k) a20 a20 (by omega) (by omega) (by omega) (by omega)) (va_cwS 4 hts gX6_isOld_X6_tops rfl rfl rfl (by decide +kernel) ⟨Nat.le_of_ble_eq_true rfl, Nat.le_of_ble_eq_true rfl⟩) hK hP [11, 11] rfl hS rfl hl.1 rfl (Nat.le_of_ble_eq_true rfl) dX6_isOld_31 ⟨Nat.zero_le _, Nat.zero_le _⟩ (fun H locs hP hS => ?_)
          refine wk_if_eqb (tgt := 61) hx hb dX6_isOld_34 (by decide) (fun c34 => ?_) (fun c34 => ?_)
          · skip
            refine lv_iconst (v := nI 0) hx hb dX6_isOld_61 (by decide) ?_
            refine lv_istore_n (lv' := [(2, .int (nI 0)), (0, .ref (r 0)), (1, .int (nI k)), (3, .int (nI v))]) hx hb dX6_isOld_62 rfl hl (by decide) rfl (fun ls hl => ?_)
            refine lv_aload_n hx hb dX6_isOld_63 rfl (lv_at hl 1 rfl) ?_
            refine va_get (D := D) (ci := 5) (v := .ref (r 21)) (C := RX6) (T := TX6) (N := 27) hx hb hts hin6 hown hK hP 0 rfl rfl 21 (by decide) fl48 (fun _ h9 => h9) rfl dX6_isOld_64 ?_
            refine lv_iload_n hx hb dX6_isOld_67 rfl (lv_at hl 3 rfl) ?_
            refine wk_iald hx hb hK hP 12 0 rfl rfl (i := v) (by omega) (by omega) dX6_isOld_68 ?_
            refine lv_istore_n (lv' := [(3, .int (a21 v)), (2, .int (nI 0)), (0, .ref (r 0)), (1, .int (nI k))]) hx hb dX6_isOld_69 rfl hl (by decide) rfl (fun ls hl => ?_)
            refine lv_goto (tgt := 9) hx hb dX6_isOld_70 (by decide) ?_
            exact ih9 (a21 v) nv.2.2 false (by rw [hrl, List.length_cons] at hm9; omega) (tv_rem hT hv) (io_s hinv hrl (by rw [c14]; simp [eqv, (tpB_row hvr hkr).symm.trans c34])) _ _ _ hP hS (lv_sub hl [2, 3, 1, 0] rfl)
          · skip
            refine lv_aload_n hx hb dX6_isOld_37 rfl (lv_at hl 0 rfl) ?_
            refine va_get (D := D) (ci := 5) (v := .ref (r 20)) (C := RX6) (T := TX6) (N := 27) hx hb hts hin6 hown hK hP 0 rfl rfl 20 (by decide) fl45 (fun _ h9 => h9) rfl dX6_isOld_38 ?_
            refine lv_iconst (v := nI 5) hx hb dX6_isOld_41 (by decide) ?_
            refine lv_iload_n hx hb dX6_isOld_42 rfl (lv_at hl 1 rfl) ?_
            refine wk_imul hx hb dX6_isOld_43 ?_
            refine lv_aload_n hx hb dX6_isOld_44 rfl (lv_at hl 0 rfl) ?_
            refine va_get (D := D) (ci := 5) (v := .ref (r 20)) (C := RX6) (T := TX6) (N := 27) hx hb hts hin6 hown hK hP 0 rfl rfl 20 (by decide) fl45 (fun _ h9 => h9) rfl dX6_isOld_45 ?_
            refine lv_iconst (v := nI 5) hx hb dX6_isOld_48 (by decide) ?_
            refine lv_iload_n hx hb dX6_isOld_49 rfl (lv_at hl 3 rfl) ?_
            refine wk_imul hx hb dX6_isOld_50 ?_
            refine wk_Si (As := [.ref (r 20), .int (nI (5 * k)), .ref (r 20), .int (nI (5 * v))]) (rest := []) ⟨hx, hb, hml, hown, hts⟩ (c_X6_tops l D cI cJ cZ cA (r 20) (r 20) 5005 5005 (5 * k) (5 * v) a20 a20 (by omega) (by omega) (by omega) (by omega)) (va_cwS 4 hts gX6_isOld_X6_tops rfl rfl rfl (by decide +kernel) ⟨Nat.le_of_ble_eq_true rfl, Nat.le_of_ble_eq_true rfl⟩) hK hP [11, 11] rfl hS rfl hl.1 rfl (Nat.le_of_ble_eq_true rfl) dX6_isOld_51 ⟨Nat.zero_le _, Nat.zero_le _⟩ (fun H locs hP hS => ?_)
            refine wk_if_eqb (tgt := 61) hx hb dX6_isOld_54 (by decide) (fun c54 => ?_) (fun c54 => ?_)
            · skip
              refine lv_iconst (v := nI 0) hx hb dX6_isOld_61 (by decide) ?_
              refine lv_istore_n (lv' := [(2, .int (nI 0)), (0, .ref (r 0)), (1, .int (nI k)), (3, .int (nI v))]) hx hb dX6_isOld_62 rfl hl (by decide) rfl (fun ls hl => ?_)
              refine lv_aload_n hx hb dX6_isOld_63 rfl (lv_at hl 1 rfl) ?_
              refine va_get (D := D) (ci := 5) (v := .ref (r 21)) (C := RX6) (T := TX6) (N := 27) hx hb hts hin6 hown hK hP 0 rfl rfl 21 (by decide) fl48 (fun _ h9 => h9) rfl dX6_isOld_64 ?_
              refine lv_iload_n hx hb dX6_isOld_67 rfl (lv_at hl 3 rfl) ?_
              refine wk_iald hx hb hK hP 12 0 rfl rfl (i := v) (by omega) (by omega) dX6_isOld_68 ?_
              refine lv_istore_n (lv' := [(3, .int (a21 v)), (2, .int (nI 0)), (0, .ref (r 0)), (1, .int (nI k))]) hx hb dX6_isOld_69 rfl hl (by decide) rfl (fun ls hl => ?_)
              refine lv_goto (tgt := 9) hx hb dX6_isOld_70 (by decide) ?_
              exact ih9 (a21 v) nv.2.2 false (by rw [hrl, List.length_cons] at hm9; omega) (tv_rem hT hv) (io_s hinv hrl (by rw [c14]; simp [eqv, (tpB_row hvr hkr).symm.trans c34, (tpB_row hkr hvr).symm.trans c54])) _ _ _ hP hS (lv_sub hl [2, 3, 1, 0] rfl)
            · skip
              refine lv_iconst (v := nI 1) hx hb dX6_isOld_57 (by decide) ?_
              refine lv_goto (tgt := 62) hx hb dX6_isOld_58 (by decide) ?_
              refine lv_istore_n (lv' := [(2, .int (nI 1)), (0, .ref (r 0)), (1, .int (nI k)), (3, .int (nI v))]) hx hb dX6_isOld_62 rfl hl (by decide) rfl (fun ls hl => ?_)
              refine lv_aload_n hx hb dX6_isOld_63 rfl (lv_at hl 1 rfl) ?_
              refine va_get (D := D) (ci := 5) (v := .ref (r 21)) (C := RX6) (T := TX6) (N := 27) hx hb hts hin6 hown hK hP 0 rfl rfl 21 (by decide) fl48 (fun _ h9 => h9) rfl dX6_isOld_64 ?_
              refine lv_iload_n hx hb dX6_isOld_67 rfl (lv_at hl 3 rfl) ?_
              refine wk_iald hx hb hK hP 12 0 rfl rfl (i := v) (by omega) (by omega) dX6_isOld_68 ?_
              refine lv_istore_n (lv' := [(3, .int (a21 v)), (2, .int (nI 1)), (0, .ref (r 0)), (1, .int (nI k))]) hx hb dX6_isOld_69 rfl hl (by decide) rfl (fun ls hl => ?_)
              refine lv_goto (tgt := 9) hx hb dX6_isOld_70 (by decide) ?_
              exact ih9 (a21 v) nv.2.2 true (by rw [hrl, List.length_cons] at hm9; omega) (tv_rem hT hv) (io_s hinv hrl (by rw [c14]; simp [eqv, (tpB_row hvr hkr).symm.trans c34, (tpB_row hkr hvr).symm.trans c54])) _ _ _ hP hS (lv_sub hl [2, 3, 1, 0] rfl)
  exact lp9 _ (a21 k) nd.2.2 false (Nat.lt_succ_self _) (tv_rem hT hk) rfl _ _ _ hP hS (lv_sub hl [2, 3, 1, 0] rfl)

set_option maxHeartbeats 4000000 in
set_option maxRecDepth 100000 in
theorem c_X6_accelerate (l : Launch) (D : va_G) (cI cJ cZ cA : ClassId) (r : Nat → Nat) (i0 i3 i7 i8 i9 i13 i15 i17 i18 i19 i22 i23 : Int32) (a1 a2 a4 a5 a6 a10 a11 a12 a14 a16 a20 a21 a24 a25 a26 : Nat → Int32) (sz : Nat) (w : Rw) (T : List Nd) (k : Nat) (nd : Nd) (hT : treeV a20 a21 T) (hTl : T.length ≤ 1001) (hk : T[k]? = some nd) (hw : ∀ q, q < 5 → a25 q = w q) : Met l yX6_accelerate wsX6_accelerate ({ frames := 1, cells := 0, slots := 0, locals := 25 } : Room) (wr_P D (tysC cI cJ cZ cA) [.ref (r 0), .int (nI k)] (mw cI r i0 i3 i7 i8 i9 i13 i15 i17 i18 i19 i22 i23 a1 a2 a4 a5 a6 a10 a11 a12 a14 a16 a20 a21 a24 a25 a26) sz) (wr_Qv D (S := Nat → Int32) (mw cI r i0 i3 i7 i8 i9 i13 i15 i17 i18 i19 i22 i23 a1 a2 a4 a5 a6 a10 a11 a12 a14 a16 a20 a21 a24 a25 a26) sz (fun u => ∀ q, q < 5 → u q = accM (nI 1000000) (nd.2.1 :: nd.2.2) 6 w q) (fun u => (mw cI r i0 i3 i7 i8 i9 i13 i15 i17 i18 i19 i22 i23 a1 a2 a4 a5 a6 a10 a11 a12 a14 a16 a20 a21 a24 u a26))) 0 0 (va_A (mw cI r i0 i3 i7 i8 i9 i13 i15 i17 i18 i19 i22 i23 a1 a2 a4 a5 a6 a10 a11 a12 a14 a16 a20 a21 a24 a25 a26) sz) := by
  refine met_wv (cc := cX6_accelerate) (maxL := 6) (by decide) rfl (Nat.le_of_ble_eq_true rfl) ?_
  intro p e s m args below meth c Q A hx hb hml hown hts hP hK hD hA hret ls hl
  obtain ⟨H, hH9⟩ : ∃ H : Heap, H = s.heap := ⟨_, rfl⟩
  have hP : va_P D vwCl (mw cI r i0 i3 i7 i8 i9 i13 i15 i17 i18 i19 i22 i23 a1 a2 a4 a5 a6 a10 a11 a12 a14 a16 a20 a21 a24 a25 a26) H := by rw [hH9]; exact hP
  have hS : va_S A s.heap H [] := by rw [hH9]; exact va_S.rf
  rw [← hH9]
  have hown : s.vm.findClass RX6 = some m.cls := hown
  have hin6 : ∀ w ∈ wsX60, w ∈ wsX6_accelerate := by decide +kernel
  have fl54 := hts (.fieldLink RX6 54 "CoverRoundsModel" "work" "[I") (by decide +kernel)
  have fl45 := hts (.fieldLink RX6 45 "CoverRoundsModel" "markings" "[I") (by decide +kernel)
  have fl48 := hts (.fieldLink RX6 48 "CoverRoundsModel" "above" "[I") (by decide +kernel)
  have hl : lv_has ls 6 [(0, .ref (r 0)), (1, .int (nI k))] := hl
  have hkl := lt_of_some hk
  refine lv_iconst (v := nI 1) hx hb dX6_accelerate_0 (by decide) ?_
  refine lv_istore_n (lv' := [(2, .int (nI 1)), (0, .ref (r 0)), (1, .int (nI k))]) hx hb dX6_accelerate_1 rfl hl (by decide) rfl (fun ls hl => ?_)
  refine lv_iload_n hx hb dX6_accelerate_2 rfl (lv_at hl 0 rfl) ?_
  refine lv_if_eq (tgt := 139) hx hb dX6_accelerate_3 (by decide) (fun c3 => absurd c3 (by decide)) (fun c3 => ?_)
  have lp6 : ∀ (n9 : Nat) (k6 : Nat) (w6 : Rw) (f25 : Nat → Int32), k6 < n9 → (∀ q, q < 5 → f25 q = w6 q) → accM (nI 1000000) (nd.2.1 :: nd.2.2) k6 w6 = accM (nI 1000000) (nd.2.1 :: nd.2.2) 6 w → cntF (nI 1000000) w6 < k6 → ∀ (H : Heap) (locs : List Loc) (ls : Array Slot), va_P D vwCl (mw cI r i0 i3 i7 i8 i9 i13 i15 i17 i18 i19 i22 i23 a1 a2 a4 a5 a6 a10 a11 a12 a14 a16 a20 a21 a24 f25 a26) H → va_D A (mw cI r i0 i3 i7 i8 i9 i13 i15 i17 i18 i19 i22 i23 a1 a2 a4 a5 a6 a10 a11 a12 a14 a16 a20 a21 a24 f25 a26) → va_S A s.heap H locs → lv_has ls 6 [(0, .ref (r 0)), (1, .int (nI k))] → W p l e ({ frames := 1, cells := 0, slots := 0, locals := 25 } : Room) s m args below meth c H locs 0 0 Q (F0 m 6 ls []) := by
    intro n9
    induction n9 with
    | zero => intro k6 w6 f25 hm6; exact absurd hm6 (Nat.not_lt_zero _)
    | succ n9 ih6 =>
      intro k6 w6 f25 hm6 hf hacc hcnt H locs ls hP hD hS hl
      refine lv_iconst (v := nI 0) hx hb dX6_accelerate_6 (by decide) ?_
      refine lv_istore_n (lv' := [(2, .int (nI 0)), (0, .ref (r 0)), (1, .int (nI k))]) hx hb dX6_accelerate_7 rfl hl (by decide) rfl (fun ls hl => ?_)
      refine lv_iload_n hx hb dX6_accelerate_8 rfl (lv_at hl 2 rfl) ?_
      refine lv_istore_n (lv' := [(3, .int (nI k)), (2, .int (nI 0)), (0, .ref (r 0)), (1, .int (nI k))]) hx hb dX6_accelerate_9 rfl hl (by decide) rfl (fun ls hl => ?_)
      have lp10 : ∀ (n9 : Nat) (up9 : Int32) (rem : List Rw) (w2 : Rw) (t : Bool) (g25 : Nat → Int32), rem.length < n9 → remV T up9 rem → (∀ q, q < 5 → g25 q = w2 q) → passF (nI 1000000) rem (w2, t) = passF (nI 1000000) (nd.2.1 :: nd.2.2) (w6, false) → ∀ (H : Heap) (locs : List Loc) (ls : Array Slot), va_P D vwCl (mw cI r i0 i3 i7 i8 i9 i13 i15 i17 i18 i19 i22 i23 a1 a2 a4 a5 a6 a10 a11 a12 a14 a16 a20 a21 a24 g25 a26) H → va_D A (mw cI r i0 i3 i7 i8 i9 i13 i15 i17 i18 i19 i22 i23 a1 a2 a4 a5 a6 a10 a11 a12 a14 a16 a20 a21 a24 g25 a26) → va_S A s.heap H locs → lv_has ls 6 [(0, .ref (r 0)), (1, .int (nI k)), (2, .int (bI t)), (3, .int up9)] → W p l e ({ frames := 1, cells := 0, slots := 0, locals := 25 } : Room) s m args below meth c H locs 0 0 Q (F0 m 10 ls []) := by
        intro n9
        induction n9 with
        | zero => intro up9 rem w2 t g25 hm10; exact absurd hm10 (Nat.not_lt_zero _)
        | succ n9 ih10 =>
          intro up9 rem w2 t g25 hm10 hrem hg hpass H locs ls hP hD hS hl
          refine lv_iload_n hx hb dX6_accelerate_10 rfl (lv_at hl 3 rfl) ?_
          refine lv_if_lt (tgt := 136) hx hb dX6_accelerate_11 (by decide) (fun c11 => ?_) (fun c11 => ?_)
          · skip
            have he := remV_neg hrem (by omega) c11
            subst he
            refine lv_goto (tgt := 2) hx hb dX6_accelerate_136 (by decide) ?_
            refine lv_iload_n hx hb dX6_accelerate_2 rfl (lv_at hl 2 rfl) ?_
            refine wk_if_eqb (tgt := 139) hx hb dX6_accelerate_3 (by decide) (fun c3 => ?_) (fun c3 => ?_)
            · skip
              rw [c3] at hpass
              have he9 := acc_f hpass hacc hcnt
              exact hret _ _ _ _ _ _ _ (fun q hq => by rw [hg q hq, he9]) hP hD dX6_accelerate_139 hS (Nat.zero_le _) (Nat.zero_le _)
            · skip
              rw [c3] at hpass
              obtain ⟨k2, rfl, ha2, hc2⟩ := acc_t hpass hacc hcnt
              exact ih6 k2 w2 g25 (by omega) hg ha2 hc2 _ _ _ hP hD hS (lv_sub hl [0, 1] rfl)
          · skip
            obtain ⟨v, nv, hv, rfl, hrl⟩ := remV_pos hrem c11
            have hvl := lt_of_some hv
            have hvr := (hT v nv hv).1
            have htp : tp5 w2 nv.2.1 = tpB g25 0 a20 (5 * v) := (tpB_row (fun q hq => by rw [Nat.zero_add]; exact hg q hq) hvr).symm
            refine lv_aload_n hx hb dX6_accelerate_14 rfl (lv_at hl 0 rfl) ?_
            refine va_get (D := D) (ci := 5) (v := .ref (r 25)) (C := RX6) (T := TX6) (N := 27) hx hb hts hin6 hown hK hP 0 rfl rfl 25 (by decide) fl54 (fun _ h9 => h9) rfl dX6_accelerate_15 ?_
            refine lv_iconst (v := nI 0) hx hb dX6_accelerate_18 (by decide) ?_
            refine lv_aload_n hx hb dX6_accelerate_19 rfl (lv_at hl 0 rfl) ?_
            refine va_get (D := D) (ci := 5) (v := .ref (r 20)) (C := RX6) (T := TX6) (N := 27) hx hb hts hin6 hown hK hP 0 rfl rfl 20 (by decide) fl45 (fun _ h9 => h9) rfl dX6_accelerate_20 ?_
            refine lv_iconst (v := nI 5) hx hb dX6_accelerate_23 (by decide) ?_
            refine lv_iload_n hx hb dX6_accelerate_24 rfl (lv_at hl 3 rfl) ?_
            refine wk_imul hx hb dX6_accelerate_25 ?_
            refine wk_Si (As := [.ref (r 25), .int (nI 0), .ref (r 20), .int (nI (5 * v))]) (rest := []) ⟨hx, hb, hml, hown, hts⟩ (c_X6_tops l D cI cJ cZ cA (r 25) (r 20) 5 5005 0 (5 * v) g25 a20 (by omega) (by omega) (by omega) (by omega)) (va_cwS 4 hts gX6_accelerate_X6_tops rfl rfl rfl (by decide +kernel) ⟨Nat.le_of_ble_eq_true rfl, Nat.le_of_ble_eq_true rfl⟩) hK hP [14, 11] rfl hS rfl hl.1 rfl (Nat.le_of_ble_eq_true rfl) dX6_accelerate_26 ⟨Nat.zero_le _, Nat.zero_le _⟩ (fun H locs hP hS => ?_)
            refine wk_if_eqb (tgt := 126) hx hb dX6_accelerate_29 (by decide) (fun c29 => ?_) (fun c29 => ?_)
            · skip
              refine lv_aload_n hx hb dX6_accelerate_126 rfl (lv_at hl 0 rfl) ?_
              refine va_get (D := D) (ci := 5) (v := .ref (r 21)) (C := RX6) (T := TX6) (N := 27) hx hb hts hin6 hown hK hP 0 rfl rfl 21 (by decide) fl48 (fun _ h9 => h9) rfl dX6_accelerate_127 ?_
              refine lv_iload_n hx hb dX6_accelerate_130 rfl (lv_at hl 3 rfl) ?_
              refine wk_iald hx hb hK hP 12 0 rfl rfl (i := v) (by omega) (by omega) dX6_accelerate_131 ?_
              refine lv_istore_n (lv' := [(3, .int (a21 v)), (0, .ref (r 0)), (1, .int (nI k)), (2, .int (bI t))]) hx hb dX6_accelerate_132 rfl hl (by decide) rfl (fun ls hl => ?_)
              refine lv_goto (tgt := 10) hx hb dX6_accelerate_133 (by decide) ?_
              exact ih10 (a21 v) nv.2.2 w2 t g25 (by rw [hrl, List.length_cons] at hm10; omega) (tv_rem hT hv) hg (by rw [← hpass, hrl]; show _ = passF _ _ (stM _ _ _); unfold stM; rw [if_neg (by show ¬ tp5 w2 nv.2.1 = true; rw [htp, c29]; exact Bool.false_ne_true)]) _ _ _ hP hD hS (lv_sub hl [1, 2, 3, 0] rfl)
            · skip
              refine lv_iconst (v := nI 0) hx hb dX6_accelerate_32 (by decide) ?_
              refine lv_istore (lv' := [(4, .int (nI 0)), (0, .ref (r 0)), (1, .int (nI k)), (2, .int (bI t)), (3, .int (nI v))]) hx hb dX6_accelerate_33 hl (by decide) rfl (fun ls hl => ?_)
              have lp35 : ∀ (n9 : Nat) (q : Nat) (t2 : Bool), 5 - q < n9 → q ≤ 5 → (t2 = true ↔ (t = true ∨ ∃ j, j < q ∧ rsA (nI 1000000) a20 v g25 j)) → ∀ (H : Heap) (locs : List Loc) (ls : Array Slot), va_P D vwCl (mw cI r i0 i3 i7 i8 i9 i13 i15 i17 i18 i19 i22 i23 a1 a2 a4 a5 a6 a10 a11 a12 a14 a16 a20 a21 a24 (cpN (raA (nI 1000000) a20 v g25) g25 q) a26) H → va_D A (mw cI r i0 i3 i7 i8 i9 i13 i15 i17 i18 i19 i22 i23 a1 a2 a4 a5 a6 a10 a11 a12 a14 a16 a20 a21 a24 (cpN (raA (nI 1000000) a20 v g25) g25 q) a26) → va_S A s.heap H locs → lv_has ls 6 [(0, .ref (r 0)), (1, .int (nI k)), (2, .int (bI t2)), (3, .int (nI v)), (4, .int (nI q))] → W p l e ({ frames := 1, cells := 0, slots := 0, locals := 25 } : Room) s m args below meth c H locs 0 0 Q (F0 m 35 ls []) := by
                intro n9
                induction n9 with
                | zero => intro q t2 hm35; exact absurd hm35 (Nat.not_lt_zero _)
                | succ n9 ih35 =>
                  intro q t2 hm35 hq ht2 H locs ls hP hD hS hl
                  refine lv_iload hx hb dX6_accelerate_35 (lv_at hl 4 rfl) ?_
                  refine lv_iconst (v := nI 5) hx hb dX6_accelerate_37 (by decide) ?_
                  refine wk_icmp_ge (tgt := 126) hx hb (by omega) (by omega) dX6_accelerate_38 (by decide) (fun c38 => ?_) (fun c38 => ?_)
                  · skip
                    have hq9 : q = 5 := by omega
                    subst hq9
                    refine lv_aload_n hx hb dX6_accelerate_126 rfl (lv_at hl 0 rfl) ?_
                    refine va_get (D := D) (ci := 5) (v := .ref (r 21)) (C := RX6) (T := TX6) (N := 27) hx hb hts hin6 hown hK hP 0 rfl rfl 21 (by decide) fl48 (fun _ h9 => h9) rfl dX6_accelerate_127 ?_
                    refine lv_iload_n hx hb dX6_accelerate_130 rfl (lv_at hl 3 rfl) ?_
                    refine wk_iald hx hb hK hP 12 0 rfl rfl (i := v) (by omega) (by omega) dX6_accelerate_131 ?_
                    refine lv_istore_n (lv' := [(3, .int (a21 v)), (0, .ref (r 0)), (1, .int (nI k)), (2, .int (bI t2)), (4, .int (nI 5))]) hx hb dX6_accelerate_132 rfl hl (by decide) rfl (fun ls hl => ?_)
                    refine lv_goto (tgt := 10) hx hb dX6_accelerate_133 (by decide) ?_
                    exact ih10 (a21 v) nv.2.2 (raM (nI 1000000) nv.2.1 w2) t2 (cpN (raA (nI 1000000) a20 v g25) g25 5) (by rw [hrl, List.length_cons] at hm10; omega) (tv_rem hT hv) (fun q hq => by rw [cpN_lt hq]; exact raA_row (hvr q hq) (hg q hq)) (by rw [← hpass, hrl, rs_end hvr hg ht2]; show _ = passF _ _ (stM _ _ _); unfold stM; rw [if_pos (show tp5 w2 nv.2.1 = true from htp.trans c29)]) _ _ _ hP hD hS (lv_sub hl [1, 2, 3, 0] rfl)
                  · skip
                    refine lv_aload_n hx hb dX6_accelerate_41 rfl (lv_at hl 0 rfl) ?_
                    refine va_get (D := D) (ci := 5) (v := .ref (r 25)) (C := RX6) (T := TX6) (N := 27) hx hb hts hin6 hown hK hP 0 rfl rfl 25 (by decide) fl54 (fun _ h9 => h9) rfl dX6_accelerate_42 ?_
                    refine lv_iload hx hb dX6_accelerate_45 (lv_at hl 4 rfl) ?_
                    refine wk_iald hx hb hK hP 14 0 rfl rfl (i := q) (by omega) (by omega) dX6_accelerate_47 ?_
                    rw [show ((cpN (raA (nI 1000000) a20 v g25) g25 q) q) = (g25 q) from cpN_ge (Nat.le_refl _)]
                    refine lv_aload_n hx hb dX6_accelerate_48 rfl (lv_at hl 0 rfl) ?_
                    refine va_get (D := D) (ci := 5) (v := .ref (r 20)) (C := RX6) (T := TX6) (N := 27) hx hb hts hin6 hown hK hP 0 rfl rfl 20 (by decide) fl45 (fun _ h9 => h9) rfl dX6_accelerate_49 ?_
                    refine lv_iconst (v := nI 5) hx hb dX6_accelerate_52 (by decide) ?_
                    refine lv_iload_n hx hb dX6_accelerate_53 rfl (lv_at hl 3 rfl) ?_
                    refine wk_imul hx hb dX6_accelerate_54 ?_
                    refine lv_iload hx hb dX6_accelerate_55 (lv_at hl 4 rfl) ?_
                    refine wk_iadd hx hb dX6_accelerate_57 ?_
                    refine wk_iald hx hb hK hP 11 0 rfl rfl (i := (5 * v) + q) (by omega) (by omega) dX6_accelerate_58 ?_
                    refine lv_icmp_le (tgt := 78) hx hb dX6_accelerate_59 (by decide) (fun c59 => ?_) (fun c59 => ?_)
                    · skip
                      refine lv_iconst (v := nI 0) hx hb dX6_accelerate_78 (by decide) ?_
                      refine lv_istore (lv' := [(5, .int (nI 0)), (0, .ref (r 0)), (1, .int (nI k)), (2, .int (bI t2)), (3, .int (nI v)), (4, .int (nI q))]) hx hb dX6_accelerate_79 hl (by decide) rfl (fun ls hl => ?_)
                      refine lv_aload_n hx hb dX6_accelerate_81 rfl (lv_at hl 1 rfl) ?_
                      refine va_get (D := D) (ci := 5) (v := .ref (r 25)) (C := RX6) (T := TX6) (N := 27) hx hb hts hin6 hown hK hP 0 rfl rfl 25 (by decide) fl54 (fun _ h9 => h9) rfl dX6_accelerate_82 ?_
                      refine lv_iload hx hb dX6_accelerate_85 (lv_at hl 5 rfl) ?_
                      refine lv_iload hx hb dX6_accelerate_87 (lv_at hl 0 rfl) ?_
                      refine lv_if_eq (tgt := 97) hx hb dX6_accelerate_89 (by decide) (fun c89 => ?_) (fun c89 => absurd c89 (by decide))
                      refine lv_aload_n hx hb dX6_accelerate_97 rfl (lv_at hl 1 rfl) ?_
                      refine va_get (D := D) (ci := 5) (v := .ref (r 25)) (C := RX6) (T := TX6) (N := 27) hx hb hts hin6 hown hK hP 0 rfl rfl 25 (by decide) fl54 (fun _ h9 => h9) rfl dX6_accelerate_98 ?_
                      refine lv_iload hx hb dX6_accelerate_101 (lv_at hl 5 rfl) ?_
                      refine wk_iald hx hb hK hP 14 0 rfl rfl (i := q) (by omega) (by omega) dX6_accelerate_103 ?_
                      rw [show ((cpN (raA (nI 1000000) a20 v g25) g25 q) q) = (g25 q) from cpN_ge (Nat.le_refl _)]
                      refine wk_iast hx hb hK hP hD hS 14 0 rfl rfl (i := q) (by omega) (by omega) dX6_accelerate_104 (fun H locs hP hD hS => ?_)
                      have hP : va_P D vwCl (mw cI r i0 i3 i7 i8 i9 i13 i15 i17 i18 i19 i22 i23 a1 a2 a4 a5 a6 a10 a11 a12 a14 a16 a20 a21 a24 (upd (cpN (raA (nI 1000000) a20 v g25) g25 q) q (g25 q)) a26) H := hP
                      have hD : va_D A (mw cI r i0 i3 i7 i8 i9 i13 i15 i17 i18 i19 i22 i23 a1 a2 a4 a5 a6 a10 a11 a12 a14 a16 a20 a21 a24 (upd (cpN (raA (nI 1000000) a20 v g25) g25 q) q (g25 q)) a26) := hD
                      refine lv_iload_n hx hb dX6_accelerate_105 rfl (lv_at hl 3 rfl) ?_
                      refine wk_if_neb (tgt := 114) hx hb dX6_accelerate_106 (by decide) (fun c106 => ?_) (fun c106 => ?_)
                      · skip
                        refine lv_iconst (v := nI 1) hx hb dX6_accelerate_114 (by decide) ?_
                        refine lv_goto (tgt := 119) hx hb dX6_accelerate_115 (by decide) ?_
                        refine lv_istore_n (lv' := [(2, .int (nI 1)), (5, .int (nI 0)), (0, .ref (r 0)), (1, .int (nI k)), (3, .int (nI v)), (4, .int (nI q))]) hx hb dX6_accelerate_119 rfl hl (by decide) rfl (fun ls hl => ?_)
                        refine lv_iinc (v := (nI (q + 1))) (lv' := [(4, .int (nI (q + 1))), (2, .int (nI 1)), (5, .int (nI 0)), (0, .ref (r 0)), (1, .int (nI k)), (3, .int (nI v))]) hx hb dX6_accelerate_120 hl (k := 5) rfl (by exact nI_1 _) (by decide) rfl (fun ls hl => ?_)
                        refine lv_goto (tgt := 35) hx hb dX6_accelerate_123 (by decide) ?_
                        have hP : va_P D vwCl (mw cI r i0 i3 i7 i8 i9 i13 i15 i17 i18 i19 i22 i23 a1 a2 a4 a5 a6 a10 a11 a12 a14 a16 a20 a21 a24 (cpN (raA (nI 1000000) a20 v g25) g25 (q + 1)) a26) H := by rw [← cpN_s, raA_n1 c59]; exact hP
                        have hD : va_D A (mw cI r i0 i3 i7 i8 i9 i13 i15 i17 i18 i19 i22 i23 a1 a2 a4 a5 a6 a10 a11 a12 a14 a16 a20 a21 a24 (cpN (raA (nI 1000000) a20 v g25) g25 (q + 1)) a26) := by rw [← cpN_s, raA_n1 c59]; exact hD
                        exact ih35 (q + 1) true (by omega) (by omega) (rs_t ht2 c106) _ _ _ hP hD hS (lv_sub hl [3, 4, 1, 5, 0] rfl)
                      · skip
                        refine lv_iload hx hb dX6_accelerate_109 (lv_at hl 0 rfl) ?_
                        refine lv_if_eq (tgt := 118) hx hb dX6_accelerate_111 (by decide) (fun c111 => ?_) (fun c111 => absurd c111 (by decide))
                        refine lv_iconst (v := nI 0) hx hb dX6_accelerate_118 (by decide) ?_
                        refine lv_istore_n (lv' := [(2, .int (nI 0)), (5, .int (nI 0)), (0, .ref (r 0)), (1, .int (nI k)), (3, .int (nI v)), (4, .int (nI q))]) hx hb dX6_accelerate_119 rfl hl (by decide) rfl (fun ls hl => ?_)
                        refine lv_iinc (v := (nI (q + 1))) (lv' := [(4, .int (nI (q + 1))), (2, .int (nI 0)), (5, .int (nI 0)), (0, .ref (r 0)), (1, .int (nI k)), (3, .int (nI v))]) hx hb dX6_accelerate_120 hl (k := 5) rfl (by exact nI_1 _) (by decide) rfl (fun ls hl => ?_)
                        refine lv_goto (tgt := 35) hx hb dX6_accelerate_123 (by decide) ?_
                        have hP : va_P D vwCl (mw cI r i0 i3 i7 i8 i9 i13 i15 i17 i18 i19 i22 i23 a1 a2 a4 a5 a6 a10 a11 a12 a14 a16 a20 a21 a24 (cpN (raA (nI 1000000) a20 v g25) g25 (q + 1)) a26) H := by rw [← cpN_s, raA_n1 c59]; exact hP
                        have hD : va_D A (mw cI r i0 i3 i7 i8 i9 i13 i15 i17 i18 i19 i22 i23 a1 a2 a4 a5 a6 a10 a11 a12 a14 a16 a20 a21 a24 (cpN (raA (nI 1000000) a20 v g25) g25 (q + 1)) a26) := by rw [← cpN_s, raA_n1 c59]; exact hD
                        exact ih35 (q + 1) false (by omega) (by omega) (rs_n ht2 c106 (fun h => Int32.not_le.mpr h.1 c59)) _ _ _ hP hD hS (lv_sub hl [3, 4, 1, 5, 0] rfl)
                    · skip
                      refine lv_aload_n hx hb dX6_accelerate_62 rfl (lv_at hl 0 rfl) ?_
                      refine va_get (D := D) (ci := 5) (v := .ref (r 25)) (C := RX6) (T := TX6) (N := 27) hx hb hts hin6 hown hK hP 0 rfl rfl 25 (by decide) fl54 (fun _ h9 => h9) rfl dX6_accelerate_63 ?_
                      refine lv_iload hx hb dX6_accelerate_66 (lv_at hl 4 rfl) ?_
                      refine wk_iald hx hb hK hP 14 0 rfl rfl (i := q) (by omega) (by omega) dX6_accelerate_68 ?_
                      rw [show ((cpN (raA (nI 1000000) a20 v g25) g25 q) q) = (g25 q) from cpN_ge (Nat.le_refl _)]
                      refine wk_ldc (v := nI 1000000) hx hb hown (hts (.constant RX6 123 (nI 1000000)) (by decide +kernel)) dX6_accelerate_69 ?_
                      refine lv_icmp_ge (tgt := 78) hx hb dX6_accelerate_71 (by decide) (fun c71 => ?_) (fun c71 => ?_)
                      · skip
                        refine lv_iconst (v := nI 0) hx hb dX6_accelerate_78 (by decide) ?_
                        refine lv_istore (lv' := [(5, .int (nI 0)), (0, .ref (r 0)), (1, .int (nI k)), (2, .int (bI t2)), (3, .int (nI v)), (4, .int (nI q))]) hx hb dX6_accelerate_79 hl (by decide) rfl (fun ls hl => ?_)
                        refine lv_aload_n hx hb dX6_accelerate_81 rfl (lv_at hl 1 rfl) ?_
                        refine va_get (D := D) (ci := 5) (v := .ref (r 25)) (C := RX6) (T := TX6) (N := 27) hx hb hts hin6 hown hK hP 0 rfl rfl 25 (by decide) fl54 (fun _ h9 => h9) rfl dX6_accelerate_82 ?_
                        refine lv_iload hx hb dX6_accelerate_85 (lv_at hl 5 rfl) ?_
                        refine lv_iload hx hb dX6_accelerate_87 (lv_at hl 0 rfl) ?_
                        refine lv_if_eq (tgt := 97) hx hb dX6_accelerate_89 (by decide) (fun c89 => ?_) (fun c89 => absurd c89 (by decide))
                        refine lv_aload_n hx hb dX6_accelerate_97 rfl (lv_at hl 1 rfl) ?_
                        refine va_get (D := D) (ci := 5) (v := .ref (r 25)) (C := RX6) (T := TX6) (N := 27) hx hb hts hin6 hown hK hP 0 rfl rfl 25 (by decide) fl54 (fun _ h9 => h9) rfl dX6_accelerate_98 ?_
                        refine lv_iload hx hb dX6_accelerate_101 (lv_at hl 5 rfl) ?_
                        refine wk_iald hx hb hK hP 14 0 rfl rfl (i := q) (by omega) (by omega) dX6_accelerate_103 ?_
                        rw [show ((cpN (raA (nI 1000000) a20 v g25) g25 q) q) = (g25 q) from cpN_ge (Nat.le_refl _)]
                        refine wk_iast hx hb hK hP hD hS 14 0 rfl rfl (i := q) (by omega) (by omega) dX6_accelerate_104 (fun H locs hP hD hS => ?_)
                        have hP : va_P D vwCl (mw cI r i0 i3 i7 i8 i9 i13 i15 i17 i18 i19 i22 i23 a1 a2 a4 a5 a6 a10 a11 a12 a14 a16 a20 a21 a24 (upd (cpN (raA (nI 1000000) a20 v g25) g25 q) q (g25 q)) a26) H := hP
                        have hD : va_D A (mw cI r i0 i3 i7 i8 i9 i13 i15 i17 i18 i19 i22 i23 a1 a2 a4 a5 a6 a10 a11 a12 a14 a16 a20 a21 a24 (upd (cpN (raA (nI 1000000) a20 v g25) g25 q) q (g25 q)) a26) := hD
                        refine lv_iload_n hx hb dX6_accelerate_105 rfl (lv_at hl 3 rfl) ?_
                        refine wk_if_neb (tgt := 114) hx hb dX6_accelerate_106 (by decide) (fun c106 => ?_) (fun c106 => ?_)
                        · skip
                          refine lv_iconst (v := nI 1) hx hb dX6_accelerate_114 (by decide) ?_
                          refine lv_goto (tgt := 119) hx hb dX6_accelerate_115 (by decide) ?_
                          refine lv_istore_n (lv' := [(2, .int (nI 1)), (5, .int (nI 0)), (0, .ref (r 0)), (1, .int (nI k)), (3, .int (nI v)), (4, .int (nI q))]) hx hb dX6_accelerate_119 rfl hl (by decide) rfl (fun ls hl => ?_)
                          refine lv_iinc (v := (nI (q + 1))) (lv' := [(4, .int (nI (q + 1))), (2, .int (nI 1)), (5, .int (nI 0)), (0, .ref (r 0)), (1, .int (nI k)), (3, .int (nI v))]) hx hb dX6_accelerate_120 hl (k := 5) rfl (by exact nI_1 _) (by decide) rfl (fun ls hl => ?_)
                          refine lv_goto (tgt := 35) hx hb dX6_accelerate_123 (by decide) ?_
                          have hP : va_P D vwCl (mw cI r i0 i3 i7 i8 i9 i13 i15 i17 i18 i19 i22 i23 a1 a2 a4 a5 a6 a10 a11 a12 a14 a16 a20 a21 a24 (cpN (raA (nI 1000000) a20 v g25) g25 (q + 1)) a26) H := by rw [← cpN_s, raA_n2 c71]; exact hP
                          have hD : va_D A (mw cI r i0 i3 i7 i8 i9 i13 i15 i17 i18 i19 i22 i23 a1 a2 a4 a5 a6 a10 a11 a12 a14 a16 a20 a21 a24 (cpN (raA (nI 1000000) a20 v g25) g25 (q + 1)) a26) := by rw [← cpN_s, raA_n2 c71]; exact hD
                          exact ih35 (q + 1) true (by omega) (by omega) (rs_t ht2 c106) _ _ _ hP hD hS (lv_sub hl [3, 4, 1, 5, 0] rfl)
                        · skip
                          refine lv_iload hx hb dX6_accelerate_109 (lv_at hl 0 rfl) ?_
                          refine lv_if_eq (tgt := 118) hx hb dX6_accelerate_111 (by decide) (fun c111 => ?_) (fun c111 => absurd c111 (by decide))
                          refine lv_iconst (v := nI 0) hx hb dX6_accelerate_118 (by decide) ?_
                          refine lv_istore_n (lv' := [(2, .int (nI 0)), (5, .int (nI 0)), (0, .ref (r 0)), (1, .int (nI k)), (3, .int (nI v)), (4, .int (nI q))]) hx hb dX6_accelerate_119 rfl hl (by decide) rfl (fun ls hl => ?_)
                          refine lv_iinc (v := (nI (q + 1))) (lv' := [(4, .int (nI (q + 1))), (2, .int (nI 0)), (5, .int (nI 0)), (0, .ref (r 0)), (1, .int (nI k)), (3, .int (nI v))]) hx hb dX6_accelerate_120 hl (k := 5) rfl (by exact nI_1 _) (by decide) rfl (fun ls hl => ?_)
                          refine lv_goto (tgt := 35) hx hb dX6_accelerate_123 (by decide) ?_
                          have hP : va_P D vwCl (mw cI r i0 i3 i7 i8 i9 i13 i15 i17 i18 i19 i22 i23 a1 a2 a4 a5 a6 a10 a11 a12 a14 a16 a20 a21 a24 (cpN (raA (nI 1000000) a20 v g25) g25 (q + 1)) a26) H := by rw [← cpN_s, raA_n2 c71]; exact hP
                          have hD : va_D A (mw cI r i0 i3 i7 i8 i9 i13 i15 i17 i18 i19 i22 i23 a1 a2 a4 a5 a6 a10 a11 a12 a14 a16 a20 a21 a24 (cpN (raA (nI 1000000) a20 v g25) g25 (q + 1)) a26) := by rw [← cpN_s, raA_n2 c71]; exact hD
                          exact ih35 (q + 1) false (by omega) (by omega) (rs_n ht2 c106 (fun h => Int32.not_le.mpr h.2 c71)) _ _ _ hP hD hS (lv_sub hl [3, 4, 1, 5, 0] rfl)
                      · skip
                        refine lv_iconst (v := nI 1) hx hb dX6_accelerate_74 (by decide) ?_
                        refine lv_goto (tgt := 79) hx hb dX6_accelerate_75 (by decide) ?_
                        refine lv_istore (lv' := [(5, .int (nI 1)), (0, .ref (r 0)), (1, .int (nI k)), (2, .int (bI t2)), (3, .int (nI v)), (4, .int (nI q))]) hx hb dX6_accelerate_79 hl (by decide) rfl (fun ls hl => ?_)
                        refine lv_aload_n hx hb dX6_accelerate_81 rfl (lv_at hl 1 rfl) ?_
                        refine va_get (D := D) (ci := 5) (v := .ref (r 25)) (C := RX6) (T := TX6) (N := 27) hx hb hts hin6 hown hK hP 0 rfl rfl 25 (by decide) fl54 (fun _ h9 => h9) rfl dX6_accelerate_82 ?_
                        refine lv_iload hx hb dX6_accelerate_85 (lv_at hl 5 rfl) ?_
                        refine lv_iload hx hb dX6_accelerate_87 (lv_at hl 0 rfl) ?_
                        refine lv_if_eq (tgt := 97) hx hb dX6_accelerate_89 (by decide) (fun c89 => absurd c89 (by decide)) (fun c89 => ?_)
                        refine wk_ldc (v := nI 1000000) hx hb hown (hts (.constant RX6 123 (nI 1000000)) (by decide +kernel)) dX6_accelerate_92 ?_
                        refine lv_goto (tgt := 104) hx hb dX6_accelerate_94 (by decide) ?_
                        refine wk_iast hx hb hK hP hD hS 14 0 rfl rfl (i := q) (by omega) (by omega) dX6_accelerate_104 (fun H locs hP hD hS => ?_)
                        have hP : va_P D vwCl (mw cI r i0 i3 i7 i8 i9 i13 i15 i17 i18 i19 i22 i23 a1 a2 a4 a5 a6 a10 a11 a12 a14 a16 a20 a21 a24 (upd (cpN (raA (nI 1000000) a20 v g25) g25 q) q (nI 1000000)) a26) H := hP
                        have hD : va_D A (mw cI r i0 i3 i7 i8 i9 i13 i15 i17 i18 i19 i22 i23 a1 a2 a4 a5 a6 a10 a11 a12 a14 a16 a20 a21 a24 (upd (cpN (raA (nI 1000000) a20 v g25) g25 q) q (nI 1000000)) a26) := hD
                        refine lv_iload_n hx hb dX6_accelerate_105 rfl (lv_at hl 3 rfl) ?_
                        refine wk_if_neb (tgt := 114) hx hb dX6_accelerate_106 (by decide) (fun c106 => ?_) (fun c106 => ?_)
                        · skip
                          refine lv_iconst (v := nI 1) hx hb dX6_accelerate_114 (by decide) ?_
                          refine lv_goto (tgt := 119) hx hb dX6_accelerate_115 (by decide) ?_
                          refine lv_istore_n (lv' := [(2, .int (nI 1)), (5, .int (nI 1)), (0, .ref (r 0)), (1, .int (nI k)), (3, .int (nI v)), (4, .int (nI q))]) hx hb dX6_accelerate_119 rfl hl (by decide) rfl (fun ls hl => ?_)
                          refine lv_iinc (v := (nI (q + 1))) (lv' := [(4, .int (nI (q + 1))), (2, .int (nI 1)), (5, .int (nI 1)), (0, .ref (r 0)), (1, .int (nI k)), (3, .int (nI v))]) hx hb dX6_accelerate_120 hl (k := 5) rfl (by exact nI_1 _) (by decide) rfl (fun ls hl => ?_)
                          refine lv_goto (tgt := 35) hx hb dX6_accelerate_123 (by decide) ?_
                          have hP : va_P D vwCl (mw cI r i0 i3 i7 i8 i9 i13 i15 i17 i18 i19 i22 i23 a1 a2 a4 a5 a6 a10 a11 a12 a14 a16 a20 a21 a24 (cpN (raA (nI 1000000) a20 v g25) g25 (q + 1)) a26) H := by rw [← cpN_s, raA_y c59 c71]; exact hP
                          have hD : va_D A (mw cI r i0 i3 i7 i8 i9 i13 i15 i17 i18 i19 i22 i23 a1 a2 a4 a5 a6 a10 a11 a12 a14 a16 a20 a21 a24 (cpN (raA (nI 1000000) a20 v g25) g25 (q + 1)) a26) := by rw [← cpN_s, raA_y c59 c71]; exact hD
                          exact ih35 (q + 1) true (by omega) (by omega) (rs_t ht2 c106) _ _ _ hP hD hS (lv_sub hl [3, 4, 1, 5, 0] rfl)
                        · skip
                          refine lv_iload hx hb dX6_accelerate_109 (lv_at hl 0 rfl) ?_
                          refine lv_if_eq (tgt := 118) hx hb dX6_accelerate_111 (by decide) (fun c111 => absurd c111 (by decide)) (fun c111 => ?_)
                          refine lv_iconst (v := nI 1) hx hb dX6_accelerate_114 (by decide) ?_
                          refine lv_goto (tgt := 119) hx hb dX6_accelerate_115 (by decide) ?_
                          refine lv_istore_n (lv' := [(2, .int (nI 1)), (5, .int (nI 1)), (0, .ref (r 0)), (1, .int (nI k)), (3, .int (nI v)), (4, .int (nI q))]) hx hb dX6_accelerate_119 rfl hl (by decide) rfl (fun ls hl => ?_)
                          refine lv_iinc (v := (nI (q + 1))) (lv' := [(4, .int (nI (q + 1))), (2, .int (nI 1)), (5, .int (nI 1)), (0, .ref (r 0)), (1, .int (nI k)), (3, .int (nI v))]) hx hb dX6_accelerate_120 hl (k := 5) rfl (by exact nI_1 _) (by decide) rfl (fun ls hl => ?_)
                          refine lv_goto (tgt := 35) hx hb dX6_accelerate_123 (by decide) ?_
                          have hP : va_P D vwCl (mw cI r i0 i3 i7 i8 i9 i13 i15 i17 i18 i19 i22 i23 a1 a2 a4 a5 a6 a10 a11 a12 a14 a16 a20 a21 a24 (cpN (raA (nI 1000000) a20 v g25) g25 (q + 1)) a26) H := by rw [← cpN_s, raA_y c59 c71]; exact hP
                          have hD : va_D A (mw cI r i0 i3 i7 i8 i9 i13 i15 i17 i18 i19 i22 i23 a1 a2 a4 a5 a6 a10 a11 a12 a14 a16 a20 a21 a24 (cpN (raA (nI 1000000) a20 v g25) g25 (q + 1)) a26) := by rw [← cpN_s, raA_y c59 c71]; exact hD
                          exact ih35 (q + 1) true (by omega) (by omega) (rs_y ⟨Int32.not_le.mp c59, Int32.not_le.mp c71⟩) _ _ _ hP hD hS (lv_sub hl [3, 4, 1, 5, 0] rfl)
              have hP : va_P D vwCl (mw cI r i0 i3 i7 i8 i9 i13 i15 i17 i18 i19 i22 i23 a1 a2 a4 a5 a6 a10 a11 a12 a14 a16 a20 a21 a24 (cpN (raA (nI 1000000) a20 v g25) g25 0) a26) H := by rw [cpN_0]; exact hP
              have hD : va_D A (mw cI r i0 i3 i7 i8 i9 i13 i15 i17 i18 i19 i22 i23 a1 a2 a4 a5 a6 a10 a11 a12 a14 a16 a20 a21 a24 (cpN (raA (nI 1000000) a20 v g25) g25 0) a26) := by rw [cpN_0]; exact hD
              exact lp35 _ 0 t (Nat.lt_succ_self _) (by omega) rs_0 _ _ _ hP hD hS (lv_sub hl [1, 2, 3, 4, 0] rfl)
      exact lp10 _ (nI k) (nd.2.1 :: nd.2.2) w6 false f25 (Nat.lt_succ_self _) (Or.inr ⟨k, nd, hk, rfl, rfl⟩) hf rfl _ _ _ hP hD hS (lv_sub hl [2, 3, 1, 0] rfl)
  exact lp6 _ 6 w a25 (Nat.lt_succ_self _) hw rfl (Nat.lt_succ_of_le (cntF_le5 _ _)) _ _ _ hP hD hS (lv_sub hl [1, 2] rfl)
