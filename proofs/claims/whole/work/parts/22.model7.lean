set_option maxHeartbeats 4000000 in
set_option maxRecDepth 100000 in
theorem c_X6_isBefore (l : Launch) (D : va_G) (cI cJ cZ cA : ClassId) (r : Nat → Nat) (i0 i3 i7 i8 i9 i13 i15 i17 i18 i19 i22 i23 : Int32) (a1 a2 a4 a5 a6 a10 a11 a12 a14 a16 a20 a21 a24 a25 a26 : Nat → Int32) (k o : Nat) (x y : Rw) (hk : k ≤ 1000) (ho : o ≤ 1000) (hxr : ∀ q, q < 5 → a20 (5 * k + q) = x q) (hyr : ∀ q, q < 5 → a20 (5 * o + q) = y q) : Met l yX6_isBefore wsX6_isBefore ({ frames := 0, cells := 0, slots := 0, locals := 0 } : Room) (ro_P D (tysC cI cJ cZ cA) [.ref (r 0), .int (nI k), .int (nI o)] (mw cI r i0 i3 i7 i8 i9 i13 i15 i17 i18 i19 i22 i23 a1 a2 a4 a5 a6 a10 a11 a12 a14 a16 a20 a21 a24 a25 a26)) (ro_Q (bI (befM x y))) 0 0 (fun _ => False) := by
  refine met_ro (cc := cX6_isBefore) (maxL := 5) (ty := .boolean) (by decide) rfl (Nat.le_of_ble_eq_true rfl) (bI_n _) ?_
  intro p e s m args below meth c Q hx hb hml hown hts hP hK hret ls hl
  obtain ⟨H, hH9⟩ : ∃ H : Heap, H = s.heap := ⟨_, rfl⟩
  have hP : va_P D vwCl (mw cI r i0 i3 i7 i8 i9 i13 i15 i17 i18 i19 i22 i23 a1 a2 a4 a5 a6 a10 a11 a12 a14 a16 a20 a21 a24 a25 a26) H := by rw [hH9]; exact hP
  have hS : va_S (fun _ => False) s.heap H [] := by rw [hH9]; exact va_S.rf
  rw [← hH9]
  have hown : s.vm.findClass RX6 = some m.cls := hown
  have hin6 : ∀ w ∈ wsX60, w ∈ wsX6_isBefore := by decide +kernel
  have fl45 := hts (.fieldLink RX6 45 "CoverRoundsModel" "markings" "[I") (by decide +kernel)
  have hl : lv_has ls 5 [(0, .ref (r 0)), (1, .int (nI k)), (2, .int (nI o))] := hl
  refine lv_iconst (v := nI 0) hx hb dX6_isBefore_0 (by decide) ?_
  refine lv_istore_n (lv' := [(3, .int (nI 0)), (0, .ref (r 0)), (1, .int (nI k)), (2, .int (nI o))]) hx hb dX6_isBefore_1 rfl hl (by decide) rfl (fun ls hl => ?_)
  have lp2 : ∀ (n9 : Nat) (q : Nat), 5 - q < n9 → q ≤ 5 → (∀ j, j < q → x j - y j = 0) → ∀ (H : Heap) (locs : List Loc) (ls : Array Slot), va_P D vwCl (mw cI r i0 i3 i7 i8 i9 i13 i15 i17 i18 i19 i22 i23 a1 a2 a4 a5 a6 a10 a11 a12 a14 a16 a20 a21 a24 a25 a26) H → va_S (fun _ => False) s.heap H locs → lv_has ls 5 [(0, .ref (r 0)), (1, .int (nI k)), (2, .int (nI o)), (3, .int (nI q))] → W p l e ({ frames := 0, cells := 0, slots := 0, locals := 0 } : Room) s m args below meth c H locs 0 0 Q (F0 m 2 ls []) := by
    intro n9
    induction n9 with
    | zero => intro q hm2; exact absurd hm2 (Nat.not_lt_zero _)
    | succ n9 ih2 =>
      intro q hm2 hq h0 H locs ls hP hS hl
      refine lv_iload_n hx hb dX6_isBefore_2 rfl (lv_at hl 3 rfl) ?_
      refine lv_iconst (v := nI 5) hx hb dX6_isBefore_3 (by decide) ?_
      refine wk_icmp_ge (tgt := 52) hx hb (by omega) (by omega) dX6_isBefore_4 (by decide) (fun c4 => ?_) (fun c4 => ?_)
      · skip
        refine lv_iconst (v := nI 0) hx hb dX6_isBefore_52 (by decide) ?_
        have hq5 : q = 5 := by omega
        subst hq5
        exact hret _ _ _ _ _ (bI_F (bef_none h0)) dX6_isBefore_53 hS
      · skip
        refine lv_aload_n hx hb dX6_isBefore_7 rfl (lv_at hl 0 rfl) ?_
        refine va_get (D := D) (ci := 5) (v := .ref (r 20)) (C := RX6) (T := TX6) (N := 27) hx hb hts hin6 hown hK hP 0 rfl rfl 20 (by decide) fl45 (fun _ h9 => h9) rfl dX6_isBefore_8 ?_
        refine lv_iconst (v := nI 5) hx hb dX6_isBefore_11 (by decide) ?_
        refine lv_iload_n hx hb dX6_isBefore_12 rfl (lv_at hl 1 rfl) ?_
        refine wk_imul hx hb dX6_isBefore_13 ?_
        refine lv_iload_n hx hb dX6_isBefore_14 rfl (lv_at hl 3 rfl) ?_
        refine wk_iadd hx hb dX6_isBefore_15 ?_
        refine wk_iald hx hb hK hP 11 0 rfl rfl (i := (5 * k) + q) (by omega) (by omega) dX6_isBefore_16 ?_
        rw [show (a20 ((5 * k) + q)) = (x q) from (hxr q (by omega))]
        refine lv_aload_n hx hb dX6_isBefore_17 rfl (lv_at hl 0 rfl) ?_
        refine va_get (D := D) (ci := 5) (v := .ref (r 20)) (C := RX6) (T := TX6) (N := 27) hx hb hts hin6 hown hK hP 0 rfl rfl 20 (by decide) fl45 (fun _ h9 => h9) rfl dX6_isBefore_18 ?_
        refine lv_iconst (v := nI 5) hx hb dX6_isBefore_21 (by decide) ?_
        refine lv_iload_n hx hb dX6_isBefore_22 rfl (lv_at hl 2 rfl) ?_
        refine wk_imul hx hb dX6_isBefore_23 ?_
        refine lv_iload_n hx hb dX6_isBefore_24 rfl (lv_at hl 3 rfl) ?_
        refine wk_iadd hx hb dX6_isBefore_25 ?_
        refine wk_iald hx hb hK hP 11 0 rfl rfl (i := (5 * o) + q) (by omega) (by omega) dX6_isBefore_26 ?_
        rw [show (a20 ((5 * o) + q)) = (y q) from (hyr q (by omega))]
        refine lv_isub hx hb dX6_isBefore_27 ?_
        refine lv_istore (lv' := [(4, .int ((x q) - (y q))), (0, .ref (r 0)), (1, .int (nI k)), (2, .int (nI o)), (3, .int (nI q))]) hx hb dX6_isBefore_28 hl (by decide) rfl (fun ls hl => ?_)
        refine lv_iload hx hb dX6_isBefore_30 (lv_at hl 0 rfl) ?_
        refine lv_if_eq (tgt := 46) hx hb dX6_isBefore_32 (by decide) (fun c32 => ?_) (fun c32 => ?_)
        · skip
          refine lv_iinc (v := (nI (q + 1))) (lv' := [(3, .int (nI (q + 1))), (4, .int ((x q) - (y q))), (0, .ref (r 0)), (1, .int (nI k)), (2, .int (nI o))]) hx hb dX6_isBefore_46 hl (k := 4) rfl (by exact nI_1 _) (by decide) rfl (fun ls hl => ?_)
          refine lv_goto (tgt := 2) hx hb dX6_isBefore_49 (by decide) ?_
          exact ih2 (q + 1) (by omega) (by omega) (fun j hj => by rcases Nat.lt_or_eq_of_le (Nat.le_of_lt_succ hj) with h1 | rfl; exact h0 j h1; exact c32) _ _ _ hP hS (lv_sub hl [2, 3, 4, 0] rfl)
        · skip
          refine lv_iload hx hb dX6_isBefore_35 (lv_at hl 0 rfl) ?_
          refine lv_if_ge (tgt := 44) hx hb dX6_isBefore_37 (by decide) (fun c37 => ?_) (fun c37 => ?_)
          · skip
            refine lv_iconst (v := nI 0) hx hb dX6_isBefore_44 (by decide) ?_
            exact hret _ _ _ _ _ (bI_F (by rw [bef_hit (by omega) h0 c32]; exact decide_eq_false (Int32.not_lt.mpr c37))) dX6_isBefore_45 hS
          · skip
            refine lv_iconst (v := nI 1) hx hb dX6_isBefore_40 (by decide) ?_
            refine lv_goto (tgt := 45) hx hb dX6_isBefore_41 (by decide) ?_
            exact hret _ _ _ _ _ (bI_T (by rw [bef_hit (by omega) h0 c32]; exact decide_eq_true (Int32.not_le.mp c37))) dX6_isBefore_45 hS
  exact lp2 _ 0 (Nat.lt_succ_self _) (by omega) (fun j h => absurd h (Nat.not_lt_zero j)) _ _ _ hP hS (lv_sub hl [1, 2, 3, 0] rfl)

set_option maxHeartbeats 4000000 in
set_option maxRecDepth 100000 in
theorem c_X6_tellTree (l : Launch) (D : va_G) (cI cJ cZ cA : ClassId) (r : Nat → Nat) (i0 i7 i8 i9 i13 i15 i17 i18 i22 i23 : Int32) (a1 a2 a4 a5 a6 a10 a11 a12 a14 a16 a20 a21 a24 a25 a26 : Nat → Int32) (sz tr : Nat) (htr : tr ≤ 6) (Ms : List Rw) (hX : rowsV a20 0 Ms) (hXl : Ms.length ≤ 1000)  : Met l yX6_tellTree wsX6_tellTree ({ frames := 2, cells := 0, slots := 0, locals := 48 } : Room) (wr_P D (tysC cI cJ cZ cA) [.ref (r 0)] (mw cI r i0 (nI tr) i7 i8 i9 i13 i15 i17 i18 (nI Ms.length) i22 i23 a1 a2 a4 a5 a6 a10 a11 a12 a14 a16 a20 a21 a24 a25 a26) sz) (wr_Qv D (S := Nat → Int32) (mw cI r i0 (nI tr) i7 i8 i9 i13 i15 i17 i18 (nI Ms.length) i22 i23 a1 a2 a4 a5 a6 a10 a11 a12 a14 a16 a20 a21 a24 a25 a26) sz (fun u => idxV u (limL Ms Ms.length)) (fun u => (mw cI r i0 (nI tr) i7 i8 i9 i13 i15 i17 i18 (nI Ms.length) (livL tr a4 Ms (nI 0)) (nI ((limL Ms Ms.length).length)) a1 a2 a4 a5 a6 a10 a11 a12 a14 a16 a20 a21 u a25 a26))) 0 0 (va_A (mw cI r i0 (nI tr) i7 i8 i9 i13 i15 i17 i18 (nI Ms.length) i22 i23 a1 a2 a4 a5 a6 a10 a11 a12 a14 a16 a20 a21 a24 a25 a26) sz) := by
  refine met_wv (cc := cX6_tellTree) (maxL := 6) (by decide) rfl (Nat.le_of_ble_eq_true rfl) ?_
  intro p e s m args below meth c Q A hx hb hml hown hts hP hK hD hA hret ls hl
  obtain ⟨H, hH9⟩ : ∃ H : Heap, H = s.heap := ⟨_, rfl⟩
  have hP : va_P D vwCl (mw cI r i0 (nI tr) i7 i8 i9 i13 i15 i17 i18 (nI Ms.length) i22 i23 a1 a2 a4 a5 a6 a10 a11 a12 a14 a16 a20 a21 a24 a25 a26) H := by rw [hH9]; exact hP
  have hS : va_S A s.heap H [] := by rw [hH9]; exact va_S.rf
  rw [← hH9]
  have hown : s.vm.findClass RX6 = some m.cls := hown
  have hin6 : ∀ w ∈ wsX60, w ∈ wsX6_tellTree := by decide +kernel
  have fl144 := hts (.fieldLink RX6 144 "CoverRoundsModel" "lives" "I") (by decide +kernel)
  have fl128 := hts (.fieldLink RX6 128 "CoverRoundsModel" "nodes" "I") (by decide +kernel)
  have fl63 := hts (.fieldLink RX6 63 "CoverRoundsModel" "transitions" "I") (by decide +kernel)
  have fl45 := hts (.fieldLink RX6 45 "CoverRoundsModel" "markings" "[I") (by decide +kernel)
  have fl147 := hts (.fieldLink RX6 147 "CoverRoundsModel" "limitCount" "I") (by decide +kernel)
  have fl51 := hts (.fieldLink RX6 51 "CoverRoundsModel" "limitNodes" "[I") (by decide +kernel)
  have hl : lv_has ls 6 [(0, .ref (r 0))] := hl
  refine lv_aload_n hx hb dX6_tellTree_0 rfl (lv_at hl 0 rfl) ?_
  refine lv_iconst (v := nI 0) hx hb dX6_tellTree_1 (by decide) ?_
  refine va_put (D := D) (ci := 5) (v := .int (nI 0)) (ty := .int) (C := RX6) (T := TX6) (N := 27) hx hb hts hin6 tyX6 tyX6_ok nmX6 hown hK hP hD hS 0 rfl rfl 22 (by decide) fl144 (fun _ h9 => h9) rfl (by decide +kernel) rfl rfl (Nat.le_of_ble_eq_true rfl) dX6_tellTree_2 (fun H locs hP hD hS => ?_)
  have hP : va_P D vwCl (mw cI r i0 (nI tr) i7 i8 i9 i13 i15 i17 i18 (nI Ms.length) (nI 0) i23 a1 a2 a4 a5 a6 a10 a11 a12 a14 a16 a20 a21 a24 a25 a26) H := hP
  have hD : va_D A (mw cI r i0 (nI tr) i7 i8 i9 i13 i15 i17 i18 (nI Ms.length) (nI 0) i23 a1 a2 a4 a5 a6 a10 a11 a12 a14 a16 a20 a21 a24 a25 a26) := hD
  refine lv_iconst (v := nI 0) hx hb dX6_tellTree_5 (by decide) ?_
  refine lv_istore_n (lv' := [(1, .int (nI 0)), (0, .ref (r 0))]) hx hb dX6_tellTree_6 rfl hl (by decide) rfl (fun ls hl => ?_)
  have lp7 : ∀ (n9 : Nat) (k : Nat) (v22 : Int32), Ms.length - k < n9 → k ≤ Ms.length → v22 = livL tr a4 (Ms.take k) (nI 0) → ∀ (H : Heap) (locs : List Loc) (ls : Array Slot), va_P D vwCl (mw cI r i0 (nI tr) i7 i8 i9 i13 i15 i17 i18 (nI Ms.length) v22 i23 a1 a2 a4 a5 a6 a10 a11 a12 a14 a16 a20 a21 a24 a25 a26) H → va_D A (mw cI r i0 (nI tr) i7 i8 i9 i13 i15 i17 i18 (nI Ms.length) v22 i23 a1 a2 a4 a5 a6 a10 a11 a12 a14 a16 a20 a21 a24 a25 a26) → va_S A s.heap H locs → lv_has ls 6 [(0, .ref (r 0)), (1, .int (nI k))] → W p l e ({ frames := 2, cells := 0, slots := 0, locals := 48 } : Room) s m args below meth c H locs 0 0 Q (F0 m 7 ls []) := by
    intro n9
    induction n9 with
    | zero => intro k v22 hm7; exact absurd hm7 (Nat.not_lt_zero _)
    | succ n9 ih7 =>
      intro k v22 hm7 hk hv H locs ls hP hD hS hl
      refine lv_iload_n hx hb dX6_tellTree_7 rfl (lv_at hl 1 rfl) ?_
      refine lv_aload_n hx hb dX6_tellTree_8 rfl (lv_at hl 0 rfl) ?_
      refine va_get (D := D) (ci := 5) (v := .int (nI Ms.length)) (C := RX6) (T := TX6) (N := 27) hx hb hts hin6 hown hK hP 0 rfl rfl 19 (by decide) fl128 (fun _ h9 => h9) rfl dX6_tellTree_9 ?_
      refine wk_icmp_ge (tgt := 68) hx hb (by omega) (by omega) dX6_tellTree_12 (by decide) (fun c12 => ?_) (fun c12 => ?_)
      · skip
        refine lv_aload_n hx hb dX6_tellTree_68 rfl (lv_at hl 0 rfl) ?_
        refine lv_iconst (v := nI 0) hx hb dX6_tellTree_69 (by decide) ?_
        refine va_put (D := D) (ci := 5) (v := .int (nI 0)) (ty := .int) (C := RX6) (T := TX6) (N := 27) hx hb hts hin6 tyX6 tyX6_ok nmX6 hown hK hP hD hS 0 rfl rfl 23 (by decide) fl147 (fun _ h9 => h9) rfl (by decide +kernel) rfl rfl (Nat.le_of_ble_eq_true rfl) dX6_tellTree_70 (fun H locs hP hD hS => ?_)
        have hP : va_P D vwCl (mw cI r i0 (nI tr) i7 i8 i9 i13 i15 i17 i18 (nI Ms.length) v22 (nI 0) a1 a2 a4 a5 a6 a10 a11 a12 a14 a16 a20 a21 a24 a25 a26) H := hP
        have hD : va_D A (mw cI r i0 (nI tr) i7 i8 i9 i13 i15 i17 i18 (nI Ms.length) v22 (nI 0) a1 a2 a4 a5 a6 a10 a11 a12 a14 a16 a20 a21 a24 a25 a26) := hD
        refine lv_iconst (v := nI 0) hx hb dX6_tellTree_73 (by decide) ?_
        refine lv_istore_n (lv' := [(1, .int (nI 0)), (0, .ref (r 0))]) hx hb dX6_tellTree_74 rfl hl (by decide) rfl (fun ls hl => ?_)
        have lp75 : ∀ (n9 : Nat) (k : Nat) (g24 : Nat → Int32), Ms.length - k < n9 → k ≤ Ms.length → idxV g24 (limL Ms k) → ∀ (H : Heap) (locs : List Loc) (ls : Array Slot), va_P D vwCl (mw cI r i0 (nI tr) i7 i8 i9 i13 i15 i17 i18 (nI Ms.length) (livL tr a4 Ms (nI 0)) (nI ((limL Ms k).length)) a1 a2 a4 a5 a6 a10 a11 a12 a14 a16 a20 a21 g24 a25 a26) H → va_D A (mw cI r i0 (nI tr) i7 i8 i9 i13 i15 i17 i18 (nI Ms.length) (livL tr a4 Ms (nI 0)) (nI ((limL Ms k).length)) a1 a2 a4 a5 a6 a10 a11 a12 a14 a16 a20 a21 g24 a25 a26) → va_S A s.heap H locs → lv_has ls 6 [(0, .ref (r 0)), (1, .int (nI k))] → W p l e ({ frames := 2, cells := 0, slots := 0, locals := 48 } : Room) s m args below meth c H locs 0 0 Q (F0 m 75 ls []) := by
          intro n9
          induction n9 with
          | zero => intro k g24 hm75; exact absurd hm75 (Nat.not_lt_zero _)
          | succ n9 ih75 =>
            intro k g24 hm75 hk hC H locs ls hP hD hS hl
            refine lv_iload_n hx hb dX6_tellTree_75 rfl (lv_at hl 1 rfl) ?_
            refine lv_aload_n hx hb dX6_tellTree_76 rfl (lv_at hl 0 rfl) ?_
            refine va_get (D := D) (ci := 5) (v := .int (nI Ms.length)) (C := RX6) (T := TX6) (N := 27) hx hb hts hin6 hown hK hP 0 rfl rfl 19 (by decide) fl128 (fun _ h9 => h9) rfl dX6_tellTree_77 ?_
            refine wk_icmp_ge (tgt := 249) hx hb (by omega) (by omega) dX6_tellTree_80 (by decide) (fun c80 => ?_) (fun c80 => ?_)
            · skip
              have hkM : k = Ms.length := by omega
              subst hkM
              exact hret g24 _ _ _ _ _ _ hC hP hD dX6_tellTree_249 hS (Nat.zero_le _) (Nat.zero_le _)
            · skip
              obtain ⟨x, hx9, hr9⟩ := rowsV_at0 hX (show k < Ms.length by omega)
              have hCl := limL_len Ms k
              refine lv_iconst (v := nI 1) hx hb dX6_tellTree_83 (by decide) ?_
              refine lv_istore_n (lv' := [(2, .int (nI 1)), (0, .ref (r 0)), (1, .int (nI k))]) hx hb dX6_tellTree_84 rfl hl (by decide) rfl (fun ls hl => ?_)
              refine lv_iconst (v := nI 0) hx hb dX6_tellTree_85 (by decide) ?_
              refine lv_istore_n (lv' := [(3, .int (nI 0)), (2, .int (nI 1)), (0, .ref (r 0)), (1, .int (nI k))]) hx hb dX6_tellTree_86 rfl hl (by decide) rfl (fun ls hl => ?_)
              have lp87 : ∀ (n9 : Nat) (o : Nat) (t : Bool), Ms.length - o < n9 → o ≤ Ms.length → (t = true ↔ ∀ j, j < o → (tpB a20 (5 * j) a20 (5 * k) = true → (tpB a20 (5 * k) a20 (5 * j) = true ∧ k ≤ j))) → ∀ (H : Heap) (locs : List Loc) (ls : Array Slot), va_P D vwCl (mw cI r i0 (nI tr) i7 i8 i9 i13 i15 i17 i18 (nI Ms.length) (livL tr a4 Ms (nI 0)) (nI ((limL Ms k).length)) a1 a2 a4 a5 a6 a10 a11 a12 a14 a16 a20 a21 g24 a25 a26) H → va_D A (mw cI r i0 (nI tr) i7 i8 i9 i13 i15 i17 i18 (nI Ms.length) (livL tr a4 Ms (nI 0)) (nI ((limL Ms k).length)) a1 a2 a4 a5 a6 a10 a11 a12 a14 a16 a20 a21 g24 a25 a26) → va_S A s.heap H locs → lv_has ls 6 [(0, .ref (r 0)), (1, .int (nI k)), (2, .int (bI t)), (3, .int (nI o))] → W p l e ({ frames := 2, cells := 0, slots := 0, locals := 48 } : Room) s m args below meth c H locs 0 0 Q (F0 m 87 ls []) := by
                intro n9
                induction n9 with
                | zero => intro o t hm87; exact absurd hm87 (Nat.not_lt_zero _)
                | succ n9 ih87 =>
                  intro o t hm87 ho ht H locs ls hP hD hS hl
                  refine lv_iload_n hx hb dX6_tellTree_87 rfl (lv_at hl 3 rfl) ?_
                  refine lv_aload_n hx hb dX6_tellTree_88 rfl (lv_at hl 0 rfl) ?_
                  refine va_get (D := D) (ci := 5) (v := .int (nI Ms.length)) (C := RX6) (T := TX6) (N := 27) hx hb hts hin6 hown hK hP 0 rfl rfl 19 (by decide) fl128 (fun _ h9 => h9) rfl dX6_tellTree_89 ?_
                  refine wk_icmp_ge (tgt := 177) hx hb (by omega) (by omega) dX6_tellTree_92 (by decide) (fun c92 => ?_) (fun c92 => ?_)
                  · skip
                    have hoM : o = Ms.length := by omega
                    rw [hoM] at ht
                    have hlim := limB_end hX (show k < Ms.length by omega) ht
                    refine lv_iload_n hx hb dX6_tellTree_177 rfl (lv_at hl 2 rfl) ?_
                    refine wk_if_eqb (tgt := 243) hx hb dX6_tellTree_178 (by decide) (fun c178 => ?_) (fun c178 => ?_)
                    · skip
                      refine lv_iinc (v := (nI (k + 1))) (lv' := [(1, .int (nI (k + 1))), (0, .ref (r 0)), (2, .int (bI t)), (3, .int (nI o))]) hx hb dX6_tellTree_243 hl (k := 1) rfl (by exact nI_1 _) (by decide) rfl (fun ls hl => ?_)
                      refine lv_goto (tgt := 75) hx hb dX6_tellTree_246 (by decide) ?_
                      have hP : va_P D vwCl (mw cI r i0 (nI tr) i7 i8 i9 i13 i15 i17 i18 (nI Ms.length) (livL tr a4 Ms (nI 0)) (nI ((limL Ms (k + 1)).length)) a1 a2 a4 a5 a6 a10 a11 a12 a14 a16 a20 a21 g24 a25 a26) H := by rw [limL_s, limS, if_neg (by rw [← hlim, c178]; exact Bool.false_ne_true)]; exact hP
                      have hD : va_D A (mw cI r i0 (nI tr) i7 i8 i9 i13 i15 i17 i18 (nI Ms.length) (livL tr a4 Ms (nI 0)) (nI ((limL Ms (k + 1)).length)) a1 a2 a4 a5 a6 a10 a11 a12 a14 a16 a20 a21 g24 a25 a26) := by rw [limL_s, limS, if_neg (by rw [← hlim, c178]; exact Bool.false_ne_true)]; exact hD
                      exact ih75 (k + 1) g24 (by omega) (by omega) (by rw [limL_s, limS, if_neg (by rw [← hlim, c178]; exact Bool.false_ne_true)]; exact hC) _ _ _ hP hD hS (lv_sub hl [1, 0] rfl)
                    · skip
                      refine lv_aload_n hx hb dX6_tellTree_181 rfl (lv_at hl 0 rfl) ?_
                      refine va_get (D := D) (ci := 5) (v := .int (nI ((limL Ms k).length))) (C := RX6) (T := TX6) (N := 27) hx hb hts hin6 hown hK hP 0 rfl rfl 23 (by decide) fl147 (fun _ h9 => h9) rfl dX6_tellTree_182 ?_
                      refine lv_istore_n (lv' := [(3, .int (nI ((limL Ms k).length))), (0, .ref (r 0)), (1, .int (nI k)), (2, .int (bI t))]) hx hb dX6_tellTree_185 rfl hl (by decide) rfl (fun ls hl => ?_)
                      have lp186 : ∀ (n9 : Nat) (at9 : Nat) (h24 : Nat → Int32), at9 < n9 → at9 ≤ (limL Ms k).length → insV h24 (limL Ms k) at9 → posI (fun j => befM (Ms.getD k zR) (Ms.getD j zR)) (limL Ms k) at9 = posI (fun j => befM (Ms.getD k zR) (Ms.getD j zR)) (limL Ms k) (limL Ms k).length → ∀ (H : Heap) (locs : List Loc) (ls : Array Slot), va_P D vwCl (mw cI r i0 (nI tr) i7 i8 i9 i13 i15 i17 i18 (nI Ms.length) (livL tr a4 Ms (nI 0)) (nI ((limL Ms k).length)) a1 a2 a4 a5 a6 a10 a11 a12 a14 a16 a20 a21 h24 a25 a26) H → va_D A (mw cI r i0 (nI tr) i7 i8 i9 i13 i15 i17 i18 (nI Ms.length) (livL tr a4 Ms (nI 0)) (nI ((limL Ms k).length)) a1 a2 a4 a5 a6 a10 a11 a12 a14 a16 a20 a21 h24 a25 a26) → va_S A s.heap H locs → lv_has ls 6 [(0, .ref (r 0)), (1, .int (nI k)), (3, .int (nI at9))] → W p l e ({ frames := 2, cells := 0, slots := 0, locals := 48 } : Room) s m args below meth c H locs 0 0 Q (F0 m 186 ls []) := by
                        intro n9
                        induction n9 with
                        | zero => intro at9 h24 hm186; exact absurd hm186 (Nat.not_lt_zero _)
                        | succ n9 ih186 =>
                          intro at9 h24 hm186 ha hi hp H locs ls hP hD hS hl
                          refine lv_iload_n hx hb dX6_tellTree_186 rfl (lv_at hl 2 rfl) ?_
                          refine wk_if_le (tgt := 226) hx hb (by omega) dX6_tellTree_187 (by decide) (fun c187 => ?_) (fun c187 => ?_)
                          · skip
                            subst c187
                            have hpz : 0 = posI (fun j => befM (Ms.getD k zR) (Ms.getD j zR)) (limL Ms k) (limL Ms k).length := hp
                            refine lv_aload_n hx hb dX6_tellTree_226 rfl (lv_at hl 0 rfl) ?_
                            refine va_get (D := D) (ci := 5) (v := .ref (r 24)) (C := RX6) (T := TX6) (N := 27) hx hb hts hin6 hown hK hP 0 rfl rfl 24 (by decide) fl51 (fun _ h9 => h9) rfl dX6_tellTree_227 ?_
                            refine lv_iload_n hx hb dX6_tellTree_230 rfl (lv_at hl 2 rfl) ?_
                            refine lv_iload_n hx hb dX6_tellTree_231 rfl (lv_at hl 1 rfl) ?_
                            refine wk_iast hx hb hK hP hD hS 13 0 rfl rfl (i := 0) (by omega) (by omega) dX6_tellTree_232 (fun H locs hP hD hS => ?_)
                            have hP : va_P D vwCl (mw cI r i0 (nI tr) i7 i8 i9 i13 i15 i17 i18 (nI Ms.length) (livL tr a4 Ms (nI 0)) (nI ((limL Ms k).length)) a1 a2 a4 a5 a6 a10 a11 a12 a14 a16 a20 a21 (upd h24 0 (nI k)) a25 a26) H := hP
                            have hD : va_D A (mw cI r i0 (nI tr) i7 i8 i9 i13 i15 i17 i18 (nI Ms.length) (livL tr a4 Ms (nI 0)) (nI ((limL Ms k).length)) a1 a2 a4 a5 a6 a10 a11 a12 a14 a16 a20 a21 (upd h24 0 (nI k)) a25 a26) := hD
                            refine lv_aload_n hx hb dX6_tellTree_233 rfl (lv_at hl 0 rfl) ?_
                            refine lv_dup hx hb dX6_tellTree_234 rfl ?_
                            refine va_get (D := D) (ci := 5) (v := .int (nI ((limL Ms k).length))) (C := RX6) (T := TX6) (N := 27) hx hb hts hin6 hown hK hP 0 rfl rfl 23 (by decide) fl147 (fun _ h9 => h9) rfl dX6_tellTree_235 ?_
                            refine lv_iconst (v := nI 1) hx hb dX6_tellTree_238 (by decide) ?_
                            refine wk_iadd hx hb dX6_tellTree_239 ?_
                            refine va_put (D := D) (ci := 5) (v := .int (nI (((limL Ms k).length) + 1))) (ty := .int) (C := RX6) (T := TX6) (N := 27) hx hb hts hin6 tyX6 tyX6_ok nmX6 hown hK hP hD hS 0 rfl rfl 23 (by decide) fl147 (fun _ h9 => h9) rfl (by decide +kernel) rfl rfl (Nat.le_of_ble_eq_true rfl) dX6_tellTree_240 (fun H locs hP hD hS => ?_)
                            have hP : va_P D vwCl (mw cI r i0 (nI tr) i7 i8 i9 i13 i15 i17 i18 (nI Ms.length) (livL tr a4 Ms (nI 0)) (nI (((limL Ms k).length) + 1)) a1 a2 a4 a5 a6 a10 a11 a12 a14 a16 a20 a21 (upd h24 0 (nI k)) a25 a26) H := hP
                            have hD : va_D A (mw cI r i0 (nI tr) i7 i8 i9 i13 i15 i17 i18 (nI Ms.length) (livL tr a4 Ms (nI 0)) (nI (((limL Ms k).length) + 1)) a1 a2 a4 a5 a6 a10 a11 a12 a14 a16 a20 a21 (upd h24 0 (nI k)) a25 a26) := hD
                            refine lv_iinc (v := (nI (k + 1))) (lv' := [(1, .int (nI (k + 1))), (0, .ref (r 0)), (3, .int (nI 0))]) hx hb dX6_tellTree_243 hl (k := 1) rfl (by exact nI_1 _) (by decide) rfl (fun ls hl => ?_)
                            refine lv_goto (tgt := 75) hx hb dX6_tellTree_246 (by decide) ?_
                            have hpe : 0 = posI (fun j => befM (Ms.getD k zR) (Ms.getD j zR)) (limL Ms k) (limL Ms k).length := hpz
                            have hls : limL Ms (k + 1) = insM (fun j => befM (Ms.getD k zR) (Ms.getD j zR)) k (limL Ms k) := by rw [limL_s, limS, if_pos (hlim.symm.trans c178)]
                            have hP : va_P D vwCl (mw cI r i0 (nI tr) i7 i8 i9 i13 i15 i17 i18 (nI Ms.length) (livL tr a4 Ms (nI 0)) (nI ((limL Ms (k + 1)).length)) a1 a2 a4 a5 a6 a10 a11 a12 a14 a16 a20 a21 (upd h24 0 (nI k)) a25 a26) H := by rw [hls, insM_len]; exact hP
                            have hD : va_D A (mw cI r i0 (nI tr) i7 i8 i9 i13 i15 i17 i18 (nI Ms.length) (livL tr a4 Ms (nI 0)) (nI ((limL Ms (k + 1)).length)) a1 a2 a4 a5 a6 a10 a11 a12 a14 a16 a20 a21 (upd h24 0 (nI k)) a25 a26) := by rw [hls, insM_len]; exact hD
                            exact ih75 (k + 1) (upd h24 0 (nI k)) (by omega) (by omega) (by rw [hls]; rw [hpe] at hi; rw [hpe]; exact insV_end hi) _ _ _ hP hD hS (lv_sub hl [1, 0] rfl)
                          · skip
                            obtain ⟨a9, rfl⟩ : ∃ a9, at9 = a9 + 1 := ⟨at9 - 1, by omega⟩
                            obtain ⟨v, hv9⟩ : ∃ v, (limL Ms k)[a9]? = some v := ⟨_, List.getElem?_eq_getElem (by omega)⟩
                            have hvk := limL_in Ms k v (List.mem_of_getElem? hv9)
                            obtain ⟨y, hy9, hs9⟩ := rowsV_at0 hX (show v < Ms.length by omega)
                            refine lv_aload_n hx hb dX6_tellTree_190 rfl (lv_at hl 0 rfl) ?_
                            refine lv_iload_n hx hb dX6_tellTree_191 rfl (lv_at hl 1 rfl) ?_
                            refine lv_aload_n hx hb dX6_tellTree_192 rfl (lv_at hl 0 rfl) ?_
                            refine va_get (D := D) (ci := 5) (v := .ref (r 24)) (C := RX6) (T := TX6) (N := 27) hx hb hts hin6 hown hK hP 0 rfl rfl 24 (by decide) fl51 (fun _ h9 => h9) rfl dX6_tellTree_193 ?_
                            refine lv_iload_n hx hb dX6_tellTree_196 rfl (lv_at hl 2 rfl) ?_
                            refine lv_iconst (v := nI 1) hx hb dX6_tellTree_197 (by decide) ?_
                            refine wk_isub hx hb (by omega) dX6_tellTree_198 ?_
                            refine wk_iald hx hb hK hP 13 0 rfl rfl (i := (a9 + 1) - 1) (by omega) (by omega) dX6_tellTree_199 ?_
                            rw [show (h24 ((a9 + 1) - 1)) = (nI v) from (hi.1 a9 v (by omega) hv9)]
                            refine wk_Vi (As := [.int (nI k), .int (nI v)]) (rest := []) ⟨hx, hb, hml, hown, hts⟩ (c_X6_isBefore l D cI cJ cZ cA r i0 (nI tr) i7 i8 i9 i13 i15 i17 i18 (nI Ms.length) (livL tr a4 Ms (nI 0)) (nI ((limL Ms k).length)) a1 a2 a4 a5 a6 a10 a11 a12 a14 a16 a20 a21 h24 a25 a26 k v (Ms.getD k zR) (Ms.getD v zR) (by omega) (by omega) (by rw [getD_of hx9]; exact hr9) (by rw [getD_of hy9]; exact hs9)) (cwV 2 hts gX6_tellTree_X6_isBefore rfl rfl rfl (by decide +kernel) ⟨Nat.le_of_ble_eq_true rfl, Nat.le_of_ble_eq_true rfl⟩) hK hP [0, 1, 2, 3, 4, 5, 6, 7, 8, 9, 10, 11, 12, 13, 14, 15] rfl 0 5 rfl rfl hS rfl hl.1 rfl (Nat.le_of_ble_eq_true rfl) dX6_tellTree_200 ⟨Nat.zero_le _, Nat.zero_le _⟩ (fun H locs hP hS => ?_)
                            refine wk_if_eqb (tgt := 226) hx hb dX6_tellTree_203 (by decide) (fun c203 => ?_) (fun c203 => ?_)
                            · skip
                              have hpz : a9 + 1 = posI (fun j => befM (Ms.getD k zR) (Ms.getD j zR)) (limL Ms k) (limL Ms k).length := by rw [← hp, posI_n (bf := (fun j => befM (Ms.getD k zR) (Ms.getD j zR))) (C := limL Ms k) (a := a9) (by rw [getD_of hv9]; exact c203)]
                              refine lv_aload_n hx hb dX6_tellTree_226 rfl (lv_at hl 0 rfl) ?_
                              refine va_get (D := D) (ci := 5) (v := .ref (r 24)) (C := RX6) (T := TX6) (N := 27) hx hb hts hin6 hown hK hP 0 rfl rfl 24 (by decide) fl51 (fun _ h9 => h9) rfl dX6_tellTree_227 ?_
                              refine lv_iload_n hx hb dX6_tellTree_230 rfl (lv_at hl 2 rfl) ?_
                              refine lv_iload_n hx hb dX6_tellTree_231 rfl (lv_at hl 1 rfl) ?_
                              refine wk_iast hx hb hK hP hD hS 13 0 rfl rfl (i := (a9 + 1)) (by omega) (by omega) dX6_tellTree_232 (fun H locs hP hD hS => ?_)
                              have hP : va_P D vwCl (mw cI r i0 (nI tr) i7 i8 i9 i13 i15 i17 i18 (nI Ms.length) (livL tr a4 Ms (nI 0)) (nI ((limL Ms k).length)) a1 a2 a4 a5 a6 a10 a11 a12 a14 a16 a20 a21 (upd h24 (a9 + 1) (nI k)) a25 a26) H := hP
                              have hD : va_D A (mw cI r i0 (nI tr) i7 i8 i9 i13 i15 i17 i18 (nI Ms.length) (livL tr a4 Ms (nI 0)) (nI ((limL Ms k).length)) a1 a2 a4 a5 a6 a10 a11 a12 a14 a16 a20 a21 (upd h24 (a9 + 1) (nI k)) a25 a26) := hD
                              refine lv_aload_n hx hb dX6_tellTree_233 rfl (lv_at hl 0 rfl) ?_
                              refine lv_dup hx hb dX6_tellTree_234 rfl ?_
                              refine va_get (D := D) (ci := 5) (v := .int (nI ((limL Ms k).length))) (C := RX6) (T := TX6) (N := 27) hx hb hts hin6 hown hK hP 0 rfl rfl 23 (by decide) fl147 (fun _ h9 => h9) rfl dX6_tellTree_235 ?_
                              refine lv_iconst (v := nI 1) hx hb dX6_tellTree_238 (by decide) ?_
                              refine wk_iadd hx hb dX6_tellTree_239 ?_
                              refine va_put (D := D) (ci := 5) (v := .int (nI (((limL Ms k).length) + 1))) (ty := .int) (C := RX6) (T := TX6) (N := 27) hx hb hts hin6 tyX6 tyX6_ok nmX6 hown hK hP hD hS 0 rfl rfl 23 (by decide) fl147 (fun _ h9 => h9) rfl (by decide +kernel) rfl rfl (Nat.le_of_ble_eq_true rfl) dX6_tellTree_240 (fun H locs hP hD hS => ?_)
                              have hP : va_P D vwCl (mw cI r i0 (nI tr) i7 i8 i9 i13 i15 i17 i18 (nI Ms.length) (livL tr a4 Ms (nI 0)) (nI (((limL Ms k).length) + 1)) a1 a2 a4 a5 a6 a10 a11 a12 a14 a16 a20 a21 (upd h24 (a9 + 1) (nI k)) a25 a26) H := hP
                              have hD : va_D A (mw cI r i0 (nI tr) i7 i8 i9 i13 i15 i17 i18 (nI Ms.length) (livL tr a4 Ms (nI 0)) (nI (((limL Ms k).length) + 1)) a1 a2 a4 a5 a6 a10 a11 a12 a14 a16 a20 a21 (upd h24 (a9 + 1) (nI k)) a25 a26) := hD
                              refine lv_iinc (v := (nI (k + 1))) (lv' := [(1, .int (nI (k + 1))), (0, .ref (r 0)), (3, .int (nI (a9 + 1)))]) hx hb dX6_tellTree_243 hl (k := 1) rfl (by exact nI_1 _) (by decide) rfl (fun ls hl => ?_)
                              refine lv_goto (tgt := 75) hx hb dX6_tellTree_246 (by decide) ?_
                              have hpe : (a9 + 1) = posI (fun j => befM (Ms.getD k zR) (Ms.getD j zR)) (limL Ms k) (limL Ms k).length := hpz
                              have hls : limL Ms (k + 1) = insM (fun j => befM (Ms.getD k zR) (Ms.getD j zR)) k (limL Ms k) := by rw [limL_s, limS, if_pos (hlim.symm.trans c178)]
                              have hP : va_P D vwCl (mw cI r i0 (nI tr) i7 i8 i9 i13 i15 i17 i18 (nI Ms.length) (livL tr a4 Ms (nI 0)) (nI ((limL Ms (k + 1)).length)) a1 a2 a4 a5 a6 a10 a11 a12 a14 a16 a20 a21 (upd h24 (a9 + 1) (nI k)) a25 a26) H := by rw [hls, insM_len]; exact hP
                              have hD : va_D A (mw cI r i0 (nI tr) i7 i8 i9 i13 i15 i17 i18 (nI Ms.length) (livL tr a4 Ms (nI 0)) (nI ((limL Ms (k + 1)).length)) a1 a2 a4 a5 a6 a10 a11 a12 a14 a16 a20 a21 (upd h24 (a9 + 1) (nI k)) a25 a26) := by rw [hls, insM_len]; exact hD
                              exact ih75 (k + 1) (upd h24 (a9 + 1) (nI k)) (by omega) (by omega) (by rw [hls]; rw [hpe] at hi; rw [hpe]; exact insV_end hi) _ _ _ hP hD hS (lv_sub hl [1, 0] rfl)
                            · skip
                              refine lv_aload_n hx hb dX6_tellTree_206 rfl (lv_at hl 0 rfl) ?_
                              refine va_get (D := D) (ci := 5) (v := .ref (r 24)) (C := RX6) (T := TX6) (N := 27) hx hb hts hin6 hown hK hP 0 rfl rfl 24 (by decide) fl51 (fun _ h9 => h9) rfl dX6_tellTree_207 ?_
                              refine lv_iload_n hx hb dX6_tellTree_210 rfl (lv_at hl 2 rfl) ?_
                              refine lv_aload_n hx hb dX6_tellTree_211 rfl (lv_at hl 0 rfl) ?_
                              refine va_get (D := D) (ci := 5) (v := .ref (r 24)) (C := RX6) (T := TX6) (N := 27) hx hb hts hin6 hown hK hP 0 rfl rfl 24 (by decide) fl51 (fun _ h9 => h9) rfl dX6_tellTree_212 ?_
                              refine lv_iload_n hx hb dX6_tellTree_215 rfl (lv_at hl 2 rfl) ?_
                              refine lv_iconst (v := nI 1) hx hb dX6_tellTree_216 (by decide) ?_
                              refine wk_isub hx hb (by omega) dX6_tellTree_217 ?_
                              refine wk_iald hx hb hK hP 13 0 rfl rfl (i := (a9 + 1) - 1) (by omega) (by omega) dX6_tellTree_218 ?_
                              rw [show (h24 ((a9 + 1) - 1)) = (nI v) from (hi.1 a9 v (by omega) hv9)]
                              refine wk_iast hx hb hK hP hD hS 13 0 rfl rfl (i := (a9 + 1)) (by omega) (by omega) dX6_tellTree_219 (fun H locs hP hD hS => ?_)
                              have hP : va_P D vwCl (mw cI r i0 (nI tr) i7 i8 i9 i13 i15 i17 i18 (nI Ms.length) (livL tr a4 Ms (nI 0)) (nI ((limL Ms k).length)) a1 a2 a4 a5 a6 a10 a11 a12 a14 a16 a20 a21 (upd h24 (a9 + 1) (nI v)) a25 a26) H := hP
                              have hD : va_D A (mw cI r i0 (nI tr) i7 i8 i9 i13 i15 i17 i18 (nI Ms.length) (livL tr a4 Ms (nI 0)) (nI ((limL Ms k).length)) a1 a2 a4 a5 a6 a10 a11 a12 a14 a16 a20 a21 (upd h24 (a9 + 1) (nI v)) a25 a26) := hD
                              refine lv_iinc (v := (nI ((a9 + 1) - 1))) (lv' := [(3, .int (nI ((a9 + 1) - 1))), (0, .ref (r 0)), (1, .int (nI k))]) hx hb dX6_tellTree_220 hl (k := 2) rfl (by exact wk_dec (by omega)) (by decide) rfl (fun ls hl => ?_)
                              refine lv_goto (tgt := 186) hx hb dX6_tellTree_223 (by decide) ?_
                              exact ih186 a9 (upd h24 (a9 + 1) (nI v)) (by omega) (by omega) (insV_s hi hv9) (by rw [← hp, posI_y (bf := (fun j => befM (Ms.getD k zR) (Ms.getD j zR))) (C := limL Ms k) (a := a9) (by rw [getD_of hv9]; exact c203)]) _ _ _ hP hD hS (lv_sub hl [1, 2, 0] rfl)
                      exact lp186 _ ((limL Ms k).length) g24 (Nat.lt_succ_self _) (Nat.le_refl _) (insV_0 hC) rfl _ _ _ hP hD hS (lv_sub hl [1, 2, 0] rfl)
                  · skip
                    refine lv_aload_n hx hb dX6_tellTree_95 rfl (lv_at hl 0 rfl) ?_
                    refine va_get (D := D) (ci := 5) (v := .ref (r 20)) (C := RX6) (T := TX6) (N := 27) hx hb hts hin6 hown hK hP 0 rfl rfl 20 (by decide) fl45 (fun _ h9 => h9) rfl dX6_tellTree_96 ?_
                    refine lv_iconst (v := nI 5) hx hb dX6_tellTree_99 (by decide) ?_
                    refine lv_iload_n hx hb dX6_tellTree_100 rfl (lv_at hl 3 rfl) ?_
                    refine wk_imul hx hb dX6_tellTree_101 ?_
                    refine lv_aload_n hx hb dX6_tellTree_102 rfl (lv_at hl 0 rfl) ?_
                    refine va_get (D := D) (ci := 5) (v := .ref (r 20)) (C := RX6) (T := TX6) (N := 27) hx hb hts hin6 hown hK hP 0 rfl rfl 20 (by decide) fl45 (fun _ h9 => h9) rfl dX6_tellTree_103 ?_
                    refine lv_iconst (v := nI 5) hx hb dX6_tellTree_106 (by decide) ?_
                    refine lv_iload_n hx hb dX6_tellTree_107 rfl (lv_at hl 1 rfl) ?_
                    refine wk_imul hx hb dX6_tellTree_108 ?_
                    refine wk_Si (As := [.ref (r 20), .int (nI (5 * o)), .ref (r 20), .int (nI (5 * k))]) (rest := []) ⟨hx, hb, hml, hown, hts⟩ (c_X6_tops l D cI cJ cZ cA (r 20) (r 20) 5005 5005 (5 * o) (5 * k) a20 a20 (by omega) (by omega) (by omega) (by omega)) (va_cwS 4 hts gX6_tellTree_X6_tops rfl rfl rfl (by decide +kernel) ⟨Nat.le_of_ble_eq_true rfl, Nat.le_of_ble_eq_true rfl⟩) hK hP [11, 11] rfl hS rfl hl.1 rfl (Nat.le_of_ble_eq_true rfl) dX6_tellTree_109 ⟨Nat.zero_le _, Nat.zero_le _⟩ (fun H locs hP hS => ?_)
                    refine lv_istore (lv' := [(4, .int (bI (tpB a20 (5 * o) a20 (5 * k)))), (0, .ref (r 0)), (1, .int (nI k)), (2, .int (bI t)), (3, .int (nI o))]) hx hb dX6_tellTree_112 hl (by decide) rfl (fun ls hl => ?_)
                    refine lv_iload hx hb dX6_tellTree_114 (lv_at hl 0 rfl) ?_
                    refine wk_if_eqb (tgt := 143) hx hb dX6_tellTree_116 (by decide) (fun c116 => ?_) (fun c116 => ?_)
                    · skip
                      refine lv_iconst (v := nI 0) hx hb dX6_tellTree_143 (by decide) ?_
                      refine lv_istore (lv' := [(5, .int (nI 0)), (4, .int (bI (tpB a20 (5 * o) a20 (5 * k)))), (0, .ref (r 0)), (1, .int (nI k)), (2, .int (bI t)), (3, .int (nI o))]) hx hb dX6_tellTree_144 hl (by decide) rfl (fun ls hl => ?_)
                      refine lv_iload_n hx hb dX6_tellTree_146 rfl (lv_at hl 4 rfl) ?_
                      refine wk_if_eqb (tgt := 169) hx hb dX6_tellTree_147 (by decide) (fun c147 => ?_) (fun c147 => ?_)
                      · skip
                        refine lv_iconst (v := nI 0) hx hb dX6_tellTree_169 (by decide) ?_
                        refine lv_istore_n (lv' := [(2, .int (nI 0)), (5, .int (nI 0)), (4, .int (bI (tpB a20 (5 * o) a20 (5 * k)))), (0, .ref (r 0)), (1, .int (nI k)), (3, .int (nI o))]) hx hb dX6_tellTree_170 rfl hl (by decide) rfl (fun ls hl => ?_)
                        refine lv_iinc (v := (nI (o + 1))) (lv' := [(3, .int (nI (o + 1))), (2, .int (nI 0)), (5, .int (nI 0)), (4, .int (bI (tpB a20 (5 * o) a20 (5 * k)))), (0, .ref (r 0)), (1, .int (nI k))]) hx hb dX6_tellTree_171 hl (k := 5) rfl (by exact nI_1 _) (by decide) rfl (fun ls hl => ?_)
                        refine lv_goto (tgt := 87) hx hb dX6_tellTree_174 (by decide) ?_
                        exact ih87 (o + 1) false (by omega) (by omega) (al_f1 ht c147) _ _ _ hP hD hS (lv_sub hl [4, 5, 1, 0] rfl)
                      · skip
                        refine lv_iload hx hb dX6_tellTree_150 (lv_at hl 1 rfl) ?_
                        refine wk_if_eqb (tgt := 165) hx hb dX6_tellTree_152 (by decide) (fun c152 => ?_) (fun c152 => absurd (c152.symm.trans c116) (by decide))
                        refine lv_iconst (v := nI 1) hx hb dX6_tellTree_165 (by decide) ?_
                        refine lv_goto (tgt := 170) hx hb dX6_tellTree_166 (by decide) ?_
                        refine lv_istore_n (lv' := [(2, .int (nI 1)), (5, .int (nI 0)), (4, .int (bI (tpB a20 (5 * o) a20 (5 * k)))), (0, .ref (r 0)), (1, .int (nI k)), (3, .int (nI o))]) hx hb dX6_tellTree_170 rfl hl (by decide) rfl (fun ls hl => ?_)
                        refine lv_iinc (v := (nI (o + 1))) (lv' := [(3, .int (nI (o + 1))), (2, .int (nI 1)), (5, .int (nI 0)), (4, .int (bI (tpB a20 (5 * o) a20 (5 * k)))), (0, .ref (r 0)), (1, .int (nI k))]) hx hb dX6_tellTree_171 hl (k := 5) rfl (by exact nI_1 _) (by decide) rfl (fun ls hl => ?_)
                        refine lv_goto (tgt := 87) hx hb dX6_tellTree_174 (by decide) ?_
                        exact ih87 (o + 1) true (by omega) (by omega) (al_t ht c147 (fun h => by rw [c116] at h; cases h)) _ _ _ hP hD hS (lv_sub hl [4, 5, 1, 0] rfl)
                    · skip
                      refine lv_aload_n hx hb dX6_tellTree_119 rfl (lv_at hl 1 rfl) ?_
                      refine va_get (D := D) (ci := 5) (v := .ref (r 20)) (C := RX6) (T := TX6) (N := 27) hx hb hts hin6 hown hK hP 0 rfl rfl 20 (by decide) fl45 (fun _ h9 => h9) rfl dX6_tellTree_120 ?_
                      refine lv_iconst (v := nI 5) hx hb dX6_tellTree_123 (by decide) ?_
                      refine lv_iload_n hx hb dX6_tellTree_124 rfl (lv_at hl 2 rfl) ?_
                      refine wk_imul hx hb dX6_tellTree_125 ?_
                      refine lv_aload_n hx hb dX6_tellTree_126 rfl (lv_at hl 1 rfl) ?_
                      refine va_get (D := D) (ci := 5) (v := .ref (r 20)) (C := RX6) (T := TX6) (N := 27) hx hb hts hin6 hown hK hP 0 rfl rfl 20 (by decide) fl45 (fun _ h9 => h9) rfl dX6_tellTree_127 ?_
                      refine lv_iconst (v := nI 5) hx hb dX6_tellTree_130 (by decide) ?_
                      refine lv_iload_n hx hb dX6_tellTree_131 rfl (lv_at hl 4 rfl) ?_
                      refine wk_imul hx hb dX6_tellTree_132 ?_
                      refine wk_Si (As := [.ref (r 20), .int (nI (5 * k)), .ref (r 20), .int (nI (5 * o))]) (rest := []) ⟨hx, hb, hml, hown, hts⟩ (c_X6_tops l D cI cJ cZ cA (r 20) (r 20) 5005 5005 (5 * k) (5 * o) a20 a20 (by omega) (by omega) (by omega) (by omega)) (va_cwS 4 hts gX6_tellTree_X6_tops rfl rfl rfl (by decide +kernel) ⟨Nat.le_of_ble_eq_true rfl, Nat.le_of_ble_eq_true rfl⟩) hK hP [11, 11] rfl hS rfl hl.1 rfl (Nat.le_of_ble_eq_true rfl) dX6_tellTree_133 ⟨Nat.zero_le _, Nat.zero_le _⟩ (fun H locs hP hS => ?_)
                      refine wk_if_eqb (tgt := 143) hx hb dX6_tellTree_136 (by decide) (fun c136 => ?_) (fun c136 => ?_)
                      · skip
                        refine lv_iconst (v := nI 0) hx hb dX6_tellTree_143 (by decide) ?_
                        refine lv_istore (lv' := [(5, .int (nI 0)), (4, .int (bI (tpB a20 (5 * o) a20 (5 * k)))), (0, .ref (r 0)), (1, .int (nI k)), (2, .int (bI t)), (3, .int (nI o))]) hx hb dX6_tellTree_144 hl (by decide) rfl (fun ls hl => ?_)
                        refine lv_iload_n hx hb dX6_tellTree_146 rfl (lv_at hl 4 rfl) ?_
                        refine wk_if_eqb (tgt := 169) hx hb dX6_tellTree_147 (by decide) (fun c147 => ?_) (fun c147 => ?_)
                        · skip
                          refine lv_iconst (v := nI 0) hx hb dX6_tellTree_169 (by decide) ?_
                          refine lv_istore_n (lv' := [(2, .int (nI 0)), (5, .int (nI 0)), (4, .int (bI (tpB a20 (5 * o) a20 (5 * k)))), (0, .ref (r 0)), (1, .int (nI k)), (3, .int (nI o))]) hx hb dX6_tellTree_170 rfl hl (by decide) rfl (fun ls hl => ?_)
                          refine lv_iinc (v := (nI (o + 1))) (lv' := [(3, .int (nI (o + 1))), (2, .int (nI 0)), (5, .int (nI 0)), (4, .int (bI (tpB a20 (5 * o) a20 (5 * k)))), (0, .ref (r 0)), (1, .int (nI k))]) hx hb dX6_tellTree_171 hl (k := 5) rfl (by exact nI_1 _) (by decide) rfl (fun ls hl => ?_)
                          refine lv_goto (tgt := 87) hx hb dX6_tellTree_174 (by decide) ?_
                          exact ih87 (o + 1) false (by omega) (by omega) (al_f1 ht c147) _ _ _ hP hD hS (lv_sub hl [4, 5, 1, 0] rfl)
                        · skip
                          refine lv_iload hx hb dX6_tellTree_150 (lv_at hl 1 rfl) ?_
                          refine wk_if_eqb (tgt := 165) hx hb dX6_tellTree_152 (by decide) (fun c152 => absurd (c152.symm.trans c116) (by decide)) (fun c152 => ?_)
                          refine lv_iload hx hb dX6_tellTree_155 (lv_at hl 0 rfl) ?_
                          refine lv_if_eq (tgt := 169) hx hb dX6_tellTree_157 (by decide) (fun c157 => ?_) (fun c157 => absurd c157 (by decide))
                          refine lv_iconst (v := nI 0) hx hb dX6_tellTree_169 (by decide) ?_
                          refine lv_istore_n (lv' := [(2, .int (nI 0)), (5, .int (nI 0)), (4, .int (bI (tpB a20 (5 * o) a20 (5 * k)))), (0, .ref (r 0)), (1, .int (nI k)), (3, .int (nI o))]) hx hb dX6_tellTree_170 rfl hl (by decide) rfl (fun ls hl => ?_)
                          refine lv_iinc (v := (nI (o + 1))) (lv' := [(3, .int (nI (o + 1))), (2, .int (nI 0)), (5, .int (nI 0)), (4, .int (bI (tpB a20 (5 * o) a20 (5 * k)))), (0, .ref (r 0)), (1, .int (nI k))]) hx hb dX6_tellTree_171 hl (k := 5) rfl (by exact nI_1 _) (by decide) rfl (fun ls hl => ?_)
                          refine lv_goto (tgt := 87) hx hb dX6_tellTree_174 (by decide) ?_
                          exact ih87 (o + 1) false (by omega) (by omega) (al_f2 (fun h => by have h2 := (h c116).1; rw [c136] at h2; cases h2)) _ _ _ hP hD hS (lv_sub hl [4, 5, 1, 0] rfl)
                      · skip
                        refine lv_iconst (v := nI 1) hx hb dX6_tellTree_139 (by decide) ?_
                        refine lv_goto (tgt := 144) hx hb dX6_tellTree_140 (by decide) ?_
                        refine lv_istore (lv' := [(5, .int (nI 1)), (4, .int (bI (tpB a20 (5 * o) a20 (5 * k)))), (0, .ref (r 0)), (1, .int (nI k)), (2, .int (bI t)), (3, .int (nI o))]) hx hb dX6_tellTree_144 hl (by decide) rfl (fun ls hl => ?_)
                        refine lv_iload_n hx hb dX6_tellTree_146 rfl (lv_at hl 4 rfl) ?_
                        refine wk_if_eqb (tgt := 169) hx hb dX6_tellTree_147 (by decide) (fun c147 => ?_) (fun c147 => ?_)
                        · skip
                          refine lv_iconst (v := nI 0) hx hb dX6_tellTree_169 (by decide) ?_
                          refine lv_istore_n (lv' := [(2, .int (nI 0)), (5, .int (nI 1)), (4, .int (bI (tpB a20 (5 * o) a20 (5 * k)))), (0, .ref (r 0)), (1, .int (nI k)), (3, .int (nI o))]) hx hb dX6_tellTree_170 rfl hl (by decide) rfl (fun ls hl => ?_)
                          refine lv_iinc (v := (nI (o + 1))) (lv' := [(3, .int (nI (o + 1))), (2, .int (nI 0)), (5, .int (nI 1)), (4, .int (bI (tpB a20 (5 * o) a20 (5 * k)))), (0, .ref (r 0)), (1, .int (nI k))]) hx hb dX6_tellTree_171 hl (k := 5) rfl (by exact nI_1 _) (by decide) rfl (fun ls hl => ?_)
                          refine lv_goto (tgt := 87) hx hb dX6_tellTree_174 (by decide) ?_
                          exact ih87 (o + 1) false (by omega) (by omega) (al_f1 ht c147) _ _ _ hP hD hS (lv_sub hl [4, 5, 1, 0] rfl)
                        · skip
                          refine lv_iload hx hb dX6_tellTree_150 (lv_at hl 1 rfl) ?_
                          refine wk_if_eqb (tgt := 165) hx hb dX6_tellTree_152 (by decide) (fun c152 => absurd (c152.symm.trans c116) (by decide)) (fun c152 => ?_)
                          refine lv_iload hx hb dX6_tellTree_155 (lv_at hl 0 rfl) ?_
                          refine lv_if_eq (tgt := 169) hx hb dX6_tellTree_157 (by decide) (fun c157 => absurd c157 (by decide)) (fun c157 => ?_)
                          refine lv_iload_n hx hb dX6_tellTree_160 rfl (lv_at hl 5 rfl) ?_
                          refine lv_iload_n hx hb dX6_tellTree_161 rfl (lv_at hl 3 rfl) ?_
                          refine wk_icmp_lt (tgt := 169) hx hb (by omega) (by omega) dX6_tellTree_162 (by decide) (fun c162 => ?_) (fun c162 => ?_)
                          · skip
                            refine lv_iconst (v := nI 0) hx hb dX6_tellTree_169 (by decide) ?_
                            refine lv_istore_n (lv' := [(2, .int (nI 0)), (5, .int (nI 1)), (4, .int (bI (tpB a20 (5 * o) a20 (5 * k)))), (0, .ref (r 0)), (1, .int (nI k)), (3, .int (nI o))]) hx hb dX6_tellTree_170 rfl hl (by decide) rfl (fun ls hl => ?_)
                            refine lv_iinc (v := (nI (o + 1))) (lv' := [(3, .int (nI (o + 1))), (2, .int (nI 0)), (5, .int (nI 1)), (4, .int (bI (tpB a20 (5 * o) a20 (5 * k)))), (0, .ref (r 0)), (1, .int (nI k))]) hx hb dX6_tellTree_171 hl (k := 5) rfl (by exact nI_1 _) (by decide) rfl (fun ls hl => ?_)
                            refine lv_goto (tgt := 87) hx hb dX6_tellTree_174 (by decide) ?_
                            exact ih87 (o + 1) false (by omega) (by omega) (al_f2 (fun h => by have h2 := (h c116).2; omega)) _ _ _ hP hD hS (lv_sub hl [4, 5, 1, 0] rfl)
                          · skip
                            refine lv_iconst (v := nI 1) hx hb dX6_tellTree_165 (by decide) ?_
                            refine lv_goto (tgt := 170) hx hb dX6_tellTree_166 (by decide) ?_
                            refine lv_istore_n (lv' := [(2, .int (nI 1)), (5, .int (nI 1)), (4, .int (bI (tpB a20 (5 * o) a20 (5 * k)))), (0, .ref (r 0)), (1, .int (nI k)), (3, .int (nI o))]) hx hb dX6_tellTree_170 rfl hl (by decide) rfl (fun ls hl => ?_)
                            refine lv_iinc (v := (nI (o + 1))) (lv' := [(3, .int (nI (o + 1))), (2, .int (nI 1)), (5, .int (nI 1)), (4, .int (bI (tpB a20 (5 * o) a20 (5 * k)))), (0, .ref (r 0)), (1, .int (nI k))]) hx hb dX6_tellTree_171 hl (k := 5) rfl (by exact nI_1 _) (by decide) rfl (fun ls hl => ?_)
                            refine lv_goto (tgt := 87) hx hb dX6_tellTree_174 (by decide) ?_
                            exact ih87 (o + 1) true (by omega) (by omega) (al_t ht c147 (fun _ => ⟨c136, c162⟩)) _ _ _ hP hD hS (lv_sub hl [4, 5, 1, 0] rfl)
              exact lp87 _ 0 true (Nat.lt_succ_self _) (by omega) al_0 _ _ _ hP hD hS (lv_sub hl [2, 3, 1, 0] rfl)
        have hkM : k = Ms.length := by omega
        rw [hkM, List.take_length] at hv
        subst hv
        have hP : va_P D vwCl (mw cI r i0 (nI tr) i7 i8 i9 i13 i15 i17 i18 (nI Ms.length) (livL tr a4 Ms (nI 0)) (nI ((limL Ms 0).length)) a1 a2 a4 a5 a6 a10 a11 a12 a14 a16 a20 a21 a24 a25 a26) H := by skip; exact hP
        have hD : va_D A (mw cI r i0 (nI tr) i7 i8 i9 i13 i15 i17 i18 (nI Ms.length) (livL tr a4 Ms (nI 0)) (nI ((limL Ms 0).length)) a1 a2 a4 a5 a6 a10 a11 a12 a14 a16 a20 a21 a24 a25 a26) := by skip; exact hD
        exact lp75 _ 0 a24 (Nat.lt_succ_self _) (by omega) (fun j v h => by cases h) _ _ _ hP hD hS (lv_sub hl [1, 0] rfl)
      · skip
        obtain ⟨x, hx9, hr9⟩ := rowsV_at0 hX (show k < Ms.length by omega)
        refine lv_iconst (v := nI 0) hx hb dX6_tellTree_15 (by decide) ?_
        refine lv_istore_n (lv' := [(2, .int (nI 0)), (0, .ref (r 0)), (1, .int (nI k))]) hx hb dX6_tellTree_16 rfl hl (by decide) rfl (fun ls hl => ?_)
        have lp17 : ∀ (n9 : Nat) (t : Nat) (z22 : Int32), tr - t < n9 → t ≤ tr → z22 = livI a4 x t v22 → ∀ (H : Heap) (locs : List Loc) (ls : Array Slot), va_P D vwCl (mw cI r i0 (nI tr) i7 i8 i9 i13 i15 i17 i18 (nI Ms.length) z22 i23 a1 a2 a4 a5 a6 a10 a11 a12 a14 a16 a20 a21 a24 a25 a26) H → va_D A (mw cI r i0 (nI tr) i7 i8 i9 i13 i15 i17 i18 (nI Ms.length) z22 i23 a1 a2 a4 a5 a6 a10 a11 a12 a14 a16 a20 a21 a24 a25 a26) → va_S A s.heap H locs → lv_has ls 6 [(0, .ref (r 0)), (1, .int (nI k)), (2, .int (nI t))] → W p l e ({ frames := 2, cells := 0, slots := 0, locals := 48 } : Room) s m args below meth c H locs 0 0 Q (F0 m 17 ls []) := by
          intro n9
          induction n9 with
          | zero => intro t z22 hm17; exact absurd hm17 (Nat.not_lt_zero _)
          | succ n9 ih17 =>
            intro t z22 hm17 ht hz H locs ls hP hD hS hl
            refine lv_iload_n hx hb dX6_tellTree_17 rfl (lv_at hl 2 rfl) ?_
            refine lv_aload_n hx hb dX6_tellTree_18 rfl (lv_at hl 0 rfl) ?_
            refine va_get (D := D) (ci := 5) (v := .int (nI tr)) (C := RX6) (T := TX6) (N := 27) hx hb hts hin6 hown hK hP 0 rfl rfl 3 (by decide) fl63 (fun _ h9 => h9) rfl dX6_tellTree_19 ?_
            refine wk_icmp_ge (tgt := 62) hx hb (by omega) (by omega) dX6_tellTree_22 (by decide) (fun c22 => ?_) (fun c22 => ?_)
            · skip
              refine lv_iinc (v := (nI (k + 1))) (lv' := [(1, .int (nI (k + 1))), (0, .ref (r 0)), (2, .int (nI t))]) hx hb dX6_tellTree_62 hl (k := 1) rfl (by exact nI_1 _) (by decide) rfl (fun ls hl => ?_)
              refine lv_goto (tgt := 7) hx hb dX6_tellTree_65 (by decide) ?_
              have htt : t = tr := by omega
              rw [htt] at hz
              exact ih7 (k + 1) z22 (by omega) (by omega) (by rw [livL_s hx9, ← hv]; exact hz) _ _ _ hP hD hS (lv_sub hl [1, 0] rfl)
            · skip
              refine lv_aload_n hx hb dX6_tellTree_25 rfl (lv_at hl 0 rfl) ?_
              refine lv_dup hx hb dX6_tellTree_26 rfl ?_
              refine va_get (D := D) (ci := 5) (v := .int z22) (C := RX6) (T := TX6) (N := 27) hx hb hts hin6 hown hK hP 0 rfl rfl 22 (by decide) fl144 (fun _ h9 => h9) rfl dX6_tellTree_27 ?_
              refine lv_aload_n hx hb dX6_tellTree_30 rfl (lv_at hl 0 rfl) ?_
              refine lv_aload_n hx hb dX6_tellTree_31 rfl (lv_at hl 0 rfl) ?_
              refine va_get (D := D) (ci := 5) (v := .ref (r 20)) (C := RX6) (T := TX6) (N := 27) hx hb hts hin6 hown hK hP 0 rfl rfl 20 (by decide) fl45 (fun _ h9 => h9) rfl dX6_tellTree_32 ?_
              refine lv_iconst (v := nI 5) hx hb dX6_tellTree_35 (by decide) ?_
              refine lv_iload_n hx hb dX6_tellTree_36 rfl (lv_at hl 1 rfl) ?_
              refine wk_imul hx hb dX6_tellTree_37 ?_
              refine lv_iload_n hx hb dX6_tellTree_38 rfl (lv_at hl 2 rfl) ?_
              refine wk_Vi (As := [.ref (r 20), .int (nI (5 * k)), .int (nI t)]) (rest := [.int z22, .ref (r 0)]) ⟨hx, hb, hml, hown, hts⟩ (c_X6_canFire l D cI cJ cZ cA r i0 i7 i8 i9 i13 i15 i17 i18 (nI Ms.length) z22 i23 a1 a2 a4 a5 a6 a10 a11 a12 a14 a16 a20 a21 a24 a25 a26 tr (r 20) 5005 (5 * k) a20 (nI t) (by omega) (by omega) (by omega)) (cwV 3 hts gX6_tellTree_X6_canFire rfl rfl rfl (by decide +kernel) ⟨Nat.le_of_ble_eq_true rfl, Nat.le_of_ble_eq_true rfl⟩) hK hP [0, 1, 2, 3, 4, 5, 6, 7, 8, 9, 10, 11, 12, 13, 14, 15, 11] rfl 0 5 rfl rfl hS rfl hl.1 rfl (Nat.le_of_ble_eq_true rfl) dX6_tellTree_39 ⟨Nat.zero_le _, Nat.zero_le _⟩ (fun H locs hP hS => ?_)
              refine wk_if_eqb (tgt := 51) hx hb dX6_tellTree_42 (by decide) (fun c42 => ?_) (fun c42 => ?_)
              · skip
                refine lv_iconst (v := nI 0) hx hb dX6_tellTree_51 (by decide) ?_
                refine lv_ior hx hb dX6_tellTree_52 ?_
                refine va_put (D := D) (ci := 5) (v := .int (z22 ||| (nI 0))) (ty := .int) (C := RX6) (T := TX6) (N := 27) hx hb hts hin6 tyX6 tyX6_ok nmX6 hown hK hP hD hS 0 rfl rfl 22 (by decide) fl144 (fun _ h9 => h9) rfl (by decide +kernel) rfl rfl (Nat.le_of_ble_eq_true rfl) dX6_tellTree_53 (fun H locs hP hD hS => ?_)
                have hP : va_P D vwCl (mw cI r i0 (nI tr) i7 i8 i9 i13 i15 i17 i18 (nI Ms.length) (z22 ||| (nI 0)) i23 a1 a2 a4 a5 a6 a10 a11 a12 a14 a16 a20 a21 a24 a25 a26) H := hP
                have hD : va_D A (mw cI r i0 (nI tr) i7 i8 i9 i13 i15 i17 i18 (nI Ms.length) (z22 ||| (nI 0)) i23 a1 a2 a4 a5 a6 a10 a11 a12 a14 a16 a20 a21 a24 a25 a26) := hD
                refine lv_iinc (v := (nI (t + 1))) (lv' := [(2, .int (nI (t + 1))), (0, .ref (r 0)), (1, .int (nI k))]) hx hb dX6_tellTree_56 hl (k := 2) rfl (by exact nI_1 _) (by decide) rfl (fun ls hl => ?_)
                refine lv_goto (tgt := 17) hx hb dX6_tellTree_59 (by decide) ?_
                exact ih17 (t + 1) (z22 ||| (nI 0)) (by omega) (by omega) (by rw [hz]; show _ = livI a4 x t v22 ||| (if canR a4 x t = true then _ else _); rw [if_neg (by rw [← canM_row htr (by omega) hr9, c42]; exact Bool.false_ne_true)]) _ _ _ hP hD hS (lv_sub hl [1, 2, 0] rfl)
              · skip
                refine lv_iconst (v := nI 1) hx hb dX6_tellTree_45 (by decide) ?_
                refine lv_iload_n hx hb dX6_tellTree_46 rfl (lv_at hl 2 rfl) ?_
                refine lv_ishl hx hb dX6_tellTree_47 ?_
                refine lv_goto (tgt := 52) hx hb dX6_tellTree_48 (by decide) ?_
                refine lv_ior hx hb dX6_tellTree_52 ?_
                refine va_put (D := D) (ci := 5) (v := .int (z22 ||| ((nI 1) <<< ((nI t) &&& 31)))) (ty := .int) (C := RX6) (T := TX6) (N := 27) hx hb hts hin6 tyX6 tyX6_ok nmX6 hown hK hP hD hS 0 rfl rfl 22 (by decide) fl144 (fun _ h9 => h9) rfl (by decide +kernel) rfl rfl (Nat.le_of_ble_eq_true rfl) dX6_tellTree_53 (fun H locs hP hD hS => ?_)
                have hP : va_P D vwCl (mw cI r i0 (nI tr) i7 i8 i9 i13 i15 i17 i18 (nI Ms.length) (z22 ||| ((nI 1) <<< ((nI t) &&& 31))) i23 a1 a2 a4 a5 a6 a10 a11 a12 a14 a16 a20 a21 a24 a25 a26) H := hP
                have hD : va_D A (mw cI r i0 (nI tr) i7 i8 i9 i13 i15 i17 i18 (nI Ms.length) (z22 ||| ((nI 1) <<< ((nI t) &&& 31))) i23 a1 a2 a4 a5 a6 a10 a11 a12 a14 a16 a20 a21 a24 a25 a26) := hD
                refine lv_iinc (v := (nI (t + 1))) (lv' := [(2, .int (nI (t + 1))), (0, .ref (r 0)), (1, .int (nI k))]) hx hb dX6_tellTree_56 hl (k := 2) rfl (by exact nI_1 _) (by decide) rfl (fun ls hl => ?_)
                refine lv_goto (tgt := 17) hx hb dX6_tellTree_59 (by decide) ?_
                exact ih17 (t + 1) (z22 ||| ((nI 1) <<< ((nI t) &&& 31))) (by omega) (by omega) (by rw [hz]; show _ = livI a4 x t v22 ||| (if canR a4 x t = true then _ else _); rw [if_pos ((canM_row htr (by omega) hr9).symm.trans c42)]) _ _ _ hP hD hS (lv_sub hl [1, 2, 0] rfl)
        exact lp17 _ 0 v22 (Nat.lt_succ_self _) (by omega) rfl _ _ _ hP hD hS (lv_sub hl [1, 2, 0] rfl)
  exact lp7 _ 0 (nI 0) (Nat.lt_succ_self _) (by omega) rfl _ _ _ hP hD hS (lv_sub hl [1, 0] rfl)
