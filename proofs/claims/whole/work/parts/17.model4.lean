set_option maxHeartbeats 4000000 in
set_option maxRecDepth 100000 in
theorem c_X6_step (l : Launch) (D : va_G) (cI cJ cZ cA : ClassId) (r : Nat → Nat) (i0 i7 i8 i9 i17 i18 i19 i22 i23 : Int32) (a1 a2 a4 a5 a6 a10 a11 a12 a14 a16 a20 a21 a24 a25 a26 : Nat → Int32) (sz tr : Nat) (B X0 : List Rw) (htr : tr ≤ 6) (hB : rowsV a14 0 B) (hBl : B.length ≤ 200) (hX0 : rowsV a12 0 X0) (hX0l : X0.length ≤ 200) : Met l yX6_step wsX6_step ({ frames := 2, cells := 0, slots := 0, locals := 48 } : Room) (wr_P D (tysC cI cJ cZ cA) [.ref (r 0)] (mw cI r i0 (nI tr) i7 i8 i9 (nI X0.length) (nI B.length) i17 i18 i19 i22 i23 a1 a2 a4 a5 a6 a10 a11 a12 a14 a16 a20 a21 a24 a25 a26) sz) (wr_Qv D (S := (Nat → Int32) × (Nat → Int32)) (mw cI r i0 (nI tr) i7 i8 i9 (nI X0.length) (nI B.length) i17 i18 i19 i22 i23 a1 a2 a4 a5 a6 a10 a11 a12 a14 a16 a20 a21 a24 a25 a26) sz (fun u => rowsV u.1 0 (stepK tr a4 a5 B X0)) (fun u => (mw cI r i0 (nI tr) i7 i8 i9 (nI ((stepK tr a4 a5 B X0).length)) (nI B.length) i17 i18 i19 i22 i23 a1 a2 a4 a5 a6 a10 a11 u.1 a14 a16 a20 a21 a24 u.2 a26))) 0 0 (va_A (mw cI r i0 (nI tr) i7 i8 i9 (nI X0.length) (nI B.length) i17 i18 i19 i22 i23 a1 a2 a4 a5 a6 a10 a11 a12 a14 a16 a20 a21 a24 a25 a26) sz) := by
  refine met_wv (cc := cX6_step) (maxL := 5) (by decide) rfl (Nat.le_of_ble_eq_true rfl) ?_
  intro p e s m args below meth c Q A hx hb hml hown hts hP hK hD hA hret ls hl
  obtain ⟨H, hH9⟩ : ∃ H : Heap, H = s.heap := ⟨_, rfl⟩
  have hP : va_P D vwCl (mw cI r i0 (nI tr) i7 i8 i9 (nI X0.length) (nI B.length) i17 i18 i19 i22 i23 a1 a2 a4 a5 a6 a10 a11 a12 a14 a16 a20 a21 a24 a25 a26) H := by rw [hH9]; exact hP
  have hS : va_S A s.heap H [] := by rw [hH9]; exact va_S.rf
  rw [← hH9]
  have hown : s.vm.findClass RX6 = some m.cls := hown
  have hin6 : ∀ w ∈ wsX60, w ∈ wsX6_step := by decide +kernel
  have fl87 := hts (.fieldLink RX6 87 "CoverRoundsModel" "beforeCount" "I") (by decide +kernel)
  have fl63 := hts (.fieldLink RX6 63 "CoverRoundsModel" "transitions" "I") (by decide +kernel)
  have fl39 := hts (.fieldLink RX6 39 "CoverRoundsModel" "before" "[I") (by decide +kernel)
  have fl19 := hts (.fieldLink RX6 19 "CoverRoundsModel" "gives" "[I") (by decide +kernel)
  have fl54 := hts (.fieldLink RX6 54 "CoverRoundsModel" "work" "[I") (by decide +kernel)
  have fl16 := hts (.fieldLink RX6 16 "CoverRoundsModel" "takes" "[I") (by decide +kernel)
  have hl : lv_has ls 5 [(0, .ref (r 0))] := hl
  refine lv_iconst (v := nI 0) hx hb dX6_step_0 (by decide) ?_
  refine lv_istore_n (lv' := [(1, .int (nI 0)), (0, .ref (r 0))]) hx hb dX6_step_1 rfl hl (by decide) rfl (fun ls hl => ?_)
  have lp2 : ∀ (n9 : Nat) (k : Nat) (X : List Rw) (f12 : Nat → Int32) (f25 : Nat → Int32), B.length - k < n9 → k ≤ B.length → rowsV f12 0 X → X = stepK tr a4 a5 (B.take k) X0 → X.length ≤ 200 + 6 * k → ∀ (H : Heap) (locs : List Loc) (ls : Array Slot), va_P D vwCl (mw cI r i0 (nI tr) i7 i8 i9 (nI X.length) (nI B.length) i17 i18 i19 i22 i23 a1 a2 a4 a5 a6 a10 a11 f12 a14 a16 a20 a21 a24 f25 a26) H → va_D A (mw cI r i0 (nI tr) i7 i8 i9 (nI X.length) (nI B.length) i17 i18 i19 i22 i23 a1 a2 a4 a5 a6 a10 a11 f12 a14 a16 a20 a21 a24 f25 a26) → va_S A s.heap H locs → lv_has ls 5 [(0, .ref (r 0)), (1, .int (nI k))] → W p l e ({ frames := 2, cells := 0, slots := 0, locals := 48 } : Room) s m args below meth c H locs 0 0 Q (F0 m 2 ls []) := by
    intro n9
    induction n9 with
    | zero => intro k X f12 f25 hm2; exact absurd hm2 (Nat.not_lt_zero _)
    | succ n9 ih2 =>
      intro k X f12 f25 hm2 hk hX hXe hXl H locs ls hP hD hS hl
      refine lv_iload_n hx hb dX6_step_2 rfl (lv_at hl 1 rfl) ?_
      refine lv_aload_n hx hb dX6_step_3 rfl (lv_at hl 0 rfl) ?_
      refine va_get (D := D) (ci := 5) (v := .int (nI B.length)) (C := RX6) (T := TX6) (N := 27) hx hb hts hin6 hown hK hP 0 rfl rfl 15 (by decide) fl87 (fun _ h9 => h9) rfl dX6_step_4 ?_
      refine wk_icmp_ge (tgt := 100) hx hb (by omega) (by omega) dX6_step_7 (by decide) (fun c7 => ?_) (fun c7 => ?_)
      · skip
        have hkB : k = B.length := by omega
        subst hkB
        rw [List.take_length] at hXe
        subst hXe
        exact hret (f12, f25) _ _ _ _ _ _ hX hP hD dX6_step_100 hS (Nat.zero_le _) (Nat.zero_le _)
      · skip
        obtain ⟨x, hx9, hr9⟩ := rowsV_at0 hB (show k < B.length by omega)
        refine lv_iconst (v := nI 0) hx hb dX6_step_10 (by decide) ?_
        refine lv_istore_n (lv' := [(2, .int (nI 0)), (0, .ref (r 0)), (1, .int (nI k))]) hx hb dX6_step_11 rfl hl (by decide) rfl (fun ls hl => ?_)
        have lp12 : ∀ (n9 : Nat) (t : Nat) (Y : List Rw) (g12 : Nat → Int32) (g25 : Nat → Int32), tr - t < n9 → t ≤ tr → rowsV g12 0 Y → Y = inK a4 a5 x t X → Y.length ≤ 200 + 6 * k + t → ∀ (H : Heap) (locs : List Loc) (ls : Array Slot), va_P D vwCl (mw cI r i0 (nI tr) i7 i8 i9 (nI Y.length) (nI B.length) i17 i18 i19 i22 i23 a1 a2 a4 a5 a6 a10 a11 g12 a14 a16 a20 a21 a24 g25 a26) H → va_D A (mw cI r i0 (nI tr) i7 i8 i9 (nI Y.length) (nI B.length) i17 i18 i19 i22 i23 a1 a2 a4 a5 a6 a10 a11 g12 a14 a16 a20 a21 a24 g25 a26) → va_S A s.heap H locs → lv_has ls 5 [(0, .ref (r 0)), (1, .int (nI k)), (2, .int (nI t))] → W p l e ({ frames := 2, cells := 0, slots := 0, locals := 48 } : Room) s m args below meth c H locs 0 0 Q (F0 m 12 ls []) := by
          intro n9
          induction n9 with
          | zero => intro t Y g12 g25 hm12; exact absurd hm12 (Nat.not_lt_zero _)
          | succ n9 ih12 =>
            intro t Y g12 g25 hm12 ht hY hYe hYl H locs ls hP hD hS hl
            refine lv_iload_n hx hb dX6_step_12 rfl (lv_at hl 2 rfl) ?_
            refine lv_aload_n hx hb dX6_step_13 rfl (lv_at hl 0 rfl) ?_
            refine va_get (D := D) (ci := 5) (v := .int (nI tr)) (C := RX6) (T := TX6) (N := 27) hx hb hts hin6 hown hK hP 0 rfl rfl 3 (by decide) fl63 (fun _ h9 => h9) rfl dX6_step_14 ?_
            refine wk_icmp_ge (tgt := 94) hx hb (by omega) (by omega) dX6_step_17 (by decide) (fun c17 => ?_) (fun c17 => ?_)
            · skip
              refine lv_iinc (v := (nI (k + 1))) (lv' := [(1, .int (nI (k + 1))), (0, .ref (r 0)), (2, .int (nI t))]) hx hb dX6_step_94 hl (k := 1) rfl (by exact nI_1 _) (by decide) rfl (fun ls hl => ?_)
              refine lv_goto (tgt := 2) hx hb dX6_step_97 (by decide) ?_
              have htt : t = tr := by omega
              subst htt
              exact ih2 (k + 1) Y g12 g25 (by omega) (by omega) hY (by rw [stepK_s hx9, ← hXe]; exact hYe) (by omega) _ _ _ hP hD hS (lv_sub hl [1, 0] rfl)
            · skip
              refine lv_iconst (v := nI 0) hx hb dX6_step_20 (by decide) ?_
              refine lv_istore_n (lv' := [(3, .int (nI 0)), (0, .ref (r 0)), (1, .int (nI k)), (2, .int (nI t))]) hx hb dX6_step_21 rfl hl (by decide) rfl (fun ls hl => ?_)
              have lp22 : ∀ (n9 : Nat) (q : Nat), 5 - q < n9 → q ≤ 5 → ∀ (H : Heap) (locs : List Loc) (ls : Array Slot), va_P D vwCl (mw cI r i0 (nI tr) i7 i8 i9 (nI Y.length) (nI B.length) i17 i18 i19 i22 i23 a1 a2 a4 a5 a6 a10 a11 g12 a14 a16 a20 a21 a24 (cpN (preA a4 a5 a14 k t) g25 q) a26) H → va_D A (mw cI r i0 (nI tr) i7 i8 i9 (nI Y.length) (nI B.length) i17 i18 i19 i22 i23 a1 a2 a4 a5 a6 a10 a11 g12 a14 a16 a20 a21 a24 (cpN (preA a4 a5 a14 k t) g25 q) a26) → va_S A s.heap H locs → lv_has ls 5 [(0, .ref (r 0)), (1, .int (nI k)), (2, .int (nI t)), (3, .int (nI q))] → W p l e ({ frames := 2, cells := 0, slots := 0, locals := 48 } : Room) s m args below meth c H locs 0 0 Q (F0 m 22 ls []) := by
                intro n9
                induction n9 with
                | zero => intro q hm22; exact absurd hm22 (Nat.not_lt_zero _)
                | succ n9 ih22 =>
                  intro q hm22 hq H locs ls hP hD hS hl
                  refine lv_iload_n hx hb dX6_step_22 rfl (lv_at hl 3 rfl) ?_
                  refine lv_iconst (v := nI 5) hx hb dX6_step_23 (by decide) ?_
                  refine wk_icmp_ge (tgt := 84) hx hb (by omega) (by omega) dX6_step_24 (by decide) (fun c24 => ?_) (fun c24 => ?_)
                  · skip
                    have hq9 : q = 5 := by omega
                    subst hq9
                    have hw9 : ∀ q, q < 5 → (cpN (preA a4 a5 a14 k t) g25 5) q = preM a4 a5 x t q := fun q hq => by rw [cpN_lt hq]; exact preA_row (hr9 q hq)
                    refine lv_aload_n hx hb dX6_step_84 rfl (lv_at hl 0 rfl) ?_
                    refine wk_VvW (As := []) (rest := []) (wr := []) ⟨hx, hb, hml, hown, hts⟩ (c_X6_takeIn l D cI cJ cZ cA r i0 (nI tr) i7 i8 i9 (nI B.length) i17 i18 i19 i22 i23 a1 a2 a4 a5 a6 a10 a11 g12 a14 a16 a20 a21 a24 (cpN (preA a4 a5 a14 k t) g25 5) a26 H.size Y (preM a4 a5 x t) hY (by omega) hw9) (cwV 0 hts gX6_step_X6_takeIn rfl rfl rfl (by decide +kernel) ⟨Nat.le_of_ble_eq_true rfl, Nat.le_of_ble_eq_true rfl⟩) hK hP hD hA [0, 1, 2, 3, 4, 5, 6, 7, 8, 9, 10, 11, 12, 13, 14, 15] rfl (by decide) [] rfl (by decide) (by decide) 0 5 rfl rfl hS rfl hl.1 rfl (Nat.le_of_ble_eq_true rfl) dX6_step_85 ⟨Nat.le_of_ble_eq_true rfl, Nat.le_of_ble_eq_true rfl⟩ (fun u9 H locs hu hP hD hS => ?_)
                    have hP : va_P D vwCl (mw cI r i0 (nI tr) i7 i8 i9 (nI ((tkIn Y (preM a4 a5 x t)).length)) (nI B.length) i17 i18 i19 i22 i23 a1 a2 a4 a5 a6 a10 a11 u9 a14 a16 a20 a21 a24 (cpN (preA a4 a5 a14 k t) g25 5) a26) H := hP
                    have hD : va_D A (mw cI r i0 (nI tr) i7 i8 i9 (nI ((tkIn Y (preM a4 a5 x t)).length)) (nI B.length) i17 i18 i19 i22 i23 a1 a2 a4 a5 a6 a10 a11 u9 a14 a16 a20 a21 a24 (cpN (preA a4 a5 a14 k t) g25 5) a26) := hD
                    refine lv_iinc (v := (nI (t + 1))) (lv' := [(2, .int (nI (t + 1))), (0, .ref (r 0)), (1, .int (nI k)), (3, .int (nI 5))]) hx hb dX6_step_88 hl (k := 2) rfl (by exact nI_1 _) (by decide) rfl (fun ls hl => ?_)
                    refine lv_goto (tgt := 12) hx hb dX6_step_91 (by decide) ?_
                    exact ih12 (t + 1) (tkIn Y (preM a4 a5 x t)) u9 (cpN (preA a4 a5 a14 k t) g25 5) (by omega) (by omega) hu (by rw [inK_s, ← hYe]) (by have := tkIn_len Y (preM a4 a5 x t); omega) _ _ _ hP hD hS (lv_sub hl [1, 2, 0] rfl)
                  · skip
                    refine lv_aload_n hx hb dX6_step_27 rfl (lv_at hl 0 rfl) ?_
                    refine va_get (D := D) (ci := 5) (v := .ref (r 14)) (C := RX6) (T := TX6) (N := 27) hx hb hts hin6 hown hK hP 0 rfl rfl 14 (by decide) fl39 (fun _ h9 => h9) rfl dX6_step_28 ?_
                    refine lv_iconst (v := nI 5) hx hb dX6_step_31 (by decide) ?_
                    refine lv_iload_n hx hb dX6_step_32 rfl (lv_at hl 1 rfl) ?_
                    refine wk_imul hx hb dX6_step_33 ?_
                    refine lv_iload_n hx hb dX6_step_34 rfl (lv_at hl 3 rfl) ?_
                    refine wk_iadd hx hb dX6_step_35 ?_
                    refine wk_iald hx hb hK hP 9 0 rfl rfl (i := (5 * k) + q) (by omega) (by omega) dX6_step_36 ?_
                    refine lv_aload_n hx hb dX6_step_37 rfl (lv_at hl 0 rfl) ?_
                    refine va_get (D := D) (ci := 5) (v := .ref (r 5)) (C := RX6) (T := TX6) (N := 27) hx hb hts hin6 hown hK hP 0 rfl rfl 5 (by decide) fl19 (fun _ h9 => h9) rfl dX6_step_38 ?_
                    refine lv_iconst (v := nI 5) hx hb dX6_step_41 (by decide) ?_
                    refine lv_iload_n hx hb dX6_step_42 rfl (lv_at hl 2 rfl) ?_
                    refine wk_imul hx hb dX6_step_43 ?_
                    refine lv_iload_n hx hb dX6_step_44 rfl (lv_at hl 3 rfl) ?_
                    refine wk_iadd hx hb dX6_step_45 ?_
                    refine wk_iald hx hb hK hP 4 0 rfl rfl (i := (5 * t) + q) (by omega) (by omega) dX6_step_46 ?_
                    refine lv_isub hx hb dX6_step_47 ?_
                    refine lv_istore (lv' := [(4, .int ((a14 ((5 * k) + q)) - (a5 ((5 * t) + q)))), (0, .ref (r 0)), (1, .int (nI k)), (2, .int (nI t)), (3, .int (nI q))]) hx hb dX6_step_48 hl (by decide) rfl (fun ls hl => ?_)
                    refine lv_aload_n hx hb dX6_step_50 rfl (lv_at hl 1 rfl) ?_
                    refine va_get (D := D) (ci := 5) (v := .ref (r 25)) (C := RX6) (T := TX6) (N := 27) hx hb hts hin6 hown hK hP 0 rfl rfl 25 (by decide) fl54 (fun _ h9 => h9) rfl dX6_step_51 ?_
                    refine lv_iload_n hx hb dX6_step_54 rfl (lv_at hl 4 rfl) ?_
                    refine lv_aload_n hx hb dX6_step_55 rfl (lv_at hl 1 rfl) ?_
                    refine va_get (D := D) (ci := 5) (v := .ref (r 4)) (C := RX6) (T := TX6) (N := 27) hx hb hts hin6 hown hK hP 0 rfl rfl 4 (by decide) fl16 (fun _ h9 => h9) rfl dX6_step_56 ?_
                    refine lv_iconst (v := nI 5) hx hb dX6_step_59 (by decide) ?_
                    refine lv_iload_n hx hb dX6_step_60 rfl (lv_at hl 3 rfl) ?_
                    refine wk_imul hx hb dX6_step_61 ?_
                    refine lv_iload_n hx hb dX6_step_62 rfl (lv_at hl 4 rfl) ?_
                    refine wk_iadd hx hb dX6_step_63 ?_
                    refine wk_iald hx hb hK hP 3 0 rfl rfl (i := (5 * t) + q) (by omega) (by omega) dX6_step_64 ?_
                    refine lv_iload hx hb dX6_step_65 (lv_at hl 0 rfl) ?_
                    refine lv_if_le (tgt := 75) hx hb dX6_step_67 (by decide) (fun c67 => ?_) (fun c67 => ?_)
                    · skip
                      refine lv_iconst (v := nI 0) hx hb dX6_step_75 (by decide) ?_
                      refine lv_iadd hx hb dX6_step_76 ?_
                      refine wk_iast hx hb hK hP hD hS 14 0 rfl rfl (i := q) (by omega) (by omega) dX6_step_77 (fun H locs hP hD hS => ?_)
                      have hP : va_P D vwCl (mw cI r i0 (nI tr) i7 i8 i9 (nI Y.length) (nI B.length) i17 i18 i19 i22 i23 a1 a2 a4 a5 a6 a10 a11 g12 a14 a16 a20 a21 a24 (upd (cpN (preA a4 a5 a14 k t) g25 q) q ((a4 ((5 * t) + q)) + (nI 0))) a26) H := hP
                      have hD : va_D A (mw cI r i0 (nI tr) i7 i8 i9 (nI Y.length) (nI B.length) i17 i18 i19 i22 i23 a1 a2 a4 a5 a6 a10 a11 g12 a14 a16 a20 a21 a24 (upd (cpN (preA a4 a5 a14 k t) g25 q) q ((a4 ((5 * t) + q)) + (nI 0))) a26) := hD
                      refine lv_iinc (v := (nI (q + 1))) (lv' := [(3, .int (nI (q + 1))), (4, .int ((a14 ((5 * k) + q)) - (a5 ((5 * t) + q)))), (0, .ref (r 0)), (1, .int (nI k)), (2, .int (nI t))]) hx hb dX6_step_78 hl (k := 4) rfl (by exact nI_1 _) (by decide) rfl (fun ls hl => ?_)
                      refine lv_goto (tgt := 22) hx hb dX6_step_81 (by decide) ?_
                      have hP : va_P D vwCl (mw cI r i0 (nI tr) i7 i8 i9 (nI Y.length) (nI B.length) i17 i18 i19 i22 i23 a1 a2 a4 a5 a6 a10 a11 g12 a14 a16 a20 a21 a24 (cpN (preA a4 a5 a14 k t) g25 (q + 1)) a26) H := by rw [← cpN_s, preA_pos c67]; exact hP
                      have hD : va_D A (mw cI r i0 (nI tr) i7 i8 i9 (nI Y.length) (nI B.length) i17 i18 i19 i22 i23 a1 a2 a4 a5 a6 a10 a11 g12 a14 a16 a20 a21 a24 (cpN (preA a4 a5 a14 k t) g25 (q + 1)) a26) := by rw [← cpN_s, preA_pos c67]; exact hD
                      exact ih22 (q + 1) (by omega) (by omega) _ _ _ hP hD hS (lv_sub hl [2, 3, 4, 0] rfl)
                    · skip
                      refine lv_iload hx hb dX6_step_70 (lv_at hl 0 rfl) ?_
                      refine lv_goto (tgt := 76) hx hb dX6_step_72 (by decide) ?_
                      refine lv_iadd hx hb dX6_step_76 ?_
                      refine wk_iast hx hb hK hP hD hS 14 0 rfl rfl (i := q) (by omega) (by omega) dX6_step_77 (fun H locs hP hD hS => ?_)
                      have hP : va_P D vwCl (mw cI r i0 (nI tr) i7 i8 i9 (nI Y.length) (nI B.length) i17 i18 i19 i22 i23 a1 a2 a4 a5 a6 a10 a11 g12 a14 a16 a20 a21 a24 (upd (cpN (preA a4 a5 a14 k t) g25 q) q ((a4 ((5 * t) + q)) + ((a14 ((5 * k) + q)) - (a5 ((5 * t) + q))))) a26) H := hP
                      have hD : va_D A (mw cI r i0 (nI tr) i7 i8 i9 (nI Y.length) (nI B.length) i17 i18 i19 i22 i23 a1 a2 a4 a5 a6 a10 a11 g12 a14 a16 a20 a21 a24 (upd (cpN (preA a4 a5 a14 k t) g25 q) q ((a4 ((5 * t) + q)) + ((a14 ((5 * k) + q)) - (a5 ((5 * t) + q))))) a26) := hD
                      refine lv_iinc (v := (nI (q + 1))) (lv' := [(3, .int (nI (q + 1))), (4, .int ((a14 ((5 * k) + q)) - (a5 ((5 * t) + q)))), (0, .ref (r 0)), (1, .int (nI k)), (2, .int (nI t))]) hx hb dX6_step_78 hl (k := 4) rfl (by exact nI_1 _) (by decide) rfl (fun ls hl => ?_)
                      refine lv_goto (tgt := 22) hx hb dX6_step_81 (by decide) ?_
                      have hP : va_P D vwCl (mw cI r i0 (nI tr) i7 i8 i9 (nI Y.length) (nI B.length) i17 i18 i19 i22 i23 a1 a2 a4 a5 a6 a10 a11 g12 a14 a16 a20 a21 a24 (cpN (preA a4 a5 a14 k t) g25 (q + 1)) a26) H := by rw [← cpN_s, preA_neg c67]; exact hP
                      have hD : va_D A (mw cI r i0 (nI tr) i7 i8 i9 (nI Y.length) (nI B.length) i17 i18 i19 i22 i23 a1 a2 a4 a5 a6 a10 a11 g12 a14 a16 a20 a21 a24 (cpN (preA a4 a5 a14 k t) g25 (q + 1)) a26) := by rw [← cpN_s, preA_neg c67]; exact hD
                      exact ih22 (q + 1) (by omega) (by omega) _ _ _ hP hD hS (lv_sub hl [2, 3, 4, 0] rfl)
              have hP : va_P D vwCl (mw cI r i0 (nI tr) i7 i8 i9 (nI Y.length) (nI B.length) i17 i18 i19 i22 i23 a1 a2 a4 a5 a6 a10 a11 g12 a14 a16 a20 a21 a24 (cpN (preA a4 a5 a14 k t) g25 0) a26) H := by rw [cpN_0]; exact hP
              have hD : va_D A (mw cI r i0 (nI tr) i7 i8 i9 (nI Y.length) (nI B.length) i17 i18 i19 i22 i23 a1 a2 a4 a5 a6 a10 a11 g12 a14 a16 a20 a21 a24 (cpN (preA a4 a5 a14 k t) g25 0) a26) := by rw [cpN_0]; exact hD
              exact lp22 _ 0 (Nat.lt_succ_self _) (by omega) _ _ _ hP hD hS (lv_sub hl [1, 2, 3, 0] rfl)
        exact lp12 _ 0 X f12 f25 (Nat.lt_succ_self _) (by omega) hX rfl (by omega) _ _ _ hP hD hS (lv_sub hl [1, 2, 0] rfl)
  exact lp2 _ 0 X0 a12 a25 (Nat.lt_succ_self _) (by omega) hX0 rfl (by omega) _ _ _ hP hD hS (lv_sub hl [1, 0] rfl)

set_option maxHeartbeats 4000000 in
set_option maxRecDepth 100000 in
theorem c_X6_isSame (l : Launch) (D : va_G) (cI cJ cZ cA : ClassId) (r : Nat → Nat) (i0 i3 i7 i8 i9 i17 i18 i19 i22 i23 : Int32) (a1 a2 a4 a5 a6 a10 a11 a12 a14 a16 a20 a21 a24 a25 a26 : Nat → Int32) (X B : List Rw) (hX : rowsV a12 0 X) (hB : rowsV a14 0 B) (hXl : X.length ≤ 1450) (hBl : B.length ≤ 200) : Met l yX6_isSame wsX6_isSame ({ frames := 1, cells := 0, slots := 0, locals := 25 } : Room) (ro_P D (tysC cI cJ cZ cA) [.ref (r 0)] (mw cI r i0 i3 i7 i8 i9 (nI X.length) (nI B.length) i17 i18 i19 i22 i23 a1 a2 a4 a5 a6 a10 a11 a12 a14 a16 a20 a21 a24 a25 a26)) (ro_Q (bI (sameB X B))) 0 0 (fun _ => False) := by
  refine met_ro (cc := cX6_isSame) (maxL := 5) (ty := .boolean) (by decide) rfl (Nat.le_of_ble_eq_true rfl) (bI_n _) ?_
  intro p e s m args below meth c Q hx hb hml hown hts hP hK hret ls hl
  obtain ⟨H, hH9⟩ : ∃ H : Heap, H = s.heap := ⟨_, rfl⟩
  have hP : va_P D vwCl (mw cI r i0 i3 i7 i8 i9 (nI X.length) (nI B.length) i17 i18 i19 i22 i23 a1 a2 a4 a5 a6 a10 a11 a12 a14 a16 a20 a21 a24 a25 a26) H := by rw [hH9]; exact hP
  have hS : va_S (fun _ => False) s.heap H [] := by rw [hH9]; exact va_S.rf
  rw [← hH9]
  have hown : s.vm.findClass RX6 = some m.cls := hown
  have hin6 : ∀ w ∈ wsX60, w ∈ wsX6_isSame := by decide +kernel
  have fl80 := hts (.fieldLink RX6 80 "CoverRoundsModel" "roundCount" "I") (by decide +kernel)
  have fl87 := hts (.fieldLink RX6 87 "CoverRoundsModel" "beforeCount" "I") (by decide +kernel)
  have fl36 := hts (.fieldLink RX6 36 "CoverRoundsModel" "round" "[I") (by decide +kernel)
  have fl39 := hts (.fieldLink RX6 39 "CoverRoundsModel" "before" "[I") (by decide +kernel)
  have hl : lv_has ls 5 [(0, .ref (r 0))] := hl
  refine lv_aload_n hx hb dX6_isSame_0 rfl (lv_at hl 0 rfl) ?_
  refine va_get (D := D) (ci := 5) (v := .int (nI X.length)) (C := RX6) (T := TX6) (N := 27) hx hb hts hin6 hown hK hP 0 rfl rfl 13 (by decide) fl80 (fun _ h9 => h9) rfl dX6_isSame_1 ?_
  refine lv_aload_n hx hb dX6_isSame_4 rfl (lv_at hl 0 rfl) ?_
  refine va_get (D := D) (ci := 5) (v := .int (nI B.length)) (C := RX6) (T := TX6) (N := 27) hx hb hts hin6 hown hK hP 0 rfl rfl 15 (by decide) fl87 (fun _ h9 => h9) rfl dX6_isSame_5 ?_
  refine wk_icmp_ne (tgt := 15) hx hb (by omega) (by omega) dX6_isSame_8 (by decide) (fun c8 => ?_) (fun c8 => ?_)
  · skip
    refine lv_iconst (v := nI 0) hx hb dX6_isSame_15 (by decide) ?_
    refine lv_istore_n (lv' := [(1, .int (nI 0)), (0, .ref (r 0))]) hx hb dX6_isSame_16 rfl hl (by decide) rfl (fun ls hl => ?_)
    refine lv_iconst (v := nI 0) hx hb dX6_isSame_17 (by decide) ?_
    refine lv_istore_n (lv' := [(2, .int (nI 0)), (1, .int (nI 0)), (0, .ref (r 0))]) hx hb dX6_isSame_18 rfl hl (by decide) rfl (fun ls hl => ?_)
    have lp19 : ∀ (n9 : Nat) (k : Nat) (t : Bool), X.length - k < n9 → k ≤ X.length → (t = true ↔ (X.length = B.length ∧ ∀ q, q < k → ∃ j, j < B.length ∧ tpB a12 (5 * q) a14 (5 * j) = true)) → ∀ (H : Heap) (locs : List Loc) (ls : Array Slot), va_P D vwCl (mw cI r i0 i3 i7 i8 i9 (nI X.length) (nI B.length) i17 i18 i19 i22 i23 a1 a2 a4 a5 a6 a10 a11 a12 a14 a16 a20 a21 a24 a25 a26) H → va_S (fun _ => False) s.heap H locs → lv_has ls 5 [(0, .ref (r 0)), (1, .int (bI t)), (2, .int (nI k))] → W p l e ({ frames := 1, cells := 0, slots := 0, locals := 25 } : Room) s m args below meth c H locs 0 0 Q (F0 m 19 ls []) := by
      intro n9
      induction n9 with
      | zero => intro k t hm19; exact absurd hm19 (Nat.not_lt_zero _)
      | succ n9 ih19 =>
        intro k t hm19 hk hs H locs ls hP hS hl
        refine lv_iload_n hx hb dX6_isSame_19 rfl (lv_at hl 2 rfl) ?_
        refine lv_aload_n hx hb dX6_isSame_20 rfl (lv_at hl 0 rfl) ?_
        refine va_get (D := D) (ci := 5) (v := .int (nI X.length)) (C := RX6) (T := TX6) (N := 27) hx hb hts hin6 hown hK hP 0 rfl rfl 13 (by decide) fl80 (fun _ h9 => h9) rfl dX6_isSame_21 ?_
        refine wk_icmp_ge (tgt := 90) hx hb (by omega) (by omega) dX6_isSame_24 (by decide) (fun c24 => ?_) (fun c24 => ?_)
        · skip
          refine lv_iload_n hx hb dX6_isSame_90 rfl (lv_at hl 1 rfl) ?_
          exact hret _ _ _ _ _ (congrArg bI (sm_end hX hB hs hk (Or.inl c24))) dX6_isSame_91 hS
        · skip
          refine lv_iload_n hx hb dX6_isSame_27 rfl (lv_at hl 1 rfl) ?_
          refine wk_if_eqb (tgt := 90) hx hb dX6_isSame_28 (by decide) (fun c28 => ?_) (fun c28 => ?_)
          · skip
            refine lv_iload_n hx hb dX6_isSame_90 rfl (lv_at hl 1 rfl) ?_
            exact hret _ _ _ _ _ (congrArg bI (sm_end hX hB hs hk (Or.inr c28))) dX6_isSame_91 hS
          · skip
            subst c28
            refine lv_iconst (v := nI 0) hx hb dX6_isSame_31 (by decide) ?_
            refine lv_istore_n (lv' := [(3, .int (nI 0)), (0, .ref (r 0)), (1, .int (bI true)), (2, .int (nI k))]) hx hb dX6_isSame_32 rfl hl (by decide) rfl (fun ls hl => ?_)
            refine lv_iconst (v := nI 0) hx hb dX6_isSame_33 (by decide) ?_
            refine lv_istore (lv' := [(4, .int (nI 0)), (3, .int (nI 0)), (0, .ref (r 0)), (1, .int (bI true)), (2, .int (nI k))]) hx hb dX6_isSame_34 hl (by decide) rfl (fun ls hl => ?_)
            have lp36 : ∀ (n9 : Nat) (j : Nat) (d : Bool), B.length - j < n9 → j ≤ B.length → (d = true ↔ ∃ q, q < j ∧ tpB a12 (5 * k) a14 (5 * q) = true) → ∀ (H : Heap) (locs : List Loc) (ls : Array Slot), va_P D vwCl (mw cI r i0 i3 i7 i8 i9 (nI X.length) (nI B.length) i17 i18 i19 i22 i23 a1 a2 a4 a5 a6 a10 a11 a12 a14 a16 a20 a21 a24 a25 a26) H → va_S (fun _ => False) s.heap H locs → lv_has ls 5 [(0, .ref (r 0)), (1, .int (bI true)), (2, .int (nI k)), (3, .int (bI d)), (4, .int (nI j))] → W p l e ({ frames := 1, cells := 0, slots := 0, locals := 25 } : Room) s m args below meth c H locs 0 0 Q (F0 m 36 ls []) := by
              intro n9
              induction n9 with
              | zero => intro j d hm36; exact absurd hm36 (Nat.not_lt_zero _)
              | succ n9 ih36 =>
                intro j d hm36 hj hd H locs ls hP hS hl
                refine lv_iload hx hb dX6_isSame_36 (lv_at hl 4 rfl) ?_
                refine lv_aload_n hx hb dX6_isSame_38 rfl (lv_at hl 0 rfl) ?_
                refine va_get (D := D) (ci := 5) (v := .int (nI B.length)) (C := RX6) (T := TX6) (N := 27) hx hb hts hin6 hown hK hP 0 rfl rfl 15 (by decide) fl87 (fun _ h9 => h9) rfl dX6_isSame_39 ?_
                refine wk_icmp_ge (tgt := 82) hx hb (by omega) (by omega) dX6_isSame_42 (by decide) (fun c42 => ?_) (fun c42 => ?_)
                · skip
                  refine lv_iload_n hx hb dX6_isSame_82 rfl (lv_at hl 3 rfl) ?_
                  refine lv_istore_n (lv' := [(1, .int (bI d)), (0, .ref (r 0)), (2, .int (nI k)), (3, .int (bI d)), (4, .int (nI j))]) hx hb dX6_isSame_83 rfl hl (by decide) rfl (fun ls hl => ?_)
                  refine lv_iinc (v := (nI (k + 1))) (lv' := [(2, .int (nI (k + 1))), (1, .int (bI d)), (0, .ref (r 0)), (3, .int (bI d)), (4, .int (nI j))]) hx hb dX6_isSame_84 hl (k := 2) rfl (by exact nI_1 _) (by decide) rfl (fun ls hl => ?_)
                  refine lv_goto (tgt := 19) hx hb dX6_isSame_87 (by decide) ?_
                  have hjB : j = B.length := by omega
                  subst hjB
                  exact ih19 (k + 1) d (by omega) (by omega) (sm_s hs rfl hd) _ _ _ hP hS (lv_sub hl [2, 1, 0] rfl)
                · skip
                  refine lv_iload_n hx hb dX6_isSame_45 rfl (lv_at hl 3 rfl) ?_
                  refine wk_if_neb (tgt := 70) hx hb dX6_isSame_46 (by decide) (fun c46 => ?_) (fun c46 => ?_)
                  · skip
                    refine lv_iconst (v := nI 1) hx hb dX6_isSame_70 (by decide) ?_
                    refine lv_goto (tgt := 75) hx hb dX6_isSame_71 (by decide) ?_
                    refine lv_istore_n (lv' := [(3, .int (nI 1)), (0, .ref (r 0)), (1, .int (bI true)), (2, .int (nI k)), (4, .int (nI j))]) hx hb dX6_isSame_75 rfl hl (by decide) rfl (fun ls hl => ?_)
                    refine lv_iinc (v := (nI (j + 1))) (lv' := [(4, .int (nI (j + 1))), (3, .int (nI 1)), (0, .ref (r 0)), (1, .int (bI true)), (2, .int (nI k))]) hx hb dX6_isSame_76 hl (k := 4) rfl (by exact nI_1 _) (by decide) rfl (fun ls hl => ?_)
                    refine lv_goto (tgt := 36) hx hb dX6_isSame_79 (by decide) ?_
                    exact ih36 (j + 1) true (by omega) (by omega) (ex_t1 hd c46) _ _ _ hP hS (lv_sub hl [2, 3, 4, 1, 0] rfl)
                  · skip
                    refine lv_aload_n hx hb dX6_isSame_49 rfl (lv_at hl 0 rfl) ?_
                    refine va_get (D := D) (ci := 5) (v := .ref (r 12)) (C := RX6) (T := TX6) (N := 27) hx hb hts hin6 hown hK hP 0 rfl rfl 12 (by decide) fl36 (fun _ h9 => h9) rfl dX6_isSame_50 ?_
                    refine lv_iconst (v := nI 5) hx hb dX6_isSame_53 (by decide) ?_
                    refine lv_iload_n hx hb dX6_isSame_54 rfl (lv_at hl 2 rfl) ?_
                    refine wk_imul hx hb dX6_isSame_55 ?_
                    refine lv_aload_n hx hb dX6_isSame_56 rfl (lv_at hl 0 rfl) ?_
                    refine va_get (D := D) (ci := 5) (v := .ref (r 14)) (C := RX6) (T := TX6) (N := 27) hx hb hts hin6 hown hK hP 0 rfl rfl 14 (by decide) fl39 (fun _ h9 => h9) rfl dX6_isSame_57 ?_
                    refine lv_iconst (v := nI 5) hx hb dX6_isSame_60 (by decide) ?_
                    refine lv_iload hx hb dX6_isSame_61 (lv_at hl 4 rfl) ?_
                    refine wk_imul hx hb dX6_isSame_63 ?_
                    refine wk_Si (As := [.ref (r 12), .int (nI (5 * k)), .ref (r 14), .int (nI (5 * j))]) (rest := []) ⟨hx, hb, hml, hown, hts⟩ (c_X6_tops l D cI cJ cZ cA (r 12) (r 14) 7500 7500 (5 * k) (5 * j) a12 a14 (by omega) (by omega) (by omega) (by omega)) (va_cwS 4 hts gX6_isSame_X6_tops rfl rfl rfl (by decide +kernel) ⟨Nat.le_of_ble_eq_true rfl, Nat.le_of_ble_eq_true rfl⟩) hK hP [8, 9] rfl hS rfl hl.1 rfl (Nat.le_of_ble_eq_true rfl) dX6_isSame_64 ⟨Nat.zero_le _, Nat.zero_le _⟩ (fun H locs hP hS => ?_)
                    refine wk_if_eqb (tgt := 74) hx hb dX6_isSame_67 (by decide) (fun c67 => ?_) (fun c67 => ?_)
                    · skip
                      refine lv_iconst (v := nI 0) hx hb dX6_isSame_74 (by decide) ?_
                      refine lv_istore_n (lv' := [(3, .int (nI 0)), (0, .ref (r 0)), (1, .int (bI true)), (2, .int (nI k)), (4, .int (nI j))]) hx hb dX6_isSame_75 rfl hl (by decide) rfl (fun ls hl => ?_)
                      refine lv_iinc (v := (nI (j + 1))) (lv' := [(4, .int (nI (j + 1))), (3, .int (nI 0)), (0, .ref (r 0)), (1, .int (bI true)), (2, .int (nI k))]) hx hb dX6_isSame_76 hl (k := 4) rfl (by exact nI_1 _) (by decide) rfl (fun ls hl => ?_)
                      refine lv_goto (tgt := 36) hx hb dX6_isSame_79 (by decide) ?_
                      exact ih36 (j + 1) false (by omega) (by omega) (ex_f hd c46 (by rw [c67]; exact Bool.false_ne_true)) _ _ _ hP hS (lv_sub hl [2, 3, 4, 1, 0] rfl)
                    · skip
                      refine lv_iconst (v := nI 1) hx hb dX6_isSame_70 (by decide) ?_
                      refine lv_goto (tgt := 75) hx hb dX6_isSame_71 (by decide) ?_
                      refine lv_istore_n (lv' := [(3, .int (nI 1)), (0, .ref (r 0)), (1, .int (bI true)), (2, .int (nI k)), (4, .int (nI j))]) hx hb dX6_isSame_75 rfl hl (by decide) rfl (fun ls hl => ?_)
                      refine lv_iinc (v := (nI (j + 1))) (lv' := [(4, .int (nI (j + 1))), (3, .int (nI 1)), (0, .ref (r 0)), (1, .int (bI true)), (2, .int (nI k))]) hx hb dX6_isSame_76 hl (k := 4) rfl (by exact nI_1 _) (by decide) rfl (fun ls hl => ?_)
                      refine lv_goto (tgt := 36) hx hb dX6_isSame_79 (by decide) ?_
                      exact ih36 (j + 1) true (by omega) (by omega) (ex_t2 c67) _ _ _ hP hS (lv_sub hl [2, 3, 4, 1, 0] rfl)
            exact lp36 _ 0 false (Nat.lt_succ_self _) (by omega) ex_0 _ _ _ hP hS (lv_sub hl [2, 3, 4, 1, 0] rfl)
    exact lp19 _ 0 false (Nat.lt_succ_self _) (by omega) ⟨fun h => by (cases h), fun h => absurd h.1 c8⟩ _ _ _ hP hS (lv_sub hl [2, 1, 0] rfl)
  · skip
    refine lv_iconst (v := nI 1) hx hb dX6_isSame_11 (by decide) ?_
    refine lv_goto (tgt := 16) hx hb dX6_isSame_12 (by decide) ?_
    refine lv_istore_n (lv' := [(1, .int (nI 1)), (0, .ref (r 0))]) hx hb dX6_isSame_16 rfl hl (by decide) rfl (fun ls hl => ?_)
    refine lv_iconst (v := nI 0) hx hb dX6_isSame_17 (by decide) ?_
    refine lv_istore_n (lv' := [(2, .int (nI 0)), (1, .int (nI 1)), (0, .ref (r 0))]) hx hb dX6_isSame_18 rfl hl (by decide) rfl (fun ls hl => ?_)
    have lp19 : ∀ (n9 : Nat) (k : Nat) (t : Bool), X.length - k < n9 → k ≤ X.length → (t = true ↔ (X.length = B.length ∧ ∀ q, q < k → ∃ j, j < B.length ∧ tpB a12 (5 * q) a14 (5 * j) = true)) → ∀ (H : Heap) (locs : List Loc) (ls : Array Slot), va_P D vwCl (mw cI r i0 i3 i7 i8 i9 (nI X.length) (nI B.length) i17 i18 i19 i22 i23 a1 a2 a4 a5 a6 a10 a11 a12 a14 a16 a20 a21 a24 a25 a26) H → va_S (fun _ => False) s.heap H locs → lv_has ls 5 [(0, .ref (r 0)), (1, .int (bI t)), (2, .int (nI k))] → W p l e ({ frames := 1, cells := 0, slots := 0, locals := 25 } : Room) s m args below meth c H locs 0 0 Q (F0 m 19 ls []) := by
      intro n9
      induction n9 with
      | zero => intro k t hm19; exact absurd hm19 (Nat.not_lt_zero _)
      | succ n9 ih19 =>
        intro k t hm19 hk hs H locs ls hP hS hl
        refine lv_iload_n hx hb dX6_isSame_19 rfl (lv_at hl 2 rfl) ?_
        refine lv_aload_n hx hb dX6_isSame_20 rfl (lv_at hl 0 rfl) ?_
        refine va_get (D := D) (ci := 5) (v := .int (nI X.length)) (C := RX6) (T := TX6) (N := 27) hx hb hts hin6 hown hK hP 0 rfl rfl 13 (by decide) fl80 (fun _ h9 => h9) rfl dX6_isSame_21 ?_
        refine wk_icmp_ge (tgt := 90) hx hb (by omega) (by omega) dX6_isSame_24 (by decide) (fun c24 => ?_) (fun c24 => ?_)
        · skip
          refine lv_iload_n hx hb dX6_isSame_90 rfl (lv_at hl 1 rfl) ?_
          exact hret _ _ _ _ _ (congrArg bI (sm_end hX hB hs hk (Or.inl c24))) dX6_isSame_91 hS
        · skip
          refine lv_iload_n hx hb dX6_isSame_27 rfl (lv_at hl 1 rfl) ?_
          refine wk_if_eqb (tgt := 90) hx hb dX6_isSame_28 (by decide) (fun c28 => ?_) (fun c28 => ?_)
          · skip
            refine lv_iload_n hx hb dX6_isSame_90 rfl (lv_at hl 1 rfl) ?_
            exact hret _ _ _ _ _ (congrArg bI (sm_end hX hB hs hk (Or.inr c28))) dX6_isSame_91 hS
          · skip
            subst c28
            refine lv_iconst (v := nI 0) hx hb dX6_isSame_31 (by decide) ?_
            refine lv_istore_n (lv' := [(3, .int (nI 0)), (0, .ref (r 0)), (1, .int (bI true)), (2, .int (nI k))]) hx hb dX6_isSame_32 rfl hl (by decide) rfl (fun ls hl => ?_)
            refine lv_iconst (v := nI 0) hx hb dX6_isSame_33 (by decide) ?_
            refine lv_istore (lv' := [(4, .int (nI 0)), (3, .int (nI 0)), (0, .ref (r 0)), (1, .int (bI true)), (2, .int (nI k))]) hx hb dX6_isSame_34 hl (by decide) rfl (fun ls hl => ?_)
            have lp36 : ∀ (n9 : Nat) (j : Nat) (d : Bool), B.length - j < n9 → j ≤ B.length → (d = true ↔ ∃ q, q < j ∧ tpB a12 (5 * k) a14 (5 * q) = true) → ∀ (H : Heap) (locs : List Loc) (ls : Array Slot), va_P D vwCl (mw cI r i0 i3 i7 i8 i9 (nI X.length) (nI B.length) i17 i18 i19 i22 i23 a1 a2 a4 a5 a6 a10 a11 a12 a14 a16 a20 a21 a24 a25 a26) H → va_S (fun _ => False) s.heap H locs → lv_has ls 5 [(0, .ref (r 0)), (1, .int (bI true)), (2, .int (nI k)), (3, .int (bI d)), (4, .int (nI j))] → W p l e ({ frames := 1, cells := 0, slots := 0, locals := 25 } : Room) s m args below meth c H locs 0 0 Q (F0 m 36 ls []) := by
              intro n9
              induction n9 with
              | zero => intro j d hm36; exact absurd hm36 (Nat.not_lt_zero _)
              | succ n9 ih36 =>
                intro j d hm36 hj hd H locs ls hP hS hl
                refine lv_iload hx hb dX6_isSame_36 (lv_at hl 4 rfl) ?_
                refine lv_aload_n hx hb dX6_isSame_38 rfl (lv_at hl 0 rfl) ?_
                refine va_get (D := D) (ci := 5) (v := .int (nI B.length)) (C := RX6) (T := TX6) (N := 27) hx hb hts hin6 hown hK hP 0 rfl rfl 15 (by decide) fl87 (fun _ h9 => h9) rfl dX6_isSame_39 ?_
                refine wk_icmp_ge (tgt := 82) hx hb (by omega) (by omega) dX6_isSame_42 (by decide) (fun c42 => ?_) (fun c42 => ?_)
                · skip
                  refine lv_iload_n hx hb dX6_isSame_82 rfl (lv_at hl 3 rfl) ?_
                  refine lv_istore_n (lv' := [(1, .int (bI d)), (0, .ref (r 0)), (2, .int (nI k)), (3, .int (bI d)), (4, .int (nI j))]) hx hb dX6_isSame_83 rfl hl (by decide) rfl (fun ls hl => ?_)
                  refine lv_iinc (v := (nI (k + 1))) (lv' := [(2, .int (nI (k + 1))), (1, .int (bI d)), (0, .ref (r 0)), (3, .int (bI d)), (4, .int (nI j))]) hx hb dX6_isSame_84 hl (k := 2) rfl (by exact nI_1 _) (by decide) rfl (fun ls hl => ?_)
                  refine lv_goto (tgt := 19) hx hb dX6_isSame_87 (by decide) ?_
                  have hjB : j = B.length := by omega
                  subst hjB
                  exact ih19 (k + 1) d (by omega) (by omega) (sm_s hs rfl hd) _ _ _ hP hS (lv_sub hl [2, 1, 0] rfl)
                · skip
                  refine lv_iload_n hx hb dX6_isSame_45 rfl (lv_at hl 3 rfl) ?_
                  refine wk_if_neb (tgt := 70) hx hb dX6_isSame_46 (by decide) (fun c46 => ?_) (fun c46 => ?_)
                  · skip
                    refine lv_iconst (v := nI 1) hx hb dX6_isSame_70 (by decide) ?_
                    refine lv_goto (tgt := 75) hx hb dX6_isSame_71 (by decide) ?_
                    refine lv_istore_n (lv' := [(3, .int (nI 1)), (0, .ref (r 0)), (1, .int (bI true)), (2, .int (nI k)), (4, .int (nI j))]) hx hb dX6_isSame_75 rfl hl (by decide) rfl (fun ls hl => ?_)
                    refine lv_iinc (v := (nI (j + 1))) (lv' := [(4, .int (nI (j + 1))), (3, .int (nI 1)), (0, .ref (r 0)), (1, .int (bI true)), (2, .int (nI k))]) hx hb dX6_isSame_76 hl (k := 4) rfl (by exact nI_1 _) (by decide) rfl (fun ls hl => ?_)
                    refine lv_goto (tgt := 36) hx hb dX6_isSame_79 (by decide) ?_
                    exact ih36 (j + 1) true (by omega) (by omega) (ex_t1 hd c46) _ _ _ hP hS (lv_sub hl [2, 3, 4, 1, 0] rfl)
                  · skip
                    refine lv_aload_n hx hb dX6_isSame_49 rfl (lv_at hl 0 rfl) ?_
                    refine va_get (D := D) (ci := 5) (v := .ref (r 12)) (C := RX6) (T := TX6) (N := 27) hx hb hts hin6 hown hK hP 0 rfl rfl 12 (by decide) fl36 (fun _ h9 => h9) rfl dX6_isSame_50 ?_
                    refine lv_iconst (v := nI 5) hx hb dX6_isSame_53 (by decide) ?_
                    refine lv_iload_n hx hb dX6_isSame_54 rfl (lv_at hl 2 rfl) ?_
                    refine wk_imul hx hb dX6_isSame_55 ?_
                    refine lv_aload_n hx hb dX6_isSame_56 rfl (lv_at hl 0 rfl) ?_
                    refine va_get (D := D) (ci := 5) (v := .ref (r 14)) (C := RX6) (T := TX6) (N := 27) hx hb hts hin6 hown hK hP 0 rfl rfl 14 (by decide) fl39 (fun _ h9 => h9) rfl dX6_isSame_57 ?_
                    refine lv_iconst (v := nI 5) hx hb dX6_isSame_60 (by decide) ?_
                    refine lv_iload hx hb dX6_isSame_61 (lv_at hl 4 rfl) ?_
                    refine wk_imul hx hb dX6_isSame_63 ?_
                    refine wk_Si (As := [.ref (r 12), .int (nI (5 * k)), .ref (r 14), .int (nI (5 * j))]) (rest := []) ⟨hx, hb, hml, hown, hts⟩ (c_X6_tops l D cI cJ cZ cA (r 12) (r 14) 7500 7500 (5 * k) (5 * j) a12 a14 (by omega) (by omega) (by omega) (by omega)) (va_cwS 4 hts gX6_isSame_X6_tops rfl rfl rfl (by decide +kernel) ⟨Nat.le_of_ble_eq_true rfl, Nat.le_of_ble_eq_true rfl⟩) hK hP [8, 9] rfl hS rfl hl.1 rfl (Nat.le_of_ble_eq_true rfl) dX6_isSame_64 ⟨Nat.zero_le _, Nat.zero_le _⟩ (fun H locs hP hS => ?_)
                    refine wk_if_eqb (tgt := 74) hx hb dX6_isSame_67 (by decide) (fun c67 => ?_) (fun c67 => ?_)
                    · skip
                      refine lv_iconst (v := nI 0) hx hb dX6_isSame_74 (by decide) ?_
                      refine lv_istore_n (lv' := [(3, .int (nI 0)), (0, .ref (r 0)), (1, .int (bI true)), (2, .int (nI k)), (4, .int (nI j))]) hx hb dX6_isSame_75 rfl hl (by decide) rfl (fun ls hl => ?_)
                      refine lv_iinc (v := (nI (j + 1))) (lv' := [(4, .int (nI (j + 1))), (3, .int (nI 0)), (0, .ref (r 0)), (1, .int (bI true)), (2, .int (nI k))]) hx hb dX6_isSame_76 hl (k := 4) rfl (by exact nI_1 _) (by decide) rfl (fun ls hl => ?_)
                      refine lv_goto (tgt := 36) hx hb dX6_isSame_79 (by decide) ?_
                      exact ih36 (j + 1) false (by omega) (by omega) (ex_f hd c46 (by rw [c67]; exact Bool.false_ne_true)) _ _ _ hP hS (lv_sub hl [2, 3, 4, 1, 0] rfl)
                    · skip
                      refine lv_iconst (v := nI 1) hx hb dX6_isSame_70 (by decide) ?_
                      refine lv_goto (tgt := 75) hx hb dX6_isSame_71 (by decide) ?_
                      refine lv_istore_n (lv' := [(3, .int (nI 1)), (0, .ref (r 0)), (1, .int (bI true)), (2, .int (nI k)), (4, .int (nI j))]) hx hb dX6_isSame_75 rfl hl (by decide) rfl (fun ls hl => ?_)
                      refine lv_iinc (v := (nI (j + 1))) (lv' := [(4, .int (nI (j + 1))), (3, .int (nI 1)), (0, .ref (r 0)), (1, .int (bI true)), (2, .int (nI k))]) hx hb dX6_isSame_76 hl (k := 4) rfl (by exact nI_1 _) (by decide) rfl (fun ls hl => ?_)
                      refine lv_goto (tgt := 36) hx hb dX6_isSame_79 (by decide) ?_
                      exact ih36 (j + 1) true (by omega) (by omega) (ex_t2 c67) _ _ _ hP hS (lv_sub hl [2, 3, 4, 1, 0] rfl)
            exact lp36 _ 0 false (Nat.lt_succ_self _) (by omega) ex_0 _ _ _ hP hS (lv_sub hl [2, 3, 4, 1, 0] rfl)
    exact lp19 _ 0 true (Nat.lt_succ_self _) (by omega) ⟨fun _ => ⟨c8, fun q hq => absurd hq (Nat.not_lt_zero q)⟩, fun _ => rfl⟩ _ _ _ hP hS (lv_sub hl [2, 1, 0] rfl)

set_option maxHeartbeats 4000000 in
set_option maxRecDepth 100000 in
theorem c_X6_leads (l : Launch) (D : va_G) (cI cJ cZ cA : ClassId) (r : Nat → Nat) (i0 i7 i8 i9 i13 i15 i17 i18 i19 i22 i23 : Int32) (a1 a2 a4 a5 a6 a10 a11 a12 a14 a16 a20 a21 a24 a25 a26 : Nat → Int32) (sz tr t y : Nat) (K : List Rw) (htr : tr ≤ 6) (ht6 : t ≤ 6) (hy : y ≤ 60) (hK9 : rowsV a11 (1000 * y) K) (hKl : K.length ≤ 200) (hc9 : a10 y = nI K.length) : Met l yX6_leads wsX6_leads ({ frames := 2, cells := 0, slots := 0, locals := 49 } : Room) (wr_P D (tysC cI cJ cZ cA) [.ref (r 0), .ref (r 26), .int (nI t), .int (nI y)] (mw cI r i0 (nI tr) i7 i8 i9 i13 i15 i17 i18 i19 i22 i23 a1 a2 a4 a5 a6 a10 a11 a12 a14 a16 a20 a21 a24 a25 a26) sz) (wr_Qi D (S := Nat → Int32) (mw cI r i0 (nI tr) i7 i8 i9 i13 i15 i17 i18 i19 i22 i23 a1 a2 a4 a5 a6 a10 a11 a12 a14 a16 a20 a21 a24 a25 a26) sz (fun r9 u => r9 = bI (leadsB tr a4 a5 a26 K t)) (fun u => (mw cI r i0 (nI tr) i7 i8 i9 i13 i15 i17 i18 i19 i22 i23 a1 a2 a4 a5 a6 a10 a11 a12 a14 a16 a20 a21 a24 u a26))) 0 0 (va_A (mw cI r i0 (nI tr) i7 i8 i9 i13 i15 i17 i18 i19 i22 i23 a1 a2 a4 a5 a6 a10 a11 a12 a14 a16 a20 a21 a24 a25 a26) sz) := by
  refine met_wi (cc := cX6_leads) (maxL := 5) (ty := .boolean) (by decide) rfl (Nat.le_of_ble_eq_true rfl) ?_
  intro p e s m args below meth c Q A hx hb hml hown hts hP hK hD hA hret ls hl
  obtain ⟨H, hH9⟩ : ∃ H : Heap, H = s.heap := ⟨_, rfl⟩
  have hP : va_P D vwCl (mw cI r i0 (nI tr) i7 i8 i9 i13 i15 i17 i18 i19 i22 i23 a1 a2 a4 a5 a6 a10 a11 a12 a14 a16 a20 a21 a24 a25 a26) H := by rw [hH9]; exact hP
  have hS : va_S A s.heap H [] := by rw [hH9]; exact va_S.rf
  rw [← hH9]
  have hown : s.vm.findClass RX6 = some m.cls := hown
  have hin6 : ∀ w ∈ wsX60, w ∈ wsX6_leads := by decide +kernel
  have fl54 := hts (.fieldLink RX6 54 "CoverRoundsModel" "work" "[I") (by decide +kernel)
  have fl19 := hts (.fieldLink RX6 19 "CoverRoundsModel" "gives" "[I") (by decide +kernel)
  have fl16 := hts (.fieldLink RX6 16 "CoverRoundsModel" "takes" "[I") (by decide +kernel)
  have hl : lv_has ls 5 [(0, .ref (r 0)), (1, .ref (r 26)), (2, .int (nI t)), (3, .int (nI y))] := hl
  refine lv_aload_n hx hb dX6_leads_0 rfl (lv_at hl 0 rfl) ?_
  refine lv_aload_n hx hb dX6_leads_1 rfl (lv_at hl 1 rfl) ?_
  refine lv_iconst (v := nI 0) hx hb dX6_leads_2 (by decide) ?_
  refine lv_iload_n hx hb dX6_leads_3 rfl (lv_at hl 2 rfl) ?_
  refine wk_Vi (As := [.ref (r 26), .int (nI 0), .int (nI t)]) (rest := []) ⟨hx, hb, hml, hown, hts⟩ (c_X6_canFire l D cI cJ cZ cA r i0 i7 i8 i9 i13 i15 i17 i18 i19 i22 i23 a1 a2 a4 a5 a6 a10 a11 a12 a14 a16 a20 a21 a24 a25 a26 tr (r 26) 5 0 a26 (nI t) (by omega) (by omega) (by omega)) (cwV 3 hts gX6_leads_X6_canFire rfl rfl rfl (by decide +kernel) ⟨Nat.le_of_ble_eq_true rfl, Nat.le_of_ble_eq_true rfl⟩) hK hP [0, 1, 2, 3, 4, 5, 6, 7, 8, 9, 10, 11, 12, 13, 14, 15, 15] rfl 0 5 rfl rfl hS rfl hl.1 rfl (Nat.le_of_ble_eq_true rfl) dX6_leads_4 ⟨Nat.zero_le _, Nat.zero_le _⟩ (fun H locs hP hS => ?_)
  refine wk_if_neb (tgt := 12) hx hb dX6_leads_7 (by decide) (fun c7 => ?_) (fun c7 => ?_)
  · skip
    have htt : t < tr := by
      have hc9 := c7
      unfold canM at hc9
      rw [Bool.and_eq_true] at hc9
      obtain ⟨j, hj, e⟩ := inB_nI (by omega) hc9.1
      have := (nI_eq (by omega) (by omega)).mp e
      omega
    refine lv_iconst (v := nI 0) hx hb dX6_leads_12 (by decide) ?_
    refine lv_istore (lv' := [(4, .int (nI 0)), (0, .ref (r 0)), (1, .ref (r 26)), (2, .int (nI t)), (3, .int (nI y))]) hx hb dX6_leads_13 hl (by decide) rfl (fun ls hl => ?_)
    have lp15 : ∀ (n9 : Nat) (q : Nat), 5 - q < n9 → q ≤ 5 → ∀ (H : Heap) (locs : List Loc) (ls : Array Slot), va_P D vwCl (mw cI r i0 (nI tr) i7 i8 i9 i13 i15 i17 i18 i19 i22 i23 a1 a2 a4 a5 a6 a10 a11 a12 a14 a16 a20 a21 a24 (cpN (fiW a4 a5 a26 t) a25 q) a26) H → va_D A (mw cI r i0 (nI tr) i7 i8 i9 i13 i15 i17 i18 i19 i22 i23 a1 a2 a4 a5 a6 a10 a11 a12 a14 a16 a20 a21 a24 (cpN (fiW a4 a5 a26 t) a25 q) a26) → va_S A s.heap H locs → lv_has ls 5 [(0, .ref (r 0)), (1, .ref (r 26)), (2, .int (nI t)), (3, .int (nI y)), (4, .int (nI q))] → W p l e ({ frames := 2, cells := 0, slots := 0, locals := 49 } : Room) s m args below meth c H locs 0 0 Q (F0 m 15 ls []) := by
      intro n9
      induction n9 with
      | zero => intro q hm15; exact absurd hm15 (Nat.not_lt_zero _)
      | succ n9 ih15 =>
        intro q hm15 hq H locs ls hP hD hS hl
        refine lv_iload hx hb dX6_leads_15 (lv_at hl 4 rfl) ?_
        refine lv_iconst (v := nI 5) hx hb dX6_leads_17 (by decide) ?_
        refine wk_icmp_ge (tgt := 62) hx hb (by omega) (by omega) dX6_leads_18 (by decide) (fun c18 => ?_) (fun c18 => ?_)
        · skip
          have hq9 : q = 5 := by omega
          subst hq9
          refine lv_aload_n hx hb dX6_leads_62 rfl (lv_at hl 0 rfl) ?_
          refine lv_aload_n hx hb dX6_leads_63 rfl (lv_at hl 0 rfl) ?_
          refine va_get (D := D) (ci := 5) (v := .ref (r 25)) (C := RX6) (T := TX6) (N := 27) hx hb hts hin6 hown hK hP 0 rfl rfl 25 (by decide) fl54 (fun _ h9 => h9) rfl dX6_leads_64 ?_
          refine lv_iload_n hx hb dX6_leads_67 rfl (lv_at hl 3 rfl) ?_
          refine wk_Vi (As := [.ref (r 25), .int (nI y)]) (rest := []) ⟨hx, hb, hml, hown, hts⟩ (c_X6_isInRound l D cI cJ cZ cA r i0 (nI tr) i7 i8 i9 i13 i15 i17 i18 i19 i22 i23 a1 a2 a4 a5 a6 a10 a11 a12 a14 a16 a20 a21 a24 (cpN (fiW a4 a5 a26 t) a25 5) a26 (r 25) 5 y (cpN (fiW a4 a5 a26 t) a25 5) K (by omega) (by omega) (by omega) hK9 hKl hc9) (cwV 2 hts gX6_leads_X6_isInRound rfl rfl rfl (by decide +kernel) ⟨Nat.le_of_ble_eq_true rfl, Nat.le_of_ble_eq_true rfl⟩) hK hP [0, 1, 2, 3, 4, 5, 6, 7, 8, 9, 10, 11, 12, 13, 14, 15, 14] rfl 0 5 rfl rfl hS rfl hl.1 rfl (Nat.le_of_ble_eq_true rfl) dX6_leads_68 ⟨Nat.zero_le _, Nat.zero_le _⟩ (fun H locs hP hS => ?_)
          exact hret _ _ _ _ _ _ _ _ (bI_n _) (congrArg bI (by rw [any_cg (g := fiW a4 a5 a26 t) (fun q hq => cpN_lt hq)]; simp [leadsB, c7])) hP hD dX6_leads_71 hS (Nat.zero_le _) (Nat.zero_le _)
        · skip
          refine lv_aload_n hx hb dX6_leads_21 rfl (lv_at hl 0 rfl) ?_
          refine va_get (D := D) (ci := 5) (v := .ref (r 25)) (C := RX6) (T := TX6) (N := 27) hx hb hts hin6 hown hK hP 0 rfl rfl 25 (by decide) fl54 (fun _ h9 => h9) rfl dX6_leads_22 ?_
          refine lv_iload hx hb dX6_leads_25 (lv_at hl 4 rfl) ?_
          refine lv_aload_n hx hb dX6_leads_27 rfl (lv_at hl 1 rfl) ?_
          refine lv_iload hx hb dX6_leads_28 (lv_at hl 4 rfl) ?_
          refine wk_iald hx hb hK hP 15 0 rfl rfl (i := q) (by omega) (by omega) dX6_leads_30 ?_
          refine lv_aload_n hx hb dX6_leads_31 rfl (lv_at hl 0 rfl) ?_
          refine va_get (D := D) (ci := 5) (v := .ref (r 5)) (C := RX6) (T := TX6) (N := 27) hx hb hts hin6 hown hK hP 0 rfl rfl 5 (by decide) fl19 (fun _ h9 => h9) rfl dX6_leads_32 ?_
          refine lv_iconst (v := nI 5) hx hb dX6_leads_35 (by decide) ?_
          refine lv_iload_n hx hb dX6_leads_36 rfl (lv_at hl 2 rfl) ?_
          refine wk_imul hx hb dX6_leads_37 ?_
          refine lv_iload hx hb dX6_leads_38 (lv_at hl 4 rfl) ?_
          refine wk_iadd hx hb dX6_leads_40 ?_
          refine wk_iald hx hb hK hP 4 0 rfl rfl (i := (5 * t) + q) (by omega) (by omega) dX6_leads_41 ?_
          refine lv_iadd hx hb dX6_leads_42 ?_
          refine lv_aload_n hx hb dX6_leads_43 rfl (lv_at hl 0 rfl) ?_
          refine va_get (D := D) (ci := 5) (v := .ref (r 4)) (C := RX6) (T := TX6) (N := 27) hx hb hts hin6 hown hK hP 0 rfl rfl 4 (by decide) fl16 (fun _ h9 => h9) rfl dX6_leads_44 ?_
          refine lv_iconst (v := nI 5) hx hb dX6_leads_47 (by decide) ?_
          refine lv_iload_n hx hb dX6_leads_48 rfl (lv_at hl 2 rfl) ?_
          refine wk_imul hx hb dX6_leads_49 ?_
          refine lv_iload hx hb dX6_leads_50 (lv_at hl 4 rfl) ?_
          refine wk_iadd hx hb dX6_leads_52 ?_
          refine wk_iald hx hb hK hP 3 0 rfl rfl (i := (5 * t) + q) (by omega) (by omega) dX6_leads_53 ?_
          refine lv_isub hx hb dX6_leads_54 ?_
          refine wk_iast hx hb hK hP hD hS 14 0 rfl rfl (i := q) (by omega) (by omega) dX6_leads_55 (fun H locs hP hD hS => ?_)
          have hP : va_P D vwCl (mw cI r i0 (nI tr) i7 i8 i9 i13 i15 i17 i18 i19 i22 i23 a1 a2 a4 a5 a6 a10 a11 a12 a14 a16 a20 a21 a24 (upd (cpN (fiW a4 a5 a26 t) a25 q) q (((a26 q) + (a5 ((5 * t) + q))) - (a4 ((5 * t) + q)))) a26) H := hP
          have hD : va_D A (mw cI r i0 (nI tr) i7 i8 i9 i13 i15 i17 i18 i19 i22 i23 a1 a2 a4 a5 a6 a10 a11 a12 a14 a16 a20 a21 a24 (upd (cpN (fiW a4 a5 a26 t) a25 q) q (((a26 q) + (a5 ((5 * t) + q))) - (a4 ((5 * t) + q)))) a26) := hD
          refine lv_iinc (v := (nI (q + 1))) (lv' := [(4, .int (nI (q + 1))), (0, .ref (r 0)), (1, .ref (r 26)), (2, .int (nI t)), (3, .int (nI y))]) hx hb dX6_leads_56 hl (k := 4) rfl (by exact nI_1 _) (by decide) rfl (fun ls hl => ?_)
          refine lv_goto (tgt := 15) hx hb dX6_leads_59 (by decide) ?_
          have hP : va_P D vwCl (mw cI r i0 (nI tr) i7 i8 i9 i13 i15 i17 i18 i19 i22 i23 a1 a2 a4 a5 a6 a10 a11 a12 a14 a16 a20 a21 a24 (cpN (fiW a4 a5 a26 t) a25 (q + 1)) a26) H := by rw [← cpN_s]; exact hP
          have hD : va_D A (mw cI r i0 (nI tr) i7 i8 i9 i13 i15 i17 i18 i19 i22 i23 a1 a2 a4 a5 a6 a10 a11 a12 a14 a16 a20 a21 a24 (cpN (fiW a4 a5 a26 t) a25 (q + 1)) a26) := by rw [← cpN_s]; exact hD
          exact ih15 (q + 1) (by omega) (by omega) _ _ _ hP hD hS (lv_sub hl [1, 2, 3, 4, 0] rfl)
    have hP : va_P D vwCl (mw cI r i0 (nI tr) i7 i8 i9 i13 i15 i17 i18 i19 i22 i23 a1 a2 a4 a5 a6 a10 a11 a12 a14 a16 a20 a21 a24 (cpN (fiW a4 a5 a26 t) a25 0) a26) H := by rw [cpN_0]; exact hP
    have hD : va_D A (mw cI r i0 (nI tr) i7 i8 i9 i13 i15 i17 i18 i19 i22 i23 a1 a2 a4 a5 a6 a10 a11 a12 a14 a16 a20 a21 a24 (cpN (fiW a4 a5 a26 t) a25 0) a26) := by rw [cpN_0]; exact hD
    exact lp15 _ 0 (Nat.lt_succ_self _) (by omega) _ _ _ hP hD hS (lv_sub hl [1, 2, 3, 4, 0] rfl)
  · skip
    refine lv_iconst (v := nI 0) hx hb dX6_leads_10 (by decide) ?_
    exact hret _ a25 _ _ _ _ _ _ rfl (bI_F (by simp [leadsB, c7])) hP hD dX6_leads_11 hS (Nat.zero_le _) (Nat.zero_le _)
